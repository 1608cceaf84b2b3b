/-! from the cases: each public method, with the sheets' step, keeps the world; the sheets answer what it answers -/
theorem K_in {c1 c2 rr : Int32} {Y2 X' : gM} (h : (if Y2 43 0 46 = c1 then (if c1 = (0 : Int32) then (if Y2 81 0 0 = c2 then some ((0 : Int32), Y2) else none) else some ((0 : Int32), Y2)) else none) = some (rr, X')) : X' = Y2 ∧ Y2 43 0 46 = c1 ∧ (c1 = 0 → Y2 81 0 0 = c2) := by
  by_cases h1 : Y2 43 0 46 = c1
  · rw [if_pos h1] at h
    by_cases h2 : c1 = 0
    · rw [if_pos h2] at h
      by_cases h3 : Y2 81 0 0 = c2
      · rw [if_pos h3] at h
        cases h
        exact ⟨rfl, h1, fun _ => h3⟩
      · rw [if_neg h3] at h; cases h
    · rw [if_neg h2] at h
      cases h
      exact ⟨rfl, h1, fun q => absurd q h2⟩
  · rw [if_neg h1] at h; cases h
theorem K_inb {c1 c2 rr : Int32} {Y2 X' : gM} (h : (if Y2 43 0 46 = c1 then (if c1 = (0 : Int32) then (if Y2 81 0 0 = (if c2 = (0 : Int32) then (0 : Int32) else (1 : Int32)) then some ((0 : Int32), Y2) else none) else some ((0 : Int32), Y2)) else none) = some (rr, X')) : X' = Y2 ∧ Y2 43 0 46 = c1 ∧ (c1 = 0 → Y2 81 0 0 = (if c2 = (0 : Int32) then (0 : Int32) else (1 : Int32))) := by
  by_cases h1 : Y2 43 0 46 = c1
  · rw [if_pos h1] at h
    by_cases h2 : c1 = 0
    · rw [if_pos h2] at h
      by_cases h3 : Y2 81 0 0 = (if c2 = (0 : Int32) then (0 : Int32) else (1 : Int32))
      · rw [if_pos h3] at h
        cases h
        exact ⟨rfl, h1, fun _ => h3⟩
      · rw [if_neg h3] at h; cases h
    · rw [if_neg h2] at h
      cases h
      exact ⟨rfl, h1, fun q => absurd q h2⟩
  · rw [if_neg h1] at h; cases h
theorem K_in0 {c1 rr : Int32} {Y2 X' : gM} (h : (if Y2 43 0 46 = c1 then (some ((0 : Int32), Y2)) else none) = some (rr, X')) : X' = Y2 ∧ Y2 43 0 46 = c1 := by
  by_cases h1 : Y2 43 0 46 = c1
  · rw [if_pos h1] at h
    cases h
    exact ⟨rfl, h1⟩
  · rw [if_neg h1] at h; cases h
theorem bool01 {p : Int32} (h : p = 0 ∨ p = 1) : (if p = (0 : Int32) then (0 : Int32) else (1 : Int32)) = p := by
  rcases h with rfl | rfl <;> rfl
def k81 (k : Nat) : Bool := decide (k ≠ 81)

theorem pk_leaf {NL : List (Nat × Nat)} {N : Nat} {X : gM} (hN : 1000000 ≤ N) (h : gJ NL X) (p1 : Int32) (p2 : Int32) (p3 : Int32) (p4 : Int32) (p5 : Int32)  : ∃ (nw : List (Nat × Nat)) (k : Nat) (r r2 : Int32) (X1 X2 : gM), gFr NL nw ∧ X9_leaf (gal NL) N nw p1 p2 p3 p4 p5 X = some (k, r, X1) ∧ X10_leaf (gal NL) N p1 p2 p3 p4 p5 (gst k r X1) = some (r2, X2) ∧ P_leaf (gal NL) N nw p1 p2 p3 p4 p5 X = some (k, r, X2) ∧ gJ (NL ++ nw) X2 ∧ (k = 0 → r = r2 ∧ X2 43 0 46 = 0) ∧ (k ≠ 0 → X2 43 0 46 ≠ 0 ∧ nw = [] ∧ (k = 1 ∨ k = 2 ∨ k = 3)) := by
  obtain ⟨nw, rr, X', hfr, hK, hJ⟩ := case0 (al := gal NL) hN p1 p2 p3 p4 p5 0 h
  unfold K0 at hK
  obtain ⟨c1, Y1, hL, hK⟩ := b2_in hK
  obtain ⟨c2, Y2, h10, hK⟩ := b2_in hK
  rw [thr_eq, bind2_some] at hK
  obtain ⟨rfl, q1, q2⟩ := K_in hK
  unfold L_leaf at hL
  obtain ⟨k, r, X1, h9, hL⟩ := b3_in hL
  by_cases e0 : k = 0
  · subst e0
    have hL := g_ip rfl hL
    obtain ⟨rfl, rfl⟩ := g_s1 hL
    have hg : gst 0 r X1 = mset X1 81 0 0 r := if_pos rfl
    rw [← hg] at h10
    refine ⟨nw, 0, r, c2, X1, X', hfr, h9, h10, ?_, hJ, fun _ => ⟨?_, q1⟩, fun q => absurd rfl q⟩
    · unfold P_leaf
      rw [h9, bind3_some, h10, bind2_some]
    · have hfm : frm k81 (gst 0 r X1) X' := fr_X10_leaf (S := k81) rfl rfl rfl rfl rfl rfl rfl frm_rfl _ h10
      have e81 : X' 81 0 0 = r := by rw [hfm 81 rfl, hg, mset_same]
      rw [← e81]
      exact q2 rfl
  · have hL := g_in e0 hL
    by_cases e1 : k = 1
    · subst e1
      have hL := g_ip rfl hL
      obtain ⟨hnw, hL⟩ := eqn_in hL
      obtain ⟨rfl, rfl⟩ := g_s1 hL
      rw [show X1 = gst 1 r X1 from (if_neg (by decide)).symm] at h10
      refine ⟨nw, 1, r, c2, X1, X', hfr, h9, h10, ?_, hJ, fun q => absurd q (by decide), fun _ => ⟨fun q => absurd (q1.symm.trans q) (by decide), hnw, Or.inl rfl⟩⟩
      unfold P_leaf
      rw [h9, bind3_some, h10, bind2_some]
    · have hL := g_in e1 hL
      by_cases e2 : k = 2
      · subst e2
        have hL := g_ip rfl hL
        obtain ⟨hnw, hL⟩ := eqn_in hL
        obtain ⟨rfl, rfl⟩ := g_s1 hL
        rw [show X1 = gst 2 r X1 from (if_neg (by decide)).symm] at h10
        refine ⟨nw, 2, r, c2, X1, X', hfr, h9, h10, ?_, hJ, fun q => absurd q (by decide), fun _ => ⟨fun q => absurd (q1.symm.trans q) (by decide), hnw, Or.inr (Or.inl rfl)⟩⟩
        unfold P_leaf
        rw [h9, bind3_some, h10, bind2_some]
      · have hL := g_in e2 hL
        by_cases e3 : k = 3
        · subst e3
          have hL := g_ip rfl hL
          obtain ⟨hnw, hL⟩ := eqn_in hL
          obtain ⟨rfl, rfl⟩ := g_s1 hL
          rw [show X1 = gst 3 r X1 from (if_neg (by decide)).symm] at h10
          refine ⟨nw, 3, r, c2, X1, X', hfr, h9, h10, ?_, hJ, fun q => absurd q (by decide), fun _ => ⟨fun q => absurd (q1.symm.trans q) (by decide), hnw, Or.inr (Or.inr rfl)⟩⟩
          unfold P_leaf
          rw [h9, bind3_some, h10, bind2_some]
        · have hL := g_in e3 hL
          cases hL

theorem pk_sheets {NL : List (Nat × Nat)} {N : Nat} {X : gM} (hN : 1000000 ≤ N) (h : gJ NL X) (p1 : Int32) (p2 : Int32)  : ∃ (k : Nat) (r r2 : Int32) (X1 X2 : gM), X9_sheets (gal NL) N p1 p2 X = some (k, r, X1) ∧ X10_sheets (gal NL) N p1 p2 (gst k r X1) = some (r2, X2) ∧ P_sheets (gal NL) N p1 p2 X = some (k, r, X2) ∧ gJ NL X2 ∧ (k = 0 → r = r2 ∧ X2 43 0 46 = 0) ∧ (k ≠ 0 → X2 43 0 46 ≠ 0 ∧ (k = 1 ∨ k = 2 ∨ k = 3)) := by
  obtain ⟨rr, X', hK, hJ⟩ := case1 (al := gal NL) hN p1 p2 0 0 0 0 h
  unfold K1 at hK
  rw [eqn_nil, Option.bind_some] at hK
  obtain ⟨c1, Y1, hL, hK⟩ := b2_in hK
  obtain ⟨c2, Y2, h10, hK⟩ := b2_in hK
  rw [thr_eq, bind2_some] at hK
  obtain ⟨rfl, q1, q2⟩ := K_in hK
  unfold L_sheets at hL
  obtain ⟨k, r, X1, h9, hL⟩ := b3_in hL
  by_cases e0 : k = 0
  · subst e0
    have hL := g_ip rfl hL
    obtain ⟨rfl, rfl⟩ := g_s1 hL
    have hg : gst 0 r X1 = mset X1 81 0 0 r := if_pos rfl
    rw [← hg] at h10
    refine ⟨0, r, c2, X1, X', h9, h10, ?_, hJ, fun _ => ⟨?_, q1⟩, fun q => absurd rfl q⟩
    · unfold P_sheets
      rw [h9, bind3_some, h10, bind2_some]
    · have hfm : frm k81 (gst 0 r X1) X' := fr_X10_sheets (S := k81) rfl rfl frm_rfl _ h10
      have e81 : X' 81 0 0 = r := by rw [hfm 81 rfl, hg, mset_same]
      rw [← e81]
      exact q2 rfl
  · have hL := g_in e0 hL
    by_cases e1 : k = 1
    · subst e1
      have hL := g_ip rfl hL
      obtain ⟨rfl, rfl⟩ := g_s1 hL
      rw [show X1 = gst 1 r X1 from (if_neg (by decide)).symm] at h10
      refine ⟨1, r, c2, X1, X', h9, h10, ?_, hJ, fun q => absurd q (by decide), fun _ => ⟨fun q => absurd (q1.symm.trans q) (by decide), Or.inl rfl⟩⟩
      unfold P_sheets
      rw [h9, bind3_some, h10, bind2_some]
    · have hL := g_in e1 hL
      by_cases e2 : k = 2
      · subst e2
        have hL := g_ip rfl hL
        obtain ⟨rfl, rfl⟩ := g_s1 hL
        rw [show X1 = gst 2 r X1 from (if_neg (by decide)).symm] at h10
        refine ⟨2, r, c2, X1, X', h9, h10, ?_, hJ, fun q => absurd q (by decide), fun _ => ⟨fun q => absurd (q1.symm.trans q) (by decide), Or.inr (Or.inl rfl)⟩⟩
        unfold P_sheets
        rw [h9, bind3_some, h10, bind2_some]
      · have hL := g_in e2 hL
        by_cases e3 : k = 3
        · subst e3
          have hL := g_ip rfl hL
          obtain ⟨rfl, rfl⟩ := g_s1 hL
          rw [show X1 = gst 3 r X1 from (if_neg (by decide)).symm] at h10
          refine ⟨3, r, c2, X1, X', h9, h10, ?_, hJ, fun q => absurd q (by decide), fun _ => ⟨fun q => absurd (q1.symm.trans q) (by decide), Or.inr (Or.inr rfl)⟩⟩
          unfold P_sheets
          rw [h9, bind3_some, h10, bind2_some]
        · have hL := g_in e3 hL
          cases hL

theorem pk_light {NL : List (Nat × Nat)} {N : Nat} {X : gM} (hN : 1000000 ≤ N) (h : gJ NL X) (p1 : Int32) (p2 : Int32) (p3 : Int32)  : ∃ (k : Nat) (r r2 : Int32) (X1 X2 : gM), X9_light (gal NL) N p1 p2 p3 X = some (k, r, X1) ∧ X10_light (gal NL) N p1 p2 p3 (X1) = some (r2, X2) ∧ P_light (gal NL) N p1 p2 p3 X = some (k, r, X2) ∧ gJ NL X2 ∧ (k = 0 → True ∧ X2 43 0 46 = 0) ∧ (k ≠ 0 → X2 43 0 46 ≠ 0 ∧ (k = 1 ∨ k = 2)) := by
  obtain ⟨rr, X', hK, hJ⟩ := case2 (al := gal NL) hN p1 p2 p3 0 0 0 h
  unfold K2 at hK
  rw [eqn_nil, Option.bind_some] at hK
  obtain ⟨c1, Y1, hL, hK⟩ := b2_in hK
  obtain ⟨c2, Y2, h10, hK⟩ := b2_in hK
  rw [thr_eq, bind2_some] at hK
  obtain ⟨rfl, q1⟩ := K_in0 hK
  unfold L_light at hL
  obtain ⟨k, r, X1, h9, hL⟩ := b3_in hL
  by_cases e0 : k = 0
  · subst e0
    have hL := g_ip rfl hL
    obtain ⟨rfl, rfl⟩ := g_s1 hL
    refine ⟨0, r, c2, X1, X', h9, h10, ?_, hJ, fun _ => ⟨True.intro, q1⟩, fun q => absurd rfl q⟩
    unfold P_light
    rw [h9, bind3_some, h10, bind2_some]
  · have hL := g_in e0 hL
    by_cases e1 : k = 1
    · subst e1
      have hL := g_ip rfl hL
      obtain ⟨rfl, rfl⟩ := g_s1 hL
      refine ⟨1, r, c2, X1, X', h9, h10, ?_, hJ, fun q => absurd q (by decide), fun _ => ⟨fun q => absurd (q1.symm.trans q) (by decide), Or.inl rfl⟩⟩
      unfold P_light
      rw [h9, bind3_some, h10, bind2_some]
    · have hL := g_in e1 hL
      by_cases e2 : k = 2
      · subst e2
        have hL := g_ip rfl hL
        obtain ⟨rfl, rfl⟩ := g_s1 hL
        refine ⟨2, r, c2, X1, X', h9, h10, ?_, hJ, fun q => absurd q (by decide), fun _ => ⟨fun q => absurd (q1.symm.trans q) (by decide), Or.inr rfl⟩⟩
        unfold P_light
        rw [h9, bind3_some, h10, bind2_some]
      · have hL := g_in e2 hL
        cases hL

theorem pk_image {NL : List (Nat × Nat)} {N : Nat} {X : gM} (hN : 1000000 ≤ N) (h : gJ NL X) (p1 : Int32) (p2 : Int32) (p3 : Int32) (p4 : Int32) (p5 : Int32)  : ∃ (k : Nat) (r r2 : Int32) (X1 X2 : gM), X9_image (gal NL) N p1 p2 p3 p4 p5 X = some (k, r, X1) ∧ X10_image (gal NL) N p1 p2 p3 p4 p5 (gst k r X1) = some (r2, X2) ∧ P_image (gal NL) N p1 p2 p3 p4 p5 X = some (k, r, X2) ∧ gJ NL X2 ∧ (k = 0 → r = r2 ∧ X2 43 0 46 = 0) ∧ (k ≠ 0 → X2 43 0 46 ≠ 0 ∧ (k = 1 ∨ k = 2)) := by
  obtain ⟨rr, X', hK, hJ⟩ := case3 (al := gal NL) hN p1 p2 p3 p4 p5 0 h
  unfold K3 at hK
  rw [eqn_nil, Option.bind_some] at hK
  obtain ⟨c1, Y1, hL, hK⟩ := b2_in hK
  obtain ⟨c2, Y2, h10, hK⟩ := b2_in hK
  rw [thr_eq, bind2_some] at hK
  obtain ⟨rfl, q1, q2⟩ := K_in hK
  unfold L_image at hL
  obtain ⟨k, r, X1, h9, hL⟩ := b3_in hL
  by_cases e0 : k = 0
  · subst e0
    have hL := g_ip rfl hL
    obtain ⟨rfl, rfl⟩ := g_s1 hL
    have hg : gst 0 r X1 = mset X1 81 0 0 r := if_pos rfl
    rw [← hg] at h10
    refine ⟨0, r, c2, X1, X', h9, h10, ?_, hJ, fun _ => ⟨?_, q1⟩, fun q => absurd rfl q⟩
    · unfold P_image
      rw [h9, bind3_some, h10, bind2_some]
    · have hfm : frm k81 (gst 0 r X1) X' := fr_X10_image (S := k81) rfl rfl frm_rfl _ h10
      have e81 : X' 81 0 0 = r := by rw [hfm 81 rfl, hg, mset_same]
      rw [← e81]
      exact q2 rfl
  · have hL := g_in e0 hL
    by_cases e1 : k = 1
    · subst e1
      have hL := g_ip rfl hL
      obtain ⟨rfl, rfl⟩ := g_s1 hL
      rw [show X1 = gst 1 r X1 from (if_neg (by decide)).symm] at h10
      refine ⟨1, r, c2, X1, X', h9, h10, ?_, hJ, fun q => absurd q (by decide), fun _ => ⟨fun q => absurd (q1.symm.trans q) (by decide), Or.inl rfl⟩⟩
      unfold P_image
      rw [h9, bind3_some, h10, bind2_some]
    · have hL := g_in e1 hL
      by_cases e2 : k = 2
      · subst e2
        have hL := g_ip rfl hL
        obtain ⟨rfl, rfl⟩ := g_s1 hL
        rw [show X1 = gst 2 r X1 from (if_neg (by decide)).symm] at h10
        refine ⟨2, r, c2, X1, X', h9, h10, ?_, hJ, fun q => absurd q (by decide), fun _ => ⟨fun q => absurd (q1.symm.trans q) (by decide), Or.inr rfl⟩⟩
        unfold P_image
        rw [h9, bind3_some, h10, bind2_some]
      · have hL := g_in e2 hL
        cases hL

theorem pk_unmix {NL : List (Nat × Nat)} {N : Nat} {X : gM} (hN : 1000000 ≤ N) (h : gJ NL X) (p1 : Int32) (p2 : Int32) (p3 : Int32) (p4 : Int32) (hb4 : p4 = 0 ∨ p4 = 1) : ∃ (k : Nat) (r r2 : Int32) (X1 X2 : gM), X9_unmix (gal NL) N p1 p2 p3 p4 X = some (k, r, X1) ∧ X10_unmix (gal NL) N p1 p2 p3 p4 (gst k r X1) = some (r2, X2) ∧ P_unmix (gal NL) N p1 p2 p3 p4 X = some (k, r, X2) ∧ gJ NL X2 ∧ (k = 0 → r = r2 ∧ X2 43 0 46 = 0) ∧ (k ≠ 0 → X2 43 0 46 ≠ 0 ∧ (k = 1)) := by
  obtain ⟨rr, X', hK, hJ⟩ := case4 (al := gal NL) hN p1 p2 p3 p4 0 0 h
  unfold K4 at hK
  rw [eqn_nil, Option.bind_some] at hK
  rw [bool01 hb4] at hK
  obtain ⟨c1, Y1, hL, hK⟩ := b2_in hK
  obtain ⟨c2, Y2, h10, hK⟩ := b2_in hK
  rw [thr_eq, bind2_some] at hK
  obtain ⟨rfl, q1, q2⟩ := K_in hK
  unfold L_unmix at hL
  obtain ⟨k, r, X1, h9, hL⟩ := b3_in hL
  by_cases e0 : k = 0
  · subst e0
    have hL := g_ip rfl hL
    obtain ⟨rfl, rfl⟩ := g_s1 hL
    have hg : gst 0 r X1 = mset X1 81 0 0 r := if_pos rfl
    rw [← hg] at h10
    refine ⟨0, r, c2, X1, X', h9, h10, ?_, hJ, fun _ => ⟨?_, q1⟩, fun q => absurd rfl q⟩
    · unfold P_unmix
      rw [h9, bind3_some, h10, bind2_some]
    · have hfm : frm k81 (gst 0 r X1) X' := fr_X10_unmix (S := k81) rfl frm_rfl _ h10
      have e81 : X' 81 0 0 = r := by rw [hfm 81 rfl, hg, mset_same]
      rw [← e81]
      exact q2 rfl
  · have hL := g_in e0 hL
    by_cases e1 : k = 1
    · subst e1
      have hL := g_ip rfl hL
      obtain ⟨rfl, rfl⟩ := g_s1 hL
      rw [show X1 = gst 1 r X1 from (if_neg (by decide)).symm] at h10
      refine ⟨1, r, c2, X1, X', h9, h10, ?_, hJ, fun q => absurd q (by decide), fun _ => ⟨fun q => absurd (q1.symm.trans q) (by decide), rfl⟩⟩
      unfold P_unmix
      rw [h9, bind3_some, h10, bind2_some]
    · have hL := g_in e1 hL
      cases hL

theorem pk_give {NL : List (Nat × Nat)} {N : Nat} {X : gM} (hN : 1000000 ≤ N) (h : gJ NL X) (p1 : Int32) (p2 : Int32) (p3 : Int32) (p4 : Int32) (p5 : Int32) (p6 : Int32)  : ∃ (k : Nat) (r r2 : Int32) (X1 X2 : gM), X9_give (gal NL) N p1 p2 p3 p4 p5 p6 X = some (k, r, X1) ∧ X10_give (gal NL) N p1 p2 p3 p4 p5 p6 (gst k r X1) = some (r2, X2) ∧ P_give (gal NL) N p1 p2 p3 p4 p5 p6 X = some (k, r, X2) ∧ gJ NL X2 ∧ (k = 0 → r = r2 ∧ X2 43 0 46 = 0) ∧ (k ≠ 0 → X2 43 0 46 ≠ 0 ∧ (k = 1 ∨ k = 2 ∨ k = 3)) := by
  obtain ⟨rr, X', hK, hJ⟩ := case5 (al := gal NL) hN p1 p2 p3 p4 p5 p6 h
  unfold K5 at hK
  rw [eqn_nil, Option.bind_some] at hK
  obtain ⟨c1, Y1, hL, hK⟩ := b2_in hK
  obtain ⟨c2, Y2, h10, hK⟩ := b2_in hK
  rw [thr_eq, bind2_some] at hK
  obtain ⟨rfl, q1, q2⟩ := K_in hK
  unfold L_give at hL
  obtain ⟨k, r, X1, h9, hL⟩ := b3_in hL
  by_cases e0 : k = 0
  · subst e0
    have hL := g_ip rfl hL
    obtain ⟨rfl, rfl⟩ := g_s1 hL
    have hg : gst 0 r X1 = mset X1 81 0 0 r := if_pos rfl
    rw [← hg] at h10
    refine ⟨0, r, c2, X1, X', h9, h10, ?_, hJ, fun _ => ⟨?_, q1⟩, fun q => absurd rfl q⟩
    · unfold P_give
      rw [h9, bind3_some, h10, bind2_some]
    · have hfm : frm k81 (gst 0 r X1) X' := fr_X10_give (S := k81) rfl rfl frm_rfl _ h10
      have e81 : X' 81 0 0 = r := by rw [hfm 81 rfl, hg, mset_same]
      rw [← e81]
      exact q2 rfl
  · have hL := g_in e0 hL
    by_cases e1 : k = 1
    · subst e1
      have hL := g_ip rfl hL
      obtain ⟨rfl, rfl⟩ := g_s1 hL
      rw [show X1 = gst 1 r X1 from (if_neg (by decide)).symm] at h10
      refine ⟨1, r, c2, X1, X', h9, h10, ?_, hJ, fun q => absurd q (by decide), fun _ => ⟨fun q => absurd (q1.symm.trans q) (by decide), Or.inl rfl⟩⟩
      unfold P_give
      rw [h9, bind3_some, h10, bind2_some]
    · have hL := g_in e1 hL
      by_cases e2 : k = 2
      · subst e2
        have hL := g_ip rfl hL
        obtain ⟨rfl, rfl⟩ := g_s1 hL
        rw [show X1 = gst 2 r X1 from (if_neg (by decide)).symm] at h10
        refine ⟨2, r, c2, X1, X', h9, h10, ?_, hJ, fun q => absurd q (by decide), fun _ => ⟨fun q => absurd (q1.symm.trans q) (by decide), Or.inr (Or.inl rfl)⟩⟩
        unfold P_give
        rw [h9, bind3_some, h10, bind2_some]
      · have hL := g_in e2 hL
        by_cases e3 : k = 3
        · subst e3
          have hL := g_ip rfl hL
          obtain ⟨rfl, rfl⟩ := g_s1 hL
          rw [show X1 = gst 3 r X1 from (if_neg (by decide)).symm] at h10
          refine ⟨3, r, c2, X1, X', h9, h10, ?_, hJ, fun q => absurd q (by decide), fun _ => ⟨fun q => absurd (q1.symm.trans q) (by decide), Or.inr (Or.inr rfl)⟩⟩
          unfold P_give
          rw [h9, bind3_some, h10, bind2_some]
        · have hL := g_in e3 hL
          cases hL

theorem pk_type {NL : List (Nat × Nat)} {N : Nat} {X : gM} (hN : 1000000 ≤ N) (h : gJ NL X) (p1 : Int32)  : ∃ (k : Nat) (r r2 : Int32) (X1 X2 : gM), X9_type (gal NL) N p1 X = some (k, r, X1) ∧ X10_type (gal NL) N p1 (gst k r X1) = some (r2, X2) ∧ P_type (gal NL) N p1 X = some (k, r, X2) ∧ gJ NL X2 ∧ (k = 0 → r = r2 ∧ X2 43 0 46 = 0) ∧ (k ≠ 0 → X2 43 0 46 ≠ 0 ∧ (k = 2 ∨ k = 3)) := by
  obtain ⟨rr, X', hK, hJ⟩ := case6 (al := gal NL) p1 0 0 0 0 0 h
  unfold K6 at hK
  rw [eqn_nil, Option.bind_some] at hK
  obtain ⟨c1, Y1, hL, hK⟩ := b2_in hK
  obtain ⟨c2, Y2, h10, hK⟩ := b2_in hK
  rw [thr_eq, bind2_some] at hK
  obtain ⟨rfl, q1, q2⟩ := K_in hK
  unfold L_type at hL
  obtain ⟨k, r, X1, h9, hL⟩ := b3_in hL
  by_cases e0 : k = 0
  · subst e0
    have hL := g_ip rfl hL
    obtain ⟨rfl, rfl⟩ := g_s1 hL
    have hg : gst 0 r X1 = mset X1 81 0 0 r := if_pos rfl
    rw [← hg] at h10
    refine ⟨0, r, c2, X1, X', h9, h10, ?_, hJ, fun _ => ⟨?_, q1⟩, fun q => absurd rfl q⟩
    · unfold P_type
      rw [h9, bind3_some, h10, bind2_some]
    · have hfm : frm k81 (gst 0 r X1) X' := fr_X10_type (S := k81) rfl rfl frm_rfl _ h10
      have e81 : X' 81 0 0 = r := by rw [hfm 81 rfl, hg, mset_same]
      rw [← e81]
      exact q2 rfl
  · have hL := g_in e0 hL
    by_cases e2 : k = 2
    · subst e2
      have hL := g_ip rfl hL
      obtain ⟨rfl, rfl⟩ := g_s1 hL
      rw [show X1 = gst 2 r X1 from (if_neg (by decide)).symm] at h10
      refine ⟨2, r, c2, X1, X', h9, h10, ?_, hJ, fun q => absurd q (by decide), fun _ => ⟨fun q => absurd (q1.symm.trans q) (by decide), Or.inl rfl⟩⟩
      unfold P_type
      rw [h9, bind3_some, h10, bind2_some]
    · have hL := g_in e2 hL
      by_cases e3 : k = 3
      · subst e3
        have hL := g_ip rfl hL
        obtain ⟨rfl, rfl⟩ := g_s1 hL
        rw [show X1 = gst 3 r X1 from (if_neg (by decide)).symm] at h10
        refine ⟨3, r, c2, X1, X', h9, h10, ?_, hJ, fun q => absurd q (by decide), fun _ => ⟨fun q => absurd (q1.symm.trans q) (by decide), Or.inr rfl⟩⟩
        unfold P_type
        rw [h9, bind3_some, h10, bind2_some]
      · have hL := g_in e3 hL
        cases hL

theorem pk_word {NL : List (Nat × Nat)} {N : Nat} {X : gM} (hN : 1000000 ≤ N) (h : gJ NL X)   : ∃ (nw : List (Nat × Nat)) (k : Nat) (r r2 : Int32) (X1 X2 : gM), gFr NL nw ∧ X9_word (gal NL) N nw  X = some (k, r, X1) ∧ X10_word (gal NL) N  (gst k r X1) = some (r2, X2) ∧ P_word (gal NL) N nw  X = some (k, r, X2) ∧ gJ (NL ++ nw) X2 ∧ (k = 0 → r = r2 ∧ X2 43 0 46 = 0) ∧ (k ≠ 0 → X2 43 0 46 ≠ 0 ∧ nw = [] ∧ (k = 3)) := by
  obtain ⟨nw, rr, X', hfr, hK, hJ⟩ := case7 (al := gal NL) hN 0 0 0 0 0 0 h
  unfold K7 at hK
  obtain ⟨c1, Y1, hL, hK⟩ := b2_in hK
  obtain ⟨c2, Y2, h10, hK⟩ := b2_in hK
  rw [thr_eq, bind2_some] at hK
  obtain ⟨rfl, q1, q2⟩ := K_in hK
  unfold L_word at hL
  obtain ⟨k, r, X1, h9, hL⟩ := b3_in hL
  by_cases e0 : k = 0
  · subst e0
    have hL := g_ip rfl hL
    obtain ⟨rfl, rfl⟩ := g_s1 hL
    have hg : gst 0 r X1 = mset X1 81 0 0 r := if_pos rfl
    rw [← hg] at h10
    refine ⟨nw, 0, r, c2, X1, X', hfr, h9, h10, ?_, hJ, fun _ => ⟨?_, q1⟩, fun q => absurd rfl q⟩
    · unfold P_word
      rw [h9, bind3_some, h10, bind2_some]
    · have hfm : frm k81 (gst 0 r X1) X' := fr_X10_word (S := k81) rfl rfl rfl frm_rfl _ h10
      have e81 : X' 81 0 0 = r := by rw [hfm 81 rfl, hg, mset_same]
      rw [← e81]
      exact q2 rfl
  · have hL := g_in e0 hL
    by_cases e3 : k = 3
    · subst e3
      have hL := g_ip rfl hL
      obtain ⟨hnw, hL⟩ := eqn_in hL
      obtain ⟨rfl, rfl⟩ := g_s1 hL
      rw [show X1 = gst 3 r X1 from (if_neg (by decide)).symm] at h10
      refine ⟨nw, 3, r, c2, X1, X', hfr, h9, h10, ?_, hJ, fun q => absurd q (by decide), fun _ => ⟨fun q => absurd (q1.symm.trans q) (by decide), hnw, rfl⟩⟩
      unfold P_word
      rw [h9, bind3_some, h10, bind2_some]
    · have hL := g_in e3 hL
      cases hL

theorem pk_work {NL : List (Nat × Nat)} {N : Nat} {X : gM} (hN : 1000000 ≤ N) (h : gJ NL X)   : ∃ (nw : List (Nat × Nat)) (k : Nat) (r r2 : Int32) (X1 X2 : gM), gFr NL nw ∧ X9_work (gal NL) N nw  X = some (k, r, X1) ∧ X10_work (gal NL) N  (gst k r X1) = some (r2, X2) ∧ P_work (gal NL) N nw  X = some (k, r, X2) ∧ gJ (NL ++ nw) X2 ∧ (k = 0 → r = r2 ∧ X2 43 0 46 = 0) ∧ (k ≠ 0 → X2 43 0 46 ≠ 0 ∧ nw = [] ∧ (k = 3)) := by
  obtain ⟨nw, rr, X', hfr, hK, hJ⟩ := case8 (al := gal NL) hN 0 0 0 0 0 0 h
  unfold K8 at hK
  obtain ⟨c1, Y1, hL, hK⟩ := b2_in hK
  obtain ⟨c2, Y2, h10, hK⟩ := b2_in hK
  rw [thr_eq, bind2_some] at hK
  obtain ⟨rfl, q1, q2⟩ := K_in hK
  unfold L_work at hL
  obtain ⟨k, r, X1, h9, hL⟩ := b3_in hL
  by_cases e0 : k = 0
  · subst e0
    have hL := g_ip rfl hL
    obtain ⟨rfl, rfl⟩ := g_s1 hL
    have hg : gst 0 r X1 = mset X1 81 0 0 r := if_pos rfl
    rw [← hg] at h10
    refine ⟨nw, 0, r, c2, X1, X', hfr, h9, h10, ?_, hJ, fun _ => ⟨?_, q1⟩, fun q => absurd rfl q⟩
    · unfold P_work
      rw [h9, bind3_some, h10, bind2_some]
    · have hfm : frm k81 (gst 0 r X1) X' := fr_X10_work (S := k81) rfl rfl rfl frm_rfl _ h10
      have e81 : X' 81 0 0 = r := by rw [hfm 81 rfl, hg, mset_same]
      rw [← e81]
      exact q2 rfl
  · have hL := g_in e0 hL
    by_cases e3 : k = 3
    · subst e3
      have hL := g_ip rfl hL
      obtain ⟨hnw, hL⟩ := eqn_in hL
      obtain ⟨rfl, rfl⟩ := g_s1 hL
      rw [show X1 = gst 3 r X1 from (if_neg (by decide)).symm] at h10
      refine ⟨nw, 3, r, c2, X1, X', hfr, h9, h10, ?_, hJ, fun q => absurd q (by decide), fun _ => ⟨fun q => absurd (q1.symm.trans q) (by decide), hnw, rfl⟩⟩
      unfold P_work
      rw [h9, bind3_some, h10, bind2_some]
    · have hL := g_in e3 hL
      cases hL

theorem pk_weight {NL : List (Nat × Nat)} {N : Nat} {X : gM} (hN : 1000000 ≤ N) (h : gJ NL X) (p1 : Int32) (p2 : Int32) (p3 : Int32)  : ∃ (k : Nat) (r r2 : Int32) (X1 X2 : gM), X9_weight (gal NL) N p1 p2 p3 X = some (k, r, X1) ∧ X10_weight (gal NL) N p1 p2 p3 (gst k r X1) = some (r2, X2) ∧ P_weight (gal NL) N p1 p2 p3 X = some (k, r, X2) ∧ gJ NL X2 ∧ (k = 0 → r = r2 ∧ X2 43 0 46 = 0) ∧ (k ≠ 0 → X2 43 0 46 ≠ 0 ∧ (k = 1 ∨ k = 2)) := by
  obtain ⟨rr, X', hK, hJ⟩ := case9 (al := gal NL) hN p1 p2 p3 0 0 0 h
  unfold K9 at hK
  rw [eqn_nil, Option.bind_some] at hK
  obtain ⟨c1, Y1, hL, hK⟩ := b2_in hK
  obtain ⟨c2, Y2, h10, hK⟩ := b2_in hK
  rw [thr_eq, bind2_some] at hK
  obtain ⟨rfl, q1, q2⟩ := K_in hK
  unfold L_weight at hL
  obtain ⟨k, r, X1, h9, hL⟩ := b3_in hL
  by_cases e0 : k = 0
  · subst e0
    have hL := g_ip rfl hL
    obtain ⟨rfl, rfl⟩ := g_s1 hL
    have hg : gst 0 r X1 = mset X1 81 0 0 r := if_pos rfl
    rw [← hg] at h10
    refine ⟨0, r, c2, X1, X', h9, h10, ?_, hJ, fun _ => ⟨?_, q1⟩, fun q => absurd rfl q⟩
    · unfold P_weight
      rw [h9, bind3_some, h10, bind2_some]
    · have hfm : frm k81 (gst 0 r X1) X' := fr_X10_weight (S := k81) rfl rfl rfl rfl rfl rfl rfl frm_rfl _ h10
      have e81 : X' 81 0 0 = r := by rw [hfm 81 rfl, hg, mset_same]
      rw [← e81]
      exact q2 rfl
  · have hL := g_in e0 hL
    by_cases e1 : k = 1
    · subst e1
      have hL := g_ip rfl hL
      obtain ⟨rfl, rfl⟩ := g_s1 hL
      rw [show X1 = gst 1 r X1 from (if_neg (by decide)).symm] at h10
      refine ⟨1, r, c2, X1, X', h9, h10, ?_, hJ, fun q => absurd q (by decide), fun _ => ⟨fun q => absurd (q1.symm.trans q) (by decide), Or.inl rfl⟩⟩
      unfold P_weight
      rw [h9, bind3_some, h10, bind2_some]
    · have hL := g_in e1 hL
      by_cases e2 : k = 2
      · subst e2
        have hL := g_ip rfl hL
        obtain ⟨rfl, rfl⟩ := g_s1 hL
        rw [show X1 = gst 2 r X1 from (if_neg (by decide)).symm] at h10
        refine ⟨2, r, c2, X1, X', h9, h10, ?_, hJ, fun q => absurd q (by decide), fun _ => ⟨fun q => absurd (q1.symm.trans q) (by decide), Or.inr rfl⟩⟩
        unfold P_weight
        rw [h9, bind3_some, h10, bind2_some]
      · have hL := g_in e2 hL
        cases hL

theorem pk_readings {NL : List (Nat × Nat)} {N : Nat} {X : gM} (hN : 1000000 ≤ N) (h : gJ NL X) (p1 : Int32) (p2 : Int32) (p3 : Int32)  : ∃ (k : Nat) (r r2 : Int32) (X1 X2 : gM), X9_readings (gal NL) N p1 p2 p3 X = some (k, r, X1) ∧ X10_readings (gal NL) N p1 p2 p3 (gst k r X1) = some (r2, X2) ∧ P_readings (gal NL) N p1 p2 p3 X = some (k, r, X2) ∧ gJ NL X2 ∧ (k = 0 → r = r2 ∧ X2 43 0 46 = 0) ∧ (k ≠ 0 → X2 43 0 46 ≠ 0 ∧ (k = 1 ∨ k = 2)) := by
  obtain ⟨rr, X', hK, hJ⟩ := case10 (al := gal NL) hN p1 p2 p3 0 0 0 h
  unfold K10 at hK
  rw [eqn_nil, Option.bind_some] at hK
  obtain ⟨c1, Y1, hL, hK⟩ := b2_in hK
  obtain ⟨c2, Y2, h10, hK⟩ := b2_in hK
  rw [thr_eq, bind2_some] at hK
  obtain ⟨rfl, q1, q2⟩ := K_in hK
  unfold L_readings at hL
  obtain ⟨k, r, X1, h9, hL⟩ := b3_in hL
  by_cases e0 : k = 0
  · subst e0
    have hL := g_ip rfl hL
    obtain ⟨rfl, rfl⟩ := g_s1 hL
    have hg : gst 0 r X1 = mset X1 81 0 0 r := if_pos rfl
    rw [← hg] at h10
    refine ⟨0, r, c2, X1, X', h9, h10, ?_, hJ, fun _ => ⟨?_, q1⟩, fun q => absurd rfl q⟩
    · unfold P_readings
      rw [h9, bind3_some, h10, bind2_some]
    · have hfm : frm k81 (gst 0 r X1) X' := fr_X10_readings (S := k81) rfl rfl rfl rfl rfl rfl rfl frm_rfl _ h10
      have e81 : X' 81 0 0 = r := by rw [hfm 81 rfl, hg, mset_same]
      rw [← e81]
      exact q2 rfl
  · have hL := g_in e0 hL
    by_cases e1 : k = 1
    · subst e1
      have hL := g_ip rfl hL
      obtain ⟨rfl, rfl⟩ := g_s1 hL
      rw [show X1 = gst 1 r X1 from (if_neg (by decide)).symm] at h10
      refine ⟨1, r, c2, X1, X', h9, h10, ?_, hJ, fun q => absurd q (by decide), fun _ => ⟨fun q => absurd (q1.symm.trans q) (by decide), Or.inl rfl⟩⟩
      unfold P_readings
      rw [h9, bind3_some, h10, bind2_some]
    · have hL := g_in e1 hL
      by_cases e2 : k = 2
      · subst e2
        have hL := g_ip rfl hL
        obtain ⟨rfl, rfl⟩ := g_s1 hL
        rw [show X1 = gst 2 r X1 from (if_neg (by decide)).symm] at h10
        refine ⟨2, r, c2, X1, X', h9, h10, ?_, hJ, fun q => absurd q (by decide), fun _ => ⟨fun q => absurd (q1.symm.trans q) (by decide), Or.inr rfl⟩⟩
        unfold P_readings
        rw [h9, bind3_some, h10, bind2_some]
      · have hL := g_in e2 hL
        cases hL

theorem pk_letter {NL : List (Nat × Nat)} {N : Nat} {X : gM} (hN : 1000000 ≤ N) (h : gJ NL X) (p1 : Int32) (p2 : Int32) (p3 : Int32) (p4 : Int32)  : ∃ (k : Nat) (r r2 : Int32) (X1 X2 : gM), X9_letter (gal NL) N p1 p2 p3 p4 X = some (k, r, X1) ∧ X10_letter (gal NL) N p1 p2 p3 p4 (gst k r X1) = some (r2, X2) ∧ P_letter (gal NL) N p1 p2 p3 p4 X = some (k, r, X2) ∧ gJ NL X2 ∧ (k = 0 → r = r2 ∧ X2 43 0 46 = 0) ∧ (k ≠ 0 → X2 43 0 46 ≠ 0 ∧ (k = 1 ∨ k = 2)) := by
  obtain ⟨rr, X', hK, hJ⟩ := case11 (al := gal NL) hN p1 p2 p3 p4 0 0 h
  unfold K11 at hK
  rw [eqn_nil, Option.bind_some] at hK
  obtain ⟨c1, Y1, hL, hK⟩ := b2_in hK
  obtain ⟨c2, Y2, h10, hK⟩ := b2_in hK
  rw [thr_eq, bind2_some] at hK
  obtain ⟨rfl, q1, q2⟩ := K_in hK
  unfold L_letter at hL
  obtain ⟨k, r, X1, h9, hL⟩ := b3_in hL
  by_cases e0 : k = 0
  · subst e0
    have hL := g_ip rfl hL
    obtain ⟨rfl, rfl⟩ := g_s1 hL
    have hg : gst 0 r X1 = mset X1 81 0 0 r := if_pos rfl
    rw [← hg] at h10
    refine ⟨0, r, c2, X1, X', h9, h10, ?_, hJ, fun _ => ⟨?_, q1⟩, fun q => absurd rfl q⟩
    · unfold P_letter
      rw [h9, bind3_some, h10, bind2_some]
    · have hfm : frm k81 (gst 0 r X1) X' := fr_X10_letter (S := k81) rfl rfl rfl rfl rfl rfl rfl frm_rfl _ h10
      have e81 : X' 81 0 0 = r := by rw [hfm 81 rfl, hg, mset_same]
      rw [← e81]
      exact q2 rfl
  · have hL := g_in e0 hL
    by_cases e1 : k = 1
    · subst e1
      have hL := g_ip rfl hL
      obtain ⟨rfl, rfl⟩ := g_s1 hL
      rw [show X1 = gst 1 r X1 from (if_neg (by decide)).symm] at h10
      refine ⟨1, r, c2, X1, X', h9, h10, ?_, hJ, fun q => absurd q (by decide), fun _ => ⟨fun q => absurd (q1.symm.trans q) (by decide), Or.inl rfl⟩⟩
      unfold P_letter
      rw [h9, bind3_some, h10, bind2_some]
    · have hL := g_in e1 hL
      by_cases e2 : k = 2
      · subst e2
        have hL := g_ip rfl hL
        obtain ⟨rfl, rfl⟩ := g_s1 hL
        rw [show X1 = gst 2 r X1 from (if_neg (by decide)).symm] at h10
        refine ⟨2, r, c2, X1, X', h9, h10, ?_, hJ, fun q => absurd q (by decide), fun _ => ⟨fun q => absurd (q1.symm.trans q) (by decide), Or.inr rfl⟩⟩
        unfold P_letter
        rw [h9, bind3_some, h10, bind2_some]
      · have hL := g_in e2 hL
        cases hL

theorem pk_fact {NL : List (Nat × Nat)} {N : Nat} {X : gM} (hN : 1000000 ≤ N) (h : gJ NL X) (p1 : Int32) (p2 : Int32) (p3 : Int32) (p4 : Int32) (hb4 : p4 = 0 ∨ p4 = 1) : ∃ (nw : List (Nat × Nat)) (k : Nat) (r r2 : Int32) (X1 X2 : gM), gFr NL nw ∧ X9_fact (gal NL) N nw p1 p2 p3 p4 X = some (k, r, X1) ∧ X10_fact (gal NL) N p1 p2 p3 p4 (gst k r X1) = some (r2, X2) ∧ P_fact (gal NL) N nw p1 p2 p3 p4 X = some (k, r, X2) ∧ gJ (NL ++ nw) X2 ∧ (k = 0 → r = r2 ∧ X2 43 0 46 = 0) ∧ (k ≠ 0 → X2 43 0 46 ≠ 0 ∧ nw = [] ∧ (k = 1 ∨ k = 2 ∨ k = 3)) := by
  obtain ⟨nw, rr, X', hfr, hK, hJ⟩ := case12 (al := gal NL) hN p1 p2 p3 p4 0 0 h
  unfold K12 at hK
  rw [bool01 hb4] at hK
  obtain ⟨c1, Y1, hL, hK⟩ := b2_in hK
  obtain ⟨c2, Y2, h10, hK⟩ := b2_in hK
  rw [thr_eq, bind2_some] at hK
  obtain ⟨rfl, q1, q2⟩ := K_in hK
  unfold L_fact at hL
  obtain ⟨k, r, X1, h9, hL⟩ := b3_in hL
  by_cases e0 : k = 0
  · subst e0
    have hL := g_ip rfl hL
    obtain ⟨rfl, rfl⟩ := g_s1 hL
    have hg : gst 0 r X1 = mset X1 81 0 0 r := if_pos rfl
    rw [← hg] at h10
    refine ⟨nw, 0, r, c2, X1, X', hfr, h9, h10, ?_, hJ, fun _ => ⟨?_, q1⟩, fun q => absurd rfl q⟩
    · unfold P_fact
      rw [h9, bind3_some, h10, bind2_some]
    · have hfm : frm k81 (gst 0 r X1) X' := fr_X10_fact (S := k81) rfl rfl rfl rfl rfl rfl frm_rfl _ h10
      have e81 : X' 81 0 0 = r := by rw [hfm 81 rfl, hg, mset_same]
      rw [← e81]
      exact q2 rfl
  · have hL := g_in e0 hL
    by_cases e1 : k = 1
    · subst e1
      have hL := g_ip rfl hL
      obtain ⟨hnw, hL⟩ := eqn_in hL
      obtain ⟨rfl, rfl⟩ := g_s1 hL
      rw [show X1 = gst 1 r X1 from (if_neg (by decide)).symm] at h10
      refine ⟨nw, 1, r, c2, X1, X', hfr, h9, h10, ?_, hJ, fun q => absurd q (by decide), fun _ => ⟨fun q => absurd (q1.symm.trans q) (by decide), hnw, Or.inl rfl⟩⟩
      unfold P_fact
      rw [h9, bind3_some, h10, bind2_some]
    · have hL := g_in e1 hL
      by_cases e2 : k = 2
      · subst e2
        have hL := g_ip rfl hL
        obtain ⟨hnw, hL⟩ := eqn_in hL
        obtain ⟨rfl, rfl⟩ := g_s1 hL
        rw [show X1 = gst 2 r X1 from (if_neg (by decide)).symm] at h10
        refine ⟨nw, 2, r, c2, X1, X', hfr, h9, h10, ?_, hJ, fun q => absurd q (by decide), fun _ => ⟨fun q => absurd (q1.symm.trans q) (by decide), hnw, Or.inr (Or.inl rfl)⟩⟩
        unfold P_fact
        rw [h9, bind3_some, h10, bind2_some]
      · have hL := g_in e2 hL
        by_cases e3 : k = 3
        · subst e3
          have hL := g_ip rfl hL
          obtain ⟨hnw, hL⟩ := eqn_in hL
          obtain ⟨rfl, rfl⟩ := g_s1 hL
          rw [show X1 = gst 3 r X1 from (if_neg (by decide)).symm] at h10
          refine ⟨nw, 3, r, c2, X1, X', hfr, h9, h10, ?_, hJ, fun q => absurd q (by decide), fun _ => ⟨fun q => absurd (q1.symm.trans q) (by decide), hnw, Or.inr (Or.inr rfl)⟩⟩
          unfold P_fact
          rw [h9, bind3_some, h10, bind2_some]
        · have hL := g_in e3 hL
          cases hL

theorem pk_hold {NL : List (Nat × Nat)} {N : Nat} {X : gM} (hN : 1000000 ≤ N) (h : gJ NL X) (p1 : Int32) (p2 : Int32) (hb2 : p2 = 0 ∨ p2 = 1) : ∃ (k : Nat) (r r2 : Int32) (X1 X2 : gM), X9_hold (gal NL) N p1 p2 X = some (k, r, X1) ∧ X10_hold (gal NL) N p1 p2 (gst k (if r = (0 : Int32) then (0 : Int32) else (1 : Int32)) X1) = some (r2, X2) ∧ P_hold (gal NL) N p1 p2 X = some (k, r, X2) ∧ gJ NL X2 ∧ (k = 0 → (if r = (0 : Int32) then (0 : Int32) else (1 : Int32)) = (if r2 = (0 : Int32) then (0 : Int32) else (1 : Int32)) ∧ X2 43 0 46 = 0) ∧ (k ≠ 0 → X2 43 0 46 ≠ 0 ∧ (k = 1)) := by
  obtain ⟨rr, X', hK, hJ⟩ := case13 (al := gal NL) p1 p2 0 0 0 0 h
  unfold K13 at hK
  rw [eqn_nil, Option.bind_some] at hK
  rw [bool01 hb2] at hK
  obtain ⟨c1, Y1, hL, hK⟩ := b2_in hK
  obtain ⟨c2, Y2, h10, hK⟩ := b2_in hK
  rw [thr_eq, bind2_some] at hK
  obtain ⟨rfl, q1, q2⟩ := K_inb hK
  unfold L_hold at hL
  obtain ⟨k, r, X1, h9, hL⟩ := b3_in hL
  by_cases e0 : k = 0
  · subst e0
    have hL := g_ip rfl hL
    obtain ⟨rfl, rfl⟩ := g_s1 hL
    have hg : gst 0 (if r = (0 : Int32) then (0 : Int32) else (1 : Int32)) X1 = mset X1 81 0 0 (if r = (0 : Int32) then (0 : Int32) else (1 : Int32)) := if_pos rfl
    rw [← hg] at h10
    refine ⟨0, r, c2, X1, X', h9, h10, ?_, hJ, fun _ => ⟨?_, q1⟩, fun q => absurd rfl q⟩
    · unfold P_hold
      rw [h9, bind3_some, h10, bind2_some]
    · have hfm : frm k81 (gst 0 (if r = (0 : Int32) then (0 : Int32) else (1 : Int32)) X1) X' := fr_X10_hold (S := k81) rfl rfl frm_rfl _ h10
      have e81 : X' 81 0 0 = (if r = (0 : Int32) then (0 : Int32) else (1 : Int32)) := by rw [hfm 81 rfl, hg, mset_same]
      rw [← e81]
      exact q2 rfl
  · have hL := g_in e0 hL
    by_cases e1 : k = 1
    · subst e1
      have hL := g_ip rfl hL
      obtain ⟨rfl, rfl⟩ := g_s1 hL
      rw [show X1 = gst 1 (if r = (0 : Int32) then (0 : Int32) else (1 : Int32)) X1 from (if_neg (by decide)).symm] at h10
      refine ⟨1, r, c2, X1, X', h9, h10, ?_, hJ, fun q => absurd q (by decide), fun _ => ⟨fun q => absurd (q1.symm.trans q) (by decide), rfl⟩⟩
      unfold P_hold
      rw [h9, bind3_some, h10, bind2_some]
    · have hL := g_in e1 hL
      cases hL

theorem pk_arrangements {NL : List (Nat × Nat)} {N : Nat} {X : gM} (hN : 1000000 ≤ N) (h : gJ NL X) (p1 : Int32) (p2 : Int32) (hb2 : p2 = 0 ∨ p2 = 1) : ∃ (k : Nat) (r r2 : Int32) (X1 X2 : gM), X9_arrangements (gal NL) N p1 p2 X = some (k, r, X1) ∧ X10_arrangements (gal NL) N p1 p2 (gst k r X1) = some (r2, X2) ∧ P_arrangements (gal NL) N p1 p2 X = some (k, r, X2) ∧ gJ NL X2 ∧ (k = 0 → r = r2 ∧ X2 43 0 46 = 0) ∧ (k ≠ 0 → X2 43 0 46 ≠ 0 ∧ (k = 1)) := by
  obtain ⟨rr, X', hK, hJ⟩ := case14 (al := gal NL) hN p1 p2 0 0 0 0 h
  unfold K14 at hK
  rw [eqn_nil, Option.bind_some] at hK
  rw [bool01 hb2] at hK
  obtain ⟨c1, Y1, hL, hK⟩ := b2_in hK
  obtain ⟨c2, Y2, h10, hK⟩ := b2_in hK
  rw [thr_eq, bind2_some] at hK
  obtain ⟨rfl, q1, q2⟩ := K_in hK
  unfold L_arrangements at hL
  obtain ⟨k, r, X1, h9, hL⟩ := b3_in hL
  by_cases e0 : k = 0
  · subst e0
    have hL := g_ip rfl hL
    obtain ⟨rfl, rfl⟩ := g_s1 hL
    have hg : gst 0 r X1 = mset X1 81 0 0 r := if_pos rfl
    rw [← hg] at h10
    refine ⟨0, r, c2, X1, X', h9, h10, ?_, hJ, fun _ => ⟨?_, q1⟩, fun q => absurd rfl q⟩
    · unfold P_arrangements
      rw [h9, bind3_some, h10, bind2_some]
    · have hfm : frm k81 (gst 0 r X1) X' := fr_X10_arrangements (S := k81) rfl rfl rfl rfl frm_rfl _ h10
      have e81 : X' 81 0 0 = r := by rw [hfm 81 rfl, hg, mset_same]
      rw [← e81]
      exact q2 rfl
  · have hL := g_in e0 hL
    by_cases e1 : k = 1
    · subst e1
      have hL := g_ip rfl hL
      obtain ⟨rfl, rfl⟩ := g_s1 hL
      rw [show X1 = gst 1 r X1 from (if_neg (by decide)).symm] at h10
      refine ⟨1, r, c2, X1, X', h9, h10, ?_, hJ, fun q => absurd q (by decide), fun _ => ⟨fun q => absurd (q1.symm.trans q) (by decide), rfl⟩⟩
      unfold P_arrangements
      rw [h9, bind3_some, h10, bind2_some]
    · have hL := g_in e1 hL
      cases hL

theorem pk_places {NL : List (Nat × Nat)} {N : Nat} {X : gM} (hN : 1000000 ≤ N) (h : gJ NL X) (p1 : Int32) (p2 : Int32) (hb2 : p2 = 0 ∨ p2 = 1) : ∃ (k : Nat) (r r2 : Int32) (X1 X2 : gM), X9_places (gal NL) N p1 p2 X = some (k, r, X1) ∧ X10_places (gal NL) N p1 p2 (gst k r X1) = some (r2, X2) ∧ P_places (gal NL) N p1 p2 X = some (k, r, X2) ∧ gJ NL X2 ∧ (k = 0 → r = r2 ∧ X2 43 0 46 = 0) ∧ (k ≠ 0 → X2 43 0 46 ≠ 0 ∧ (k = 1)) := by
  obtain ⟨rr, X', hK, hJ⟩ := case15 (al := gal NL) hN p1 p2 0 0 0 0 h
  unfold K15 at hK
  rw [eqn_nil, Option.bind_some] at hK
  rw [bool01 hb2] at hK
  obtain ⟨c1, Y1, hL, hK⟩ := b2_in hK
  obtain ⟨c2, Y2, h10, hK⟩ := b2_in hK
  rw [thr_eq, bind2_some] at hK
  obtain ⟨rfl, q1, q2⟩ := K_in hK
  unfold L_places at hL
  obtain ⟨k, r, X1, h9, hL⟩ := b3_in hL
  by_cases e0 : k = 0
  · subst e0
    have hL := g_ip rfl hL
    obtain ⟨rfl, rfl⟩ := g_s1 hL
    have hg : gst 0 r X1 = mset X1 81 0 0 r := if_pos rfl
    rw [← hg] at h10
    refine ⟨0, r, c2, X1, X', h9, h10, ?_, hJ, fun _ => ⟨?_, q1⟩, fun q => absurd rfl q⟩
    · unfold P_places
      rw [h9, bind3_some, h10, bind2_some]
    · have hfm : frm k81 (gst 0 r X1) X' := fr_X10_places (S := k81) rfl rfl rfl rfl frm_rfl _ h10
      have e81 : X' 81 0 0 = r := by rw [hfm 81 rfl, hg, mset_same]
      rw [← e81]
      exact q2 rfl
  · have hL := g_in e0 hL
    by_cases e1 : k = 1
    · subst e1
      have hL := g_ip rfl hL
      obtain ⟨rfl, rfl⟩ := g_s1 hL
      rw [show X1 = gst 1 r X1 from (if_neg (by decide)).symm] at h10
      refine ⟨1, r, c2, X1, X', h9, h10, ?_, hJ, fun q => absurd q (by decide), fun _ => ⟨fun q => absurd (q1.symm.trans q) (by decide), rfl⟩⟩
      unfold P_places
      rw [h9, bind3_some, h10, bind2_some]
    · have hL := g_in e1 hL
      cases hL

theorem pk_hand {NL : List (Nat × Nat)} {N : Nat} {X : gM} (hN : 1000000 ≤ N) (h : gJ NL X) (p1 : Int32) (p2 : Int32) (p3 : Int32) (p4 : Int32) (p5 : Int32)  : ∃ (k : Nat) (r r2 : Int32) (X1 X2 : gM), X9_hand (gal NL) N p1 p2 p3 p4 p5 X = some (k, r, X1) ∧ X10_hand (gal NL) N p1 p2 p3 p4 p5 (gst k r X1) = some (r2, X2) ∧ P_hand (gal NL) N p1 p2 p3 p4 p5 X = some (k, r, X2) ∧ gJ NL X2 ∧ (k = 0 → r = r2 ∧ X2 43 0 46 = 0) ∧ (k ≠ 0 → X2 43 0 46 ≠ 0 ∧ (k = 1 ∨ k = 2)) := by
  obtain ⟨rr, X', hK, hJ⟩ := case17 (al := gal NL) hN p1 p2 p3 p4 p5 0 h
  unfold K17 at hK
  rw [eqn_nil, Option.bind_some] at hK
  obtain ⟨c1, Y1, hL, hK⟩ := b2_in hK
  obtain ⟨c2, Y2, h10, hK⟩ := b2_in hK
  rw [thr_eq, bind2_some] at hK
  obtain ⟨rfl, q1, q2⟩ := K_in hK
  unfold L_hand at hL
  obtain ⟨k, r, X1, h9, hL⟩ := b3_in hL
  by_cases e0 : k = 0
  · subst e0
    have hL := g_ip rfl hL
    obtain ⟨rfl, rfl⟩ := g_s1 hL
    have hg : gst 0 r X1 = mset X1 81 0 0 r := if_pos rfl
    rw [← hg] at h10
    refine ⟨0, r, c2, X1, X', h9, h10, ?_, hJ, fun _ => ⟨?_, q1⟩, fun q => absurd rfl q⟩
    · unfold P_hand
      rw [h9, bind3_some, h10, bind2_some]
    · have hfm : frm k81 (gst 0 r X1) X' := fr_X10_hand (S := k81) rfl rfl rfl rfl frm_rfl _ h10
      have e81 : X' 81 0 0 = r := by rw [hfm 81 rfl, hg, mset_same]
      rw [← e81]
      exact q2 rfl
  · have hL := g_in e0 hL
    by_cases e1 : k = 1
    · subst e1
      have hL := g_ip rfl hL
      obtain ⟨rfl, rfl⟩ := g_s1 hL
      rw [show X1 = gst 1 r X1 from (if_neg (by decide)).symm] at h10
      refine ⟨1, r, c2, X1, X', h9, h10, ?_, hJ, fun q => absurd q (by decide), fun _ => ⟨fun q => absurd (q1.symm.trans q) (by decide), Or.inl rfl⟩⟩
      unfold P_hand
      rw [h9, bind3_some, h10, bind2_some]
    · have hL := g_in e1 hL
      by_cases e2 : k = 2
      · subst e2
        have hL := g_ip rfl hL
        obtain ⟨rfl, rfl⟩ := g_s1 hL
        rw [show X1 = gst 2 r X1 from (if_neg (by decide)).symm] at h10
        refine ⟨2, r, c2, X1, X', h9, h10, ?_, hJ, fun q => absurd q (by decide), fun _ => ⟨fun q => absurd (q1.symm.trans q) (by decide), Or.inr rfl⟩⟩
        unfold P_hand
        rw [h9, bind3_some, h10, bind2_some]
      · have hL := g_in e2 hL
        cases hL

theorem pk_handOf {NL : List (Nat × Nat)} {N : Nat} {X : gM} (hN : 1000000 ≤ N) (h : gJ NL X) (p1 : Int32)  : ∃ (k : Nat) (r r2 : Int32) (X1 X2 : gM), X9_handOf (gal NL) N p1 X = some (k, r, X1) ∧ X10_handOf (gal NL) N p1 (gst k r X1) = some (r2, X2) ∧ P_handOf (gal NL) N p1 X = some (k, r, X2) ∧ gJ NL X2 ∧ (k = 0 → r = r2 ∧ X2 43 0 46 = 0) ∧ (k ≠ 0 → X2 43 0 46 ≠ 0 ∧ (k = 1)) := by
  obtain ⟨rr, X', hK, hJ⟩ := case18 (al := gal NL) hN p1 0 0 0 0 0 h
  unfold K18 at hK
  rw [eqn_nil, Option.bind_some] at hK
  obtain ⟨c1, Y1, hL, hK⟩ := b2_in hK
  obtain ⟨c2, Y2, h10, hK⟩ := b2_in hK
  rw [thr_eq, bind2_some] at hK
  obtain ⟨rfl, q1, q2⟩ := K_in hK
  unfold L_handOf at hL
  obtain ⟨k, r, X1, h9, hL⟩ := b3_in hL
  by_cases e0 : k = 0
  · subst e0
    have hL := g_ip rfl hL
    obtain ⟨rfl, rfl⟩ := g_s1 hL
    have hg : gst 0 r X1 = mset X1 81 0 0 r := if_pos rfl
    rw [← hg] at h10
    refine ⟨0, r, c2, X1, X', h9, h10, ?_, hJ, fun _ => ⟨?_, q1⟩, fun q => absurd rfl q⟩
    · unfold P_handOf
      rw [h9, bind3_some, h10, bind2_some]
    · have hfm : frm k81 (gst 0 r X1) X' := fr_X10_handOf (S := k81) rfl rfl frm_rfl _ h10
      have e81 : X' 81 0 0 = r := by rw [hfm 81 rfl, hg, mset_same]
      rw [← e81]
      exact q2 rfl
  · have hL := g_in e0 hL
    by_cases e1 : k = 1
    · subst e1
      have hL := g_ip rfl hL
      obtain ⟨rfl, rfl⟩ := g_s1 hL
      rw [show X1 = gst 1 r X1 from (if_neg (by decide)).symm] at h10
      refine ⟨1, r, c2, X1, X', h9, h10, ?_, hJ, fun q => absurd q (by decide), fun _ => ⟨fun q => absurd (q1.symm.trans q) (by decide), rfl⟩⟩
      unfold P_handOf
      rw [h9, bind3_some, h10, bind2_some]
    · have hL := g_in e1 hL
      cases hL

theorem pk_date {NL : List (Nat × Nat)} {N : Nat} {X : gM} (hN : 1000000 ≤ N) (h : gJ NL X) (p1 : Int32) (p2 : Int32)  : ∃ (k : Nat) (r r2 : Int32) (X1 X2 : gM), X9_date (gal NL) N p1 p2 X = some (k, r, X1) ∧ X10_date (gal NL) N p1 p2 (gst k r X1) = some (r2, X2) ∧ P_date (gal NL) N p1 p2 X = some (k, r, X2) ∧ gJ NL X2 ∧ (k = 0 → r = r2 ∧ X2 43 0 46 = 0) ∧ (k ≠ 0 → X2 43 0 46 ≠ 0 ∧ (k = 1 ∨ k = 2 ∨ k = 3)) := by
  obtain ⟨rr, X', hK, hJ⟩ := case19 (al := gal NL) hN p1 p2 0 0 0 0 h
  unfold K19 at hK
  rw [eqn_nil, Option.bind_some] at hK
  obtain ⟨c1, Y1, hL, hK⟩ := b2_in hK
  obtain ⟨c2, Y2, h10, hK⟩ := b2_in hK
  rw [thr_eq, bind2_some] at hK
  obtain ⟨rfl, q1, q2⟩ := K_in hK
  unfold L_date at hL
  obtain ⟨k, r, X1, h9, hL⟩ := b3_in hL
  by_cases e0 : k = 0
  · subst e0
    have hL := g_ip rfl hL
    obtain ⟨rfl, rfl⟩ := g_s1 hL
    have hg : gst 0 r X1 = mset X1 81 0 0 r := if_pos rfl
    rw [← hg] at h10
    refine ⟨0, r, c2, X1, X', h9, h10, ?_, hJ, fun _ => ⟨?_, q1⟩, fun q => absurd rfl q⟩
    · unfold P_date
      rw [h9, bind3_some, h10, bind2_some]
    · have hfm : frm k81 (gst 0 r X1) X' := fr_X10_date (S := k81) rfl rfl rfl frm_rfl _ h10
      have e81 : X' 81 0 0 = r := by rw [hfm 81 rfl, hg, mset_same]
      rw [← e81]
      exact q2 rfl
  · have hL := g_in e0 hL
    by_cases e1 : k = 1
    · subst e1
      have hL := g_ip rfl hL
      obtain ⟨rfl, rfl⟩ := g_s1 hL
      rw [show X1 = gst 1 r X1 from (if_neg (by decide)).symm] at h10
      refine ⟨1, r, c2, X1, X', h9, h10, ?_, hJ, fun q => absurd q (by decide), fun _ => ⟨fun q => absurd (q1.symm.trans q) (by decide), Or.inl rfl⟩⟩
      unfold P_date
      rw [h9, bind3_some, h10, bind2_some]
    · have hL := g_in e1 hL
      by_cases e2 : k = 2
      · subst e2
        have hL := g_ip rfl hL
        obtain ⟨rfl, rfl⟩ := g_s1 hL
        rw [show X1 = gst 2 r X1 from (if_neg (by decide)).symm] at h10
        refine ⟨2, r, c2, X1, X', h9, h10, ?_, hJ, fun q => absurd q (by decide), fun _ => ⟨fun q => absurd (q1.symm.trans q) (by decide), Or.inr (Or.inl rfl)⟩⟩
        unfold P_date
        rw [h9, bind3_some, h10, bind2_some]
      · have hL := g_in e2 hL
        by_cases e3 : k = 3
        · subst e3
          have hL := g_ip rfl hL
          obtain ⟨rfl, rfl⟩ := g_s1 hL
          rw [show X1 = gst 3 r X1 from (if_neg (by decide)).symm] at h10
          refine ⟨3, r, c2, X1, X', h9, h10, ?_, hJ, fun q => absurd q (by decide), fun _ => ⟨fun q => absurd (q1.symm.trans q) (by decide), Or.inr (Or.inr rfl)⟩⟩
          unfold P_date
          rw [h9, bind3_some, h10, bind2_some]
        · have hL := g_in e3 hL
          cases hL

theorem pk_dates {NL : List (Nat × Nat)} {N : Nat} {X : gM} (hN : 1000000 ≤ N) (h : gJ NL X) (p1 : Int32)  : ∃ (k : Nat) (r r2 : Int32) (X1 X2 : gM), X9_dates (gal NL) N p1 X = some (k, r, X1) ∧ X10_dates (gal NL) N p1 (gst k r X1) = some (r2, X2) ∧ P_dates (gal NL) N p1 X = some (k, r, X2) ∧ gJ NL X2 ∧ (k = 0 → r = r2 ∧ X2 43 0 46 = 0) ∧ (k ≠ 0 → X2 43 0 46 ≠ 0 ∧ (k = 1)) := by
  obtain ⟨rr, X', hK, hJ⟩ := case20 (al := gal NL) hN p1 0 0 0 0 0 h
  unfold K20 at hK
  rw [eqn_nil, Option.bind_some] at hK
  obtain ⟨c1, Y1, hL, hK⟩ := b2_in hK
  obtain ⟨c2, Y2, h10, hK⟩ := b2_in hK
  rw [thr_eq, bind2_some] at hK
  obtain ⟨rfl, q1, q2⟩ := K_in hK
  unfold L_dates at hL
  obtain ⟨k, r, X1, h9, hL⟩ := b3_in hL
  by_cases e0 : k = 0
  · subst e0
    have hL := g_ip rfl hL
    obtain ⟨rfl, rfl⟩ := g_s1 hL
    have hg : gst 0 r X1 = mset X1 81 0 0 r := if_pos rfl
    rw [← hg] at h10
    refine ⟨0, r, c2, X1, X', h9, h10, ?_, hJ, fun _ => ⟨?_, q1⟩, fun q => absurd rfl q⟩
    · unfold P_dates
      rw [h9, bind3_some, h10, bind2_some]
    · have hfm : frm k81 (gst 0 r X1) X' := fr_X10_dates (S := k81) rfl frm_rfl _ h10
      have e81 : X' 81 0 0 = r := by rw [hfm 81 rfl, hg, mset_same]
      rw [← e81]
      exact q2 rfl
  · have hL := g_in e0 hL
    by_cases e1 : k = 1
    · subst e1
      have hL := g_ip rfl hL
      obtain ⟨rfl, rfl⟩ := g_s1 hL
      rw [show X1 = gst 1 r X1 from (if_neg (by decide)).symm] at h10
      refine ⟨1, r, c2, X1, X', h9, h10, ?_, hJ, fun q => absurd q (by decide), fun _ => ⟨fun q => absurd (q1.symm.trans q) (by decide), rfl⟩⟩
      unfold P_dates
      rw [h9, bind3_some, h10, bind2_some]
    · have hL := g_in e1 hL
      cases hL

theorem pk_match {NL : List (Nat × Nat)} {N : Nat} {X : gM} (hN : 1000000 ≤ N) (h : gJ NL X) (p1 : Int32) (p2 : Int32) (p3 : Int32) (p4 : Int32) (p5 : Int32) (hb5 : p5 = 0 ∨ p5 = 1) : ∃ (k : Nat) (r r2 : Int32) (X1 X2 : gM), X9_match (gal NL) N p1 p2 p3 p4 p5 X = some (k, r, X1) ∧ X10_match (gal NL) N p1 p2 p3 p4 p5 (gst k r X1) = some (r2, X2) ∧ P_match (gal NL) N p1 p2 p3 p4 p5 X = some (k, r, X2) ∧ gJ NL X2 ∧ (k = 0 → r = r2 ∧ X2 43 0 46 = 0) ∧ (k ≠ 0 → X2 43 0 46 ≠ 0 ∧ (k = 1 ∨ k = 2)) := by
  obtain ⟨rr, X', hK, hJ⟩ := case21 (al := gal NL) hN p1 p2 p3 p4 p5 0 h
  unfold K21 at hK
  rw [eqn_nil, Option.bind_some] at hK
  rw [bool01 hb5] at hK
  obtain ⟨c1, Y1, hL, hK⟩ := b2_in hK
  obtain ⟨c2, Y2, h10, hK⟩ := b2_in hK
  rw [thr_eq, bind2_some] at hK
  obtain ⟨rfl, q1, q2⟩ := K_in hK
  unfold L_match at hL
  obtain ⟨k, r, X1, h9, hL⟩ := b3_in hL
  by_cases e0 : k = 0
  · subst e0
    have hL := g_ip rfl hL
    obtain ⟨rfl, rfl⟩ := g_s1 hL
    have hg : gst 0 r X1 = mset X1 81 0 0 r := if_pos rfl
    rw [← hg] at h10
    refine ⟨0, r, c2, X1, X', h9, h10, ?_, hJ, fun _ => ⟨?_, q1⟩, fun q => absurd rfl q⟩
    · unfold P_match
      rw [h9, bind3_some, h10, bind2_some]
    · have hfm : frm k81 (gst 0 r X1) X' := fr_X10_match (S := k81) rfl rfl rfl rfl rfl rfl rfl rfl rfl frm_rfl _ h10
      have e81 : X' 81 0 0 = r := by rw [hfm 81 rfl, hg, mset_same]
      rw [← e81]
      exact q2 rfl
  · have hL := g_in e0 hL
    by_cases e1 : k = 1
    · subst e1
      have hL := g_ip rfl hL
      obtain ⟨rfl, rfl⟩ := g_s1 hL
      rw [show X1 = gst 1 r X1 from (if_neg (by decide)).symm] at h10
      refine ⟨1, r, c2, X1, X', h9, h10, ?_, hJ, fun q => absurd q (by decide), fun _ => ⟨fun q => absurd (q1.symm.trans q) (by decide), Or.inl rfl⟩⟩
      unfold P_match
      rw [h9, bind3_some, h10, bind2_some]
    · have hL := g_in e1 hL
      by_cases e2 : k = 2
      · subst e2
        have hL := g_ip rfl hL
        obtain ⟨rfl, rfl⟩ := g_s1 hL
        rw [show X1 = gst 2 r X1 from (if_neg (by decide)).symm] at h10
        refine ⟨2, r, c2, X1, X', h9, h10, ?_, hJ, fun q => absurd q (by decide), fun _ => ⟨fun q => absurd (q1.symm.trans q) (by decide), Or.inr rfl⟩⟩
        unfold P_match
        rw [h9, bind3_some, h10, bind2_some]
      · have hL := g_in e2 hL
        cases hL

theorem pk_state {NL : List (Nat × Nat)} {N : Nat} {X : gM} (hN : 1000000 ≤ N) (h : gJ NL X) (p1 : Int32) (p2 : Int32) (p3 : Int32) (p4 : Int32)  : ∃ (k : Nat) (r r2 : Int32) (X1 X2 : gM), X9_state (gal NL) N p1 p2 p3 p4 X = some (k, r, X1) ∧ X10_state (gal NL) N p1 p2 p3 p4 (gst k r X1) = some (r2, X2) ∧ P_state (gal NL) N p1 p2 p3 p4 X = some (k, r, X2) ∧ gJ NL X2 ∧ (k = 0 → r = r2 ∧ X2 43 0 46 = 0) ∧ (k ≠ 0 → X2 43 0 46 ≠ 0 ∧ (k = 1 ∨ k = 2)) := by
  obtain ⟨rr, X', hK, hJ⟩ := case23 (al := gal NL) hN p1 p2 p3 p4 0 0 h
  unfold K23 at hK
  rw [eqn_nil, Option.bind_some] at hK
  obtain ⟨c1, Y1, hL, hK⟩ := b2_in hK
  obtain ⟨c2, Y2, h10, hK⟩ := b2_in hK
  rw [thr_eq, bind2_some] at hK
  obtain ⟨rfl, q1, q2⟩ := K_in hK
  unfold L_state at hL
  obtain ⟨k, r, X1, h9, hL⟩ := b3_in hL
  by_cases e0 : k = 0
  · subst e0
    have hL := g_ip rfl hL
    obtain ⟨rfl, rfl⟩ := g_s1 hL
    have hg : gst 0 r X1 = mset X1 81 0 0 r := if_pos rfl
    rw [← hg] at h10
    refine ⟨0, r, c2, X1, X', h9, h10, ?_, hJ, fun _ => ⟨?_, q1⟩, fun q => absurd rfl q⟩
    · unfold P_state
      rw [h9, bind3_some, h10, bind2_some]
    · have hfm : frm k81 (gst 0 r X1) X' := fr_X10_state (S := k81) rfl rfl rfl rfl rfl rfl rfl rfl frm_rfl _ h10
      have e81 : X' 81 0 0 = r := by rw [hfm 81 rfl, hg, mset_same]
      rw [← e81]
      exact q2 rfl
  · have hL := g_in e0 hL
    by_cases e1 : k = 1
    · subst e1
      have hL := g_ip rfl hL
      obtain ⟨rfl, rfl⟩ := g_s1 hL
      rw [show X1 = gst 1 r X1 from (if_neg (by decide)).symm] at h10
      refine ⟨1, r, c2, X1, X', h9, h10, ?_, hJ, fun q => absurd q (by decide), fun _ => ⟨fun q => absurd (q1.symm.trans q) (by decide), Or.inl rfl⟩⟩
      unfold P_state
      rw [h9, bind3_some, h10, bind2_some]
    · have hL := g_in e1 hL
      by_cases e2 : k = 2
      · subst e2
        have hL := g_ip rfl hL
        obtain ⟨rfl, rfl⟩ := g_s1 hL
        rw [show X1 = gst 2 r X1 from (if_neg (by decide)).symm] at h10
        refine ⟨2, r, c2, X1, X', h9, h10, ?_, hJ, fun q => absurd q (by decide), fun _ => ⟨fun q => absurd (q1.symm.trans q) (by decide), Or.inr rfl⟩⟩
        unfold P_state
        rw [h9, bind3_some, h10, bind2_some]
      · have hL := g_in e2 hL
        cases hL

theorem pk_rests {NL : List (Nat × Nat)} {N : Nat} {X : gM} (hN : 1000000 ≤ N) (h : gJ NL X) (p1 : Int32)  : ∃ (k : Nat) (r r2 : Int32) (X1 X2 : gM), X9_rests (gal NL) N p1 X = some (k, r, X1) ∧ X10_rests (gal NL) N p1 (gst k r X1) = some (r2, X2) ∧ P_rests (gal NL) N p1 X = some (k, r, X2) ∧ gJ NL X2 ∧ (k = 0 → r = r2 ∧ X2 43 0 46 = 0) ∧ (k ≠ 0 → X2 43 0 46 ≠ 0 ∧ (k = 1)) := by
  obtain ⟨rr, X', hK, hJ⟩ := case24 (al := gal NL) hN p1 0 0 0 0 0 h
  unfold K24 at hK
  rw [eqn_nil, Option.bind_some] at hK
  obtain ⟨c1, Y1, hL, hK⟩ := b2_in hK
  obtain ⟨c2, Y2, h10, hK⟩ := b2_in hK
  rw [thr_eq, bind2_some] at hK
  obtain ⟨rfl, q1, q2⟩ := K_in hK
  unfold L_rests at hL
  obtain ⟨k, r, X1, h9, hL⟩ := b3_in hL
  by_cases e0 : k = 0
  · subst e0
    have hL := g_ip rfl hL
    obtain ⟨rfl, rfl⟩ := g_s1 hL
    have hg : gst 0 r X1 = mset X1 81 0 0 r := if_pos rfl
    rw [← hg] at h10
    refine ⟨0, r, c2, X1, X', h9, h10, ?_, hJ, fun _ => ⟨?_, q1⟩, fun q => absurd rfl q⟩
    · unfold P_rests
      rw [h9, bind3_some, h10, bind2_some]
    · have hfm : frm k81 (gst 0 r X1) X' := fr_X10_rests (S := k81) rfl rfl rfl rfl frm_rfl _ h10
      have e81 : X' 81 0 0 = r := by rw [hfm 81 rfl, hg, mset_same]
      rw [← e81]
      exact q2 rfl
  · have hL := g_in e0 hL
    by_cases e1 : k = 1
    · subst e1
      have hL := g_ip rfl hL
      obtain ⟨rfl, rfl⟩ := g_s1 hL
      rw [show X1 = gst 1 r X1 from (if_neg (by decide)).symm] at h10
      refine ⟨1, r, c2, X1, X', h9, h10, ?_, hJ, fun q => absurd q (by decide), fun _ => ⟨fun q => absurd (q1.symm.trans q) (by decide), rfl⟩⟩
      unfold P_rests
      rw [h9, bind3_some, h10, bind2_some]
    · have hL := g_in e1 hL
      cases hL

theorem pk_worth {NL : List (Nat × Nat)} {N : Nat} {X : gM} (hN : 1000000 ≤ N) (h : gJ NL X) : ∃ (r : Int32) (X1 X2 : gM), X9_worth (gal NL) N X = some (r, X1) ∧ X10_worth (gal NL) N X1 = some (r, X2) ∧ P_worth (gal NL) N X = some (r, X2) ∧ gJ NL X2 := by
  obtain ⟨rr, X', hK, hJ⟩ := case25 (al := gal NL) hN 0 0 0 0 0 0 h
  unfold K25 at hK
  rw [eqn_nil, Option.bind_some] at hK
  obtain ⟨c1, Y1, h9, hK⟩ := b2_in hK
  obtain ⟨c2, Y2, h10, hK⟩ := b2_in hK
  by_cases c : c1 = c2
  · rw [if_pos c] at hK
    obtain ⟨-, rfl⟩ := g_s1 hK
    subst c
    refine ⟨c1, Y1, Y2, h9, h10, ?_, hJ⟩
    unfold P_worth
    rw [h9, bind2_some, h10, bind2_some]
  · rw [if_neg c] at hK; cases hK
