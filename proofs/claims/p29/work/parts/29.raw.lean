/-! objects under construction, and finished -/
/-- a new HOUSE -/
def rz_82 : Nat → Int32 := fun j => if j = 0 ∨ j = 1 ∨ j = 3 ∨ j = 4 ∨ j = 6 ∨ j = 8 ∨ j = 10 ∨ j = 12 ∨ j = 13 ∨ j = 14 then -1 else 0
theorem rzc_82 (cA : Nat → ClassId) (ad : Nat → Nat → Nat) (i : Nat) : ct cA ad 82 i rz_82 = .inr (9, [.null, .null, .int 0, .null, .null, .int 0, .null, .int 0, .null, .int 0, .null, .int 0, .null, .null, .null]) := rfl
def rk_0 (i : Nat) (x : Nat → Int32) : Option Int32 := if (¬ x 0 < 0 ∧ (x 0).toNatClampNeg = 0) ∧ (¬ x 1 < 0 ∧ (x 1).toNatClampNeg = 0) ∧ (¬ x 3 < 0 ∧ (x 3).toNatClampNeg = 0) ∧ (¬ x 4 < 0 ∧ (x 4).toNatClampNeg = 0) ∧ (¬ x 6 < 0 ∧ (x 6).toNatClampNeg = 0) ∧ (¬ x 8 < 0 ∧ (x 8).toNatClampNeg = 0) ∧ (¬ x 10 < 0 ∧ (x 10).toNatClampNeg = 0) ∧ (¬ x 12 < 0 ∧ (x 12).toNatClampNeg = 0) ∧ (¬ x 13 < 0 ∧ (x 13).toNatClampNeg = 0) ∧ (¬ x 14 < 0 ∧ (x 14).toNatClampNeg = 0) then some 0 else none
theorem rkl_0 {α : Type} {cA : Nat → ClassId} {ad : Nat → Nat → Nat} {i : Nat} {x : Nat → Int32} {f : Int32 → Option α} {r : α} (h : (rk_0 i x).bind f = some r) : ct cA ad 82 i x = ct cA ad 0 i x ∧ f 0 = some r := by
  unfold rk_0 at h
  split at h
  · next q =>
    refine ⟨?_, h⟩
    obtain ⟨h0, h1, h3, h4, h6, h8, h10, h12, h13, h14⟩ := q
    rw [ct_82, ct_0]; unfold fs_82 fs_0; rw [gwref h0, gwref h1, gwref h3, gwref h4, gwref h6, gwref h8, gwref h10, gwref h12, gwref h13, gwref h14]
  · cases h
/-- a new LIGHTS -/
def rz_83 : Nat → Int32 := fun j => if j = 0 ∨ j = 1 then -1 else 0
theorem rzc_83 (cA : Nat → ClassId) (ad : Nat → Nat → Nat) (i : Nat) : ct cA ad 83 i rz_83 = .inr (3, [.null, .null]) := rfl
def rk_1 (i : Nat) (x : Nat → Int32) : Option Int32 := if (¬ x 0 < 0 ∧ (x 0).toNatClampNeg = 0) ∧ (¬ x 1 < 0 ∧ (x 1).toNatClampNeg = 0) then some 0 else none
theorem rkl_1 {α : Type} {cA : Nat → ClassId} {ad : Nat → Nat → Nat} {i : Nat} {x : Nat → Int32} {f : Int32 → Option α} {r : α} (h : (rk_1 i x).bind f = some r) : ct cA ad 83 i x = ct cA ad 1 i x ∧ f 0 = some r := by
  unfold rk_1 at h
  split at h
  · next q =>
    refine ⟨?_, h⟩
    obtain ⟨h0, h1⟩ := q
    rw [ct_83, ct_1]; unfold fs_83 fs_1; rw [gwref h0, gwref h1]
  · cases h
/-- a new LEAF -/
def rz_84 : Nat → Int32 := fun j => if j = 1 ∨ j = 4 then -1 else 0
theorem rzc_84 (cA : Nat → ClassId) (ad : Nat → Nat → Nat) (i : Nat) : ct cA ad 84 i rz_84 = .inr (2, [.int 0, .null, .int 0, .int 0, .null, .int 0, .int 0, .int 0, .int 0, .int 0, .int 0, .int 0, .int 0]) := rfl
def rk_5 (i : Nat) (x : Nat → Int32) : Option Int32 := if (¬ x 4 < 0 ∧ (x 4).toNatClampNeg = i) then some 0 else none
theorem rkl_5 {α : Type} {cA : Nat → ClassId} {ad : Nat → Nat → Nat} {i : Nat} {x : Nat → Int32} {f : Int32 → Option α} {r : α} (h : (rk_5 i x).bind f = some r) : ct cA ad 84 i x = ct cA ad 5 i x ∧ f 0 = some r := by
  unfold rk_5 at h
  split at h
  · next q =>
    refine ⟨?_, h⟩
    have h4 := q
    rw [ct_84, ct_5]; unfold fs_84 fs_5; rw [gwref h4]
  · cases h
/-- a new CELL -/
def rz_85 : Nat → Int32 := fun j => if j = 0 ∨ j = 1 ∨ j = 2 then -1 else 0
theorem rzc_85 (cA : Nat → ClassId) (ad : Nat → Nat → Nat) (i : Nat) : ct cA ad 85 i rz_85 = .inr (0, [.null, .null, .null, .int 0, .int 0]) := rfl
def rk_7 (i : Nat) (x : Nat → Int32) : Option Int32 := if (¬ x 0 < 0 ∧ (x 0).toNatClampNeg = i) ∧ (¬ x 1 < 0 ∧ (x 1).toNatClampNeg = i) ∧ (¬ x 2 < 0 ∧ (x 2).toNatClampNeg = i) then some 0 else none
theorem rkl_7 {α : Type} {cA : Nat → ClassId} {ad : Nat → Nat → Nat} {i : Nat} {x : Nat → Int32} {f : Int32 → Option α} {r : α} (h : (rk_7 i x).bind f = some r) : ct cA ad 85 i x = ct cA ad 7 i x ∧ f 0 = some r := by
  unfold rk_7 at h
  split at h
  · next q =>
    refine ⟨?_, h⟩
    obtain ⟨h0, h1, h2⟩ := q
    rw [ct_85, ct_7]; unfold fs_85 fs_7; rw [gwref h0, gwref h1, gwref h2]
  · cases h
/-- a new QUIRE -/
def rz_86 : Nat → Int32 := fun j => if j = 1 ∨ j = 3 ∨ j = 4 ∨ j = 5 then -1 else 0
theorem rzc_86 (cA : Nat → ClassId) (ad : Nat → Nat → Nat) (i : Nat) : ct cA ad 86 i rz_86 = .inr (5, [.int 0, .null, .int 0, .null, .null, .null]) := rfl
def rk_12 (i : Nat) (x : Nat → Int32) : Option Int32 := if (¬ x 1 < 0 ∧ (x 1).toNatClampNeg = i) ∧ (¬ x 3 < 0 ∧ (x 3).toNatClampNeg = (3 * i)) ∧ (¬ x 4 < 0 ∧ (x 4).toNatClampNeg = (3 * i + 1)) ∧ (¬ x 5 < 0 ∧ (x 5).toNatClampNeg = (3 * i + 2)) then some 0 else none
theorem rkl_12 {α : Type} {cA : Nat → ClassId} {ad : Nat → Nat → Nat} {i : Nat} {x : Nat → Int32} {f : Int32 → Option α} {r : α} (h : (rk_12 i x).bind f = some r) : ct cA ad 86 i x = ct cA ad 12 i x ∧ f 0 = some r := by
  unfold rk_12 at h
  split at h
  · next q =>
    refine ⟨?_, h⟩
    obtain ⟨h1, h3, h4, h5⟩ := q
    rw [ct_86, ct_12]; unfold fs_86 fs_12; rw [gwref h1, gwref h3, gwref h4, gwref h5]
  · cases h
/-- a new SURV -/
def rz_87 : Nat → Int32 := fun j => if j = 4 ∨ j = 5 ∨ j = 6 ∨ j = 7 ∨ j = 9 ∨ j = 11 ∨ j = 12 then -1 else 0
theorem rzc_87 (cA : Nat → ClassId) (ad : Nat → Nat → Nat) (i : Nat) : ct cA ad 87 i rz_87 = .inr (7, [.int 0, .int 0, .int 0, .int 0, .null, .null, .null, .null, .int 0, .null, .int 0, .null, .null]) := rfl
def rk_14 (i : Nat) (x : Nat → Int32) : Option Int32 := if (¬ x 4 < 0 ∧ (x 4).toNatClampNeg = i) ∧ (¬ x 5 < 0 ∧ (x 5).toNatClampNeg = i) ∧ (¬ x 6 < 0 ∧ (x 6).toNatClampNeg = i) ∧ (¬ x 7 < 0 ∧ (x 7).toNatClampNeg = i) ∧ (¬ x 11 < 0 ∧ (x 11).toNatClampNeg = i) ∧ (¬ x 12 < 0 ∧ (x 12).toNatClampNeg = i) ∧ (¬ x 9 < 0 ∧ (x 9).toNatClampNeg = i) then some 0 else none
theorem rkl_14 {α : Type} {cA : Nat → ClassId} {ad : Nat → Nat → Nat} {i : Nat} {x : Nat → Int32} {f : Int32 → Option α} {r : α} (h : (rk_14 i x).bind f = some r) : ct cA ad 87 i x = ct cA ad 14 i (upd x 9 (-1)) ∧ f 0 = some r := by
  unfold rk_14 at h
  split at h
  · next q =>
    refine ⟨?_, h⟩
    obtain ⟨h4, h5, h6, h7, h11, h12, h9⟩ := q
    have e1 : fs_87 ad i x = [.int (x 0), .int (x 1), .int (x 2), .int (x 3), .ref (ad 15 i), .ref (ad 16 i), .ref (ad 17 i), .ref (ad 18 i), .int (x 8), .ref (ad 19 i), .int (x 10), .ref (ad 20 i), .ref (ad 21 i)] := by unfold fs_87; rw [gwref h4, gwref h5, gwref h6, gwref h7, gwref h11, gwref h12, gwref h9]
    rw [ct_87, e1]
    rfl
  · cases h
/-- a new FACT -/
def rz_88 : Nat → Int32 := fun j => if j = 1 then -1 else 0
theorem rzc_88 (cA : Nat → ClassId) (ad : Nat → Nat → Nat) (i : Nat) : ct cA ad 88 i rz_88 = .inr (1, [.int 0, .null, .int 0, .int 0, .int 0, .int 0, .int 0]) := rfl
def rk_23 (i : Nat) (x : Nat → Int32) : Option Int32 := if True then some 0 else none
theorem rkl_23 {α : Type} {cA : Nat → ClassId} {ad : Nat → Nat → Nat} {i : Nat} {x : Nat → Int32} {f : Int32 → Option α} {r : α} (h : (rk_23 i x).bind f = some r) : ct cA ad 88 i x = ct cA ad 23 i x ∧ f 0 = some r := by
  unfold rk_23 at h
  split at h
  · next q =>
    refine ⟨?_, h⟩
    have _ := q
    rfl
  · cases h
/-- a new TEXT -/
def rz_89 : Nat → Int32 := fun j => if j = 0 then -1 else 0
theorem rzc_89 (cA : Nat → ClassId) (ad : Nat → Nat → Nat) (i : Nat) : ct cA ad 89 i rz_89 = .inr (8, [.null, .int 0]) := rfl
def rk_26 (i : Nat) (x : Nat → Int32) : Option Int32 := if (¬ x 0 < 0 ∧ (x 0).toNatClampNeg = i) then some 0 else none
theorem rkl_26 {α : Type} {cA : Nat → ClassId} {ad : Nat → Nat → Nat} {i : Nat} {x : Nat → Int32} {f : Int32 → Option α} {r : α} (h : (rk_26 i x).bind f = some r) : ct cA ad 89 i x = ct cA ad 26 i x ∧ f 0 = some r := by
  unfold rk_26 at h
  split at h
  · next q =>
    refine ⟨?_, h⟩
    have h0 := q
    rw [ct_89, ct_26]; unfold fs_89 fs_26; rw [gwref h0]
  · cases h
/-- a new READER -/
def rz_90 : Nat → Int32 := fun j => if j = 1 ∨ j = 2 ∨ j = 3 ∨ j = 4 ∨ j = 5 ∨ j = 6 ∨ j = 7 ∨ j = 8 ∨ j = 9 then -1 else 0
theorem rzc_90 (cA : Nat → ClassId) (ad : Nat → Nat → Nat) (i : Nat) : ct cA ad 90 i rz_90 = .inr (6, [.int 0, .null, .null, .null, .null, .null, .null, .null, .null, .null]) := rfl
def rk_29 (i : Nat) (x : Nat → Int32) : Option Int32 := if (¬ x 1 < 0 ∧ (x 1).toNatClampNeg = 0) ∧ (¬ x 2 < 0 ∧ (x 2).toNatClampNeg = 0) ∧ (¬ x 3 < 0 ∧ (x 3).toNatClampNeg = 0) ∧ (¬ x 4 < 0 ∧ (x 4).toNatClampNeg = 0) ∧ (¬ x 5 < 0 ∧ (x 5).toNatClampNeg = 0) ∧ (¬ x 6 < 0 ∧ (x 6).toNatClampNeg = 0) ∧ (¬ x 7 < 0 ∧ (x 7).toNatClampNeg = 0) ∧ (¬ x 8 < 0 ∧ (x 8).toNatClampNeg = 0) ∧ (¬ x 9 < 0 ∧ (x 9).toNatClampNeg = 0) then some 0 else none
theorem rkl_29 {α : Type} {cA : Nat → ClassId} {ad : Nat → Nat → Nat} {i : Nat} {x : Nat → Int32} {f : Int32 → Option α} {r : α} (h : (rk_29 i x).bind f = some r) : ct cA ad 90 i x = ct cA ad 29 i x ∧ f 0 = some r := by
  unfold rk_29 at h
  split at h
  · next q =>
    refine ⟨?_, h⟩
    obtain ⟨h1, h2, h3, h4, h5, h6, h7, h8, h9⟩ := q
    rw [ct_90, ct_29]; unfold fs_90 fs_29; rw [gwref h1, gwref h2, gwref h3, gwref h4, gwref h5, gwref h6, gwref h7, gwref h8, gwref h9]
  · cases h
/-- a new MATCHER -/
def rz_91 : Nat → Int32 := fun j => if j = 2 then -1 else 0
theorem rzc_91 (cA : Nat → ClassId) (ad : Nat → Nat → Nat) (i : Nat) : ct cA ad 91 i rz_91 = .inr (4, [.int 0, .int 0, .null]) := rfl
def rk_40 (i : Nat) (x : Nat → Int32) : Option Int32 := if (¬ x 2 < 0 ∧ (x 2).toNatClampNeg = 0) then some 0 else none
theorem rkl_40 {α : Type} {cA : Nat → ClassId} {ad : Nat → Nat → Nat} {i : Nat} {x : Nat → Int32} {f : Int32 → Option α} {r : α} (h : (rk_40 i x).bind f = some r) : ct cA ad 91 i x = ct cA ad 40 i x ∧ f 0 = some r := by
  unfold rk_40 at h
  split at h
  · next q =>
    refine ⟨?_, h⟩
    have h2 := q
    rw [ct_91, ct_40]; unfold fs_91 fs_40; rw [gwref h2]
  · cases h
/-- a new MODEL -/
def rz_92 : Nat → Int32 := fun j => if j = 1 ∨ j = 2 ∨ j = 3 ∨ j = 4 ∨ j = 5 ∨ j = 6 ∨ j = 7 ∨ j = 8 ∨ j = 9 ∨ j = 10 ∨ j = 11 ∨ j = 12 ∨ j = 13 ∨ j = 14 ∨ j = 16 ∨ j = 18 ∨ j = 19 ∨ j = 21 ∨ j = 22 ∨ j = 24 ∨ j = 25 ∨ j = 26 ∨ j = 27 ∨ j = 28 ∨ j = 31 ∨ j = 32 ∨ j = 33 ∨ j = 34 ∨ j = 35 ∨ j = 36 ∨ j = 37 ∨ j = 38 ∨ j = 39 ∨ j = 41 ∨ j = 43 ∨ j = 44 ∨ j = 45 then -1 else 0
theorem rzc_92 (cA : Nat → ClassId) (ad : Nat → Nat → Nat) (i : Nat) : ct cA ad 92 i rz_92 = .inr (10, [.int 0, .null, .null, .null, .null, .null, .null, .null, .null, .null, .null, .null, .null, .null, .null, .int 0, .null, .int 0, .null, .null, .int 0, .null, .null, .int 0, .null, .null, .null, .null, .null, .int 0, .int 0, .null, .null, .null, .null, .null, .null, .null, .null, .null, .int 0, .null, .int 0, .null, .null, .null, .int 0]) := rfl
def rk_43 (i : Nat) (x : Nat → Int32) : Option Int32 := if ([1, 2, 3, 4, 5, 6, 7, 8, 9, 10, 11, 12, 13, 14, 16, 18, 19, 21, 22, 24, 25, 26, 27, 28, 31, 32, 33, 34, 35, 36, 37, 38, 39, 41, 43, 44, 45].all fun j => decide (¬ x j < 0 ∧ (x j).toNatClampNeg = 0)) = true then some 0 else none
theorem rkl_43 {α : Type} {cA : Nat → ClassId} {ad : Nat → Nat → Nat} {i : Nat} {x : Nat → Int32} {f : Int32 → Option α} {r : α} (h : (rk_43 i x).bind f = some r) : ct cA ad 92 i x = ct cA ad 43 i x ∧ f 0 = some r := by
  unfold rk_43 at h
  split at h
  · next q =>
    refine ⟨?_, h⟩
    have h1 := of_decide_eq_true (List.all_eq_true.mp q 1 (by decide))
    have h2 := of_decide_eq_true (List.all_eq_true.mp q 2 (by decide))
    have h3 := of_decide_eq_true (List.all_eq_true.mp q 3 (by decide))
    have h4 := of_decide_eq_true (List.all_eq_true.mp q 4 (by decide))
    have h5 := of_decide_eq_true (List.all_eq_true.mp q 5 (by decide))
    have h6 := of_decide_eq_true (List.all_eq_true.mp q 6 (by decide))
    have h7 := of_decide_eq_true (List.all_eq_true.mp q 7 (by decide))
    have h8 := of_decide_eq_true (List.all_eq_true.mp q 8 (by decide))
    have h9 := of_decide_eq_true (List.all_eq_true.mp q 9 (by decide))
    have h10 := of_decide_eq_true (List.all_eq_true.mp q 10 (by decide))
    have h11 := of_decide_eq_true (List.all_eq_true.mp q 11 (by decide))
    have h12 := of_decide_eq_true (List.all_eq_true.mp q 12 (by decide))
    have h13 := of_decide_eq_true (List.all_eq_true.mp q 13 (by decide))
    have h14 := of_decide_eq_true (List.all_eq_true.mp q 14 (by decide))
    have h16 := of_decide_eq_true (List.all_eq_true.mp q 16 (by decide))
    have h18 := of_decide_eq_true (List.all_eq_true.mp q 18 (by decide))
    have h19 := of_decide_eq_true (List.all_eq_true.mp q 19 (by decide))
    have h21 := of_decide_eq_true (List.all_eq_true.mp q 21 (by decide))
    have h22 := of_decide_eq_true (List.all_eq_true.mp q 22 (by decide))
    have h24 := of_decide_eq_true (List.all_eq_true.mp q 24 (by decide))
    have h25 := of_decide_eq_true (List.all_eq_true.mp q 25 (by decide))
    have h26 := of_decide_eq_true (List.all_eq_true.mp q 26 (by decide))
    have h27 := of_decide_eq_true (List.all_eq_true.mp q 27 (by decide))
    have h28 := of_decide_eq_true (List.all_eq_true.mp q 28 (by decide))
    have h31 := of_decide_eq_true (List.all_eq_true.mp q 31 (by decide))
    have h32 := of_decide_eq_true (List.all_eq_true.mp q 32 (by decide))
    have h33 := of_decide_eq_true (List.all_eq_true.mp q 33 (by decide))
    have h34 := of_decide_eq_true (List.all_eq_true.mp q 34 (by decide))
    have h35 := of_decide_eq_true (List.all_eq_true.mp q 35 (by decide))
    have h36 := of_decide_eq_true (List.all_eq_true.mp q 36 (by decide))
    have h37 := of_decide_eq_true (List.all_eq_true.mp q 37 (by decide))
    have h38 := of_decide_eq_true (List.all_eq_true.mp q 38 (by decide))
    have h39 := of_decide_eq_true (List.all_eq_true.mp q 39 (by decide))
    have h41 := of_decide_eq_true (List.all_eq_true.mp q 41 (by decide))
    have h43 := of_decide_eq_true (List.all_eq_true.mp q 43 (by decide))
    have h44 := of_decide_eq_true (List.all_eq_true.mp q 44 (by decide))
    have h45 := of_decide_eq_true (List.all_eq_true.mp q 45 (by decide))
    rw [ct_92, ct_43]; unfold fs_92 fs_43; rw [gwref h1, gwref h2, gwref h3, gwref h4, gwref h5, gwref h6, gwref h7, gwref h8, gwref h9, gwref h10, gwref h11, gwref h12, gwref h13, gwref h14, gwref h16, gwref h18, gwref h19, gwref h21, gwref h22, gwref h24, gwref h25, gwref h26, gwref h27, gwref h28, gwref h31, gwref h32, gwref h33, gwref h34, gwref h35, gwref h36, gwref h37, gwref h38, gwref h39, gwref h41, gwref h43, gwref h44, gwref h45]
  · cases h
theorem al_0 {ad : Nat → Nat → Nat} (h : gAl ad) (i : Nat) : ad 82 i = ad 0 i := (h i).1
theorem al_1 {ad : Nat → Nat → Nat} (h : gAl ad) (i : Nat) : ad 83 i = ad 1 i := (h i).2.1
theorem al_5 {ad : Nat → Nat → Nat} (h : gAl ad) (i : Nat) : ad 84 i = ad 5 i := (h i).2.2.1
theorem al_7 {ad : Nat → Nat → Nat} (h : gAl ad) (i : Nat) : ad 85 i = ad 7 i := (h i).2.2.2.1
theorem al_12 {ad : Nat → Nat → Nat} (h : gAl ad) (i : Nat) : ad 86 i = ad 12 i := (h i).2.2.2.2.1
theorem al_14 {ad : Nat → Nat → Nat} (h : gAl ad) (i : Nat) : ad 87 i = ad 14 i := (h i).2.2.2.2.2.1
theorem al_23 {ad : Nat → Nat → Nat} (h : gAl ad) (i : Nat) : ad 88 i = ad 23 i := (h i).2.2.2.2.2.2.1
theorem al_26 {ad : Nat → Nat → Nat} (h : gAl ad) (i : Nat) : ad 89 i = ad 26 i := (h i).2.2.2.2.2.2.2.1
theorem al_29 {ad : Nat → Nat → Nat} (h : gAl ad) (i : Nat) : ad 90 i = ad 29 i := (h i).2.2.2.2.2.2.2.2.1
theorem al_40 {ad : Nat → Nat → Nat} (h : gAl ad) (i : Nat) : ad 91 i = ad 40 i := (h i).2.2.2.2.2.2.2.2.2.1
theorem al_43 {ad : Nat → Nat → Nat} (h : gAl ad) (i : Nat) : ad 92 i = ad 43 i := (h i).2.2.2.2.2.2.2.2.2.2
