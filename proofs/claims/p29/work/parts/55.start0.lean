/-! the names and the memory at the start -/
theorem gWf_of {NL : List (Nat × Nat)} (h : (NL.all fun n => (gsr n.1 n.2).all fun q => decide (q ∈ NL)) = true) : gWf NL := by
  intro K i q hm hq
  have h1 := List.all_eq_true.mp h (K, i) hm
  have h2 := List.all_eq_true.mp h1 q hq
  exact of_decide_eq_true h2
/-- the names alive when the law's rounds begin -/
abbrev gNI : List (Nat × Nat) := [] ++ [(0, 0)] ++ nw_X9_init
/-- the memory when the law's rounds begin, what the sheets make behind it -/
def KI (N : Nat) : Option (Int32 × gM) := gl (msl (fun _ _ _ => 0) 82 0 rz_82) fun X1 => bind2 (X9_init (gal ([] ++ [(82, 0)])) N X1) fun _ X2 => (rk_0 0 (X2 82 0)).bind fun _ => gl (msl X2 0 0 (X2 82 0)) fun X3 => gl (msl X3 92 0 rz_92) fun X4 => bind2 (X10_init (fun _ _ => true) N X4) fun _ X5 => (rk_43 0 (X5 92 0)).bind fun _ => gl (msl X5 43 0 (X5 92 0)) fun X6 => some ((0 : Int32), msl X6 81 0 (fun _ => 0))
/-- a world of names that the law's rounds keep -/
def gJw (J : List (Nat × Nat) → gM → Prop) : Prop := ∀ NL X, J NL X → gWf NL ∧ gDy NL X ∧ (0, 0) ∈ NL ∧ ∀ n ∈ NL, n.1 < 43
