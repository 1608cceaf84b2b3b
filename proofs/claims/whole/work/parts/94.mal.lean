/-! the sheets' methods don't look at the names alive -/
theorem K0_al (a al al2 : Nat → Nat → Bool) (N : Nat) (nw : List (Nat × Nat)) (a1 a2 a3 a4 a5 a6 : Int32) (X : gM) : K0 a al N nw a1 a2 a3 a4 a5 a6 X = K0 a al2 N nw a1 a2 a3 a4 a5 a6 X := rfl
theorem K7_al (a al al2 : Nat → Nat → Bool) (N : Nat) (nw : List (Nat × Nat)) (a1 a2 a3 a4 a5 a6 : Int32) (X : gM) : K7 a al N nw a1 a2 a3 a4 a5 a6 X = K7 a al2 N nw a1 a2 a3 a4 a5 a6 X := rfl
theorem K8_al (a al al2 : Nat → Nat → Bool) (N : Nat) (nw : List (Nat × Nat)) (a1 a2 a3 a4 a5 a6 : Int32) (X : gM) : K8 a al N nw a1 a2 a3 a4 a5 a6 X = K8 a al2 N nw a1 a2 a3 a4 a5 a6 X := rfl
theorem K12_al (a al al2 : Nat → Nat → Bool) (N : Nat) (nw : List (Nat × Nat)) (a1 a2 a3 a4 a5 a6 : Int32) (X : gM) : K12 a al N nw a1 a2 a3 a4 a5 a6 X = K12 a al2 N nw a1 a2 a3 a4 a5 a6 X := rfl
