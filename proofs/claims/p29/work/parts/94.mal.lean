/-! the sheets' methods don't look at the names alive -/
theorem al_lo4 (al al2 : Nat → Nat → Bool) (N : Nat) (k : Int32 → gM → Option (Int32 × gM)) (n : Nat) : ∀ p1 p2 p3 X, X10_leavesOf_L4 al N k n p1 p2 p3 X = X10_leavesOf_L4 al2 N k n p1 p2 p3 X := by
  induction n with
  | zero => intros; rfl
  | succ n ih => intros; simp only [X10_leavesOf_L4, X10_leavesOf_J28, gl_eq, ih]
theorem al_lo (al al2 : Nat → Nat → Bool) (N : Nat) (p1 : Int32) (X : gM) : X10_leavesOf al N p1 X = X10_leavesOf al2 N p1 X := by
  simp only [X10_leavesOf, X10_leavesOf_J36, al_lo4 al al2]
theorem K0_al (a al al2 : Nat → Nat → Bool) (N : Nat) (nw : List (Nat × Nat)) (a1 a2 a3 a4 a5 a6 : Int32) (X : gM) : K0 a al N nw a1 a2 a3 a4 a5 a6 X = K0 a al2 N nw a1 a2 a3 a4 a5 a6 X := by
  have h60 : ∀ s1 Y, X10_leaf_J60 al N a1 a2 a3 a4 a5 s1 Y = X10_leaf_J60 al2 N a1 a2 a3 a4 a5 s1 Y := fun s1 Y => by
    unfold X10_leaf_J60
    simp only [al_lo al al2]
    rfl
  simp only [K0, X10_leaf, X10_leaf_J55, h60, thr_eq, X10_in_eq]
theorem al_w174 (al al2 : Nat → Nat → Bool) (N : Nat) (k : Int32 → gM → Option (Int32 × gM)) (n : Nat) : ∀ p1 p2 X, X10_word_L174 al N k n p1 p2 X = X10_word_L174 al2 N k n p1 p2 X := by
  induction n with
  | zero => intros; rfl
  | succ n ih => intros; simp only [X10_word_L174, gl_eq, ih]
theorem al_w70 (al al2 : Nat → Nat → Bool) (N : Nat) (k : Int32 → Int32 → Int32 → gM → Option (Int32 × gM)) (n : Nat) : ∀ p1 p2 p3 p4 X, X10_word_L70 al N k n p1 p2 p3 p4 X = X10_word_L70 al2 N k n p1 p2 p3 p4 X := by
  induction n with
  | zero => intros; rfl
  | succ n ih => intros; simp only [X10_word_L70, X10_word_J110, gl_eq, ih]
theorem al_w37 (al al2 : Nat → Nat → Bool) (N : Nat) (k : Int32 → gM → Option (Int32 × gM)) (n : Nat) : ∀ p1 p2 X, X10_word_L37 al N k n p1 p2 X = X10_word_L37 al2 N k n p1 p2 X := by
  induction n with
  | zero => intros; rfl
  | succ n ih => intros; simp only [X10_word_L37, X10_word_J66, X10_word_J117, X10_word_J126, gl_eq, al_w70 al al2, ih]
theorem K7_al (a al al2 : Nat → Nat → Bool) (N : Nat) (nw : List (Nat × Nat)) (a1 a2 a3 a4 a5 a6 : Int32) (X : gM) : K7 a al N nw a1 a2 a3 a4 a5 a6 X = K7 a al2 N nw a1 a2 a3 a4 a5 a6 X := by
  simp only [K7, X10_word, X10_word_J22, X10_word_J17, X10_word_J133, X10_word_J147, X10_word_J152, X10_word_J208, X10_word_J231, al_w37 al al2, al_w174 al al2, thr_eq]
theorem al_k35 (al al2 : Nat → Nat → Bool) (N : Nat) (k : gM → Option (Int32 × gM)) (n : Nat) : ∀ p1 X, X10_work_L35 al N k n p1 X = X10_work_L35 al2 N k n p1 X := by
  induction n with
  | zero => intros; rfl
  | succ n ih => intros; simp only [X10_work_L35, gl_eq, ih]
theorem K8_al (a al al2 : Nat → Nat → Bool) (N : Nat) (nw : List (Nat × Nat)) (a1 a2 a3 a4 a5 a6 : Int32) (X : gM) : K8 a al N nw a1 a2 a3 a4 a5 a6 X = K8 a al2 N nw a1 a2 a3 a4 a5 a6 X := by
  simp only [K8, X10_work, X10_work_J16, X10_work_J21, X10_work_J69, al_k35 al al2, thr_eq]
theorem K12_al (a al al2 : Nat → Nat → Bool) (N : Nat) (nw : List (Nat × Nat)) (a1 a2 a3 a4 a5 a6 : Int32) (X : gM) : K12 a al N nw a1 a2 a3 a4 a5 a6 X = K12 a al2 N nw a1 a2 a3 a4 a5 a6 X := rfl
