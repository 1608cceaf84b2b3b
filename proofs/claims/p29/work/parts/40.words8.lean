/-! words -/
theorem clo_1 : Cond.methodLink RJ7 316 ⟨"[I", "clone", "()Ljava/lang/Object;"⟩ ∈ gTB := (gTB_in 683 (by decide +kernel) rfl)
theorem clo_2 : Cond.sameMethod "[I" "java/lang/Object" "clone" "()Ljava/lang/Object;" ∈ gTB := (gTB_in 684 (by decide +kernel) rfl)
theorem clo_3 : Cond.native ⟨"java/lang/Object", "clone", "()Ljava/lang/Object;"⟩ ∈ gTB := (gTB_in 685 (by decide +kernel) rfl)
theorem clo_4 : Cond.instanceMethod ⟨"java/lang/Object", "clone", "()Ljava/lang/Object;"⟩ ∈ gTB := (gTB_in 686 (by decide +kernel) rfl)
theorem clo_5 : Cond.selects "[I" ⟨"[I", "clone", "()Ljava/lang/Object;"⟩ ⟨"java/lang/Object", "clone", "()Ljava/lang/Object;"⟩ ∈ gTB := (gTB_in 687 (by decide +kernel) rfl)
theorem clo_6 : Cond.castable "[I" "java/lang/Cloneable" ∈ gEB := List.mem_filter.mpr ⟨List.mem_of_getElem? (i := 688) (by decide +kernel), rfl⟩
theorem jm_J7_304 : Cond.methodLink RJ7 304 Lib.Math.min.name ∈ gTB := (gTB_in 690 (by decide +kernel) rfl)
theorem jk_J7_150 : Cond.methodLink RJ7 150 arraycopyName ∈ gTB := (gTB_in 691 (by decide +kernel) rfl)
theorem cl_J7_317 : Cond.classLink RJ7 317 "[I" ∈ gTB := (gTB_in 689 (by decide +kernel) rfl)
abbrev va_E_i (c : ClassId) (k : Nat) (f : Nat → Int32) : va_E := .inl (c, k, .inl f)
