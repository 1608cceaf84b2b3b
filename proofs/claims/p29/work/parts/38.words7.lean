/-! words -/
theorem ob_X2_3 : Cond.methodLink RX2 3 objectInit ∈ gTB := (gTB_in 568 (by decide +kernel) rfl)
theorem px_X2_9 : gP RX2 9 2 5 (tyX2 5) := ⟨RX2, TX2, 13, tyX2, rfl, Nat.le_of_ble_eq_true rfl, kin_2, tyX2_ok, nmX2, rfl, rfl, Or.inl (gTB_in 603 (by decide +kernel) rfl)⟩
theorem px_X2_15 : gP RX2 15 2 6 (tyX2 6) := ⟨RX2, TX2, 13, tyX2, rfl, Nat.le_of_ble_eq_true rfl, kin_2, tyX2_ok, nmX2, rfl, rfl, Or.inl (gTB_in 605 (by decide +kernel) rfl)⟩
theorem px_X2_18 : gP RX2 18 2 7 (tyX2 7) := ⟨RX2, TX2, 13, tyX2, rfl, Nat.le_of_ble_eq_true rfl, kin_2, tyX2_ok, nmX2, rfl, rfl, Or.inl (gTB_in 608 (by decide +kernel) rfl)⟩
theorem px_X2_21 : gP RX2 21 2 8 (tyX2 8) := ⟨RX2, TX2, 13, tyX2, rfl, Nat.le_of_ble_eq_true rfl, kin_2, tyX2_ok, nmX2, rfl, rfl, Or.inl (gTB_in 610 (by decide +kernel) rfl)⟩
theorem px_X2_24 : gP RX2 24 2 9 (tyX2 9) := ⟨RX2, TX2, 13, tyX2, rfl, Nat.le_of_ble_eq_true rfl, kin_2, tyX2_ok, nmX2, rfl, rfl, Or.inl (gTB_in 612 (by decide +kernel) rfl)⟩
theorem px_X2_27 : gP RX2 27 2 10 (tyX2 10) := ⟨RX2, TX2, 13, tyX2, rfl, Nat.le_of_ble_eq_true rfl, kin_2, tyX2_ok, nmX2, rfl, rfl, Or.inl (gTB_in 614 (by decide +kernel) rfl)⟩
theorem px_X2_30 : gP RX2 30 2 11 (tyX2 11) := ⟨RX2, TX2, 13, tyX2, rfl, Nat.le_of_ble_eq_true rfl, kin_2, tyX2_ok, nmX2, rfl, rfl, Or.inl (gTB_in 616 (by decide +kernel) rfl)⟩
theorem px_X2_33 : gP RX2 33 2 12 (tyX2 12) := ⟨RX2, TX2, 13, tyX2, rfl, Nat.le_of_ble_eq_true rfl, kin_2, tyX2_ok, nmX2, rfl, rfl, Or.inl (gTB_in 618 (by decide +kernel) rfl)⟩
theorem pf_X2_36 : gPF RX2 36 2 0 (tyX2 0) := ⟨RX2, TX2, 13, tyX2, rfl, Nat.le_of_ble_eq_true rfl, kin_2, tyX2_ok, nmX2, rfl, rfl, rfl, (gTB_in 594 (by decide +kernel) rfl)⟩
theorem pf_X2_39 : gPF RX2 39 2 1 (tyX2 1) := ⟨RX2, TX2, 13, tyX2, rfl, Nat.le_of_ble_eq_true rfl, kin_2, tyX2_ok, nmX2, rfl, rfl, rfl, (gTB_in 597 (by decide +kernel) rfl)⟩
theorem pf_X2_43 : gPF RX2 43 2 2 (tyX2 2) := ⟨RX2, TX2, 13, tyX2, rfl, Nat.le_of_ble_eq_true rfl, kin_2, tyX2_ok, nmX2, rfl, rfl, rfl, (gTB_in 599 (by decide +kernel) rfl)⟩
theorem pf_X2_46 : gPF RX2 46 2 3 (tyX2 3) := ⟨RX2, TX2, 13, tyX2, rfl, Nat.le_of_ble_eq_true rfl, kin_2, tyX2_ok, nmX2, rfl, rfl, rfl, (gTB_in 600 (by decide +kernel) rfl)⟩
theorem cl_X2_49 : Cond.classLink RX2 49 "Undertext$Cell" ∈ gTB := (gTB_in 569 (by decide +kernel) rfl)
theorem pf_X2_51 : gPF RX2 51 2 4 (tyX2 4) := ⟨RX2, TX2, 13, tyX2, rfl, Nat.le_of_ble_eq_true rfl, kin_2, tyX2_ok, nmX2, rfl, rfl, rfl, (gTB_in 602 (by decide +kernel) rfl)⟩
theorem im_X0_init : Cond.instanceMethod yX0_init ∈ gTB := (gTB_in 572 (by decide +kernel) rfl)
theorem nx_X2_49 : gNw RX2 49 0 5 [.null, .null, .null, .int 0, .int 0] := ⟨RX0, TX0, tyX0, rfl, kin_0, tyX0_ok, (gTB_in 569 (by decide +kernel) rfl), (gTB_in 391 (by decide +kernel) rfl), (gTB_in 74 (by decide +kernel) rfl), fun j hj => by rcases (show j = 0 ∨ j = 1 ∨ j = 2 ∨ j = 3 ∨ j = 4 by omega) with rfl | rfl | rfl | rfl | rfl <;> rfl⟩
theorem ix_X0_init : gI yX0_init cX0_init 1 none 0 := ⟨(gTB_in 573 (by decide +kernel) rfl), (gTB_in 74 (by decide +kernel) rfl), by decide +kernel⟩
theorem lk_X2_55 : gLk RX2 55 yX0_init := Or.inr ⟨"Undertext", (gNB_in 571 (by decide +kernel) rfl)⟩
