/-! words -/
theorem ob_X8_1 : Cond.methodLink RX8 1 objectInit ∈ gTB := (gTB_in 679 (by decide +kernel) rfl)
theorem ls_X8_7 : Cond.methodLink RX8 7 yJ7_copyOf_59c91 ∈ gTB := (gTB_in 680 (by decide +kernel) rfl)
theorem ix_J7_copyOf_59c91 : gI yJ7_copyOf_59c91 cJ7_copyOf_59c91 3 (some (.array .int)) 2 := ⟨(gTB_in 682 (by decide +kernel) rfl), (gTB_in 64 (by decide +kernel) rfl), by decide +kernel⟩
theorem is_J7_copyOf_59c91 : Cond.static yJ7_copyOf_59c91 ∈ gTB := (gTB_in 681 (by decide +kernel) rfl)
theorem pf_X8_13 : gPF RX8 13 8 0 (tyX8 0) := ⟨RX8, TX8, 2, tyX8, rfl, Nat.le_of_ble_eq_true rfl, kin_8, tyX8_ok, nmX8, rfl, rfl, rfl, (gTB_in 694 (by decide +kernel) rfl)⟩
theorem pf_X8_19 : gPF RX8 19 8 1 (tyX8 1) := ⟨RX8, TX8, 2, tyX8, rfl, Nat.le_of_ble_eq_true rfl, kin_8, tyX8_ok, nmX8, rfl, rfl, rfl, (gTB_in 697 (by decide +kernel) rfl)⟩
