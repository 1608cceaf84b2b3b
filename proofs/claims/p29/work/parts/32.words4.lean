/-! words of the constructors -/
theorem ob_X6_3 : Cond.methodLink RX6 3 objectInit ∈ gTB := (gTB_in 198 (by decide +kernel) rfl)
theorem pf_X6_15 : gPF RX6 15 6 1 (tyX6 1) := ⟨RX6, TX6, 10, tyX6, rfl, Nat.le_of_ble_eq_true rfl, kin_6, tyX6_ok, nmX6, rfl, rfl, rfl, (gTB_in 203 (by decide +kernel) rfl)⟩
theorem pf_X6_19 : gPF RX6 19 6 2 (tyX6 2) := ⟨RX6, TX6, 10, tyX6, rfl, Nat.le_of_ble_eq_true rfl, kin_6, tyX6_ok, nmX6, rfl, rfl, rfl, (gTB_in 204 (by decide +kernel) rfl)⟩
theorem pf_X6_23 : gPF RX6 23 6 3 (tyX6 3) := ⟨RX6, TX6, 10, tyX6, rfl, Nat.le_of_ble_eq_true rfl, kin_6, tyX6_ok, nmX6, rfl, rfl, rfl, (gTB_in 205 (by decide +kernel) rfl)⟩
theorem pf_X6_26 : gPF RX6 26 6 4 (tyX6 4) := ⟨RX6, TX6, 10, tyX6, rfl, Nat.le_of_ble_eq_true rfl, kin_6, tyX6_ok, nmX6, rfl, rfl, rfl, (gTB_in 206 (by decide +kernel) rfl)⟩
theorem pf_X6_29 : gPF RX6 29 6 5 (tyX6 5) := ⟨RX6, TX6, 10, tyX6, rfl, Nat.le_of_ble_eq_true rfl, kin_6, tyX6_ok, nmX6, rfl, rfl, rfl, (gTB_in 207 (by decide +kernel) rfl)⟩
theorem pf_X6_32 : gPF RX6 32 6 6 (tyX6 6) := ⟨RX6, TX6, 10, tyX6, rfl, Nat.le_of_ble_eq_true rfl, kin_6, tyX6_ok, nmX6, rfl, rfl, rfl, (gTB_in 208 (by decide +kernel) rfl)⟩
theorem pf_X6_35 : gPF RX6 35 6 7 (tyX6 7) := ⟨RX6, TX6, 10, tyX6, rfl, Nat.le_of_ble_eq_true rfl, kin_6, tyX6_ok, nmX6, rfl, rfl, rfl, (gTB_in 209 (by decide +kernel) rfl)⟩
theorem cl_X6_38 : Cond.classLink RX6 38 "[[I" ∈ gTB := (gTB_in 199 (by decide +kernel) rfl)
theorem pf_X6_40 : gPF RX6 40 6 8 (tyX6 8) := ⟨RX6, TX6, 10, tyX6, rfl, Nat.le_of_ble_eq_true rfl, kin_6, tyX6_ok, nmX6, rfl, rfl, rfl, (gTB_in 210 (by decide +kernel) rfl)⟩
theorem pf_X6_43 : gPF RX6 43 6 9 (tyX6 9) := ⟨RX6, TX6, 10, tyX6, rfl, Nat.le_of_ble_eq_true rfl, kin_6, tyX6_ok, nmX6, rfl, rfl, rfl, (gTB_in 211 (by decide +kernel) rfl)⟩
