/-! words of the constructors -/
theorem ob_X9_3 : Cond.methodLink RX9 3 objectInit ∈ gTB := (gTB_in 83 (by decide +kernel) rfl)
theorem nx_X9_9 : gNw RX9 9 3 2 [.null, .null] := ⟨RX3, TX3, tyX3, rfl, kin_3, tyX3_ok, (gTB_in 86 (by decide +kernel) rfl), (gTB_in 87 (by decide +kernel) rfl), (gTB_in 59 (by decide +kernel) rfl), fun j hj => by rcases (show j = 0 ∨ j = 1 by omega) with rfl | rfl <;> rfl⟩
theorem lk_X9_11 : gLk RX9 11 yX3_init := Or.inr ⟨"Undertext", (gNB_in 88 (by decide +kernel) rfl)⟩
theorem im_X3_init : Cond.instanceMethod yX3_init ∈ gTB := (gTB_in 89 (by decide +kernel) rfl)
theorem ix_X3_init : gI yX3_init cX3_init 1 none 0 := ⟨(gTB_in 90 (by decide +kernel) rfl), (gTB_in 59 (by decide +kernel) rfl), by decide +kernel⟩
theorem pf_X9_12 : gPF RX9 12 9 0 (tyX9 0) := ⟨RX9, TX9, 15, tyX9, rfl, Nat.le_of_ble_eq_true rfl, kin_9, tyX9_ok, nmX9, rfl, rfl, rfl, (gTB_in 252 (by decide +kernel) rfl)⟩
theorem cl_X9_16 : Cond.classLink RX9 16 "Undertext$Leaf" ∈ gTB := (gTB_in 104 (by decide +kernel) rfl)
theorem pf_X9_18 : gPF RX9 18 9 1 (tyX9 1) := ⟨RX9, TX9, 15, tyX9, rfl, Nat.le_of_ble_eq_true rfl, kin_9, tyX9_ok, nmX9, rfl, rfl, rfl, (gTB_in 253 (by decide +kernel) rfl)⟩
theorem px_X9_22 : gP RX9 22 9 2 (tyX9 2) := ⟨RX9, TX9, 15, tyX9, rfl, Nat.le_of_ble_eq_true rfl, kin_9, tyX9_ok, nmX9, rfl, rfl, Or.inl (gTB_in 254 (by decide +kernel) rfl)⟩
theorem cl_X9_26 : Cond.classLink RX9 26 "Undertext$Quire" ∈ gTB := (gTB_in 106 (by decide +kernel) rfl)
theorem nx_X9_26 : gNw RX9 26 5 6 [.int 0, .null, .int 0, .null, .null, .null] := ⟨RX5, TX5, tyX5, rfl, kin_5, tyX5_ok, (gTB_in 106 (by decide +kernel) rfl), (gTB_in 108 (by decide +kernel) rfl), (gTB_in 60 (by decide +kernel) rfl), fun j hj => by rcases (show j = 0 ∨ j = 1 ∨ j = 2 ∨ j = 3 ∨ j = 4 ∨ j = 5 by omega) with rfl | rfl | rfl | rfl | rfl | rfl <;> rfl⟩
theorem lk_X9_28 : gLk RX9 28 yX5_init := Or.inr ⟨"Undertext", (gNB_in 109 (by decide +kernel) rfl)⟩
theorem im_X5_init : Cond.instanceMethod yX5_init ∈ gTB := (gTB_in 110 (by decide +kernel) rfl)
theorem ix_X5_init : gI yX5_init cX5_init 1 none 0 := ⟨(gTB_in 111 (by decide +kernel) rfl), (gTB_in 60 (by decide +kernel) rfl), by decide +kernel⟩
theorem pf_X9_29 : gPF RX9 29 9 3 (tyX9 3) := ⟨RX9, TX9, 15, tyX9, rfl, Nat.le_of_ble_eq_true rfl, kin_9, tyX9_ok, nmX9, rfl, rfl, rfl, (gTB_in 255 (by decide +kernel) rfl)⟩
theorem cl_X9_33 : Cond.classLink RX9 33 "Undertext$Fact" ∈ gTB := (gTB_in 190 (by decide +kernel) rfl)
theorem pf_X9_35 : gPF RX9 35 9 4 (tyX9 4) := ⟨RX9, TX9, 15, tyX9, rfl, Nat.le_of_ble_eq_true rfl, kin_9, tyX9_ok, nmX9, rfl, rfl, rfl, (gTB_in 256 (by decide +kernel) rfl)⟩
theorem px_X9_39 : gP RX9 39 9 5 (tyX9 5) := ⟨RX9, TX9, 15, tyX9, rfl, Nat.le_of_ble_eq_true rfl, kin_9, tyX9_ok, nmX9, rfl, rfl, Or.inl (gTB_in 257 (by decide +kernel) rfl)⟩
theorem pf_X9_42 : gPF RX9 42 9 6 (tyX9 6) := ⟨RX9, TX9, 15, tyX9, rfl, Nat.le_of_ble_eq_true rfl, kin_9, tyX9_ok, nmX9, rfl, rfl, rfl, (gTB_in 258 (by decide +kernel) rfl)⟩
theorem cl_X9_49 : Cond.classLink RX9 49 "Undertext$Text" ∈ gTB := (gTB_in 191 (by decide +kernel) rfl)
theorem pf_X9_51 : gPF RX9 51 9 8 (tyX9 8) := ⟨RX9, TX9, 15, tyX9, rfl, Nat.le_of_ble_eq_true rfl, kin_9, tyX9_ok, nmX9, rfl, rfl, rfl, (gTB_in 260 (by decide +kernel) rfl)⟩
theorem px_X9_55 : gP RX9 55 9 9 (tyX9 9) := ⟨RX9, TX9, 15, tyX9, rfl, Nat.le_of_ble_eq_true rfl, kin_9, tyX9_ok, nmX9, rfl, rfl, Or.inl (gTB_in 261 (by decide +kernel) rfl)⟩
theorem pf_X9_58 : gPF RX9 58 9 10 (tyX9 10) := ⟨RX9, TX9, 15, tyX9, rfl, Nat.le_of_ble_eq_true rfl, kin_9, tyX9_ok, nmX9, rfl, rfl, rfl, (gTB_in 262 (by decide +kernel) rfl)⟩
theorem px_X9_61 : gP RX9 61 9 11 (tyX9 11) := ⟨RX9, TX9, 15, tyX9, rfl, Nat.le_of_ble_eq_true rfl, kin_9, tyX9_ok, nmX9, rfl, rfl, Or.inl (gTB_in 263 (by decide +kernel) rfl)⟩
theorem nx_X9_64 : gNw RX9 64 6 10 [.int 0, .null, .null, .null, .null, .null, .null, .null, .null, .null] := ⟨RX6, TX6, tyX6, rfl, kin_6, tyX6_ok, (gTB_in 193 (by decide +kernel) rfl), (gTB_in 194 (by decide +kernel) rfl), (gTB_in 62 (by decide +kernel) rfl), fun j hj => by rcases (show j = 0 ∨ j = 1 ∨ j = 2 ∨ j = 3 ∨ j = 4 ∨ j = 5 ∨ j = 6 ∨ j = 7 ∨ j = 8 ∨ j = 9 by omega) with rfl | rfl | rfl | rfl | rfl | rfl | rfl | rfl | rfl | rfl <;> rfl⟩
theorem lk_X9_66 : gLk RX9 66 yX6_init := Or.inr ⟨"Undertext", (gNB_in 195 (by decide +kernel) rfl)⟩
theorem im_X6_init : Cond.instanceMethod yX6_init ∈ gTB := (gTB_in 196 (by decide +kernel) rfl)
theorem ix_X6_init : gI yX6_init cX6_init 1 none 0 := ⟨(gTB_in 197 (by decide +kernel) rfl), (gTB_in 62 (by decide +kernel) rfl), by decide +kernel⟩
theorem pf_X9_67 : gPF RX9 67 9 12 (tyX9 12) := ⟨RX9, TX9, 15, tyX9, rfl, Nat.le_of_ble_eq_true rfl, kin_9, tyX9_ok, nmX9, rfl, rfl, rfl, (gTB_in 264 (by decide +kernel) rfl)⟩
theorem nx_X9_71 : gNw RX9 71 4 3 [.int 0, .int 0, .null] := ⟨RX4, TX4, tyX4, rfl, kin_4, tyX4_ok, (gTB_in 234 (by decide +kernel) rfl), (gTB_in 235 (by decide +kernel) rfl), (gTB_in 63 (by decide +kernel) rfl), fun j hj => by rcases (show j = 0 ∨ j = 1 ∨ j = 2 by omega) with rfl | rfl | rfl <;> rfl⟩
theorem lk_X9_73 : gLk RX9 73 yX4_init := Or.inr ⟨"Undertext", (gNB_in 236 (by decide +kernel) rfl)⟩
theorem im_X4_init : Cond.instanceMethod yX4_init ∈ gTB := (gTB_in 237 (by decide +kernel) rfl)
theorem ix_X4_init : gI yX4_init cX4_init 1 none 0 := ⟨(gTB_in 238 (by decide +kernel) rfl), (gTB_in 63 (by decide +kernel) rfl), by decide +kernel⟩
theorem pf_X9_74 : gPF RX9 74 9 13 (tyX9 13) := ⟨RX9, TX9, 15, tyX9, rfl, Nat.le_of_ble_eq_true rfl, kin_9, tyX9_ok, nmX9, rfl, rfl, rfl, (gTB_in 265 (by decide +kernel) rfl)⟩
theorem pf_X9_78 : gPF RX9 78 9 14 (tyX9 14) := ⟨RX9, TX9, 15, tyX9, rfl, Nat.le_of_ble_eq_true rfl, kin_9, tyX9_ok, nmX9, rfl, rfl, rfl, (gTB_in 266 (by decide +kernel) rfl)⟩
