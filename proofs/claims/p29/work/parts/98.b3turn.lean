/-! a turn of the law -/
set_option maxRecDepth 100000 in
set_option maxHeartbeats 4000000 in
theorem s_Q_law_J1133 {p : Program} {l : Launch} {e : Env} {s : State} {m : MethodId} {args : Array Value} {below : List Frame} {meth : Method} {c : Code} {D : va_G} {cA : Nat → ClassId} {ad : Nat → Nat → Nat} {NL : List (Nat × Nat)} {A : Nat → Prop} {Q : State → Prop} {rt : Option FieldType} {b KC KS : Nat} {N : Nat} {q2 q3 q4 q5 p6 p7 : Int32} {XX : gM} (C : gCx p c meth m s args cL_law 13 rt RL D cA ad NL A) (hWd : gWd A s) (htr : l.stackTraces = false) (hW : gWf NL) (hg : ∀ n ∈ NL, n.1 < 43) (hD0 : gD (fun _ => True) ad NL) (ha0 : (0, 0) ∈ NL) (hk1 : (gCx p c meth m s args cL_law 13 rt RL D cA ad NL A → ∀ (H : Heap) (locs : List Loc) (ls : Array Slot) (cells slots : Nat), cells ≤ KC → slots ≤ KS → gH D cA ad NL XX H → va_S A s.heap H locs → lv_has ls 13 [(0, .ref b), (1, .ref (ad 0 0)), (2, .int q2), (3, .int q3), (4, .int q4), (5, .int q5), (6, .int p6), (7, .int p7)] → W p l e room_1 s m args below meth c H locs cells slots Q (F0 m 1135 ls []))) (hKC : KC ≤ room_1.cells ∧ KS ≤ room_1.slots) : ∀ (p2 : Int32) (p3 : Int32) (p4 : Int32) (s0 : Int32) (X : gM) (H : Heap) (locs : List Loc) (ls : Array Slot) (cells slots : Nat), cells + 0 ≤ KC ∧ slots + 0 ≤ KS → gH D cA ad NL X H → va_S A s.heap H locs → lv_has ls 13 [(0, .ref b), (1, .ref (ad 0 0)), (2, .int p2), (3, .int p3), (4, .int p4), (6, .int p6), (7, .int p7)] → Q_law_J1133 (gal NL) N p2 p3 p4 s0 X = some (q2, q3, q4, q5, XX) → W p l e room_1 s m args below meth c H locs cells slots Q (F0 m 1133 ls [.int s0]) := by
  have hx := C.1
  have hb := C.2.1
  intro p2 p3 p4 s0 X H locs ls cells slots hc hP hS hl hf
  rw [Q_law_J1133] at hf
  refine lv_istore (i := 5) (lv' := [(5, .int s0), (0, .ref b), (1, .ref (ad 0 0)), (2, .int p2), (3, .int p3), (4, .int p4), (6, .int p6), (7, .int p7)]) hx hb dL_law_1133 hl (Nat.le_of_ble_eq_true rfl) rfl (fun ls hl => ?_)
  obtain ⟨rfl, rfl, rfl, rfl, rfl⟩ := g_s5 hf
  exact hk1 C H locs ls _ _ (by omega) (by omega) hP hS (lv_sub hl [1, 2, 3, 4, 5, 0, 6, 7] rfl)

set_option maxRecDepth 100000 in
set_option maxHeartbeats 4000000 in
theorem s_Q_law_J1128 {p : Program} {l : Launch} {e : Env} {s : State} {m : MethodId} {args : Array Value} {below : List Frame} {meth : Method} {c : Code} {D : va_G} {cA : Nat → ClassId} {ad : Nat → Nat → Nat} {NL : List (Nat × Nat)} {A : Nat → Prop} {Q : State → Prop} {rt : Option FieldType} {b KC KS : Nat} {N : Nat} {q2 q3 q4 q5 p6 p7 : Int32} {XX : gM} (C : gCx p c meth m s args cL_law 13 rt RL D cA ad NL A) (hWd : gWd A s) (htr : l.stackTraces = false) (hW : gWf NL) (hg : ∀ n ∈ NL, n.1 < 43) (hD0 : gD (fun _ => True) ad NL) (ha0 : (0, 0) ∈ NL) (hk1 : (gCx p c meth m s args cL_law 13 rt RL D cA ad NL A → ∀ (H : Heap) (locs : List Loc) (ls : Array Slot) (cells slots : Nat), cells ≤ KC → slots ≤ KS → gH D cA ad NL XX H → va_S A s.heap H locs → lv_has ls 13 [(0, .ref b), (1, .ref (ad 0 0)), (2, .int q2), (3, .int q3), (4, .int q4), (5, .int q5), (6, .int p6), (7, .int p7)] → W p l e room_1 s m args below meth c H locs cells slots Q (F0 m 1135 ls []))) (hKC : KC ≤ room_1.cells ∧ KS ≤ room_1.slots) : ∀ (p2 : Int32) (p3 : Int32) (p4 : Int32) (X : gM) (H : Heap) (locs : List Loc) (ls : Array Slot) (cells slots : Nat), cells + 0 ≤ KC ∧ slots + 0 ≤ KS → gH D cA ad NL X H → va_S A s.heap H locs → lv_has ls 13 [(0, .ref b), (1, .ref (ad 0 0)), (2, .int p2), (3, .int p3), (4, .int p4), (6, .int p6), (7, .int p7)] → Q_law_J1128 (gal NL) N p2 p3 p4 X = some (q2, q3, q4, q5, XX) → W p l e room_1 s m args below meth c H locs cells slots Q (F0 m 1128 ls []) := by
  have hx := C.1
  have hb := C.2.1
  intro p2 p3 p4 X H locs ls cells slots hc hP hS hl hf
  rw [Q_law_J1128] at hf
  refine lv_iconst (v := 1) hx hb dL_law_1128 (by decide) ?_
  refine lv_goto (tgt := 1133) hx hb dL_law_1129 (by decide) ?_
  exact s_Q_law_J1133 C hWd htr hW hg hD0 ha0 hk1 hKC _ _ _ _ X _ _ _ _ _ ⟨by omega, by omega⟩ hP hS (lv_sub hl [0, 1, 2, 3, 4, 5, 6] rfl) hf

set_option maxRecDepth 100000 in
set_option maxHeartbeats 4000000 in
theorem s_Q_law_J1132 {p : Program} {l : Launch} {e : Env} {s : State} {m : MethodId} {args : Array Value} {below : List Frame} {meth : Method} {c : Code} {D : va_G} {cA : Nat → ClassId} {ad : Nat → Nat → Nat} {NL : List (Nat × Nat)} {A : Nat → Prop} {Q : State → Prop} {rt : Option FieldType} {b KC KS : Nat} {N : Nat} {q2 q3 q4 q5 p6 p7 : Int32} {XX : gM} (C : gCx p c meth m s args cL_law 13 rt RL D cA ad NL A) (hWd : gWd A s) (htr : l.stackTraces = false) (hW : gWf NL) (hg : ∀ n ∈ NL, n.1 < 43) (hD0 : gD (fun _ => True) ad NL) (ha0 : (0, 0) ∈ NL) (hk1 : (gCx p c meth m s args cL_law 13 rt RL D cA ad NL A → ∀ (H : Heap) (locs : List Loc) (ls : Array Slot) (cells slots : Nat), cells ≤ KC → slots ≤ KS → gH D cA ad NL XX H → va_S A s.heap H locs → lv_has ls 13 [(0, .ref b), (1, .ref (ad 0 0)), (2, .int q2), (3, .int q3), (4, .int q4), (5, .int q5), (6, .int p6), (7, .int p7)] → W p l e room_1 s m args below meth c H locs cells slots Q (F0 m 1135 ls []))) (hKC : KC ≤ room_1.cells ∧ KS ≤ room_1.slots) : ∀ (p2 : Int32) (p3 : Int32) (p4 : Int32) (X : gM) (H : Heap) (locs : List Loc) (ls : Array Slot) (cells slots : Nat), cells + 0 ≤ KC ∧ slots + 0 ≤ KS → gH D cA ad NL X H → va_S A s.heap H locs → lv_has ls 13 [(0, .ref b), (1, .ref (ad 0 0)), (2, .int p2), (3, .int p3), (4, .int p4), (6, .int p6), (7, .int p7)] → Q_law_J1132 (gal NL) N p2 p3 p4 X = some (q2, q3, q4, q5, XX) → W p l e room_1 s m args below meth c H locs cells slots Q (F0 m 1132 ls []) := by
  have hx := C.1
  have hb := C.2.1
  intro p2 p3 p4 X H locs ls cells slots hc hP hS hl hf
  rw [Q_law_J1132] at hf
  refine lv_iconst (v := 0) hx hb dL_law_1132 (by decide) ?_
  exact s_Q_law_J1133 C hWd htr hW hg hD0 ha0 hk1 hKC _ _ _ _ X _ _ _ _ _ ⟨by omega, by omega⟩ hP hS (lv_sub hl [0, 1, 2, 3, 4, 5, 6] rfl) hf

set_option maxRecDepth 100000 in
set_option maxHeartbeats 4000000 in
theorem s_Q_law_J1095 {p : Program} {l : Launch} {e : Env} {s : State} {m : MethodId} {args : Array Value} {below : List Frame} {meth : Method} {c : Code} {D : va_G} {cA : Nat → ClassId} {ad : Nat → Nat → Nat} {NL : List (Nat × Nat)} {A : Nat → Prop} {Q : State → Prop} {rt : Option FieldType} {b KC KS : Nat} {N : Nat} {q2 q3 q4 q5 p6 p7 : Int32} {XX : gM} (C : gCx p c meth m s args cL_law 13 rt RL D cA ad NL A) (hWd : gWd A s) (htr : l.stackTraces = false) (hW : gWf NL) (hg : ∀ n ∈ NL, n.1 < 43) (hD0 : gD (fun _ => True) ad NL) (ha0 : (0, 0) ∈ NL) (hk1 : (gCx p c meth m s args cL_law 13 rt RL D cA ad NL A → ∀ (H : Heap) (locs : List Loc) (ls : Array Slot) (cells slots : Nat), cells ≤ KC → slots ≤ KS → gH D cA ad NL XX H → va_S A s.heap H locs → lv_has ls 13 [(0, .ref b), (1, .ref (ad 0 0)), (2, .int q2), (3, .int q3), (4, .int q4), (5, .int q5), (6, .int p6), (7, .int p7)] → W p l e room_1 s m args below meth c H locs cells slots Q (F0 m 1135 ls []))) (hKC : KC ≤ room_1.cells ∧ KS ≤ room_1.slots) : ∀ (p2 : Int32) (p3 : Int32) (p4 : Int32) (p8 : Int32) (p10 : Int32) (X : gM) (H : Heap) (locs : List Loc) (ls : Array Slot) (cells slots : Nat), cells + 14 ≤ KC ∧ slots + 84 ≤ KS → gH D cA ad NL X H → va_S A s.heap H locs → lv_has ls 13 [(0, .ref b), (1, .ref (ad 0 0)), (2, .int p2), (3, .int p3), (4, .int p4), (6, .int p6), (7, .int p7), (8, .int p8), (10, .int p10)] → Q_law_J1095 (gal NL) N p2 p3 p4 p8 p10 X = some (q2, q3, q4, q5, XX) → W p l e room_1 s m args below meth c H locs cells slots Q (F0 m 1095 ls []) := by
  have hx := C.1
  have hb := C.2.1
  intro p2 p3 p4 p8 p10 X H locs ls cells slots hc hP hS hl hf
  rw [Q_law_J1095] at hf
  refine lv_iload_n hx hb dL_law_1095 rfl (lv_at hl 2 rfl) ?_
  refine lv_if_eq (tgt := 1128) hx hb dL_law_1096 (by decide) (fun c1 => ?_) (fun c1 => ?_)
  · have hf := g_ip c1 hf
    exact s_Q_law_J1128 C hWd htr hW hg hD0 ha0 hk1 hKC _ _ _ X _ _ _ _ _ ⟨by omega, by omega⟩ hP hS (lv_sub hl [0, 1, 2, 3, 4, 5, 6] rfl) hf
  · have hf := g_in c1 hf
    refine lv_iload hx hb dL_law_1099 (lv_at hl 7 rfl) ?_
    refine lv_iconst (v := 2) hx hb dL_law_1101 (by decide) ?_
    refine lv_ishr hx hb dL_law_1102 ?_
    refine lv_iconst (v := 3) hx hb dL_law_1103 (by decide) ?_
    refine r_low (rest := []) C hP hS hl.1 (by decide) ls_L_9 ⟨rfl, rfl, Nat.le_of_ble_eq_true rfl, Nat.le_of_ble_eq_true rfl⟩ (Nat.le_of_ble_eq_true rfl) ⟨by omega, by omega⟩ dL_law_1104 (fun locs hP hS => ?_)
    refine g_top hf (fun v2 e3 hf => ?_)
    refine lv_if_gt (tgt := 1128) hx hb dL_law_1107 (by decide) (fun c4 => ?_) (fun c4 => ?_)
    · have hf := g_ip c4 hf
      exact s_Q_law_J1128 C hWd htr hW hg hD0 ha0 hk1 hKC _ _ _ X _ _ _ _ _ ⟨by omega, by omega⟩ hP hS (lv_sub hl [0, 1, 2, 3, 4, 5, 6] rfl) hf
    · have hf := g_in c4 hf
      refine lv_aload_n hx hb dL_law_1110 rfl (lv_at hl 1 rfl) ?_
      refine lv_iload hx hb dL_law_1111 (lv_at hl 8 rfl) ?_
      refine lv_iload hx hb dL_law_1113 (lv_at hl 7 rfl) ?_
      refine lv_bipush (v := 8) hx hb dL_law_1115 (by decide) ?_
      refine r_low (rest := [.int p10, .ref (ad 0 0)]) C hP hS hl.1 (by decide) ls_L_9 ⟨rfl, rfl, Nat.le_of_ble_eq_true rfl, Nat.le_of_ble_eq_true rfl⟩ (Nat.le_of_ble_eq_true rfl) ⟨by omega, by omega⟩ dL_law_1117 (fun locs hP hS => ?_)
      refine g_top hf (fun v5 e6 hf => ?_)
      refine lv_iload hx hb dL_law_1120 (lv_at hl 4 rfl) ?_
      obtain ⟨r8, X7, h9, hf⟩ := b2_in hf
      refine r_callM (rest := []) C hWd hP hS hl.1 rfl (s_Q_line htr hW hD0 ha0 hg h9) ix_L_line is_L_line ls_L_129 ⟨rfl, rfl, Nat.le_of_ble_eq_true rfl, Nat.le_of_ble_eq_true rfl⟩ rfl rfl (Nat.le_of_ble_eq_true rfl) ⟨by omega, by omega⟩ dL_law_1122 (fun H locs hP hS => ?_)
      refine lv_if_eq (tgt := 1132) hx hb dL_law_1125 (by decide) (fun c10 => ?_) (fun c10 => ?_)
      · have hf := g_ip c10 hf
        exact s_Q_law_J1132 C hWd htr hW hg hD0 ha0 hk1 hKC _ _ _ X7 _ _ _ _ _ ⟨by omega, by omega⟩ hP hS (lv_sub hl [0, 1, 2, 3, 4, 5, 6] rfl) hf
      · have hf := g_in c10 hf
        exact s_Q_law_J1128 C hWd htr hW hg hD0 ha0 hk1 hKC _ _ _ X7 _ _ _ _ _ ⟨by omega, by omega⟩ hP hS (lv_sub hl [0, 1, 2, 3, 4, 5, 6] rfl) hf

set_option maxRecDepth 100000 in
set_option maxHeartbeats 4000000 in
theorem s_Q_law_J1065 {p : Program} {l : Launch} {e : Env} {s : State} {m : MethodId} {args : Array Value} {below : List Frame} {meth : Method} {c : Code} {D : va_G} {cA : Nat → ClassId} {ad : Nat → Nat → Nat} {NL : List (Nat × Nat)} {A : Nat → Prop} {Q : State → Prop} {rt : Option FieldType} {b KC KS : Nat} {N : Nat} {q2 q3 q4 q5 p6 p7 : Int32} {XX : gM} (C : gCx p c meth m s args cL_law 13 rt RL D cA ad NL A) (hWd : gWd A s) (htr : l.stackTraces = false) (hW : gWf NL) (hg : ∀ n ∈ NL, n.1 < 43) (hD0 : gD (fun _ => True) ad NL) (ha0 : (0, 0) ∈ NL) (hk1 : (gCx p c meth m s args cL_law 13 rt RL D cA ad NL A → ∀ (H : Heap) (locs : List Loc) (ls : Array Slot) (cells slots : Nat), cells ≤ KC → slots ≤ KS → gH D cA ad NL XX H → va_S A s.heap H locs → lv_has ls 13 [(0, .ref b), (1, .ref (ad 0 0)), (2, .int q2), (3, .int q3), (4, .int q4), (5, .int q5), (6, .int p6), (7, .int p7)] → W p l e room_1 s m args below meth c H locs cells slots Q (F0 m 1135 ls []))) (hKC : KC ≤ room_1.cells ∧ KS ≤ room_1.slots) : ∀ (p2 : Int32) (p3 : Int32) (p4 : Int32) (p8 : Int32) (p10 : Int32) (s0 : Int32) (X : gM) (H : Heap) (locs : List Loc) (ls : Array Slot) (cells slots : Nat), cells + 21 ≤ KC ∧ slots + 126 ≤ KS → gH D cA ad NL X H → va_S A s.heap H locs → lv_has ls 13 [(0, .ref b), (1, .ref (ad 0 0)), (2, .int p2), (3, .int p3), (4, .int p4), (6, .int p6), (7, .int p7), (8, .int p8), (10, .int p10)] → Q_law_J1065 (gal NL) N p2 p3 p4 p8 p10 s0 X = some (q2, q3, q4, q5, XX) → W p l e room_1 s m args below meth c H locs cells slots Q (F0 m 1065 ls [.int s0]) := by
  have hx := C.1
  have hb := C.2.1
  intro p2 p3 p4 p8 p10 s0 X H locs ls cells slots hc hP hS hl hf
  rw [Q_law_J1065] at hf
  refine lv_istore (i := 5) (lv' := [(5, .int s0), (0, .ref b), (1, .ref (ad 0 0)), (2, .int p2), (3, .int p3), (4, .int p4), (6, .int p6), (7, .int p7), (8, .int p8), (10, .int p10)]) hx hb dL_law_1065 hl (Nat.le_of_ble_eq_true rfl) rfl (fun ls hl => ?_)
  refine lv_iload hx hb dL_law_1067 (lv_at hl 0 rfl) ?_
  refine lv_if_eq (tgt := 1132) hx hb dL_law_1069 (by decide) (fun c1 => ?_) (fun c1 => ?_)
  · have hf := g_ip c1 hf
    exact s_Q_law_J1132 C hWd htr hW hg hD0 ha0 hk1 hKC _ _ _ X _ _ _ _ _ ⟨by omega, by omega⟩ hP hS (lv_sub hl [1, 2, 3, 4, 5, 6, 7] rfl) hf
  · have hf := g_in c1 hf
    refine lv_iload_n hx hb dL_law_1072 rfl (lv_at hl 3 rfl) ?_
    refine lv_if_eq (tgt := 1095) hx hb dL_law_1073 (by decide) (fun c2 => ?_) (fun c2 => ?_)
    · have hf := g_ip c2 hf
      exact s_Q_law_J1095 C hWd htr hW hg hD0 ha0 hk1 hKC _ _ _ _ _ X _ _ _ _ _ ⟨by omega, by omega⟩ hP hS (lv_sub hl [1, 2, 3, 4, 5, 6, 7, 8, 9] rfl) hf
    · have hf := g_in c2 hf
      refine lv_iload hx hb dL_law_1076 (lv_at hl 8 rfl) ?_
      refine lv_iconst (v := 5) hx hb dL_law_1078 (by decide) ?_
      refine r_low (rest := []) C hP hS hl.1 (by decide) ls_L_9 ⟨rfl, rfl, Nat.le_of_ble_eq_true rfl, Nat.le_of_ble_eq_true rfl⟩ (Nat.le_of_ble_eq_true rfl) ⟨by omega, by omega⟩ dL_law_1079 (fun locs hP hS => ?_)
      refine g_top hf (fun v3 e4 hf => ?_)
      refine lv_if_gt (tgt := 1095) hx hb dL_law_1082 (by decide) (fun c5 => ?_) (fun c5 => ?_)
      · have hf := g_ip c5 hf
        exact s_Q_law_J1095 C hWd htr hW hg hD0 ha0 hk1 hKC _ _ _ _ _ X _ _ _ _ _ ⟨by omega, by omega⟩ hP hS (lv_sub hl [1, 2, 3, 4, 5, 6, 7, 8, 9] rfl) hf
      · have hf := g_in c5 hf
        refine lv_aload_n hx hb dL_law_1085 rfl (lv_at hl 2 rfl) ?_
        refine lv_iload hx hb dL_law_1086 (lv_at hl 9 rfl) ?_
        refine lv_iload_n hx hb dL_law_1088 rfl (lv_at hl 4 rfl) ?_
        obtain ⟨r7, X6, h8, hf⟩ := b2_in hf
        refine r_callM (rest := []) C hWd hP hS hl.1 rfl (s_Q_leaf htr hW hD0 ha0 hg h8) ix_L_leaf is_L_leaf ls_L_126 ⟨rfl, rfl, Nat.le_of_ble_eq_true rfl, Nat.le_of_ble_eq_true rfl⟩ rfl rfl (Nat.le_of_ble_eq_true rfl) ⟨by omega, by omega⟩ dL_law_1089 (fun H locs hP hS => ?_)
        refine lv_if_eq (tgt := 1132) hx hb dL_law_1092 (by decide) (fun c9 => ?_) (fun c9 => ?_)
        · have hf := g_ip c9 hf
          exact s_Q_law_J1132 C hWd htr hW hg hD0 ha0 hk1 hKC _ _ _ X6 _ _ _ _ _ ⟨by omega, by omega⟩ hP hS (lv_sub hl [1, 2, 3, 4, 5, 6, 7] rfl) hf
        · have hf := g_in c9 hf
          exact s_Q_law_J1095 C hWd htr hW hg hD0 ha0 hk1 hKC _ _ _ _ _ X6 _ _ _ _ _ ⟨by omega, by omega⟩ hP hS (lv_sub hl [1, 2, 3, 4, 5, 6, 7, 8, 9] rfl) hf

set_option maxRecDepth 100000 in
set_option maxHeartbeats 4000000 in
theorem s_Q_law_J1064 {p : Program} {l : Launch} {e : Env} {s : State} {m : MethodId} {args : Array Value} {below : List Frame} {meth : Method} {c : Code} {D : va_G} {cA : Nat → ClassId} {ad : Nat → Nat → Nat} {NL : List (Nat × Nat)} {A : Nat → Prop} {Q : State → Prop} {rt : Option FieldType} {b KC KS : Nat} {N : Nat} {q2 q3 q4 q5 p6 p7 : Int32} {XX : gM} (C : gCx p c meth m s args cL_law 13 rt RL D cA ad NL A) (hWd : gWd A s) (htr : l.stackTraces = false) (hW : gWf NL) (hg : ∀ n ∈ NL, n.1 < 43) (hD0 : gD (fun _ => True) ad NL) (ha0 : (0, 0) ∈ NL) (hk1 : (gCx p c meth m s args cL_law 13 rt RL D cA ad NL A → ∀ (H : Heap) (locs : List Loc) (ls : Array Slot) (cells slots : Nat), cells ≤ KC → slots ≤ KS → gH D cA ad NL XX H → va_S A s.heap H locs → lv_has ls 13 [(0, .ref b), (1, .ref (ad 0 0)), (2, .int q2), (3, .int q3), (4, .int q4), (5, .int q5), (6, .int p6), (7, .int p7)] → W p l e room_1 s m args below meth c H locs cells slots Q (F0 m 1135 ls []))) (hKC : KC ≤ room_1.cells ∧ KS ≤ room_1.slots) : ∀ (p2 : Int32) (p3 : Int32) (p4 : Int32) (p8 : Int32) (p10 : Int32) (X : gM) (H : Heap) (locs : List Loc) (ls : Array Slot) (cells slots : Nat), cells + 21 ≤ KC ∧ slots + 126 ≤ KS → gH D cA ad NL X H → va_S A s.heap H locs → lv_has ls 13 [(0, .ref b), (1, .ref (ad 0 0)), (2, .int p2), (3, .int p3), (4, .int p4), (6, .int p6), (7, .int p7), (8, .int p8), (10, .int p10)] → Q_law_J1064 (gal NL) N p2 p3 p4 p8 p10 X = some (q2, q3, q4, q5, XX) → W p l e room_1 s m args below meth c H locs cells slots Q (F0 m 1064 ls []) := by
  have hx := C.1
  have hb := C.2.1
  intro p2 p3 p4 p8 p10 X H locs ls cells slots hc hP hS hl hf
  rw [Q_law_J1064] at hf
  refine lv_iconst (v := 0) hx hb dL_law_1064 (by decide) ?_
  exact s_Q_law_J1065 C hWd htr hW hg hD0 ha0 hk1 hKC _ _ _ _ _ _ X _ _ _ _ _ ⟨by omega, by omega⟩ hP hS (lv_sub hl [0, 1, 2, 3, 4, 5, 6, 7, 8] rfl) hf

set_option maxRecDepth 100000 in
set_option maxHeartbeats 4000000 in
theorem s_Q_law_J1028 {p : Program} {l : Launch} {e : Env} {s : State} {m : MethodId} {args : Array Value} {below : List Frame} {meth : Method} {c : Code} {D : va_G} {cA : Nat → ClassId} {ad : Nat → Nat → Nat} {NL : List (Nat × Nat)} {A : Nat → Prop} {Q : State → Prop} {rt : Option FieldType} {b KC KS : Nat} {N : Nat} {q2 q3 q4 q5 p6 p7 : Int32} {XX : gM} (C : gCx p c meth m s args cL_law 13 rt RL D cA ad NL A) (hWd : gWd A s) (htr : l.stackTraces = false) (hW : gWf NL) (hg : ∀ n ∈ NL, n.1 < 43) (hD0 : gD (fun _ => True) ad NL) (ha0 : (0, 0) ∈ NL) (hk1 : (gCx p c meth m s args cL_law 13 rt RL D cA ad NL A → ∀ (H : Heap) (locs : List Loc) (ls : Array Slot) (cells slots : Nat), cells ≤ KC → slots ≤ KS → gH D cA ad NL XX H → va_S A s.heap H locs → lv_has ls 13 [(0, .ref b), (1, .ref (ad 0 0)), (2, .int q2), (3, .int q3), (4, .int q4), (5, .int q5), (6, .int p6), (7, .int p7)] → W p l e room_1 s m args below meth c H locs cells slots Q (F0 m 1135 ls []))) (hKC : KC ≤ room_1.cells ∧ KS ≤ room_1.slots) : ∀ (p2 : Int32) (p3 : Int32) (p4 : Int32) (p5 : Int32) (p8 : Int32) (p10 : Int32) (X : gM) (H : Heap) (locs : List Loc) (ls : Array Slot) (cells slots : Nat), cells + 23 ≤ KC ∧ slots + 138 ≤ KS → gH D cA ad NL X H → va_S A s.heap H locs → lv_has ls 13 [(0, .ref b), (1, .ref (ad 0 0)), (2, .int p2), (3, .int p3), (4, .int p4), (5, .int p5), (6, .int p6), (7, .int p7), (8, .int p8), (10, .int p10)] → Q_law_J1028 (gal NL) N p2 p3 p4 p5 p8 p10 X = some (q2, q3, q4, q5, XX) → W p l e room_1 s m args below meth c H locs cells slots Q (F0 m 1028 ls []) := by
  have hx := C.1
  have hb := C.2.1
  intro p2 p3 p4 p5 p8 p10 X H locs ls cells slots hc hP hS hl hf
  rw [Q_law_J1028] at hf
  refine lv_iload hx hb dL_law_1028 (lv_at hl 8 rfl) ?_
  refine lv_iconst (v := 1) hx hb dL_law_1030 (by decide) ?_
  refine lv_ishr hx hb dL_law_1031 ?_
  refine lv_iconst (v := 2) hx hb dL_law_1032 (by decide) ?_
  refine r_low (rest := []) C hP hS hl.1 (by decide) ls_L_9 ⟨rfl, rfl, Nat.le_of_ble_eq_true rfl, Nat.le_of_ble_eq_true rfl⟩ (Nat.le_of_ble_eq_true rfl) ⟨by omega, by omega⟩ dL_law_1033 (fun locs hP hS => ?_)
  refine g_top hf (fun v1 e2 hf => ?_)
  refine lv_istore (i := 11) (lv' := [(11, .int v1), (0, .ref b), (1, .ref (ad 0 0)), (2, .int p2), (3, .int p3), (4, .int p4), (5, .int p5), (6, .int p6), (7, .int p7), (8, .int p8), (10, .int p10)]) hx hb dL_law_1036 hl (Nat.le_of_ble_eq_true rfl) rfl (fun ls hl => ?_)
  refine lv_iload hx hb dL_law_1038 (lv_at hl 6 rfl) ?_
  refine lv_if_eq (tgt := 1064) hx hb dL_law_1040 (by decide) (fun c3 => ?_) (fun c3 => ?_)
  · have hf := g_ip c3 hf
    exact s_Q_law_J1064 C hWd htr hW hg hD0 ha0 hk1 hKC _ _ _ _ _ X _ _ _ _ _ ⟨by omega, by omega⟩ hP hS (lv_sub hl [1, 2, 3, 4, 5, 7, 8, 9, 10] rfl) hf
  · have hf := g_in c3 hf
    refine lv_aload_n hx hb dL_law_1043 rfl (lv_at hl 2 rfl) ?_
    refine lv_iload hx hb dL_law_1044 (lv_at hl 0 rfl) ?_
    refine lv_iconst (v := 1) hx hb dL_law_1046 (by decide) ?_
    obtain ⟨k7, r5, X4, h6, hf⟩ := b3_in hf
    refine r_callX (nw := []) (rest := []) C hWd.1 hWd.2.1 hWd.2.2.1 hP hS hl.1 rfl (gCX_A (s_P_arrangements htr hW hD0 ha0 hg h6)) True.intro ix_X9_arrangements iv_X9_arrangements ls_L_97 ⟨rfl, rfl, Nat.le_of_ble_eq_true rfl, Nat.le_of_ble_eq_true rfl⟩ ha0 (ct_0 _ _ _ _) rfl rfl rfl rfl (Nat.le_of_ble_eq_true rfl) ⟨by omega, by omega⟩ dL_law_1047 (fun hk0 C H locs hP hS => ?_) (fun hk0 ce q9 H locs hP hS hce hcv hcl => ?_)
    · subst hk0
      have hf := g_ip rfl hf
      rw [List.append_nil] at C hP
      show W p l e room_1 s m _ below meth c H locs _ _ _ (F0 m 1050 ls [.int r5])
      refine lv_aload_n hx hb dL_law_1050 rfl (lv_at hl 2 rfl) ?_
      refine lv_iload hx hb dL_law_1051 (lv_at hl 0 rfl) ?_
      refine lv_iconst (v := 0) hx hb dL_law_1053 (by decide) ?_
      obtain ⟨k11, r9, X8, h10, hf⟩ := b3_in hf
      refine r_callX (nw := []) (rest := [.int r5]) C hWd.1 hWd.2.1 hWd.2.2.1 hP hS hl.1 rfl (gCX_A (s_P_arrangements htr hW hD0 ha0 hg h10)) True.intro ix_X9_arrangements iv_X9_arrangements ls_L_97 ⟨rfl, rfl, Nat.le_of_ble_eq_true rfl, Nat.le_of_ble_eq_true rfl⟩ ha0 (ct_0 _ _ _ _) rfl rfl rfl rfl (Nat.le_of_ble_eq_true rfl) ⟨by omega, by omega⟩ dL_law_1054 (fun hk0 C H locs hP hS => ?_) (fun hk0 ce q9 H locs hP hS hce hcv hcl => ?_)
      · subst hk0
        have hf := g_ip rfl hf
        rw [List.append_nil] at C hP
        show W p l e room_1 s m _ below meth c H locs _ _ _ (F0 m 1057 ls [.int r9, .int r5])
        refine lv_icmp_gt (tgt := 1064) hx hb dL_law_1057 (by decide) (fun c12 => ?_) (fun c12 => ?_)
        · have hf := g_ip c12 hf
          exact s_Q_law_J1064 C hWd htr hW hg hD0 ha0 hk1 hKC _ _ _ _ _ X8 _ _ _ _ _ ⟨by omega, by omega⟩ hP hS (lv_sub hl [1, 2, 3, 4, 5, 7, 8, 9, 10] rfl) hf
        · have hf := g_in c12 hf
          refine lv_iconst (v := 1) hx hb dL_law_1060 (by decide) ?_
          refine lv_goto (tgt := 1065) hx hb dL_law_1061 (by decide) ?_
          exact s_Q_law_J1065 C hWd htr hW hg hD0 ha0 hk1 hKC _ _ _ _ _ _ X8 _ _ _ _ _ ⟨by omega, by omega⟩ hP hS (lv_sub hl [1, 2, 3, 4, 5, 7, 8, 9, 10] rfl) hf
      · have hf := g_in hk0 hf
        cases hf
    · have hf := g_in hk0 hf
      cases hf

set_option maxRecDepth 100000 in
set_option maxHeartbeats 4000000 in
theorem s_Q_law_J209 {p : Program} {l : Launch} {e : Env} {s : State} {m : MethodId} {args : Array Value} {below : List Frame} {meth : Method} {c : Code} {D : va_G} {cA : Nat → ClassId} {ad : Nat → Nat → Nat} {NL : List (Nat × Nat)} {A : Nat → Prop} {Q : State → Prop} {rt : Option FieldType} {b KC KS : Nat} {N : Nat} {q2 q3 q4 q5 p6 p7 : Int32} {XX : gM} (C : gCx p c meth m s args cL_law 13 rt RL D cA ad NL A) (hWd : gWd A s) (htr : l.stackTraces = false) (hW : gWf NL) (hg : ∀ n ∈ NL, n.1 < 43) (hD0 : gD (fun _ => True) ad NL) (ha0 : (0, 0) ∈ NL) (hk1 : (gCx p c meth m s args cL_law 13 rt RL D cA ad NL A → ∀ (H : Heap) (locs : List Loc) (ls : Array Slot) (cells slots : Nat), cells ≤ KC → slots ≤ KS → gH D cA ad NL XX H → va_S A s.heap H locs → lv_has ls 13 [(0, .ref b), (1, .ref (ad 0 0)), (2, .int q2), (3, .int q3), (4, .int q4), (5, .int q5), (6, .int p6), (7, .int p7)] → W p l e room_1 s m args below meth c H locs cells slots Q (F0 m 1135 ls []))) (hKC : KC ≤ room_1.cells ∧ KS ≤ room_1.slots) : ∀ (p3 : Int32) (p4 : Int32) (p5 : Int32) (p8 : Int32) (p10 : Int32) (s0 : Int32) (s1 : Int32) (X : gM) (H : Heap) (locs : List Loc) (ls : Array Slot) (cells slots : Nat), cells + 23 ≤ KC ∧ slots + 138 ≤ KS → gH D cA ad NL X H → va_S A s.heap H locs → lv_has ls 13 [(0, .ref b), (1, .ref (ad 0 0)), (3, .int p3), (4, .int p4), (5, .int p5), (6, .int p6), (7, .int p7), (8, .int p8), (10, .int p10)] → Q_law_J209 (gal NL) N p3 p4 p5 p8 p10 s0 s1 X = some (q2, q3, q4, q5, XX) → W p l e room_1 s m args below meth c H locs cells slots Q (F0 m 209 ls [.int s1, .int s0]) := by
  have hx := C.1
  have hb := C.2.1
  intro p3 p4 p5 p8 p10 s0 s1 X H locs ls cells slots hc hP hS hl hf
  rw [Q_law_J209] at hf
  refine lv_iadd hx hb dL_law_209 ?_
  refine g_top hf (fun v1 e2 hf => ?_)
  refine lv_istore_n (i := 2) (lv' := [(2, .int v1), (0, .ref b), (1, .ref (ad 0 0)), (3, .int p3), (4, .int p4), (5, .int p5), (6, .int p6), (7, .int p7), (8, .int p8), (10, .int p10)]) hx hb dL_law_210 rfl hl (Nat.le_of_ble_eq_true rfl) rfl (fun ls hl => ?_)
  refine lv_goto (tgt := 1028) hx hb dL_law_211 (by decide) ?_
  exact s_Q_law_J1028 C hWd htr hW hg hD0 ha0 hk1 hKC _ _ _ _ _ _ X _ _ _ _ _ ⟨by omega, by omega⟩ hP hS (lv_sub hl [1, 2, 0, 3, 4, 5, 6, 7, 8, 9] rfl) hf

set_option maxRecDepth 100000 in
set_option maxHeartbeats 4000000 in
theorem s_Q_law_J195 {p : Program} {l : Launch} {e : Env} {s : State} {m : MethodId} {args : Array Value} {below : List Frame} {meth : Method} {c : Code} {D : va_G} {cA : Nat → ClassId} {ad : Nat → Nat → Nat} {NL : List (Nat × Nat)} {A : Nat → Prop} {Q : State → Prop} {rt : Option FieldType} {b KC KS : Nat} {N : Nat} {q2 q3 q4 q5 p6 p7 : Int32} {XX : gM} (C : gCx p c meth m s args cL_law 13 rt RL D cA ad NL A) (hWd : gWd A s) (htr : l.stackTraces = false) (hW : gWf NL) (hg : ∀ n ∈ NL, n.1 < 43) (hD0 : gD (fun _ => True) ad NL) (ha0 : (0, 0) ∈ NL) (hk1 : (gCx p c meth m s args cL_law 13 rt RL D cA ad NL A → ∀ (H : Heap) (locs : List Loc) (ls : Array Slot) (cells slots : Nat), cells ≤ KC → slots ≤ KS → gH D cA ad NL XX H → va_S A s.heap H locs → lv_has ls 13 [(0, .ref b), (1, .ref (ad 0 0)), (2, .int q2), (3, .int q3), (4, .int q4), (5, .int q5), (6, .int p6), (7, .int p7)] → W p l e room_1 s m args below meth c H locs cells slots Q (F0 m 1135 ls []))) (hKC : KC ≤ room_1.cells ∧ KS ≤ room_1.slots) : ∀ (p2 : Int32) (p3 : Int32) (p4 : Int32) (p8 : Int32) (p10 : Int32) (p11 : Int32) (s0 : Int32) (X : gM) (H : Heap) (locs : List Loc) (ls : Array Slot) (cells slots : Nat), cells + 23 ≤ KC ∧ slots + 138 ≤ KS → gH D cA ad NL X H → va_S A s.heap H locs → lv_has ls 13 [(0, .ref b), (1, .ref (ad 0 0)), (2, .int p2), (3, .int p3), (4, .int p4), (6, .int p6), (7, .int p7), (8, .int p8), (10, .int p10), (11, .int p11)] → Q_law_J195 (gal NL) N p2 p3 p4 p8 p10 p11 s0 X = some (q2, q3, q4, q5, XX) → W p l e room_1 s m args below meth c H locs cells slots Q (F0 m 195 ls [.int s0]) := by
  have hx := C.1
  have hb := C.2.1
  intro p2 p3 p4 p8 p10 p11 s0 X H locs ls cells slots hc hP hS hl hf
  rw [Q_law_J195] at hf
  refine lv_istore (i := 5) (lv' := [(5, .int s0), (0, .ref b), (1, .ref (ad 0 0)), (2, .int p2), (3, .int p3), (4, .int p4), (6, .int p6), (7, .int p7), (8, .int p8), (10, .int p10), (11, .int p11)]) hx hb dL_law_195 hl (Nat.le_of_ble_eq_true rfl) rfl (fun ls hl => ?_)
  refine lv_iload_n hx hb dL_law_197 rfl (lv_at hl 3 rfl) ?_
  refine lv_iload hx hb dL_law_198 (lv_at hl 10 rfl) ?_
  refine lv_iload_n hx hb dL_law_200 rfl (lv_at hl 3 rfl) ?_
  refine lv_icmp_ne (tgt := 208) hx hb dL_law_201 (by decide) (fun c1 => ?_) (fun c1 => ?_)
  · have hf := g_in c1 hf
    refine lv_iconst (v := 0) hx hb dL_law_208 (by decide) ?_
    exact s_Q_law_J209 C hWd htr hW hg hD0 ha0 hk1 hKC _ _ _ _ _ _ _ X _ _ _ _ _ ⟨by omega, by omega⟩ hP hS (lv_sub hl [1, 2, 4, 5, 0, 6, 7, 8, 9] rfl) hf
  · have hf := g_ip c1 hf
    refine lv_iconst (v := 1) hx hb dL_law_204 (by decide) ?_
    refine lv_goto (tgt := 209) hx hb dL_law_205 (by decide) ?_
    exact s_Q_law_J209 C hWd htr hW hg hD0 ha0 hk1 hKC _ _ _ _ _ _ _ X _ _ _ _ _ ⟨by omega, by omega⟩ hP hS (lv_sub hl [1, 2, 4, 5, 0, 6, 7, 8, 9] rfl) hf

set_option maxRecDepth 100000 in
set_option maxHeartbeats 4000000 in
theorem s_Q_law_J190 {p : Program} {l : Launch} {e : Env} {s : State} {m : MethodId} {args : Array Value} {below : List Frame} {meth : Method} {c : Code} {D : va_G} {cA : Nat → ClassId} {ad : Nat → Nat → Nat} {NL : List (Nat × Nat)} {A : Nat → Prop} {Q : State → Prop} {rt : Option FieldType} {b KC KS : Nat} {N : Nat} {q2 q3 q4 q5 p6 p7 : Int32} {XX : gM} (C : gCx p c meth m s args cL_law 13 rt RL D cA ad NL A) (hWd : gWd A s) (htr : l.stackTraces = false) (hW : gWf NL) (hg : ∀ n ∈ NL, n.1 < 43) (hD0 : gD (fun _ => True) ad NL) (ha0 : (0, 0) ∈ NL) (hk1 : (gCx p c meth m s args cL_law 13 rt RL D cA ad NL A → ∀ (H : Heap) (locs : List Loc) (ls : Array Slot) (cells slots : Nat), cells ≤ KC → slots ≤ KS → gH D cA ad NL XX H → va_S A s.heap H locs → lv_has ls 13 [(0, .ref b), (1, .ref (ad 0 0)), (2, .int q2), (3, .int q3), (4, .int q4), (5, .int q5), (6, .int p6), (7, .int p7)] → W p l e room_1 s m args below meth c H locs cells slots Q (F0 m 1135 ls []))) (hKC : KC ≤ room_1.cells ∧ KS ≤ room_1.slots) : ∀ (p2 : Int32) (p3 : Int32) (p4 : Int32) (p8 : Int32) (p10 : Int32) (p11 : Int32) (X : gM) (H : Heap) (locs : List Loc) (ls : Array Slot) (cells slots : Nat), cells + 23 ≤ KC ∧ slots + 138 ≤ KS → gH D cA ad NL X H → va_S A s.heap H locs → lv_has ls 13 [(0, .ref b), (1, .ref (ad 0 0)), (2, .int p2), (3, .int p3), (4, .int p4), (6, .int p6), (7, .int p7), (8, .int p8), (10, .int p10), (11, .int p11)] → Q_law_J190 (gal NL) N p2 p3 p4 p8 p10 p11 X = some (q2, q3, q4, q5, XX) → W p l e room_1 s m args below meth c H locs cells slots Q (F0 m 190 ls []) := by
  have hx := C.1
  have hb := C.2.1
  intro p2 p3 p4 p8 p10 p11 X H locs ls cells slots hc hP hS hl hf
  rw [Q_law_J190] at hf
  refine lv_iconst (v := 1) hx hb dL_law_190 (by decide) ?_
  refine lv_goto (tgt := 195) hx hb dL_law_191 (by decide) ?_
  exact s_Q_law_J195 C hWd htr hW hg hD0 ha0 hk1 hKC _ _ _ _ _ _ _ X _ _ _ _ _ ⟨by omega, by omega⟩ hP hS (lv_sub hl [0, 1, 2, 3, 4, 5, 6, 7, 8, 9] rfl) hf

set_option maxRecDepth 100000 in
set_option maxHeartbeats 4000000 in
theorem s_Q_law_J172 {p : Program} {l : Launch} {e : Env} {s : State} {m : MethodId} {args : Array Value} {below : List Frame} {meth : Method} {c : Code} {D : va_G} {cA : Nat → ClassId} {ad : Nat → Nat → Nat} {NL : List (Nat × Nat)} {A : Nat → Prop} {Q : State → Prop} {rt : Option FieldType} {b KC KS : Nat} {N : Nat} {q2 q3 q4 q5 p6 p7 : Int32} {XX : gM} {nw : List (Nat × Nat)} (C : gCx p c meth m s args cL_law 13 rt RL D cA ad NL A) (hWd : gWd A s) (htr : l.stackTraces = false) (hW : gWf NL) (hW2 : gWf (NL ++ nw)) (hg : ∀ n ∈ NL, n.1 < 43) (hg2 : ∀ n ∈ NL ++ nw, n.1 < 43) (hD0 : gD (fun _ => True) ad NL) (ha0 : (0, 0) ∈ NL) (hfr : gFr NL nw) (kk : ∀ a9 : Nat → Nat → Nat, (gCx p c meth m s args cL_law 13 rt RL D cA a9 (NL ++ nw) A → ∀ (H : Heap) (locs : List Loc) (ls : Array Slot) (cells slots : Nat), cells ≤ KC → slots ≤ KS → gH D cA a9 (NL ++ nw) XX H → va_S A s.heap H locs → lv_has ls 13 [(0, .ref b), (1, .ref (a9 0 0)), (2, .int q2), (3, .int q3), (4, .int q4), (5, .int q5), (6, .int p6), (7, .int p7)] → W p l e room_1 s m args below meth c H locs cells slots Q (F0 m 1135 ls []))) (hKC : KC ≤ room_1.cells ∧ KS ≤ room_1.slots) : ∀ (p2 : Int32) (p3 : Int32) (p4 : Int32) (p8 : Int32) (p10 : Int32) (s2 : Int32) (s3 : Int32) (s4 : Int32) (X : gM) (H : Heap) (locs : List Loc) (ls : Array Slot) (cells slots : Nat), cells + 153 ≤ KC ∧ slots + 1015 ≤ KS → gDy NL X → gH D cA ad NL X H → va_S A s.heap H locs → lv_has ls 13 [(0, .ref b), (1, .ref (ad 0 0)), (2, .int p2), (3, .int p3), (4, .int p4), (6, .int p6), (7, .int p7), (8, .int p8), (10, .int p10)] → Q_law_J172 (gal NL) (gal (NL ++ nw)) N nw p2 p3 p4 p8 p10 s2 s3 s4 X = some (q2, q3, q4, q5, XX) → W p l e room_1 s m args below meth c H locs cells slots Q (F0 m 172 ls [.int s4, .int s3, .int s2, .int (0 : Int32), .ref (ad 0 0)]) := by
  have hx := C.1
  have hb := C.2.1
  intro p2 p3 p4 p8 p10 s2 s3 s4 X H locs ls cells slots hc hdy hP hS hl hf
  rw [Q_law_J172] at hf
  obtain ⟨r2, X1, h3, hf⟩ := b2_in hf
  obtain ⟨C, hP, hag⟩ := g_switch C hW hfr hdy hP
  rw [hag _ ha0] at hl
  rw [hag _ ha0]
  have hD0 : gD (fun _ => True) _ _ := gD_in C.2.2.2.2.2.2.2.2.2.1 (fun _ _ => trivial)
  refine r_callL (nw := nw) (rest := []) C hWd hP hS hl.1 rfl (s_Q_acts0 htr hW hD0 (gOv_al _ _ _) (gOv_nw hfr) ha0 hg2 h3) (gOv_nw hfr) il_L_acts ls_L_104 ⟨rfl, rfl, Nat.le_of_ble_eq_true rfl, Nat.le_of_ble_eq_true rfl⟩ rfl rfl (Nat.le_of_ble_eq_true rfl) ⟨by omega, by omega⟩ dL_law_172 (fun C H9 locs hP hS => ?_)
  have hW := hW2
  have hg := hg2
  have ha0 := List.mem_append_left nw ha0
  have hD0 : gD (fun _ => True) _ _ := gD_in C.2.2.2.2.2.2.2.2.2.1 (fun _ _ => trivial)
  have hk1 := kk (gOv ad H.size nw)
  refine lv_istore (i := 11) (lv' := [(11, .int r2), (0, .ref b), (1, .ref ((gOv ad H.size nw) 0 0)), (2, .int p2), (3, .int p3), (4, .int p4), (6, .int p6), (7, .int p7), (8, .int p8), (10, .int p10)]) hx hb dL_law_175 hl (Nat.le_of_ble_eq_true rfl) rfl (fun ls hl => ?_)
  refine lv_iload hx hb dL_law_177 (lv_at hl 0 rfl) ?_
  refine lv_iload_n hx hb dL_law_179 rfl (lv_at hl 3 rfl) ?_
  refine lv_icmp_eq (tgt := 190) hx hb dL_law_180 (by decide) (fun c4 => ?_) (fun c4 => ?_)
  · have hf := g_ip c4 hf
    exact s_Q_law_J190 C hWd htr hW hg hD0 ha0 hk1 hKC _ _ _ _ _ _ X1 _ _ _ _ _ ⟨by omega, by omega⟩ hP hS (lv_sub hl [1, 2, 3, 4, 5, 6, 7, 8, 9, 0] rfl) hf
  · have hf := g_in c4 hf
    refine lv_iload hx hb dL_law_183 (lv_at hl 0 rfl) ?_
    refine lv_bipush (v := -9) hx hb dL_law_185 (by decide) ?_
    refine lv_icmp_ne (tgt := 194) hx hb dL_law_187 (by decide) (fun c5 => ?_) (fun c5 => ?_)
    · have hf := g_in c5 hf
      refine lv_iconst (v := 0) hx hb dL_law_194 (by decide) ?_
      exact s_Q_law_J195 C hWd htr hW hg hD0 ha0 hk1 hKC _ _ _ _ _ _ _ X1 _ _ _ _ _ ⟨by omega, by omega⟩ hP hS (lv_sub hl [1, 2, 3, 4, 5, 6, 7, 8, 9, 0] rfl) hf
    · have hf := g_ip c5 hf
      exact s_Q_law_J190 C hWd htr hW hg hD0 ha0 hk1 hKC _ _ _ _ _ _ X1 _ _ _ _ _ ⟨by omega, by omega⟩ hP hS (lv_sub hl [1, 2, 3, 4, 5, 6, 7, 8, 9, 0] rfl) hf

set_option maxRecDepth 100000 in
set_option maxHeartbeats 4000000 in
theorem s_Q_law_J141 {p : Program} {l : Launch} {e : Env} {s : State} {m : MethodId} {args : Array Value} {below : List Frame} {meth : Method} {c : Code} {D : va_G} {cA : Nat → ClassId} {ad : Nat → Nat → Nat} {NL : List (Nat × Nat)} {A : Nat → Prop} {Q : State → Prop} {rt : Option FieldType} {b KC KS : Nat} {N : Nat} {q2 q3 q4 q5 p6 p7 : Int32} {XX : gM} {nw : List (Nat × Nat)} (C : gCx p c meth m s args cL_law 13 rt RL D cA ad NL A) (hWd : gWd A s) (htr : l.stackTraces = false) (hW : gWf NL) (hW2 : gWf (NL ++ nw)) (hg : ∀ n ∈ NL, n.1 < 43) (hg2 : ∀ n ∈ NL ++ nw, n.1 < 43) (hD0 : gD (fun _ => True) ad NL) (ha0 : (0, 0) ∈ NL) (hfr : gFr NL nw) (kk : ∀ a9 : Nat → Nat → Nat, (gCx p c meth m s args cL_law 13 rt RL D cA a9 (NL ++ nw) A → ∀ (H : Heap) (locs : List Loc) (ls : Array Slot) (cells slots : Nat), cells ≤ KC → slots ≤ KS → gH D cA a9 (NL ++ nw) XX H → va_S A s.heap H locs → lv_has ls 13 [(0, .ref b), (1, .ref (a9 0 0)), (2, .int q2), (3, .int q3), (4, .int q4), (5, .int q5), (6, .int p6), (7, .int p7)] → W p l e room_1 s m args below meth c H locs cells slots Q (F0 m 1135 ls []))) (hKC : KC ≤ room_1.cells ∧ KS ≤ room_1.slots) : ∀ (p2 : Int32) (p3 : Int32) (p4 : Int32) (p8 : Int32) (p10 : Int32) (s2 : Int32) (X : gM) (H : Heap) (locs : List Loc) (ls : Array Slot) (cells slots : Nat), cells + 153 ≤ KC ∧ slots + 1015 ≤ KS → gDy NL X → gH D cA ad NL X H → va_S A s.heap H locs → lv_has ls 13 [(0, .ref b), (1, .ref (ad 0 0)), (2, .int p2), (3, .int p3), (4, .int p4), (6, .int p6), (7, .int p7), (8, .int p8), (10, .int p10)] → Q_law_J141 (gal NL) (gal (NL ++ nw)) N nw p2 p3 p4 p8 p10 s2 X = some (q2, q3, q4, q5, XX) → W p l e room_1 s m args below meth c H locs cells slots Q (F0 m 141 ls [.int s2, .int (0 : Int32), .ref (ad 0 0)]) := by
  have hx := C.1
  have hb := C.2.1
  intro p2 p3 p4 p8 p10 s2 X H locs ls cells slots hc hdy hP hS hl hf
  rw [Q_law_J141] at hf
  refine lv_iload hx hb dL_law_141 (lv_at hl 7 rfl) ?_
  refine lv_iconst (v := 1) hx hb dL_law_143 (by decide) ?_
  refine lv_ishr hx hb dL_law_144 ?_
  refine lv_iload hx hb dL_law_145 (lv_at hl 7 rfl) ?_
  refine lv_bipush (v := 9) hx hb dL_law_147 (by decide) ?_
  refine lv_ishr hx hb dL_law_149 ?_
  refine lv_iconst (v := 3) hx hb dL_law_150 (by decide) ?_
  refine r_low (rest := [.int (p8 >>> ((1 : Int32) &&& (31 : Int32))), .int s2, .int (0 : Int32), .ref (ad 0 0)]) C hP hS hl.1 (by decide) ls_L_9 ⟨rfl, rfl, Nat.le_of_ble_eq_true rfl, Nat.le_of_ble_eq_true rfl⟩ (Nat.le_of_ble_eq_true rfl) ⟨by omega, by omega⟩ dL_law_151 (fun locs hP hS => ?_)
  refine g_top hf (fun v1 e2 hf => ?_)
  refine lv_if_ne (tgt := 171) hx hb dL_law_154 (by decide) (fun c3 => ?_) (fun c3 => ?_)
  · have hf := g_in c3 hf
    refine lv_iconst (v := 0) hx hb dL_law_171 (by decide) ?_
    exact s_Q_law_J172 C hWd htr hW hW2 hg hg2 hD0 ha0 hfr kk hKC _ _ _ _ _ _ _ _ X _ _ _ _ _ ⟨by omega, by omega⟩ hdy hP hS (lv_sub hl [0, 1, 2, 3, 4, 5, 6, 7, 8] rfl) hf
  · have hf := g_ip c3 hf
    refine lv_iload hx hb dL_law_157 (lv_at hl 7 rfl) ?_
    refine lv_bipush (v := 11) hx hb dL_law_159 (by decide) ?_
    refine lv_ishr hx hb dL_law_161 ?_
    refine lv_sipush (v := 256) hx hb dL_law_162 (by decide) ?_
    refine r_low (rest := [.int (p8 >>> ((1 : Int32) &&& (31 : Int32))), .int s2, .int (0 : Int32), .ref (ad 0 0)]) C hP hS hl.1 (by decide) ls_L_9 ⟨rfl, rfl, Nat.le_of_ble_eq_true rfl, Nat.le_of_ble_eq_true rfl⟩ (Nat.le_of_ble_eq_true rfl) ⟨by omega, by omega⟩ dL_law_165 (fun locs hP hS => ?_)
    refine g_top hf (fun v4 e5 hf => ?_)
    refine lv_goto (tgt := 172) hx hb dL_law_168 (by decide) ?_
    exact s_Q_law_J172 C hWd htr hW hW2 hg hg2 hD0 ha0 hfr kk hKC _ _ _ _ _ _ _ _ X _ _ _ _ _ ⟨by omega, by omega⟩ hdy hP hS (lv_sub hl [0, 1, 2, 3, 4, 5, 6, 7, 8] rfl) hf

set_option maxRecDepth 100000 in
set_option maxHeartbeats 4000000 in
theorem s_Q_law_J125 {p : Program} {l : Launch} {e : Env} {s : State} {m : MethodId} {args : Array Value} {below : List Frame} {meth : Method} {c : Code} {D : va_G} {cA : Nat → ClassId} {ad : Nat → Nat → Nat} {NL : List (Nat × Nat)} {A : Nat → Prop} {Q : State → Prop} {rt : Option FieldType} {b KC KS : Nat} {N : Nat} {q2 q3 q4 q5 p6 p7 : Int32} {XX : gM} {nw : List (Nat × Nat)} (C : gCx p c meth m s args cL_law 13 rt RL D cA ad NL A) (hWd : gWd A s) (htr : l.stackTraces = false) (hW : gWf NL) (hW2 : gWf (NL ++ nw)) (hg : ∀ n ∈ NL, n.1 < 43) (hg2 : ∀ n ∈ NL ++ nw, n.1 < 43) (hD0 : gD (fun _ => True) ad NL) (ha0 : (0, 0) ∈ NL) (hfr : gFr NL nw) (kk : ∀ a9 : Nat → Nat → Nat, (gCx p c meth m s args cL_law 13 rt RL D cA a9 (NL ++ nw) A → ∀ (H : Heap) (locs : List Loc) (ls : Array Slot) (cells slots : Nat), cells ≤ KC → slots ≤ KS → gH D cA a9 (NL ++ nw) XX H → va_S A s.heap H locs → lv_has ls 13 [(0, .ref b), (1, .ref (a9 0 0)), (2, .int q2), (3, .int q3), (4, .int q4), (5, .int q5), (6, .int p6), (7, .int p7)] → W p l e room_1 s m args below meth c H locs cells slots Q (F0 m 1135 ls []))) (hKC : KC ≤ room_1.cells ∧ KS ≤ room_1.slots) : ∀ (p2 : Int32) (p3 : Int32) (p4 : Int32) (p8 : Int32) (p10 : Int32) (X : gM) (H : Heap) (locs : List Loc) (ls : Array Slot) (cells slots : Nat), cells + 153 ≤ KC ∧ slots + 1015 ≤ KS → gDy NL X → gH D cA ad NL X H → va_S A s.heap H locs → lv_has ls 13 [(0, .ref b), (1, .ref (ad 0 0)), (2, .int p2), (3, .int p3), (4, .int p4), (6, .int p6), (7, .int p7), (8, .int p8), (10, .int p10)] → Q_law_J125 (gal NL) (gal (NL ++ nw)) N nw p2 p3 p4 p8 p10 X = some (q2, q3, q4, q5, XX) → W p l e room_1 s m args below meth c H locs cells slots Q (F0 m 125 ls []) := by
  have hx := C.1
  have hb := C.2.1
  intro p2 p3 p4 p8 p10 X H locs ls cells slots hc hdy hP hS hl hf
  rw [Q_law_J125] at hf
  refine lv_aload_n hx hb dL_law_125 rfl (lv_at hl 1 rfl) ?_
  refine lv_iconst (v := 0) hx hb dL_law_126 (by decide) ?_
  refine lv_iload_n hx hb dL_law_127 rfl (lv_at hl 2 rfl) ?_
  refine lv_if_ne (tgt := 135) hx hb dL_law_128 (by decide) (fun c1 => ?_) (fun c1 => ?_)
  · have hf := g_in c1 hf
    refine lv_iload hx hb dL_law_135 (lv_at hl 7 rfl) ?_
    refine lv_iconst (v := 2) hx hb dL_law_137 (by decide) ?_
    refine r_low (rest := [.int (0 : Int32), .ref (ad 0 0)]) C hP hS hl.1 (by decide) ls_L_9 ⟨rfl, rfl, Nat.le_of_ble_eq_true rfl, Nat.le_of_ble_eq_true rfl⟩ (Nat.le_of_ble_eq_true rfl) ⟨by omega, by omega⟩ dL_law_138 (fun locs hP hS => ?_)
    refine g_top hf (fun v2 e3 hf => ?_)
    exact s_Q_law_J141 C hWd htr hW hW2 hg hg2 hD0 ha0 hfr kk hKC _ _ _ _ _ _ X _ _ _ _ _ ⟨by omega, by omega⟩ hdy hP hS (lv_sub hl [0, 1, 2, 3, 4, 5, 6, 7, 8] rfl) hf
  · have hf := g_ip c1 hf
    refine lv_iconst (v := 0) hx hb dL_law_131 (by decide) ?_
    refine lv_goto (tgt := 141) hx hb dL_law_132 (by decide) ?_
    exact s_Q_law_J141 C hWd htr hW hW2 hg hg2 hD0 ha0 hfr kk hKC _ _ _ _ _ _ X _ _ _ _ _ ⟨by omega, by omega⟩ hdy hP hS (lv_sub hl [0, 1, 2, 3, 4, 5, 6, 7, 8] rfl) hf

set_option maxRecDepth 100000 in
set_option maxHeartbeats 4000000 in
theorem s_Q_law_J268 {p : Program} {l : Launch} {e : Env} {s : State} {m : MethodId} {args : Array Value} {below : List Frame} {meth : Method} {c : Code} {D : va_G} {cA : Nat → ClassId} {ad : Nat → Nat → Nat} {NL : List (Nat × Nat)} {A : Nat → Prop} {Q : State → Prop} {rt : Option FieldType} {b KC KS : Nat} {N : Nat} {q2 q3 q4 q5 p6 p7 : Int32} {XX : gM} (C : gCx p c meth m s args cL_law 13 rt RL D cA ad NL A) (hWd : gWd A s) (htr : l.stackTraces = false) (hW : gWf NL) (hg : ∀ n ∈ NL, n.1 < 43) (hD0 : gD (fun _ => True) ad NL) (ha0 : (0, 0) ∈ NL) (hk1 : (gCx p c meth m s args cL_law 13 rt RL D cA ad NL A → ∀ (H : Heap) (locs : List Loc) (ls : Array Slot) (cells slots : Nat), cells ≤ KC → slots ≤ KS → gH D cA ad NL XX H → va_S A s.heap H locs → lv_has ls 13 [(0, .ref b), (1, .ref (ad 0 0)), (2, .int q2), (3, .int q3), (4, .int q4), (5, .int q5), (6, .int p6), (7, .int p7)] → W p l e room_1 s m args below meth c H locs cells slots Q (F0 m 1135 ls []))) (hKC : KC ≤ room_1.cells ∧ KS ≤ room_1.slots) : ∀ (p2 : Int32) (p3 : Int32) (p4 : Int32) (p8 : Int32) (p10 : Int32) (s0 : Int32) (X : gM) (H : Heap) (locs : List Loc) (ls : Array Slot) (cells slots : Nat), cells + 23 ≤ KC ∧ slots + 138 ≤ KS → gH D cA ad NL X H → va_S A s.heap H locs → lv_has ls 13 [(0, .ref b), (1, .ref (ad 0 0)), (2, .int p2), (3, .int p3), (4, .int p4), (6, .int p6), (7, .int p7), (8, .int p8), (10, .int p10)] → Q_law_J268 (gal NL) N p2 p3 p4 p8 p10 s0 X = some (q2, q3, q4, q5, XX) → W p l e room_1 s m args below meth c H locs cells slots Q (F0 m 268 ls [.int s0]) := by
  have hx := C.1
  have hb := C.2.1
  intro p2 p3 p4 p8 p10 s0 X H locs ls cells slots hc hP hS hl hf
  rw [Q_law_J268] at hf
  refine lv_istore (i := 5) (lv' := [(5, .int s0), (0, .ref b), (1, .ref (ad 0 0)), (2, .int p2), (3, .int p3), (4, .int p4), (6, .int p6), (7, .int p7), (8, .int p8), (10, .int p10)]) hx hb dL_law_268 hl (Nat.le_of_ble_eq_true rfl) rfl (fun ls hl => ?_)
  refine lv_goto (tgt := 1028) hx hb dL_law_270 (by decide) ?_
  exact s_Q_law_J1028 C hWd htr hW hg hD0 ha0 hk1 hKC _ _ _ _ _ _ X _ _ _ _ _ ⟨by omega, by omega⟩ hP hS (lv_sub hl [1, 2, 3, 4, 5, 0, 6, 7, 8, 9] rfl) hf

set_option maxRecDepth 100000 in
set_option maxHeartbeats 4000000 in
theorem s_Q_law_J263 {p : Program} {l : Launch} {e : Env} {s : State} {m : MethodId} {args : Array Value} {below : List Frame} {meth : Method} {c : Code} {D : va_G} {cA : Nat → ClassId} {ad : Nat → Nat → Nat} {NL : List (Nat × Nat)} {A : Nat → Prop} {Q : State → Prop} {rt : Option FieldType} {b KC KS : Nat} {N : Nat} {q2 q3 q4 q5 p6 p7 : Int32} {XX : gM} (C : gCx p c meth m s args cL_law 13 rt RL D cA ad NL A) (hWd : gWd A s) (htr : l.stackTraces = false) (hW : gWf NL) (hg : ∀ n ∈ NL, n.1 < 43) (hD0 : gD (fun _ => True) ad NL) (ha0 : (0, 0) ∈ NL) (hk1 : (gCx p c meth m s args cL_law 13 rt RL D cA ad NL A → ∀ (H : Heap) (locs : List Loc) (ls : Array Slot) (cells slots : Nat), cells ≤ KC → slots ≤ KS → gH D cA ad NL XX H → va_S A s.heap H locs → lv_has ls 13 [(0, .ref b), (1, .ref (ad 0 0)), (2, .int q2), (3, .int q3), (4, .int q4), (5, .int q5), (6, .int p6), (7, .int p7)] → W p l e room_1 s m args below meth c H locs cells slots Q (F0 m 1135 ls []))) (hKC : KC ≤ room_1.cells ∧ KS ≤ room_1.slots) : ∀ (p2 : Int32) (p3 : Int32) (p4 : Int32) (p8 : Int32) (p10 : Int32) (X : gM) (H : Heap) (locs : List Loc) (ls : Array Slot) (cells slots : Nat), cells + 23 ≤ KC ∧ slots + 138 ≤ KS → gH D cA ad NL X H → va_S A s.heap H locs → lv_has ls 13 [(0, .ref b), (1, .ref (ad 0 0)), (2, .int p2), (3, .int p3), (4, .int p4), (6, .int p6), (7, .int p7), (8, .int p8), (10, .int p10)] → Q_law_J263 (gal NL) N p2 p3 p4 p8 p10 X = some (q2, q3, q4, q5, XX) → W p l e room_1 s m args below meth c H locs cells slots Q (F0 m 263 ls []) := by
  have hx := C.1
  have hb := C.2.1
  intro p2 p3 p4 p8 p10 X H locs ls cells slots hc hP hS hl hf
  rw [Q_law_J263] at hf
  refine lv_iconst (v := 1) hx hb dL_law_263 (by decide) ?_
  refine lv_goto (tgt := 268) hx hb dL_law_264 (by decide) ?_
  exact s_Q_law_J268 C hWd htr hW hg hD0 ha0 hk1 hKC _ _ _ _ _ _ X _ _ _ _ _ ⟨by omega, by omega⟩ hP hS (lv_sub hl [0, 1, 2, 3, 4, 5, 6, 7, 8] rfl) hf

set_option maxRecDepth 100000 in
set_option maxHeartbeats 4000000 in
theorem s_Q_law_J256 {p : Program} {l : Launch} {e : Env} {s : State} {m : MethodId} {args : Array Value} {below : List Frame} {meth : Method} {c : Code} {D : va_G} {cA : Nat → ClassId} {ad : Nat → Nat → Nat} {NL : List (Nat × Nat)} {A : Nat → Prop} {Q : State → Prop} {rt : Option FieldType} {b KC KS : Nat} {N : Nat} {q2 q3 q4 q5 p6 p7 : Int32} {XX : gM} (C : gCx p c meth m s args cL_law 13 rt RL D cA ad NL A) (hWd : gWd A s) (htr : l.stackTraces = false) (hW : gWf NL) (hg : ∀ n ∈ NL, n.1 < 43) (hD0 : gD (fun _ => True) ad NL) (ha0 : (0, 0) ∈ NL) (hk1 : (gCx p c meth m s args cL_law 13 rt RL D cA ad NL A → ∀ (H : Heap) (locs : List Loc) (ls : Array Slot) (cells slots : Nat), cells ≤ KC → slots ≤ KS → gH D cA ad NL XX H → va_S A s.heap H locs → lv_has ls 13 [(0, .ref b), (1, .ref (ad 0 0)), (2, .int q2), (3, .int q3), (4, .int q4), (5, .int q5), (6, .int p6), (7, .int p7)] → W p l e room_1 s m args below meth c H locs cells slots Q (F0 m 1135 ls []))) (hKC : KC ≤ room_1.cells ∧ KS ≤ room_1.slots) : ∀ (p2 : Int32) (p3 : Int32) (p4 : Int32) (p8 : Int32) (p10 : Int32) (p11 : Int32) (X : gM) (H : Heap) (locs : List Loc) (ls : Array Slot) (cells slots : Nat), cells + 23 ≤ KC ∧ slots + 138 ≤ KS → gH D cA ad NL X H → va_S A s.heap H locs → lv_has ls 13 [(0, .ref b), (1, .ref (ad 0 0)), (2, .int p2), (3, .int p3), (4, .int p4), (6, .int p6), (7, .int p7), (8, .int p8), (10, .int p10), (11, .int p11)] → Q_law_J256 (gal NL) N p2 p3 p4 p8 p10 p11 X = some (q2, q3, q4, q5, XX) → W p l e room_1 s m args below meth c H locs cells slots Q (F0 m 256 ls []) := by
  have hx := C.1
  have hb := C.2.1
  intro p2 p3 p4 p8 p10 p11 X H locs ls cells slots hc hP hS hl hf
  rw [Q_law_J256] at hf
  refine lv_iload hx hb dL_law_256 (lv_at hl 9 rfl) ?_
  refine lv_bipush (v := -9) hx hb dL_law_258 (by decide) ?_
  refine lv_icmp_ne (tgt := 267) hx hb dL_law_260 (by decide) (fun c1 => ?_) (fun c1 => ?_)
  · have hf := g_in c1 hf
    refine lv_iconst (v := 0) hx hb dL_law_267 (by decide) ?_
    exact s_Q_law_J268 C hWd htr hW hg hD0 ha0 hk1 hKC _ _ _ _ _ _ X _ _ _ _ _ ⟨by omega, by omega⟩ hP hS (lv_sub hl [0, 1, 2, 3, 4, 5, 6, 7, 8] rfl) hf
  · have hf := g_ip c1 hf
    exact s_Q_law_J263 C hWd htr hW hg hD0 ha0 hk1 hKC _ _ _ _ _ X _ _ _ _ _ ⟨by omega, by omega⟩ hP hS (lv_sub hl [0, 1, 2, 3, 4, 5, 6, 7, 8] rfl) hf

set_option maxRecDepth 100000 in
set_option maxHeartbeats 4000000 in
theorem s_Q_law_J368 {p : Program} {l : Launch} {e : Env} {s : State} {m : MethodId} {args : Array Value} {below : List Frame} {meth : Method} {c : Code} {D : va_G} {cA : Nat → ClassId} {ad : Nat → Nat → Nat} {NL : List (Nat × Nat)} {A : Nat → Prop} {Q : State → Prop} {rt : Option FieldType} {b KC KS : Nat} {N : Nat} {q2 q3 q4 q5 p6 p7 : Int32} {XX : gM} (C : gCx p c meth m s args cL_law 13 rt RL D cA ad NL A) (hWd : gWd A s) (htr : l.stackTraces = false) (hW : gWf NL) (hg : ∀ n ∈ NL, n.1 < 43) (hD0 : gD (fun _ => True) ad NL) (ha0 : (0, 0) ∈ NL) (hk1 : (gCx p c meth m s args cL_law 13 rt RL D cA ad NL A → ∀ (H : Heap) (locs : List Loc) (ls : Array Slot) (cells slots : Nat), cells ≤ KC → slots ≤ KS → gH D cA ad NL XX H → va_S A s.heap H locs → lv_has ls 13 [(0, .ref b), (1, .ref (ad 0 0)), (2, .int q2), (3, .int q3), (4, .int q4), (5, .int q5), (6, .int p6), (7, .int p7)] → W p l e room_1 s m args below meth c H locs cells slots Q (F0 m 1135 ls []))) (hKC : KC ≤ room_1.cells ∧ KS ≤ room_1.slots) : ∀ (p2 : Int32) (p3 : Int32) (p4 : Int32) (p8 : Int32) (p10 : Int32) (s0 : Int32) (X : gM) (H : Heap) (locs : List Loc) (ls : Array Slot) (cells slots : Nat), cells + 23 ≤ KC ∧ slots + 138 ≤ KS → gH D cA ad NL X H → va_S A s.heap H locs → lv_has ls 13 [(0, .ref b), (1, .ref (ad 0 0)), (2, .int p2), (3, .int p3), (4, .int p4), (6, .int p6), (7, .int p7), (8, .int p8), (10, .int p10)] → Q_law_J368 (gal NL) N p2 p3 p4 p8 p10 s0 X = some (q2, q3, q4, q5, XX) → W p l e room_1 s m args below meth c H locs cells slots Q (F0 m 368 ls [.int s0]) := by
  have hx := C.1
  have hb := C.2.1
  intro p2 p3 p4 p8 p10 s0 X H locs ls cells slots hc hP hS hl hf
  rw [Q_law_J368] at hf
  refine lv_istore (i := 5) (lv' := [(5, .int s0), (0, .ref b), (1, .ref (ad 0 0)), (2, .int p2), (3, .int p3), (4, .int p4), (6, .int p6), (7, .int p7), (8, .int p8), (10, .int p10)]) hx hb dL_law_368 hl (Nat.le_of_ble_eq_true rfl) rfl (fun ls hl => ?_)
  refine lv_goto (tgt := 1028) hx hb dL_law_370 (by decide) ?_
  exact s_Q_law_J1028 C hWd htr hW hg hD0 ha0 hk1 hKC _ _ _ _ _ _ X _ _ _ _ _ ⟨by omega, by omega⟩ hP hS (lv_sub hl [1, 2, 3, 4, 5, 0, 6, 7, 8, 9] rfl) hf

set_option maxRecDepth 100000 in
set_option maxHeartbeats 4000000 in
theorem s_Q_law_J363 {p : Program} {l : Launch} {e : Env} {s : State} {m : MethodId} {args : Array Value} {below : List Frame} {meth : Method} {c : Code} {D : va_G} {cA : Nat → ClassId} {ad : Nat → Nat → Nat} {NL : List (Nat × Nat)} {A : Nat → Prop} {Q : State → Prop} {rt : Option FieldType} {b KC KS : Nat} {N : Nat} {q2 q3 q4 q5 p6 p7 : Int32} {XX : gM} (C : gCx p c meth m s args cL_law 13 rt RL D cA ad NL A) (hWd : gWd A s) (htr : l.stackTraces = false) (hW : gWf NL) (hg : ∀ n ∈ NL, n.1 < 43) (hD0 : gD (fun _ => True) ad NL) (ha0 : (0, 0) ∈ NL) (hk1 : (gCx p c meth m s args cL_law 13 rt RL D cA ad NL A → ∀ (H : Heap) (locs : List Loc) (ls : Array Slot) (cells slots : Nat), cells ≤ KC → slots ≤ KS → gH D cA ad NL XX H → va_S A s.heap H locs → lv_has ls 13 [(0, .ref b), (1, .ref (ad 0 0)), (2, .int q2), (3, .int q3), (4, .int q4), (5, .int q5), (6, .int p6), (7, .int p7)] → W p l e room_1 s m args below meth c H locs cells slots Q (F0 m 1135 ls []))) (hKC : KC ≤ room_1.cells ∧ KS ≤ room_1.slots) : ∀ (p2 : Int32) (p3 : Int32) (p4 : Int32) (p8 : Int32) (p10 : Int32) (X : gM) (H : Heap) (locs : List Loc) (ls : Array Slot) (cells slots : Nat), cells + 23 ≤ KC ∧ slots + 138 ≤ KS → gH D cA ad NL X H → va_S A s.heap H locs → lv_has ls 13 [(0, .ref b), (1, .ref (ad 0 0)), (2, .int p2), (3, .int p3), (4, .int p4), (6, .int p6), (7, .int p7), (8, .int p8), (10, .int p10)] → Q_law_J363 (gal NL) N p2 p3 p4 p8 p10 X = some (q2, q3, q4, q5, XX) → W p l e room_1 s m args below meth c H locs cells slots Q (F0 m 363 ls []) := by
  have hx := C.1
  have hb := C.2.1
  intro p2 p3 p4 p8 p10 X H locs ls cells slots hc hP hS hl hf
  rw [Q_law_J363] at hf
  refine lv_iconst (v := 1) hx hb dL_law_363 (by decide) ?_
  refine lv_goto (tgt := 368) hx hb dL_law_364 (by decide) ?_
  exact s_Q_law_J368 C hWd htr hW hg hD0 ha0 hk1 hKC _ _ _ _ _ _ X _ _ _ _ _ ⟨by omega, by omega⟩ hP hS (lv_sub hl [0, 1, 2, 3, 4, 5, 6, 7, 8] rfl) hf

set_option maxRecDepth 100000 in
set_option maxHeartbeats 4000000 in
theorem s_Q_law_J367 {p : Program} {l : Launch} {e : Env} {s : State} {m : MethodId} {args : Array Value} {below : List Frame} {meth : Method} {c : Code} {D : va_G} {cA : Nat → ClassId} {ad : Nat → Nat → Nat} {NL : List (Nat × Nat)} {A : Nat → Prop} {Q : State → Prop} {rt : Option FieldType} {b KC KS : Nat} {N : Nat} {q2 q3 q4 q5 p6 p7 : Int32} {XX : gM} (C : gCx p c meth m s args cL_law 13 rt RL D cA ad NL A) (hWd : gWd A s) (htr : l.stackTraces = false) (hW : gWf NL) (hg : ∀ n ∈ NL, n.1 < 43) (hD0 : gD (fun _ => True) ad NL) (ha0 : (0, 0) ∈ NL) (hk1 : (gCx p c meth m s args cL_law 13 rt RL D cA ad NL A → ∀ (H : Heap) (locs : List Loc) (ls : Array Slot) (cells slots : Nat), cells ≤ KC → slots ≤ KS → gH D cA ad NL XX H → va_S A s.heap H locs → lv_has ls 13 [(0, .ref b), (1, .ref (ad 0 0)), (2, .int q2), (3, .int q3), (4, .int q4), (5, .int q5), (6, .int p6), (7, .int p7)] → W p l e room_1 s m args below meth c H locs cells slots Q (F0 m 1135 ls []))) (hKC : KC ≤ room_1.cells ∧ KS ≤ room_1.slots) : ∀ (p2 : Int32) (p3 : Int32) (p4 : Int32) (p8 : Int32) (p10 : Int32) (X : gM) (H : Heap) (locs : List Loc) (ls : Array Slot) (cells slots : Nat), cells + 23 ≤ KC ∧ slots + 138 ≤ KS → gH D cA ad NL X H → va_S A s.heap H locs → lv_has ls 13 [(0, .ref b), (1, .ref (ad 0 0)), (2, .int p2), (3, .int p3), (4, .int p4), (6, .int p6), (7, .int p7), (8, .int p8), (10, .int p10)] → Q_law_J367 (gal NL) N p2 p3 p4 p8 p10 X = some (q2, q3, q4, q5, XX) → W p l e room_1 s m args below meth c H locs cells slots Q (F0 m 367 ls []) := by
  have hx := C.1
  have hb := C.2.1
  intro p2 p3 p4 p8 p10 X H locs ls cells slots hc hP hS hl hf
  rw [Q_law_J367] at hf
  refine lv_iconst (v := 0) hx hb dL_law_367 (by decide) ?_
  exact s_Q_law_J368 C hWd htr hW hg hD0 ha0 hk1 hKC _ _ _ _ _ _ X _ _ _ _ _ ⟨by omega, by omega⟩ hP hS (lv_sub hl [0, 1, 2, 3, 4, 5, 6, 7, 8] rfl) hf

set_option maxRecDepth 100000 in
set_option maxHeartbeats 4000000 in
theorem s_Q_law_J356 {p : Program} {l : Launch} {e : Env} {s : State} {m : MethodId} {args : Array Value} {below : List Frame} {meth : Method} {c : Code} {D : va_G} {cA : Nat → ClassId} {ad : Nat → Nat → Nat} {NL : List (Nat × Nat)} {A : Nat → Prop} {Q : State → Prop} {rt : Option FieldType} {b KC KS : Nat} {N : Nat} {q2 q3 q4 q5 p6 p7 : Int32} {XX : gM} (C : gCx p c meth m s args cL_law 13 rt RL D cA ad NL A) (hWd : gWd A s) (htr : l.stackTraces = false) (hW : gWf NL) (hg : ∀ n ∈ NL, n.1 < 43) (hD0 : gD (fun _ => True) ad NL) (ha0 : (0, 0) ∈ NL) (hk1 : (gCx p c meth m s args cL_law 13 rt RL D cA ad NL A → ∀ (H : Heap) (locs : List Loc) (ls : Array Slot) (cells slots : Nat), cells ≤ KC → slots ≤ KS → gH D cA ad NL XX H → va_S A s.heap H locs → lv_has ls 13 [(0, .ref b), (1, .ref (ad 0 0)), (2, .int q2), (3, .int q3), (4, .int q4), (5, .int q5), (6, .int p6), (7, .int p7)] → W p l e room_1 s m args below meth c H locs cells slots Q (F0 m 1135 ls []))) (hKC : KC ≤ room_1.cells ∧ KS ≤ room_1.slots) : ∀ (p2 : Int32) (p3 : Int32) (p4 : Int32) (p8 : Int32) (p10 : Int32) (p12 : Int32) (X : gM) (H : Heap) (locs : List Loc) (ls : Array Slot) (cells slots : Nat), cells + 23 ≤ KC ∧ slots + 138 ≤ KS → gH D cA ad NL X H → va_S A s.heap H locs → lv_has ls 13 [(0, .ref b), (1, .ref (ad 0 0)), (2, .int p2), (3, .int p3), (4, .int p4), (6, .int p6), (7, .int p7), (8, .int p8), (10, .int p10), (12, .int p12)] → Q_law_J356 (gal NL) N p2 p3 p4 p8 p10 p12 X = some (q2, q3, q4, q5, XX) → W p l e room_1 s m args below meth c H locs cells slots Q (F0 m 356 ls []) := by
  have hx := C.1
  have hb := C.2.1
  intro p2 p3 p4 p8 p10 p12 X H locs ls cells slots hc hP hS hl hf
  rw [Q_law_J356] at hf
  refine lv_iload hx hb dL_law_356 (lv_at hl 9 rfl) ?_
  refine lv_bipush (v := -9) hx hb dL_law_358 (by decide) ?_
  refine lv_icmp_ne (tgt := 367) hx hb dL_law_360 (by decide) (fun c1 => ?_) (fun c1 => ?_)
  · have hf := g_in c1 hf
    exact s_Q_law_J367 C hWd htr hW hg hD0 ha0 hk1 hKC _ _ _ _ _ X _ _ _ _ _ ⟨by omega, by omega⟩ hP hS (lv_sub hl [0, 1, 2, 3, 4, 5, 6, 7, 8] rfl) hf
  · have hf := g_ip c1 hf
    exact s_Q_law_J363 C hWd htr hW hg hD0 ha0 hk1 hKC _ _ _ _ _ X _ _ _ _ _ ⟨by omega, by omega⟩ hP hS (lv_sub hl [0, 1, 2, 3, 4, 5, 6, 7, 8] rfl) hf

set_option maxRecDepth 100000 in
set_option maxHeartbeats 4000000 in
theorem s_Q_law_J337 {p : Program} {l : Launch} {e : Env} {s : State} {m : MethodId} {args : Array Value} {below : List Frame} {meth : Method} {c : Code} {D : va_G} {cA : Nat → ClassId} {ad : Nat → Nat → Nat} {NL : List (Nat × Nat)} {A : Nat → Prop} {Q : State → Prop} {rt : Option FieldType} {b KC KS : Nat} {N : Nat} {q2 q3 q4 q5 p6 p7 : Int32} {XX : gM} (C : gCx p c meth m s args cL_law 13 rt RL D cA ad NL A) (hWd : gWd A s) (htr : l.stackTraces = false) (hW : gWf NL) (hg : ∀ n ∈ NL, n.1 < 43) (hD0 : gD (fun _ => True) ad NL) (ha0 : (0, 0) ∈ NL) (hk1 : (gCx p c meth m s args cL_law 13 rt RL D cA ad NL A → ∀ (H : Heap) (locs : List Loc) (ls : Array Slot) (cells slots : Nat), cells ≤ KC → slots ≤ KS → gH D cA ad NL XX H → va_S A s.heap H locs → lv_has ls 13 [(0, .ref b), (1, .ref (ad 0 0)), (2, .int q2), (3, .int q3), (4, .int q4), (5, .int q5), (6, .int p6), (7, .int p7)] → W p l e room_1 s m args below meth c H locs cells slots Q (F0 m 1135 ls []))) (hKC : KC ≤ room_1.cells ∧ KS ≤ room_1.slots) : ∀ (p2 : Int32) (p3 : Int32) (p4 : Int32) (p5 : Int32) (p8 : Int32) (p10 : Int32) (s0 : Int32) (X : gM) (H : Heap) (locs : List Loc) (ls : Array Slot) (cells slots : Nat), cells + 23 ≤ KC ∧ slots + 138 ≤ KS → gH D cA ad NL X H → va_S A s.heap H locs → lv_has ls 13 [(0, .ref b), (1, .ref (ad 0 0)), (2, .int p2), (3, .int p3), (4, .int p4), (5, .int p5), (6, .int p6), (7, .int p7), (8, .int p8), (10, .int p10)] → Q_law_J337 (gal NL) N p2 p3 p4 p5 p8 p10 s0 X = some (q2, q3, q4, q5, XX) → W p l e room_1 s m args below meth c H locs cells slots Q (F0 m 337 ls [.int s0]) := by
  have hx := C.1
  have hb := C.2.1
  intro p2 p3 p4 p5 p8 p10 s0 X H locs ls cells slots hc hP hS hl hf
  rw [Q_law_J337] at hf
  refine lv_istore (i := 12) (lv' := [(12, .int s0), (0, .ref b), (1, .ref (ad 0 0)), (2, .int p2), (3, .int p3), (4, .int p4), (5, .int p5), (6, .int p6), (7, .int p7), (8, .int p8), (10, .int p10)]) hx hb dL_law_337 hl (Nat.le_of_ble_eq_true rfl) rfl (fun ls hl => ?_)
  refine lv_iload hx hb dL_law_339 (lv_at hl 6 rfl) ?_
  refine lv_if_eq (tgt := 367) hx hb dL_law_341 (by decide) (fun c1 => ?_) (fun c1 => ?_)
  · have hf := g_ip c1 hf
    exact s_Q_law_J367 C hWd htr hW hg hD0 ha0 hk1 hKC _ _ _ _ _ X _ _ _ _ _ ⟨by omega, by omega⟩ hP hS (lv_sub hl [1, 2, 3, 4, 5, 7, 8, 9, 10] rfl) hf
  · have hf := g_in c1 hf
    refine lv_iload hx hb dL_law_344 (lv_at hl 0 rfl) ?_
    refine lv_if_lt (tgt := 356) hx hb dL_law_346 (by decide) (fun c2 => ?_) (fun c2 => ?_)
    · have hf := g_ip c2 hf
      exact s_Q_law_J356 C hWd htr hW hg hD0 ha0 hk1 hKC _ _ _ _ _ _ X _ _ _ _ _ ⟨by omega, by omega⟩ hP hS (lv_sub hl [1, 2, 3, 4, 5, 7, 8, 9, 10, 0] rfl) hf
    · have hf := g_in c2 hf
      refine lv_iload hx hb dL_law_349 (lv_at hl 0 rfl) ?_
      refine lv_bipush (v := 12) hx hb dL_law_351 (by decide) ?_
      refine lv_icmp_lt (tgt := 363) hx hb dL_law_353 (by decide) (fun c3 => ?_) (fun c3 => ?_)
      · have hf := g_ip c3 hf
        exact s_Q_law_J363 C hWd htr hW hg hD0 ha0 hk1 hKC _ _ _ _ _ X _ _ _ _ _ ⟨by omega, by omega⟩ hP hS (lv_sub hl [1, 2, 3, 4, 5, 7, 8, 9, 10] rfl) hf
      · have hf := g_in c3 hf
        exact s_Q_law_J356 C hWd htr hW hg hD0 ha0 hk1 hKC _ _ _ _ _ _ X _ _ _ _ _ ⟨by omega, by omega⟩ hP hS (lv_sub hl [1, 2, 3, 4, 5, 7, 8, 9, 10, 0] rfl) hf

set_option maxRecDepth 100000 in
set_option maxHeartbeats 4000000 in
theorem s_Q_law_J312 {p : Program} {l : Launch} {e : Env} {s : State} {m : MethodId} {args : Array Value} {below : List Frame} {meth : Method} {c : Code} {D : va_G} {cA : Nat → ClassId} {ad : Nat → Nat → Nat} {NL : List (Nat × Nat)} {A : Nat → Prop} {Q : State → Prop} {rt : Option FieldType} {b KC KS : Nat} {N : Nat} {q2 q3 q4 q5 p6 p7 : Int32} {XX : gM} {nw : List (Nat × Nat)} (C : gCx p c meth m s args cL_law 13 rt RL D cA ad NL A) (hWd : gWd A s) (htr : l.stackTraces = false) (hW : gWf NL) (hW2 : gWf (NL ++ nw)) (hg : ∀ n ∈ NL, n.1 < 43) (hg2 : ∀ n ∈ NL ++ nw, n.1 < 43) (hD0 : gD (fun _ => True) ad NL) (ha0 : (0, 0) ∈ NL) (hfr : gFr NL nw) (kk : ∀ a9 : Nat → Nat → Nat, (gCx p c meth m s args cL_law 13 rt RL D cA a9 (NL ++ nw) A → ∀ (H : Heap) (locs : List Loc) (ls : Array Slot) (cells slots : Nat), cells ≤ KC → slots ≤ KS → gH D cA a9 (NL ++ nw) XX H → va_S A s.heap H locs → lv_has ls 13 [(0, .ref b), (1, .ref (a9 0 0)), (2, .int q2), (3, .int q3), (4, .int q4), (5, .int q5), (6, .int p6), (7, .int p7)] → W p l e room_1 s m args below meth c H locs cells slots Q (F0 m 1135 ls []))) (hKC : KC ≤ room_1.cells ∧ KS ≤ room_1.slots) : ∀ (p2 : Int32) (p3 : Int32) (p4 : Int32) (p8 : Int32) (p10 : Int32) (s0 : Int32) (X : gM) (H : Heap) (locs : List Loc) (ls : Array Slot) (cells slots : Nat), cells + 25 ≤ KC ∧ slots + 180 ≤ KS → gDy NL X → gH D cA ad NL X H → va_S A s.heap H locs → lv_has ls 13 [(0, .ref b), (1, .ref (ad 0 0)), (2, .int p2), (3, .int p3), (4, .int p4), (6, .int p6), (7, .int p7), (8, .int p8), (10, .int p10)] → Q_law_J312 (gal NL) (gal (NL ++ nw)) N nw p2 p3 p4 p8 p10 s0 X = some (q2, q3, q4, q5, XX) → W p l e room_1 s m args below meth c H locs cells slots Q (F0 m 312 ls [.int s0]) := by
  have hx := C.1
  have hb := C.2.1
  intro p2 p3 p4 p8 p10 s0 X H locs ls cells slots hc hdy hP hS hl hf
  rw [Q_law_J312] at hf
  refine lv_istore (i := 5) (lv' := [(5, .int s0), (0, .ref b), (1, .ref (ad 0 0)), (2, .int p2), (3, .int p3), (4, .int p4), (6, .int p6), (7, .int p7), (8, .int p8), (10, .int p10)]) hx hb dL_law_312 hl (Nat.le_of_ble_eq_true rfl) rfl (fun ls hl => ?_)
  refine lv_iload hx hb dL_law_314 (lv_at hl 8 rfl) ?_
  refine lv_iconst (v := 4) hx hb dL_law_316 (by decide) ?_
  refine lv_ishr hx hb dL_law_317 ?_
  refine lv_iconst (v := 3) hx hb dL_law_318 (by decide) ?_
  refine r_low (rest := []) C hP hS hl.1 (by decide) ls_L_9 ⟨rfl, rfl, Nat.le_of_ble_eq_true rfl, Nat.le_of_ble_eq_true rfl⟩ (Nat.le_of_ble_eq_true rfl) ⟨by omega, by omega⟩ dL_law_319 (fun locs hP hS => ?_)
  refine g_top hf (fun v1 e2 hf => ?_)
  refine lv_if_ne (tgt := 329) hx hb dL_law_322 (by decide) (fun c3 => ?_) (fun c3 => ?_)
  · have hf := g_in c3 hf
    refine lv_aload_n hx hb dL_law_329 rfl (lv_at hl 2 rfl) ?_
    refine lv_iconst (v := 3) hx hb dL_law_330 (by decide) ?_
    refine lv_iconst (v := 0) hx hb dL_law_331 (by decide) ?_
    refine lv_iconst (v := 0) hx hb dL_law_332 (by decide) ?_
    refine lv_iconst (v := 0) hx hb dL_law_333 (by decide) ?_
    obtain ⟨r5, X4, h6, hf⟩ := b2_in hf
    obtain ⟨C, hP, hag⟩ := g_switch C hW hfr hdy hP
    rw [hag _ ha0] at hl
    rw [hag _ ha0]
    have hD0 : gD (fun _ => True) _ _ := gD_in C.2.2.2.2.2.2.2.2.2.1 (fun _ _ => trivial)
    refine r_callL (nw := nw) (rest := []) C hWd hP hS hl.1 rfl (s_Q_acts3 htr hW hD0 (gOv_al _ _ _) (gOv_nw hfr) ha0 hg2 h6) (gOv_nw hfr) il_L_acts ls_L_104 ⟨rfl, rfl, Nat.le_of_ble_eq_true rfl, Nat.le_of_ble_eq_true rfl⟩ rfl rfl (Nat.le_of_ble_eq_true rfl) ⟨by omega, by omega⟩ dL_law_334 (fun C H9 locs hP hS => ?_)
    have hW := hW2
    have hg := hg2
    have ha0 := List.mem_append_left nw ha0
    have hD0 : gD (fun _ => True) _ _ := gD_in C.2.2.2.2.2.2.2.2.2.1 (fun _ _ => trivial)
    have hk1 := kk (gOv ad H.size nw)
    exact s_Q_law_J337 C hWd htr hW hg hD0 ha0 hk1 hKC _ _ _ _ _ _ _ X4 _ _ _ _ _ ⟨by omega, by omega⟩ hP hS (lv_sub hl [1, 2, 3, 4, 5, 0, 6, 7, 8, 9] rfl) hf
  · have hf := g_ip c3 hf
    refine lv_iconst (v := 0) hx hb dL_law_325 (by decide) ?_
    refine lv_goto (tgt := 337) hx hb dL_law_326 (by decide) ?_
    obtain ⟨hnw, hf⟩ := eqn_in hf
    subst hnw
    rw [List.append_nil] at hf
    rw [List.append_nil] at kk
    have hk1 := kk ad
    exact s_Q_law_J337 C hWd htr hW hg hD0 ha0 hk1 hKC _ _ _ _ _ _ _ X _ _ _ _ _ ⟨by omega, by omega⟩ hP hS (lv_sub hl [1, 2, 3, 4, 5, 0, 6, 7, 8, 9] rfl) hf

set_option maxRecDepth 100000 in
set_option maxHeartbeats 4000000 in
theorem s_Q_law_J307 {p : Program} {l : Launch} {e : Env} {s : State} {m : MethodId} {args : Array Value} {below : List Frame} {meth : Method} {c : Code} {D : va_G} {cA : Nat → ClassId} {ad : Nat → Nat → Nat} {NL : List (Nat × Nat)} {A : Nat → Prop} {Q : State → Prop} {rt : Option FieldType} {b KC KS : Nat} {N : Nat} {q2 q3 q4 q5 p6 p7 : Int32} {XX : gM} {nw : List (Nat × Nat)} (C : gCx p c meth m s args cL_law 13 rt RL D cA ad NL A) (hWd : gWd A s) (htr : l.stackTraces = false) (hW : gWf NL) (hW2 : gWf (NL ++ nw)) (hg : ∀ n ∈ NL, n.1 < 43) (hg2 : ∀ n ∈ NL ++ nw, n.1 < 43) (hD0 : gD (fun _ => True) ad NL) (ha0 : (0, 0) ∈ NL) (hfr : gFr NL nw) (kk : ∀ a9 : Nat → Nat → Nat, (gCx p c meth m s args cL_law 13 rt RL D cA a9 (NL ++ nw) A → ∀ (H : Heap) (locs : List Loc) (ls : Array Slot) (cells slots : Nat), cells ≤ KC → slots ≤ KS → gH D cA a9 (NL ++ nw) XX H → va_S A s.heap H locs → lv_has ls 13 [(0, .ref b), (1, .ref (a9 0 0)), (2, .int q2), (3, .int q3), (4, .int q4), (5, .int q5), (6, .int p6), (7, .int p7)] → W p l e room_1 s m args below meth c H locs cells slots Q (F0 m 1135 ls []))) (hKC : KC ≤ room_1.cells ∧ KS ≤ room_1.slots) : ∀ (p2 : Int32) (p3 : Int32) (p4 : Int32) (p8 : Int32) (p10 : Int32) (X : gM) (H : Heap) (locs : List Loc) (ls : Array Slot) (cells slots : Nat), cells + 25 ≤ KC ∧ slots + 180 ≤ KS → gDy NL X → gH D cA ad NL X H → va_S A s.heap H locs → lv_has ls 13 [(0, .ref b), (1, .ref (ad 0 0)), (2, .int p2), (3, .int p3), (4, .int p4), (6, .int p6), (7, .int p7), (8, .int p8), (10, .int p10)] → Q_law_J307 (gal NL) (gal (NL ++ nw)) N nw p2 p3 p4 p8 p10 X = some (q2, q3, q4, q5, XX) → W p l e room_1 s m args below meth c H locs cells slots Q (F0 m 307 ls []) := by
  have hx := C.1
  have hb := C.2.1
  intro p2 p3 p4 p8 p10 X H locs ls cells slots hc hdy hP hS hl hf
  rw [Q_law_J307] at hf
  refine lv_iconst (v := 1) hx hb dL_law_307 (by decide) ?_
  refine lv_goto (tgt := 312) hx hb dL_law_308 (by decide) ?_
  exact s_Q_law_J312 C hWd htr hW hW2 hg hg2 hD0 ha0 hfr kk hKC _ _ _ _ _ _ X _ _ _ _ _ ⟨by omega, by omega⟩ hdy hP hS (lv_sub hl [0, 1, 2, 3, 4, 5, 6, 7, 8] rfl) hf

set_option maxRecDepth 100000 in
set_option maxHeartbeats 4000000 in
theorem s_Q_law_J425 {p : Program} {l : Launch} {e : Env} {s : State} {m : MethodId} {args : Array Value} {below : List Frame} {meth : Method} {c : Code} {D : va_G} {cA : Nat → ClassId} {ad : Nat → Nat → Nat} {NL : List (Nat × Nat)} {A : Nat → Prop} {Q : State → Prop} {rt : Option FieldType} {b KC KS : Nat} {N : Nat} {q2 q3 q4 q5 p6 p7 : Int32} {XX : gM} (C : gCx p c meth m s args cL_law 13 rt RL D cA ad NL A) (hWd : gWd A s) (htr : l.stackTraces = false) (hW : gWf NL) (hg : ∀ n ∈ NL, n.1 < 43) (hD0 : gD (fun _ => True) ad NL) (ha0 : (0, 0) ∈ NL) (hk1 : (gCx p c meth m s args cL_law 13 rt RL D cA ad NL A → ∀ (H : Heap) (locs : List Loc) (ls : Array Slot) (cells slots : Nat), cells ≤ KC → slots ≤ KS → gH D cA ad NL XX H → va_S A s.heap H locs → lv_has ls 13 [(0, .ref b), (1, .ref (ad 0 0)), (2, .int q2), (3, .int q3), (4, .int q4), (5, .int q5), (6, .int p6), (7, .int p7)] → W p l e room_1 s m args below meth c H locs cells slots Q (F0 m 1135 ls []))) (hKC : KC ≤ room_1.cells ∧ KS ≤ room_1.slots) : ∀ (p2 : Int32) (p3 : Int32) (p5 : Int32) (p8 : Int32) (p10 : Int32) (s0 : Int32) (s1 : Int32) (X : gM) (H : Heap) (locs : List Loc) (ls : Array Slot) (cells slots : Nat), cells + 23 ≤ KC ∧ slots + 138 ≤ KS → gH D cA ad NL X H → va_S A s.heap H locs → lv_has ls 13 [(0, .ref b), (1, .ref (ad 0 0)), (2, .int p2), (3, .int p3), (5, .int p5), (6, .int p6), (7, .int p7), (8, .int p8), (10, .int p10)] → Q_law_J425 (gal NL) N p2 p3 p5 p8 p10 s0 s1 X = some (q2, q3, q4, q5, XX) → W p l e room_1 s m args below meth c H locs cells slots Q (F0 m 425 ls [.int s1, .int s0]) := by
  have hx := C.1
  have hb := C.2.1
  intro p2 p3 p5 p8 p10 s0 s1 X H locs ls cells slots hc hP hS hl hf
  rw [Q_law_J425] at hf
  refine lv_iadd hx hb dL_law_425 ?_
  refine g_top hf (fun v1 e2 hf => ?_)
  refine lv_istore (i := 4) (lv' := [(4, .int v1), (0, .ref b), (1, .ref (ad 0 0)), (2, .int p2), (3, .int p3), (5, .int p5), (6, .int p6), (7, .int p7), (8, .int p8), (10, .int p10)]) hx hb dL_law_426 hl (Nat.le_of_ble_eq_true rfl) rfl (fun ls hl => ?_)
  refine lv_goto (tgt := 1028) hx hb dL_law_428 (by decide) ?_
  exact s_Q_law_J1028 C hWd htr hW hg hD0 ha0 hk1 hKC _ _ _ _ _ _ X _ _ _ _ _ ⟨by omega, by omega⟩ hP hS (lv_sub hl [1, 2, 3, 4, 0, 5, 6, 7, 8, 9] rfl) hf

set_option maxRecDepth 100000 in
set_option maxHeartbeats 4000000 in
theorem s_Q_law_J409 {p : Program} {l : Launch} {e : Env} {s : State} {m : MethodId} {args : Array Value} {below : List Frame} {meth : Method} {c : Code} {D : va_G} {cA : Nat → ClassId} {ad : Nat → Nat → Nat} {NL : List (Nat × Nat)} {A : Nat → Prop} {Q : State → Prop} {rt : Option FieldType} {b KC KS : Nat} {N : Nat} {q2 q3 q4 q5 p6 p7 : Int32} {XX : gM} (C : gCx p c meth m s args cL_law 13 rt RL D cA ad NL A) (hWd : gWd A s) (htr : l.stackTraces = false) (hW : gWf NL) (hg : ∀ n ∈ NL, n.1 < 43) (hD0 : gD (fun _ => True) ad NL) (ha0 : (0, 0) ∈ NL) (hk1 : (gCx p c meth m s args cL_law 13 rt RL D cA ad NL A → ∀ (H : Heap) (locs : List Loc) (ls : Array Slot) (cells slots : Nat), cells ≤ KC → slots ≤ KS → gH D cA ad NL XX H → va_S A s.heap H locs → lv_has ls 13 [(0, .ref b), (1, .ref (ad 0 0)), (2, .int q2), (3, .int q3), (4, .int q4), (5, .int q5), (6, .int p6), (7, .int p7)] → W p l e room_1 s m args below meth c H locs cells slots Q (F0 m 1135 ls []))) (hKC : KC ≤ room_1.cells ∧ KS ≤ room_1.slots) : ∀ (p2 : Int32) (p3 : Int32) (p4 : Int32) (p8 : Int32) (p10 : Int32) (p11 : Int32) (s0 : Int32) (X : gM) (H : Heap) (locs : List Loc) (ls : Array Slot) (cells slots : Nat), cells + 23 ≤ KC ∧ slots + 138 ≤ KS → gH D cA ad NL X H → va_S A s.heap H locs → lv_has ls 13 [(0, .ref b), (1, .ref (ad 0 0)), (2, .int p2), (3, .int p3), (4, .int p4), (6, .int p6), (7, .int p7), (8, .int p8), (10, .int p10), (11, .int p11)] → Q_law_J409 (gal NL) N p2 p3 p4 p8 p10 p11 s0 X = some (q2, q3, q4, q5, XX) → W p l e room_1 s m args below meth c H locs cells slots Q (F0 m 409 ls [.int s0]) := by
  have hx := C.1
  have hb := C.2.1
  intro p2 p3 p4 p8 p10 p11 s0 X H locs ls cells slots hc hP hS hl hf
  rw [Q_law_J409] at hf
  refine lv_istore (i := 5) (lv' := [(5, .int s0), (0, .ref b), (1, .ref (ad 0 0)), (2, .int p2), (3, .int p3), (4, .int p4), (6, .int p6), (7, .int p7), (8, .int p8), (10, .int p10), (11, .int p11)]) hx hb dL_law_409 hl (Nat.le_of_ble_eq_true rfl) rfl (fun ls hl => ?_)
  refine lv_iload hx hb dL_law_411 (lv_at hl 5 rfl) ?_
  refine lv_iload hx hb dL_law_413 (lv_at hl 10 rfl) ?_
  refine lv_iload hx hb dL_law_415 (lv_at hl 5 rfl) ?_
  refine lv_icmp_ne (tgt := 424) hx hb dL_law_417 (by decide) (fun c1 => ?_) (fun c1 => ?_)
  · have hf := g_in c1 hf
    refine lv_iconst (v := 0) hx hb dL_law_424 (by decide) ?_
    exact s_Q_law_J425 C hWd htr hW hg hD0 ha0 hk1 hKC _ _ _ _ _ _ _ X _ _ _ _ _ ⟨by omega, by omega⟩ hP hS (lv_sub hl [1, 2, 3, 4, 0, 6, 7, 8, 9] rfl) hf
  · have hf := g_ip c1 hf
    refine lv_iconst (v := 1) hx hb dL_law_420 (by decide) ?_
    refine lv_goto (tgt := 425) hx hb dL_law_421 (by decide) ?_
    exact s_Q_law_J425 C hWd htr hW hg hD0 ha0 hk1 hKC _ _ _ _ _ _ _ X _ _ _ _ _ ⟨by omega, by omega⟩ hP hS (lv_sub hl [1, 2, 3, 4, 0, 6, 7, 8, 9] rfl) hf

set_option maxRecDepth 100000 in
set_option maxHeartbeats 4000000 in
theorem s_Q_law_J404 {p : Program} {l : Launch} {e : Env} {s : State} {m : MethodId} {args : Array Value} {below : List Frame} {meth : Method} {c : Code} {D : va_G} {cA : Nat → ClassId} {ad : Nat → Nat → Nat} {NL : List (Nat × Nat)} {A : Nat → Prop} {Q : State → Prop} {rt : Option FieldType} {b KC KS : Nat} {N : Nat} {q2 q3 q4 q5 p6 p7 : Int32} {XX : gM} (C : gCx p c meth m s args cL_law 13 rt RL D cA ad NL A) (hWd : gWd A s) (htr : l.stackTraces = false) (hW : gWf NL) (hg : ∀ n ∈ NL, n.1 < 43) (hD0 : gD (fun _ => True) ad NL) (ha0 : (0, 0) ∈ NL) (hk1 : (gCx p c meth m s args cL_law 13 rt RL D cA ad NL A → ∀ (H : Heap) (locs : List Loc) (ls : Array Slot) (cells slots : Nat), cells ≤ KC → slots ≤ KS → gH D cA ad NL XX H → va_S A s.heap H locs → lv_has ls 13 [(0, .ref b), (1, .ref (ad 0 0)), (2, .int q2), (3, .int q3), (4, .int q4), (5, .int q5), (6, .int p6), (7, .int p7)] → W p l e room_1 s m args below meth c H locs cells slots Q (F0 m 1135 ls []))) (hKC : KC ≤ room_1.cells ∧ KS ≤ room_1.slots) : ∀ (p2 : Int32) (p3 : Int32) (p4 : Int32) (p8 : Int32) (p10 : Int32) (p11 : Int32) (X : gM) (H : Heap) (locs : List Loc) (ls : Array Slot) (cells slots : Nat), cells + 23 ≤ KC ∧ slots + 138 ≤ KS → gH D cA ad NL X H → va_S A s.heap H locs → lv_has ls 13 [(0, .ref b), (1, .ref (ad 0 0)), (2, .int p2), (3, .int p3), (4, .int p4), (6, .int p6), (7, .int p7), (8, .int p8), (10, .int p10), (11, .int p11)] → Q_law_J404 (gal NL) N p2 p3 p4 p8 p10 p11 X = some (q2, q3, q4, q5, XX) → W p l e room_1 s m args below meth c H locs cells slots Q (F0 m 404 ls []) := by
  have hx := C.1
  have hb := C.2.1
  intro p2 p3 p4 p8 p10 p11 X H locs ls cells slots hc hP hS hl hf
  rw [Q_law_J404] at hf
  refine lv_iconst (v := 1) hx hb dL_law_404 (by decide) ?_
  refine lv_goto (tgt := 409) hx hb dL_law_405 (by decide) ?_
  exact s_Q_law_J409 C hWd htr hW hg hD0 ha0 hk1 hKC _ _ _ _ _ _ _ X _ _ _ _ _ ⟨by omega, by omega⟩ hP hS (lv_sub hl [0, 1, 2, 3, 4, 5, 6, 7, 8, 9] rfl) hf

set_option maxRecDepth 100000 in
set_option maxHeartbeats 4000000 in
theorem s_Q_law_J511 {p : Program} {l : Launch} {e : Env} {s : State} {m : MethodId} {args : Array Value} {below : List Frame} {meth : Method} {c : Code} {D : va_G} {cA : Nat → ClassId} {ad : Nat → Nat → Nat} {NL : List (Nat × Nat)} {A : Nat → Prop} {Q : State → Prop} {rt : Option FieldType} {b KC KS : Nat} {N : Nat} {q2 q3 q4 q5 p6 p7 : Int32} {XX : gM} (C : gCx p c meth m s args cL_law 13 rt RL D cA ad NL A) (hWd : gWd A s) (htr : l.stackTraces = false) (hW : gWf NL) (hg : ∀ n ∈ NL, n.1 < 43) (hD0 : gD (fun _ => True) ad NL) (ha0 : (0, 0) ∈ NL) (hk1 : (gCx p c meth m s args cL_law 13 rt RL D cA ad NL A → ∀ (H : Heap) (locs : List Loc) (ls : Array Slot) (cells slots : Nat), cells ≤ KC → slots ≤ KS → gH D cA ad NL XX H → va_S A s.heap H locs → lv_has ls 13 [(0, .ref b), (1, .ref (ad 0 0)), (2, .int q2), (3, .int q3), (4, .int q4), (5, .int q5), (6, .int p6), (7, .int p7)] → W p l e room_1 s m args below meth c H locs cells slots Q (F0 m 1135 ls []))) (hKC : KC ≤ room_1.cells ∧ KS ≤ room_1.slots) : ∀ (p2 : Int32) (p3 : Int32) (p4 : Int32) (p8 : Int32) (p10 : Int32) (s0 : Int32) (X : gM) (H : Heap) (locs : List Loc) (ls : Array Slot) (cells slots : Nat), cells + 23 ≤ KC ∧ slots + 138 ≤ KS → gH D cA ad NL X H → va_S A s.heap H locs → lv_has ls 13 [(0, .ref b), (1, .ref (ad 0 0)), (2, .int p2), (3, .int p3), (4, .int p4), (6, .int p6), (7, .int p7), (8, .int p8), (10, .int p10)] → Q_law_J511 (gal NL) N p2 p3 p4 p8 p10 s0 X = some (q2, q3, q4, q5, XX) → W p l e room_1 s m args below meth c H locs cells slots Q (F0 m 511 ls [.int s0]) := by
  have hx := C.1
  have hb := C.2.1
  intro p2 p3 p4 p8 p10 s0 X H locs ls cells slots hc hP hS hl hf
  rw [Q_law_J511] at hf
  refine lv_istore (i := 5) (lv' := [(5, .int s0), (0, .ref b), (1, .ref (ad 0 0)), (2, .int p2), (3, .int p3), (4, .int p4), (6, .int p6), (7, .int p7), (8, .int p8), (10, .int p10)]) hx hb dL_law_511 hl (Nat.le_of_ble_eq_true rfl) rfl (fun ls hl => ?_)
  refine lv_goto (tgt := 1028) hx hb dL_law_513 (by decide) ?_
  exact s_Q_law_J1028 C hWd htr hW hg hD0 ha0 hk1 hKC _ _ _ _ _ _ X _ _ _ _ _ ⟨by omega, by omega⟩ hP hS (lv_sub hl [1, 2, 3, 4, 5, 0, 6, 7, 8, 9] rfl) hf

set_option maxRecDepth 100000 in
set_option maxHeartbeats 4000000 in
theorem s_Q_law_J506 {p : Program} {l : Launch} {e : Env} {s : State} {m : MethodId} {args : Array Value} {below : List Frame} {meth : Method} {c : Code} {D : va_G} {cA : Nat → ClassId} {ad : Nat → Nat → Nat} {NL : List (Nat × Nat)} {A : Nat → Prop} {Q : State → Prop} {rt : Option FieldType} {b KC KS : Nat} {N : Nat} {q2 q3 q4 q5 p6 p7 : Int32} {XX : gM} (C : gCx p c meth m s args cL_law 13 rt RL D cA ad NL A) (hWd : gWd A s) (htr : l.stackTraces = false) (hW : gWf NL) (hg : ∀ n ∈ NL, n.1 < 43) (hD0 : gD (fun _ => True) ad NL) (ha0 : (0, 0) ∈ NL) (hk1 : (gCx p c meth m s args cL_law 13 rt RL D cA ad NL A → ∀ (H : Heap) (locs : List Loc) (ls : Array Slot) (cells slots : Nat), cells ≤ KC → slots ≤ KS → gH D cA ad NL XX H → va_S A s.heap H locs → lv_has ls 13 [(0, .ref b), (1, .ref (ad 0 0)), (2, .int q2), (3, .int q3), (4, .int q4), (5, .int q5), (6, .int p6), (7, .int p7)] → W p l e room_1 s m args below meth c H locs cells slots Q (F0 m 1135 ls []))) (hKC : KC ≤ room_1.cells ∧ KS ≤ room_1.slots) : ∀ (p2 : Int32) (p3 : Int32) (p4 : Int32) (p8 : Int32) (p10 : Int32) (X : gM) (H : Heap) (locs : List Loc) (ls : Array Slot) (cells slots : Nat), cells + 23 ≤ KC ∧ slots + 138 ≤ KS → gH D cA ad NL X H → va_S A s.heap H locs → lv_has ls 13 [(0, .ref b), (1, .ref (ad 0 0)), (2, .int p2), (3, .int p3), (4, .int p4), (6, .int p6), (7, .int p7), (8, .int p8), (10, .int p10)] → Q_law_J506 (gal NL) N p2 p3 p4 p8 p10 X = some (q2, q3, q4, q5, XX) → W p l e room_1 s m args below meth c H locs cells slots Q (F0 m 506 ls []) := by
  have hx := C.1
  have hb := C.2.1
  intro p2 p3 p4 p8 p10 X H locs ls cells slots hc hP hS hl hf
  rw [Q_law_J506] at hf
  refine lv_iconst (v := 1) hx hb dL_law_506 (by decide) ?_
  refine lv_goto (tgt := 511) hx hb dL_law_507 (by decide) ?_
  exact s_Q_law_J511 C hWd htr hW hg hD0 ha0 hk1 hKC _ _ _ _ _ _ X _ _ _ _ _ ⟨by omega, by omega⟩ hP hS (lv_sub hl [0, 1, 2, 3, 4, 5, 6, 7, 8] rfl) hf

set_option maxRecDepth 100000 in
set_option maxHeartbeats 4000000 in
theorem s_Q_law_J492 {p : Program} {l : Launch} {e : Env} {s : State} {m : MethodId} {args : Array Value} {below : List Frame} {meth : Method} {c : Code} {D : va_G} {cA : Nat → ClassId} {ad : Nat → Nat → Nat} {NL : List (Nat × Nat)} {A : Nat → Prop} {Q : State → Prop} {rt : Option FieldType} {b KC KS : Nat} {N : Nat} {q2 q3 q4 q5 p6 p7 : Int32} {XX : gM} (C : gCx p c meth m s args cL_law 13 rt RL D cA ad NL A) (hWd : gWd A s) (htr : l.stackTraces = false) (hW : gWf NL) (hg : ∀ n ∈ NL, n.1 < 43) (hD0 : gD (fun _ => True) ad NL) (ha0 : (0, 0) ∈ NL) (hk1 : (gCx p c meth m s args cL_law 13 rt RL D cA ad NL A → ∀ (H : Heap) (locs : List Loc) (ls : Array Slot) (cells slots : Nat), cells ≤ KC → slots ≤ KS → gH D cA ad NL XX H → va_S A s.heap H locs → lv_has ls 13 [(0, .ref b), (1, .ref (ad 0 0)), (2, .int q2), (3, .int q3), (4, .int q4), (5, .int q5), (6, .int p6), (7, .int p7)] → W p l e room_1 s m args below meth c H locs cells slots Q (F0 m 1135 ls []))) (hKC : KC ≤ room_1.cells ∧ KS ≤ room_1.slots) : ∀ (p2 : Int32) (p3 : Int32) (p4 : Int32) (p8 : Int32) (p10 : Int32) (p11 : Int32) (X : gM) (H : Heap) (locs : List Loc) (ls : Array Slot) (cells slots : Nat), cells + 23 ≤ KC ∧ slots + 138 ≤ KS → gH D cA ad NL X H → va_S A s.heap H locs → lv_has ls 13 [(0, .ref b), (1, .ref (ad 0 0)), (2, .int p2), (3, .int p3), (4, .int p4), (6, .int p6), (7, .int p7), (8, .int p8), (10, .int p10), (11, .int p11)] → Q_law_J492 (gal NL) N p2 p3 p4 p8 p10 p11 X = some (q2, q3, q4, q5, XX) → W p l e room_1 s m args below meth c H locs cells slots Q (F0 m 492 ls []) := by
  have hx := C.1
  have hb := C.2.1
  intro p2 p3 p4 p8 p10 p11 X H locs ls cells slots hc hP hS hl hf
  rw [Q_law_J492] at hf
  refine lv_iload hx hb dL_law_492 (lv_at hl 9 rfl) ?_
  refine lv_bipush (v := -8) hx hb dL_law_494 (by decide) ?_
  refine lv_icmp_eq (tgt := 506) hx hb dL_law_496 (by decide) (fun c1 => ?_) (fun c1 => ?_)
  · have hf := g_ip c1 hf
    exact s_Q_law_J506 C hWd htr hW hg hD0 ha0 hk1 hKC _ _ _ _ _ X _ _ _ _ _ ⟨by omega, by omega⟩ hP hS (lv_sub hl [0, 1, 2, 3, 4, 5, 6, 7, 8] rfl) hf
  · have hf := g_in c1 hf
    refine lv_iload hx hb dL_law_499 (lv_at hl 9 rfl) ?_
    refine lv_bipush (v := -9) hx hb dL_law_501 (by decide) ?_
    refine lv_icmp_ne (tgt := 510) hx hb dL_law_503 (by decide) (fun c2 => ?_) (fun c2 => ?_)
    · have hf := g_in c2 hf
      refine lv_iconst (v := 0) hx hb dL_law_510 (by decide) ?_
      exact s_Q_law_J511 C hWd htr hW hg hD0 ha0 hk1 hKC _ _ _ _ _ _ X _ _ _ _ _ ⟨by omega, by omega⟩ hP hS (lv_sub hl [0, 1, 2, 3, 4, 5, 6, 7, 8] rfl) hf
    · have hf := g_ip c2 hf
      exact s_Q_law_J506 C hWd htr hW hg hD0 ha0 hk1 hKC _ _ _ _ _ X _ _ _ _ _ ⟨by omega, by omega⟩ hP hS (lv_sub hl [0, 1, 2, 3, 4, 5, 6, 7, 8] rfl) hf

set_option maxRecDepth 100000 in
set_option maxHeartbeats 4000000 in
theorem s_Q_law_J650 {p : Program} {l : Launch} {e : Env} {s : State} {m : MethodId} {args : Array Value} {below : List Frame} {meth : Method} {c : Code} {D : va_G} {cA : Nat → ClassId} {ad : Nat → Nat → Nat} {NL : List (Nat × Nat)} {A : Nat → Prop} {Q : State → Prop} {rt : Option FieldType} {b KC KS : Nat} {N : Nat} {q2 q3 q4 q5 p6 p7 : Int32} {XX : gM} (C : gCx p c meth m s args cL_law 13 rt RL D cA ad NL A) (hWd : gWd A s) (htr : l.stackTraces = false) (hW : gWf NL) (hg : ∀ n ∈ NL, n.1 < 43) (hD0 : gD (fun _ => True) ad NL) (ha0 : (0, 0) ∈ NL) (hk1 : (gCx p c meth m s args cL_law 13 rt RL D cA ad NL A → ∀ (H : Heap) (locs : List Loc) (ls : Array Slot) (cells slots : Nat), cells ≤ KC → slots ≤ KS → gH D cA ad NL XX H → va_S A s.heap H locs → lv_has ls 13 [(0, .ref b), (1, .ref (ad 0 0)), (2, .int q2), (3, .int q3), (4, .int q4), (5, .int q5), (6, .int p6), (7, .int p7)] → W p l e room_1 s m args below meth c H locs cells slots Q (F0 m 1135 ls []))) (hKC : KC ≤ room_1.cells ∧ KS ≤ room_1.slots) : ∀ (p2 : Int32) (p3 : Int32) (p4 : Int32) (p8 : Int32) (p10 : Int32) (s0 : Int32) (X : gM) (H : Heap) (locs : List Loc) (ls : Array Slot) (cells slots : Nat), cells + 23 ≤ KC ∧ slots + 138 ≤ KS → gH D cA ad NL X H → va_S A s.heap H locs → lv_has ls 13 [(0, .ref b), (1, .ref (ad 0 0)), (2, .int p2), (3, .int p3), (4, .int p4), (6, .int p6), (7, .int p7), (8, .int p8), (10, .int p10)] → Q_law_J650 (gal NL) N p2 p3 p4 p8 p10 s0 X = some (q2, q3, q4, q5, XX) → W p l e room_1 s m args below meth c H locs cells slots Q (F0 m 650 ls [.int s0]) := by
  have hx := C.1
  have hb := C.2.1
  intro p2 p3 p4 p8 p10 s0 X H locs ls cells slots hc hP hS hl hf
  rw [Q_law_J650] at hf
  refine lv_istore (i := 5) (lv' := [(5, .int s0), (0, .ref b), (1, .ref (ad 0 0)), (2, .int p2), (3, .int p3), (4, .int p4), (6, .int p6), (7, .int p7), (8, .int p8), (10, .int p10)]) hx hb dL_law_650 hl (Nat.le_of_ble_eq_true rfl) rfl (fun ls hl => ?_)
  refine lv_goto (tgt := 1028) hx hb dL_law_652 (by decide) ?_
  exact s_Q_law_J1028 C hWd htr hW hg hD0 ha0 hk1 hKC _ _ _ _ _ _ X _ _ _ _ _ ⟨by omega, by omega⟩ hP hS (lv_sub hl [1, 2, 3, 4, 5, 0, 6, 7, 8, 9] rfl) hf

set_option maxRecDepth 100000 in
set_option maxHeartbeats 4000000 in
theorem s_Q_law_J645 {p : Program} {l : Launch} {e : Env} {s : State} {m : MethodId} {args : Array Value} {below : List Frame} {meth : Method} {c : Code} {D : va_G} {cA : Nat → ClassId} {ad : Nat → Nat → Nat} {NL : List (Nat × Nat)} {A : Nat → Prop} {Q : State → Prop} {rt : Option FieldType} {b KC KS : Nat} {N : Nat} {q2 q3 q4 q5 p6 p7 : Int32} {XX : gM} (C : gCx p c meth m s args cL_law 13 rt RL D cA ad NL A) (hWd : gWd A s) (htr : l.stackTraces = false) (hW : gWf NL) (hg : ∀ n ∈ NL, n.1 < 43) (hD0 : gD (fun _ => True) ad NL) (ha0 : (0, 0) ∈ NL) (hk1 : (gCx p c meth m s args cL_law 13 rt RL D cA ad NL A → ∀ (H : Heap) (locs : List Loc) (ls : Array Slot) (cells slots : Nat), cells ≤ KC → slots ≤ KS → gH D cA ad NL XX H → va_S A s.heap H locs → lv_has ls 13 [(0, .ref b), (1, .ref (ad 0 0)), (2, .int q2), (3, .int q3), (4, .int q4), (5, .int q5), (6, .int p6), (7, .int p7)] → W p l e room_1 s m args below meth c H locs cells slots Q (F0 m 1135 ls []))) (hKC : KC ≤ room_1.cells ∧ KS ≤ room_1.slots) : ∀ (p2 : Int32) (p3 : Int32) (p4 : Int32) (p8 : Int32) (p10 : Int32) (X : gM) (H : Heap) (locs : List Loc) (ls : Array Slot) (cells slots : Nat), cells + 23 ≤ KC ∧ slots + 138 ≤ KS → gH D cA ad NL X H → va_S A s.heap H locs → lv_has ls 13 [(0, .ref b), (1, .ref (ad 0 0)), (2, .int p2), (3, .int p3), (4, .int p4), (6, .int p6), (7, .int p7), (8, .int p8), (10, .int p10)] → Q_law_J645 (gal NL) N p2 p3 p4 p8 p10 X = some (q2, q3, q4, q5, XX) → W p l e room_1 s m args below meth c H locs cells slots Q (F0 m 645 ls []) := by
  have hx := C.1
  have hb := C.2.1
  intro p2 p3 p4 p8 p10 X H locs ls cells slots hc hP hS hl hf
  rw [Q_law_J645] at hf
  refine lv_iconst (v := 1) hx hb dL_law_645 (by decide) ?_
  refine lv_goto (tgt := 650) hx hb dL_law_646 (by decide) ?_
  exact s_Q_law_J650 C hWd htr hW hg hD0 ha0 hk1 hKC _ _ _ _ _ _ X _ _ _ _ _ ⟨by omega, by omega⟩ hP hS (lv_sub hl [0, 1, 2, 3, 4, 5, 6, 7, 8] rfl) hf

set_option maxRecDepth 100000 in
set_option maxHeartbeats 4000000 in
theorem s_Q_law_J649 {p : Program} {l : Launch} {e : Env} {s : State} {m : MethodId} {args : Array Value} {below : List Frame} {meth : Method} {c : Code} {D : va_G} {cA : Nat → ClassId} {ad : Nat → Nat → Nat} {NL : List (Nat × Nat)} {A : Nat → Prop} {Q : State → Prop} {rt : Option FieldType} {b KC KS : Nat} {N : Nat} {q2 q3 q4 q5 p6 p7 : Int32} {XX : gM} (C : gCx p c meth m s args cL_law 13 rt RL D cA ad NL A) (hWd : gWd A s) (htr : l.stackTraces = false) (hW : gWf NL) (hg : ∀ n ∈ NL, n.1 < 43) (hD0 : gD (fun _ => True) ad NL) (ha0 : (0, 0) ∈ NL) (hk1 : (gCx p c meth m s args cL_law 13 rt RL D cA ad NL A → ∀ (H : Heap) (locs : List Loc) (ls : Array Slot) (cells slots : Nat), cells ≤ KC → slots ≤ KS → gH D cA ad NL XX H → va_S A s.heap H locs → lv_has ls 13 [(0, .ref b), (1, .ref (ad 0 0)), (2, .int q2), (3, .int q3), (4, .int q4), (5, .int q5), (6, .int p6), (7, .int p7)] → W p l e room_1 s m args below meth c H locs cells slots Q (F0 m 1135 ls []))) (hKC : KC ≤ room_1.cells ∧ KS ≤ room_1.slots) : ∀ (p2 : Int32) (p3 : Int32) (p4 : Int32) (p8 : Int32) (p10 : Int32) (X : gM) (H : Heap) (locs : List Loc) (ls : Array Slot) (cells slots : Nat), cells + 23 ≤ KC ∧ slots + 138 ≤ KS → gH D cA ad NL X H → va_S A s.heap H locs → lv_has ls 13 [(0, .ref b), (1, .ref (ad 0 0)), (2, .int p2), (3, .int p3), (4, .int p4), (6, .int p6), (7, .int p7), (8, .int p8), (10, .int p10)] → Q_law_J649 (gal NL) N p2 p3 p4 p8 p10 X = some (q2, q3, q4, q5, XX) → W p l e room_1 s m args below meth c H locs cells slots Q (F0 m 649 ls []) := by
  have hx := C.1
  have hb := C.2.1
  intro p2 p3 p4 p8 p10 X H locs ls cells slots hc hP hS hl hf
  rw [Q_law_J649] at hf
  refine lv_iconst (v := 0) hx hb dL_law_649 (by decide) ?_
  exact s_Q_law_J650 C hWd htr hW hg hD0 ha0 hk1 hKC _ _ _ _ _ _ X _ _ _ _ _ ⟨by omega, by omega⟩ hP hS (lv_sub hl [0, 1, 2, 3, 4, 5, 6, 7, 8] rfl) hf

set_option maxRecDepth 100000 in
set_option maxHeartbeats 4000000 in
theorem s_Q_law_J642 {p : Program} {l : Launch} {e : Env} {s : State} {m : MethodId} {args : Array Value} {below : List Frame} {meth : Method} {c : Code} {D : va_G} {cA : Nat → ClassId} {ad : Nat → Nat → Nat} {NL : List (Nat × Nat)} {A : Nat → Prop} {Q : State → Prop} {rt : Option FieldType} {b KC KS : Nat} {N : Nat} {q2 q3 q4 q5 p6 p7 : Int32} {XX : gM} (C : gCx p c meth m s args cL_law 13 rt RL D cA ad NL A) (hWd : gWd A s) (htr : l.stackTraces = false) (hW : gWf NL) (hg : ∀ n ∈ NL, n.1 < 43) (hD0 : gD (fun _ => True) ad NL) (ha0 : (0, 0) ∈ NL) (hk1 : (gCx p c meth m s args cL_law 13 rt RL D cA ad NL A → ∀ (H : Heap) (locs : List Loc) (ls : Array Slot) (cells slots : Nat), cells ≤ KC → slots ≤ KS → gH D cA ad NL XX H → va_S A s.heap H locs → lv_has ls 13 [(0, .ref b), (1, .ref (ad 0 0)), (2, .int q2), (3, .int q3), (4, .int q4), (5, .int q5), (6, .int p6), (7, .int p7)] → W p l e room_1 s m args below meth c H locs cells slots Q (F0 m 1135 ls []))) (hKC : KC ≤ room_1.cells ∧ KS ≤ room_1.slots) : ∀ (p2 : Int32) (p3 : Int32) (p4 : Int32) (p8 : Int32) (p10 : Int32) (s0 : Int32) (s1 : Int32) (X : gM) (H : Heap) (locs : List Loc) (ls : Array Slot) (cells slots : Nat), cells + 23 ≤ KC ∧ slots + 138 ≤ KS → gH D cA ad NL X H → va_S A s.heap H locs → lv_has ls 13 [(0, .ref b), (1, .ref (ad 0 0)), (2, .int p2), (3, .int p3), (4, .int p4), (6, .int p6), (7, .int p7), (8, .int p8), (10, .int p10)] → Q_law_J642 (gal NL) N p2 p3 p4 p8 p10 s0 s1 X = some (q2, q3, q4, q5, XX) → W p l e room_1 s m args below meth c H locs cells slots Q (F0 m 642 ls [.int s1, .int s0]) := by
  have hx := C.1
  have hb := C.2.1
  intro p2 p3 p4 p8 p10 s0 s1 X H locs ls cells slots hc hP hS hl hf
  rw [Q_law_J642] at hf
  refine lv_icmp_ne (tgt := 649) hx hb dL_law_642 (by decide) (fun c1 => ?_) (fun c1 => ?_)
  · have hf := g_in c1 hf
    exact s_Q_law_J649 C hWd htr hW hg hD0 ha0 hk1 hKC _ _ _ _ _ X _ _ _ _ _ ⟨by omega, by omega⟩ hP hS (lv_sub hl [0, 1, 2, 3, 4, 5, 6, 7, 8] rfl) hf
  · have hf := g_ip c1 hf
    exact s_Q_law_J645 C hWd htr hW hg hD0 ha0 hk1 hKC _ _ _ _ _ X _ _ _ _ _ ⟨by omega, by omega⟩ hP hS (lv_sub hl [0, 1, 2, 3, 4, 5, 6, 7, 8] rfl) hf

set_option maxRecDepth 100000 in
set_option maxHeartbeats 4000000 in
theorem s_Q_law_J625 {p : Program} {l : Launch} {e : Env} {s : State} {m : MethodId} {args : Array Value} {below : List Frame} {meth : Method} {c : Code} {D : va_G} {cA : Nat → ClassId} {ad : Nat → Nat → Nat} {NL : List (Nat × Nat)} {A : Nat → Prop} {Q : State → Prop} {rt : Option FieldType} {b KC KS : Nat} {N : Nat} {q2 q3 q4 q5 p6 p7 : Int32} {XX : gM} (C : gCx p c meth m s args cL_law 13 rt RL D cA ad NL A) (hWd : gWd A s) (htr : l.stackTraces = false) (hW : gWf NL) (hg : ∀ n ∈ NL, n.1 < 43) (hD0 : gD (fun _ => True) ad NL) (ha0 : (0, 0) ∈ NL) (hk1 : (gCx p c meth m s args cL_law 13 rt RL D cA ad NL A → ∀ (H : Heap) (locs : List Loc) (ls : Array Slot) (cells slots : Nat), cells ≤ KC → slots ≤ KS → gH D cA ad NL XX H → va_S A s.heap H locs → lv_has ls 13 [(0, .ref b), (1, .ref (ad 0 0)), (2, .int q2), (3, .int q3), (4, .int q4), (5, .int q5), (6, .int p6), (7, .int p7)] → W p l e room_1 s m args below meth c H locs cells slots Q (F0 m 1135 ls []))) (hKC : KC ≤ room_1.cells ∧ KS ≤ room_1.slots) : ∀ (p2 : Int32) (p3 : Int32) (p4 : Int32) (p8 : Int32) (p10 : Int32) (p11 : Int32) (s0 : Int32) (X : gM) (H : Heap) (locs : List Loc) (ls : Array Slot) (cells slots : Nat), cells + 24 ≤ KC ∧ slots + 144 ≤ KS → gH D cA ad NL X H → va_S A s.heap H locs → lv_has ls 13 [(0, .ref b), (1, .ref (ad 0 0)), (2, .int p2), (3, .int p3), (4, .int p4), (6, .int p6), (7, .int p7), (8, .int p8), (10, .int p10), (11, .int p11)] → Q_law_J625 (gal NL) N p2 p3 p4 p8 p10 p11 s0 X = some (q2, q3, q4, q5, XX) → W p l e room_1 s m args below meth c H locs cells slots Q (F0 m 625 ls [.int s0]) := by
  have hx := C.1
  have hb := C.2.1
  intro p2 p3 p4 p8 p10 p11 s0 X H locs ls cells slots hc hP hS hl hf
  rw [Q_law_J625] at hf
  refine lv_aload_n hx hb dL_law_625 rfl (lv_at hl 1 rfl) ?_
  refine lv_iload hx hb dL_law_626 (lv_at hl 8 rfl) ?_
  refine lv_iload hx hb dL_law_628 (lv_at hl 9 rfl) ?_
  refine lv_iconst (v := 0) hx hb dL_law_630 (by decide) ?_
  obtain ⟨r2, X1, h3, hf⟩ := b2_in hf
  refine r_callL (nw := []) (rest := [.int s0]) C hWd hP hS hl.1 rfl (s_Q_unmixed htr hW hD0 ha0 hg h3) True.intro il_L_unmixed ls_L_65 ⟨rfl, rfl, Nat.le_of_ble_eq_true rfl, Nat.le_of_ble_eq_true rfl⟩ rfl rfl (Nat.le_of_ble_eq_true rfl) ⟨by omega, by omega⟩ dL_law_631 (fun C H locs hP hS => ?_)
  rw [List.append_nil] at C hP
  refine lv_if_ge (tgt := 641) hx hb dL_law_634 (by decide) (fun c4 => ?_) (fun c4 => ?_)
  · have hf := g_ip c4 hf
    refine lv_iconst (v := 0) hx hb dL_law_641 (by decide) ?_
    exact s_Q_law_J642 C hWd htr hW hg hD0 ha0 hk1 hKC _ _ _ _ _ _ _ X1 _ _ _ _ _ ⟨by omega, by omega⟩ hP hS (lv_sub hl [0, 1, 2, 3, 4, 5, 6, 7, 8] rfl) hf
  · have hf := g_in c4 hf
    refine lv_iconst (v := 1) hx hb dL_law_637 (by decide) ?_
    refine lv_goto (tgt := 642) hx hb dL_law_638 (by decide) ?_
    exact s_Q_law_J642 C hWd htr hW hg hD0 ha0 hk1 hKC _ _ _ _ _ _ _ X1 _ _ _ _ _ ⟨by omega, by omega⟩ hP hS (lv_sub hl [0, 1, 2, 3, 4, 5, 6, 7, 8] rfl) hf

set_option maxRecDepth 100000 in
set_option maxHeartbeats 4000000 in
theorem s_Q_law_J575 {p : Program} {l : Launch} {e : Env} {s : State} {m : MethodId} {args : Array Value} {below : List Frame} {meth : Method} {c : Code} {D : va_G} {cA : Nat → ClassId} {ad : Nat → Nat → Nat} {NL : List (Nat × Nat)} {A : Nat → Prop} {Q : State → Prop} {rt : Option FieldType} {b KC KS : Nat} {N : Nat} {q2 q3 q4 q5 p6 p7 : Int32} {XX : gM} (C : gCx p c meth m s args cL_law 13 rt RL D cA ad NL A) (hWd : gWd A s) (htr : l.stackTraces = false) (hW : gWf NL) (hg : ∀ n ∈ NL, n.1 < 43) (hD0 : gD (fun _ => True) ad NL) (ha0 : (0, 0) ∈ NL) (hk1 : (gCx p c meth m s args cL_law 13 rt RL D cA ad NL A → ∀ (H : Heap) (locs : List Loc) (ls : Array Slot) (cells slots : Nat), cells ≤ KC → slots ≤ KS → gH D cA ad NL XX H → va_S A s.heap H locs → lv_has ls 13 [(0, .ref b), (1, .ref (ad 0 0)), (2, .int q2), (3, .int q3), (4, .int q4), (5, .int q5), (6, .int p6), (7, .int p7)] → W p l e room_1 s m args below meth c H locs cells slots Q (F0 m 1135 ls []))) (hKC : KC ≤ room_1.cells ∧ KS ≤ room_1.slots) : ∀ (p2 : Int32) (p3 : Int32) (p4 : Int32) (p8 : Int32) (p10 : Int32) (p11 : Int32) (s1 : Int32) (s2 : Int32) (s3 : Int32) (s4 : Int32) (X : gM) (H : Heap) (locs : List Loc) (ls : Array Slot) (cells slots : Nat), cells + 26 ≤ KC ∧ slots + 156 ≤ KS → gH D cA ad NL X H → va_S A s.heap H locs → lv_has ls 13 [(0, .ref b), (1, .ref (ad 0 0)), (2, .int p2), (3, .int p3), (4, .int p4), (6, .int p6), (7, .int p7), (8, .int p8), (10, .int p10), (11, .int p11)] → Q_law_J575 (gal NL) N p2 p3 p4 p8 p10 p11 s1 s2 s3 s4 X = some (q2, q3, q4, q5, XX) → W p l e room_1 s m args below meth c H locs cells slots Q (F0 m 575 ls [.int s4, .int s3, .int s2, .int s1, .ref (ad 0 0)]) := by
  have hx := C.1
  have hb := C.2.1
  intro p2 p3 p4 p8 p10 p11 s1 s2 s3 s4 X H locs ls cells slots hc hP hS hl hf
  rw [Q_law_J575] at hf
  obtain ⟨r2, X1, h3, hf⟩ := b2_in hf
  refine r_callL (nw := []) (rest := []) C hWd hP hS hl.1 rfl (s_Q_imaged htr hW hD0 ha0 hg h3) True.intro il_L_imaged ls_L_112 ⟨rfl, rfl, Nat.le_of_ble_eq_true rfl, Nat.le_of_ble_eq_true rfl⟩ rfl rfl (Nat.le_of_ble_eq_true rfl) ⟨by omega, by omega⟩ dL_law_575 (fun C H locs hP hS => ?_)
  rw [List.append_nil] at C hP
  refine lv_istore (i := 12) (lv' := [(12, .int r2), (0, .ref b), (1, .ref (ad 0 0)), (2, .int p2), (3, .int p3), (4, .int p4), (6, .int p6), (7, .int p7), (8, .int p8), (10, .int p10), (11, .int p11)]) hx hb dL_law_578 hl (Nat.le_of_ble_eq_true rfl) rfl (fun ls hl => ?_)
  refine lv_iload hx hb dL_law_580 (lv_at hl 0 rfl) ?_
  refine lv_aload_n hx hb dL_law_582 rfl (lv_at hl 2 rfl) ?_
  refine lv_iload hx hb dL_law_583 (lv_at hl 9 rfl) ?_
  refine lv_iload hx hb dL_law_585 (lv_at hl 10 rfl) ?_
  refine lv_iconst (v := 1) hx hb dL_law_587 (by decide) ?_
  obtain ⟨r5, X4, h6, hf⟩ := b2_in hf
  refine r_callL (nw := []) (rest := [.int r2]) C hWd hP hS hl.1 rfl (s_Q_unmixed htr hW hD0 ha0 hg h6) True.intro il_L_unmixed ls_L_65 ⟨rfl, rfl, Nat.le_of_ble_eq_true rfl, Nat.le_of_ble_eq_true rfl⟩ rfl rfl (Nat.le_of_ble_eq_true rfl) ⟨by omega, by omega⟩ dL_law_588 (fun C H locs hP hS => ?_)
  rw [List.append_nil] at C hP
  refine lv_icmp_ne (tgt := 649) hx hb dL_law_591 (by decide) (fun c7 => ?_) (fun c7 => ?_)
  · have hf := g_in c7 hf
    exact s_Q_law_J649 C hWd htr hW hg hD0 ha0 hk1 hKC _ _ _ _ _ X4 _ _ _ _ _ ⟨by omega, by omega⟩ hP hS (lv_sub hl [1, 2, 3, 4, 5, 6, 7, 8, 9] rfl) hf
  · have hf := g_ip c7 hf
    refine lv_iload hx hb dL_law_594 (lv_at hl 0 rfl) ?_
    refine lv_bipush (v := -8) hx hb dL_law_596 (by decide) ?_
    refine lv_icmp_lt (tgt := 649) hx hb dL_law_598 (by decide) (fun c8 => ?_) (fun c8 => ?_)
    · have hf := g_ip c8 hf
      exact s_Q_law_J649 C hWd htr hW hg hD0 ha0 hk1 hKC _ _ _ _ _ X4 _ _ _ _ _ ⟨by omega, by omega⟩ hP hS (lv_sub hl [1, 2, 3, 4, 5, 6, 7, 8, 9] rfl) hf
    · have hf := g_in c8 hf
      refine lv_iload hx hb dL_law_601 (lv_at hl 0 rfl) ?_
      refine lv_bipush (v := 9) hx hb dL_law_603 (by decide) ?_
      refine lv_icmp_gt (tgt := 649) hx hb dL_law_605 (by decide) (fun c9 => ?_) (fun c9 => ?_)
      · have hf := g_ip c9 hf
        exact s_Q_law_J649 C hWd htr hW hg hD0 ha0 hk1 hKC _ _ _ _ _ X4 _ _ _ _ _ ⟨by omega, by omega⟩ hP hS (lv_sub hl [1, 2, 3, 4, 5, 6, 7, 8, 9] rfl) hf
      · have hf := g_in c9 hf
        refine lv_iload hx hb dL_law_608 (lv_at hl 0 rfl) ?_
        refine lv_bipush (v := -8) hx hb dL_law_610 (by decide) ?_
        refine lv_icmp_eq (tgt := 645) hx hb dL_law_612 (by decide) (fun c10 => ?_) (fun c10 => ?_)
        · have hf := g_ip c10 hf
          exact s_Q_law_J645 C hWd htr hW hg hD0 ha0 hk1 hKC _ _ _ _ _ X4 _ _ _ _ _ ⟨by omega, by omega⟩ hP hS (lv_sub hl [1, 2, 3, 4, 5, 6, 7, 8, 9] rfl) hf
        · have hf := g_in c10 hf
          refine lv_iload hx hb dL_law_615 (lv_at hl 0 rfl) ?_
          refine lv_if_ge (tgt := 624) hx hb dL_law_617 (by decide) (fun c11 => ?_) (fun c11 => ?_)
          · have hf := g_ip c11 hf
            refine lv_iconst (v := 0) hx hb dL_law_624 (by decide) ?_
            exact s_Q_law_J625 C hWd htr hW hg hD0 ha0 hk1 hKC _ _ _ _ _ _ _ X4 _ _ _ _ _ ⟨by omega, by omega⟩ hP hS (lv_sub hl [1, 2, 3, 4, 5, 6, 7, 8, 9, 10] rfl) hf
          · have hf := g_in c11 hf
            refine lv_iconst (v := 1) hx hb dL_law_620 (by decide) ?_
            refine lv_goto (tgt := 625) hx hb dL_law_621 (by decide) ?_
            exact s_Q_law_J625 C hWd htr hW hg hD0 ha0 hk1 hKC _ _ _ _ _ _ _ X4 _ _ _ _ _ ⟨by omega, by omega⟩ hP hS (lv_sub hl [1, 2, 3, 4, 5, 6, 7, 8, 9, 10] rfl) hf

set_option maxRecDepth 100000 in
set_option maxHeartbeats 4000000 in
theorem s_Q_law_J794 {p : Program} {l : Launch} {e : Env} {s : State} {m : MethodId} {args : Array Value} {below : List Frame} {meth : Method} {c : Code} {D : va_G} {cA : Nat → ClassId} {ad : Nat → Nat → Nat} {NL : List (Nat × Nat)} {A : Nat → Prop} {Q : State → Prop} {rt : Option FieldType} {b KC KS : Nat} {N : Nat} {q2 q3 q4 q5 p6 p7 : Int32} {XX : gM} (C : gCx p c meth m s args cL_law 13 rt RL D cA ad NL A) (hWd : gWd A s) (htr : l.stackTraces = false) (hW : gWf NL) (hg : ∀ n ∈ NL, n.1 < 43) (hD0 : gD (fun _ => True) ad NL) (ha0 : (0, 0) ∈ NL) (hk1 : (gCx p c meth m s args cL_law 13 rt RL D cA ad NL A → ∀ (H : Heap) (locs : List Loc) (ls : Array Slot) (cells slots : Nat), cells ≤ KC → slots ≤ KS → gH D cA ad NL XX H → va_S A s.heap H locs → lv_has ls 13 [(0, .ref b), (1, .ref (ad 0 0)), (2, .int q2), (3, .int q3), (4, .int q4), (5, .int q5), (6, .int p6), (7, .int p7)] → W p l e room_1 s m args below meth c H locs cells slots Q (F0 m 1135 ls []))) (hKC : KC ≤ room_1.cells ∧ KS ≤ room_1.slots) : ∀ (p2 : Int32) (p4 : Int32) (p5 : Int32) (p8 : Int32) (p10 : Int32) (s0 : Int32) (s1 : Int32) (X : gM) (H : Heap) (locs : List Loc) (ls : Array Slot) (cells slots : Nat), cells + 23 ≤ KC ∧ slots + 138 ≤ KS → gH D cA ad NL X H → va_S A s.heap H locs → lv_has ls 13 [(0, .ref b), (1, .ref (ad 0 0)), (2, .int p2), (4, .int p4), (5, .int p5), (6, .int p6), (7, .int p7), (8, .int p8), (10, .int p10)] → Q_law_J794 (gal NL) N p2 p4 p5 p8 p10 s0 s1 X = some (q2, q3, q4, q5, XX) → W p l e room_1 s m args below meth c H locs cells slots Q (F0 m 794 ls [.int s1, .int s0]) := by
  have hx := C.1
  have hb := C.2.1
  intro p2 p4 p5 p8 p10 s0 s1 X H locs ls cells slots hc hP hS hl hf
  rw [Q_law_J794] at hf
  refine lv_iadd hx hb dL_law_794 ?_
  refine g_top hf (fun v1 e2 hf => ?_)
  refine lv_istore_n (i := 3) (lv' := [(3, .int v1), (0, .ref b), (1, .ref (ad 0 0)), (2, .int p2), (4, .int p4), (5, .int p5), (6, .int p6), (7, .int p7), (8, .int p8), (10, .int p10)]) hx hb dL_law_795 rfl hl (Nat.le_of_ble_eq_true rfl) rfl (fun ls hl => ?_)
  refine lv_goto (tgt := 1028) hx hb dL_law_796 (by decide) ?_
  exact s_Q_law_J1028 C hWd htr hW hg hD0 ha0 hk1 hKC _ _ _ _ _ _ X _ _ _ _ _ ⟨by omega, by omega⟩ hP hS (lv_sub hl [1, 2, 3, 0, 4, 5, 6, 7, 8, 9] rfl) hf

set_option maxRecDepth 100000 in
set_option maxHeartbeats 4000000 in
theorem s_Q_law_J780 {p : Program} {l : Launch} {e : Env} {s : State} {m : MethodId} {args : Array Value} {below : List Frame} {meth : Method} {c : Code} {D : va_G} {cA : Nat → ClassId} {ad : Nat → Nat → Nat} {NL : List (Nat × Nat)} {A : Nat → Prop} {Q : State → Prop} {rt : Option FieldType} {b KC KS : Nat} {N : Nat} {q2 q3 q4 q5 p6 p7 : Int32} {XX : gM} (C : gCx p c meth m s args cL_law 13 rt RL D cA ad NL A) (hWd : gWd A s) (htr : l.stackTraces = false) (hW : gWf NL) (hg : ∀ n ∈ NL, n.1 < 43) (hD0 : gD (fun _ => True) ad NL) (ha0 : (0, 0) ∈ NL) (hk1 : (gCx p c meth m s args cL_law 13 rt RL D cA ad NL A → ∀ (H : Heap) (locs : List Loc) (ls : Array Slot) (cells slots : Nat), cells ≤ KC → slots ≤ KS → gH D cA ad NL XX H → va_S A s.heap H locs → lv_has ls 13 [(0, .ref b), (1, .ref (ad 0 0)), (2, .int q2), (3, .int q3), (4, .int q4), (5, .int q5), (6, .int p6), (7, .int p7)] → W p l e room_1 s m args below meth c H locs cells slots Q (F0 m 1135 ls []))) (hKC : KC ≤ room_1.cells ∧ KS ≤ room_1.slots) : ∀ (p2 : Int32) (p3 : Int32) (p4 : Int32) (p8 : Int32) (p10 : Int32) (p11 : Int32) (s0 : Int32) (X : gM) (H : Heap) (locs : List Loc) (ls : Array Slot) (cells slots : Nat), cells + 23 ≤ KC ∧ slots + 138 ≤ KS → gH D cA ad NL X H → va_S A s.heap H locs → lv_has ls 13 [(0, .ref b), (1, .ref (ad 0 0)), (2, .int p2), (3, .int p3), (4, .int p4), (6, .int p6), (7, .int p7), (8, .int p8), (10, .int p10), (11, .int p11)] → Q_law_J780 (gal NL) N p2 p3 p4 p8 p10 p11 s0 X = some (q2, q3, q4, q5, XX) → W p l e room_1 s m args below meth c H locs cells slots Q (F0 m 780 ls [.int s0]) := by
  have hx := C.1
  have hb := C.2.1
  intro p2 p3 p4 p8 p10 p11 s0 X H locs ls cells slots hc hP hS hl hf
  rw [Q_law_J780] at hf
  refine lv_istore (i := 5) (lv' := [(5, .int s0), (0, .ref b), (1, .ref (ad 0 0)), (2, .int p2), (3, .int p3), (4, .int p4), (6, .int p6), (7, .int p7), (8, .int p8), (10, .int p10), (11, .int p11)]) hx hb dL_law_780 hl (Nat.le_of_ble_eq_true rfl) rfl (fun ls hl => ?_)
  refine lv_iload_n hx hb dL_law_782 rfl (lv_at hl 4 rfl) ?_
  refine lv_iload hx hb dL_law_783 (lv_at hl 10 rfl) ?_
  refine lv_iload_n hx hb dL_law_785 rfl (lv_at hl 4 rfl) ?_
  refine lv_icmp_ne (tgt := 793) hx hb dL_law_786 (by decide) (fun c1 => ?_) (fun c1 => ?_)
  · have hf := g_in c1 hf
    refine lv_iconst (v := 0) hx hb dL_law_793 (by decide) ?_
    exact s_Q_law_J794 C hWd htr hW hg hD0 ha0 hk1 hKC _ _ _ _ _ _ _ X _ _ _ _ _ ⟨by omega, by omega⟩ hP hS (lv_sub hl [1, 2, 3, 5, 0, 6, 7, 8, 9] rfl) hf
  · have hf := g_ip c1 hf
    refine lv_iconst (v := 1) hx hb dL_law_789 (by decide) ?_
    refine lv_goto (tgt := 794) hx hb dL_law_790 (by decide) ?_
    exact s_Q_law_J794 C hWd htr hW hg hD0 ha0 hk1 hKC _ _ _ _ _ _ _ X _ _ _ _ _ ⟨by omega, by omega⟩ hP hS (lv_sub hl [1, 2, 3, 5, 0, 6, 7, 8, 9] rfl) hf

set_option maxRecDepth 100000 in
set_option maxHeartbeats 4000000 in
theorem s_Q_law_J775 {p : Program} {l : Launch} {e : Env} {s : State} {m : MethodId} {args : Array Value} {below : List Frame} {meth : Method} {c : Code} {D : va_G} {cA : Nat → ClassId} {ad : Nat → Nat → Nat} {NL : List (Nat × Nat)} {A : Nat → Prop} {Q : State → Prop} {rt : Option FieldType} {b KC KS : Nat} {N : Nat} {q2 q3 q4 q5 p6 p7 : Int32} {XX : gM} (C : gCx p c meth m s args cL_law 13 rt RL D cA ad NL A) (hWd : gWd A s) (htr : l.stackTraces = false) (hW : gWf NL) (hg : ∀ n ∈ NL, n.1 < 43) (hD0 : gD (fun _ => True) ad NL) (ha0 : (0, 0) ∈ NL) (hk1 : (gCx p c meth m s args cL_law 13 rt RL D cA ad NL A → ∀ (H : Heap) (locs : List Loc) (ls : Array Slot) (cells slots : Nat), cells ≤ KC → slots ≤ KS → gH D cA ad NL XX H → va_S A s.heap H locs → lv_has ls 13 [(0, .ref b), (1, .ref (ad 0 0)), (2, .int q2), (3, .int q3), (4, .int q4), (5, .int q5), (6, .int p6), (7, .int p7)] → W p l e room_1 s m args below meth c H locs cells slots Q (F0 m 1135 ls []))) (hKC : KC ≤ room_1.cells ∧ KS ≤ room_1.slots) : ∀ (p2 : Int32) (p3 : Int32) (p4 : Int32) (p8 : Int32) (p10 : Int32) (p11 : Int32) (X : gM) (H : Heap) (locs : List Loc) (ls : Array Slot) (cells slots : Nat), cells + 23 ≤ KC ∧ slots + 138 ≤ KS → gH D cA ad NL X H → va_S A s.heap H locs → lv_has ls 13 [(0, .ref b), (1, .ref (ad 0 0)), (2, .int p2), (3, .int p3), (4, .int p4), (6, .int p6), (7, .int p7), (8, .int p8), (10, .int p10), (11, .int p11)] → Q_law_J775 (gal NL) N p2 p3 p4 p8 p10 p11 X = some (q2, q3, q4, q5, XX) → W p l e room_1 s m args below meth c H locs cells slots Q (F0 m 775 ls []) := by
  have hx := C.1
  have hb := C.2.1
  intro p2 p3 p4 p8 p10 p11 X H locs ls cells slots hc hP hS hl hf
  rw [Q_law_J775] at hf
  refine lv_iconst (v := 1) hx hb dL_law_775 (by decide) ?_
  refine lv_goto (tgt := 780) hx hb dL_law_776 (by decide) ?_
  exact s_Q_law_J780 C hWd htr hW hg hD0 ha0 hk1 hKC _ _ _ _ _ _ _ X _ _ _ _ _ ⟨by omega, by omega⟩ hP hS (lv_sub hl [0, 1, 2, 3, 4, 5, 6, 7, 8, 9] rfl) hf

set_option maxRecDepth 100000 in
set_option maxHeartbeats 4000000 in
theorem s_Q_law_J743 {p : Program} {l : Launch} {e : Env} {s : State} {m : MethodId} {args : Array Value} {below : List Frame} {meth : Method} {c : Code} {D : va_G} {cA : Nat → ClassId} {ad : Nat → Nat → Nat} {NL : List (Nat × Nat)} {A : Nat → Prop} {Q : State → Prop} {rt : Option FieldType} {b KC KS : Nat} {N : Nat} {q2 q3 q4 q5 p6 p7 : Int32} {XX : gM} {nw : List (Nat × Nat)} (C : gCx p c meth m s args cL_law 13 rt RL D cA ad NL A) (hWd : gWd A s) (htr : l.stackTraces = false) (hW : gWf NL) (hW2 : gWf (NL ++ nw)) (hg : ∀ n ∈ NL, n.1 < 43) (hg2 : ∀ n ∈ NL ++ nw, n.1 < 43) (hD0 : gD (fun _ => True) ad NL) (ha0 : (0, 0) ∈ NL) (hfr : gFr NL nw) (kk : ∀ a9 : Nat → Nat → Nat, (gCx p c meth m s args cL_law 13 rt RL D cA a9 (NL ++ nw) A → ∀ (H : Heap) (locs : List Loc) (ls : Array Slot) (cells slots : Nat), cells ≤ KC → slots ≤ KS → gH D cA a9 (NL ++ nw) XX H → va_S A s.heap H locs → lv_has ls 13 [(0, .ref b), (1, .ref (a9 0 0)), (2, .int q2), (3, .int q3), (4, .int q4), (5, .int q5), (6, .int p6), (7, .int p7)] → W p l e room_1 s m args below meth c H locs cells slots Q (F0 m 1135 ls []))) (hKC : KC ≤ room_1.cells ∧ KS ≤ room_1.slots) : ∀ (p2 : Int32) (p3 : Int32) (p4 : Int32) (p8 : Int32) (p10 : Int32) (s2 : Int32) (s3 : Int32) (s4 : Int32) (X : gM) (H : Heap) (locs : List Loc) (ls : Array Slot) (cells slots : Nat), cells + 24 ≤ KC ∧ slots + 145 ≤ KS → gDy NL X → gH D cA ad NL X H → va_S A s.heap H locs → lv_has ls 13 [(0, .ref b), (1, .ref (ad 0 0)), (2, .int p2), (3, .int p3), (4, .int p4), (6, .int p6), (7, .int p7), (8, .int p8), (10, .int p10)] → Q_law_J743 (gal NL) (gal (NL ++ nw)) N nw p2 p3 p4 p8 p10 s2 s3 s4 X = some (q2, q3, q4, q5, XX) → W p l e room_1 s m args below meth c H locs cells slots Q (F0 m 743 ls [.int s4, .int s3, .int s2, .int (5 : Int32), .ref (ad 0 0)]) := by
  have hx := C.1
  have hb := C.2.1
  intro p2 p3 p4 p8 p10 s2 s3 s4 X H locs ls cells slots hc hdy hP hS hl hf
  rw [Q_law_J743] at hf
  obtain ⟨r2, X1, h3, hf⟩ := b2_in hf
  obtain ⟨C, hP, hag⟩ := g_switch C hW hfr hdy hP
  rw [hag _ ha0] at hl
  rw [hag _ ha0]
  have hD0 : gD (fun _ => True) _ _ := gD_in C.2.2.2.2.2.2.2.2.2.1 (fun _ _ => trivial)
  refine r_callL (nw := nw) (rest := []) C hWd hP hS hl.1 rfl (s_Q_acts5 htr hW hD0 (gOv_al _ _ _) (gOv_nw hfr) ha0 hg2 h3) (gOv_nw hfr) il_L_acts ls_L_104 ⟨rfl, rfl, Nat.le_of_ble_eq_true rfl, Nat.le_of_ble_eq_true rfl⟩ rfl rfl (Nat.le_of_ble_eq_true rfl) ⟨by omega, by omega⟩ dL_law_743 (fun C H9 locs hP hS => ?_)
  have hW := hW2
  have hg := hg2
  have ha0 := List.mem_append_left nw ha0
  have hD0 : gD (fun _ => True) _ _ := gD_in C.2.2.2.2.2.2.2.2.2.1 (fun _ _ => trivial)
  have hk1 := kk (gOv ad H.size nw)
  refine lv_istore (i := 11) (lv' := [(11, .int r2), (0, .ref b), (1, .ref ((gOv ad H.size nw) 0 0)), (2, .int p2), (3, .int p3), (4, .int p4), (6, .int p6), (7, .int p7), (8, .int p8), (10, .int p10)]) hx hb dL_law_746 hl (Nat.le_of_ble_eq_true rfl) rfl (fun ls hl => ?_)
  refine lv_iload hx hb dL_law_748 (lv_at hl 0 rfl) ?_
  refine lv_iload_n hx hb dL_law_750 rfl (lv_at hl 4 rfl) ?_
  refine lv_icmp_eq (tgt := 775) hx hb dL_law_751 (by decide) (fun c4 => ?_) (fun c4 => ?_)
  · have hf := g_ip c4 hf
    exact s_Q_law_J775 C hWd htr hW hg hD0 ha0 hk1 hKC _ _ _ _ _ _ X1 _ _ _ _ _ ⟨by omega, by omega⟩ hP hS (lv_sub hl [1, 2, 3, 4, 5, 6, 7, 8, 9, 0] rfl) hf
  · have hf := g_in c4 hf
    refine lv_iload hx hb dL_law_754 (lv_at hl 0 rfl) ?_
    refine lv_bipush (v := -9) hx hb dL_law_756 (by decide) ?_
    refine lv_icmp_eq (tgt := 775) hx hb dL_law_758 (by decide) (fun c5 => ?_) (fun c5 => ?_)
    · have hf := g_ip c5 hf
      exact s_Q_law_J775 C hWd htr hW hg hD0 ha0 hk1 hKC _ _ _ _ _ _ X1 _ _ _ _ _ ⟨by omega, by omega⟩ hP hS (lv_sub hl [1, 2, 3, 4, 5, 6, 7, 8, 9, 0] rfl) hf
    · have hf := g_in c5 hf
      refine lv_iload hx hb dL_law_761 (lv_at hl 0 rfl) ?_
      refine lv_bipush (v := -8) hx hb dL_law_763 (by decide) ?_
      refine lv_icmp_eq (tgt := 775) hx hb dL_law_765 (by decide) (fun c6 => ?_) (fun c6 => ?_)
      · have hf := g_ip c6 hf
        exact s_Q_law_J775 C hWd htr hW hg hD0 ha0 hk1 hKC _ _ _ _ _ _ X1 _ _ _ _ _ ⟨by omega, by omega⟩ hP hS (lv_sub hl [1, 2, 3, 4, 5, 6, 7, 8, 9, 0] rfl) hf
      · have hf := g_in c6 hf
        refine lv_iload hx hb dL_law_768 (lv_at hl 0 rfl) ?_
        refine lv_bipush (v := -7) hx hb dL_law_770 (by decide) ?_
        refine lv_icmp_ne (tgt := 779) hx hb dL_law_772 (by decide) (fun c7 => ?_) (fun c7 => ?_)
        · have hf := g_in c7 hf
          refine lv_iconst (v := 0) hx hb dL_law_779 (by decide) ?_
          exact s_Q_law_J780 C hWd htr hW hg hD0 ha0 hk1 hKC _ _ _ _ _ _ _ X1 _ _ _ _ _ ⟨by omega, by omega⟩ hP hS (lv_sub hl [1, 2, 3, 4, 5, 6, 7, 8, 9, 0] rfl) hf
        · have hf := g_ip c7 hf
          exact s_Q_law_J775 C hWd htr hW hg hD0 ha0 hk1 hKC _ _ _ _ _ _ X1 _ _ _ _ _ ⟨by omega, by omega⟩ hP hS (lv_sub hl [1, 2, 3, 4, 5, 6, 7, 8, 9, 0] rfl) hf

set_option maxRecDepth 100000 in
set_option maxHeartbeats 4000000 in
theorem s_Q_law_J884 {p : Program} {l : Launch} {e : Env} {s : State} {m : MethodId} {args : Array Value} {below : List Frame} {meth : Method} {c : Code} {D : va_G} {cA : Nat → ClassId} {ad : Nat → Nat → Nat} {NL : List (Nat × Nat)} {A : Nat → Prop} {Q : State → Prop} {rt : Option FieldType} {b KC KS : Nat} {N : Nat} {q2 q3 q4 q5 p6 p7 : Int32} {XX : gM} (C : gCx p c meth m s args cL_law 13 rt RL D cA ad NL A) (hWd : gWd A s) (htr : l.stackTraces = false) (hW : gWf NL) (hg : ∀ n ∈ NL, n.1 < 43) (hD0 : gD (fun _ => True) ad NL) (ha0 : (0, 0) ∈ NL) (hk1 : (gCx p c meth m s args cL_law 13 rt RL D cA ad NL A → ∀ (H : Heap) (locs : List Loc) (ls : Array Slot) (cells slots : Nat), cells ≤ KC → slots ≤ KS → gH D cA ad NL XX H → va_S A s.heap H locs → lv_has ls 13 [(0, .ref b), (1, .ref (ad 0 0)), (2, .int q2), (3, .int q3), (4, .int q4), (5, .int q5), (6, .int p6), (7, .int p7)] → W p l e room_1 s m args below meth c H locs cells slots Q (F0 m 1135 ls []))) (hKC : KC ≤ room_1.cells ∧ KS ≤ room_1.slots) : ∀ (p2 : Int32) (p3 : Int32) (p4 : Int32) (p8 : Int32) (p10 : Int32) (s0 : Int32) (X : gM) (H : Heap) (locs : List Loc) (ls : Array Slot) (cells slots : Nat), cells + 23 ≤ KC ∧ slots + 138 ≤ KS → gH D cA ad NL X H → va_S A s.heap H locs → lv_has ls 13 [(0, .ref b), (1, .ref (ad 0 0)), (2, .int p2), (3, .int p3), (4, .int p4), (6, .int p6), (7, .int p7), (8, .int p8), (10, .int p10)] → Q_law_J884 (gal NL) N p2 p3 p4 p8 p10 s0 X = some (q2, q3, q4, q5, XX) → W p l e room_1 s m args below meth c H locs cells slots Q (F0 m 884 ls [.int s0]) := by
  have hx := C.1
  have hb := C.2.1
  intro p2 p3 p4 p8 p10 s0 X H locs ls cells slots hc hP hS hl hf
  rw [Q_law_J884] at hf
  refine lv_istore (i := 5) (lv' := [(5, .int s0), (0, .ref b), (1, .ref (ad 0 0)), (2, .int p2), (3, .int p3), (4, .int p4), (6, .int p6), (7, .int p7), (8, .int p8), (10, .int p10)]) hx hb dL_law_884 hl (Nat.le_of_ble_eq_true rfl) rfl (fun ls hl => ?_)
  refine lv_goto (tgt := 1028) hx hb dL_law_886 (by decide) ?_
  exact s_Q_law_J1028 C hWd htr hW hg hD0 ha0 hk1 hKC _ _ _ _ _ _ X _ _ _ _ _ ⟨by omega, by omega⟩ hP hS (lv_sub hl [1, 2, 3, 4, 5, 0, 6, 7, 8, 9] rfl) hf

set_option maxRecDepth 100000 in
set_option maxHeartbeats 4000000 in
theorem s_Q_law_J879 {p : Program} {l : Launch} {e : Env} {s : State} {m : MethodId} {args : Array Value} {below : List Frame} {meth : Method} {c : Code} {D : va_G} {cA : Nat → ClassId} {ad : Nat → Nat → Nat} {NL : List (Nat × Nat)} {A : Nat → Prop} {Q : State → Prop} {rt : Option FieldType} {b KC KS : Nat} {N : Nat} {q2 q3 q4 q5 p6 p7 : Int32} {XX : gM} (C : gCx p c meth m s args cL_law 13 rt RL D cA ad NL A) (hWd : gWd A s) (htr : l.stackTraces = false) (hW : gWf NL) (hg : ∀ n ∈ NL, n.1 < 43) (hD0 : gD (fun _ => True) ad NL) (ha0 : (0, 0) ∈ NL) (hk1 : (gCx p c meth m s args cL_law 13 rt RL D cA ad NL A → ∀ (H : Heap) (locs : List Loc) (ls : Array Slot) (cells slots : Nat), cells ≤ KC → slots ≤ KS → gH D cA ad NL XX H → va_S A s.heap H locs → lv_has ls 13 [(0, .ref b), (1, .ref (ad 0 0)), (2, .int q2), (3, .int q3), (4, .int q4), (5, .int q5), (6, .int p6), (7, .int p7)] → W p l e room_1 s m args below meth c H locs cells slots Q (F0 m 1135 ls []))) (hKC : KC ≤ room_1.cells ∧ KS ≤ room_1.slots) : ∀ (p2 : Int32) (p3 : Int32) (p4 : Int32) (p8 : Int32) (p10 : Int32) (X : gM) (H : Heap) (locs : List Loc) (ls : Array Slot) (cells slots : Nat), cells + 23 ≤ KC ∧ slots + 138 ≤ KS → gH D cA ad NL X H → va_S A s.heap H locs → lv_has ls 13 [(0, .ref b), (1, .ref (ad 0 0)), (2, .int p2), (3, .int p3), (4, .int p4), (6, .int p6), (7, .int p7), (8, .int p8), (10, .int p10)] → Q_law_J879 (gal NL) N p2 p3 p4 p8 p10 X = some (q2, q3, q4, q5, XX) → W p l e room_1 s m args below meth c H locs cells slots Q (F0 m 879 ls []) := by
  have hx := C.1
  have hb := C.2.1
  intro p2 p3 p4 p8 p10 X H locs ls cells slots hc hP hS hl hf
  rw [Q_law_J879] at hf
  refine lv_iconst (v := 1) hx hb dL_law_879 (by decide) ?_
  refine lv_goto (tgt := 884) hx hb dL_law_880 (by decide) ?_
  exact s_Q_law_J884 C hWd htr hW hg hD0 ha0 hk1 hKC _ _ _ _ _ _ X _ _ _ _ _ ⟨by omega, by omega⟩ hP hS (lv_sub hl [0, 1, 2, 3, 4, 5, 6, 7, 8] rfl) hf

set_option maxRecDepth 100000 in
set_option maxHeartbeats 4000000 in
theorem s_Q_law_J883 {p : Program} {l : Launch} {e : Env} {s : State} {m : MethodId} {args : Array Value} {below : List Frame} {meth : Method} {c : Code} {D : va_G} {cA : Nat → ClassId} {ad : Nat → Nat → Nat} {NL : List (Nat × Nat)} {A : Nat → Prop} {Q : State → Prop} {rt : Option FieldType} {b KC KS : Nat} {N : Nat} {q2 q3 q4 q5 p6 p7 : Int32} {XX : gM} (C : gCx p c meth m s args cL_law 13 rt RL D cA ad NL A) (hWd : gWd A s) (htr : l.stackTraces = false) (hW : gWf NL) (hg : ∀ n ∈ NL, n.1 < 43) (hD0 : gD (fun _ => True) ad NL) (ha0 : (0, 0) ∈ NL) (hk1 : (gCx p c meth m s args cL_law 13 rt RL D cA ad NL A → ∀ (H : Heap) (locs : List Loc) (ls : Array Slot) (cells slots : Nat), cells ≤ KC → slots ≤ KS → gH D cA ad NL XX H → va_S A s.heap H locs → lv_has ls 13 [(0, .ref b), (1, .ref (ad 0 0)), (2, .int q2), (3, .int q3), (4, .int q4), (5, .int q5), (6, .int p6), (7, .int p7)] → W p l e room_1 s m args below meth c H locs cells slots Q (F0 m 1135 ls []))) (hKC : KC ≤ room_1.cells ∧ KS ≤ room_1.slots) : ∀ (p2 : Int32) (p3 : Int32) (p4 : Int32) (p8 : Int32) (p10 : Int32) (X : gM) (H : Heap) (locs : List Loc) (ls : Array Slot) (cells slots : Nat), cells + 23 ≤ KC ∧ slots + 138 ≤ KS → gH D cA ad NL X H → va_S A s.heap H locs → lv_has ls 13 [(0, .ref b), (1, .ref (ad 0 0)), (2, .int p2), (3, .int p3), (4, .int p4), (6, .int p6), (7, .int p7), (8, .int p8), (10, .int p10)] → Q_law_J883 (gal NL) N p2 p3 p4 p8 p10 X = some (q2, q3, q4, q5, XX) → W p l e room_1 s m args below meth c H locs cells slots Q (F0 m 883 ls []) := by
  have hx := C.1
  have hb := C.2.1
  intro p2 p3 p4 p8 p10 X H locs ls cells slots hc hP hS hl hf
  rw [Q_law_J883] at hf
  refine lv_iconst (v := 0) hx hb dL_law_883 (by decide) ?_
  exact s_Q_law_J884 C hWd htr hW hg hD0 ha0 hk1 hKC _ _ _ _ _ _ X _ _ _ _ _ ⟨by omega, by omega⟩ hP hS (lv_sub hl [0, 1, 2, 3, 4, 5, 6, 7, 8] rfl) hf

set_option maxRecDepth 100000 in
set_option maxHeartbeats 4000000 in
theorem s_Q_law_J866 {p : Program} {l : Launch} {e : Env} {s : State} {m : MethodId} {args : Array Value} {below : List Frame} {meth : Method} {c : Code} {D : va_G} {cA : Nat → ClassId} {ad : Nat → Nat → Nat} {NL : List (Nat × Nat)} {A : Nat → Prop} {Q : State → Prop} {rt : Option FieldType} {b KC KS : Nat} {N : Nat} {q2 q3 q4 q5 p6 p7 : Int32} {XX : gM} (C : gCx p c meth m s args cL_law 13 rt RL D cA ad NL A) (hWd : gWd A s) (htr : l.stackTraces = false) (hW : gWf NL) (hg : ∀ n ∈ NL, n.1 < 43) (hD0 : gD (fun _ => True) ad NL) (ha0 : (0, 0) ∈ NL) (hk1 : (gCx p c meth m s args cL_law 13 rt RL D cA ad NL A → ∀ (H : Heap) (locs : List Loc) (ls : Array Slot) (cells slots : Nat), cells ≤ KC → slots ≤ KS → gH D cA ad NL XX H → va_S A s.heap H locs → lv_has ls 13 [(0, .ref b), (1, .ref (ad 0 0)), (2, .int q2), (3, .int q3), (4, .int q4), (5, .int q5), (6, .int p6), (7, .int p7)] → W p l e room_1 s m args below meth c H locs cells slots Q (F0 m 1135 ls []))) (hKC : KC ≤ room_1.cells ∧ KS ≤ room_1.slots) : ∀ (p2 : Int32) (p3 : Int32) (p4 : Int32) (p8 : Int32) (p10 : Int32) (p11 : Int32) (p12 : Int32) (X : gM) (H : Heap) (locs : List Loc) (ls : Array Slot) (cells slots : Nat), cells + 24 ≤ KC ∧ slots + 144 ≤ KS → gH D cA ad NL X H → va_S A s.heap H locs → lv_has ls 13 [(0, .ref b), (1, .ref (ad 0 0)), (2, .int p2), (3, .int p3), (4, .int p4), (6, .int p6), (7, .int p7), (8, .int p8), (10, .int p10), (11, .int p11), (12, .int p12)] → Q_law_J866 (gal NL) N p2 p3 p4 p8 p10 p11 p12 X = some (q2, q3, q4, q5, XX) → W p l e room_1 s m args below meth c H locs cells slots Q (F0 m 866 ls []) := by
  have hx := C.1
  have hb := C.2.1
  intro p2 p3 p4 p8 p10 p11 p12 X H locs ls cells slots hc hP hS hl hf
  rw [Q_law_J866] at hf
  refine lv_aload_n hx hb dL_law_866 rfl (lv_at hl 1 rfl) ?_
  refine lv_iload hx hb dL_law_867 (lv_at hl 9 rfl) ?_
  refine lv_iload hx hb dL_law_869 (lv_at hl 10 rfl) ?_
  obtain ⟨k4, r2, X1, h3, hf⟩ := b3_in hf
  refine r_callX (nw := []) (rest := []) C hWd.1 hWd.2.1 hWd.2.2.1 hP hS hl.1 rfl (gCX_A (s_P_hold htr hW hD0 ha0 hg h3)) True.intro ix_X9_hold iv_X9_hold ls_L_119 ⟨rfl, rfl, Nat.le_of_ble_eq_true rfl, Nat.le_of_ble_eq_true rfl⟩ ha0 (ct_0 _ _ _ _) rfl rfl rfl rfl (Nat.le_of_ble_eq_true rfl) ⟨by omega, by omega⟩ dL_law_871 (fun hk0 C H locs hP hS => ?_) (fun hk0 ce q9 H locs hP hS hce hcv hcl => ?_)
  · subst hk0
    have hf := g_ip rfl hf
    rw [List.append_nil] at C hP
    show W p l e room_1 s m _ below meth c H locs _ _ _ (F0 m 874 ls [.int r2])
    refine lv_iload hx hb dL_law_874 (lv_at hl 10 rfl) ?_
    refine lv_icmp_ne (tgt := 883) hx hb dL_law_876 (by decide) (fun c5 => ?_) (fun c5 => ?_)
    · have hf := g_in c5 hf
      exact s_Q_law_J883 C hWd htr hW hg hD0 ha0 hk1 hKC _ _ _ _ _ X1 _ _ _ _ _ ⟨by omega, by omega⟩ hP hS (lv_sub hl [0, 1, 2, 3, 4, 5, 6, 7, 8] rfl) hf
    · have hf := g_ip c5 hf
      exact s_Q_law_J879 C hWd htr hW hg hD0 ha0 hk1 hKC _ _ _ _ _ X1 _ _ _ _ _ ⟨by omega, by omega⟩ hP hS (lv_sub hl [0, 1, 2, 3, 4, 5, 6, 7, 8] rfl) hf
  · have hf := g_in hk0 hf
    cases hf

set_option maxRecDepth 100000 in
set_option maxHeartbeats 4000000 in
theorem s_Q_law_J839 {p : Program} {l : Launch} {e : Env} {s : State} {m : MethodId} {args : Array Value} {below : List Frame} {meth : Method} {c : Code} {D : va_G} {cA : Nat → ClassId} {ad : Nat → Nat → Nat} {NL : List (Nat × Nat)} {A : Nat → Prop} {Q : State → Prop} {rt : Option FieldType} {b KC KS : Nat} {N : Nat} {q2 q3 q4 q5 p6 p7 : Int32} {XX : gM} (C : gCx p c meth m s args cL_law 13 rt RL D cA ad NL A) (hWd : gWd A s) (htr : l.stackTraces = false) (hW : gWf NL) (hg : ∀ n ∈ NL, n.1 < 43) (hD0 : gD (fun _ => True) ad NL) (ha0 : (0, 0) ∈ NL) (hk1 : (gCx p c meth m s args cL_law 13 rt RL D cA ad NL A → ∀ (H : Heap) (locs : List Loc) (ls : Array Slot) (cells slots : Nat), cells ≤ KC → slots ≤ KS → gH D cA ad NL XX H → va_S A s.heap H locs → lv_has ls 13 [(0, .ref b), (1, .ref (ad 0 0)), (2, .int q2), (3, .int q3), (4, .int q4), (5, .int q5), (6, .int p6), (7, .int p7)] → W p l e room_1 s m args below meth c H locs cells slots Q (F0 m 1135 ls []))) (hKC : KC ≤ room_1.cells ∧ KS ≤ room_1.slots) : ∀ (p2 : Int32) (p3 : Int32) (p4 : Int32) (p8 : Int32) (p10 : Int32) (p11 : Int32) (s0 : Int32) (X : gM) (H : Heap) (locs : List Loc) (ls : Array Slot) (cells slots : Nat), cells + 25 ≤ KC ∧ slots + 150 ≤ KS → gH D cA ad NL X H → va_S A s.heap H locs → lv_has ls 13 [(0, .ref b), (1, .ref (ad 0 0)), (2, .int p2), (3, .int p3), (4, .int p4), (6, .int p6), (7, .int p7), (8, .int p8), (10, .int p10), (11, .int p11)] → Q_law_J839 (gal NL) N p2 p3 p4 p8 p10 p11 s0 X = some (q2, q3, q4, q5, XX) → W p l e room_1 s m args below meth c H locs cells slots Q (F0 m 839 ls [.int s0]) := by
  have hx := C.1
  have hb := C.2.1
  intro p2 p3 p4 p8 p10 p11 s0 X H locs ls cells slots hc hP hS hl hf
  rw [Q_law_J839] at hf
  refine lv_istore (i := 12) (lv' := [(12, .int s0), (0, .ref b), (1, .ref (ad 0 0)), (2, .int p2), (3, .int p3), (4, .int p4), (6, .int p6), (7, .int p7), (8, .int p8), (10, .int p10), (11, .int p11)]) hx hb dL_law_839 hl (Nat.le_of_ble_eq_true rfl) rfl (fun ls hl => ?_)
  refine lv_iload_n hx hb dL_law_841 rfl (lv_at hl 4 rfl) ?_
  refine lv_if_eq (tgt := 879) hx hb dL_law_842 (by decide) (fun c1 => ?_) (fun c1 => ?_)
  · have hf := g_ip c1 hf
    exact s_Q_law_J879 C hWd htr hW hg hD0 ha0 hk1 hKC _ _ _ _ _ X _ _ _ _ _ ⟨by omega, by omega⟩ hP hS (lv_sub hl [1, 2, 3, 4, 5, 6, 7, 8, 9] rfl) hf
  · have hf := g_in c1 hf
    refine lv_aload_n hx hb dL_law_845 rfl (lv_at hl 2 rfl) ?_
    refine lv_iload hx hb dL_law_846 (lv_at hl 10 rfl) ?_
    refine lv_iload hx hb dL_law_848 (lv_at hl 0 rfl) ?_
    obtain ⟨k5, r3, X2, h4, hf⟩ := b3_in hf
    refine r_callX (nw := []) (rest := []) C hWd.1 hWd.2.1 hWd.2.2.1 hP hS hl.1 rfl (gCX_A (s_P_hold htr hW hD0 ha0 hg h4)) True.intro ix_X9_hold iv_X9_hold ls_L_119 ⟨rfl, rfl, Nat.le_of_ble_eq_true rfl, Nat.le_of_ble_eq_true rfl⟩ ha0 (ct_0 _ _ _ _) rfl rfl rfl rfl (Nat.le_of_ble_eq_true rfl) ⟨by omega, by omega⟩ dL_law_850 (fun hk0 C H locs hP hS => ?_) (fun hk0 ce q9 H locs hP hS hce hcv hcl => ?_)
    · subst hk0
      have hf := g_ip rfl hf
      rw [List.append_nil] at C hP
      show W p l e room_1 s m _ below meth c H locs _ _ _ (F0 m 853 ls [.int r3])
      refine lv_if_ne (tgt := 866) hx hb dL_law_853 (by decide) (fun c6 => ?_) (fun c6 => ?_)
      · have hf := g_in c6 hf
        exact s_Q_law_J866 C hWd htr hW hg hD0 ha0 hk1 hKC _ _ _ _ _ _ _ X2 _ _ _ _ _ ⟨by omega, by omega⟩ hP hS (lv_sub hl [1, 2, 3, 4, 5, 6, 7, 8, 9, 10, 0] rfl) hf
      · have hf := g_ip c6 hf
        refine lv_iload hx hb dL_law_856 (lv_at hl 0 rfl) ?_
        refine lv_if_eq (tgt := 866) hx hb dL_law_858 (by decide) (fun c7 => ?_) (fun c7 => ?_)
        · have hf := g_ip c7 hf
          exact s_Q_law_J866 C hWd htr hW hg hD0 ha0 hk1 hKC _ _ _ _ _ _ _ X2 _ _ _ _ _ ⟨by omega, by omega⟩ hP hS (lv_sub hl [1, 2, 3, 4, 5, 6, 7, 8, 9, 10, 0] rfl) hf
        · have hf := g_in c7 hf
          refine lv_iload hx hb dL_law_861 (lv_at hl 0 rfl) ?_
          refine lv_if_eq (tgt := 883) hx hb dL_law_863 (by decide) (fun c8 => ?_) (fun c8 => ?_)
          · have hf := g_ip c8 hf
            exact s_Q_law_J883 C hWd htr hW hg hD0 ha0 hk1 hKC _ _ _ _ _ X2 _ _ _ _ _ ⟨by omega, by omega⟩ hP hS (lv_sub hl [1, 2, 3, 4, 5, 6, 7, 8, 9] rfl) hf
          · have hf := g_in c8 hf
            exact s_Q_law_J866 C hWd htr hW hg hD0 ha0 hk1 hKC _ _ _ _ _ _ _ X2 _ _ _ _ _ ⟨by omega, by omega⟩ hP hS (lv_sub hl [1, 2, 3, 4, 5, 6, 7, 8, 9, 10, 0] rfl) hf
    · have hf := g_in hk0 hf
      cases hf

set_option maxRecDepth 100000 in
set_option maxHeartbeats 4000000 in
theorem s_Q_law_J823 {p : Program} {l : Launch} {e : Env} {s : State} {m : MethodId} {args : Array Value} {below : List Frame} {meth : Method} {c : Code} {D : va_G} {cA : Nat → ClassId} {ad : Nat → Nat → Nat} {NL : List (Nat × Nat)} {A : Nat → Prop} {Q : State → Prop} {rt : Option FieldType} {b KC KS : Nat} {N : Nat} {q2 q3 q4 q5 p6 p7 : Int32} {XX : gM} (C : gCx p c meth m s args cL_law 13 rt RL D cA ad NL A) (hWd : gWd A s) (htr : l.stackTraces = false) (hW : gWf NL) (hg : ∀ n ∈ NL, n.1 < 43) (hD0 : gD (fun _ => True) ad NL) (ha0 : (0, 0) ∈ NL) (hk1 : (gCx p c meth m s args cL_law 13 rt RL D cA ad NL A → ∀ (H : Heap) (locs : List Loc) (ls : Array Slot) (cells slots : Nat), cells ≤ KC → slots ≤ KS → gH D cA ad NL XX H → va_S A s.heap H locs → lv_has ls 13 [(0, .ref b), (1, .ref (ad 0 0)), (2, .int q2), (3, .int q3), (4, .int q4), (5, .int q5), (6, .int p6), (7, .int p7)] → W p l e room_1 s m args below meth c H locs cells slots Q (F0 m 1135 ls []))) (hKC : KC ≤ room_1.cells ∧ KS ≤ room_1.slots) : ∀ (p2 : Int32) (p3 : Int32) (p4 : Int32) (p8 : Int32) (p10 : Int32) (s0 : Int32) (X : gM) (H : Heap) (locs : List Loc) (ls : Array Slot) (cells slots : Nat), cells + 25 ≤ KC ∧ slots + 150 ≤ KS → gH D cA ad NL X H → va_S A s.heap H locs → lv_has ls 13 [(0, .ref b), (1, .ref (ad 0 0)), (2, .int p2), (3, .int p3), (4, .int p4), (6, .int p6), (7, .int p7), (8, .int p8), (10, .int p10)] → Q_law_J823 (gal NL) N p2 p3 p4 p8 p10 s0 X = some (q2, q3, q4, q5, XX) → W p l e room_1 s m args below meth c H locs cells slots Q (F0 m 823 ls [.int s0]) := by
  have hx := C.1
  have hb := C.2.1
  intro p2 p3 p4 p8 p10 s0 X H locs ls cells slots hc hP hS hl hf
  rw [Q_law_J823] at hf
  refine lv_istore (i := 11) (lv' := [(11, .int s0), (0, .ref b), (1, .ref (ad 0 0)), (2, .int p2), (3, .int p3), (4, .int p4), (6, .int p6), (7, .int p7), (8, .int p8), (10, .int p10)]) hx hb dL_law_823 hl (Nat.le_of_ble_eq_true rfl) rfl (fun ls hl => ?_)
  refine lv_iload hx hb dL_law_825 (lv_at hl 8 rfl) ?_
  refine lv_iconst (v := 2) hx hb dL_law_827 (by decide) ?_
  refine r_low (rest := []) C hP hS hl.1 (by decide) ls_L_9 ⟨rfl, rfl, Nat.le_of_ble_eq_true rfl, Nat.le_of_ble_eq_true rfl⟩ (Nat.le_of_ble_eq_true rfl) ⟨by omega, by omega⟩ dL_law_828 (fun locs hP hS => ?_)
  refine g_top hf (fun v1 e2 hf => ?_)
  refine lv_if_ne (tgt := 838) hx hb dL_law_831 (by decide) (fun c3 => ?_) (fun c3 => ?_)
  · have hf := g_in c3 hf
    refine lv_iconst (v := 0) hx hb dL_law_838 (by decide) ?_
    exact s_Q_law_J839 C hWd htr hW hg hD0 ha0 hk1 hKC _ _ _ _ _ _ _ X _ _ _ _ _ ⟨by omega, by omega⟩ hP hS (lv_sub hl [1, 2, 3, 4, 5, 6, 7, 8, 9, 0] rfl) hf
  · have hf := g_ip c3 hf
    refine lv_iconst (v := 1) hx hb dL_law_834 (by decide) ?_
    refine lv_goto (tgt := 839) hx hb dL_law_835 (by decide) ?_
    exact s_Q_law_J839 C hWd htr hW hg hD0 ha0 hk1 hKC _ _ _ _ _ _ _ X _ _ _ _ _ ⟨by omega, by omega⟩ hP hS (lv_sub hl [1, 2, 3, 4, 5, 6, 7, 8, 9, 0] rfl) hf

set_option maxRecDepth 100000 in
set_option maxHeartbeats 4000000 in
theorem s_Q_law_J955 {p : Program} {l : Launch} {e : Env} {s : State} {m : MethodId} {args : Array Value} {below : List Frame} {meth : Method} {c : Code} {D : va_G} {cA : Nat → ClassId} {ad : Nat → Nat → Nat} {NL : List (Nat × Nat)} {A : Nat → Prop} {Q : State → Prop} {rt : Option FieldType} {b KC KS : Nat} {N : Nat} {q2 q3 q4 q5 p6 p7 : Int32} {XX : gM} (C : gCx p c meth m s args cL_law 13 rt RL D cA ad NL A) (hWd : gWd A s) (htr : l.stackTraces = false) (hW : gWf NL) (hg : ∀ n ∈ NL, n.1 < 43) (hD0 : gD (fun _ => True) ad NL) (ha0 : (0, 0) ∈ NL) (hk1 : (gCx p c meth m s args cL_law 13 rt RL D cA ad NL A → ∀ (H : Heap) (locs : List Loc) (ls : Array Slot) (cells slots : Nat), cells ≤ KC → slots ≤ KS → gH D cA ad NL XX H → va_S A s.heap H locs → lv_has ls 13 [(0, .ref b), (1, .ref (ad 0 0)), (2, .int q2), (3, .int q3), (4, .int q4), (5, .int q5), (6, .int p6), (7, .int p7)] → W p l e room_1 s m args below meth c H locs cells slots Q (F0 m 1135 ls []))) (hKC : KC ≤ room_1.cells ∧ KS ≤ room_1.slots) : ∀ (p2 : Int32) (p3 : Int32) (p4 : Int32) (p8 : Int32) (p10 : Int32) (s0 : Int32) (X : gM) (H : Heap) (locs : List Loc) (ls : Array Slot) (cells slots : Nat), cells + 23 ≤ KC ∧ slots + 138 ≤ KS → gH D cA ad NL X H → va_S A s.heap H locs → lv_has ls 13 [(0, .ref b), (1, .ref (ad 0 0)), (2, .int p2), (3, .int p3), (4, .int p4), (6, .int p6), (7, .int p7), (8, .int p8), (10, .int p10)] → Q_law_J955 (gal NL) N p2 p3 p4 p8 p10 s0 X = some (q2, q3, q4, q5, XX) → W p l e room_1 s m args below meth c H locs cells slots Q (F0 m 955 ls [.int s0]) := by
  have hx := C.1
  have hb := C.2.1
  intro p2 p3 p4 p8 p10 s0 X H locs ls cells slots hc hP hS hl hf
  rw [Q_law_J955] at hf
  refine lv_istore (i := 5) (lv' := [(5, .int s0), (0, .ref b), (1, .ref (ad 0 0)), (2, .int p2), (3, .int p3), (4, .int p4), (6, .int p6), (7, .int p7), (8, .int p8), (10, .int p10)]) hx hb dL_law_955 hl (Nat.le_of_ble_eq_true rfl) rfl (fun ls hl => ?_)
  refine lv_goto (tgt := 1028) hx hb dL_law_957 (by decide) ?_
  exact s_Q_law_J1028 C hWd htr hW hg hD0 ha0 hk1 hKC _ _ _ _ _ _ X _ _ _ _ _ ⟨by omega, by omega⟩ hP hS (lv_sub hl [1, 2, 3, 4, 5, 0, 6, 7, 8, 9] rfl) hf

set_option maxRecDepth 100000 in
set_option maxHeartbeats 4000000 in
theorem s_Q_law_J954 {p : Program} {l : Launch} {e : Env} {s : State} {m : MethodId} {args : Array Value} {below : List Frame} {meth : Method} {c : Code} {D : va_G} {cA : Nat → ClassId} {ad : Nat → Nat → Nat} {NL : List (Nat × Nat)} {A : Nat → Prop} {Q : State → Prop} {rt : Option FieldType} {b KC KS : Nat} {N : Nat} {q2 q3 q4 q5 p6 p7 : Int32} {XX : gM} (C : gCx p c meth m s args cL_law 13 rt RL D cA ad NL A) (hWd : gWd A s) (htr : l.stackTraces = false) (hW : gWf NL) (hg : ∀ n ∈ NL, n.1 < 43) (hD0 : gD (fun _ => True) ad NL) (ha0 : (0, 0) ∈ NL) (hk1 : (gCx p c meth m s args cL_law 13 rt RL D cA ad NL A → ∀ (H : Heap) (locs : List Loc) (ls : Array Slot) (cells slots : Nat), cells ≤ KC → slots ≤ KS → gH D cA ad NL XX H → va_S A s.heap H locs → lv_has ls 13 [(0, .ref b), (1, .ref (ad 0 0)), (2, .int q2), (3, .int q3), (4, .int q4), (5, .int q5), (6, .int p6), (7, .int p7)] → W p l e room_1 s m args below meth c H locs cells slots Q (F0 m 1135 ls []))) (hKC : KC ≤ room_1.cells ∧ KS ≤ room_1.slots) : ∀ (p2 : Int32) (p3 : Int32) (p4 : Int32) (p8 : Int32) (p10 : Int32) (X : gM) (H : Heap) (locs : List Loc) (ls : Array Slot) (cells slots : Nat), cells + 23 ≤ KC ∧ slots + 138 ≤ KS → gH D cA ad NL X H → va_S A s.heap H locs → lv_has ls 13 [(0, .ref b), (1, .ref (ad 0 0)), (2, .int p2), (3, .int p3), (4, .int p4), (6, .int p6), (7, .int p7), (8, .int p8), (10, .int p10)] → Q_law_J954 (gal NL) N p2 p3 p4 p8 p10 X = some (q2, q3, q4, q5, XX) → W p l e room_1 s m args below meth c H locs cells slots Q (F0 m 954 ls []) := by
  have hx := C.1
  have hb := C.2.1
  intro p2 p3 p4 p8 p10 X H locs ls cells slots hc hP hS hl hf
  rw [Q_law_J954] at hf
  refine lv_iconst (v := 0) hx hb dL_law_954 (by decide) ?_
  exact s_Q_law_J955 C hWd htr hW hg hD0 ha0 hk1 hKC _ _ _ _ _ _ X _ _ _ _ _ ⟨by omega, by omega⟩ hP hS (lv_sub hl [0, 1, 2, 3, 4, 5, 6, 7, 8] rfl) hf

set_option maxRecDepth 100000 in
set_option maxHeartbeats 4000000 in
theorem s_Q_law_J1026 {p : Program} {l : Launch} {e : Env} {s : State} {m : MethodId} {args : Array Value} {below : List Frame} {meth : Method} {c : Code} {D : va_G} {cA : Nat → ClassId} {ad : Nat → Nat → Nat} {NL : List (Nat × Nat)} {A : Nat → Prop} {Q : State → Prop} {rt : Option FieldType} {b KC KS : Nat} {N : Nat} {q2 q3 q4 q5 p6 p7 : Int32} {XX : gM} (C : gCx p c meth m s args cL_law 13 rt RL D cA ad NL A) (hWd : gWd A s) (htr : l.stackTraces = false) (hW : gWf NL) (hg : ∀ n ∈ NL, n.1 < 43) (hD0 : gD (fun _ => True) ad NL) (ha0 : (0, 0) ∈ NL) (hk1 : (gCx p c meth m s args cL_law 13 rt RL D cA ad NL A → ∀ (H : Heap) (locs : List Loc) (ls : Array Slot) (cells slots : Nat), cells ≤ KC → slots ≤ KS → gH D cA ad NL XX H → va_S A s.heap H locs → lv_has ls 13 [(0, .ref b), (1, .ref (ad 0 0)), (2, .int q2), (3, .int q3), (4, .int q4), (5, .int q5), (6, .int p6), (7, .int p7)] → W p l e room_1 s m args below meth c H locs cells slots Q (F0 m 1135 ls []))) (hKC : KC ≤ room_1.cells ∧ KS ≤ room_1.slots) : ∀ (p2 : Int32) (p3 : Int32) (p4 : Int32) (p8 : Int32) (p10 : Int32) (s0 : Int32) (X : gM) (H : Heap) (locs : List Loc) (ls : Array Slot) (cells slots : Nat), cells + 23 ≤ KC ∧ slots + 138 ≤ KS → gH D cA ad NL X H → va_S A s.heap H locs → lv_has ls 13 [(0, .ref b), (1, .ref (ad 0 0)), (2, .int p2), (3, .int p3), (4, .int p4), (6, .int p6), (7, .int p7), (8, .int p8), (10, .int p10)] → Q_law_J1026 (gal NL) N p2 p3 p4 p8 p10 s0 X = some (q2, q3, q4, q5, XX) → W p l e room_1 s m args below meth c H locs cells slots Q (F0 m 1026 ls [.int s0]) := by
  have hx := C.1
  have hb := C.2.1
  intro p2 p3 p4 p8 p10 s0 X H locs ls cells slots hc hP hS hl hf
  rw [Q_law_J1026] at hf
  refine lv_istore (i := 5) (lv' := [(5, .int s0), (0, .ref b), (1, .ref (ad 0 0)), (2, .int p2), (3, .int p3), (4, .int p4), (6, .int p6), (7, .int p7), (8, .int p8), (10, .int p10)]) hx hb dL_law_1026 hl (Nat.le_of_ble_eq_true rfl) rfl (fun ls hl => ?_)
  exact s_Q_law_J1028 C hWd htr hW hg hD0 ha0 hk1 hKC _ _ _ _ _ _ X _ _ _ _ _ ⟨by omega, by omega⟩ hP hS (lv_sub hl [1, 2, 3, 4, 5, 0, 6, 7, 8, 9] rfl) hf

set_option maxRecDepth 100000 in
set_option maxHeartbeats 4000000 in
theorem s_Q_law_J1021 {p : Program} {l : Launch} {e : Env} {s : State} {m : MethodId} {args : Array Value} {below : List Frame} {meth : Method} {c : Code} {D : va_G} {cA : Nat → ClassId} {ad : Nat → Nat → Nat} {NL : List (Nat × Nat)} {A : Nat → Prop} {Q : State → Prop} {rt : Option FieldType} {b KC KS : Nat} {N : Nat} {q2 q3 q4 q5 p6 p7 : Int32} {XX : gM} (C : gCx p c meth m s args cL_law 13 rt RL D cA ad NL A) (hWd : gWd A s) (htr : l.stackTraces = false) (hW : gWf NL) (hg : ∀ n ∈ NL, n.1 < 43) (hD0 : gD (fun _ => True) ad NL) (ha0 : (0, 0) ∈ NL) (hk1 : (gCx p c meth m s args cL_law 13 rt RL D cA ad NL A → ∀ (H : Heap) (locs : List Loc) (ls : Array Slot) (cells slots : Nat), cells ≤ KC → slots ≤ KS → gH D cA ad NL XX H → va_S A s.heap H locs → lv_has ls 13 [(0, .ref b), (1, .ref (ad 0 0)), (2, .int q2), (3, .int q3), (4, .int q4), (5, .int q5), (6, .int p6), (7, .int p7)] → W p l e room_1 s m args below meth c H locs cells slots Q (F0 m 1135 ls []))) (hKC : KC ≤ room_1.cells ∧ KS ≤ room_1.slots) : ∀ (p2 : Int32) (p3 : Int32) (p4 : Int32) (p8 : Int32) (p10 : Int32) (X : gM) (H : Heap) (locs : List Loc) (ls : Array Slot) (cells slots : Nat), cells + 23 ≤ KC ∧ slots + 138 ≤ KS → gH D cA ad NL X H → va_S A s.heap H locs → lv_has ls 13 [(0, .ref b), (1, .ref (ad 0 0)), (2, .int p2), (3, .int p3), (4, .int p4), (6, .int p6), (7, .int p7), (8, .int p8), (10, .int p10)] → Q_law_J1021 (gal NL) N p2 p3 p4 p8 p10 X = some (q2, q3, q4, q5, XX) → W p l e room_1 s m args below meth c H locs cells slots Q (F0 m 1021 ls []) := by
  have hx := C.1
  have hb := C.2.1
  intro p2 p3 p4 p8 p10 X H locs ls cells slots hc hP hS hl hf
  rw [Q_law_J1021] at hf
  refine lv_iconst (v := 1) hx hb dL_law_1021 (by decide) ?_
  refine lv_goto (tgt := 1026) hx hb dL_law_1022 (by decide) ?_
  exact s_Q_law_J1026 C hWd htr hW hg hD0 ha0 hk1 hKC _ _ _ _ _ _ X _ _ _ _ _ ⟨by omega, by omega⟩ hP hS (lv_sub hl [0, 1, 2, 3, 4, 5, 6, 7, 8] rfl) hf

set_option maxRecDepth 100000 in
set_option maxHeartbeats 4000000 in
theorem s_Q_law_J1025 {p : Program} {l : Launch} {e : Env} {s : State} {m : MethodId} {args : Array Value} {below : List Frame} {meth : Method} {c : Code} {D : va_G} {cA : Nat → ClassId} {ad : Nat → Nat → Nat} {NL : List (Nat × Nat)} {A : Nat → Prop} {Q : State → Prop} {rt : Option FieldType} {b KC KS : Nat} {N : Nat} {q2 q3 q4 q5 p6 p7 : Int32} {XX : gM} (C : gCx p c meth m s args cL_law 13 rt RL D cA ad NL A) (hWd : gWd A s) (htr : l.stackTraces = false) (hW : gWf NL) (hg : ∀ n ∈ NL, n.1 < 43) (hD0 : gD (fun _ => True) ad NL) (ha0 : (0, 0) ∈ NL) (hk1 : (gCx p c meth m s args cL_law 13 rt RL D cA ad NL A → ∀ (H : Heap) (locs : List Loc) (ls : Array Slot) (cells slots : Nat), cells ≤ KC → slots ≤ KS → gH D cA ad NL XX H → va_S A s.heap H locs → lv_has ls 13 [(0, .ref b), (1, .ref (ad 0 0)), (2, .int q2), (3, .int q3), (4, .int q4), (5, .int q5), (6, .int p6), (7, .int p7)] → W p l e room_1 s m args below meth c H locs cells slots Q (F0 m 1135 ls []))) (hKC : KC ≤ room_1.cells ∧ KS ≤ room_1.slots) : ∀ (p2 : Int32) (p3 : Int32) (p4 : Int32) (p8 : Int32) (p10 : Int32) (X : gM) (H : Heap) (locs : List Loc) (ls : Array Slot) (cells slots : Nat), cells + 23 ≤ KC ∧ slots + 138 ≤ KS → gH D cA ad NL X H → va_S A s.heap H locs → lv_has ls 13 [(0, .ref b), (1, .ref (ad 0 0)), (2, .int p2), (3, .int p3), (4, .int p4), (6, .int p6), (7, .int p7), (8, .int p8), (10, .int p10)] → Q_law_J1025 (gal NL) N p2 p3 p4 p8 p10 X = some (q2, q3, q4, q5, XX) → W p l e room_1 s m args below meth c H locs cells slots Q (F0 m 1025 ls []) := by
  have hx := C.1
  have hb := C.2.1
  intro p2 p3 p4 p8 p10 X H locs ls cells slots hc hP hS hl hf
  rw [Q_law_J1025] at hf
  refine lv_iconst (v := 0) hx hb dL_law_1025 (by decide) ?_
  exact s_Q_law_J1026 C hWd htr hW hg hD0 ha0 hk1 hKC _ _ _ _ _ _ X _ _ _ _ _ ⟨by omega, by omega⟩ hP hS (lv_sub hl [0, 1, 2, 3, 4, 5, 6, 7, 8] rfl) hf

set_option maxRecDepth 100000 in
set_option maxHeartbeats 4000000 in
theorem s_Q_law_J214 {p : Program} {l : Launch} {e : Env} {s : State} {m : MethodId} {args : Array Value} {below : List Frame} {meth : Method} {c : Code} {D : va_G} {cA : Nat → ClassId} {ad : Nat → Nat → Nat} {NL : List (Nat × Nat)} {A : Nat → Prop} {Q : State → Prop} {rt : Option FieldType} {b KC KS : Nat} {N : Nat} {q2 q3 q4 q5 p6 p7 : Int32} {XX : gM} {nw : List (Nat × Nat)} (C : gCx p c meth m s args cL_law 13 rt RL D cA ad NL A) (hWd : gWd A s) (htr : l.stackTraces = false) (hW : gWf NL) (hW2 : gWf (NL ++ nw)) (hg : ∀ n ∈ NL, n.1 < 43) (hg2 : ∀ n ∈ NL ++ nw, n.1 < 43) (hD0 : gD (fun _ => True) ad NL) (ha0 : (0, 0) ∈ NL) (hfr : gFr NL nw) (kk : ∀ a9 : Nat → Nat → Nat, (gCx p c meth m s args cL_law 13 rt RL D cA a9 (NL ++ nw) A → ∀ (H : Heap) (locs : List Loc) (ls : Array Slot) (cells slots : Nat), cells ≤ KC → slots ≤ KS → gH D cA a9 (NL ++ nw) XX H → va_S A s.heap H locs → lv_has ls 13 [(0, .ref b), (1, .ref (a9 0 0)), (2, .int q2), (3, .int q3), (4, .int q4), (5, .int q5), (6, .int p6), (7, .int p7)] → W p l e room_1 s m args below meth c H locs cells slots Q (F0 m 1135 ls []))) (hKC : KC ≤ room_1.cells ∧ KS ≤ room_1.slots) : ∀ (p2 : Int32) (p3 : Int32) (p4 : Int32) (p5 : Int32) (p8 : Int32) (p9 : Int32) (p10 : Int32) (X : gM) (H : Heap) (locs : List Loc) (ls : Array Slot) (cells slots : Nat), cells + 26 ≤ KC ∧ slots + 186 ≤ KS → gDy NL X → gH D cA ad NL X H → va_S A s.heap H locs → lv_has ls 13 [(0, .ref b), (1, .ref (ad 0 0)), (2, .int p2), (3, .int p3), (4, .int p4), (5, .int p5), (6, .int p6), (7, .int p7), (8, .int p8), (9, .int p9), (10, .int p10)] → Q_law_J214 (gal NL) (gal (NL ++ nw)) N nw p2 p3 p4 p5 p8 p9 p10 X = some (q2, q3, q4, q5, XX) → W p l e room_1 s m args below meth c H locs cells slots Q (F0 m 214 ls []) := by
  have hx := C.1
  have hb := C.2.1
  intro p2 p3 p4 p5 p8 p9 p10 X H locs ls cells slots hc hdy hP hS hl hf
  rw [Q_law_J214] at hf
  refine lv_iload hx hb dL_law_214 (lv_at hl 9 rfl) ?_
  refine lv_iconst (v := 5) hx hb dL_law_216 (by decide) ?_
  refine lv_icmp_ge (tgt := 273) hx hb dL_law_217 (by decide) (fun c1 => ?_) (fun c1 => ?_)
  · have hf := g_ip c1 hf
    refine lv_iload hx hb dL_law_273 (lv_at hl 9 rfl) ?_
    refine lv_bipush (v := 11) hx hb dL_law_275 (by decide) ?_
    refine lv_icmp_ge (tgt := 373) hx hb dL_law_277 (by decide) (fun c2 => ?_) (fun c2 => ?_)
    · have hf := g_ip c2 hf
      refine lv_iload hx hb dL_law_373 (lv_at hl 9 rfl) ?_
      refine lv_bipush (v := 12) hx hb dL_law_375 (by decide) ?_
      refine lv_icmp_ge (tgt := 431) hx hb dL_law_377 (by decide) (fun c3 => ?_) (fun c3 => ?_)
      · have hf := g_ip c3 hf
        refine lv_iload hx hb dL_law_431 (lv_at hl 9 rfl) ?_
        refine lv_bipush (v := 17) hx hb dL_law_433 (by decide) ?_
        refine lv_icmp_ge (tgt := 516) hx hb dL_law_435 (by decide) (fun c4 => ?_) (fun c4 => ?_)
        · have hf := g_ip c4 hf
          refine lv_iload hx hb dL_law_516 (lv_at hl 9 rfl) ?_
          refine lv_bipush (v := 20) hx hb dL_law_518 (by decide) ?_
          refine lv_icmp_ge (tgt := 655) hx hb dL_law_520 (by decide) (fun c5 => ?_) (fun c5 => ?_)
          · have hf := g_ip c5 hf
            refine lv_iload hx hb dL_law_655 (lv_at hl 9 rfl) ?_
            refine lv_bipush (v := 21) hx hb dL_law_657 (by decide) ?_
            refine lv_icmp_ge (tgt := 694) hx hb dL_law_659 (by decide) (fun c6 => ?_) (fun c6 => ?_)
            · have hf := g_ip c6 hf
              refine lv_iload hx hb dL_law_694 (lv_at hl 9 rfl) ?_
              refine lv_bipush (v := 25) hx hb dL_law_696 (by decide) ?_
              refine lv_icmp_ge (tgt := 799) hx hb dL_law_698 (by decide) (fun c7 => ?_) (fun c7 => ?_)
              · have hf := g_ip c7 hf
                refine lv_iload hx hb dL_law_799 (lv_at hl 9 rfl) ?_
                refine lv_bipush (v := 26) hx hb dL_law_801 (by decide) ?_
                refine lv_icmp_ge (tgt := 889) hx hb dL_law_803 (by decide) (fun c8 => ?_) (fun c8 => ?_)
                · have hf := g_ip c8 hf
                  refine lv_iload hx hb dL_law_889 (lv_at hl 9 rfl) ?_
                  refine lv_bipush (v := 28) hx hb dL_law_891 (by decide) ?_
                  refine lv_icmp_ge (tgt := 960) hx hb dL_law_893 (by decide) (fun c9 => ?_) (fun c9 => ?_)
                  · have hf := g_ip c9 hf
                    refine lv_aload_n hx hb dL_law_960 rfl (lv_at hl 1 rfl) ?_
                    refine lv_iload hx hb dL_law_961 (lv_at hl 10 rfl) ?_
                    obtain ⟨k13, r11, X10, h12, hf⟩ := b3_in hf
                    refine r_callX (nw := []) (rest := []) C hWd.1 hWd.2.1 hWd.2.2.1 hP hS hl.1 rfl (gCX_A (s_P_dates htr hW hD0 ha0 hg h12)) True.intro ix_X9_dates iv_X9_dates ls_L_90 ⟨rfl, rfl, Nat.le_of_ble_eq_true rfl, Nat.le_of_ble_eq_true rfl⟩ ha0 (ct_0 _ _ _ _) rfl rfl rfl rfl (Nat.le_of_ble_eq_true rfl) ⟨by omega, by omega⟩ dL_law_963 (fun hk0 C H locs hP hS => ?_) (fun hk0 ce q9 H locs hP hS hce hcv hcl => ?_)
                    · subst hk0
                      have hf := g_ip rfl hf
                      rw [List.append_nil] at C hP
                      show W p l e room_1 s m _ below meth c H locs _ _ _ (F0 m 966 ls [.int r11])
                      refine lv_istore (i := 11) (lv' := [(11, .int r11), (0, .ref b), (1, .ref (ad 0 0)), (2, .int p2), (3, .int p3), (4, .int p4), (5, .int p5), (6, .int p6), (7, .int p7), (8, .int p8), (9, .int p9), (10, .int p10)]) hx hb dL_law_966 hl (Nat.le_of_ble_eq_true rfl) rfl (fun ls hl => ?_)
                      refine lv_aload_n hx hb dL_law_968 rfl (lv_at hl 2 rfl) ?_
                      refine lv_bipush (v := 6) hx hb dL_law_969 (by decide) ?_
                      refine lv_iload hx hb dL_law_971 (lv_at hl 11 rfl) ?_
                      refine lv_iload hx hb dL_law_973 (lv_at hl 9 rfl) ?_
                      refine lv_sipush (v := 4096) hx hb dL_law_975 (by decide) ?_
                      refine r_low (rest := [.int p10, .int (6 : Int32), .ref (ad 0 0)]) C hP hS hl.1 (by decide) ls_L_9 ⟨rfl, rfl, Nat.le_of_ble_eq_true rfl, Nat.le_of_ble_eq_true rfl⟩ (Nat.le_of_ble_eq_true rfl) ⟨by omega, by omega⟩ dL_law_978 (fun locs hP hS => ?_)
                      refine g_top hf (fun v14 e15 hf => ?_)
                      refine lv_iconst (v := 0) hx hb dL_law_981 (by decide) ?_
                      obtain ⟨r17, X16, h18, hf⟩ := b2_in hf
                      refine r_callL (nw := []) (rest := []) C hWd hP hS hl.1 rfl (s_Q_acts6 htr hW hD0 ha0 hg h18) True.intro il_L_acts ls_L_104 ⟨rfl, rfl, Nat.le_of_ble_eq_true rfl, Nat.le_of_ble_eq_true rfl⟩ rfl rfl (Nat.le_of_ble_eq_true rfl) ⟨by omega, by omega⟩ dL_law_982 (fun C H locs hP hS => ?_)
                      rw [List.append_nil] at C hP
                      refine lv_istore (i := 12) (lv' := [(12, .int r17), (11, .int r11), (0, .ref b), (1, .ref (ad 0 0)), (2, .int p2), (3, .int p3), (4, .int p4), (5, .int p5), (6, .int p6), (7, .int p7), (8, .int p8), (9, .int p9), (10, .int p10)]) hx hb dL_law_985 hl (Nat.le_of_ble_eq_true rfl) rfl (fun ls hl => ?_)
                      refine lv_iload hx hb dL_law_987 (lv_at hl 0 rfl) ?_
                      refine lv_bipush (v := -9) hx hb dL_law_989 (by decide) ?_
                      refine lv_icmp_eq (tgt := 1021) hx hb dL_law_991 (by decide) (fun c19 => ?_) (fun c19 => ?_)
                      · have hf := g_ip c19 hf
                        obtain ⟨hnw, hf⟩ := eqn_in hf
                        subst hnw
                        rw [List.append_nil] at hf
                        rw [List.append_nil] at kk
                        have hk1 := kk ad
                        exact s_Q_law_J1021 C hWd htr hW hg hD0 ha0 hk1 hKC _ _ _ _ _ X16 _ _ _ _ _ ⟨by omega, by omega⟩ hP hS (lv_sub hl [2, 3, 4, 5, 6, 8, 9, 10, 12] rfl) hf
                      · have hf := g_in c19 hf
                        refine lv_iload hx hb dL_law_994 (lv_at hl 0 rfl) ?_
                        refine lv_iload hx hb dL_law_996 (lv_at hl 1 rfl) ?_
                        refine lv_iload hx hb dL_law_998 (lv_at hl 10 rfl) ?_
                        refine lv_sipush (v := 4096) hx hb dL_law_1000 (by decide) ?_
                        refine r_low (rest := [.int r11, .int r17]) C hP hS hl.1 (by decide) ls_L_9 ⟨rfl, rfl, Nat.le_of_ble_eq_true rfl, Nat.le_of_ble_eq_true rfl⟩ (Nat.le_of_ble_eq_true rfl) ⟨by omega, by omega⟩ dL_law_1003 (fun locs hP hS => ?_)
                        refine g_top hf (fun v20 e21 hf => ?_)
                        refine lv_iand hx hb dL_law_1006 ?_
                        refine lv_icmp_ne (tgt := 1025) hx hb dL_law_1007 (by decide) (fun c22 => ?_) (fun c22 => ?_)
                        · have hf := g_in c22 hf
                          obtain ⟨hnw, hf⟩ := eqn_in hf
                          subst hnw
                          rw [List.append_nil] at hf
                          rw [List.append_nil] at kk
                          have hk1 := kk ad
                          exact s_Q_law_J1025 C hWd htr hW hg hD0 ha0 hk1 hKC _ _ _ _ _ X16 _ _ _ _ _ ⟨by omega, by omega⟩ hP hS (lv_sub hl [2, 3, 4, 5, 6, 8, 9, 10, 12] rfl) hf
                        · have hf := g_ip c22 hf
                          refine lv_iload hx hb dL_law_1010 (lv_at hl 0 rfl) ?_
                          refine lv_aload_n hx hb dL_law_1012 rfl (lv_at hl 3 rfl) ?_
                          refine lv_iload hx hb dL_law_1013 (lv_at hl 12 rfl) ?_
                          obtain ⟨k26, r24, X23, h25, hf⟩ := b3_in hf
                          refine r_callX (nw := []) (rest := [.int r17]) C hWd.1 hWd.2.1 hWd.2.2.1 hP hS hl.1 rfl (gCX_A (s_P_dates htr hW hD0 ha0 hg h25)) True.intro ix_X9_dates iv_X9_dates ls_L_90 ⟨rfl, rfl, Nat.le_of_ble_eq_true rfl, Nat.le_of_ble_eq_true rfl⟩ ha0 (ct_0 _ _ _ _) rfl rfl rfl rfl (Nat.le_of_ble_eq_true rfl) ⟨by omega, by omega⟩ dL_law_1015 (fun hk0 C H locs hP hS => ?_) (fun hk0 ce q9 H locs hP hS hce hcv hcl => ?_)
                          · subst hk0
                            have hf := g_ip rfl hf
                            rw [List.append_nil] at C hP
                            show W p l e room_1 s m _ below meth c H locs _ _ _ (F0 m 1018 ls [.int r24, .int r17])
                            refine lv_icmp_ne (tgt := 1025) hx hb dL_law_1018 (by decide) (fun c27 => ?_) (fun c27 => ?_)
                            · have hf := g_in c27 hf
                              obtain ⟨hnw, hf⟩ := eqn_in hf
                              subst hnw
                              rw [List.append_nil] at hf
                              rw [List.append_nil] at kk
                              have hk1 := kk ad
                              exact s_Q_law_J1025 C hWd htr hW hg hD0 ha0 hk1 hKC _ _ _ _ _ X23 _ _ _ _ _ ⟨by omega, by omega⟩ hP hS (lv_sub hl [2, 3, 4, 5, 6, 8, 9, 10, 12] rfl) hf
                            · have hf := g_ip c27 hf
                              obtain ⟨hnw, hf⟩ := eqn_in hf
                              subst hnw
                              rw [List.append_nil] at hf
                              rw [List.append_nil] at kk
                              have hk1 := kk ad
                              exact s_Q_law_J1021 C hWd htr hW hg hD0 ha0 hk1 hKC _ _ _ _ _ X23 _ _ _ _ _ ⟨by omega, by omega⟩ hP hS (lv_sub hl [2, 3, 4, 5, 6, 8, 9, 10, 12] rfl) hf
                          · have hf := g_in hk0 hf
                            cases hf
                    · have hf := g_in hk0 hf
                      cases hf
                  · have hf := g_in c9 hf
                    refine lv_aload_n hx hb dL_law_896 rfl (lv_at hl 1 rfl) ?_
                    refine lv_iload hx hb dL_law_897 (lv_at hl 10 rfl) ?_
                    refine lv_iload hx hb dL_law_899 (lv_at hl 8 rfl) ?_
                    refine lv_bipush (v := 21) hx hb dL_law_901 (by decide) ?_
                    refine r_low (rest := [.int p10, .ref (ad 0 0)]) C hP hS hl.1 (by decide) ls_L_9 ⟨rfl, rfl, Nat.le_of_ble_eq_true rfl, Nat.le_of_ble_eq_true rfl⟩ (Nat.le_of_ble_eq_true rfl) ⟨by omega, by omega⟩ dL_law_903 (fun locs hP hS => ?_)
                    refine g_top hf (fun v28 e29 hf => ?_)
                    refine lv_iload hx hb dL_law_906 (lv_at hl 8 rfl) ?_
                    refine lv_iconst (v := 5) hx hb dL_law_908 (by decide) ?_
                    refine lv_ishr hx hb dL_law_909 ?_
                    refine lv_bipush (v := 21) hx hb dL_law_910 (by decide) ?_
                    refine r_low (rest := [.int v28, .int p10, .ref (ad 0 0)]) C hP hS hl.1 (by decide) ls_L_9 ⟨rfl, rfl, Nat.le_of_ble_eq_true rfl, Nat.le_of_ble_eq_true rfl⟩ (Nat.le_of_ble_eq_true rfl) ⟨by omega, by omega⟩ dL_law_912 (fun locs hP hS => ?_)
                    refine g_top hf (fun v30 e31 hf => ?_)
                    refine lv_iload hx hb dL_law_915 (lv_at hl 8 rfl) ?_
                    refine lv_bipush (v := 9) hx hb dL_law_917 (by decide) ?_
                    refine lv_ishr hx hb dL_law_919 ?_
                    refine lv_iconst (v := 4) hx hb dL_law_920 (by decide) ?_
                    refine r_low (rest := [.int v30, .int v28, .int p10, .ref (ad 0 0)]) C hP hS hl.1 (by decide) ls_L_9 ⟨rfl, rfl, Nat.le_of_ble_eq_true rfl, Nat.le_of_ble_eq_true rfl⟩ (Nat.le_of_ble_eq_true rfl) ⟨by omega, by omega⟩ dL_law_921 (fun locs hP hS => ?_)
                    refine g_top hf (fun v32 e33 hf => ?_)
                    refine lv_iload hx hb dL_law_924 (lv_at hl 8 rfl) ?_
                    refine lv_bipush (v := 12) hx hb dL_law_926 (by decide) ?_
                    refine lv_ishr hx hb dL_law_928 ?_
                    refine lv_iconst (v := 4) hx hb dL_law_929 (by decide) ?_
                    refine r_low (rest := [.int v32, .int v30, .int v28, .int p10, .ref (ad 0 0)]) C hP hS hl.1 (by decide) ls_L_9 ⟨rfl, rfl, Nat.le_of_ble_eq_true rfl, Nat.le_of_ble_eq_true rfl⟩ (Nat.le_of_ble_eq_true rfl) ⟨by omega, by omega⟩ dL_law_930 (fun locs hP hS => ?_)
                    refine g_top hf (fun v34 e35 hf => ?_)
                    obtain ⟨k39, r37, X36, h38, hf⟩ := b3_in hf
                    refine r_callX (nw := []) (rest := []) C hWd.1 hWd.2.1 hWd.2.2.1 hP hS hl.1 rfl (gCX_A (s_P_hand htr hW hD0 ha0 hg h38)) True.intro ix_X9_hand iv_X9_hand ls_L_123 ⟨rfl, rfl, Nat.le_of_ble_eq_true rfl, Nat.le_of_ble_eq_true rfl⟩ ha0 (ct_0 _ _ _ _) rfl rfl rfl rfl (Nat.le_of_ble_eq_true rfl) ⟨by omega, by omega⟩ dL_law_933 (fun hk0 C H locs hP hS => ?_) (fun hk0 ce q9 H locs hP hS hce hcv hcl => ?_)
                    · subst hk0
                      have hf := g_ip rfl hf
                      rw [List.append_nil] at C hP
                      show W p l e room_1 s m _ below meth c H locs _ _ _ (F0 m 936 ls [.int r37])
                      refine lv_istore (i := 11) (lv' := [(11, .int r37), (0, .ref b), (1, .ref (ad 0 0)), (2, .int p2), (3, .int p3), (4, .int p4), (5, .int p5), (6, .int p6), (7, .int p7), (8, .int p8), (9, .int p9), (10, .int p10)]) hx hb dL_law_936 hl (Nat.le_of_ble_eq_true rfl) rfl (fun ls hl => ?_)
                      refine lv_iload hx hb dL_law_938 (lv_at hl 0 rfl) ?_
                      refine lv_iconst (v := 1) hx hb dL_law_940 (by decide) ?_
                      refine lv_icmp_lt (tgt := 954) hx hb dL_law_941 (by decide) (fun c40 => ?_) (fun c40 => ?_)
                      · have hf := g_ip c40 hf
                        obtain ⟨hnw, hf⟩ := eqn_in hf
                        subst hnw
                        rw [List.append_nil] at hf
                        rw [List.append_nil] at kk
                        have hk1 := kk ad
                        exact s_Q_law_J954 C hWd htr hW hg hD0 ha0 hk1 hKC _ _ _ _ _ X36 _ _ _ _ _ ⟨by omega, by omega⟩ hP hS (lv_sub hl [1, 2, 3, 4, 5, 7, 8, 9, 11] rfl) hf
                      · have hf := g_in c40 hf
                        refine lv_iload hx hb dL_law_944 (lv_at hl 0 rfl) ?_
                        refine lv_iload_n hx hb dL_law_946 rfl (lv_at hl 3 rfl) ?_
                        refine lv_icmp_gt (tgt := 954) hx hb dL_law_947 (by decide) (fun c41 => ?_) (fun c41 => ?_)
                        · have hf := g_ip c41 hf
                          obtain ⟨hnw, hf⟩ := eqn_in hf
                          subst hnw
                          rw [List.append_nil] at hf
                          rw [List.append_nil] at kk
                          have hk1 := kk ad
                          exact s_Q_law_J954 C hWd htr hW hg hD0 ha0 hk1 hKC _ _ _ _ _ X36 _ _ _ _ _ ⟨by omega, by omega⟩ hP hS (lv_sub hl [1, 2, 3, 4, 5, 7, 8, 9, 11] rfl) hf
                        · have hf := g_in c41 hf
                          refine lv_iconst (v := 1) hx hb dL_law_950 (by decide) ?_
                          refine lv_goto (tgt := 955) hx hb dL_law_951 (by decide) ?_
                          obtain ⟨hnw, hf⟩ := eqn_in hf
                          subst hnw
                          rw [List.append_nil] at hf
                          rw [List.append_nil] at kk
                          have hk1 := kk ad
                          exact s_Q_law_J955 C hWd htr hW hg hD0 ha0 hk1 hKC _ _ _ _ _ _ X36 _ _ _ _ _ ⟨by omega, by omega⟩ hP hS (lv_sub hl [1, 2, 3, 4, 5, 7, 8, 9, 11] rfl) hf
                    · have hf := g_in hk0 hf
                      cases hf
                · have hf := g_in c8 hf
                  refine lv_iload_n hx hb dL_law_806 rfl (lv_at hl 3 rfl) ?_
                  refine lv_if_ne (tgt := 814) hx hb dL_law_807 (by decide) (fun c42 => ?_) (fun c42 => ?_)
                  · have hf := g_in c42 hf
                    refine lv_iload hx hb dL_law_814 (lv_at hl 8 rfl) ?_
                    refine lv_bipush (v := 7) hx hb dL_law_816 (by decide) ?_
                    refine lv_ishr hx hb dL_law_818 ?_
                    refine lv_iload_n hx hb dL_law_819 rfl (lv_at hl 3 rfl) ?_
                    obtain ⟨h43, hf⟩ := nz_in hf
                    refine r_low (rest := []) C hP hS hl.1 h43 ls_L_9 ⟨rfl, rfl, Nat.le_of_ble_eq_true rfl, Nat.le_of_ble_eq_true rfl⟩ (Nat.le_of_ble_eq_true rfl) ⟨by omega, by omega⟩ dL_law_820 (fun locs hP hS => ?_)
                    refine g_top hf (fun v44 e45 hf => ?_)
                    obtain ⟨hnw, hf⟩ := eqn_in hf
                    subst hnw
                    rw [List.append_nil] at hf
                    rw [List.append_nil] at kk
                    have hk1 := kk ad
                    exact s_Q_law_J823 C hWd htr hW hg hD0 ha0 hk1 hKC _ _ _ _ _ _ X _ _ _ _ _ ⟨by omega, by omega⟩ hP hS (lv_sub hl [0, 1, 2, 3, 4, 6, 7, 8, 10] rfl) hf
                  · have hf := g_ip c42 hf
                    refine lv_iconst (v := 0) hx hb dL_law_810 (by decide) ?_
                    refine lv_goto (tgt := 823) hx hb dL_law_811 (by decide) ?_
                    obtain ⟨hnw, hf⟩ := eqn_in hf
                    subst hnw
                    rw [List.append_nil] at hf
                    rw [List.append_nil] at kk
                    have hk1 := kk ad
                    exact s_Q_law_J823 C hWd htr hW hg hD0 ha0 hk1 hKC _ _ _ _ _ _ X _ _ _ _ _ ⟨by omega, by omega⟩ hP hS (lv_sub hl [0, 1, 2, 3, 4, 6, 7, 8, 10] rfl) hf
              · have hf := g_in c7 hf
                refine lv_aload_n hx hb dL_law_701 rfl (lv_at hl 1 rfl) ?_
                refine lv_iconst (v := 5) hx hb dL_law_702 (by decide) ?_
                refine lv_iload hx hb dL_law_703 (lv_at hl 8 rfl) ?_
                refine lv_iconst (v := 5) hx hb dL_law_705 (by decide) ?_
                refine r_low (rest := [.int (5 : Int32), .ref (ad 0 0)]) C hP hS hl.1 (by decide) ls_L_9 ⟨rfl, rfl, Nat.le_of_ble_eq_true rfl, Nat.le_of_ble_eq_true rfl⟩ (Nat.le_of_ble_eq_true rfl) ⟨by omega, by omega⟩ dL_law_706 (fun locs hP hS => ?_)
                refine g_top hf (fun v46 e47 hf => ?_)
                refine lv_iload hx hb dL_law_709 (lv_at hl 10 rfl) ?_
                refine lv_iload hx hb dL_law_711 (lv_at hl 8 rfl) ?_
                refine lv_iconst (v := 5) hx hb dL_law_713 (by decide) ?_
                refine r_low (rest := [.int p10, .int v46, .int (5 : Int32), .ref (ad 0 0)]) C hP hS hl.1 (by decide) ls_L_9 ⟨rfl, rfl, Nat.le_of_ble_eq_true rfl, Nat.le_of_ble_eq_true rfl⟩ (Nat.le_of_ble_eq_true rfl) ⟨by omega, by omega⟩ dL_law_714 (fun locs hP hS => ?_)
                refine g_top hf (fun v48 e49 hf => ?_)
                refine lv_iconst (v := 3) hx hb dL_law_717 (by decide) ?_
                refine lv_icmp_ne (tgt := 734) hx hb dL_law_718 (by decide) (fun c50 => ?_) (fun c50 => ?_)
                · have hf := g_in c50 hf
                  refine lv_iload hx hb dL_law_734 (lv_at hl 8 rfl) ?_
                  refine lv_bipush (v := 7) hx hb dL_law_736 (by decide) ?_
                  refine lv_ishr hx hb dL_law_738 ?_
                  refine lv_iload_n hx hb dL_law_739 rfl (lv_at hl 2 rfl) ?_
                  obtain ⟨h51, hf⟩ := nz_in hf
                  refine r_low (rest := [.int p10, .int v46, .int (5 : Int32), .ref (ad 0 0)]) C hP hS hl.1 h51 ls_L_9 ⟨rfl, rfl, Nat.le_of_ble_eq_true rfl, Nat.le_of_ble_eq_true rfl⟩ (Nat.le_of_ble_eq_true rfl) ⟨by omega, by omega⟩ dL_law_740 (fun locs hP hS => ?_)
                  refine g_top hf (fun v52 e53 hf => ?_)
                  exact s_Q_law_J743 C hWd htr hW hW2 hg hg2 hD0 ha0 hfr kk hKC _ _ _ _ _ _ _ _ X _ _ _ _ _ ⟨by omega, by omega⟩ hdy hP hS (lv_sub hl [0, 1, 2, 3, 4, 6, 7, 8, 10] rfl) hf
                · have hf := g_ip c50 hf
                  refine lv_iload hx hb dL_law_721 (lv_at hl 8 rfl) ?_
                  refine lv_bipush (v := 7) hx hb dL_law_723 (by decide) ?_
                  refine lv_ishr hx hb dL_law_725 ?_
                  refine lv_bipush (v := 8) hx hb dL_law_726 (by decide) ?_
                  refine r_low (rest := [.int p10, .int v46, .int (5 : Int32), .ref (ad 0 0)]) C hP hS hl.1 (by decide) ls_L_9 ⟨rfl, rfl, Nat.le_of_ble_eq_true rfl, Nat.le_of_ble_eq_true rfl⟩ (Nat.le_of_ble_eq_true rfl) ⟨by omega, by omega⟩ dL_law_728 (fun locs hP hS => ?_)
                  refine g_top hf (fun v54 e55 hf => ?_)
                  refine lv_goto (tgt := 743) hx hb dL_law_731 (by decide) ?_
                  exact s_Q_law_J743 C hWd htr hW hW2 hg hg2 hD0 ha0 hfr kk hKC _ _ _ _ _ _ _ _ X _ _ _ _ _ ⟨by omega, by omega⟩ hdy hP hS (lv_sub hl [0, 1, 2, 3, 4, 6, 7, 8, 10] rfl) hf
            · have hf := g_in c6 hf
              refine lv_aload_n hx hb dL_law_662 rfl (lv_at hl 1 rfl) ?_
              refine lv_iload hx hb dL_law_663 (lv_at hl 8 rfl) ?_
              refine lv_iconst (v := 3) hx hb dL_law_665 (by decide) ?_
              refine r_low (rest := [.ref (ad 0 0)]) C hP hS hl.1 (by decide) ls_L_9 ⟨rfl, rfl, Nat.le_of_ble_eq_true rfl, Nat.le_of_ble_eq_true rfl⟩ (Nat.le_of_ble_eq_true rfl) ⟨by omega, by omega⟩ dL_law_666 (fun locs hP hS => ?_)
              refine g_top hf (fun v56 e57 hf => ?_)
              refine lv_iload hx hb dL_law_669 (lv_at hl 8 rfl) ?_
              refine lv_iconst (v := 2) hx hb dL_law_671 (by decide) ?_
              refine lv_ishr hx hb dL_law_672 ?_
              refine lv_bipush (v := 10) hx hb dL_law_673 (by decide) ?_
              refine r_low (rest := [.int v56, .ref (ad 0 0)]) C hP hS hl.1 (by decide) ls_L_9 ⟨rfl, rfl, Nat.le_of_ble_eq_true rfl, Nat.le_of_ble_eq_true rfl⟩ (Nat.le_of_ble_eq_true rfl) ⟨by omega, by omega⟩ dL_law_675 (fun locs hP hS => ?_)
              refine g_top hf (fun v58 e59 hf => ?_)
              refine lv_iload hx hb dL_law_678 (lv_at hl 8 rfl) ?_
              refine lv_bipush (v := 6) hx hb dL_law_680 (by decide) ?_
              refine lv_ishr hx hb dL_law_682 ?_
              refine lv_bipush (v := 10) hx hb dL_law_683 (by decide) ?_
              refine r_low (rest := [.int v58, .int v56, .ref (ad 0 0)]) C hP hS hl.1 (by decide) ls_L_9 ⟨rfl, rfl, Nat.le_of_ble_eq_true rfl, Nat.le_of_ble_eq_true rfl⟩ (Nat.le_of_ble_eq_true rfl) ⟨by omega, by omega⟩ dL_law_685 (fun locs hP hS => ?_)
              refine g_top hf (fun v60 e61 hf => ?_)
              obtain ⟨k65, r63, X62, h64, hf⟩ := b3_in hf
              refine r_callX (nw := []) (rest := []) C hWd.1 hWd.2.1 hWd.2.2.1 hP hS hl.1 rfl (gCX_A (s_P_light htr hW hD0 ha0 hg h64)) True.intro ix_X9_light iv_X9_light ls_L_115 ⟨rfl, rfl, Nat.le_of_ble_eq_true rfl, Nat.le_of_ble_eq_true rfl⟩ ha0 (ct_0 _ _ _ _) rfl rfl rfl rfl (Nat.le_of_ble_eq_true rfl) ⟨by omega, by omega⟩ dL_law_688 (fun hk0 C H locs hP hS => ?_) (fun hk0 ce q9 H locs hP hS hce hcv hcl => ?_)
              · subst hk0
                have hf := g_ip rfl hf
                rw [List.append_nil] at C hP
                show W p l e room_1 s m _ below meth c H locs _ _ _ (F0 m 691 ls [])
                refine lv_goto (tgt := 1028) hx hb dL_law_691 (by decide) ?_
                obtain ⟨hnw, hf⟩ := eqn_in hf
                subst hnw
                rw [List.append_nil] at hf
                rw [List.append_nil] at kk
                have hk1 := kk ad
                exact s_Q_law_J1028 C hWd htr hW hg hD0 ha0 hk1 hKC _ _ _ _ _ _ X62 _ _ _ _ _ ⟨by omega, by omega⟩ hP hS (lv_sub hl [0, 1, 2, 3, 4, 5, 6, 7, 8, 10] rfl) hf
              · have hf := g_in hk0 hf
                cases hf
          · have hf := g_in c5 hf
            refine lv_iload hx hb dL_law_523 (lv_at hl 8 rfl) ?_
            refine lv_bipush (v := 6) hx hb dL_law_525 (by decide) ?_
            refine lv_ishr hx hb dL_law_527 ?_
            refine lv_bipush (v := 6) hx hb dL_law_528 (by decide) ?_
            refine r_low (rest := []) C hP hS hl.1 (by decide) ls_L_9 ⟨rfl, rfl, Nat.le_of_ble_eq_true rfl, Nat.le_of_ble_eq_true rfl⟩ (Nat.le_of_ble_eq_true rfl) ⟨by omega, by omega⟩ dL_law_530 (fun locs hP hS => ?_)
            refine g_top hf (fun v66 e67 hf => ?_)
            refine lv_istore (i := 11) (lv' := [(11, .int v66), (0, .ref b), (1, .ref (ad 0 0)), (2, .int p2), (3, .int p3), (4, .int p4), (5, .int p5), (6, .int p6), (7, .int p7), (8, .int p8), (9, .int p9), (10, .int p10)]) hx hb dL_law_533 hl (Nat.le_of_ble_eq_true rfl) rfl (fun ls hl => ?_)
            refine lv_aload_n hx hb dL_law_535 rfl (lv_at hl 2 rfl) ?_
            refine lv_iload hx hb dL_law_536 (lv_at hl 11 rfl) ?_
            refine lv_iload hx hb dL_law_538 (lv_at hl 0 rfl) ?_
            refine lv_iload hx hb dL_law_540 (lv_at hl 9 rfl) ?_
            refine lv_bipush (v := 9) hx hb dL_law_542 (by decide) ?_
            refine lv_ishr hx hb dL_law_544 ?_
            refine lv_iconst (v := 3) hx hb dL_law_545 (by decide) ?_
            refine r_low (rest := [.int v66, .int p10, .ref (ad 0 0)]) C hP hS hl.1 (by decide) ls_L_9 ⟨rfl, rfl, Nat.le_of_ble_eq_true rfl, Nat.le_of_ble_eq_true rfl⟩ (Nat.le_of_ble_eq_true rfl) ⟨by omega, by omega⟩ dL_law_546 (fun locs hP hS => ?_)
            refine g_top hf (fun v68 e69 hf => ?_)
            refine lv_iload hx hb dL_law_549 (lv_at hl 9 rfl) ?_
            refine lv_bipush (v := 11) hx hb dL_law_551 (by decide) ?_
            refine lv_ishr hx hb dL_law_553 ?_
            refine lv_iconst (v := 5) hx hb dL_law_554 (by decide) ?_
            refine r_low (rest := [.int v68, .int v66, .int p10, .ref (ad 0 0)]) C hP hS hl.1 (by decide) ls_L_9 ⟨rfl, rfl, Nat.le_of_ble_eq_true rfl, Nat.le_of_ble_eq_true rfl⟩ (Nat.le_of_ble_eq_true rfl) ⟨by omega, by omega⟩ dL_law_555 (fun locs hP hS => ?_)
            refine g_top hf (fun v70 e71 hf => ?_)
            refine lv_if_ne (tgt := 565) hx hb dL_law_558 (by decide) (fun c72 => ?_) (fun c72 => ?_)
            · have hf := g_in c72 hf
              refine lv_iload hx hb dL_law_565 (lv_at hl 9 rfl) ?_
              refine lv_bipush (v := 13) hx hb dL_law_567 (by decide) ?_
              refine lv_ishr hx hb dL_law_569 ?_
              refine lv_bipush (v := 20) hx hb dL_law_570 (by decide) ?_
              refine r_low (rest := [.int v68, .int v66, .int p10, .ref (ad 0 0)]) C hP hS hl.1 (by decide) ls_L_9 ⟨rfl, rfl, Nat.le_of_ble_eq_true rfl, Nat.le_of_ble_eq_true rfl⟩ (Nat.le_of_ble_eq_true rfl) ⟨by omega, by omega⟩ dL_law_572 (fun locs hP hS => ?_)
              refine g_top hf (fun v73 e74 hf => ?_)
              obtain ⟨hnw, hf⟩ := eqn_in hf
              subst hnw
              rw [List.append_nil] at hf
              rw [List.append_nil] at kk
              have hk1 := kk ad
              exact s_Q_law_J575 C hWd htr hW hg hD0 ha0 hk1 hKC _ _ _ _ _ _ _ _ _ _ X _ _ _ _ _ ⟨by omega, by omega⟩ hP hS (lv_sub hl [1, 2, 3, 4, 5, 7, 8, 9, 11, 0] rfl) hf
            · have hf := g_ip c72 hf
              refine lv_iconst (v := -1) hx hb dL_law_561 (by decide) ?_
              refine lv_goto (tgt := 575) hx hb dL_law_562 (by decide) ?_
              obtain ⟨hnw, hf⟩ := eqn_in hf
              subst hnw
              rw [List.append_nil] at hf
              rw [List.append_nil] at kk
              have hk1 := kk ad
              exact s_Q_law_J575 C hWd htr hW hg hD0 ha0 hk1 hKC _ _ _ _ _ _ _ _ _ _ X _ _ _ _ _ ⟨by omega, by omega⟩ hP hS (lv_sub hl [1, 2, 3, 4, 5, 7, 8, 9, 11, 0] rfl) hf
        · have hf := g_in c4 hf
          refine lv_aload_n hx hb dL_law_438 rfl (lv_at hl 1 rfl) ?_
          refine lv_iload hx hb dL_law_439 (lv_at hl 8 rfl) ?_
          refine lv_iconst (v := 3) hx hb dL_law_441 (by decide) ?_
          refine r_low (rest := [.ref (ad 0 0)]) C hP hS hl.1 (by decide) ls_L_9 ⟨rfl, rfl, Nat.le_of_ble_eq_true rfl, Nat.le_of_ble_eq_true rfl⟩ (Nat.le_of_ble_eq_true rfl) ⟨by omega, by omega⟩ dL_law_442 (fun locs hP hS => ?_)
          refine g_top hf (fun v75 e76 hf => ?_)
          refine lv_iload hx hb dL_law_445 (lv_at hl 10 rfl) ?_
          refine lv_iload hx hb dL_law_447 (lv_at hl 8 rfl) ?_
          refine lv_bipush (v := 6) hx hb dL_law_449 (by decide) ?_
          refine lv_ishr hx hb dL_law_451 ?_
          refine lv_bipush (v := 6) hx hb dL_law_452 (by decide) ?_
          refine r_low (rest := [.int p10, .int v75, .ref (ad 0 0)]) C hP hS hl.1 (by decide) ls_L_9 ⟨rfl, rfl, Nat.le_of_ble_eq_true rfl, Nat.le_of_ble_eq_true rfl⟩ (Nat.le_of_ble_eq_true rfl) ⟨by omega, by omega⟩ dL_law_454 (fun locs hP hS => ?_)
          refine g_top hf (fun v77 e78 hf => ?_)
          refine lv_iload hx hb dL_law_457 (lv_at hl 8 rfl) ?_
          refine lv_bipush (v := 9) hx hb dL_law_459 (by decide) ?_
          refine lv_ishr hx hb dL_law_461 ?_
          refine lv_iconst (v := 4) hx hb dL_law_462 (by decide) ?_
          refine r_low (rest := [.int v77, .int p10, .int v75, .ref (ad 0 0)]) C hP hS hl.1 (by decide) ls_L_9 ⟨rfl, rfl, Nat.le_of_ble_eq_true rfl, Nat.le_of_ble_eq_true rfl⟩ (Nat.le_of_ble_eq_true rfl) ⟨by omega, by omega⟩ dL_law_463 (fun locs hP hS => ?_)
          refine g_top hf (fun v79 e80 hf => ?_)
          refine lv_iload hx hb dL_law_466 (lv_at hl 8 rfl) ?_
          refine lv_bipush (v := 12) hx hb dL_law_468 (by decide) ?_
          refine lv_ishr hx hb dL_law_470 ?_
          refine lv_bipush (v := 10) hx hb dL_law_471 (by decide) ?_
          refine r_low (rest := [.int v79, .int v77, .int p10, .int v75, .ref (ad 0 0)]) C hP hS hl.1 (by decide) ls_L_9 ⟨rfl, rfl, Nat.le_of_ble_eq_true rfl, Nat.le_of_ble_eq_true rfl⟩ (Nat.le_of_ble_eq_true rfl) ⟨by omega, by omega⟩ dL_law_473 (fun locs hP hS => ?_)
          refine g_top hf (fun v81 e82 hf => ?_)
          obtain ⟨r84, X83, h85, hf⟩ := b2_in hf
          refine r_callL (nw := []) (rest := []) C hWd hP hS hl.1 rfl (s_Q_gives htr hW hD0 ha0 hg h85) True.intro il_L_gives ls_L_108 ⟨rfl, rfl, Nat.le_of_ble_eq_true rfl, Nat.le_of_ble_eq_true rfl⟩ rfl rfl (Nat.le_of_ble_eq_true rfl) ⟨by omega, by omega⟩ dL_law_476 (fun C H locs hP hS => ?_)
          rw [List.append_nil] at C hP
          refine lv_istore (i := 11) (lv' := [(11, .int r84), (0, .ref b), (1, .ref (ad 0 0)), (2, .int p2), (3, .int p3), (4, .int p4), (5, .int p5), (6, .int p6), (7, .int p7), (8, .int p8), (9, .int p9), (10, .int p10)]) hx hb dL_law_479 hl (Nat.le_of_ble_eq_true rfl) rfl (fun ls hl => ?_)
          refine lv_iload hx hb dL_law_481 (lv_at hl 0 rfl) ?_
          refine lv_if_lt (tgt := 492) hx hb dL_law_483 (by decide) (fun c86 => ?_) (fun c86 => ?_)
          · have hf := g_ip c86 hf
            obtain ⟨hnw, hf⟩ := eqn_in hf
            subst hnw
            rw [List.append_nil] at hf
            rw [List.append_nil] at kk
            have hk1 := kk ad
            exact s_Q_law_J492 C hWd htr hW hg hD0 ha0 hk1 hKC _ _ _ _ _ _ X83 _ _ _ _ _ ⟨by omega, by omega⟩ hP hS (lv_sub hl [1, 2, 3, 4, 5, 7, 8, 9, 11, 0] rfl) hf
          · have hf := g_in c86 hf
            refine lv_iload hx hb dL_law_486 (lv_at hl 0 rfl) ?_
            refine lv_iconst (v := 3) hx hb dL_law_488 (by decide) ?_
            refine lv_icmp_le (tgt := 506) hx hb dL_law_489 (by decide) (fun c87 => ?_) (fun c87 => ?_)
            · have hf := g_ip c87 hf
              obtain ⟨hnw, hf⟩ := eqn_in hf
              subst hnw
              rw [List.append_nil] at hf
              rw [List.append_nil] at kk
              have hk1 := kk ad
              exact s_Q_law_J506 C hWd htr hW hg hD0 ha0 hk1 hKC _ _ _ _ _ X83 _ _ _ _ _ ⟨by omega, by omega⟩ hP hS (lv_sub hl [1, 2, 3, 4, 5, 7, 8, 9, 11] rfl) hf
            · have hf := g_in c87 hf
              obtain ⟨hnw, hf⟩ := eqn_in hf
              subst hnw
              rw [List.append_nil] at hf
              rw [List.append_nil] at kk
              have hk1 := kk ad
              exact s_Q_law_J492 C hWd htr hW hg hD0 ha0 hk1 hKC _ _ _ _ _ _ X83 _ _ _ _ _ ⟨by omega, by omega⟩ hP hS (lv_sub hl [1, 2, 3, 4, 5, 7, 8, 9, 11, 0] rfl) hf
      · have hf := g_in c3 hf
        refine lv_aload_n hx hb dL_law_380 rfl (lv_at hl 1 rfl) ?_
        refine lv_iconst (v := 4) hx hb dL_law_381 (by decide) ?_
        refine lv_iconst (v := 0) hx hb dL_law_382 (by decide) ?_
        refine lv_iconst (v := 0) hx hb dL_law_383 (by decide) ?_
        refine lv_iconst (v := 0) hx hb dL_law_384 (by decide) ?_
        obtain ⟨r89, X88, h90, hf⟩ := b2_in hf
        obtain ⟨C, hP, hag⟩ := g_switch C hW hfr hdy hP
        rw [hag _ ha0] at hl
        rw [hag _ ha0]
        have hD0 : gD (fun _ => True) _ _ := gD_in C.2.2.2.2.2.2.2.2.2.1 (fun _ _ => trivial)
        refine r_callL (nw := nw) (rest := []) C hWd hP hS hl.1 rfl (s_Q_acts4 htr hW hD0 (gOv_al _ _ _) (gOv_nw hfr) ha0 hg2 h90) (gOv_nw hfr) il_L_acts ls_L_104 ⟨rfl, rfl, Nat.le_of_ble_eq_true rfl, Nat.le_of_ble_eq_true rfl⟩ rfl rfl (Nat.le_of_ble_eq_true rfl) ⟨by omega, by omega⟩ dL_law_385 (fun C H9 locs hP hS => ?_)
        have hW := hW2
        have hg := hg2
        have ha0 := List.mem_append_left nw ha0
        have hD0 : gD (fun _ => True) _ _ := gD_in C.2.2.2.2.2.2.2.2.2.1 (fun _ _ => trivial)
        have hk1 := kk (gOv ad H.size nw)
        refine lv_istore (i := 11) (lv' := [(11, .int r89), (0, .ref b), (1, .ref ((gOv ad H.size nw) 0 0)), (2, .int p2), (3, .int p3), (4, .int p4), (5, .int p5), (6, .int p6), (7, .int p7), (8, .int p8), (9, .int p9), (10, .int p10)]) hx hb dL_law_388 hl (Nat.le_of_ble_eq_true rfl) rfl (fun ls hl => ?_)
        refine lv_iload hx hb dL_law_390 (lv_at hl 0 rfl) ?_
        refine lv_iload hx hb dL_law_392 (lv_at hl 5 rfl) ?_
        refine lv_icmp_eq (tgt := 404) hx hb dL_law_394 (by decide) (fun c91 => ?_) (fun c91 => ?_)
        · have hf := g_ip c91 hf
          exact s_Q_law_J404 C hWd htr hW hg hD0 ha0 hk1 hKC _ _ _ _ _ _ X88 _ _ _ _ _ ⟨by omega, by omega⟩ hP hS (lv_sub hl [1, 2, 3, 4, 5, 7, 8, 9, 11, 0] rfl) hf
        · have hf := g_in c91 hf
          refine lv_iload hx hb dL_law_397 (lv_at hl 0 rfl) ?_
          refine lv_bipush (v := -9) hx hb dL_law_399 (by decide) ?_
          refine lv_icmp_ne (tgt := 408) hx hb dL_law_401 (by decide) (fun c92 => ?_) (fun c92 => ?_)
          · have hf := g_in c92 hf
            refine lv_iconst (v := 0) hx hb dL_law_408 (by decide) ?_
            exact s_Q_law_J409 C hWd htr hW hg hD0 ha0 hk1 hKC _ _ _ _ _ _ _ X88 _ _ _ _ _ ⟨by omega, by omega⟩ hP hS (lv_sub hl [1, 2, 3, 4, 5, 7, 8, 9, 11, 0] rfl) hf
          · have hf := g_ip c92 hf
            exact s_Q_law_J404 C hWd htr hW hg hD0 ha0 hk1 hKC _ _ _ _ _ _ X88 _ _ _ _ _ ⟨by omega, by omega⟩ hP hS (lv_sub hl [1, 2, 3, 4, 5, 7, 8, 9, 11, 0] rfl) hf
    · have hf := g_in c2 hf
      refine lv_aload_n hx hb dL_law_280 rfl (lv_at hl 1 rfl) ?_
      refine lv_iconst (v := 2) hx hb dL_law_281 (by decide) ?_
      refine lv_iload hx hb dL_law_282 (lv_at hl 8 rfl) ?_
      refine lv_iconst (v := 4) hx hb dL_law_284 (by decide) ?_
      refine r_low (rest := [.int (2 : Int32), .ref (ad 0 0)]) C hP hS hl.1 (by decide) ls_L_9 ⟨rfl, rfl, Nat.le_of_ble_eq_true rfl, Nat.le_of_ble_eq_true rfl⟩ (Nat.le_of_ble_eq_true rfl) ⟨by omega, by omega⟩ dL_law_285 (fun locs hP hS => ?_)
      refine g_top hf (fun v93 e94 hf => ?_)
      refine lv_iconst (v := 0) hx hb dL_law_288 (by decide) ?_
      refine lv_iconst (v := 0) hx hb dL_law_289 (by decide) ?_
      obtain ⟨r96, X95, h97, hf⟩ := b2_in hf
      refine r_callL (nw := []) (rest := []) C hWd hP hS hl.1 rfl (s_Q_acts2 htr hW hD0 ha0 hg h97) True.intro il_L_acts ls_L_104 ⟨rfl, rfl, Nat.le_of_ble_eq_true rfl, Nat.le_of_ble_eq_true rfl⟩ rfl rfl (Nat.le_of_ble_eq_true rfl) ⟨by omega, by omega⟩ dL_law_290 (fun C H locs hP hS => ?_)
      rw [List.append_nil] at C hP
      have hdy := gDy_acts2 hdy h97
      refine lv_istore (i := 11) (lv' := [(11, .int r96), (0, .ref b), (1, .ref (ad 0 0)), (2, .int p2), (3, .int p3), (4, .int p4), (5, .int p5), (6, .int p6), (7, .int p7), (8, .int p8), (9, .int p9), (10, .int p10)]) hx hb dL_law_293 hl (Nat.le_of_ble_eq_true rfl) rfl (fun ls hl => ?_)
      refine lv_iload hx hb dL_law_295 (lv_at hl 0 rfl) ?_
      refine lv_if_gt (tgt := 307) hx hb dL_law_297 (by decide) (fun c98 => ?_) (fun c98 => ?_)
      · have hf := g_ip c98 hf
        exact s_Q_law_J307 C hWd htr hW hW2 hg hg2 hD0 ha0 hfr kk hKC _ _ _ _ _ X95 _ _ _ _ _ ⟨by omega, by omega⟩ hdy hP hS (lv_sub hl [1, 2, 3, 4, 5, 7, 8, 9, 11] rfl) hf
      · have hf := g_in c98 hf
        refine lv_iload hx hb dL_law_300 (lv_at hl 0 rfl) ?_
        refine lv_bipush (v := -9) hx hb dL_law_302 (by decide) ?_
        refine lv_icmp_ne (tgt := 311) hx hb dL_law_304 (by decide) (fun c99 => ?_) (fun c99 => ?_)
        · have hf := g_in c99 hf
          refine lv_iconst (v := 0) hx hb dL_law_311 (by decide) ?_
          exact s_Q_law_J312 C hWd htr hW hW2 hg hg2 hD0 ha0 hfr kk hKC _ _ _ _ _ _ X95 _ _ _ _ _ ⟨by omega, by omega⟩ hdy hP hS (lv_sub hl [1, 2, 3, 4, 5, 7, 8, 9, 11] rfl) hf
        · have hf := g_ip c99 hf
          exact s_Q_law_J307 C hWd htr hW hW2 hg hg2 hD0 ha0 hfr kk hKC _ _ _ _ _ X95 _ _ _ _ _ ⟨by omega, by omega⟩ hdy hP hS (lv_sub hl [1, 2, 3, 4, 5, 7, 8, 9, 11] rfl) hf
  · have hf := g_in c1 hf
    refine lv_aload_n hx hb dL_law_220 rfl (lv_at hl 1 rfl) ?_
    refine lv_iconst (v := 1) hx hb dL_law_221 (by decide) ?_
    refine lv_iload hx hb dL_law_222 (lv_at hl 8 rfl) ?_
    refine lv_iconst (v := 2) hx hb dL_law_224 (by decide) ?_
    refine r_low (rest := [.int (1 : Int32), .ref (ad 0 0)]) C hP hS hl.1 (by decide) ls_L_9 ⟨rfl, rfl, Nat.le_of_ble_eq_true rfl, Nat.le_of_ble_eq_true rfl⟩ (Nat.le_of_ble_eq_true rfl) ⟨by omega, by omega⟩ dL_law_225 (fun locs hP hS => ?_)
    refine g_top hf (fun v100 e101 hf => ?_)
    refine lv_iconst (v := 2) hx hb dL_law_228 (by decide) ?_
    refine lv_iload hx hb dL_law_229 (lv_at hl 8 rfl) ?_
    refine lv_iconst (v := 1) hx hb dL_law_231 (by decide) ?_
    refine lv_ishr hx hb dL_law_232 ?_
    refine lv_iconst (v := 2) hx hb dL_law_233 (by decide) ?_
    refine r_low (rest := [.int (2 : Int32), .int v100, .int (1 : Int32), .ref (ad 0 0)]) C hP hS hl.1 (by decide) ls_L_9 ⟨rfl, rfl, Nat.le_of_ble_eq_true rfl, Nat.le_of_ble_eq_true rfl⟩ (Nat.le_of_ble_eq_true rfl) ⟨by omega, by omega⟩ dL_law_234 (fun locs hP hS => ?_)
    refine g_top hf (fun v102 e103 hf => ?_)
    refine lv_iadd hx hb dL_law_237 ?_
    refine lv_iconst (v := 0) hx hb dL_law_238 (by decide) ?_
    obtain ⟨r105, X104, h106, hf⟩ := b2_in hf
    refine r_callL (nw := []) (rest := []) C hWd hP hS hl.1 rfl (s_Q_acts1 htr hW hD0 ha0 hg h106) True.intro il_L_acts ls_L_104 ⟨rfl, rfl, Nat.le_of_ble_eq_true rfl, Nat.le_of_ble_eq_true rfl⟩ rfl rfl (Nat.le_of_ble_eq_true rfl) ⟨by omega, by omega⟩ dL_law_239 (fun C H locs hP hS => ?_)
    rw [List.append_nil] at C hP
    refine lv_istore (i := 11) (lv' := [(11, .int r105), (0, .ref b), (1, .ref (ad 0 0)), (2, .int p2), (3, .int p3), (4, .int p4), (5, .int p5), (6, .int p6), (7, .int p7), (8, .int p8), (9, .int p9), (10, .int p10)]) hx hb dL_law_242 hl (Nat.le_of_ble_eq_true rfl) rfl (fun ls hl => ?_)
    refine lv_iload hx hb dL_law_244 (lv_at hl 0 rfl) ?_
    refine lv_iconst (v := 1) hx hb dL_law_246 (by decide) ?_
    refine lv_icmp_lt (tgt := 256) hx hb dL_law_247 (by decide) (fun c107 => ?_) (fun c107 => ?_)
    · have hf := g_ip c107 hf
      obtain ⟨hnw, hf⟩ := eqn_in hf
      subst hnw
      rw [List.append_nil] at hf
      rw [List.append_nil] at kk
      have hk1 := kk ad
      exact s_Q_law_J256 C hWd htr hW hg hD0 ha0 hk1 hKC _ _ _ _ _ _ X104 _ _ _ _ _ ⟨by omega, by omega⟩ hP hS (lv_sub hl [1, 2, 3, 4, 5, 7, 8, 9, 11, 0] rfl) hf
    · have hf := g_in c107 hf
      refine lv_iload hx hb dL_law_250 (lv_at hl 0 rfl) ?_
      refine lv_iconst (v := 4) hx hb dL_law_252 (by decide) ?_
      refine lv_icmp_le (tgt := 263) hx hb dL_law_253 (by decide) (fun c108 => ?_) (fun c108 => ?_)
      · have hf := g_ip c108 hf
        obtain ⟨hnw, hf⟩ := eqn_in hf
        subst hnw
        rw [List.append_nil] at hf
        rw [List.append_nil] at kk
        have hk1 := kk ad
        exact s_Q_law_J263 C hWd htr hW hg hD0 ha0 hk1 hKC _ _ _ _ _ X104 _ _ _ _ _ ⟨by omega, by omega⟩ hP hS (lv_sub hl [1, 2, 3, 4, 5, 7, 8, 9, 11] rfl) hf
      · have hf := g_in c108 hf
        obtain ⟨hnw, hf⟩ := eqn_in hf
        subst hnw
        rw [List.append_nil] at hf
        rw [List.append_nil] at kk
        have hk1 := kk ad
        exact s_Q_law_J256 C hWd htr hW hg hD0 ha0 hk1 hKC _ _ _ _ _ _ X104 _ _ _ _ _ ⟨by omega, by omega⟩ hP hS (lv_sub hl [1, 2, 3, 4, 5, 7, 8, 9, 11, 0] rfl) hf

set_option maxRecDepth 100000 in
set_option maxHeartbeats 4000000 in
theorem s_Q_law_J108 {p : Program} {l : Launch} {e : Env} {s : State} {m : MethodId} {args : Array Value} {below : List Frame} {meth : Method} {c : Code} {D : va_G} {cA : Nat → ClassId} {ad : Nat → Nat → Nat} {NL : List (Nat × Nat)} {A : Nat → Prop} {Q : State → Prop} {rt : Option FieldType} {b KC KS : Nat} {N : Nat} {q2 q3 q4 q5 p6 p7 : Int32} {XX : gM} {nw : List (Nat × Nat)} (C : gCx p c meth m s args cL_law 13 rt RL D cA ad NL A) (hWd : gWd A s) (htr : l.stackTraces = false) (hW : gWf NL) (hW2 : gWf (NL ++ nw)) (hg : ∀ n ∈ NL, n.1 < 43) (hg2 : ∀ n ∈ NL ++ nw, n.1 < 43) (hD0 : gD (fun _ => True) ad NL) (ha0 : (0, 0) ∈ NL) (hfr : gFr NL nw) (kk : ∀ a9 : Nat → Nat → Nat, (gCx p c meth m s args cL_law 13 rt RL D cA a9 (NL ++ nw) A → ∀ (H : Heap) (locs : List Loc) (ls : Array Slot) (cells slots : Nat), cells ≤ KC → slots ≤ KS → gH D cA a9 (NL ++ nw) XX H → va_S A s.heap H locs → lv_has ls 13 [(0, .ref b), (1, .ref (a9 0 0)), (2, .int q2), (3, .int q3), (4, .int q4), (5, .int q5), (6, .int p6), (7, .int p7)] → W p l e room_1 s m args below meth c H locs cells slots Q (F0 m 1135 ls []))) (hKC : KC ≤ room_1.cells ∧ KS ≤ room_1.slots) : ∀ (p2 : Int32) (p3 : Int32) (p4 : Int32) (p5 : Int32) (p8 : Int32) (p9 : Int32) (s0 : Int32) (X : gM) (H : Heap) (locs : List Loc) (ls : Array Slot) (cells slots : Nat), cells + 153 ≤ KC ∧ slots + 1015 ≤ KS → gDy NL X → gH D cA ad NL X H → va_S A s.heap H locs → lv_has ls 13 [(0, .ref b), (1, .ref (ad 0 0)), (2, .int p2), (3, .int p3), (4, .int p4), (5, .int p5), (6, .int p6), (7, .int p7), (8, .int p8), (9, .int p9)] → Q_law_J108 (gal NL) (gal (NL ++ nw)) N nw p2 p3 p4 p5 p8 p9 s0 X = some (q2, q3, q4, q5, XX) → W p l e room_1 s m args below meth c H locs cells slots Q (F0 m 108 ls [.int s0]) := by
  have hx := C.1
  have hb := C.2.1
  intro p2 p3 p4 p5 p8 p9 s0 X H locs ls cells slots hc hdy hP hS hl hf
  rw [Q_law_J108] at hf
  refine lv_istore (i := 10) (lv' := [(10, .int s0), (0, .ref b), (1, .ref (ad 0 0)), (2, .int p2), (3, .int p3), (4, .int p4), (5, .int p5), (6, .int p6), (7, .int p7), (8, .int p8), (9, .int p9)]) hx hb dL_law_108 hl (Nat.le_of_ble_eq_true rfl) rfl (fun ls hl => ?_)
  refine lv_iload_n hx hb dL_law_110 rfl (lv_at hl 3 rfl) ?_
  refine lv_if_eq (tgt := 125) hx hb dL_law_111 (by decide) (fun c1 => ?_) (fun c1 => ?_)
  · have hf := g_ip c1 hf
    exact s_Q_law_J125 C hWd htr hW hW2 hg hg2 hD0 ha0 hfr kk hKC _ _ _ _ _ X _ _ _ _ _ ⟨by omega, by omega⟩ hdy hP hS (lv_sub hl [1, 2, 3, 4, 5, 7, 8, 9, 0] rfl) hf
  · have hf := g_in c1 hf
    refine lv_iload hx hb dL_law_114 (lv_at hl 10 rfl) ?_
    refine lv_iconst (v := 4) hx hb dL_law_116 (by decide) ?_
    refine lv_icmp_ge (tgt := 214) hx hb dL_law_117 (by decide) (fun c2 => ?_) (fun c2 => ?_)
    · have hf := g_ip c2 hf
      exact s_Q_law_J214 C hWd htr hW hW2 hg hg2 hD0 ha0 hfr kk hKC _ _ _ _ _ _ _ X _ _ _ _ _ ⟨by omega, by omega⟩ hdy hP hS (lv_sub hl [1, 2, 3, 4, 5, 6, 7, 8, 9, 10, 0] rfl) hf
    · have hf := g_in c2 hf
      refine lv_iload_n hx hb dL_law_120 rfl (lv_at hl 3 rfl) ?_
      refine lv_iconst (v := 5) hx hb dL_law_121 (by decide) ?_
      refine lv_icmp_ge (tgt := 214) hx hb dL_law_122 (by decide) (fun c3 => ?_) (fun c3 => ?_)
      · have hf := g_ip c3 hf
        exact s_Q_law_J214 C hWd htr hW hW2 hg hg2 hD0 ha0 hfr kk hKC _ _ _ _ _ _ _ X _ _ _ _ _ ⟨by omega, by omega⟩ hdy hP hS (lv_sub hl [1, 2, 3, 4, 5, 6, 7, 8, 9, 10, 0] rfl) hf
      · have hf := g_in c3 hf
        exact s_Q_law_J125 C hWd htr hW hW2 hg hg2 hD0 ha0 hfr kk hKC _ _ _ _ _ X _ _ _ _ _ ⟨by omega, by omega⟩ hdy hP hS (lv_sub hl [1, 2, 3, 4, 5, 7, 8, 9, 0] rfl) hf

set_option maxRecDepth 100000 in
set_option maxHeartbeats 4000000 in
theorem s_Q_turn {p : Program} {l : Launch} {e : Env} {s : State} {m : MethodId} {args : Array Value} {below : List Frame} {meth : Method} {c : Code} {D : va_G} {cA : Nat → ClassId} {ad : Nat → Nat → Nat} {NL : List (Nat × Nat)} {A : Nat → Prop} {Q : State → Prop} {rt : Option FieldType} {b KC KS : Nat} {N : Nat} {q2 q3 q4 q5 p6 p7 : Int32} {XX : gM} {nw : List (Nat × Nat)} {L : Nat} {xs : Nat → Int32} (C : gCx p c meth m s args cL_law 13 rt RL D cA ad NL A) (hWd : gWd A s) (htr : l.stackTraces = false) (hW : gWf NL) (hW2 : gWf (NL ++ nw)) (hg : ∀ n ∈ NL, n.1 < 43) (hg2 : ∀ n ∈ NL ++ nw, n.1 < 43) (hD0 : gD (fun _ => True) ad NL) (ha0 : (0, 0) ∈ NL) (hfr : gFr NL nw) (kk : ∀ a9 : Nat → Nat → Nat, (gCx p c meth m s args cL_law 13 rt RL D cA a9 (NL ++ nw) A → ∀ (H : Heap) (locs : List Loc) (ls : Array Slot) (cells slots : Nat), cells ≤ KC → slots ≤ KS → gH D cA a9 (NL ++ nw) XX H → va_S A s.heap H locs → lv_has ls 13 [(0, .ref b), (1, .ref (a9 0 0)), (2, .int q2), (3, .int q3), (4, .int q4), (5, .int q5), (6, .int p6), (7, .int p7)] → W p l e room_1 s m args below meth c H locs cells slots Q (F0 m 1135 ls []))) (hKC : KC ≤ room_1.cells ∧ KS ≤ room_1.slots) (hX : va_X b L xs s s.heap) (hbl : b < s.heap.size) (hbA : ¬ A b) (hL : L ≤ 260) : ∀ (p2 p3 p4 p5 : Int32) (X : gM) (H : Heap) (locs : List Loc) (ls : Array Slot) (cells slots : Nat), cells + 153 ≤ KC ∧ slots + 1015 ≤ KS → gDy NL X → gH D cA ad NL X H → va_S A s.heap H locs → lv_has ls 13 [(0, .ref b), (1, .ref (ad 0 0)), (2, .int p2), (3, .int p3), (4, .int p4), (5, .int p5), (6, .int p6), (7, .int p7)] → Q_turn (gal NL) (gal (NL ++ nw)) N nw L xs p2 p3 p4 p5 p7 X = some (q2, q3, q4, q5, XX) → W p l e room_1 s m args below meth c H locs cells slots Q (F0 m 70 ls []) := by
  have hx := C.1
  have hb := C.2.1
  intro p2 p3 p4 p5 X H locs ls cells slots hc hdy hP hS hl hf
  rw [Q_turn] at hf
  refine lv_aload_n hx hb dL_law_70 rfl (lv_at hl 0 rfl) ?_
  refine lv_iconst (v := 1) hx hb dL_law_71 (by decide) ?_
  refine lv_iload hx hb dL_law_72 (lv_at hl 7 rfl) ?_
  refine lv_iadd hx hb dL_law_74 ?_
  obtain ⟨h1, hf⟩ := nn_in hf
  refine r_cell (rest := []) C hX hbl hbA hL hP hS hl.1 h1 ls_L_100 ⟨rfl, rfl, Nat.le_of_ble_eq_true rfl, Nat.le_of_ble_eq_true rfl⟩ (Nat.le_of_ble_eq_true rfl) ⟨by omega, by omega⟩ dL_law_75 (fun H locs hP hS => ?_)
  refine g_top hf (fun v2 e3 hf => ?_)
  refine lv_istore (i := 8) (lv' := [(8, .int v2), (0, .ref b), (1, .ref (ad 0 0)), (2, .int p2), (3, .int p3), (4, .int p4), (5, .int p5), (6, .int p6), (7, .int p7)]) hx hb dL_law_78 hl (Nat.le_of_ble_eq_true rfl) rfl (fun ls hl => ?_)
  refine lv_iload hx hb dL_law_80 (lv_at hl 0 rfl) ?_
  refine lv_bipush (v := 20) hx hb dL_law_82 (by decide) ?_
  refine lv_ishr hx hb dL_law_84 ?_
  refine lv_bipush (v := 30) hx hb dL_law_85 (by decide) ?_
  refine r_low (rest := []) C hP hS hl.1 (by decide) ls_L_9 ⟨rfl, rfl, Nat.le_of_ble_eq_true rfl, Nat.le_of_ble_eq_true rfl⟩ (Nat.le_of_ble_eq_true rfl) ⟨by omega, by omega⟩ dL_law_87 (fun locs hP hS => ?_)
  refine g_top hf (fun v4 e5 hf => ?_)
  refine lv_istore (i := 9) (lv' := [(9, .int v4), (8, .int v2), (0, .ref b), (1, .ref (ad 0 0)), (2, .int p2), (3, .int p3), (4, .int p4), (5, .int p5), (6, .int p6), (7, .int p7)]) hx hb dL_law_90 hl (Nat.le_of_ble_eq_true rfl) rfl (fun ls hl => ?_)
  refine lv_iload_n hx hb dL_law_92 rfl (lv_at hl 4 rfl) ?_
  refine lv_if_ne (tgt := 100) hx hb dL_law_93 (by decide) (fun c6 => ?_) (fun c6 => ?_)
  · have hf := g_in c6 hf
    refine lv_iload hx hb dL_law_100 (lv_at hl 1 rfl) ?_
    refine lv_iconst (v := 3) hx hb dL_law_102 (by decide) ?_
    refine lv_ishr hx hb dL_law_103 ?_
    refine lv_iload_n hx hb dL_law_104 rfl (lv_at hl 4 rfl) ?_
    obtain ⟨h7, hf⟩ := nz_in hf
    refine r_low (rest := []) C hP hS hl.1 h7 ls_L_9 ⟨rfl, rfl, Nat.le_of_ble_eq_true rfl, Nat.le_of_ble_eq_true rfl⟩ (Nat.le_of_ble_eq_true rfl) ⟨by omega, by omega⟩ dL_law_105 (fun locs hP hS => ?_)
    refine g_top hf (fun v8 e9 hf => ?_)
    exact s_Q_law_J108 C hWd htr hW hW2 hg hg2 hD0 ha0 hfr kk hKC _ _ _ _ _ _ _ X _ _ _ _ _ ⟨by omega, by omega⟩ hdy hP hS (lv_sub hl [2, 3, 4, 5, 6, 7, 8, 9, 1, 0] rfl) hf
  · have hf := g_ip c6 hf
    refine lv_iconst (v := 0) hx hb dL_law_96 (by decide) ?_
    refine lv_goto (tgt := 108) hx hb dL_law_97 (by decide) ?_
    exact s_Q_law_J108 C hWd htr hW hW2 hg hg2 hD0 ha0 hfr kk hKC _ _ _ _ _ _ _ X _ _ _ _ _ ⟨by omega, by omega⟩ hdy hP hS (lv_sub hl [2, 3, 4, 5, 6, 7, 8, 9, 1, 0] rfl) hf

