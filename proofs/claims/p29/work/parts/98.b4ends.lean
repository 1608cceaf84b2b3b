/-! the law before its turns and behind them -/
theorem g_q6 {a b c d e f a2 b2 c2 d2 e2 f2 : Int32} {X X2 : gM} (h : some (a, b, c, d, e, f, X) = some (a2, b2, c2, d2, e2, f2, X2)) : a = a2 ∧ b = b2 ∧ c = c2 ∧ d = d2 ∧ e = e2 ∧ f = f2 ∧ X = X2 := by
  cases h
  exact ⟨rfl, rfl, rfl, rfl, rfl, rfl, rfl⟩
theorem g_q1 {a a2 : Int32} {X X2 : gM} (h : some (a, X) = some (a2, X2)) : a = a2 ∧ X = X2 := by
  cases h
  exact ⟨rfl, rfl⟩
set_option maxRecDepth 100000 in
set_option maxHeartbeats 4000000 in
theorem s_Q_begin_J38 {p : Program} {l : Launch} {e : Env} {s : State} {m : MethodId} {args : Array Value} {below : List Frame} {meth : Method} {c : Code} {D : va_G} {cA : Nat → ClassId} {ad : Nat → Nat → Nat} {NL : List (Nat × Nat)} {A : Nat → Prop} {Q : State → Prop} {rt : Option FieldType} {b KC KS L : Nat} {xs : Nat → Int32} {N : Nat} {q2 q3 q4 q5 q6 q7 : Int32} {XX : gM} (C : gCx p c meth m s args cL_law 13 rt RL D cA ad NL A) (hWd : gWd A s) (htr : l.stackTraces = false) (hW : gWf NL) (hg : ∀ n ∈ NL, n.1 < 43) (hD0 : gD (fun _ => True) ad NL) (ha0 : (0, 0) ∈ NL) (hk1 : (∀ (H : Heap) (locs : List Loc) (ls : Array Slot) (cells slots : Nat), cells ≤ KC → slots ≤ KS → gH D cA ad NL XX H → va_S A s.heap H locs → lv_has ls 13 [(0, .ref b), (1, .ref (ad 0 0)), (2, .int q2), (3, .int q3), (4, .int q4), (5, .int q5), (6, .int q6), (7, .int q7)] → W p l e room_1 s m args below meth c H locs cells slots Q (F0 m 58 ls []))) (hKC : KC ≤ room_1.cells ∧ KS ≤ room_1.slots) (hX : va_X b L xs s s.heap) (hbl : b < s.heap.size) (hbA : ¬ A b) (hL : L ≤ 260) : ∀ (p2 : Int32) (p3 : Int32) (p4 : Int32) (s0 : Int32) (X : gM) (H : Heap) (locs : List Loc) (ls : Array Slot) (cells slots : Nat), cells + 0 ≤ KC ∧ slots + 0 ≤ KS → gH D cA ad NL X H → va_S A s.heap H locs → lv_has ls 13 [(0, .ref b), (1, .ref (ad 0 0)), (2, .int p2), (3, .int p3), (4, .int p4)] → Q_begin_J38 (gal NL) N L xs p2 p3 p4 s0 X = some (q2, q3, q4, q5, q6, q7, XX) → W p l e room_1 s m args below meth c H locs cells slots Q (F0 m 38 ls [.int s0]) := by
  have hx := C.1
  have hb := C.2.1
  intro p2 p3 p4 s0 X H locs ls cells slots hc hP hS hl hf
  rw [Q_begin_J38] at hf
  refine lv_istore (i := 5) (lv' := [(5, .int s0), (0, .ref b), (1, .ref (ad 0 0)), (2, .int p2), (3, .int p3), (4, .int p4)]) hx hb dL_law_38 hl (Nat.le_of_ble_eq_true rfl) rfl (fun ls hl => ?_)
  refine lv_bipush (v := 10) hx hb dL_law_40 (by decide) ?_
  refine lv_aload_n hx hb dL_law_42 rfl (lv_at hl 1 rfl) ?_
  refine lv_iconst (v := 0) hx hb dL_law_43 (by decide) ?_
  obtain ⟨h1, hf⟩ := nn_in hf
  refine r_cell (rest := [.int (10 : Int32)]) C hX hbl hbA hL hP hS hl.1 h1 ls_L_100 ⟨rfl, rfl, Nat.le_of_ble_eq_true rfl, Nat.le_of_ble_eq_true rfl⟩ (Nat.le_of_ble_eq_true rfl) ⟨by omega, by omega⟩ dL_law_44 (fun H locs hP hS => ?_)
  refine g_top hf (fun v2 e3 hf => ?_)
  refine lv_bipush (v := 40) hx hb dL_law_47 (by decide) ?_
  refine r_low (rest := [.int (10 : Int32)]) C hP hS hl.1 (by decide) ls_L_9 ⟨rfl, rfl, Nat.le_of_ble_eq_true rfl, Nat.le_of_ble_eq_true rfl⟩ (Nat.le_of_ble_eq_true rfl) ⟨by omega, by omega⟩ dL_law_49 (fun locs hP hS => ?_)
  refine g_top hf (fun v4 e5 hf => ?_)
  refine lv_iadd hx hb dL_law_52 ?_
  refine g_top hf (fun v6 e7 hf => ?_)
  refine lv_istore (i := 6) (lv' := [(6, .int v6), (5, .int s0), (0, .ref b), (1, .ref (ad 0 0)), (2, .int p2), (3, .int p3), (4, .int p4)]) hx hb dL_law_53 hl (Nat.le_of_ble_eq_true rfl) rfl (fun ls hl => ?_)
  refine lv_iconst (v := 0) hx hb dL_law_55 (by decide) ?_
  refine lv_istore (i := 7) (lv' := [(7, .int (0 : Int32)), (6, .int v6), (5, .int s0), (0, .ref b), (1, .ref (ad 0 0)), (2, .int p2), (3, .int p3), (4, .int p4)]) hx hb dL_law_56 hl (Nat.le_of_ble_eq_true rfl) rfl (fun ls hl => ?_)
  obtain ⟨rfl, rfl, rfl, rfl, rfl, rfl, rfl⟩ := g_q6 hf
  exact hk1 H locs ls _ _ (by omega) (by omega) hP hS (lv_sub hl [3, 4, 5, 6, 7, 2, 1, 0] rfl)

set_option maxRecDepth 100000 in
set_option maxHeartbeats 4000000 in
theorem s_Q_begin_J37 {p : Program} {l : Launch} {e : Env} {s : State} {m : MethodId} {args : Array Value} {below : List Frame} {meth : Method} {c : Code} {D : va_G} {cA : Nat → ClassId} {ad : Nat → Nat → Nat} {NL : List (Nat × Nat)} {A : Nat → Prop} {Q : State → Prop} {rt : Option FieldType} {b KC KS L : Nat} {xs : Nat → Int32} {N : Nat} {q2 q3 q4 q5 q6 q7 : Int32} {XX : gM} (C : gCx p c meth m s args cL_law 13 rt RL D cA ad NL A) (hWd : gWd A s) (htr : l.stackTraces = false) (hW : gWf NL) (hg : ∀ n ∈ NL, n.1 < 43) (hD0 : gD (fun _ => True) ad NL) (ha0 : (0, 0) ∈ NL) (hk1 : (∀ (H : Heap) (locs : List Loc) (ls : Array Slot) (cells slots : Nat), cells ≤ KC → slots ≤ KS → gH D cA ad NL XX H → va_S A s.heap H locs → lv_has ls 13 [(0, .ref b), (1, .ref (ad 0 0)), (2, .int q2), (3, .int q3), (4, .int q4), (5, .int q5), (6, .int q6), (7, .int q7)] → W p l e room_1 s m args below meth c H locs cells slots Q (F0 m 58 ls []))) (hKC : KC ≤ room_1.cells ∧ KS ≤ room_1.slots) (hX : va_X b L xs s s.heap) (hbl : b < s.heap.size) (hbA : ¬ A b) (hL : L ≤ 260) : ∀ (p2 : Int32) (p3 : Int32) (p4 : Int32) (X : gM) (H : Heap) (locs : List Loc) (ls : Array Slot) (cells slots : Nat), cells + 0 ≤ KC ∧ slots + 0 ≤ KS → gH D cA ad NL X H → va_S A s.heap H locs → lv_has ls 13 [(0, .ref b), (1, .ref (ad 0 0)), (2, .int p2), (3, .int p3), (4, .int p4)] → Q_begin_J37 (gal NL) N L xs p2 p3 p4 X = some (q2, q3, q4, q5, q6, q7, XX) → W p l e room_1 s m args below meth c H locs cells slots Q (F0 m 37 ls []) := by
  have hx := C.1
  have hb := C.2.1
  intro p2 p3 p4 X H locs ls cells slots hc hP hS hl hf
  rw [Q_begin_J37] at hf
  refine lv_iconst (v := 0) hx hb dL_law_37 (by decide) ?_
  exact s_Q_begin_J38 C hWd htr hW hg hD0 ha0 hk1 hKC hX hbl hbA hL _ _ _ _ X _ _ _ _ _ ⟨by omega, by omega⟩ hP hS (lv_sub hl [0, 1, 2, 3, 4] rfl) hf

set_option maxRecDepth 100000 in
set_option maxHeartbeats 4000000 in
theorem s_Q_begin {p : Program} {l : Launch} {e : Env} {s : State} {m : MethodId} {args : Array Value} {below : List Frame} {meth : Method} {c : Code} {D : va_G} {cA : Nat → ClassId} {ad : Nat → Nat → Nat} {NL : List (Nat × Nat)} {A : Nat → Prop} {Q : State → Prop} {rt : Option FieldType} {b KC KS L : Nat} {xs : Nat → Int32} {N : Nat} {q2 q3 q4 q5 q6 q7 : Int32} {XX : gM} (C : gCx p c meth m s args cL_law 13 rt RL D cA ad NL A) (hWd : gWd A s) (htr : l.stackTraces = false) (hW : gWf NL) (hg : ∀ n ∈ NL, n.1 < 43) (hD0 : gD (fun _ => True) ad NL) (ha0 : (0, 0) ∈ NL) (hk1 : (∀ (H : Heap) (locs : List Loc) (ls : Array Slot) (cells slots : Nat), cells ≤ KC → slots ≤ KS → gH D cA ad NL XX H → va_S A s.heap H locs → lv_has ls 13 [(0, .ref b), (1, .ref (ad 0 0)), (2, .int q2), (3, .int q3), (4, .int q4), (5, .int q5), (6, .int q6), (7, .int q7)] → W p l e room_1 s m args below meth c H locs cells slots Q (F0 m 58 ls []))) (hKC : KC ≤ room_1.cells ∧ KS ≤ room_1.slots) (hX : va_X b L xs s s.heap) (hbl : b < s.heap.size) (hbA : ¬ A b) (hL : L ≤ 260) : ∀ (X : gM) (H : Heap) (locs : List Loc) (ls : Array Slot) (cells slots : Nat), cells + 1 ≤ KC ∧ slots + 6 ≤ KS → gH D cA ad NL X H → va_S A s.heap H locs → lv_has ls 13 [(0, .ref b), (1, .ref (ad 0 0))] → Q_begin (gal NL) N L xs  X = some (q2, q3, q4, q5, q6, q7, XX) → W p l e room_1 s m args below meth c H locs cells slots Q (F0 m 8 ls []) := by
  have hx := C.1
  have hb := C.2.1
  intro  X H locs ls cells slots hc hP hS hl hf
  rw [Q_begin] at hf
  refine lv_iconst (v := 0) hx hb dL_law_8 (by decide) ?_
  refine lv_istore_n (i := 2) (lv' := [(2, .int (0 : Int32)), (0, .ref b), (1, .ref (ad 0 0))]) hx hb dL_law_9 rfl hl (Nat.le_of_ble_eq_true rfl) rfl (fun ls hl => ?_)
  refine lv_iconst (v := 0) hx hb dL_law_10 (by decide) ?_
  refine lv_istore_n (i := 3) (lv' := [(3, .int (0 : Int32)), (2, .int (0 : Int32)), (0, .ref b), (1, .ref (ad 0 0))]) hx hb dL_law_11 rfl hl (Nat.le_of_ble_eq_true rfl) rfl (fun ls hl => ?_)
  refine lv_iconst (v := 0) hx hb dL_law_12 (by decide) ?_
  refine lv_istore (i := 4) (lv' := [(4, .int (0 : Int32)), (3, .int (0 : Int32)), (2, .int (0 : Int32)), (0, .ref b), (1, .ref (ad 0 0))]) hx hb dL_law_13 hl (Nat.le_of_ble_eq_true rfl) rfl (fun ls hl => ?_)
  refine lv_aload_n hx hb dL_law_15 rfl (lv_at hl 4 rfl) ?_
  obtain ⟨r2, X1, h3, hf⟩ := b2_in hf
  refine r_cVi (rest := []) C hP hS hl.1 (s_P_worth hW hD0 hg ha0 h3) ix_X9_worth iv_X9_worth lk_L_94 ⟨rfl, rfl, Nat.le_of_ble_eq_true rfl, Nat.le_of_ble_eq_true rfl⟩ ha0 (ct_0 _ _ _ _) rfl rfl rfl rfl (Nat.le_of_ble_eq_true rfl) ⟨by omega, by omega⟩ dL_law_16 (fun H locs hP hS => ?_)
  refine lv_iconst (v := -1) hx hb dL_law_19 (by decide) ?_
  refine lv_icmp_ne (tgt := 37) hx hb dL_law_20 (by decide) (fun c4 => ?_) (fun c4 => ?_)
  · have hf := g_in c4 hf
    exact s_Q_begin_J37 C hWd htr hW hg hD0 ha0 hk1 hKC hX hbl hbA hL _ _ _ X1 _ _ _ _ _ ⟨by omega, by omega⟩ hP hS (lv_sub hl [3, 4, 2, 1, 0] rfl) hf
  · have hf := g_ip c4 hf
    refine lv_aload_n hx hb dL_law_23 rfl (lv_at hl 4 rfl) ?_
    refine lv_iconst (v := 0) hx hb dL_law_24 (by decide) ?_
    refine lv_iconst (v := 1) hx hb dL_law_25 (by decide) ?_
    obtain ⟨k8, r6, X5, h7, hf⟩ := b3_in hf
    refine r_callX (nw := []) (rest := []) C hWd.1 hWd.2.1 hWd.2.2.1 hP hS hl.1 rfl (gCX_A (s_P_arrangements htr hW hD0 ha0 hg h7)) True.intro ix_X9_arrangements iv_X9_arrangements ls_L_97 ⟨rfl, rfl, Nat.le_of_ble_eq_true rfl, Nat.le_of_ble_eq_true rfl⟩ ha0 (ct_0 _ _ _ _) rfl rfl rfl rfl (Nat.le_of_ble_eq_true rfl) ⟨by omega, by omega⟩ dL_law_26 (fun hk0 C H locs hP hS => ?_) (fun hk0 ce q9 H locs hP hS hce hcv hcl => ?_)
    · subst hk0
      have hf := g_ip rfl hf
      rw [List.append_nil] at C hP
      show W p l e room_1 s m _ below meth c H locs _ _ _ (F0 m 29 ls [.int r6])
      refine lv_iconst (v := 1) hx hb dL_law_29 (by decide) ?_
      refine lv_icmp_ne (tgt := 37) hx hb dL_law_30 (by decide) (fun c9 => ?_) (fun c9 => ?_)
      · have hf := g_in c9 hf
        exact s_Q_begin_J37 C hWd htr hW hg hD0 ha0 hk1 hKC hX hbl hbA hL _ _ _ X5 _ _ _ _ _ ⟨by omega, by omega⟩ hP hS (lv_sub hl [3, 4, 2, 1, 0] rfl) hf
      · have hf := g_ip c9 hf
        refine lv_iconst (v := 1) hx hb dL_law_33 (by decide) ?_
        refine lv_goto (tgt := 38) hx hb dL_law_34 (by decide) ?_
        exact s_Q_begin_J38 C hWd htr hW hg hD0 ha0 hk1 hKC hX hbl hbA hL _ _ _ _ X5 _ _ _ _ _ ⟨by omega, by omega⟩ hP hS (lv_sub hl [3, 4, 2, 1, 0] rfl) hf
    · have hf := g_in hk0 hf
      cases hf

set_option maxRecDepth 100000 in
set_option maxHeartbeats 4000000 in
theorem s_Q_end_J1168 {p : Program} {l : Launch} {e : Env} {s : State} {m : MethodId} {args : Array Value} {below : List Frame} {meth : Method} {c : Code} {D : va_G} {cA : Nat → ClassId} {ad : Nat → Nat → Nat} {NL : List (Nat × Nat)} {A : Nat → Prop} {Q : State → Prop} {rt : Option FieldType} {b KC KS L : Nat} {xs : Nat → Int32} {N : Nat} {q9 : Int32} {XX : gM} (C : gCx p c meth m s args cL_law 13 rt RL D cA ad NL A) (hWd : gWd A s) (htr : l.stackTraces = false) (hW : gWf NL) (hg : ∀ n ∈ NL, n.1 < 43) (hD0 : gD (fun _ => True) ad NL) (ha0 : (0, 0) ∈ NL) (hk1 : (∀ (H : Heap) (locs : List Loc) (ls : Array Slot) (cells slots : Nat), cells ≤ KC → slots ≤ KS → gH D cA ad NL XX H → va_S A s.heap H locs → W p l e room_1 s m args below meth c H locs cells slots Q (F0 m 1169 ls [.int q9]))) (hKC : KC ≤ room_1.cells ∧ KS ≤ room_1.slots) (hX : va_X b L xs s s.heap) (hbl : b < s.heap.size) (hbA : ¬ A b) (hL : L ≤ 260) : ∀ (X : gM) (H : Heap) (locs : List Loc) (ls : Array Slot) (cells slots : Nat), cells + 0 ≤ KC ∧ slots + 0 ≤ KS → gH D cA ad NL X H → va_S A s.heap H locs → lv_has ls 13 [] → Q_end_J1168 (gal NL) N L xs  X = some (q9, XX) → W p l e room_1 s m args below meth c H locs cells slots Q (F0 m 1168 ls []) := by
  have hx := C.1
  have hb := C.2.1
  intro  X H locs ls cells slots hc hP hS hl hf
  rw [Q_end_J1168] at hf
  refine lv_iconst (v := 0) hx hb dL_law_1168 (by decide) ?_
  obtain ⟨rfl, rfl⟩ := g_q1 hf
  exact hk1 H locs ls _ _ (by omega) (by omega) hP hS

set_option maxRecDepth 100000 in
set_option maxHeartbeats 4000000 in
theorem s_Q_end {p : Program} {l : Launch} {e : Env} {s : State} {m : MethodId} {args : Array Value} {below : List Frame} {meth : Method} {c : Code} {D : va_G} {cA : Nat → ClassId} {ad : Nat → Nat → Nat} {NL : List (Nat × Nat)} {A : Nat → Prop} {Q : State → Prop} {rt : Option FieldType} {b KC KS L : Nat} {xs : Nat → Int32} {N : Nat} {q9 : Int32} {XX : gM} (C : gCx p c meth m s args cL_law 13 rt RL D cA ad NL A) (hWd : gWd A s) (htr : l.stackTraces = false) (hW : gWf NL) (hg : ∀ n ∈ NL, n.1 < 43) (hD0 : gD (fun _ => True) ad NL) (ha0 : (0, 0) ∈ NL) (hk1 : (∀ (H : Heap) (locs : List Loc) (ls : Array Slot) (cells slots : Nat), cells ≤ KC → slots ≤ KS → gH D cA ad NL XX H → va_S A s.heap H locs → W p l e room_1 s m args below meth c H locs cells slots Q (F0 m 1169 ls [.int q9]))) (hKC : KC ≤ room_1.cells ∧ KS ≤ room_1.slots) (hX : va_X b L xs s s.heap) (hbl : b < s.heap.size) (hbA : ¬ A b) (hL : L ≤ 260) : ∀ (p2 : Int32) (p5 : Int32) (X : gM) (H : Heap) (locs : List Loc) (ls : Array Slot) (cells slots : Nat), cells + 0 ≤ KC ∧ slots + 0 ≤ KS → gH D cA ad NL X H → va_S A s.heap H locs → lv_has ls 13 [(1, .ref (ad 0 0)), (2, .int p2), (5, .int p5)] → Q_end (gal NL) N L xs p2 p5 X = some (q9, XX) → W p l e room_1 s m args below meth c H locs cells slots Q (F0 m 1141 ls []) := by
  have hx := C.1
  have hb := C.2.1
  intro p2 p5 X H locs ls cells slots hc hP hS hl hf
  rw [Q_end] at hf
  refine lv_aload_n hx hb dL_law_1141 rfl (lv_at hl 0 rfl) ?_
  obtain ⟨r2, X1, h3, hf⟩ := b2_in hf
  refine r_cVi (rest := []) C hP hS hl.1 (s_P_worth hW hD0 hg ha0 h3) ix_X9_worth iv_X9_worth lk_L_94 ⟨rfl, rfl, Nat.le_of_ble_eq_true rfl, Nat.le_of_ble_eq_true rfl⟩ ha0 (ct_0 _ _ _ _) rfl rfl rfl rfl (Nat.le_of_ble_eq_true rfl) ⟨by omega, by omega⟩ dL_law_1142 (fun H locs hP hS => ?_)
  refine lv_istore (i := 7) (lv' := [(7, .int r2), (1, .ref (ad 0 0)), (2, .int p2), (5, .int p5)]) hx hb dL_law_1145 hl (Nat.le_of_ble_eq_true rfl) rfl (fun ls hl => ?_)
  refine lv_iload hx hb dL_law_1147 (lv_at hl 3 rfl) ?_
  refine lv_if_eq (tgt := 1168) hx hb dL_law_1149 (by decide) (fun c4 => ?_) (fun c4 => ?_)
  · have hf := g_ip c4 hf
    exact s_Q_end_J1168 C hWd htr hW hg hD0 ha0 hk1 hKC hX hbl hbA hL  X1 _ _ _ _ _ ⟨by omega, by omega⟩ hP hS (lv_sub hl [] rfl) hf
  · have hf := g_in c4 hf
    refine lv_iload hx hb dL_law_1152 (lv_at hl 0 rfl) ?_
    refine lv_iconst (v := -1) hx hb dL_law_1154 (by decide) ?_
    refine lv_icmp_lt (tgt := 1168) hx hb dL_law_1155 (by decide) (fun c5 => ?_) (fun c5 => ?_)
    · have hf := g_ip c5 hf
      exact s_Q_end_J1168 C hWd htr hW hg hD0 ha0 hk1 hKC hX hbl hbA hL  X1 _ _ _ _ _ ⟨by omega, by omega⟩ hP hS (lv_sub hl [] rfl) hf
    · have hf := g_in c5 hf
      refine lv_iload hx hb dL_law_1158 (lv_at hl 0 rfl) ?_
      refine lv_iload_n hx hb dL_law_1160 rfl (lv_at hl 2 rfl) ?_
      refine lv_icmp_ge (tgt := 1168) hx hb dL_law_1161 (by decide) (fun c6 => ?_) (fun c6 => ?_)
      · have hf := g_ip c6 hf
        exact s_Q_end_J1168 C hWd htr hW hg hD0 ha0 hk1 hKC hX hbl hbA hL  X1 _ _ _ _ _ ⟨by omega, by omega⟩ hP hS (lv_sub hl [] rfl) hf
      · have hf := g_in c6 hf
        refine lv_iconst (v := 1) hx hb dL_law_1164 (by decide) ?_
        refine lv_goto (tgt := 1169) hx hb dL_law_1165 (by decide) ?_
        obtain ⟨rfl, rfl⟩ := g_q1 hf
        exact hk1 H locs ls _ _ (by omega) (by omega) hP hS

