/-! the law's line and leaf -/
def rm_Q_leaf : Room := { frames := 17, cells := 7, slots := 42, locals := 474 }
set_option maxRecDepth 100000 in
set_option maxHeartbeats 4000000 in
theorem s_Q_leaf_J135 {p : Program} {l : Launch} {e : Env} {s : State} {m : MethodId} {args : Array Value} {below : List Frame} {meth : Method} {c : Code} {D : va_G} {cA : Nat → ClassId} {ad : Nat → Nat → Nat} {NL : List (Nat × Nat)} {A : Nat → Prop} {rr : Int32} {XX : gM} {N : Nat} (C : gCx p c meth m s args cL_leaf 9 (some .boolean) RL D cA ad NL A) (hWd : gWd A s) (htr : l.stackTraces = false) (hW : gWf NL) (hg : ∀ n ∈ NL, n.1 < 43) (hD0 : gD (fun _ => True) ad NL) (ha0 : (0, 0) ∈ NL) : ∀ (s0 : Int32) (X : gM) (H : Heap) (locs : List Loc) (ls : Array Slot) (cells slots : Nat), cells + 0 ≤ 7 ∧ slots + 0 ≤ 42 → gH D cA ad NL X H → va_S A s.heap H locs → lv_has ls 9 [] → Q_leaf_J135 (gal NL) N s0 X = some (rr, XX) → W p l e rm_Q_leaf s m args below meth c H locs cells slots (MQ below (gQ D cA ad NL (some (.int rr)) XX A) args s 7 42 A) (F0 m 135 ls [.int s0]) := by
  have hx := C.1
  have hb := C.2.1
  intro s0 X H locs ls cells slots hc hP hS hl hf
  rw [Q_leaf_J135] at hf
  obtain ⟨h1, hf⟩ := bz_in hf
  obtain ⟨rfl, rfl⟩ := g_s1 hf
  refine W.widen (k := 7) (n := 42) (by omega) (by omega) ?_
  exact r_zret C hP hS h1 dL_leaf_135

set_option maxRecDepth 100000 in
set_option maxHeartbeats 4000000 in
theorem s_Q_leaf_J134 {p : Program} {l : Launch} {e : Env} {s : State} {m : MethodId} {args : Array Value} {below : List Frame} {meth : Method} {c : Code} {D : va_G} {cA : Nat → ClassId} {ad : Nat → Nat → Nat} {NL : List (Nat × Nat)} {A : Nat → Prop} {rr : Int32} {XX : gM} {N : Nat} (C : gCx p c meth m s args cL_leaf 9 (some .boolean) RL D cA ad NL A) (hWd : gWd A s) (htr : l.stackTraces = false) (hW : gWf NL) (hg : ∀ n ∈ NL, n.1 < 43) (hD0 : gD (fun _ => True) ad NL) (ha0 : (0, 0) ∈ NL) : ∀ (X : gM) (H : Heap) (locs : List Loc) (ls : Array Slot) (cells slots : Nat), cells + 0 ≤ 7 ∧ slots + 0 ≤ 42 → gH D cA ad NL X H → va_S A s.heap H locs → lv_has ls 9 [] → Q_leaf_J134 (gal NL) N  X = some (rr, XX) → W p l e rm_Q_leaf s m args below meth c H locs cells slots (MQ below (gQ D cA ad NL (some (.int rr)) XX A) args s 7 42 A) (F0 m 134 ls []) := by
  have hx := C.1
  have hb := C.2.1
  intro  X H locs ls cells slots hc hP hS hl hf
  rw [Q_leaf_J134] at hf
  refine lv_iconst (v := 0) hx hb dL_leaf_134 (by decide) ?_
  exact s_Q_leaf_J135 C hWd htr hW hg hD0 ha0 _ X _ _ _ _ _ ⟨by omega, by omega⟩ hP hS (lv_sub hl [] rfl) hf

set_option maxRecDepth 100000 in
set_option maxHeartbeats 4000000 in
theorem s_Q_leaf_J104 {p : Program} {l : Launch} {e : Env} {s : State} {m : MethodId} {args : Array Value} {below : List Frame} {meth : Method} {c : Code} {D : va_G} {cA : Nat → ClassId} {ad : Nat → Nat → Nat} {NL : List (Nat × Nat)} {A : Nat → Prop} {rr : Int32} {XX : gM} {N : Nat} (C : gCx p c meth m s args cL_leaf 9 (some .boolean) RL D cA ad NL A) (hWd : gWd A s) (htr : l.stackTraces = false) (hW : gWf NL) (hg : ∀ n ∈ NL, n.1 < 43) (hD0 : gD (fun _ => True) ad NL) (ha0 : (0, 0) ∈ NL) : ∀ (p1 : Int32) (s0 : Int32) (X : gM) (H : Heap) (locs : List Loc) (ls : Array Slot) (cells slots : Nat), cells + 2 ≤ 7 ∧ slots + 12 ≤ 42 → gH D cA ad NL X H → va_S A s.heap H locs → lv_has ls 9 [(0, .ref (ad 0 0)), (1, .int p1)] → Q_leaf_J104 (gal NL) N p1 s0 X = some (rr, XX) → W p l e rm_Q_leaf s m args below meth c H locs cells slots (MQ below (gQ D cA ad NL (some (.int rr)) XX A) args s 7 42 A) (F0 m 104 ls [.int s0]) := by
  have hx := C.1
  have hb := C.2.1
  intro p1 s0 X H locs ls cells slots hc hP hS hl hf
  rw [Q_leaf_J104] at hf
  refine lv_istore (i := 8) (lv' := [(8, .int s0), (0, .ref (ad 0 0)), (1, .int p1)]) hx hb dL_leaf_104 hl (Nat.le_of_ble_eq_true rfl) rfl (fun ls hl => ?_)
  refine lv_iload hx hb dL_leaf_106 (lv_at hl 0 rfl) ?_
  refine lv_if_eq (tgt := 134) hx hb dL_leaf_108 (by decide) (fun c1 => ?_) (fun c1 => ?_)
  · have hf := g_ip c1 hf
    exact s_Q_leaf_J134 C hWd htr hW hg hD0 ha0  X _ _ _ _ _ ⟨by omega, by omega⟩ hP hS (lv_sub hl [] rfl) hf
  · have hf := g_in c1 hf
    refine lv_aload_n hx hb dL_leaf_111 rfl (lv_at hl 1 rfl) ?_
    refine lv_iload_n hx hb dL_leaf_112 rfl (lv_at hl 2 rfl) ?_
    obtain ⟨k5, r3, X2, h4, hf⟩ := b3_in hf
    refine r_callX (nw := []) (rest := []) C hWd.1 hWd.2.1 hWd.2.2.1 hP hS hl.1 rfl (gCX_A (s_P_dates htr hW hD0 ha0 hg h4)) True.intro ix_X9_dates iv_X9_dates ls_L_90 ⟨rfl, rfl, Nat.le_of_ble_eq_true rfl, Nat.le_of_ble_eq_true rfl⟩ ha0 (ct_0 _ _ _ _) rfl rfl rfl rfl (Nat.le_of_ble_eq_true rfl) ⟨by show _ ≤ (7 : Nat); omega, by show _ ≤ (42 : Nat); omega⟩ dL_leaf_113 (fun hk0 C H locs hP hS => ?_) (fun hk0 ce q9 H locs hP hS hce hcv hcl => ?_)
    · subst hk0
      have hf := g_ip rfl hf
      rw [List.append_nil] at C hP
      show W p l e rm_Q_leaf s m _ below meth c H locs _ _ _ (F0 m 116 ls [.int r3])
      refine lv_if_lt (tgt := 134) hx hb dL_leaf_116 (by decide) (fun c6 => ?_) (fun c6 => ?_)
      · have hf := g_ip c6 hf
        exact s_Q_leaf_J134 C hWd htr hW hg hD0 ha0  X2 _ _ _ _ _ ⟨by omega, by omega⟩ hP hS (lv_sub hl [] rfl) hf
      · have hf := g_in c6 hf
        refine lv_aload_n hx hb dL_leaf_119 rfl (lv_at hl 1 rfl) ?_
        refine lv_iload_n hx hb dL_leaf_120 rfl (lv_at hl 2 rfl) ?_
        obtain ⟨k10, r8, X7, h9, hf⟩ := b3_in hf
        refine r_callX (nw := []) (rest := []) C hWd.1 hWd.2.1 hWd.2.2.1 hP hS hl.1 rfl (gCX_A (s_P_dates htr hW hD0 ha0 hg h9)) True.intro ix_X9_dates iv_X9_dates ls_L_90 ⟨rfl, rfl, Nat.le_of_ble_eq_true rfl, Nat.le_of_ble_eq_true rfl⟩ ha0 (ct_0 _ _ _ _) rfl rfl rfl rfl (Nat.le_of_ble_eq_true rfl) ⟨by show _ ≤ (7 : Nat); omega, by show _ ≤ (42 : Nat); omega⟩ dL_leaf_121 (fun hk0 C H locs hP hS => ?_) (fun hk0 ce q9 H locs hP hS hce hcv hcl => ?_)
        · subst hk0
          have hf := g_ip rfl hf
          rw [List.append_nil] at C hP
          show W p l e rm_Q_leaf s m _ below meth c H locs _ _ _ (F0 m 124 ls [.int r8])
          refine lv_sipush (v := 4095) hx hb dL_leaf_124 (by decide) ?_
          refine lv_icmp_gt (tgt := 134) hx hb dL_leaf_127 (by decide) (fun c11 => ?_) (fun c11 => ?_)
          · have hf := g_ip c11 hf
            exact s_Q_leaf_J134 C hWd htr hW hg hD0 ha0  X7 _ _ _ _ _ ⟨by omega, by omega⟩ hP hS (lv_sub hl [] rfl) hf
          · have hf := g_in c11 hf
            refine lv_iconst (v := 1) hx hb dL_leaf_130 (by decide) ?_
            refine lv_goto (tgt := 135) hx hb dL_leaf_131 (by decide) ?_
            exact s_Q_leaf_J135 C hWd htr hW hg hD0 ha0 _ X7 _ _ _ _ _ ⟨by omega, by omega⟩ hP hS (lv_sub hl [] rfl) hf
        · have hf := g_in hk0 hf
          cases hf
    · have hf := g_in hk0 hf
      cases hf

set_option maxRecDepth 100000 in
set_option maxHeartbeats 4000000 in
theorem s_Q_leaf_J103 {p : Program} {l : Launch} {e : Env} {s : State} {m : MethodId} {args : Array Value} {below : List Frame} {meth : Method} {c : Code} {D : va_G} {cA : Nat → ClassId} {ad : Nat → Nat → Nat} {NL : List (Nat × Nat)} {A : Nat → Prop} {rr : Int32} {XX : gM} {N : Nat} (C : gCx p c meth m s args cL_leaf 9 (some .boolean) RL D cA ad NL A) (hWd : gWd A s) (htr : l.stackTraces = false) (hW : gWf NL) (hg : ∀ n ∈ NL, n.1 < 43) (hD0 : gD (fun _ => True) ad NL) (ha0 : (0, 0) ∈ NL) : ∀ (p1 : Int32) (X : gM) (H : Heap) (locs : List Loc) (ls : Array Slot) (cells slots : Nat), cells + 2 ≤ 7 ∧ slots + 12 ≤ 42 → gH D cA ad NL X H → va_S A s.heap H locs → lv_has ls 9 [(0, .ref (ad 0 0)), (1, .int p1)] → Q_leaf_J103 (gal NL) N p1 X = some (rr, XX) → W p l e rm_Q_leaf s m args below meth c H locs cells slots (MQ below (gQ D cA ad NL (some (.int rr)) XX A) args s 7 42 A) (F0 m 103 ls []) := by
  have hx := C.1
  have hb := C.2.1
  intro p1 X H locs ls cells slots hc hP hS hl hf
  rw [Q_leaf_J103] at hf
  refine lv_iconst (v := 0) hx hb dL_leaf_103 (by decide) ?_
  exact s_Q_leaf_J104 C hWd htr hW hg hD0 ha0 _ _ X _ _ _ _ _ ⟨by omega, by omega⟩ hP hS (lv_sub hl [0, 1] rfl) hf

set_option maxRecDepth 100000 in
set_option maxHeartbeats 4000000 in
theorem s_Q_leaf_J82 {p : Program} {l : Launch} {e : Env} {s : State} {m : MethodId} {args : Array Value} {below : List Frame} {meth : Method} {c : Code} {D : va_G} {cA : Nat → ClassId} {ad : Nat → Nat → Nat} {NL : List (Nat × Nat)} {A : Nat → Prop} {rr : Int32} {XX : gM} {N : Nat} (C : gCx p c meth m s args cL_leaf 9 (some .boolean) RL D cA ad NL A) (hWd : gWd A s) (htr : l.stackTraces = false) (hW : gWf NL) (hg : ∀ n ∈ NL, n.1 < 43) (hD0 : gD (fun _ => True) ad NL) (ha0 : (0, 0) ∈ NL) : ∀ (p1 : Int32) (p6 : Int32) (X : gM) (H : Heap) (locs : List Loc) (ls : Array Slot) (cells slots : Nat), cells + 3 ≤ 7 ∧ slots + 18 ≤ 42 → gH D cA ad NL X H → va_S A s.heap H locs → lv_has ls 9 [(0, .ref (ad 0 0)), (1, .int p1), (6, .int p6)] → Q_leaf_J82 (gal NL) N p1 p6 X = some (rr, XX) → W p l e rm_Q_leaf s m args below meth c H locs cells slots (MQ below (gQ D cA ad NL (some (.int rr)) XX A) args s 7 42 A) (F0 m 82 ls []) := by
  have hx := C.1
  have hb := C.2.1
  intro p1 p6 X H locs ls cells slots hc hP hS hl hf
  rw [Q_leaf_J82] at hf
  refine lv_iload hx hb dL_leaf_82 (lv_at hl 2 rfl) ?_
  refine lv_iload_n hx hb dL_leaf_84 rfl (lv_at hl 1 rfl) ?_
  refine lv_icmp_gt (tgt := 103) hx hb dL_leaf_85 (by decide) (fun c1 => ?_) (fun c1 => ?_)
  · have hf := g_ip c1 hf
    exact s_Q_leaf_J103 C hWd htr hW hg hD0 ha0 _ X _ _ _ _ _ ⟨by omega, by omega⟩ hP hS (lv_sub hl [0, 1] rfl) hf
  · have hf := g_in c1 hf
    refine lv_aload_n hx hb dL_leaf_88 rfl (lv_at hl 0 rfl) ?_
    refine lv_iload hx hb dL_leaf_89 (lv_at hl 2 rfl) ?_
    obtain ⟨k5, r3, X2, h4, hf⟩ := b3_in hf
    refine r_callX (nw := []) (rest := []) C hWd.1 hWd.2.1 hWd.2.2.1 hP hS hl.1 rfl (gCX_A (s_P_handOf htr hW hD0 ha0 hg h4)) True.intro ix_X9_handOf iv_X9_handOf ls_L_87 ⟨rfl, rfl, Nat.le_of_ble_eq_true rfl, Nat.le_of_ble_eq_true rfl⟩ ha0 (ct_0 _ _ _ _) rfl rfl rfl rfl (Nat.le_of_ble_eq_true rfl) ⟨by show _ ≤ (7 : Nat); omega, by show _ ≤ (42 : Nat); omega⟩ dL_leaf_91 (fun hk0 C H locs hP hS => ?_) (fun hk0 ce q9 H locs hP hS hce hcv hcl => ?_)
    · subst hk0
      have hf := g_ip rfl hf
      rw [List.append_nil] at C hP
      show W p l e rm_Q_leaf s m _ below meth c H locs _ _ _ (F0 m 94 ls [.int r3])
      refine lv_iload hx hb dL_leaf_94 (lv_at hl 2 rfl) ?_
      refine lv_icmp_ne (tgt := 103) hx hb dL_leaf_96 (by decide) (fun c6 => ?_) (fun c6 => ?_)
      · have hf := g_in c6 hf
        exact s_Q_leaf_J103 C hWd htr hW hg hD0 ha0 _ X2 _ _ _ _ _ ⟨by omega, by omega⟩ hP hS (lv_sub hl [0, 1] rfl) hf
      · have hf := g_ip c6 hf
        refine lv_iconst (v := 1) hx hb dL_leaf_99 (by decide) ?_
        refine lv_goto (tgt := 104) hx hb dL_leaf_100 (by decide) ?_
        exact s_Q_leaf_J104 C hWd htr hW hg hD0 ha0 _ _ X2 _ _ _ _ _ ⟨by omega, by omega⟩ hP hS (lv_sub hl [0, 1] rfl) hf
    · have hf := g_in hk0 hf
      cases hf

set_option maxRecDepth 100000 in
set_option maxHeartbeats 4000000 in
theorem s_Q_leaf_J46 {p : Program} {l : Launch} {e : Env} {s : State} {m : MethodId} {args : Array Value} {below : List Frame} {meth : Method} {c : Code} {D : va_G} {cA : Nat → ClassId} {ad : Nat → Nat → Nat} {NL : List (Nat × Nat)} {A : Nat → Prop} {rr : Int32} {XX : gM} {N : Nat} (C : gCx p c meth m s args cL_leaf 9 (some .boolean) RL D cA ad NL A) (hWd : gWd A s) (htr : l.stackTraces = false) (hW : gWf NL) (hg : ∀ n ∈ NL, n.1 < 43) (hD0 : gD (fun _ => True) ad NL) (ha0 : (0, 0) ∈ NL) : ∀ (p1 : Int32) (p2 : Int32) (p3 : Int32) (p4 : Int32) (p5 : Int32) (p6 : Int32) (s0 : Int32) (X : gM) (H : Heap) (locs : List Loc) (ls : Array Slot) (cells slots : Nat), cells + 3 ≤ 7 ∧ slots + 18 ≤ 42 → gH D cA ad NL X H → va_S A s.heap H locs → lv_has ls 9 [(0, .ref (ad 0 0)), (1, .int p1), (2, .int p2), (3, .int p3), (4, .int p4), (5, .int p5), (6, .int p6)] → Q_leaf_J46 (gal NL) N p1 p2 p3 p4 p5 p6 s0 X = some (rr, XX) → W p l e rm_Q_leaf s m args below meth c H locs cells slots (MQ below (gQ D cA ad NL (some (.int rr)) XX A) args s 7 42 A) (F0 m 46 ls [.int s0]) := by
  have hx := C.1
  have hb := C.2.1
  intro p1 p2 p3 p4 p5 p6 s0 X H locs ls cells slots hc hP hS hl hf
  rw [Q_leaf_J46] at hf
  refine lv_istore (i := 7) (lv' := [(7, .int s0), (0, .ref (ad 0 0)), (1, .int p1), (2, .int p2), (3, .int p3), (4, .int p4), (5, .int p5), (6, .int p6)]) hx hb dL_leaf_46 hl (Nat.le_of_ble_eq_true rfl) rfl (fun ls hl => ?_)
  refine lv_iload hx hb dL_leaf_48 (lv_at hl 5 rfl) ?_
  refine lv_iload_n hx hb dL_leaf_50 rfl (lv_at hl 4 rfl) ?_
  refine lv_iconst (v := -1) hx hb dL_leaf_51 (by decide) ?_
  refine lv_ixor hx hb dL_leaf_52 ?_
  refine lv_iand hx hb dL_leaf_53 ?_
  refine lv_if_ne (tgt := 103) hx hb dL_leaf_54 (by decide) (fun c1 => ?_) (fun c1 => ?_)
  · have hf := g_in c1 hf
    exact s_Q_leaf_J103 C hWd htr hW hg hD0 ha0 _ X _ _ _ _ _ ⟨by omega, by omega⟩ hP hS (lv_sub hl [1, 2] rfl) hf
  · have hf := g_ip c1 hf
    refine lv_iload_n hx hb dL_leaf_57 rfl (lv_at hl 4 rfl) ?_
    refine lv_sipush (v := 256) hx hb dL_leaf_58 (by decide) ?_
    refine lv_icmp_ge (tgt := 103) hx hb dL_leaf_61 (by decide) (fun c2 => ?_) (fun c2 => ?_)
    · have hf := g_ip c2 hf
      exact s_Q_leaf_J103 C hWd htr hW hg hD0 ha0 _ X _ _ _ _ _ ⟨by omega, by omega⟩ hP hS (lv_sub hl [1, 2] rfl) hf
    · have hf := g_in c2 hf
      refine lv_iload hx hb dL_leaf_64 (lv_at hl 6 rfl) ?_
      refine lv_iconst (v := 1) hx hb dL_leaf_66 (by decide) ?_
      refine lv_iload_n hx hb dL_leaf_67 rfl (lv_at hl 3 rfl) ?_
      refine lv_ishl hx hb dL_leaf_68 ?_
      refine lv_icmp_ge (tgt := 103) hx hb dL_leaf_69 (by decide) (fun c3 => ?_) (fun c3 => ?_)
      · have hf := g_ip c3 hf
        exact s_Q_leaf_J103 C hWd htr hW hg hD0 ha0 _ X _ _ _ _ _ ⟨by omega, by omega⟩ hP hS (lv_sub hl [1, 2] rfl) hf
      · have hf := g_in c3 hf
        refine lv_iload hx hb dL_leaf_72 (lv_at hl 0 rfl) ?_
        refine lv_if_ne (tgt := 82) hx hb dL_leaf_74 (by decide) (fun c4 => ?_) (fun c4 => ?_)
        · have hf := g_in c4 hf
          exact s_Q_leaf_J82 C hWd htr hW hg hD0 ha0 _ _ X _ _ _ _ _ ⟨by omega, by omega⟩ hP hS (lv_sub hl [1, 2, 7] rfl) hf
        · have hf := g_ip c4 hf
          refine lv_iload hx hb dL_leaf_77 (lv_at hl 6 rfl) ?_
          refine lv_if_ne (tgt := 103) hx hb dL_leaf_79 (by decide) (fun c5 => ?_) (fun c5 => ?_)
          · have hf := g_in c5 hf
            exact s_Q_leaf_J103 C hWd htr hW hg hD0 ha0 _ X _ _ _ _ _ ⟨by omega, by omega⟩ hP hS (lv_sub hl [1, 2] rfl) hf
          · have hf := g_ip c5 hf
            exact s_Q_leaf_J82 C hWd htr hW hg hD0 ha0 _ _ X _ _ _ _ _ ⟨by omega, by omega⟩ hP hS (lv_sub hl [1, 2, 7] rfl) hf

set_option maxRecDepth 100000 in
set_option maxHeartbeats 4000000 in
theorem s_Q_leaf_J45 {p : Program} {l : Launch} {e : Env} {s : State} {m : MethodId} {args : Array Value} {below : List Frame} {meth : Method} {c : Code} {D : va_G} {cA : Nat → ClassId} {ad : Nat → Nat → Nat} {NL : List (Nat × Nat)} {A : Nat → Prop} {rr : Int32} {XX : gM} {N : Nat} (C : gCx p c meth m s args cL_leaf 9 (some .boolean) RL D cA ad NL A) (hWd : gWd A s) (htr : l.stackTraces = false) (hW : gWf NL) (hg : ∀ n ∈ NL, n.1 < 43) (hD0 : gD (fun _ => True) ad NL) (ha0 : (0, 0) ∈ NL) : ∀ (p1 : Int32) (p2 : Int32) (p3 : Int32) (p4 : Int32) (p5 : Int32) (p6 : Int32) (X : gM) (H : Heap) (locs : List Loc) (ls : Array Slot) (cells slots : Nat), cells + 3 ≤ 7 ∧ slots + 18 ≤ 42 → gH D cA ad NL X H → va_S A s.heap H locs → lv_has ls 9 [(0, .ref (ad 0 0)), (1, .int p1), (2, .int p2), (3, .int p3), (4, .int p4), (5, .int p5), (6, .int p6)] → Q_leaf_J45 (gal NL) N p1 p2 p3 p4 p5 p6 X = some (rr, XX) → W p l e rm_Q_leaf s m args below meth c H locs cells slots (MQ below (gQ D cA ad NL (some (.int rr)) XX A) args s 7 42 A) (F0 m 45 ls []) := by
  have hx := C.1
  have hb := C.2.1
  intro p1 p2 p3 p4 p5 p6 X H locs ls cells slots hc hP hS hl hf
  rw [Q_leaf_J45] at hf
  refine lv_iconst (v := 0) hx hb dL_leaf_45 (by decide) ?_
  exact s_Q_leaf_J46 C hWd htr hW hg hD0 ha0 _ _ _ _ _ _ _ X _ _ _ _ _ ⟨by omega, by omega⟩ hP hS (lv_sub hl [0, 1, 2, 3, 4, 5, 6] rfl) hf

set_option maxRecDepth 100000 in
set_option maxHeartbeats 4000000 in
theorem s_Q_leaf {l : Launch} {D : va_G} {cA : Nat → ClassId} {ad : Nat → Nat → Nat} {NL : List (Nat × Nat)} {N sz : Nat} {p1 : Int32} {p2 : Int32} {X : gM} {rr : Int32} {XX : gM} (htr : l.stackTraces = false) (hW : gWf NL) (hD0 : gD (fun _ => True) ad NL) (ha0 : (0, 0) ∈ NL) (hg : ∀ n ∈ NL, n.1 < 43) (hf : Q_leaf (gal NL) N p1 p2 X = some (rr, XX)) : gCM l yL_leaf cL_leaf 9 (some .boolean) rm_Q_leaf 7 42 D cA ad NL [.ref (ad 0 0), .int p1, .int p2] X rr XX sz := by
  refine g_ofM (by decide) rfl hD0 (Nat.le_of_ble_eq_true rfl) rfl (fun p e s m below meth c ls hsz C hWd hP hS hl => ?_)
  have hx := C.1
  have hb := C.2.1
  rw [Q_leaf] at hf
  have hl := lv_sub hl [0, 1, 2] rfl
  refine lv_aload_n hx hb dL_leaf_0 rfl (lv_at hl 0 rfl) ?_
  refine lv_iload_n hx hb dL_leaf_1 rfl (lv_at hl 1 rfl) ?_
  refine lv_iconst (v := 0) hx hb dL_leaf_2 (by decide) ?_
  obtain ⟨k4, r2, X1, h3, hf⟩ := b3_in hf
  refine r_callX (nw := []) (rest := []) C hWd.1 hWd.2.1 hWd.2.2.1 hP hS hl.1 rfl (gCX_A (s_P_places htr hW hD0 ha0 hg h3)) True.intro ix_X9_places iv_X9_places ls_L_80 ⟨rfl, rfl, Nat.le_of_ble_eq_true rfl, Nat.le_of_ble_eq_true rfl⟩ ha0 (ct_0 _ _ _ _) rfl rfl rfl rfl (Nat.le_of_ble_eq_true rfl) ⟨by show _ ≤ (7 : Nat); omega, by show _ ≤ (42 : Nat); omega⟩ dL_leaf_3 (fun hk0 C H locs hP hS => ?_) (fun hk0 ce q9 H locs hP hS hce hcv hcl => ?_)
  · subst hk0
    have hf := g_ip rfl hf
    rw [List.append_nil] at C hP
    show W p l e rm_Q_leaf s m _ below meth c H locs _ _ _ (F0 m 6 ls [.int r2])
    refine lv_istore_n (i := 3) (lv' := [(3, .int r2), (0, .ref (ad 0 0)), (1, .int p1), (2, .int p2)]) hx hb dL_leaf_6 rfl hl (Nat.le_of_ble_eq_true rfl) rfl (fun ls hl => ?_)
    refine lv_aload_n hx hb dL_leaf_7 rfl (lv_at hl 1 rfl) ?_
    refine lv_iload_n hx hb dL_leaf_8 rfl (lv_at hl 2 rfl) ?_
    refine lv_iconst (v := 1) hx hb dL_leaf_9 (by decide) ?_
    obtain ⟨k8, r6, X5, h7, hf⟩ := b3_in hf
    refine r_callX (nw := []) (rest := []) C hWd.1 hWd.2.1 hWd.2.2.1 hP hS hl.1 rfl (gCX_A (s_P_places htr hW hD0 ha0 hg h7)) True.intro ix_X9_places iv_X9_places ls_L_80 ⟨rfl, rfl, Nat.le_of_ble_eq_true rfl, Nat.le_of_ble_eq_true rfl⟩ ha0 (ct_0 _ _ _ _) rfl rfl rfl rfl (Nat.le_of_ble_eq_true rfl) ⟨by show _ ≤ (7 : Nat); omega, by show _ ≤ (42 : Nat); omega⟩ dL_leaf_10 (fun hk0 C H locs hP hS => ?_) (fun hk0 ce q9 H locs hP hS hce hcv hcl => ?_)
    · subst hk0
      have hf := g_ip rfl hf
      rw [List.append_nil] at C hP
      show W p l e rm_Q_leaf s m _ below meth c H locs _ _ _ (F0 m 13 ls [.int r6])
      refine lv_istore (i := 4) (lv' := [(4, .int r6), (3, .int r2), (0, .ref (ad 0 0)), (1, .int p1), (2, .int p2)]) hx hb dL_leaf_13 hl (Nat.le_of_ble_eq_true rfl) rfl (fun ls hl => ?_)
      refine lv_aload_n hx hb dL_leaf_15 rfl (lv_at hl 2 rfl) ?_
      refine lv_iload_n hx hb dL_leaf_16 rfl (lv_at hl 3 rfl) ?_
      obtain ⟨k12, r10, X9, h11, hf⟩ := b3_in hf
      refine r_callX (nw := []) (rest := []) C hWd.1 hWd.2.1 hWd.2.2.1 hP hS hl.1 rfl (gCX_A (s_P_rests htr hW hD0 ha0 hg h11)) True.intro ix_X9_rests iv_X9_rests ls_L_84 ⟨rfl, rfl, Nat.le_of_ble_eq_true rfl, Nat.le_of_ble_eq_true rfl⟩ ha0 (ct_0 _ _ _ _) rfl rfl rfl rfl (Nat.le_of_ble_eq_true rfl) ⟨by show _ ≤ (7 : Nat); omega, by show _ ≤ (42 : Nat); omega⟩ dL_leaf_17 (fun hk0 C H locs hP hS => ?_) (fun hk0 ce q9 H locs hP hS hce hcv hcl => ?_)
      · subst hk0
        have hf := g_ip rfl hf
        rw [List.append_nil] at C hP
        show W p l e rm_Q_leaf s m _ below meth c H locs _ _ _ (F0 m 20 ls [.int r10])
        refine lv_istore (i := 5) (lv' := [(5, .int r10), (4, .int r6), (3, .int r2), (0, .ref (ad 0 0)), (1, .int p1), (2, .int p2)]) hx hb dL_leaf_20 hl (Nat.le_of_ble_eq_true rfl) rfl (fun ls hl => ?_)
        refine lv_aload_n hx hb dL_leaf_22 rfl (lv_at hl 3 rfl) ?_
        refine lv_iload_n hx hb dL_leaf_23 rfl (lv_at hl 4 rfl) ?_
        obtain ⟨k16, r14, X13, h15, hf⟩ := b3_in hf
        refine r_callX (nw := []) (rest := []) C hWd.1 hWd.2.1 hWd.2.2.1 hP hS hl.1 rfl (gCX_A (s_P_handOf htr hW hD0 ha0 hg h15)) True.intro ix_X9_handOf iv_X9_handOf ls_L_87 ⟨rfl, rfl, Nat.le_of_ble_eq_true rfl, Nat.le_of_ble_eq_true rfl⟩ ha0 (ct_0 _ _ _ _) rfl rfl rfl rfl (Nat.le_of_ble_eq_true rfl) ⟨by show _ ≤ (7 : Nat); omega, by show _ ≤ (42 : Nat); omega⟩ dL_leaf_24 (fun hk0 C H locs hP hS => ?_) (fun hk0 ce q9 H locs hP hS hce hcv hcl => ?_)
        · subst hk0
          have hf := g_ip rfl hf
          rw [List.append_nil] at C hP
          show W p l e rm_Q_leaf s m _ below meth c H locs _ _ _ (F0 m 27 ls [.int r14])
          refine lv_istore (i := 6) (lv' := [(6, .int r14), (5, .int r10), (4, .int r6), (3, .int r2), (0, .ref (ad 0 0)), (1, .int p1), (2, .int p2)]) hx hb dL_leaf_27 hl (Nat.le_of_ble_eq_true rfl) rfl (fun ls hl => ?_)
          refine lv_iload_n hx hb dL_leaf_29 rfl (lv_at hl 3 rfl) ?_
          refine lv_if_eq (tgt := 45) hx hb dL_leaf_30 (by decide) (fun c17 => ?_) (fun c17 => ?_)
          · have hf := g_ip c17 hf
            exact s_Q_leaf_J45 C hWd htr hW hg hD0 ha0 _ _ _ _ _ _ X13 _ _ _ _ _ ⟨by omega, by omega⟩ hP hS (lv_sub hl [4, 5, 6, 3, 2, 1, 0] rfl) hf
          · have hf := g_in c17 hf
            refine lv_iload_n hx hb dL_leaf_33 rfl (lv_at hl 3 rfl) ?_
            refine lv_iload_n hx hb dL_leaf_34 rfl (lv_at hl 3 rfl) ?_
            refine lv_iconst (v := 1) hx hb dL_leaf_35 (by decide) ?_
            refine lv_isub hx hb dL_leaf_36 ?_
            refine lv_iand hx hb dL_leaf_37 ?_
            refine lv_if_ne (tgt := 45) hx hb dL_leaf_38 (by decide) (fun c18 => ?_) (fun c18 => ?_)
            · have hf := g_in c18 hf
              exact s_Q_leaf_J45 C hWd htr hW hg hD0 ha0 _ _ _ _ _ _ X13 _ _ _ _ _ ⟨by omega, by omega⟩ hP hS (lv_sub hl [4, 5, 6, 3, 2, 1, 0] rfl) hf
            · have hf := g_ip c18 hf
              refine lv_iconst (v := 1) hx hb dL_leaf_41 (by decide) ?_
              refine lv_goto (tgt := 46) hx hb dL_leaf_42 (by decide) ?_
              exact s_Q_leaf_J46 C hWd htr hW hg hD0 ha0 _ _ _ _ _ _ _ X13 _ _ _ _ _ ⟨by omega, by omega⟩ hP hS (lv_sub hl [4, 5, 6, 3, 2, 1, 0] rfl) hf
        · have hf := g_in hk0 hf
          cases hf
      · have hf := g_in hk0 hf
        cases hf
    · have hf := g_in hk0 hf
      cases hf
  · have hf := g_in hk0 hf
    cases hf

def rm_Q_line : Room := { frames := 8, cells := 14, slots := 84, locals := 138 }
set_option maxRecDepth 100000 in
set_option maxHeartbeats 4000000 in
theorem s_Q_line_J312 {p : Program} {l : Launch} {e : Env} {s : State} {m : MethodId} {args : Array Value} {below : List Frame} {meth : Method} {c : Code} {D : va_G} {cA : Nat → ClassId} {ad : Nat → Nat → Nat} {NL : List (Nat × Nat)} {A : Nat → Prop} {rr : Int32} {XX : gM} {N : Nat} (C : gCx p c meth m s args cL_line 11 (some .boolean) RL D cA ad NL A) (hWd : gWd A s) (htr : l.stackTraces = false) (hW : gWf NL) (hg : ∀ n ∈ NL, n.1 < 43) (hD0 : gD (fun _ => True) ad NL) (ha0 : (0, 0) ∈ NL) : ∀ (p6 : Int32) (X : gM) (H : Heap) (locs : List Loc) (ls : Array Slot) (cells slots : Nat), cells + 0 ≤ 14 ∧ slots + 0 ≤ 84 → gH D cA ad NL X H → va_S A s.heap H locs → lv_has ls 11 [(6, .int p6)] → Q_line_J312 (gal NL) N p6 X = some (rr, XX) → W p l e rm_Q_line s m args below meth c H locs cells slots (MQ below (gQ D cA ad NL (some (.int rr)) XX A) args s 14 84 A) (F0 m 312 ls []) := by
  have hx := C.1
  have hb := C.2.1
  intro p6 X H locs ls cells slots hc hP hS hl hf
  rw [Q_line_J312] at hf
  refine lv_iload hx hb dL_line_312 (lv_at hl 0 rfl) ?_
  obtain ⟨h1, hf⟩ := bz_in hf
  obtain ⟨rfl, rfl⟩ := g_s1 hf
  refine W.widen (k := 14) (n := 84) (by omega) (by omega) ?_
  exact r_zret C hP hS h1 dL_line_314

set_option maxRecDepth 100000 in
set_option maxHeartbeats 4000000 in
theorem s_Q_line_J310 {p : Program} {l : Launch} {e : Env} {s : State} {m : MethodId} {args : Array Value} {below : List Frame} {meth : Method} {c : Code} {D : va_G} {cA : Nat → ClassId} {ad : Nat → Nat → Nat} {NL : List (Nat × Nat)} {A : Nat → Prop} {rr : Int32} {XX : gM} {N : Nat} (C : gCx p c meth m s args cL_line 11 (some .boolean) RL D cA ad NL A) (hWd : gWd A s) (htr : l.stackTraces = false) (hW : gWf NL) (hg : ∀ n ∈ NL, n.1 < 43) (hD0 : gD (fun _ => True) ad NL) (ha0 : (0, 0) ∈ NL) : ∀ (s0 : Int32) (X : gM) (H : Heap) (locs : List Loc) (ls : Array Slot) (cells slots : Nat), cells + 0 ≤ 14 ∧ slots + 0 ≤ 84 → gH D cA ad NL X H → va_S A s.heap H locs → lv_has ls 11 [] → Q_line_J310 (gal NL) N s0 X = some (rr, XX) → W p l e rm_Q_line s m args below meth c H locs cells slots (MQ below (gQ D cA ad NL (some (.int rr)) XX A) args s 14 84 A) (F0 m 310 ls [.int s0]) := by
  have hx := C.1
  have hb := C.2.1
  intro s0 X H locs ls cells slots hc hP hS hl hf
  rw [Q_line_J310] at hf
  refine lv_istore (i := 6) (lv' := [(6, .int s0)]) hx hb dL_line_310 hl (Nat.le_of_ble_eq_true rfl) rfl (fun ls hl => ?_)
  exact s_Q_line_J312 C hWd htr hW hg hD0 ha0 _ X _ _ _ _ _ ⟨by omega, by omega⟩ hP hS (lv_sub hl [0] rfl) hf

set_option maxRecDepth 100000 in
set_option maxHeartbeats 4000000 in
theorem s_Q_line_J277 {p : Program} {l : Launch} {e : Env} {s : State} {m : MethodId} {args : Array Value} {below : List Frame} {meth : Method} {c : Code} {D : va_G} {cA : Nat → ClassId} {ad : Nat → Nat → Nat} {NL : List (Nat × Nat)} {A : Nat → Prop} {rr : Int32} {XX : gM} {N : Nat} (C : gCx p c meth m s args cL_line 11 (some .boolean) RL D cA ad NL A) (hWd : gWd A s) (htr : l.stackTraces = false) (hW : gWf NL) (hg : ∀ n ∈ NL, n.1 < 43) (hD0 : gD (fun _ => True) ad NL) (ha0 : (0, 0) ∈ NL) : ∀ (X : gM) (H : Heap) (locs : List Loc) (ls : Array Slot) (cells slots : Nat), cells + 0 ≤ 14 ∧ slots + 0 ≤ 84 → gH D cA ad NL X H → va_S A s.heap H locs → lv_has ls 11 [] → Q_line_J277 (gal NL) N  X = some (rr, XX) → W p l e rm_Q_line s m args below meth c H locs cells slots (MQ below (gQ D cA ad NL (some (.int rr)) XX A) args s 14 84 A) (F0 m 277 ls []) := by
  have hx := C.1
  have hb := C.2.1
  intro  X H locs ls cells slots hc hP hS hl hf
  rw [Q_line_J277] at hf
  refine lv_iconst (v := 0) hx hb dL_line_277 (by decide) ?_
  refine lv_goto (tgt := 310) hx hb dL_line_278 (by decide) ?_
  exact s_Q_line_J310 C hWd htr hW hg hD0 ha0 _ X _ _ _ _ _ ⟨by omega, by omega⟩ hP hS (lv_sub hl [] rfl) hf

set_option maxRecDepth 100000 in
set_option maxHeartbeats 4000000 in
theorem s_Q_line_J309 {p : Program} {l : Launch} {e : Env} {s : State} {m : MethodId} {args : Array Value} {below : List Frame} {meth : Method} {c : Code} {D : va_G} {cA : Nat → ClassId} {ad : Nat → Nat → Nat} {NL : List (Nat × Nat)} {A : Nat → Prop} {rr : Int32} {XX : gM} {N : Nat} (C : gCx p c meth m s args cL_line 11 (some .boolean) RL D cA ad NL A) (hWd : gWd A s) (htr : l.stackTraces = false) (hW : gWf NL) (hg : ∀ n ∈ NL, n.1 < 43) (hD0 : gD (fun _ => True) ad NL) (ha0 : (0, 0) ∈ NL) : ∀ (X : gM) (H : Heap) (locs : List Loc) (ls : Array Slot) (cells slots : Nat), cells + 0 ≤ 14 ∧ slots + 0 ≤ 84 → gH D cA ad NL X H → va_S A s.heap H locs → lv_has ls 11 [] → Q_line_J309 (gal NL) N  X = some (rr, XX) → W p l e rm_Q_line s m args below meth c H locs cells slots (MQ below (gQ D cA ad NL (some (.int rr)) XX A) args s 14 84 A) (F0 m 309 ls []) := by
  have hx := C.1
  have hb := C.2.1
  intro  X H locs ls cells slots hc hP hS hl hf
  rw [Q_line_J309] at hf
  refine lv_iconst (v := 0) hx hb dL_line_309 (by decide) ?_
  exact s_Q_line_J310 C hWd htr hW hg hD0 ha0 _ X _ _ _ _ _ ⟨by omega, by omega⟩ hP hS (lv_sub hl [] rfl) hf

set_option maxRecDepth 100000 in
set_option maxHeartbeats 4000000 in
theorem s_Q_line_J221 {p : Program} {l : Launch} {e : Env} {s : State} {m : MethodId} {args : Array Value} {below : List Frame} {meth : Method} {c : Code} {D : va_G} {cA : Nat → ClassId} {ad : Nat → Nat → Nat} {NL : List (Nat × Nat)} {A : Nat → Prop} {rr : Int32} {XX : gM} {N : Nat} (C : gCx p c meth m s args cL_line 11 (some .boolean) RL D cA ad NL A) (hWd : gWd A s) (htr : l.stackTraces = false) (hW : gWf NL) (hg : ∀ n ∈ NL, n.1 < 43) (hD0 : gD (fun _ => True) ad NL) (ha0 : (0, 0) ∈ NL) : ∀ (p1 : Int32) (p2 : Int32) (p3 : Int32) (p4 : Int32) (p6 : Int32) (X : gM) (H : Heap) (locs : List Loc) (ls : Array Slot) (cells slots : Nat), cells + 2 ≤ 14 ∧ slots + 12 ≤ 84 → gH D cA ad NL X H → va_S A s.heap H locs → lv_has ls 11 [(0, .ref (ad 0 0)), (1, .int p1), (2, .int p2), (3, .int p3), (4, .int p4), (6, .int p6)] → Q_line_J221 (gal NL) N p1 p2 p3 p4 p6 X = some (rr, XX) → W p l e rm_Q_line s m args below meth c H locs cells slots (MQ below (gQ D cA ad NL (some (.int rr)) XX A) args s 14 84 A) (F0 m 221 ls []) := by
  have hx := C.1
  have hb := C.2.1
  intro p1 p2 p3 p4 p6 X H locs ls cells slots hc hP hS hl hf
  rw [Q_line_J221] at hf
  refine lv_iload hx hb dL_line_221 (lv_at hl 5 rfl) ?_
  refine lv_if_eq (tgt := 312) hx hb dL_line_223 (by decide) (fun c1 => ?_) (fun c1 => ?_)
  · have hf := g_ip c1 hf
    exact s_Q_line_J312 C hWd htr hW hg hD0 ha0 _ X _ _ _ _ _ ⟨by omega, by omega⟩ hP hS (lv_sub hl [5] rfl) hf
  · have hf := g_in c1 hf
    refine lv_iload_n hx hb dL_line_226 rfl (lv_at hl 3 rfl) ?_
    refine lv_if_le (tgt := 312) hx hb dL_line_227 (by decide) (fun c2 => ?_) (fun c2 => ?_)
    · have hf := g_ip c2 hf
      exact s_Q_line_J312 C hWd htr hW hg hD0 ha0 _ X _ _ _ _ _ ⟨by omega, by omega⟩ hP hS (lv_sub hl [5] rfl) hf
    · have hf := g_in c2 hf
      refine lv_aload_n hx hb dL_line_230 rfl (lv_at hl 0 rfl) ?_
      refine lv_iload_n hx hb dL_line_231 rfl (lv_at hl 3 rfl) ?_
      refine lv_iconst (v := 1) hx hb dL_line_232 (by decide) ?_
      refine lv_isub hx hb dL_line_233 ?_
      refine lv_iload_n hx hb dL_line_234 rfl (lv_at hl 1 rfl) ?_
      refine lv_iconst (v := 0) hx hb dL_line_235 (by decide) ?_
      refine lv_iload_n hx hb dL_line_236 rfl (lv_at hl 2 rfl) ?_
      refine lv_iconst (v := 0) hx hb dL_line_237 (by decide) ?_
      obtain ⟨k6, r4, X3, h5, hf⟩ := b3_in hf
      refine r_callX (nw := []) (rest := []) C hWd.1 hWd.2.1 hWd.2.2.1 hP hS hl.1 rfl (gCX_A (s_P_match htr hW hD0 ha0 hg h5)) True.intro ix_X9_match iv_X9_match ls_L_76 ⟨rfl, rfl, Nat.le_of_ble_eq_true rfl, Nat.le_of_ble_eq_true rfl⟩ ha0 (ct_0 _ _ _ _) rfl rfl rfl rfl (Nat.le_of_ble_eq_true rfl) ⟨by show _ ≤ (14 : Nat); omega, by show _ ≤ (84 : Nat); omega⟩ dL_line_238 (fun hk0 C H locs hP hS => ?_) (fun hk0 ce q9 H locs hP hS hce hcv hcl => ?_)
      · subst hk0
        have hf := g_ip rfl hf
        rw [List.append_nil] at C hP
        show W p l e rm_Q_line s m _ below meth c H locs _ _ _ (F0 m 241 ls [.int r4])
        refine lv_istore (i := 9) (lv' := [(9, .int r4), (0, .ref (ad 0 0)), (1, .int p1), (2, .int p2), (3, .int p3), (4, .int p4), (6, .int p6)]) hx hb dL_line_241 hl (Nat.le_of_ble_eq_true rfl) rfl (fun ls hl => ?_)
        refine lv_aload_n hx hb dL_line_243 rfl (lv_at hl 1 rfl) ?_
        refine lv_iload_n hx hb dL_line_244 rfl (lv_at hl 4 rfl) ?_
        refine lv_iconst (v := 1) hx hb dL_line_245 (by decide) ?_
        refine lv_isub hx hb dL_line_246 ?_
        refine lv_iload_n hx hb dL_line_247 rfl (lv_at hl 2 rfl) ?_
        refine lv_iconst (v := 0) hx hb dL_line_248 (by decide) ?_
        refine lv_iload_n hx hb dL_line_249 rfl (lv_at hl 3 rfl) ?_
        refine lv_iconst (v := 1) hx hb dL_line_250 (by decide) ?_
        obtain ⟨k10, r8, X7, h9, hf⟩ := b3_in hf
        refine r_callX (nw := []) (rest := []) C hWd.1 hWd.2.1 hWd.2.2.1 hP hS hl.1 rfl (gCX_A (s_P_match htr hW hD0 ha0 hg h9)) True.intro ix_X9_match iv_X9_match ls_L_76 ⟨rfl, rfl, Nat.le_of_ble_eq_true rfl, Nat.le_of_ble_eq_true rfl⟩ ha0 (ct_0 _ _ _ _) rfl rfl rfl rfl (Nat.le_of_ble_eq_true rfl) ⟨by show _ ≤ (14 : Nat); omega, by show _ ≤ (84 : Nat); omega⟩ dL_line_251 (fun hk0 C H locs hP hS => ?_) (fun hk0 ce q9 H locs hP hS hce hcv hcl => ?_)
        · subst hk0
          have hf := g_ip rfl hf
          rw [List.append_nil] at C hP
          show W p l e rm_Q_line s m _ below meth c H locs _ _ _ (F0 m 254 ls [.int r8])
          refine lv_istore (i := 10) (lv' := [(10, .int r8), (9, .int r4), (0, .ref (ad 0 0)), (1, .int p1), (2, .int p2), (3, .int p3), (4, .int p4), (6, .int p6)]) hx hb dL_line_254 hl (Nat.le_of_ble_eq_true rfl) rfl (fun ls hl => ?_)
          refine lv_iload hx hb dL_line_256 (lv_at hl 6 rfl) ?_
          refine lv_if_ge (tgt := 281) hx hb dL_line_258 (by decide) (fun c11 => ?_) (fun c11 => ?_)
          · have hf := g_ip c11 hf
            refine lv_iload hx hb dL_line_281 (lv_at hl 1 rfl) ?_
            refine lv_if_lt (tgt := 309) hx hb dL_line_283 (by decide) (fun c12 => ?_) (fun c12 => ?_)
            · have hf := g_ip c12 hf
              exact s_Q_line_J309 C hWd htr hW hg hD0 ha0  X7 _ _ _ _ _ ⟨by omega, by omega⟩ hP hS (lv_sub hl [] rfl) hf
            · have hf := g_in c12 hf
              refine lv_iload hx hb dL_line_286 (lv_at hl 1 rfl) ?_
              refine lv_bipush (v := 16) hx hb dL_line_288 (by decide) ?_
              refine lv_icmp_gt (tgt := 309) hx hb dL_line_290 (by decide) (fun c13 => ?_) (fun c13 => ?_)
              · have hf := g_ip c13 hf
                exact s_Q_line_J309 C hWd htr hW hg hD0 ha0  X7 _ _ _ _ _ ⟨by omega, by omega⟩ hP hS (lv_sub hl [] rfl) hf
              · have hf := g_in c13 hf
                refine lv_iload hx hb dL_line_293 (lv_at hl 0 rfl) ?_
                refine lv_if_lt (tgt := 309) hx hb dL_line_295 (by decide) (fun c14 => ?_) (fun c14 => ?_)
                · have hf := g_ip c14 hf
                  exact s_Q_line_J309 C hWd htr hW hg hD0 ha0  X7 _ _ _ _ _ ⟨by omega, by omega⟩ hP hS (lv_sub hl [] rfl) hf
                · have hf := g_in c14 hf
                  refine lv_iload hx hb dL_line_298 (lv_at hl 0 rfl) ?_
                  refine lv_bipush (v := 40) hx hb dL_line_300 (by decide) ?_
                  refine lv_icmp_gt (tgt := 309) hx hb dL_line_302 (by decide) (fun c15 => ?_) (fun c15 => ?_)
                  · have hf := g_ip c15 hf
                    exact s_Q_line_J309 C hWd htr hW hg hD0 ha0  X7 _ _ _ _ _ ⟨by omega, by omega⟩ hP hS (lv_sub hl [] rfl) hf
                  · have hf := g_in c15 hf
                    refine lv_iconst (v := 1) hx hb dL_line_305 (by decide) ?_
                    refine lv_goto (tgt := 310) hx hb dL_line_306 (by decide) ?_
                    exact s_Q_line_J310 C hWd htr hW hg hD0 ha0 _ X7 _ _ _ _ _ ⟨by omega, by omega⟩ hP hS (lv_sub hl [] rfl) hf
          · have hf := g_in c11 hf
            refine lv_iload hx hb dL_line_261 (lv_at hl 1 rfl) ?_
            refine lv_iconst (v := -1) hx hb dL_line_263 (by decide) ?_
            refine lv_icmp_ne (tgt := 277) hx hb dL_line_264 (by decide) (fun c16 => ?_) (fun c16 => ?_)
            · have hf := g_in c16 hf
              exact s_Q_line_J277 C hWd htr hW hg hD0 ha0  X7 _ _ _ _ _ ⟨by omega, by omega⟩ hP hS (lv_sub hl [] rfl) hf
            · have hf := g_ip c16 hf
              refine lv_iload hx hb dL_line_267 (lv_at hl 0 rfl) ?_
              refine lv_iconst (v := -1) hx hb dL_line_269 (by decide) ?_
              refine lv_icmp_ne (tgt := 277) hx hb dL_line_270 (by decide) (fun c17 => ?_) (fun c17 => ?_)
              · have hf := g_in c17 hf
                exact s_Q_line_J277 C hWd htr hW hg hD0 ha0  X7 _ _ _ _ _ ⟨by omega, by omega⟩ hP hS (lv_sub hl [] rfl) hf
              · have hf := g_ip c17 hf
                refine lv_iconst (v := 1) hx hb dL_line_273 (by decide) ?_
                refine lv_goto (tgt := 310) hx hb dL_line_274 (by decide) ?_
                exact s_Q_line_J310 C hWd htr hW hg hD0 ha0 _ X7 _ _ _ _ _ ⟨by omega, by omega⟩ hP hS (lv_sub hl [] rfl) hf
        · have hf := g_in hk0 hf
          cases hf
      · have hf := g_in hk0 hf
        cases hf

set_option maxRecDepth 100000 in
set_option maxHeartbeats 4000000 in
theorem s_Q_line_J203_2 {p : Program} {l : Launch} {e : Env} {s : State} {m : MethodId} {args : Array Value} {below : List Frame} {meth : Method} {c : Code} {D : va_G} {cA : Nat → ClassId} {ad : Nat → Nat → Nat} {NL : List (Nat × Nat)} {A : Nat → Prop} {rr : Int32} {XX : gM} {N : Nat} (C : gCx p c meth m s args cL_line 11 (some .boolean) RL D cA ad NL A) (hWd : gWd A s) (htr : l.stackTraces = false) (hW : gWf NL) (hg : ∀ n ∈ NL, n.1 < 43) (hD0 : gD (fun _ => True) ad NL) (ha0 : (0, 0) ∈ NL) : ∀ (p1 : Int32) (p2 : Int32) (p3 : Int32) (p4 : Int32) (p5 : Int32) (s0 : Int32) (X : gM) (H : Heap) (locs : List Loc) (ls : Array Slot) (cells slots : Nat), cells + 3 ≤ 14 ∧ slots + 18 ≤ 84 → gH D cA ad NL X H → va_S A s.heap H locs → lv_has ls 11 [(0, .ref (ad 0 0)), (1, .int p1), (2, .int p2), (3, .int p3), (4, .int p4), (5, .int p5), (7, .int (2 : Int32))] → Q_line_J203_2 (gal NL) N p1 p2 p3 p4 p5 s0 X = some (rr, XX) → W p l e rm_Q_line s m args below meth c H locs cells slots (MQ below (gQ D cA ad NL (some (.int rr)) XX A) args s 14 84 A) (F0 m 203 ls [.int s0]) := by
  have hx := C.1
  have hb := C.2.1
  intro p1 p2 p3 p4 p5 s0 X H locs ls cells slots hc hP hS hl hf
  rw [Q_line_J203_2] at hf
  refine lv_istore (i := 6) (lv' := [(6, .int s0), (0, .ref (ad 0 0)), (1, .int p1), (2, .int p2), (3, .int p3), (4, .int p4), (5, .int p5), (7, .int (2 : Int32))]) hx hb dL_line_203 hl (Nat.le_of_ble_eq_true rfl) rfl (fun ls hl => ?_)
  refine lv_iinc (v := (3 : Int32)) (lv' := [(7, .int (3 : Int32)), (6, .int s0), (0, .ref (ad 0 0)), (1, .int p1), (2, .int p2), (3, .int p3), (4, .int p4), (5, .int p5)]) hx hb dL_line_205 hl (k := 7) rfl (by decide) (Nat.le_of_ble_eq_true rfl) rfl (fun ls hl => ?_)
  refine lv_aload_n hx hb dL_line_208 rfl (lv_at hl 2 rfl) ?_
  refine lv_iload_n hx hb dL_line_209 rfl (lv_at hl 3 rfl) ?_
  refine lv_iload hx hb dL_line_210 (lv_at hl 0 rfl) ?_
  refine lv_iconst (v := 1) hx hb dL_line_212 (by decide) ?_
  obtain ⟨r2, X1, h3, hf⟩ := b2_in hf
  refine r_callL (nw := []) (rest := []) C hWd hP hS hl.1 rfl (s_Q_unmixed htr hW hD0 ha0 hg h3) True.intro il_L_unmixed ls_L_65 ⟨rfl, rfl, Nat.le_of_ble_eq_true rfl, Nat.le_of_ble_eq_true rfl⟩ rfl rfl (Nat.le_of_ble_eq_true rfl) ⟨by show _ ≤ (14 : Nat); omega, by show _ ≤ (84 : Nat); omega⟩ dL_line_213 (fun C H locs hP hS => ?_)
  rw [List.append_nil] at C hP
  refine lv_istore (i := 8) (lv' := [(8, .int r2), (7, .int (3 : Int32)), (6, .int s0), (0, .ref (ad 0 0)), (1, .int p1), (2, .int p2), (3, .int p3), (4, .int p4), (5, .int p5)]) hx hb dL_line_216 hl (Nat.le_of_ble_eq_true rfl) rfl (fun ls hl => ?_)
  refine lv_goto (tgt := 67) hx hb dL_line_218 (by decide) ?_
  refine lv_iload hx hb dL_line_67 (lv_at hl 2 rfl) ?_
  refine lv_if_eq (tgt := 221) hx hb dL_line_69 (by decide) (fun c4 => ?_) (fun c4 => ?_)
  · have hf := g_ip c4 hf
    exact s_Q_line_J221 C hWd htr hW hg hD0 ha0 _ _ _ _ _ X1 _ _ _ _ _ ⟨by omega, by omega⟩ hP hS (lv_sub hl [3, 4, 5, 6, 7, 2] rfl) hf
  · have hf := g_in c4 hf
    refine lv_iload hx hb dL_line_72 (lv_at hl 0 rfl) ?_
    refine lv_bipush (v := -8) hx hb dL_line_74 (by decide) ?_
    refine lv_icmp_eq (tgt := 221) hx hb dL_line_76 (by decide) (fun c5 => ?_) (fun c5 => ?_)
    · have hf := g_ip c5 hf
      exact s_Q_line_J221 C hWd htr hW hg hD0 ha0 _ _ _ _ _ X1 _ _ _ _ _ ⟨by omega, by omega⟩ hP hS (lv_sub hl [3, 4, 5, 6, 7, 2] rfl) hf
    · have hf := g_in c5 hf
      refine lv_iload hx hb dL_line_79 (lv_at hl 1 rfl) ?_
      refine lv_iconst (v := 3) hx hb dL_line_81 (by decide) ?_
      refine lv_icmp_ge (tgt := 221) hx hb dL_line_82 (by decide) (fun c6 => ?_) (fun c6 => ?_)
      rotate_left
      · exact absurd c6 (by decide)
      exact s_Q_line_J221 C hWd htr hW hg hD0 ha0 _ _ _ _ _ X1 _ _ _ _ _ ⟨by omega, by omega⟩ hP hS (lv_sub hl [3, 4, 5, 6, 7, 2] rfl) hf

set_option maxRecDepth 100000 in
set_option maxHeartbeats 4000000 in
theorem s_Q_line_J198_2 {p : Program} {l : Launch} {e : Env} {s : State} {m : MethodId} {args : Array Value} {below : List Frame} {meth : Method} {c : Code} {D : va_G} {cA : Nat → ClassId} {ad : Nat → Nat → Nat} {NL : List (Nat × Nat)} {A : Nat → Prop} {rr : Int32} {XX : gM} {N : Nat} (C : gCx p c meth m s args cL_line 11 (some .boolean) RL D cA ad NL A) (hWd : gWd A s) (htr : l.stackTraces = false) (hW : gWf NL) (hg : ∀ n ∈ NL, n.1 < 43) (hD0 : gD (fun _ => True) ad NL) (ha0 : (0, 0) ∈ NL) : ∀ (p1 : Int32) (p2 : Int32) (p3 : Int32) (p4 : Int32) (p5 : Int32) (X : gM) (H : Heap) (locs : List Loc) (ls : Array Slot) (cells slots : Nat), cells + 3 ≤ 14 ∧ slots + 18 ≤ 84 → gH D cA ad NL X H → va_S A s.heap H locs → lv_has ls 11 [(0, .ref (ad 0 0)), (1, .int p1), (2, .int p2), (3, .int p3), (4, .int p4), (5, .int p5), (7, .int (2 : Int32))] → Q_line_J198_2 (gal NL) N p1 p2 p3 p4 p5 X = some (rr, XX) → W p l e rm_Q_line s m args below meth c H locs cells slots (MQ below (gQ D cA ad NL (some (.int rr)) XX A) args s 14 84 A) (F0 m 198 ls []) := by
  have hx := C.1
  have hb := C.2.1
  intro p1 p2 p3 p4 p5 X H locs ls cells slots hc hP hS hl hf
  rw [Q_line_J198_2] at hf
  refine lv_iconst (v := 1) hx hb dL_line_198 (by decide) ?_
  refine lv_goto (tgt := 203) hx hb dL_line_199 (by decide) ?_
  exact s_Q_line_J203_2 C hWd htr hW hg hD0 ha0 _ _ _ _ _ _ X _ _ _ _ _ ⟨by omega, by omega⟩ hP hS (lv_sub hl [0, 1, 2, 3, 4, 5, 6] rfl) hf

set_option maxRecDepth 100000 in
set_option maxHeartbeats 4000000 in
theorem s_Q_line_J202_2 {p : Program} {l : Launch} {e : Env} {s : State} {m : MethodId} {args : Array Value} {below : List Frame} {meth : Method} {c : Code} {D : va_G} {cA : Nat → ClassId} {ad : Nat → Nat → Nat} {NL : List (Nat × Nat)} {A : Nat → Prop} {rr : Int32} {XX : gM} {N : Nat} (C : gCx p c meth m s args cL_line 11 (some .boolean) RL D cA ad NL A) (hWd : gWd A s) (htr : l.stackTraces = false) (hW : gWf NL) (hg : ∀ n ∈ NL, n.1 < 43) (hD0 : gD (fun _ => True) ad NL) (ha0 : (0, 0) ∈ NL) : ∀ (p1 : Int32) (p2 : Int32) (p3 : Int32) (p4 : Int32) (p5 : Int32) (X : gM) (H : Heap) (locs : List Loc) (ls : Array Slot) (cells slots : Nat), cells + 3 ≤ 14 ∧ slots + 18 ≤ 84 → gH D cA ad NL X H → va_S A s.heap H locs → lv_has ls 11 [(0, .ref (ad 0 0)), (1, .int p1), (2, .int p2), (3, .int p3), (4, .int p4), (5, .int p5), (7, .int (2 : Int32))] → Q_line_J202_2 (gal NL) N p1 p2 p3 p4 p5 X = some (rr, XX) → W p l e rm_Q_line s m args below meth c H locs cells slots (MQ below (gQ D cA ad NL (some (.int rr)) XX A) args s 14 84 A) (F0 m 202 ls []) := by
  have hx := C.1
  have hb := C.2.1
  intro p1 p2 p3 p4 p5 X H locs ls cells slots hc hP hS hl hf
  rw [Q_line_J202_2] at hf
  refine lv_iconst (v := 0) hx hb dL_line_202 (by decide) ?_
  exact s_Q_line_J203_2 C hWd htr hW hg hD0 ha0 _ _ _ _ _ _ X _ _ _ _ _ ⟨by omega, by omega⟩ hP hS (lv_sub hl [0, 1, 2, 3, 4, 5, 6] rfl) hf

set_option maxRecDepth 100000 in
set_option maxHeartbeats 4000000 in
theorem s_Q_line_J179_2 {p : Program} {l : Launch} {e : Env} {s : State} {m : MethodId} {args : Array Value} {below : List Frame} {meth : Method} {c : Code} {D : va_G} {cA : Nat → ClassId} {ad : Nat → Nat → Nat} {NL : List (Nat × Nat)} {A : Nat → Prop} {rr : Int32} {XX : gM} {N : Nat} (C : gCx p c meth m s args cL_line 11 (some .boolean) RL D cA ad NL A) (hWd : gWd A s) (htr : l.stackTraces = false) (hW : gWf NL) (hg : ∀ n ∈ NL, n.1 < 43) (hD0 : gD (fun _ => True) ad NL) (ha0 : (0, 0) ∈ NL) : ∀ (p1 : Int32) (p2 : Int32) (p3 : Int32) (p4 : Int32) (p5 : Int32) (p10 : Int32) (s0 : Int32) (X : gM) (H : Heap) (locs : List Loc) (ls : Array Slot) (cells slots : Nat), cells + 3 ≤ 14 ∧ slots + 18 ≤ 84 → gH D cA ad NL X H → va_S A s.heap H locs → lv_has ls 11 [(0, .ref (ad 0 0)), (1, .int p1), (2, .int p2), (3, .int p3), (4, .int p4), (5, .int p5), (7, .int (2 : Int32)), (10, .int p10)] → Q_line_J179_2 (gal NL) N p1 p2 p3 p4 p5 p10 s0 X = some (rr, XX) → W p l e rm_Q_line s m args below meth c H locs cells slots (MQ below (gQ D cA ad NL (some (.int rr)) XX A) args s 14 84 A) (F0 m 179 ls [.int s0]) := by
  have hx := C.1
  have hb := C.2.1
  intro p1 p2 p3 p4 p5 p10 s0 X H locs ls cells slots hc hP hS hl hf
  rw [Q_line_J179_2] at hf
  refine lv_istore (i := 6) (lv' := [(6, .int s0), (0, .ref (ad 0 0)), (1, .int p1), (2, .int p2), (3, .int p3), (4, .int p4), (5, .int p5), (7, .int (2 : Int32)), (10, .int p10)]) hx hb dL_line_179 hl (Nat.le_of_ble_eq_true rfl) rfl (fun ls hl => ?_)
  refine lv_iload hx hb dL_line_181 (lv_at hl 0 rfl) ?_
  refine lv_if_eq (tgt := 202) hx hb dL_line_183 (by decide) (fun c1 => ?_) (fun c1 => ?_)
  · have hf := g_ip c1 hf
    exact s_Q_line_J202_2 C hWd htr hW hg hD0 ha0 _ _ _ _ _ X _ _ _ _ _ ⟨by omega, by omega⟩ hP hS (lv_sub hl [1, 2, 3, 4, 5, 6, 7] rfl) hf
  · have hf := g_in c1 hf
    refine lv_iload hx hb dL_line_186 (lv_at hl 8 rfl) ?_
    refine lv_iconst (v := 5) hx hb dL_line_188 (by decide) ?_
    refine lv_icmp_ne (tgt := 198) hx hb dL_line_189 (by decide) (fun c2 => ?_) (fun c2 => ?_)
    · have hf := g_in c2 hf
      exact s_Q_line_J198_2 C hWd htr hW hg hD0 ha0 _ _ _ _ _ X _ _ _ _ _ ⟨by omega, by omega⟩ hP hS (lv_sub hl [1, 2, 3, 4, 5, 6, 7] rfl) hf
    · have hf := g_ip c2 hf
      refine lv_iload hx hb dL_line_192 (lv_at hl 6 rfl) ?_
      refine lv_iconst (v := 1) hx hb dL_line_194 (by decide) ?_
      refine lv_icmp_le (tgt := 202) hx hb dL_line_195 (by decide) (fun c3 => ?_) (fun c3 => ?_)
      · have hf := g_ip c3 hf
        exact s_Q_line_J202_2 C hWd htr hW hg hD0 ha0 _ _ _ _ _ X _ _ _ _ _ ⟨by omega, by omega⟩ hP hS (lv_sub hl [1, 2, 3, 4, 5, 6, 7] rfl) hf
      · have hf := g_in c3 hf
        exact s_Q_line_J198_2 C hWd htr hW hg hD0 ha0 _ _ _ _ _ X _ _ _ _ _ ⟨by omega, by omega⟩ hP hS (lv_sub hl [1, 2, 3, 4, 5, 6, 7] rfl) hf

set_option maxRecDepth 100000 in
set_option maxHeartbeats 4000000 in
theorem s_Q_line_J127_2 {p : Program} {l : Launch} {e : Env} {s : State} {m : MethodId} {args : Array Value} {below : List Frame} {meth : Method} {c : Code} {D : va_G} {cA : Nat → ClassId} {ad : Nat → Nat → Nat} {NL : List (Nat × Nat)} {A : Nat → Prop} {rr : Int32} {XX : gM} {N : Nat} (C : gCx p c meth m s args cL_line 11 (some .boolean) RL D cA ad NL A) (hWd : gWd A s) (htr : l.stackTraces = false) (hW : gWf NL) (hg : ∀ n ∈ NL, n.1 < 43) (hD0 : gD (fun _ => True) ad NL) (ha0 : (0, 0) ∈ NL) : ∀ (p1 : Int32) (p2 : Int32) (p3 : Int32) (p4 : Int32) (p5 : Int32) (p10 : Int32) (X : gM) (H : Heap) (locs : List Loc) (ls : Array Slot) (cells slots : Nat), cells + 3 ≤ 14 ∧ slots + 18 ≤ 84 → gH D cA ad NL X H → va_S A s.heap H locs → lv_has ls 11 [(0, .ref (ad 0 0)), (1, .int p1), (2, .int p2), (3, .int p3), (4, .int p4), (5, .int p5), (7, .int (2 : Int32)), (10, .int p10)] → Q_line_J127_2 (gal NL) N p1 p2 p3 p4 p5 p10 X = some (rr, XX) → W p l e rm_Q_line s m args below meth c H locs cells slots (MQ below (gQ D cA ad NL (some (.int rr)) XX A) args s 14 84 A) (F0 m 127 ls []) := by
  have hx := C.1
  have hb := C.2.1
  intro p1 p2 p3 p4 p5 p10 X H locs ls cells slots hc hP hS hl hf
  rw [Q_line_J127_2] at hf
  refine lv_iconst (v := 0) hx hb dL_line_127 (by decide) ?_
  refine lv_goto (tgt := 179) hx hb dL_line_128 (by decide) ?_
  exact s_Q_line_J179_2 C hWd htr hW hg hD0 ha0 _ _ _ _ _ _ _ X _ _ _ _ _ ⟨by omega, by omega⟩ hP hS (lv_sub hl [0, 1, 2, 3, 4, 5, 6, 7] rfl) hf

set_option maxRecDepth 100000 in
set_option maxHeartbeats 4000000 in
theorem s_Q_line_J152_2 {p : Program} {l : Launch} {e : Env} {s : State} {m : MethodId} {args : Array Value} {below : List Frame} {meth : Method} {c : Code} {D : va_G} {cA : Nat → ClassId} {ad : Nat → Nat → Nat} {NL : List (Nat × Nat)} {A : Nat → Prop} {rr : Int32} {XX : gM} {N : Nat} (C : gCx p c meth m s args cL_line 11 (some .boolean) RL D cA ad NL A) (hWd : gWd A s) (htr : l.stackTraces = false) (hW : gWf NL) (hg : ∀ n ∈ NL, n.1 < 43) (hD0 : gD (fun _ => True) ad NL) (ha0 : (0, 0) ∈ NL) : ∀ (p1 : Int32) (p2 : Int32) (p3 : Int32) (p4 : Int32) (p5 : Int32) (p10 : Int32) (X : gM) (H : Heap) (locs : List Loc) (ls : Array Slot) (cells slots : Nat), cells + 3 ≤ 14 ∧ slots + 18 ≤ 84 → gH D cA ad NL X H → va_S A s.heap H locs → lv_has ls 11 [(0, .ref (ad 0 0)), (1, .int p1), (2, .int p2), (3, .int p3), (4, .int p4), (5, .int p5), (7, .int (2 : Int32)), (10, .int p10)] → Q_line_J152_2 (gal NL) N p1 p2 p3 p4 p5 p10 X = some (rr, XX) → W p l e rm_Q_line s m args below meth c H locs cells slots (MQ below (gQ D cA ad NL (some (.int rr)) XX A) args s 14 84 A) (F0 m 152 ls []) := by
  have hx := C.1
  have hb := C.2.1
  intro p1 p2 p3 p4 p5 p10 X H locs ls cells slots hc hP hS hl hf
  rw [Q_line_J152_2] at hf
  refine lv_iconst (v := 0) hx hb dL_line_152 (by decide) ?_
  refine lv_goto (tgt := 179) hx hb dL_line_153 (by decide) ?_
  exact s_Q_line_J179_2 C hWd htr hW hg hD0 ha0 _ _ _ _ _ _ _ X _ _ _ _ _ ⟨by omega, by omega⟩ hP hS (lv_sub hl [0, 1, 2, 3, 4, 5, 6, 7] rfl) hf

set_option maxRecDepth 100000 in
set_option maxHeartbeats 4000000 in
theorem s_Q_line_J178_2 {p : Program} {l : Launch} {e : Env} {s : State} {m : MethodId} {args : Array Value} {below : List Frame} {meth : Method} {c : Code} {D : va_G} {cA : Nat → ClassId} {ad : Nat → Nat → Nat} {NL : List (Nat × Nat)} {A : Nat → Prop} {rr : Int32} {XX : gM} {N : Nat} (C : gCx p c meth m s args cL_line 11 (some .boolean) RL D cA ad NL A) (hWd : gWd A s) (htr : l.stackTraces = false) (hW : gWf NL) (hg : ∀ n ∈ NL, n.1 < 43) (hD0 : gD (fun _ => True) ad NL) (ha0 : (0, 0) ∈ NL) : ∀ (p1 : Int32) (p2 : Int32) (p3 : Int32) (p4 : Int32) (p5 : Int32) (p10 : Int32) (X : gM) (H : Heap) (locs : List Loc) (ls : Array Slot) (cells slots : Nat), cells + 3 ≤ 14 ∧ slots + 18 ≤ 84 → gH D cA ad NL X H → va_S A s.heap H locs → lv_has ls 11 [(0, .ref (ad 0 0)), (1, .int p1), (2, .int p2), (3, .int p3), (4, .int p4), (5, .int p5), (7, .int (2 : Int32)), (10, .int p10)] → Q_line_J178_2 (gal NL) N p1 p2 p3 p4 p5 p10 X = some (rr, XX) → W p l e rm_Q_line s m args below meth c H locs cells slots (MQ below (gQ D cA ad NL (some (.int rr)) XX A) args s 14 84 A) (F0 m 178 ls []) := by
  have hx := C.1
  have hb := C.2.1
  intro p1 p2 p3 p4 p5 p10 X H locs ls cells slots hc hP hS hl hf
  rw [Q_line_J178_2] at hf
  refine lv_iconst (v := 0) hx hb dL_line_178 (by decide) ?_
  exact s_Q_line_J179_2 C hWd htr hW hg hD0 ha0 _ _ _ _ _ _ _ X _ _ _ _ _ ⟨by omega, by omega⟩ hP hS (lv_sub hl [0, 1, 2, 3, 4, 5, 6, 7] rfl) hf

set_option maxRecDepth 100000 in
set_option maxHeartbeats 4000000 in
theorem s_Q_line_J203_1 {p : Program} {l : Launch} {e : Env} {s : State} {m : MethodId} {args : Array Value} {below : List Frame} {meth : Method} {c : Code} {D : va_G} {cA : Nat → ClassId} {ad : Nat → Nat → Nat} {NL : List (Nat × Nat)} {A : Nat → Prop} {rr : Int32} {XX : gM} {N : Nat} (C : gCx p c meth m s args cL_line 11 (some .boolean) RL D cA ad NL A) (hWd : gWd A s) (htr : l.stackTraces = false) (hW : gWf NL) (hg : ∀ n ∈ NL, n.1 < 43) (hD0 : gD (fun _ => True) ad NL) (ha0 : (0, 0) ∈ NL) : ∀ (p1 : Int32) (p2 : Int32) (p3 : Int32) (p4 : Int32) (p5 : Int32) (s0 : Int32) (X : gM) (H : Heap) (locs : List Loc) (ls : Array Slot) (cells slots : Nat), cells + 6 ≤ 14 ∧ slots + 36 ≤ 84 → gH D cA ad NL X H → va_S A s.heap H locs → lv_has ls 11 [(0, .ref (ad 0 0)), (1, .int p1), (2, .int p2), (3, .int p3), (4, .int p4), (5, .int p5), (7, .int (1 : Int32))] → Q_line_J203_1 (gal NL) N p1 p2 p3 p4 p5 s0 X = some (rr, XX) → W p l e rm_Q_line s m args below meth c H locs cells slots (MQ below (gQ D cA ad NL (some (.int rr)) XX A) args s 14 84 A) (F0 m 203 ls [.int s0]) := by
  have hx := C.1
  have hb := C.2.1
  intro p1 p2 p3 p4 p5 s0 X H locs ls cells slots hc hP hS hl hf
  rw [Q_line_J203_1] at hf
  refine lv_istore (i := 6) (lv' := [(6, .int s0), (0, .ref (ad 0 0)), (1, .int p1), (2, .int p2), (3, .int p3), (4, .int p4), (5, .int p5), (7, .int (1 : Int32))]) hx hb dL_line_203 hl (Nat.le_of_ble_eq_true rfl) rfl (fun ls hl => ?_)
  refine lv_iinc (v := (2 : Int32)) (lv' := [(7, .int (2 : Int32)), (6, .int s0), (0, .ref (ad 0 0)), (1, .int p1), (2, .int p2), (3, .int p3), (4, .int p4), (5, .int p5)]) hx hb dL_line_205 hl (k := 7) rfl (by decide) (Nat.le_of_ble_eq_true rfl) rfl (fun ls hl => ?_)
  refine lv_aload_n hx hb dL_line_208 rfl (lv_at hl 2 rfl) ?_
  refine lv_iload_n hx hb dL_line_209 rfl (lv_at hl 3 rfl) ?_
  refine lv_iload hx hb dL_line_210 (lv_at hl 0 rfl) ?_
  refine lv_iconst (v := 1) hx hb dL_line_212 (by decide) ?_
  obtain ⟨r2, X1, h3, hf⟩ := b2_in hf
  refine r_callL (nw := []) (rest := []) C hWd hP hS hl.1 rfl (s_Q_unmixed htr hW hD0 ha0 hg h3) True.intro il_L_unmixed ls_L_65 ⟨rfl, rfl, Nat.le_of_ble_eq_true rfl, Nat.le_of_ble_eq_true rfl⟩ rfl rfl (Nat.le_of_ble_eq_true rfl) ⟨by show _ ≤ (14 : Nat); omega, by show _ ≤ (84 : Nat); omega⟩ dL_line_213 (fun C H locs hP hS => ?_)
  rw [List.append_nil] at C hP
  refine lv_istore (i := 8) (lv' := [(8, .int r2), (7, .int (2 : Int32)), (6, .int s0), (0, .ref (ad 0 0)), (1, .int p1), (2, .int p2), (3, .int p3), (4, .int p4), (5, .int p5)]) hx hb dL_line_216 hl (Nat.le_of_ble_eq_true rfl) rfl (fun ls hl => ?_)
  refine lv_goto (tgt := 67) hx hb dL_line_218 (by decide) ?_
  refine lv_iload hx hb dL_line_67 (lv_at hl 2 rfl) ?_
  refine lv_if_eq (tgt := 221) hx hb dL_line_69 (by decide) (fun c4 => ?_) (fun c4 => ?_)
  · have hf := g_ip c4 hf
    exact s_Q_line_J221 C hWd htr hW hg hD0 ha0 _ _ _ _ _ X1 _ _ _ _ _ ⟨by omega, by omega⟩ hP hS (lv_sub hl [3, 4, 5, 6, 7, 2] rfl) hf
  · have hf := g_in c4 hf
    refine lv_iload hx hb dL_line_72 (lv_at hl 0 rfl) ?_
    refine lv_bipush (v := -8) hx hb dL_line_74 (by decide) ?_
    refine lv_icmp_eq (tgt := 221) hx hb dL_line_76 (by decide) (fun c5 => ?_) (fun c5 => ?_)
    · have hf := g_ip c5 hf
      exact s_Q_line_J221 C hWd htr hW hg hD0 ha0 _ _ _ _ _ X1 _ _ _ _ _ ⟨by omega, by omega⟩ hP hS (lv_sub hl [3, 4, 5, 6, 7, 2] rfl) hf
    · have hf := g_in c5 hf
      refine lv_iload hx hb dL_line_79 (lv_at hl 1 rfl) ?_
      refine lv_iconst (v := 3) hx hb dL_line_81 (by decide) ?_
      refine lv_icmp_ge (tgt := 221) hx hb dL_line_82 (by decide) (fun c6 => ?_) (fun c6 => ?_)
      · exact absurd c6 (by decide)
      refine lv_aload_n hx hb dL_line_85 rfl (lv_at hl 3 rfl) ?_
      refine lv_iload_n hx hb dL_line_86 rfl (lv_at hl 4 rfl) ?_
      refine lv_iconst (v := 0) hx hb dL_line_87 (by decide) ?_
      refine lv_iload hx hb dL_line_88 (lv_at hl 1 rfl) ?_
      refine lv_iload_n hx hb dL_line_90 rfl (lv_at hl 5 rfl) ?_
      obtain ⟨k10, r8, X7, h9, hf⟩ := b3_in hf
      refine r_callX (nw := []) (rest := []) C hWd.1 hWd.2.1 hWd.2.2.1 hP hS hl.1 rfl (gCX_A (s_P_letter htr hW hD0 ha0 hg h9)) True.intro ix_X9_letter iv_X9_letter ls_L_69 ⟨rfl, rfl, Nat.le_of_ble_eq_true rfl, Nat.le_of_ble_eq_true rfl⟩ ha0 (ct_0 _ _ _ _) rfl rfl rfl rfl (Nat.le_of_ble_eq_true rfl) ⟨by show _ ≤ (14 : Nat); omega, by show _ ≤ (84 : Nat); omega⟩ dL_line_91 (fun hk0 C H locs hP hS => ?_) (fun hk0 ce q9 H locs hP hS hce hcv hcl => ?_)
      · subst hk0
        have hf := g_ip rfl hf
        rw [List.append_nil] at C hP
        show W p l e rm_Q_line s m _ below meth c H locs _ _ _ (F0 m 94 ls [.int r8])
        refine lv_istore (i := 9) (lv' := [(9, .int r8), (8, .int r2), (7, .int (2 : Int32)), (6, .int s0), (0, .ref (ad 0 0)), (1, .int p1), (2, .int p2), (3, .int p3), (4, .int p4), (5, .int p5)]) hx hb dL_line_94 hl (Nat.le_of_ble_eq_true rfl) rfl (fun ls hl => ?_)
        refine lv_aload_n hx hb dL_line_96 rfl (lv_at hl 4 rfl) ?_
        refine lv_iload_n hx hb dL_line_97 rfl (lv_at hl 5 rfl) ?_
        refine lv_iconst (v := 0) hx hb dL_line_98 (by decide) ?_
        refine lv_iload hx hb dL_line_99 (lv_at hl 2 rfl) ?_
        refine lv_iload_n hx hb dL_line_101 rfl (lv_at hl 6 rfl) ?_
        obtain ⟨k14, r12, X11, h13, hf⟩ := b3_in hf
        refine r_callX (nw := []) (rest := []) C hWd.1 hWd.2.1 hWd.2.2.1 hP hS hl.1 rfl (gCX_A (s_P_state htr hW hD0 ha0 hg h13)) True.intro ix_X9_state iv_X9_state ls_L_73 ⟨rfl, rfl, Nat.le_of_ble_eq_true rfl, Nat.le_of_ble_eq_true rfl⟩ ha0 (ct_0 _ _ _ _) rfl rfl rfl rfl (Nat.le_of_ble_eq_true rfl) ⟨by show _ ≤ (14 : Nat); omega, by show _ ≤ (84 : Nat); omega⟩ dL_line_102 (fun hk0 C H locs hP hS => ?_) (fun hk0 ce q9 H locs hP hS hce hcv hcl => ?_)
        · subst hk0
          have hf := g_ip rfl hf
          rw [List.append_nil] at C hP
          show W p l e rm_Q_line s m _ below meth c H locs _ _ _ (F0 m 105 ls [.int r12])
          refine lv_istore (i := 10) (lv' := [(10, .int r12), (9, .int r8), (8, .int r2), (7, .int (2 : Int32)), (6, .int s0), (0, .ref (ad 0 0)), (1, .int p1), (2, .int p2), (3, .int p3), (4, .int p4), (5, .int p5)]) hx hb dL_line_105 hl (Nat.le_of_ble_eq_true rfl) rfl (fun ls hl => ?_)
          refine lv_iload hx hb dL_line_107 (lv_at hl 9 rfl) ?_
          refine lv_if_ge (tgt := 131) hx hb dL_line_109 (by decide) (fun c15 => ?_) (fun c15 => ?_)
          · have hf := g_ip c15 hf
            refine lv_iload hx hb dL_line_131 (lv_at hl 2 rfl) ?_
            refine lv_if_ne (tgt := 156) hx hb dL_line_133 (by decide) (fun c16 => ?_) (fun c16 => ?_)
            · have hf := g_in c16 hf
              refine lv_iload hx hb dL_line_156 (lv_at hl 1 rfl) ?_
              refine lv_if_lt (tgt := 178) hx hb dL_line_158 (by decide) (fun c17 => ?_) (fun c17 => ?_)
              · have hf := g_ip c17 hf
                exact s_Q_line_J178_2 C hWd htr hW hg hD0 ha0 _ _ _ _ _ _ X11 _ _ _ _ _ ⟨by omega, by omega⟩ hP hS (lv_sub hl [5, 6, 7, 8, 9, 10, 3, 0] rfl) hf
              · have hf := g_in c17 hf
                refine lv_iload hx hb dL_line_161 (lv_at hl 1 rfl) ?_
                refine lv_bipush (v := 26) hx hb dL_line_163 (by decide) ?_
                refine lv_icmp_ge (tgt := 178) hx hb dL_line_165 (by decide) (fun c18 => ?_) (fun c18 => ?_)
                · have hf := g_ip c18 hf
                  exact s_Q_line_J178_2 C hWd htr hW hg hD0 ha0 _ _ _ _ _ _ X11 _ _ _ _ _ ⟨by omega, by omega⟩ hP hS (lv_sub hl [5, 6, 7, 8, 9, 10, 3, 0] rfl) hf
                · have hf := g_in c18 hf
                  refine lv_iload hx hb dL_line_168 (lv_at hl 0 rfl) ?_
                  refine lv_iconst (v := 2) hx hb dL_line_170 (by decide) ?_
                  refine lv_icmp_lt (tgt := 178) hx hb dL_line_171 (by decide) (fun c19 => ?_) (fun c19 => ?_)
                  · have hf := g_ip c19 hf
                    exact s_Q_line_J178_2 C hWd htr hW hg hD0 ha0 _ _ _ _ _ _ X11 _ _ _ _ _ ⟨by omega, by omega⟩ hP hS (lv_sub hl [5, 6, 7, 8, 9, 10, 3, 0] rfl) hf
                  · have hf := g_in c19 hf
                    refine lv_iconst (v := 1) hx hb dL_line_174 (by decide) ?_
                    refine lv_goto (tgt := 179) hx hb dL_line_175 (by decide) ?_
                    exact s_Q_line_J179_2 C hWd htr hW hg hD0 ha0 _ _ _ _ _ _ _ X11 _ _ _ _ _ ⟨by omega, by omega⟩ hP hS (lv_sub hl [5, 6, 7, 8, 9, 10, 3, 0] rfl) hf
            · have hf := g_ip c16 hf
              refine lv_iload hx hb dL_line_136 (lv_at hl 1 rfl) ?_
              refine lv_iconst (v := -1) hx hb dL_line_138 (by decide) ?_
              refine lv_icmp_ne (tgt := 152) hx hb dL_line_139 (by decide) (fun c20 => ?_) (fun c20 => ?_)
              · have hf := g_in c20 hf
                exact s_Q_line_J152_2 C hWd htr hW hg hD0 ha0 _ _ _ _ _ _ X11 _ _ _ _ _ ⟨by omega, by omega⟩ hP hS (lv_sub hl [5, 6, 7, 8, 9, 10, 3, 0] rfl) hf
              · have hf := g_ip c20 hf
                refine lv_iload hx hb dL_line_142 (lv_at hl 0 rfl) ?_
                refine lv_iconst (v := 1) hx hb dL_line_144 (by decide) ?_
                refine lv_icmp_ne (tgt := 152) hx hb dL_line_145 (by decide) (fun c21 => ?_) (fun c21 => ?_)
                · have hf := g_in c21 hf
                  exact s_Q_line_J152_2 C hWd htr hW hg hD0 ha0 _ _ _ _ _ _ X11 _ _ _ _ _ ⟨by omega, by omega⟩ hP hS (lv_sub hl [5, 6, 7, 8, 9, 10, 3, 0] rfl) hf
                · have hf := g_ip c21 hf
                  refine lv_iconst (v := 1) hx hb dL_line_148 (by decide) ?_
                  refine lv_goto (tgt := 179) hx hb dL_line_149 (by decide) ?_
                  exact s_Q_line_J179_2 C hWd htr hW hg hD0 ha0 _ _ _ _ _ _ _ X11 _ _ _ _ _ ⟨by omega, by omega⟩ hP hS (lv_sub hl [5, 6, 7, 8, 9, 10, 3, 0] rfl) hf
          · have hf := g_in c15 hf
            refine lv_iload hx hb dL_line_112 (lv_at hl 1 rfl) ?_
            refine lv_iconst (v := -1) hx hb dL_line_114 (by decide) ?_
            refine lv_icmp_ne (tgt := 127) hx hb dL_line_115 (by decide) (fun c22 => ?_) (fun c22 => ?_)
            · have hf := g_in c22 hf
              exact s_Q_line_J127_2 C hWd htr hW hg hD0 ha0 _ _ _ _ _ _ X11 _ _ _ _ _ ⟨by omega, by omega⟩ hP hS (lv_sub hl [5, 6, 7, 8, 9, 10, 3, 0] rfl) hf
            · have hf := g_ip c22 hf
              refine lv_iload hx hb dL_line_118 (lv_at hl 0 rfl) ?_
              refine lv_if_ne (tgt := 127) hx hb dL_line_120 (by decide) (fun c23 => ?_) (fun c23 => ?_)
              · have hf := g_in c23 hf
                exact s_Q_line_J127_2 C hWd htr hW hg hD0 ha0 _ _ _ _ _ _ X11 _ _ _ _ _ ⟨by omega, by omega⟩ hP hS (lv_sub hl [5, 6, 7, 8, 9, 10, 3, 0] rfl) hf
              · have hf := g_ip c23 hf
                refine lv_iconst (v := 1) hx hb dL_line_123 (by decide) ?_
                refine lv_goto (tgt := 179) hx hb dL_line_124 (by decide) ?_
                exact s_Q_line_J179_2 C hWd htr hW hg hD0 ha0 _ _ _ _ _ _ _ X11 _ _ _ _ _ ⟨by omega, by omega⟩ hP hS (lv_sub hl [5, 6, 7, 8, 9, 10, 3, 0] rfl) hf
        · have hf := g_in hk0 hf
          cases hf
      · have hf := g_in hk0 hf
        cases hf

set_option maxRecDepth 100000 in
set_option maxHeartbeats 4000000 in
theorem s_Q_line_J198_1 {p : Program} {l : Launch} {e : Env} {s : State} {m : MethodId} {args : Array Value} {below : List Frame} {meth : Method} {c : Code} {D : va_G} {cA : Nat → ClassId} {ad : Nat → Nat → Nat} {NL : List (Nat × Nat)} {A : Nat → Prop} {rr : Int32} {XX : gM} {N : Nat} (C : gCx p c meth m s args cL_line 11 (some .boolean) RL D cA ad NL A) (hWd : gWd A s) (htr : l.stackTraces = false) (hW : gWf NL) (hg : ∀ n ∈ NL, n.1 < 43) (hD0 : gD (fun _ => True) ad NL) (ha0 : (0, 0) ∈ NL) : ∀ (p1 : Int32) (p2 : Int32) (p3 : Int32) (p4 : Int32) (p5 : Int32) (X : gM) (H : Heap) (locs : List Loc) (ls : Array Slot) (cells slots : Nat), cells + 6 ≤ 14 ∧ slots + 36 ≤ 84 → gH D cA ad NL X H → va_S A s.heap H locs → lv_has ls 11 [(0, .ref (ad 0 0)), (1, .int p1), (2, .int p2), (3, .int p3), (4, .int p4), (5, .int p5), (7, .int (1 : Int32))] → Q_line_J198_1 (gal NL) N p1 p2 p3 p4 p5 X = some (rr, XX) → W p l e rm_Q_line s m args below meth c H locs cells slots (MQ below (gQ D cA ad NL (some (.int rr)) XX A) args s 14 84 A) (F0 m 198 ls []) := by
  have hx := C.1
  have hb := C.2.1
  intro p1 p2 p3 p4 p5 X H locs ls cells slots hc hP hS hl hf
  rw [Q_line_J198_1] at hf
  refine lv_iconst (v := 1) hx hb dL_line_198 (by decide) ?_
  refine lv_goto (tgt := 203) hx hb dL_line_199 (by decide) ?_
  exact s_Q_line_J203_1 C hWd htr hW hg hD0 ha0 _ _ _ _ _ _ X _ _ _ _ _ ⟨by omega, by omega⟩ hP hS (lv_sub hl [0, 1, 2, 3, 4, 5, 6] rfl) hf

set_option maxRecDepth 100000 in
set_option maxHeartbeats 4000000 in
theorem s_Q_line_J202_1 {p : Program} {l : Launch} {e : Env} {s : State} {m : MethodId} {args : Array Value} {below : List Frame} {meth : Method} {c : Code} {D : va_G} {cA : Nat → ClassId} {ad : Nat → Nat → Nat} {NL : List (Nat × Nat)} {A : Nat → Prop} {rr : Int32} {XX : gM} {N : Nat} (C : gCx p c meth m s args cL_line 11 (some .boolean) RL D cA ad NL A) (hWd : gWd A s) (htr : l.stackTraces = false) (hW : gWf NL) (hg : ∀ n ∈ NL, n.1 < 43) (hD0 : gD (fun _ => True) ad NL) (ha0 : (0, 0) ∈ NL) : ∀ (p1 : Int32) (p2 : Int32) (p3 : Int32) (p4 : Int32) (p5 : Int32) (X : gM) (H : Heap) (locs : List Loc) (ls : Array Slot) (cells slots : Nat), cells + 6 ≤ 14 ∧ slots + 36 ≤ 84 → gH D cA ad NL X H → va_S A s.heap H locs → lv_has ls 11 [(0, .ref (ad 0 0)), (1, .int p1), (2, .int p2), (3, .int p3), (4, .int p4), (5, .int p5), (7, .int (1 : Int32))] → Q_line_J202_1 (gal NL) N p1 p2 p3 p4 p5 X = some (rr, XX) → W p l e rm_Q_line s m args below meth c H locs cells slots (MQ below (gQ D cA ad NL (some (.int rr)) XX A) args s 14 84 A) (F0 m 202 ls []) := by
  have hx := C.1
  have hb := C.2.1
  intro p1 p2 p3 p4 p5 X H locs ls cells slots hc hP hS hl hf
  rw [Q_line_J202_1] at hf
  refine lv_iconst (v := 0) hx hb dL_line_202 (by decide) ?_
  exact s_Q_line_J203_1 C hWd htr hW hg hD0 ha0 _ _ _ _ _ _ X _ _ _ _ _ ⟨by omega, by omega⟩ hP hS (lv_sub hl [0, 1, 2, 3, 4, 5, 6] rfl) hf

set_option maxRecDepth 100000 in
set_option maxHeartbeats 4000000 in
theorem s_Q_line_J179_1 {p : Program} {l : Launch} {e : Env} {s : State} {m : MethodId} {args : Array Value} {below : List Frame} {meth : Method} {c : Code} {D : va_G} {cA : Nat → ClassId} {ad : Nat → Nat → Nat} {NL : List (Nat × Nat)} {A : Nat → Prop} {rr : Int32} {XX : gM} {N : Nat} (C : gCx p c meth m s args cL_line 11 (some .boolean) RL D cA ad NL A) (hWd : gWd A s) (htr : l.stackTraces = false) (hW : gWf NL) (hg : ∀ n ∈ NL, n.1 < 43) (hD0 : gD (fun _ => True) ad NL) (ha0 : (0, 0) ∈ NL) : ∀ (p1 : Int32) (p2 : Int32) (p3 : Int32) (p4 : Int32) (p5 : Int32) (p10 : Int32) (s0 : Int32) (X : gM) (H : Heap) (locs : List Loc) (ls : Array Slot) (cells slots : Nat), cells + 6 ≤ 14 ∧ slots + 36 ≤ 84 → gH D cA ad NL X H → va_S A s.heap H locs → lv_has ls 11 [(0, .ref (ad 0 0)), (1, .int p1), (2, .int p2), (3, .int p3), (4, .int p4), (5, .int p5), (7, .int (1 : Int32)), (10, .int p10)] → Q_line_J179_1 (gal NL) N p1 p2 p3 p4 p5 p10 s0 X = some (rr, XX) → W p l e rm_Q_line s m args below meth c H locs cells slots (MQ below (gQ D cA ad NL (some (.int rr)) XX A) args s 14 84 A) (F0 m 179 ls [.int s0]) := by
  have hx := C.1
  have hb := C.2.1
  intro p1 p2 p3 p4 p5 p10 s0 X H locs ls cells slots hc hP hS hl hf
  rw [Q_line_J179_1] at hf
  refine lv_istore (i := 6) (lv' := [(6, .int s0), (0, .ref (ad 0 0)), (1, .int p1), (2, .int p2), (3, .int p3), (4, .int p4), (5, .int p5), (7, .int (1 : Int32)), (10, .int p10)]) hx hb dL_line_179 hl (Nat.le_of_ble_eq_true rfl) rfl (fun ls hl => ?_)
  refine lv_iload hx hb dL_line_181 (lv_at hl 0 rfl) ?_
  refine lv_if_eq (tgt := 202) hx hb dL_line_183 (by decide) (fun c1 => ?_) (fun c1 => ?_)
  · have hf := g_ip c1 hf
    exact s_Q_line_J202_1 C hWd htr hW hg hD0 ha0 _ _ _ _ _ X _ _ _ _ _ ⟨by omega, by omega⟩ hP hS (lv_sub hl [1, 2, 3, 4, 5, 6, 7] rfl) hf
  · have hf := g_in c1 hf
    refine lv_iload hx hb dL_line_186 (lv_at hl 8 rfl) ?_
    refine lv_iconst (v := 5) hx hb dL_line_188 (by decide) ?_
    refine lv_icmp_ne (tgt := 198) hx hb dL_line_189 (by decide) (fun c2 => ?_) (fun c2 => ?_)
    · have hf := g_in c2 hf
      exact s_Q_line_J198_1 C hWd htr hW hg hD0 ha0 _ _ _ _ _ X _ _ _ _ _ ⟨by omega, by omega⟩ hP hS (lv_sub hl [1, 2, 3, 4, 5, 6, 7] rfl) hf
    · have hf := g_ip c2 hf
      refine lv_iload hx hb dL_line_192 (lv_at hl 6 rfl) ?_
      refine lv_iconst (v := 1) hx hb dL_line_194 (by decide) ?_
      refine lv_icmp_le (tgt := 202) hx hb dL_line_195 (by decide) (fun c3 => ?_) (fun c3 => ?_)
      · have hf := g_ip c3 hf
        exact s_Q_line_J202_1 C hWd htr hW hg hD0 ha0 _ _ _ _ _ X _ _ _ _ _ ⟨by omega, by omega⟩ hP hS (lv_sub hl [1, 2, 3, 4, 5, 6, 7] rfl) hf
      · have hf := g_in c3 hf
        exact s_Q_line_J198_1 C hWd htr hW hg hD0 ha0 _ _ _ _ _ X _ _ _ _ _ ⟨by omega, by omega⟩ hP hS (lv_sub hl [1, 2, 3, 4, 5, 6, 7] rfl) hf

set_option maxRecDepth 100000 in
set_option maxHeartbeats 4000000 in
theorem s_Q_line_J127_1 {p : Program} {l : Launch} {e : Env} {s : State} {m : MethodId} {args : Array Value} {below : List Frame} {meth : Method} {c : Code} {D : va_G} {cA : Nat → ClassId} {ad : Nat → Nat → Nat} {NL : List (Nat × Nat)} {A : Nat → Prop} {rr : Int32} {XX : gM} {N : Nat} (C : gCx p c meth m s args cL_line 11 (some .boolean) RL D cA ad NL A) (hWd : gWd A s) (htr : l.stackTraces = false) (hW : gWf NL) (hg : ∀ n ∈ NL, n.1 < 43) (hD0 : gD (fun _ => True) ad NL) (ha0 : (0, 0) ∈ NL) : ∀ (p1 : Int32) (p2 : Int32) (p3 : Int32) (p4 : Int32) (p5 : Int32) (p10 : Int32) (X : gM) (H : Heap) (locs : List Loc) (ls : Array Slot) (cells slots : Nat), cells + 6 ≤ 14 ∧ slots + 36 ≤ 84 → gH D cA ad NL X H → va_S A s.heap H locs → lv_has ls 11 [(0, .ref (ad 0 0)), (1, .int p1), (2, .int p2), (3, .int p3), (4, .int p4), (5, .int p5), (7, .int (1 : Int32)), (10, .int p10)] → Q_line_J127_1 (gal NL) N p1 p2 p3 p4 p5 p10 X = some (rr, XX) → W p l e rm_Q_line s m args below meth c H locs cells slots (MQ below (gQ D cA ad NL (some (.int rr)) XX A) args s 14 84 A) (F0 m 127 ls []) := by
  have hx := C.1
  have hb := C.2.1
  intro p1 p2 p3 p4 p5 p10 X H locs ls cells slots hc hP hS hl hf
  rw [Q_line_J127_1] at hf
  refine lv_iconst (v := 0) hx hb dL_line_127 (by decide) ?_
  refine lv_goto (tgt := 179) hx hb dL_line_128 (by decide) ?_
  exact s_Q_line_J179_1 C hWd htr hW hg hD0 ha0 _ _ _ _ _ _ _ X _ _ _ _ _ ⟨by omega, by omega⟩ hP hS (lv_sub hl [0, 1, 2, 3, 4, 5, 6, 7] rfl) hf

set_option maxRecDepth 100000 in
set_option maxHeartbeats 4000000 in
theorem s_Q_line_J152_1 {p : Program} {l : Launch} {e : Env} {s : State} {m : MethodId} {args : Array Value} {below : List Frame} {meth : Method} {c : Code} {D : va_G} {cA : Nat → ClassId} {ad : Nat → Nat → Nat} {NL : List (Nat × Nat)} {A : Nat → Prop} {rr : Int32} {XX : gM} {N : Nat} (C : gCx p c meth m s args cL_line 11 (some .boolean) RL D cA ad NL A) (hWd : gWd A s) (htr : l.stackTraces = false) (hW : gWf NL) (hg : ∀ n ∈ NL, n.1 < 43) (hD0 : gD (fun _ => True) ad NL) (ha0 : (0, 0) ∈ NL) : ∀ (p1 : Int32) (p2 : Int32) (p3 : Int32) (p4 : Int32) (p5 : Int32) (p10 : Int32) (X : gM) (H : Heap) (locs : List Loc) (ls : Array Slot) (cells slots : Nat), cells + 6 ≤ 14 ∧ slots + 36 ≤ 84 → gH D cA ad NL X H → va_S A s.heap H locs → lv_has ls 11 [(0, .ref (ad 0 0)), (1, .int p1), (2, .int p2), (3, .int p3), (4, .int p4), (5, .int p5), (7, .int (1 : Int32)), (10, .int p10)] → Q_line_J152_1 (gal NL) N p1 p2 p3 p4 p5 p10 X = some (rr, XX) → W p l e rm_Q_line s m args below meth c H locs cells slots (MQ below (gQ D cA ad NL (some (.int rr)) XX A) args s 14 84 A) (F0 m 152 ls []) := by
  have hx := C.1
  have hb := C.2.1
  intro p1 p2 p3 p4 p5 p10 X H locs ls cells slots hc hP hS hl hf
  rw [Q_line_J152_1] at hf
  refine lv_iconst (v := 0) hx hb dL_line_152 (by decide) ?_
  refine lv_goto (tgt := 179) hx hb dL_line_153 (by decide) ?_
  exact s_Q_line_J179_1 C hWd htr hW hg hD0 ha0 _ _ _ _ _ _ _ X _ _ _ _ _ ⟨by omega, by omega⟩ hP hS (lv_sub hl [0, 1, 2, 3, 4, 5, 6, 7] rfl) hf

set_option maxRecDepth 100000 in
set_option maxHeartbeats 4000000 in
theorem s_Q_line_J178_1 {p : Program} {l : Launch} {e : Env} {s : State} {m : MethodId} {args : Array Value} {below : List Frame} {meth : Method} {c : Code} {D : va_G} {cA : Nat → ClassId} {ad : Nat → Nat → Nat} {NL : List (Nat × Nat)} {A : Nat → Prop} {rr : Int32} {XX : gM} {N : Nat} (C : gCx p c meth m s args cL_line 11 (some .boolean) RL D cA ad NL A) (hWd : gWd A s) (htr : l.stackTraces = false) (hW : gWf NL) (hg : ∀ n ∈ NL, n.1 < 43) (hD0 : gD (fun _ => True) ad NL) (ha0 : (0, 0) ∈ NL) : ∀ (p1 : Int32) (p2 : Int32) (p3 : Int32) (p4 : Int32) (p5 : Int32) (p10 : Int32) (X : gM) (H : Heap) (locs : List Loc) (ls : Array Slot) (cells slots : Nat), cells + 6 ≤ 14 ∧ slots + 36 ≤ 84 → gH D cA ad NL X H → va_S A s.heap H locs → lv_has ls 11 [(0, .ref (ad 0 0)), (1, .int p1), (2, .int p2), (3, .int p3), (4, .int p4), (5, .int p5), (7, .int (1 : Int32)), (10, .int p10)] → Q_line_J178_1 (gal NL) N p1 p2 p3 p4 p5 p10 X = some (rr, XX) → W p l e rm_Q_line s m args below meth c H locs cells slots (MQ below (gQ D cA ad NL (some (.int rr)) XX A) args s 14 84 A) (F0 m 178 ls []) := by
  have hx := C.1
  have hb := C.2.1
  intro p1 p2 p3 p4 p5 p10 X H locs ls cells slots hc hP hS hl hf
  rw [Q_line_J178_1] at hf
  refine lv_iconst (v := 0) hx hb dL_line_178 (by decide) ?_
  exact s_Q_line_J179_1 C hWd htr hW hg hD0 ha0 _ _ _ _ _ _ _ X _ _ _ _ _ ⟨by omega, by omega⟩ hP hS (lv_sub hl [0, 1, 2, 3, 4, 5, 6, 7] rfl) hf

set_option maxRecDepth 100000 in
set_option maxHeartbeats 4000000 in
theorem s_Q_line_J203_0 {p : Program} {l : Launch} {e : Env} {s : State} {m : MethodId} {args : Array Value} {below : List Frame} {meth : Method} {c : Code} {D : va_G} {cA : Nat → ClassId} {ad : Nat → Nat → Nat} {NL : List (Nat × Nat)} {A : Nat → Prop} {rr : Int32} {XX : gM} {N : Nat} (C : gCx p c meth m s args cL_line 11 (some .boolean) RL D cA ad NL A) (hWd : gWd A s) (htr : l.stackTraces = false) (hW : gWf NL) (hg : ∀ n ∈ NL, n.1 < 43) (hD0 : gD (fun _ => True) ad NL) (ha0 : (0, 0) ∈ NL) : ∀ (p1 : Int32) (p2 : Int32) (p3 : Int32) (p4 : Int32) (p5 : Int32) (s0 : Int32) (X : gM) (H : Heap) (locs : List Loc) (ls : Array Slot) (cells slots : Nat), cells + 9 ≤ 14 ∧ slots + 54 ≤ 84 → gH D cA ad NL X H → va_S A s.heap H locs → lv_has ls 11 [(0, .ref (ad 0 0)), (1, .int p1), (2, .int p2), (3, .int p3), (4, .int p4), (5, .int p5), (7, .int (0 : Int32))] → Q_line_J203_0 (gal NL) N p1 p2 p3 p4 p5 s0 X = some (rr, XX) → W p l e rm_Q_line s m args below meth c H locs cells slots (MQ below (gQ D cA ad NL (some (.int rr)) XX A) args s 14 84 A) (F0 m 203 ls [.int s0]) := by
  have hx := C.1
  have hb := C.2.1
  intro p1 p2 p3 p4 p5 s0 X H locs ls cells slots hc hP hS hl hf
  rw [Q_line_J203_0] at hf
  refine lv_istore (i := 6) (lv' := [(6, .int s0), (0, .ref (ad 0 0)), (1, .int p1), (2, .int p2), (3, .int p3), (4, .int p4), (5, .int p5), (7, .int (0 : Int32))]) hx hb dL_line_203 hl (Nat.le_of_ble_eq_true rfl) rfl (fun ls hl => ?_)
  refine lv_iinc (v := (1 : Int32)) (lv' := [(7, .int (1 : Int32)), (6, .int s0), (0, .ref (ad 0 0)), (1, .int p1), (2, .int p2), (3, .int p3), (4, .int p4), (5, .int p5)]) hx hb dL_line_205 hl (k := 7) rfl (by decide) (Nat.le_of_ble_eq_true rfl) rfl (fun ls hl => ?_)
  refine lv_aload_n hx hb dL_line_208 rfl (lv_at hl 2 rfl) ?_
  refine lv_iload_n hx hb dL_line_209 rfl (lv_at hl 3 rfl) ?_
  refine lv_iload hx hb dL_line_210 (lv_at hl 0 rfl) ?_
  refine lv_iconst (v := 1) hx hb dL_line_212 (by decide) ?_
  obtain ⟨r2, X1, h3, hf⟩ := b2_in hf
  refine r_callL (nw := []) (rest := []) C hWd hP hS hl.1 rfl (s_Q_unmixed htr hW hD0 ha0 hg h3) True.intro il_L_unmixed ls_L_65 ⟨rfl, rfl, Nat.le_of_ble_eq_true rfl, Nat.le_of_ble_eq_true rfl⟩ rfl rfl (Nat.le_of_ble_eq_true rfl) ⟨by show _ ≤ (14 : Nat); omega, by show _ ≤ (84 : Nat); omega⟩ dL_line_213 (fun C H locs hP hS => ?_)
  rw [List.append_nil] at C hP
  refine lv_istore (i := 8) (lv' := [(8, .int r2), (7, .int (1 : Int32)), (6, .int s0), (0, .ref (ad 0 0)), (1, .int p1), (2, .int p2), (3, .int p3), (4, .int p4), (5, .int p5)]) hx hb dL_line_216 hl (Nat.le_of_ble_eq_true rfl) rfl (fun ls hl => ?_)
  refine lv_goto (tgt := 67) hx hb dL_line_218 (by decide) ?_
  refine lv_iload hx hb dL_line_67 (lv_at hl 2 rfl) ?_
  refine lv_if_eq (tgt := 221) hx hb dL_line_69 (by decide) (fun c4 => ?_) (fun c4 => ?_)
  · have hf := g_ip c4 hf
    exact s_Q_line_J221 C hWd htr hW hg hD0 ha0 _ _ _ _ _ X1 _ _ _ _ _ ⟨by omega, by omega⟩ hP hS (lv_sub hl [3, 4, 5, 6, 7, 2] rfl) hf
  · have hf := g_in c4 hf
    refine lv_iload hx hb dL_line_72 (lv_at hl 0 rfl) ?_
    refine lv_bipush (v := -8) hx hb dL_line_74 (by decide) ?_
    refine lv_icmp_eq (tgt := 221) hx hb dL_line_76 (by decide) (fun c5 => ?_) (fun c5 => ?_)
    · have hf := g_ip c5 hf
      exact s_Q_line_J221 C hWd htr hW hg hD0 ha0 _ _ _ _ _ X1 _ _ _ _ _ ⟨by omega, by omega⟩ hP hS (lv_sub hl [3, 4, 5, 6, 7, 2] rfl) hf
    · have hf := g_in c5 hf
      refine lv_iload hx hb dL_line_79 (lv_at hl 1 rfl) ?_
      refine lv_iconst (v := 3) hx hb dL_line_81 (by decide) ?_
      refine lv_icmp_ge (tgt := 221) hx hb dL_line_82 (by decide) (fun c6 => ?_) (fun c6 => ?_)
      · exact absurd c6 (by decide)
      refine lv_aload_n hx hb dL_line_85 rfl (lv_at hl 3 rfl) ?_
      refine lv_iload_n hx hb dL_line_86 rfl (lv_at hl 4 rfl) ?_
      refine lv_iconst (v := 0) hx hb dL_line_87 (by decide) ?_
      refine lv_iload hx hb dL_line_88 (lv_at hl 1 rfl) ?_
      refine lv_iload_n hx hb dL_line_90 rfl (lv_at hl 5 rfl) ?_
      obtain ⟨k10, r8, X7, h9, hf⟩ := b3_in hf
      refine r_callX (nw := []) (rest := []) C hWd.1 hWd.2.1 hWd.2.2.1 hP hS hl.1 rfl (gCX_A (s_P_letter htr hW hD0 ha0 hg h9)) True.intro ix_X9_letter iv_X9_letter ls_L_69 ⟨rfl, rfl, Nat.le_of_ble_eq_true rfl, Nat.le_of_ble_eq_true rfl⟩ ha0 (ct_0 _ _ _ _) rfl rfl rfl rfl (Nat.le_of_ble_eq_true rfl) ⟨by show _ ≤ (14 : Nat); omega, by show _ ≤ (84 : Nat); omega⟩ dL_line_91 (fun hk0 C H locs hP hS => ?_) (fun hk0 ce q9 H locs hP hS hce hcv hcl => ?_)
      · subst hk0
        have hf := g_ip rfl hf
        rw [List.append_nil] at C hP
        show W p l e rm_Q_line s m _ below meth c H locs _ _ _ (F0 m 94 ls [.int r8])
        refine lv_istore (i := 9) (lv' := [(9, .int r8), (8, .int r2), (7, .int (1 : Int32)), (6, .int s0), (0, .ref (ad 0 0)), (1, .int p1), (2, .int p2), (3, .int p3), (4, .int p4), (5, .int p5)]) hx hb dL_line_94 hl (Nat.le_of_ble_eq_true rfl) rfl (fun ls hl => ?_)
        refine lv_aload_n hx hb dL_line_96 rfl (lv_at hl 4 rfl) ?_
        refine lv_iload_n hx hb dL_line_97 rfl (lv_at hl 5 rfl) ?_
        refine lv_iconst (v := 0) hx hb dL_line_98 (by decide) ?_
        refine lv_iload hx hb dL_line_99 (lv_at hl 2 rfl) ?_
        refine lv_iload_n hx hb dL_line_101 rfl (lv_at hl 6 rfl) ?_
        obtain ⟨k14, r12, X11, h13, hf⟩ := b3_in hf
        refine r_callX (nw := []) (rest := []) C hWd.1 hWd.2.1 hWd.2.2.1 hP hS hl.1 rfl (gCX_A (s_P_state htr hW hD0 ha0 hg h13)) True.intro ix_X9_state iv_X9_state ls_L_73 ⟨rfl, rfl, Nat.le_of_ble_eq_true rfl, Nat.le_of_ble_eq_true rfl⟩ ha0 (ct_0 _ _ _ _) rfl rfl rfl rfl (Nat.le_of_ble_eq_true rfl) ⟨by show _ ≤ (14 : Nat); omega, by show _ ≤ (84 : Nat); omega⟩ dL_line_102 (fun hk0 C H locs hP hS => ?_) (fun hk0 ce q9 H locs hP hS hce hcv hcl => ?_)
        · subst hk0
          have hf := g_ip rfl hf
          rw [List.append_nil] at C hP
          show W p l e rm_Q_line s m _ below meth c H locs _ _ _ (F0 m 105 ls [.int r12])
          refine lv_istore (i := 10) (lv' := [(10, .int r12), (9, .int r8), (8, .int r2), (7, .int (1 : Int32)), (6, .int s0), (0, .ref (ad 0 0)), (1, .int p1), (2, .int p2), (3, .int p3), (4, .int p4), (5, .int p5)]) hx hb dL_line_105 hl (Nat.le_of_ble_eq_true rfl) rfl (fun ls hl => ?_)
          refine lv_iload hx hb dL_line_107 (lv_at hl 9 rfl) ?_
          refine lv_if_ge (tgt := 131) hx hb dL_line_109 (by decide) (fun c15 => ?_) (fun c15 => ?_)
          · have hf := g_ip c15 hf
            refine lv_iload hx hb dL_line_131 (lv_at hl 2 rfl) ?_
            refine lv_if_ne (tgt := 156) hx hb dL_line_133 (by decide) (fun c16 => ?_) (fun c16 => ?_)
            · have hf := g_in c16 hf
              refine lv_iload hx hb dL_line_156 (lv_at hl 1 rfl) ?_
              refine lv_if_lt (tgt := 178) hx hb dL_line_158 (by decide) (fun c17 => ?_) (fun c17 => ?_)
              · have hf := g_ip c17 hf
                exact s_Q_line_J178_1 C hWd htr hW hg hD0 ha0 _ _ _ _ _ _ X11 _ _ _ _ _ ⟨by omega, by omega⟩ hP hS (lv_sub hl [5, 6, 7, 8, 9, 10, 3, 0] rfl) hf
              · have hf := g_in c17 hf
                refine lv_iload hx hb dL_line_161 (lv_at hl 1 rfl) ?_
                refine lv_bipush (v := 26) hx hb dL_line_163 (by decide) ?_
                refine lv_icmp_ge (tgt := 178) hx hb dL_line_165 (by decide) (fun c18 => ?_) (fun c18 => ?_)
                · have hf := g_ip c18 hf
                  exact s_Q_line_J178_1 C hWd htr hW hg hD0 ha0 _ _ _ _ _ _ X11 _ _ _ _ _ ⟨by omega, by omega⟩ hP hS (lv_sub hl [5, 6, 7, 8, 9, 10, 3, 0] rfl) hf
                · have hf := g_in c18 hf
                  refine lv_iload hx hb dL_line_168 (lv_at hl 0 rfl) ?_
                  refine lv_iconst (v := 2) hx hb dL_line_170 (by decide) ?_
                  refine lv_icmp_lt (tgt := 178) hx hb dL_line_171 (by decide) (fun c19 => ?_) (fun c19 => ?_)
                  · have hf := g_ip c19 hf
                    exact s_Q_line_J178_1 C hWd htr hW hg hD0 ha0 _ _ _ _ _ _ X11 _ _ _ _ _ ⟨by omega, by omega⟩ hP hS (lv_sub hl [5, 6, 7, 8, 9, 10, 3, 0] rfl) hf
                  · have hf := g_in c19 hf
                    refine lv_iconst (v := 1) hx hb dL_line_174 (by decide) ?_
                    refine lv_goto (tgt := 179) hx hb dL_line_175 (by decide) ?_
                    exact s_Q_line_J179_1 C hWd htr hW hg hD0 ha0 _ _ _ _ _ _ _ X11 _ _ _ _ _ ⟨by omega, by omega⟩ hP hS (lv_sub hl [5, 6, 7, 8, 9, 10, 3, 0] rfl) hf
            · have hf := g_ip c16 hf
              refine lv_iload hx hb dL_line_136 (lv_at hl 1 rfl) ?_
              refine lv_iconst (v := -1) hx hb dL_line_138 (by decide) ?_
              refine lv_icmp_ne (tgt := 152) hx hb dL_line_139 (by decide) (fun c20 => ?_) (fun c20 => ?_)
              · have hf := g_in c20 hf
                exact s_Q_line_J152_1 C hWd htr hW hg hD0 ha0 _ _ _ _ _ _ X11 _ _ _ _ _ ⟨by omega, by omega⟩ hP hS (lv_sub hl [5, 6, 7, 8, 9, 10, 3, 0] rfl) hf
              · have hf := g_ip c20 hf
                refine lv_iload hx hb dL_line_142 (lv_at hl 0 rfl) ?_
                refine lv_iconst (v := 1) hx hb dL_line_144 (by decide) ?_
                refine lv_icmp_ne (tgt := 152) hx hb dL_line_145 (by decide) (fun c21 => ?_) (fun c21 => ?_)
                · have hf := g_in c21 hf
                  exact s_Q_line_J152_1 C hWd htr hW hg hD0 ha0 _ _ _ _ _ _ X11 _ _ _ _ _ ⟨by omega, by omega⟩ hP hS (lv_sub hl [5, 6, 7, 8, 9, 10, 3, 0] rfl) hf
                · have hf := g_ip c21 hf
                  refine lv_iconst (v := 1) hx hb dL_line_148 (by decide) ?_
                  refine lv_goto (tgt := 179) hx hb dL_line_149 (by decide) ?_
                  exact s_Q_line_J179_1 C hWd htr hW hg hD0 ha0 _ _ _ _ _ _ _ X11 _ _ _ _ _ ⟨by omega, by omega⟩ hP hS (lv_sub hl [5, 6, 7, 8, 9, 10, 3, 0] rfl) hf
          · have hf := g_in c15 hf
            refine lv_iload hx hb dL_line_112 (lv_at hl 1 rfl) ?_
            refine lv_iconst (v := -1) hx hb dL_line_114 (by decide) ?_
            refine lv_icmp_ne (tgt := 127) hx hb dL_line_115 (by decide) (fun c22 => ?_) (fun c22 => ?_)
            · have hf := g_in c22 hf
              exact s_Q_line_J127_1 C hWd htr hW hg hD0 ha0 _ _ _ _ _ _ X11 _ _ _ _ _ ⟨by omega, by omega⟩ hP hS (lv_sub hl [5, 6, 7, 8, 9, 10, 3, 0] rfl) hf
            · have hf := g_ip c22 hf
              refine lv_iload hx hb dL_line_118 (lv_at hl 0 rfl) ?_
              refine lv_if_ne (tgt := 127) hx hb dL_line_120 (by decide) (fun c23 => ?_) (fun c23 => ?_)
              · have hf := g_in c23 hf
                exact s_Q_line_J127_1 C hWd htr hW hg hD0 ha0 _ _ _ _ _ _ X11 _ _ _ _ _ ⟨by omega, by omega⟩ hP hS (lv_sub hl [5, 6, 7, 8, 9, 10, 3, 0] rfl) hf
              · have hf := g_ip c23 hf
                refine lv_iconst (v := 1) hx hb dL_line_123 (by decide) ?_
                refine lv_goto (tgt := 179) hx hb dL_line_124 (by decide) ?_
                exact s_Q_line_J179_1 C hWd htr hW hg hD0 ha0 _ _ _ _ _ _ _ X11 _ _ _ _ _ ⟨by omega, by omega⟩ hP hS (lv_sub hl [5, 6, 7, 8, 9, 10, 3, 0] rfl) hf
        · have hf := g_in hk0 hf
          cases hf
      · have hf := g_in hk0 hf
        cases hf

set_option maxRecDepth 100000 in
set_option maxHeartbeats 4000000 in
theorem s_Q_line_J198_0 {p : Program} {l : Launch} {e : Env} {s : State} {m : MethodId} {args : Array Value} {below : List Frame} {meth : Method} {c : Code} {D : va_G} {cA : Nat → ClassId} {ad : Nat → Nat → Nat} {NL : List (Nat × Nat)} {A : Nat → Prop} {rr : Int32} {XX : gM} {N : Nat} (C : gCx p c meth m s args cL_line 11 (some .boolean) RL D cA ad NL A) (hWd : gWd A s) (htr : l.stackTraces = false) (hW : gWf NL) (hg : ∀ n ∈ NL, n.1 < 43) (hD0 : gD (fun _ => True) ad NL) (ha0 : (0, 0) ∈ NL) : ∀ (p1 : Int32) (p2 : Int32) (p3 : Int32) (p4 : Int32) (p5 : Int32) (X : gM) (H : Heap) (locs : List Loc) (ls : Array Slot) (cells slots : Nat), cells + 9 ≤ 14 ∧ slots + 54 ≤ 84 → gH D cA ad NL X H → va_S A s.heap H locs → lv_has ls 11 [(0, .ref (ad 0 0)), (1, .int p1), (2, .int p2), (3, .int p3), (4, .int p4), (5, .int p5), (7, .int (0 : Int32))] → Q_line_J198_0 (gal NL) N p1 p2 p3 p4 p5 X = some (rr, XX) → W p l e rm_Q_line s m args below meth c H locs cells slots (MQ below (gQ D cA ad NL (some (.int rr)) XX A) args s 14 84 A) (F0 m 198 ls []) := by
  have hx := C.1
  have hb := C.2.1
  intro p1 p2 p3 p4 p5 X H locs ls cells slots hc hP hS hl hf
  rw [Q_line_J198_0] at hf
  refine lv_iconst (v := 1) hx hb dL_line_198 (by decide) ?_
  refine lv_goto (tgt := 203) hx hb dL_line_199 (by decide) ?_
  exact s_Q_line_J203_0 C hWd htr hW hg hD0 ha0 _ _ _ _ _ _ X _ _ _ _ _ ⟨by omega, by omega⟩ hP hS (lv_sub hl [0, 1, 2, 3, 4, 5, 6] rfl) hf

set_option maxRecDepth 100000 in
set_option maxHeartbeats 4000000 in
theorem s_Q_line_J202_0 {p : Program} {l : Launch} {e : Env} {s : State} {m : MethodId} {args : Array Value} {below : List Frame} {meth : Method} {c : Code} {D : va_G} {cA : Nat → ClassId} {ad : Nat → Nat → Nat} {NL : List (Nat × Nat)} {A : Nat → Prop} {rr : Int32} {XX : gM} {N : Nat} (C : gCx p c meth m s args cL_line 11 (some .boolean) RL D cA ad NL A) (hWd : gWd A s) (htr : l.stackTraces = false) (hW : gWf NL) (hg : ∀ n ∈ NL, n.1 < 43) (hD0 : gD (fun _ => True) ad NL) (ha0 : (0, 0) ∈ NL) : ∀ (p1 : Int32) (p2 : Int32) (p3 : Int32) (p4 : Int32) (p5 : Int32) (X : gM) (H : Heap) (locs : List Loc) (ls : Array Slot) (cells slots : Nat), cells + 9 ≤ 14 ∧ slots + 54 ≤ 84 → gH D cA ad NL X H → va_S A s.heap H locs → lv_has ls 11 [(0, .ref (ad 0 0)), (1, .int p1), (2, .int p2), (3, .int p3), (4, .int p4), (5, .int p5), (7, .int (0 : Int32))] → Q_line_J202_0 (gal NL) N p1 p2 p3 p4 p5 X = some (rr, XX) → W p l e rm_Q_line s m args below meth c H locs cells slots (MQ below (gQ D cA ad NL (some (.int rr)) XX A) args s 14 84 A) (F0 m 202 ls []) := by
  have hx := C.1
  have hb := C.2.1
  intro p1 p2 p3 p4 p5 X H locs ls cells slots hc hP hS hl hf
  rw [Q_line_J202_0] at hf
  refine lv_iconst (v := 0) hx hb dL_line_202 (by decide) ?_
  exact s_Q_line_J203_0 C hWd htr hW hg hD0 ha0 _ _ _ _ _ _ X _ _ _ _ _ ⟨by omega, by omega⟩ hP hS (lv_sub hl [0, 1, 2, 3, 4, 5, 6] rfl) hf

set_option maxRecDepth 100000 in
set_option maxHeartbeats 4000000 in
theorem s_Q_line_J179_0 {p : Program} {l : Launch} {e : Env} {s : State} {m : MethodId} {args : Array Value} {below : List Frame} {meth : Method} {c : Code} {D : va_G} {cA : Nat → ClassId} {ad : Nat → Nat → Nat} {NL : List (Nat × Nat)} {A : Nat → Prop} {rr : Int32} {XX : gM} {N : Nat} (C : gCx p c meth m s args cL_line 11 (some .boolean) RL D cA ad NL A) (hWd : gWd A s) (htr : l.stackTraces = false) (hW : gWf NL) (hg : ∀ n ∈ NL, n.1 < 43) (hD0 : gD (fun _ => True) ad NL) (ha0 : (0, 0) ∈ NL) : ∀ (p1 : Int32) (p2 : Int32) (p3 : Int32) (p4 : Int32) (p5 : Int32) (p10 : Int32) (s0 : Int32) (X : gM) (H : Heap) (locs : List Loc) (ls : Array Slot) (cells slots : Nat), cells + 9 ≤ 14 ∧ slots + 54 ≤ 84 → gH D cA ad NL X H → va_S A s.heap H locs → lv_has ls 11 [(0, .ref (ad 0 0)), (1, .int p1), (2, .int p2), (3, .int p3), (4, .int p4), (5, .int p5), (7, .int (0 : Int32)), (10, .int p10)] → Q_line_J179_0 (gal NL) N p1 p2 p3 p4 p5 p10 s0 X = some (rr, XX) → W p l e rm_Q_line s m args below meth c H locs cells slots (MQ below (gQ D cA ad NL (some (.int rr)) XX A) args s 14 84 A) (F0 m 179 ls [.int s0]) := by
  have hx := C.1
  have hb := C.2.1
  intro p1 p2 p3 p4 p5 p10 s0 X H locs ls cells slots hc hP hS hl hf
  rw [Q_line_J179_0] at hf
  refine lv_istore (i := 6) (lv' := [(6, .int s0), (0, .ref (ad 0 0)), (1, .int p1), (2, .int p2), (3, .int p3), (4, .int p4), (5, .int p5), (7, .int (0 : Int32)), (10, .int p10)]) hx hb dL_line_179 hl (Nat.le_of_ble_eq_true rfl) rfl (fun ls hl => ?_)
  refine lv_iload hx hb dL_line_181 (lv_at hl 0 rfl) ?_
  refine lv_if_eq (tgt := 202) hx hb dL_line_183 (by decide) (fun c1 => ?_) (fun c1 => ?_)
  · have hf := g_ip c1 hf
    exact s_Q_line_J202_0 C hWd htr hW hg hD0 ha0 _ _ _ _ _ X _ _ _ _ _ ⟨by omega, by omega⟩ hP hS (lv_sub hl [1, 2, 3, 4, 5, 6, 7] rfl) hf
  · have hf := g_in c1 hf
    refine lv_iload hx hb dL_line_186 (lv_at hl 8 rfl) ?_
    refine lv_iconst (v := 5) hx hb dL_line_188 (by decide) ?_
    refine lv_icmp_ne (tgt := 198) hx hb dL_line_189 (by decide) (fun c2 => ?_) (fun c2 => ?_)
    · have hf := g_in c2 hf
      exact s_Q_line_J198_0 C hWd htr hW hg hD0 ha0 _ _ _ _ _ X _ _ _ _ _ ⟨by omega, by omega⟩ hP hS (lv_sub hl [1, 2, 3, 4, 5, 6, 7] rfl) hf
    · have hf := g_ip c2 hf
      refine lv_iload hx hb dL_line_192 (lv_at hl 6 rfl) ?_
      refine lv_iconst (v := 1) hx hb dL_line_194 (by decide) ?_
      refine lv_icmp_le (tgt := 202) hx hb dL_line_195 (by decide) (fun c3 => ?_) (fun c3 => ?_)
      · have hf := g_ip c3 hf
        exact s_Q_line_J202_0 C hWd htr hW hg hD0 ha0 _ _ _ _ _ X _ _ _ _ _ ⟨by omega, by omega⟩ hP hS (lv_sub hl [1, 2, 3, 4, 5, 6, 7] rfl) hf
      · have hf := g_in c3 hf
        exact s_Q_line_J198_0 C hWd htr hW hg hD0 ha0 _ _ _ _ _ X _ _ _ _ _ ⟨by omega, by omega⟩ hP hS (lv_sub hl [1, 2, 3, 4, 5, 6, 7] rfl) hf

set_option maxRecDepth 100000 in
set_option maxHeartbeats 4000000 in
theorem s_Q_line_J127_0 {p : Program} {l : Launch} {e : Env} {s : State} {m : MethodId} {args : Array Value} {below : List Frame} {meth : Method} {c : Code} {D : va_G} {cA : Nat → ClassId} {ad : Nat → Nat → Nat} {NL : List (Nat × Nat)} {A : Nat → Prop} {rr : Int32} {XX : gM} {N : Nat} (C : gCx p c meth m s args cL_line 11 (some .boolean) RL D cA ad NL A) (hWd : gWd A s) (htr : l.stackTraces = false) (hW : gWf NL) (hg : ∀ n ∈ NL, n.1 < 43) (hD0 : gD (fun _ => True) ad NL) (ha0 : (0, 0) ∈ NL) : ∀ (p1 : Int32) (p2 : Int32) (p3 : Int32) (p4 : Int32) (p5 : Int32) (p10 : Int32) (X : gM) (H : Heap) (locs : List Loc) (ls : Array Slot) (cells slots : Nat), cells + 9 ≤ 14 ∧ slots + 54 ≤ 84 → gH D cA ad NL X H → va_S A s.heap H locs → lv_has ls 11 [(0, .ref (ad 0 0)), (1, .int p1), (2, .int p2), (3, .int p3), (4, .int p4), (5, .int p5), (7, .int (0 : Int32)), (10, .int p10)] → Q_line_J127_0 (gal NL) N p1 p2 p3 p4 p5 p10 X = some (rr, XX) → W p l e rm_Q_line s m args below meth c H locs cells slots (MQ below (gQ D cA ad NL (some (.int rr)) XX A) args s 14 84 A) (F0 m 127 ls []) := by
  have hx := C.1
  have hb := C.2.1
  intro p1 p2 p3 p4 p5 p10 X H locs ls cells slots hc hP hS hl hf
  rw [Q_line_J127_0] at hf
  refine lv_iconst (v := 0) hx hb dL_line_127 (by decide) ?_
  refine lv_goto (tgt := 179) hx hb dL_line_128 (by decide) ?_
  exact s_Q_line_J179_0 C hWd htr hW hg hD0 ha0 _ _ _ _ _ _ _ X _ _ _ _ _ ⟨by omega, by omega⟩ hP hS (lv_sub hl [0, 1, 2, 3, 4, 5, 6, 7] rfl) hf

set_option maxRecDepth 100000 in
set_option maxHeartbeats 4000000 in
theorem s_Q_line_J152_0 {p : Program} {l : Launch} {e : Env} {s : State} {m : MethodId} {args : Array Value} {below : List Frame} {meth : Method} {c : Code} {D : va_G} {cA : Nat → ClassId} {ad : Nat → Nat → Nat} {NL : List (Nat × Nat)} {A : Nat → Prop} {rr : Int32} {XX : gM} {N : Nat} (C : gCx p c meth m s args cL_line 11 (some .boolean) RL D cA ad NL A) (hWd : gWd A s) (htr : l.stackTraces = false) (hW : gWf NL) (hg : ∀ n ∈ NL, n.1 < 43) (hD0 : gD (fun _ => True) ad NL) (ha0 : (0, 0) ∈ NL) : ∀ (p1 : Int32) (p2 : Int32) (p3 : Int32) (p4 : Int32) (p5 : Int32) (p10 : Int32) (X : gM) (H : Heap) (locs : List Loc) (ls : Array Slot) (cells slots : Nat), cells + 9 ≤ 14 ∧ slots + 54 ≤ 84 → gH D cA ad NL X H → va_S A s.heap H locs → lv_has ls 11 [(0, .ref (ad 0 0)), (1, .int p1), (2, .int p2), (3, .int p3), (4, .int p4), (5, .int p5), (7, .int (0 : Int32)), (10, .int p10)] → Q_line_J152_0 (gal NL) N p1 p2 p3 p4 p5 p10 X = some (rr, XX) → W p l e rm_Q_line s m args below meth c H locs cells slots (MQ below (gQ D cA ad NL (some (.int rr)) XX A) args s 14 84 A) (F0 m 152 ls []) := by
  have hx := C.1
  have hb := C.2.1
  intro p1 p2 p3 p4 p5 p10 X H locs ls cells slots hc hP hS hl hf
  rw [Q_line_J152_0] at hf
  refine lv_iconst (v := 0) hx hb dL_line_152 (by decide) ?_
  refine lv_goto (tgt := 179) hx hb dL_line_153 (by decide) ?_
  exact s_Q_line_J179_0 C hWd htr hW hg hD0 ha0 _ _ _ _ _ _ _ X _ _ _ _ _ ⟨by omega, by omega⟩ hP hS (lv_sub hl [0, 1, 2, 3, 4, 5, 6, 7] rfl) hf

set_option maxRecDepth 100000 in
set_option maxHeartbeats 4000000 in
theorem s_Q_line_J178_0 {p : Program} {l : Launch} {e : Env} {s : State} {m : MethodId} {args : Array Value} {below : List Frame} {meth : Method} {c : Code} {D : va_G} {cA : Nat → ClassId} {ad : Nat → Nat → Nat} {NL : List (Nat × Nat)} {A : Nat → Prop} {rr : Int32} {XX : gM} {N : Nat} (C : gCx p c meth m s args cL_line 11 (some .boolean) RL D cA ad NL A) (hWd : gWd A s) (htr : l.stackTraces = false) (hW : gWf NL) (hg : ∀ n ∈ NL, n.1 < 43) (hD0 : gD (fun _ => True) ad NL) (ha0 : (0, 0) ∈ NL) : ∀ (p1 : Int32) (p2 : Int32) (p3 : Int32) (p4 : Int32) (p5 : Int32) (p10 : Int32) (X : gM) (H : Heap) (locs : List Loc) (ls : Array Slot) (cells slots : Nat), cells + 9 ≤ 14 ∧ slots + 54 ≤ 84 → gH D cA ad NL X H → va_S A s.heap H locs → lv_has ls 11 [(0, .ref (ad 0 0)), (1, .int p1), (2, .int p2), (3, .int p3), (4, .int p4), (5, .int p5), (7, .int (0 : Int32)), (10, .int p10)] → Q_line_J178_0 (gal NL) N p1 p2 p3 p4 p5 p10 X = some (rr, XX) → W p l e rm_Q_line s m args below meth c H locs cells slots (MQ below (gQ D cA ad NL (some (.int rr)) XX A) args s 14 84 A) (F0 m 178 ls []) := by
  have hx := C.1
  have hb := C.2.1
  intro p1 p2 p3 p4 p5 p10 X H locs ls cells slots hc hP hS hl hf
  rw [Q_line_J178_0] at hf
  refine lv_iconst (v := 0) hx hb dL_line_178 (by decide) ?_
  exact s_Q_line_J179_0 C hWd htr hW hg hD0 ha0 _ _ _ _ _ _ _ X _ _ _ _ _ ⟨by omega, by omega⟩ hP hS (lv_sub hl [0, 1, 2, 3, 4, 5, 6, 7] rfl) hf

set_option maxRecDepth 100000 in
set_option maxHeartbeats 4000000 in
theorem s_Q_line_J52 {p : Program} {l : Launch} {e : Env} {s : State} {m : MethodId} {args : Array Value} {below : List Frame} {meth : Method} {c : Code} {D : va_G} {cA : Nat → ClassId} {ad : Nat → Nat → Nat} {NL : List (Nat × Nat)} {A : Nat → Prop} {rr : Int32} {XX : gM} {N : Nat} (C : gCx p c meth m s args cL_line 11 (some .boolean) RL D cA ad NL A) (hWd : gWd A s) (htr : l.stackTraces = false) (hW : gWf NL) (hg : ∀ n ∈ NL, n.1 < 43) (hD0 : gD (fun _ => True) ad NL) (ha0 : (0, 0) ∈ NL) : ∀ (p1 : Int32) (p2 : Int32) (p3 : Int32) (p4 : Int32) (p5 : Int32) (s0 : Int32) (X : gM) (H : Heap) (locs : List Loc) (ls : Array Slot) (cells slots : Nat), cells + 12 ≤ 14 ∧ slots + 72 ≤ 84 → gH D cA ad NL X H → va_S A s.heap H locs → lv_has ls 11 [(0, .ref (ad 0 0)), (1, .int p1), (2, .int p2), (3, .int p3), (4, .int p4), (5, .int p5)] → Q_line_J52 (gal NL) N p1 p2 p3 p4 p5 s0 X = some (rr, XX) → W p l e rm_Q_line s m args below meth c H locs cells slots (MQ below (gQ D cA ad NL (some (.int rr)) XX A) args s 14 84 A) (F0 m 52 ls [.int s0]) := by
  have hx := C.1
  have hb := C.2.1
  intro p1 p2 p3 p4 p5 s0 X H locs ls cells slots hc hP hS hl hf
  rw [Q_line_J52] at hf
  refine lv_istore (i := 6) (lv' := [(6, .int s0), (0, .ref (ad 0 0)), (1, .int p1), (2, .int p2), (3, .int p3), (4, .int p4), (5, .int p5)]) hx hb dL_line_52 hl (Nat.le_of_ble_eq_true rfl) rfl (fun ls hl => ?_)
  refine lv_iconst (v := 0) hx hb dL_line_54 (by decide) ?_
  refine lv_istore (i := 7) (lv' := [(7, .int (0 : Int32)), (6, .int s0), (0, .ref (ad 0 0)), (1, .int p1), (2, .int p2), (3, .int p3), (4, .int p4), (5, .int p5)]) hx hb dL_line_55 hl (Nat.le_of_ble_eq_true rfl) rfl (fun ls hl => ?_)
  refine lv_aload_n hx hb dL_line_57 rfl (lv_at hl 2 rfl) ?_
  refine lv_iload_n hx hb dL_line_58 rfl (lv_at hl 3 rfl) ?_
  refine lv_iload hx hb dL_line_59 (lv_at hl 0 rfl) ?_
  refine lv_iconst (v := 1) hx hb dL_line_61 (by decide) ?_
  obtain ⟨r2, X1, h3, hf⟩ := b2_in hf
  refine r_callL (nw := []) (rest := []) C hWd hP hS hl.1 rfl (s_Q_unmixed htr hW hD0 ha0 hg h3) True.intro il_L_unmixed ls_L_65 ⟨rfl, rfl, Nat.le_of_ble_eq_true rfl, Nat.le_of_ble_eq_true rfl⟩ rfl rfl (Nat.le_of_ble_eq_true rfl) ⟨by show _ ≤ (14 : Nat); omega, by show _ ≤ (84 : Nat); omega⟩ dL_line_62 (fun C H locs hP hS => ?_)
  rw [List.append_nil] at C hP
  refine lv_istore (i := 8) (lv' := [(8, .int r2), (7, .int (0 : Int32)), (6, .int s0), (0, .ref (ad 0 0)), (1, .int p1), (2, .int p2), (3, .int p3), (4, .int p4), (5, .int p5)]) hx hb dL_line_65 hl (Nat.le_of_ble_eq_true rfl) rfl (fun ls hl => ?_)
  refine lv_iload hx hb dL_line_67 (lv_at hl 2 rfl) ?_
  refine lv_if_eq (tgt := 221) hx hb dL_line_69 (by decide) (fun c4 => ?_) (fun c4 => ?_)
  · have hf := g_ip c4 hf
    exact s_Q_line_J221 C hWd htr hW hg hD0 ha0 _ _ _ _ _ X1 _ _ _ _ _ ⟨by omega, by omega⟩ hP hS (lv_sub hl [3, 4, 5, 6, 7, 2] rfl) hf
  · have hf := g_in c4 hf
    refine lv_iload hx hb dL_line_72 (lv_at hl 0 rfl) ?_
    refine lv_bipush (v := -8) hx hb dL_line_74 (by decide) ?_
    refine lv_icmp_eq (tgt := 221) hx hb dL_line_76 (by decide) (fun c5 => ?_) (fun c5 => ?_)
    · have hf := g_ip c5 hf
      exact s_Q_line_J221 C hWd htr hW hg hD0 ha0 _ _ _ _ _ X1 _ _ _ _ _ ⟨by omega, by omega⟩ hP hS (lv_sub hl [3, 4, 5, 6, 7, 2] rfl) hf
    · have hf := g_in c5 hf
      refine lv_iload hx hb dL_line_79 (lv_at hl 1 rfl) ?_
      refine lv_iconst (v := 3) hx hb dL_line_81 (by decide) ?_
      refine lv_icmp_ge (tgt := 221) hx hb dL_line_82 (by decide) (fun c6 => ?_) (fun c6 => ?_)
      · exact absurd c6 (by decide)
      refine lv_aload_n hx hb dL_line_85 rfl (lv_at hl 3 rfl) ?_
      refine lv_iload_n hx hb dL_line_86 rfl (lv_at hl 4 rfl) ?_
      refine lv_iconst (v := 0) hx hb dL_line_87 (by decide) ?_
      refine lv_iload hx hb dL_line_88 (lv_at hl 1 rfl) ?_
      refine lv_iload_n hx hb dL_line_90 rfl (lv_at hl 5 rfl) ?_
      obtain ⟨k10, r8, X7, h9, hf⟩ := b3_in hf
      refine r_callX (nw := []) (rest := []) C hWd.1 hWd.2.1 hWd.2.2.1 hP hS hl.1 rfl (gCX_A (s_P_letter htr hW hD0 ha0 hg h9)) True.intro ix_X9_letter iv_X9_letter ls_L_69 ⟨rfl, rfl, Nat.le_of_ble_eq_true rfl, Nat.le_of_ble_eq_true rfl⟩ ha0 (ct_0 _ _ _ _) rfl rfl rfl rfl (Nat.le_of_ble_eq_true rfl) ⟨by show _ ≤ (14 : Nat); omega, by show _ ≤ (84 : Nat); omega⟩ dL_line_91 (fun hk0 C H locs hP hS => ?_) (fun hk0 ce q9 H locs hP hS hce hcv hcl => ?_)
      · subst hk0
        have hf := g_ip rfl hf
        rw [List.append_nil] at C hP
        show W p l e rm_Q_line s m _ below meth c H locs _ _ _ (F0 m 94 ls [.int r8])
        refine lv_istore (i := 9) (lv' := [(9, .int r8), (8, .int r2), (7, .int (0 : Int32)), (6, .int s0), (0, .ref (ad 0 0)), (1, .int p1), (2, .int p2), (3, .int p3), (4, .int p4), (5, .int p5)]) hx hb dL_line_94 hl (Nat.le_of_ble_eq_true rfl) rfl (fun ls hl => ?_)
        refine lv_aload_n hx hb dL_line_96 rfl (lv_at hl 4 rfl) ?_
        refine lv_iload_n hx hb dL_line_97 rfl (lv_at hl 5 rfl) ?_
        refine lv_iconst (v := 0) hx hb dL_line_98 (by decide) ?_
        refine lv_iload hx hb dL_line_99 (lv_at hl 2 rfl) ?_
        refine lv_iload_n hx hb dL_line_101 rfl (lv_at hl 6 rfl) ?_
        obtain ⟨k14, r12, X11, h13, hf⟩ := b3_in hf
        refine r_callX (nw := []) (rest := []) C hWd.1 hWd.2.1 hWd.2.2.1 hP hS hl.1 rfl (gCX_A (s_P_state htr hW hD0 ha0 hg h13)) True.intro ix_X9_state iv_X9_state ls_L_73 ⟨rfl, rfl, Nat.le_of_ble_eq_true rfl, Nat.le_of_ble_eq_true rfl⟩ ha0 (ct_0 _ _ _ _) rfl rfl rfl rfl (Nat.le_of_ble_eq_true rfl) ⟨by show _ ≤ (14 : Nat); omega, by show _ ≤ (84 : Nat); omega⟩ dL_line_102 (fun hk0 C H locs hP hS => ?_) (fun hk0 ce q9 H locs hP hS hce hcv hcl => ?_)
        · subst hk0
          have hf := g_ip rfl hf
          rw [List.append_nil] at C hP
          show W p l e rm_Q_line s m _ below meth c H locs _ _ _ (F0 m 105 ls [.int r12])
          refine lv_istore (i := 10) (lv' := [(10, .int r12), (9, .int r8), (8, .int r2), (7, .int (0 : Int32)), (6, .int s0), (0, .ref (ad 0 0)), (1, .int p1), (2, .int p2), (3, .int p3), (4, .int p4), (5, .int p5)]) hx hb dL_line_105 hl (Nat.le_of_ble_eq_true rfl) rfl (fun ls hl => ?_)
          refine lv_iload hx hb dL_line_107 (lv_at hl 9 rfl) ?_
          refine lv_if_ge (tgt := 131) hx hb dL_line_109 (by decide) (fun c15 => ?_) (fun c15 => ?_)
          · have hf := g_ip c15 hf
            refine lv_iload hx hb dL_line_131 (lv_at hl 2 rfl) ?_
            refine lv_if_ne (tgt := 156) hx hb dL_line_133 (by decide) (fun c16 => ?_) (fun c16 => ?_)
            · have hf := g_in c16 hf
              refine lv_iload hx hb dL_line_156 (lv_at hl 1 rfl) ?_
              refine lv_if_lt (tgt := 178) hx hb dL_line_158 (by decide) (fun c17 => ?_) (fun c17 => ?_)
              · have hf := g_ip c17 hf
                exact s_Q_line_J178_0 C hWd htr hW hg hD0 ha0 _ _ _ _ _ _ X11 _ _ _ _ _ ⟨by omega, by omega⟩ hP hS (lv_sub hl [5, 6, 7, 8, 9, 10, 3, 0] rfl) hf
              · have hf := g_in c17 hf
                refine lv_iload hx hb dL_line_161 (lv_at hl 1 rfl) ?_
                refine lv_bipush (v := 26) hx hb dL_line_163 (by decide) ?_
                refine lv_icmp_ge (tgt := 178) hx hb dL_line_165 (by decide) (fun c18 => ?_) (fun c18 => ?_)
                · have hf := g_ip c18 hf
                  exact s_Q_line_J178_0 C hWd htr hW hg hD0 ha0 _ _ _ _ _ _ X11 _ _ _ _ _ ⟨by omega, by omega⟩ hP hS (lv_sub hl [5, 6, 7, 8, 9, 10, 3, 0] rfl) hf
                · have hf := g_in c18 hf
                  refine lv_iload hx hb dL_line_168 (lv_at hl 0 rfl) ?_
                  refine lv_iconst (v := 2) hx hb dL_line_170 (by decide) ?_
                  refine lv_icmp_lt (tgt := 178) hx hb dL_line_171 (by decide) (fun c19 => ?_) (fun c19 => ?_)
                  · have hf := g_ip c19 hf
                    exact s_Q_line_J178_0 C hWd htr hW hg hD0 ha0 _ _ _ _ _ _ X11 _ _ _ _ _ ⟨by omega, by omega⟩ hP hS (lv_sub hl [5, 6, 7, 8, 9, 10, 3, 0] rfl) hf
                  · have hf := g_in c19 hf
                    refine lv_iconst (v := 1) hx hb dL_line_174 (by decide) ?_
                    refine lv_goto (tgt := 179) hx hb dL_line_175 (by decide) ?_
                    exact s_Q_line_J179_0 C hWd htr hW hg hD0 ha0 _ _ _ _ _ _ _ X11 _ _ _ _ _ ⟨by omega, by omega⟩ hP hS (lv_sub hl [5, 6, 7, 8, 9, 10, 3, 0] rfl) hf
            · have hf := g_ip c16 hf
              refine lv_iload hx hb dL_line_136 (lv_at hl 1 rfl) ?_
              refine lv_iconst (v := -1) hx hb dL_line_138 (by decide) ?_
              refine lv_icmp_ne (tgt := 152) hx hb dL_line_139 (by decide) (fun c20 => ?_) (fun c20 => ?_)
              · have hf := g_in c20 hf
                exact s_Q_line_J152_0 C hWd htr hW hg hD0 ha0 _ _ _ _ _ _ X11 _ _ _ _ _ ⟨by omega, by omega⟩ hP hS (lv_sub hl [5, 6, 7, 8, 9, 10, 3, 0] rfl) hf
              · have hf := g_ip c20 hf
                refine lv_iload hx hb dL_line_142 (lv_at hl 0 rfl) ?_
                refine lv_iconst (v := 1) hx hb dL_line_144 (by decide) ?_
                refine lv_icmp_ne (tgt := 152) hx hb dL_line_145 (by decide) (fun c21 => ?_) (fun c21 => ?_)
                · have hf := g_in c21 hf
                  exact s_Q_line_J152_0 C hWd htr hW hg hD0 ha0 _ _ _ _ _ _ X11 _ _ _ _ _ ⟨by omega, by omega⟩ hP hS (lv_sub hl [5, 6, 7, 8, 9, 10, 3, 0] rfl) hf
                · have hf := g_ip c21 hf
                  refine lv_iconst (v := 1) hx hb dL_line_148 (by decide) ?_
                  refine lv_goto (tgt := 179) hx hb dL_line_149 (by decide) ?_
                  exact s_Q_line_J179_0 C hWd htr hW hg hD0 ha0 _ _ _ _ _ _ _ X11 _ _ _ _ _ ⟨by omega, by omega⟩ hP hS (lv_sub hl [5, 6, 7, 8, 9, 10, 3, 0] rfl) hf
          · have hf := g_in c15 hf
            refine lv_iload hx hb dL_line_112 (lv_at hl 1 rfl) ?_
            refine lv_iconst (v := -1) hx hb dL_line_114 (by decide) ?_
            refine lv_icmp_ne (tgt := 127) hx hb dL_line_115 (by decide) (fun c22 => ?_) (fun c22 => ?_)
            · have hf := g_in c22 hf
              exact s_Q_line_J127_0 C hWd htr hW hg hD0 ha0 _ _ _ _ _ _ X11 _ _ _ _ _ ⟨by omega, by omega⟩ hP hS (lv_sub hl [5, 6, 7, 8, 9, 10, 3, 0] rfl) hf
            · have hf := g_ip c22 hf
              refine lv_iload hx hb dL_line_118 (lv_at hl 0 rfl) ?_
              refine lv_if_ne (tgt := 127) hx hb dL_line_120 (by decide) (fun c23 => ?_) (fun c23 => ?_)
              · have hf := g_in c23 hf
                exact s_Q_line_J127_0 C hWd htr hW hg hD0 ha0 _ _ _ _ _ _ X11 _ _ _ _ _ ⟨by omega, by omega⟩ hP hS (lv_sub hl [5, 6, 7, 8, 9, 10, 3, 0] rfl) hf
              · have hf := g_ip c23 hf
                refine lv_iconst (v := 1) hx hb dL_line_123 (by decide) ?_
                refine lv_goto (tgt := 179) hx hb dL_line_124 (by decide) ?_
                exact s_Q_line_J179_0 C hWd htr hW hg hD0 ha0 _ _ _ _ _ _ _ X11 _ _ _ _ _ ⟨by omega, by omega⟩ hP hS (lv_sub hl [5, 6, 7, 8, 9, 10, 3, 0] rfl) hf
        · have hf := g_in hk0 hf
          cases hf
      · have hf := g_in hk0 hf
        cases hf

set_option maxRecDepth 100000 in
set_option maxHeartbeats 4000000 in
theorem s_Q_line_J38 {p : Program} {l : Launch} {e : Env} {s : State} {m : MethodId} {args : Array Value} {below : List Frame} {meth : Method} {c : Code} {D : va_G} {cA : Nat → ClassId} {ad : Nat → Nat → Nat} {NL : List (Nat × Nat)} {A : Nat → Prop} {rr : Int32} {XX : gM} {N : Nat} (C : gCx p c meth m s args cL_line 11 (some .boolean) RL D cA ad NL A) (hWd : gWd A s) (htr : l.stackTraces = false) (hW : gWf NL) (hg : ∀ n ∈ NL, n.1 < 43) (hD0 : gD (fun _ => True) ad NL) (ha0 : (0, 0) ∈ NL) : ∀ (p1 : Int32) (p2 : Int32) (p3 : Int32) (p4 : Int32) (p5 : Int32) (X : gM) (H : Heap) (locs : List Loc) (ls : Array Slot) (cells slots : Nat), cells + 12 ≤ 14 ∧ slots + 72 ≤ 84 → gH D cA ad NL X H → va_S A s.heap H locs → lv_has ls 11 [(0, .ref (ad 0 0)), (1, .int p1), (2, .int p2), (3, .int p3), (4, .int p4), (5, .int p5)] → Q_line_J38 (gal NL) N p1 p2 p3 p4 p5 X = some (rr, XX) → W p l e rm_Q_line s m args below meth c H locs cells slots (MQ below (gQ D cA ad NL (some (.int rr)) XX A) args s 14 84 A) (F0 m 38 ls []) := by
  have hx := C.1
  have hb := C.2.1
  intro p1 p2 p3 p4 p5 X H locs ls cells slots hc hP hS hl hf
  rw [Q_line_J38] at hf
  refine lv_iconst (v := 0) hx hb dL_line_38 (by decide) ?_
  refine lv_goto (tgt := 52) hx hb dL_line_39 (by decide) ?_
  exact s_Q_line_J52 C hWd htr hW hg hD0 ha0 _ _ _ _ _ _ X _ _ _ _ _ ⟨by omega, by omega⟩ hP hS (lv_sub hl [0, 1, 2, 3, 4, 5] rfl) hf

set_option maxRecDepth 100000 in
set_option maxHeartbeats 4000000 in
theorem s_Q_line {l : Launch} {D : va_G} {cA : Nat → ClassId} {ad : Nat → Nat → Nat} {NL : List (Nat × Nat)} {N sz : Nat} {p1 : Int32} {p2 : Int32} {p3 : Int32} {X : gM} {rr : Int32} {XX : gM} (htr : l.stackTraces = false) (hW : gWf NL) (hD0 : gD (fun _ => True) ad NL) (ha0 : (0, 0) ∈ NL) (hg : ∀ n ∈ NL, n.1 < 43) (hf : Q_line (gal NL) N p1 p2 p3 X = some (rr, XX)) : gCM l yL_line cL_line 11 (some .boolean) rm_Q_line 14 84 D cA ad NL [.ref (ad 0 0), .int p1, .int p2, .int p3] X rr XX sz := by
  refine g_ofM (by decide) rfl hD0 (Nat.le_of_ble_eq_true rfl) rfl (fun p e s m below meth c ls hsz C hWd hP hS hl => ?_)
  have hx := C.1
  have hb := C.2.1
  rw [Q_line] at hf
  have hl := lv_sub hl [0, 1, 2, 3] rfl
  refine lv_aload_n hx hb dL_line_0 rfl (lv_at hl 0 rfl) ?_
  refine lv_iload_n hx hb dL_line_1 rfl (lv_at hl 1 rfl) ?_
  refine lv_iconst (v := 0) hx hb dL_line_2 (by decide) ?_
  refine lv_iload_n hx hb dL_line_3 rfl (lv_at hl 2 rfl) ?_
  obtain ⟨k4, r2, X1, h3, hf⟩ := b3_in hf
  refine r_callX (nw := []) (rest := []) C hWd.1 hWd.2.1 hWd.2.2.1 hP hS hl.1 rfl (gCX_A (s_P_weight htr hW hD0 ha0 hg h3)) True.intro ix_X9_weight iv_X9_weight ls_L_58 ⟨rfl, rfl, Nat.le_of_ble_eq_true rfl, Nat.le_of_ble_eq_true rfl⟩ ha0 (ct_0 _ _ _ _) rfl rfl rfl rfl (Nat.le_of_ble_eq_true rfl) ⟨by show _ ≤ (14 : Nat); omega, by show _ ≤ (84 : Nat); omega⟩ dL_line_4 (fun hk0 C H locs hP hS => ?_) (fun hk0 ce q9 H locs hP hS hce hcv hcl => ?_)
  · subst hk0
    have hf := g_ip rfl hf
    rw [List.append_nil] at C hP
    show W p l e rm_Q_line s m _ below meth c H locs _ _ _ (F0 m 7 ls [.int r2])
    refine lv_istore (i := 4) (lv' := [(4, .int r2), (0, .ref (ad 0 0)), (1, .int p1), (2, .int p2), (3, .int p3)]) hx hb dL_line_7 hl (Nat.le_of_ble_eq_true rfl) rfl (fun ls hl => ?_)
    refine lv_aload_n hx hb dL_line_9 rfl (lv_at hl 1 rfl) ?_
    refine lv_iload_n hx hb dL_line_10 rfl (lv_at hl 2 rfl) ?_
    refine lv_iconst (v := 0) hx hb dL_line_11 (by decide) ?_
    refine lv_iload_n hx hb dL_line_12 rfl (lv_at hl 3 rfl) ?_
    obtain ⟨k8, r6, X5, h7, hf⟩ := b3_in hf
    refine r_callX (nw := []) (rest := []) C hWd.1 hWd.2.1 hWd.2.2.1 hP hS hl.1 rfl (gCX_A (s_P_readings htr hW hD0 ha0 hg h7)) True.intro ix_X9_readings iv_X9_readings ls_L_62 ⟨rfl, rfl, Nat.le_of_ble_eq_true rfl, Nat.le_of_ble_eq_true rfl⟩ ha0 (ct_0 _ _ _ _) rfl rfl rfl rfl (Nat.le_of_ble_eq_true rfl) ⟨by show _ ≤ (14 : Nat); omega, by show _ ≤ (84 : Nat); omega⟩ dL_line_13 (fun hk0 C H locs hP hS => ?_) (fun hk0 ce q9 H locs hP hS hce hcv hcl => ?_)
    · subst hk0
      have hf := g_ip rfl hf
      rw [List.append_nil] at C hP
      show W p l e rm_Q_line s m _ below meth c H locs _ _ _ (F0 m 16 ls [.int r6])
      refine lv_istore (i := 5) (lv' := [(5, .int r6), (4, .int r2), (0, .ref (ad 0 0)), (1, .int p1), (2, .int p2), (3, .int p3)]) hx hb dL_line_16 hl (Nat.le_of_ble_eq_true rfl) rfl (fun ls hl => ?_)
      refine lv_iload hx hb dL_line_18 (lv_at hl 1 rfl) ?_
      refine lv_if_ge (tgt := 42) hx hb dL_line_20 (by decide) (fun c9 => ?_) (fun c9 => ?_)
      · have hf := g_ip c9 hf
        refine lv_iload hx hb dL_line_42 (lv_at hl 0 rfl) ?_
        refine lv_if_le (tgt := 51) hx hb dL_line_44 (by decide) (fun c10 => ?_) (fun c10 => ?_)
        · have hf := g_ip c10 hf
          refine lv_iconst (v := 0) hx hb dL_line_51 (by decide) ?_
          exact s_Q_line_J52 C hWd htr hW hg hD0 ha0 _ _ _ _ _ _ X5 _ _ _ _ _ ⟨by omega, by omega⟩ hP hS (lv_sub hl [2, 3, 4, 5, 1, 0] rfl) hf
        · have hf := g_in c10 hf
          refine lv_iconst (v := 1) hx hb dL_line_47 (by decide) ?_
          refine lv_goto (tgt := 52) hx hb dL_line_48 (by decide) ?_
          exact s_Q_line_J52 C hWd htr hW hg hD0 ha0 _ _ _ _ _ _ X5 _ _ _ _ _ ⟨by omega, by omega⟩ hP hS (lv_sub hl [2, 3, 4, 5, 1, 0] rfl) hf
      · have hf := g_in c9 hf
        refine lv_iload hx hb dL_line_23 (lv_at hl 1 rfl) ?_
        refine lv_iconst (v := -1) hx hb dL_line_25 (by decide) ?_
        refine lv_icmp_ne (tgt := 38) hx hb dL_line_26 (by decide) (fun c11 => ?_) (fun c11 => ?_)
        · have hf := g_in c11 hf
          exact s_Q_line_J38 C hWd htr hW hg hD0 ha0 _ _ _ _ _ X5 _ _ _ _ _ ⟨by omega, by omega⟩ hP hS (lv_sub hl [2, 3, 4, 5, 1, 0] rfl) hf
        · have hf := g_ip c11 hf
          refine lv_iload hx hb dL_line_29 (lv_at hl 0 rfl) ?_
          refine lv_if_ne (tgt := 38) hx hb dL_line_31 (by decide) (fun c12 => ?_) (fun c12 => ?_)
          · have hf := g_in c12 hf
            exact s_Q_line_J38 C hWd htr hW hg hD0 ha0 _ _ _ _ _ X5 _ _ _ _ _ ⟨by omega, by omega⟩ hP hS (lv_sub hl [2, 3, 4, 5, 1, 0] rfl) hf
          · have hf := g_ip c12 hf
            refine lv_iconst (v := 1) hx hb dL_line_34 (by decide) ?_
            refine lv_goto (tgt := 52) hx hb dL_line_35 (by decide) ?_
            exact s_Q_line_J52 C hWd htr hW hg hD0 ha0 _ _ _ _ _ _ X5 _ _ _ _ _ ⟨by omega, by omega⟩ hP hS (lv_sub hl [2, 3, 4, 5, 1, 0] rfl) hf
    · have hf := g_in hk0 hf
      cases hf
  · have hf := g_in hk0 hf
    cases hf

