def rm_X10_findsHands : Room := { frames := 1, cells := 0, slots := 0, locals := 25 }
set_option maxRecDepth 100000 in
set_option maxHeartbeats 4000000 in
theorem s_X10_findsHands_J104 {p : Program} {l : Launch} {e : Env} {s : State} {m : MethodId} {args : Array Value} {below : List Frame} {meth : Method} {c : Code} {D : va_G} {cA : Nat → ClassId} {ad : Nat → Nat → Nat} {NL : List (Nat × Nat)} {A : Nat → Prop} {rr : Int32} {XX : gM} {N : Nat} (C : gCx p c meth m s args cX10_findsHands 4 none RX10 D cA ad NL A) (hW : gWf NL) (hD0 : gD (fun _ => True) ad NL) : ∀ (X : gM) (H : Heap) (locs : List Loc) (ls : Array Slot), gH D cA ad NL X H → va_S A s.heap H locs → lv_has ls 4 [] → X10_findsHands_J104 (gal NL) N X = some (rr, XX) → W p l e rm_X10_findsHands s m args below meth c H locs 0 0 (MQ below (gQ D cA ad NL none XX A) args s 0 0 A) (F0 m 104 ls []) := by
  have hx := C.1
  have hb := C.2.1
  intro X H locs ls hP hS hl hf
  rw [X10_findsHands_J104] at hf
  obtain ⟨rfl, rfl⟩ := g_s1 hf
  exact r_vret C hP hS dX10_findsHands_104

set_option maxRecDepth 100000 in
set_option maxHeartbeats 4000000 in
theorem s_X10_findsHands_J101 {p : Program} {l : Launch} {e : Env} {s : State} {m : MethodId} {args : Array Value} {below : List Frame} {meth : Method} {c : Code} {D : va_G} {cA : Nat → ClassId} {ad : Nat → Nat → Nat} {NL : List (Nat × Nat)} {A : Nat → Prop} {rr : Int32} {XX : gM} {N : Nat} {kk : Int32 → gM → Option (Int32 × gM)} {k104 : gM → Option (Int32 × gM)} (C : gCx p c meth m s args cX10_findsHands 4 none RX10 D cA ad NL A) (hW : gWf NL) (hD0 : gD (fun _ => True) ad NL) (hkk : ∀ (p1 : Int32) (Y : gM) (H : Heap) (locs : List Loc) (ls : Array Slot), gH D cA ad NL Y H → va_S A s.heap H locs → lv_has ls 4 [(0, .ref (ad 43 0)), (1, .int p1)] → (43, 0) ∈ NL → kk p1 Y = some (rr, XX) → W p l e rm_X10_findsHands s m args below meth c H locs 0 0 (MQ below (gQ D cA ad NL none XX A) args s 0 0 A) (F0 m 25 ls [])) (hk104 : ∀ (Y : gM) (H : Heap) (locs : List Loc) (ls : Array Slot), gH D cA ad NL Y H → va_S A s.heap H locs → lv_has ls 4 [] → k104 Y = some (rr, XX) → W p l e rm_X10_findsHands s m args below meth c H locs 0 0 (MQ below (gQ D cA ad NL none XX A) args s 0 0 A) (F0 m 104 ls [])) : ∀ (p1 : Int32) (X : gM) (H : Heap) (locs : List Loc) (ls : Array Slot), gH D cA ad NL X H → va_S A s.heap H locs → lv_has ls 4 [(0, .ref (ad 43 0)), (1, .int p1)] → (43, 0) ∈ NL → X10_findsHands_J101 (gal NL) N kk k104 p1 X = some (rr, XX) → W p l e rm_X10_findsHands s m args below meth c H locs 0 0 (MQ below (gQ D cA ad NL none XX A) args s 0 0 A) (F0 m 101 ls []) := by
  have hx := C.1
  have hb := C.2.1
  intro p1 X H locs ls hP hS hl ha_l0 hf
  rw [X10_findsHands_J101] at hf
  refine lv_goto (tgt := 25) hx hb dX10_findsHands_101 (by decide) ?_
  exact hkk p1 X _ _ _ hP hS (lv_sub hl [0, 1] rfl) ha_l0 hf

set_option maxRecDepth 100000 in
set_option maxHeartbeats 4000000 in
theorem s_X10_findsHands_J95 {p : Program} {l : Launch} {e : Env} {s : State} {m : MethodId} {args : Array Value} {below : List Frame} {meth : Method} {c : Code} {D : va_G} {cA : Nat → ClassId} {ad : Nat → Nat → Nat} {NL : List (Nat × Nat)} {A : Nat → Prop} {rr : Int32} {XX : gM} {N : Nat} {kk : Int32 → Int32 → gM → Option (Int32 × gM)} {k101 : Int32 → gM → Option (Int32 × gM)} (C : gCx p c meth m s args cX10_findsHands 4 none RX10 D cA ad NL A) (hW : gWf NL) (hD0 : gD (fun _ => True) ad NL) (hkk : ∀ (p1 : Int32) (p2 : Int32) (Y : gM) (H : Heap) (locs : List Loc) (ls : Array Slot), gH D cA ad NL Y H → va_S A s.heap H locs → lv_has ls 4 [(0, .ref (ad 43 0)), (1, .int p1), (2, .int p2)] → (43, 0) ∈ NL → kk p1 p2 Y = some (rr, XX) → W p l e rm_X10_findsHands s m args below meth c H locs 0 0 (MQ below (gQ D cA ad NL none XX A) args s 0 0 A) (F0 m 33 ls [])) (hk101 : ∀ (p1 : Int32) (Y : gM) (H : Heap) (locs : List Loc) (ls : Array Slot), gH D cA ad NL Y H → va_S A s.heap H locs → lv_has ls 4 [(0, .ref (ad 43 0)), (1, .int p1)] → (43, 0) ∈ NL → k101 p1 Y = some (rr, XX) → W p l e rm_X10_findsHands s m args below meth c H locs 0 0 (MQ below (gQ D cA ad NL none XX A) args s 0 0 A) (F0 m 101 ls [])) : ∀ (p1 : Int32) (p2 : Int32) (X : gM) (H : Heap) (locs : List Loc) (ls : Array Slot), gH D cA ad NL X H → va_S A s.heap H locs → lv_has ls 4 [(0, .ref (ad 43 0)), (1, .int p1), (2, .int p2)] → (43, 0) ∈ NL → X10_findsHands_J95 (gal NL) N kk k101 p1 p2 X = some (rr, XX) → W p l e rm_X10_findsHands s m args below meth c H locs 0 0 (MQ below (gQ D cA ad NL none XX A) args s 0 0 A) (F0 m 95 ls []) := by
  have hx := C.1
  have hb := C.2.1
  intro p1 p2 X H locs ls hP hS hl ha_l0 hf
  rw [X10_findsHands_J95] at hf
  obtain ⟨v1, e2, hf⟩ := gl_in hf
  refine lv_iinc (v := v1) (lv' := [(2, .int v1), (0, .ref (ad 43 0)), (1, .int p1)]) hx hb dX10_findsHands_95 hl (k := 2) rfl (by rw [e2]; rfl) (Nat.le_of_ble_eq_true rfl) rfl (fun ls hl => ?_)
  refine lv_goto (tgt := 33) hx hb dX10_findsHands_98 (by decide) ?_
  exact hkk p1 v1 X _ _ _ hP hS (lv_sub hl [1, 2, 0] rfl) ha_l0 hf

set_option maxRecDepth 100000 in
set_option maxHeartbeats 4000000 in
theorem s_X10_findsHands_J89 {p : Program} {l : Launch} {e : Env} {s : State} {m : MethodId} {args : Array Value} {below : List Frame} {meth : Method} {c : Code} {D : va_G} {cA : Nat → ClassId} {ad : Nat → Nat → Nat} {NL : List (Nat × Nat)} {A : Nat → Prop} {rr : Int32} {XX : gM} {N : Nat} {kk : Int32 → Int32 → Int32 → gM → Option (Int32 × gM)} {k95 : Int32 → Int32 → gM → Option (Int32 × gM)} (C : gCx p c meth m s args cX10_findsHands 4 none RX10 D cA ad NL A) (hW : gWf NL) (hD0 : gD (fun _ => True) ad NL) (hkk : ∀ (p1 : Int32) (p2 : Int32) (p3 : Int32) (Y : gM) (H : Heap) (locs : List Loc) (ls : Array Slot), gH D cA ad NL Y H → va_S A s.heap H locs → lv_has ls 4 [(0, .ref (ad 43 0)), (1, .int p1), (2, .int p2), (3, .int p3)] → (43, 0) ∈ NL → kk p1 p2 p3 Y = some (rr, XX) → W p l e rm_X10_findsHands s m args below meth c H locs 0 0 (MQ below (gQ D cA ad NL none XX A) args s 0 0 A) (F0 m 43 ls [])) (hk95 : ∀ (p1 : Int32) (p2 : Int32) (Y : gM) (H : Heap) (locs : List Loc) (ls : Array Slot), gH D cA ad NL Y H → va_S A s.heap H locs → lv_has ls 4 [(0, .ref (ad 43 0)), (1, .int p1), (2, .int p2)] → (43, 0) ∈ NL → k95 p1 p2 Y = some (rr, XX) → W p l e rm_X10_findsHands s m args below meth c H locs 0 0 (MQ below (gQ D cA ad NL none XX A) args s 0 0 A) (F0 m 95 ls [])) : ∀ (p1 : Int32) (p2 : Int32) (p3 : Int32) (X : gM) (H : Heap) (locs : List Loc) (ls : Array Slot), gH D cA ad NL X H → va_S A s.heap H locs → lv_has ls 4 [(0, .ref (ad 43 0)), (1, .int p1), (2, .int p2), (3, .int p3)] → (43, 0) ∈ NL → X10_findsHands_J89 (gal NL) N kk k95 p1 p2 p3 X = some (rr, XX) → W p l e rm_X10_findsHands s m args below meth c H locs 0 0 (MQ below (gQ D cA ad NL none XX A) args s 0 0 A) (F0 m 89 ls []) := by
  have hx := C.1
  have hb := C.2.1
  intro p1 p2 p3 X H locs ls hP hS hl ha_l0 hf
  rw [X10_findsHands_J89] at hf
  obtain ⟨v1, e2, hf⟩ := gl_in hf
  refine lv_iinc (v := v1) (lv' := [(3, .int v1), (0, .ref (ad 43 0)), (1, .int p1), (2, .int p2)]) hx hb dX10_findsHands_89 hl (k := 3) rfl (by rw [e2]; rfl) (Nat.le_of_ble_eq_true rfl) rfl (fun ls hl => ?_)
  refine lv_goto (tgt := 43) hx hb dX10_findsHands_92 (by decide) ?_
  exact hkk p1 p2 v1 X _ _ _ hP hS (lv_sub hl [1, 2, 3, 0] rfl) ha_l0 hf

set_option maxRecDepth 100000 in
set_option maxHeartbeats 4000000 in
theorem s_X10_findsHands_L43 {p : Program} {l : Launch} {e : Env} {s : State} {m : MethodId} {args : Array Value} {below : List Frame} {meth : Method} {c : Code} {D : va_G} {cA : Nat → ClassId} {ad : Nat → Nat → Nat} {NL : List (Nat × Nat)} {A : Nat → Prop} {rr : Int32} {XX : gM} {N : Nat} {k95 : Int32 → Int32 → gM → Option (Int32 × gM)} (C : gCx p c meth m s args cX10_findsHands 4 none RX10 D cA ad NL A) (hW : gWf NL) (hD0 : gD (fun _ => True) ad NL) (hk95 : ∀ (p1 : Int32) (p2 : Int32) (Y : gM) (H : Heap) (locs : List Loc) (ls : Array Slot), gH D cA ad NL Y H → va_S A s.heap H locs → lv_has ls 4 [(0, .ref (ad 43 0)), (1, .int p1), (2, .int p2)] → (43, 0) ∈ NL → k95 p1 p2 Y = some (rr, XX) → W p l e rm_X10_findsHands s m args below meth c H locs 0 0 (MQ below (gQ D cA ad NL none XX A) args s 0 0 A) (F0 m 95 ls [])) : ∀ (n : Nat) (p1 : Int32) (p2 : Int32) (p3 : Int32) (X : gM) (H : Heap) (locs : List Loc) (ls : Array Slot), gH D cA ad NL X H → va_S A s.heap H locs → lv_has ls 4 [(0, .ref (ad 43 0)), (1, .int p1), (2, .int p2), (3, .int p3)] → (43, 0) ∈ NL → X10_findsHands_L43 (gal NL) N k95 n p1 p2 p3 X = some (rr, XX) → W p l e rm_X10_findsHands s m args below meth c H locs 0 0 (MQ below (gQ D cA ad NL none XX A) args s 0 0 A) (F0 m 43 ls []) := by
  have hx := C.1
  have hb := C.2.1
  intro n
  induction n with
  | zero =>
    intro p1 p2 p3 X H locs ls hP hS hl ha_l0 hf
    rw [X10_findsHands_L43] at hf
    cases hf
  | succ n ih =>
    intro p1 p2 p3 X H locs ls hP hS hl ha_l0 hf
    rw [X10_findsHands_L43] at hf
    refine lv_iload_n hx hb dX10_findsHands_43 rfl (lv_at hl 3 rfl) ?_
    refine lv_aload_n hx hb dX10_findsHands_44 rfl (lv_at hl 0 rfl) ?_
    refine r_get C hP ha_l0 (ct_43 _ _ _ _) fx_X10_126 (fg_43_0 _ _ _) dX10_findsHands_45 ?_
    refine lv_icmp_ge (tgt := 95) hx hb dX10_findsHands_48 (by decide) (fun c1 => ?_) (fun c1 => ?_)
    · have hf := g_ip c1 hf
      exact hk95 p1 p2 X _ _ _ hP hS (lv_sub hl [0, 1, 2] rfl) ha_l0 hf
    · have hf := g_in c1 hf
      refine lv_aload_n hx hb dX10_findsHands_51 rfl (lv_at hl 0 rfl) ?_
      refine r_get C hP ha_l0 (ct_43 _ _ _ _) fx_X10_113 (fg_43_43 _ _ _) dX10_findsHands_52 ?_
      refine lv_iload_n hx hb dX10_findsHands_55 rfl (lv_at hl 2 rfl) ?_
      obtain ⟨j2, h3, hf⟩ := rd_in hf
      refine r_iald C hP (gs_43_43 hW ha_l0) (ct_78 _ _ _ _) h3 dX10_findsHands_56 ?_
      refine lv_aload_n hx hb dX10_findsHands_57 rfl (lv_at hl 0 rfl) ?_
      refine r_get C hP ha_l0 (ct_43 _ _ _ _) fx_X10_113 (fg_43_43 _ _ _) dX10_findsHands_58 ?_
      refine lv_iload_n hx hb dX10_findsHands_61 rfl (lv_at hl 3 rfl) ?_
      obtain ⟨j4, h5, hf⟩ := rd_in hf
      refine r_iald C hP (gs_43_43 hW ha_l0) (ct_78 _ _ _ _) h5 dX10_findsHands_62 ?_
      refine lv_icmp_ge (tgt := 89) hx hb dX10_findsHands_63 (by decide) (fun c6 => ?_) (fun c6 => ?_)
      · have hf := g_ip c6 hf
        exact s_X10_findsHands_J89 C hW hD0 ih hk95 p1 p2 p3 X _ _ _ hP hS (lv_sub hl [0, 1, 2, 3] rfl) ha_l0 hf
      · have hf := g_in c6 hf
        refine lv_aload_n hx hb dX10_findsHands_66 rfl (lv_at hl 0 rfl) ?_
        refine lv_iload_n hx hb dX10_findsHands_67 rfl (lv_at hl 2 rfl) ?_
        refine lv_iload_n hx hb dX10_findsHands_68 rfl (lv_at hl 3 rfl) ?_
        obtain ⟨r7, X8, h9, hf⟩ := b2_in hf
        refine r_cVi (rest := []) C hP hS hl.1 (s_X10_areAlike hW hD0 ha_l0 h9) ix_X10_areAlike iv_X10_areAlike lk_X10_209 ⟨rfl, rfl, Nat.le_of_ble_eq_true rfl, Nat.le_of_ble_eq_true rfl⟩ ha_l0 (ct_43 _ _ _ _) rfl rfl rfl rfl (Nat.le_of_ble_eq_true rfl) ⟨Nat.zero_le _, Nat.zero_le _⟩ dX10_findsHands_69 (fun H locs hP hS => ?_)
        refine lv_if_eq (tgt := 89) hx hb dX10_findsHands_72 (by decide) (fun c10 => ?_) (fun c10 => ?_)
        · have hf := g_ip c10 hf
          exact s_X10_findsHands_J89 C hW hD0 ih hk95 p1 p2 p3 X8 _ _ _ hP hS (lv_sub hl [0, 1, 2, 3] rfl) ha_l0 hf
        · have hf := g_in c10 hf
          refine lv_aload_n hx hb dX10_findsHands_75 rfl (lv_at hl 0 rfl) ?_
          refine r_get C hP ha_l0 (ct_43 _ _ _ _) fx_X10_113 (fg_43_43 _ _ _) dX10_findsHands_76 ?_
          refine lv_iload_n hx hb dX10_findsHands_79 rfl (lv_at hl 3 rfl) ?_
          refine lv_aload_n hx hb dX10_findsHands_80 rfl (lv_at hl 0 rfl) ?_
          refine r_get C hP ha_l0 (ct_43 _ _ _ _) fx_X10_113 (fg_43_43 _ _ _) dX10_findsHands_81 ?_
          refine lv_iload_n hx hb dX10_findsHands_84 rfl (lv_at hl 2 rfl) ?_
          obtain ⟨j11, h12, hf⟩ := rd_in hf
          refine r_iald C hP (gs_43_43 hW ha_l0) (ct_78 _ _ _ _) h12 dX10_findsHands_85 ?_
          obtain ⟨j13, h14, hf⟩ := rd_in hf
          refine r_iast C hP hS (gs_43_43 hW ha_l0) (fun _ => ct_78 _ _ _ _) h14 dX10_findsHands_86 (fun H locs hP hS => ?_)
          obtain ⟨X15, e16, hf⟩ := gl_in hf
          rw [← e16] at hP
          refine lv_iconst (v := 1) hx hb dX10_findsHands_87 (by decide) ?_
          refine lv_istore_n (i := 1) (lv' := [(1, .int (1 : Int32)), (0, .ref (ad 43 0)), (2, .int p2), (3, .int p3)]) hx hb dX10_findsHands_88 rfl hl (Nat.le_of_ble_eq_true rfl) rfl (fun ls hl => ?_)
          exact s_X10_findsHands_J89 C hW hD0 ih hk95 (1 : Int32) p2 p3 X15 _ _ _ hP hS (lv_sub hl [1, 0, 2, 3] rfl) ha_l0 hf

set_option maxRecDepth 100000 in
set_option maxHeartbeats 4000000 in
theorem s_X10_findsHands_L33 {p : Program} {l : Launch} {e : Env} {s : State} {m : MethodId} {args : Array Value} {below : List Frame} {meth : Method} {c : Code} {D : va_G} {cA : Nat → ClassId} {ad : Nat → Nat → Nat} {NL : List (Nat × Nat)} {A : Nat → Prop} {rr : Int32} {XX : gM} {N : Nat} {k101 : Int32 → gM → Option (Int32 × gM)} (C : gCx p c meth m s args cX10_findsHands 4 none RX10 D cA ad NL A) (hW : gWf NL) (hD0 : gD (fun _ => True) ad NL) (hk101 : ∀ (p1 : Int32) (Y : gM) (H : Heap) (locs : List Loc) (ls : Array Slot), gH D cA ad NL Y H → va_S A s.heap H locs → lv_has ls 4 [(0, .ref (ad 43 0)), (1, .int p1)] → (43, 0) ∈ NL → k101 p1 Y = some (rr, XX) → W p l e rm_X10_findsHands s m args below meth c H locs 0 0 (MQ below (gQ D cA ad NL none XX A) args s 0 0 A) (F0 m 101 ls [])) : ∀ (n : Nat) (p1 : Int32) (p2 : Int32) (X : gM) (H : Heap) (locs : List Loc) (ls : Array Slot), gH D cA ad NL X H → va_S A s.heap H locs → lv_has ls 4 [(0, .ref (ad 43 0)), (1, .int p1), (2, .int p2)] → (43, 0) ∈ NL → X10_findsHands_L33 (gal NL) N k101 n p1 p2 X = some (rr, XX) → W p l e rm_X10_findsHands s m args below meth c H locs 0 0 (MQ below (gQ D cA ad NL none XX A) args s 0 0 A) (F0 m 33 ls []) := by
  have hx := C.1
  have hb := C.2.1
  intro n
  induction n with
  | zero =>
    intro p1 p2 X H locs ls hP hS hl ha_l0 hf
    rw [X10_findsHands_L33] at hf
    cases hf
  | succ n ih =>
    intro p1 p2 X H locs ls hP hS hl ha_l0 hf
    rw [X10_findsHands_L33] at hf
    refine lv_iload_n hx hb dX10_findsHands_33 rfl (lv_at hl 2 rfl) ?_
    refine lv_aload_n hx hb dX10_findsHands_34 rfl (lv_at hl 0 rfl) ?_
    refine r_get C hP ha_l0 (ct_43 _ _ _ _) fx_X10_126 (fg_43_0 _ _ _) dX10_findsHands_35 ?_
    refine lv_icmp_ge (tgt := 101) hx hb dX10_findsHands_38 (by decide) (fun c1 => ?_) (fun c1 => ?_)
    · have hf := g_ip c1 hf
      exact hk101 p1 X _ _ _ hP hS (lv_sub hl [0, 1] rfl) ha_l0 hf
    · have hf := g_in c1 hf
      refine lv_iconst (v := 0) hx hb dX10_findsHands_41 (by decide) ?_
      refine lv_istore_n (i := 3) (lv' := [(3, .int (0 : Int32)), (0, .ref (ad 43 0)), (1, .int p1), (2, .int p2)]) hx hb dX10_findsHands_42 rfl hl (Nat.le_of_ble_eq_true rfl) rfl (fun ls hl => ?_)
      exact s_X10_findsHands_L43 C hW hD0 (fun p1 p2 Y H locs ls hP hS hl ha_l0 hf => s_X10_findsHands_J95 C hW hD0 ih hk101 p1 p2 Y _ _ _ hP hS hl ha_l0 hf) N p1 p2 (0 : Int32) X _ _ _ hP hS (lv_sub hl [1, 2, 3, 0] rfl) ha_l0 hf

set_option maxRecDepth 100000 in
set_option maxHeartbeats 4000000 in
theorem s_X10_findsHands_L25 {p : Program} {l : Launch} {e : Env} {s : State} {m : MethodId} {args : Array Value} {below : List Frame} {meth : Method} {c : Code} {D : va_G} {cA : Nat → ClassId} {ad : Nat → Nat → Nat} {NL : List (Nat × Nat)} {A : Nat → Prop} {rr : Int32} {XX : gM} {N : Nat} {k104 : gM → Option (Int32 × gM)} (C : gCx p c meth m s args cX10_findsHands 4 none RX10 D cA ad NL A) (hW : gWf NL) (hD0 : gD (fun _ => True) ad NL) (hk104 : ∀ (Y : gM) (H : Heap) (locs : List Loc) (ls : Array Slot), gH D cA ad NL Y H → va_S A s.heap H locs → lv_has ls 4 [] → k104 Y = some (rr, XX) → W p l e rm_X10_findsHands s m args below meth c H locs 0 0 (MQ below (gQ D cA ad NL none XX A) args s 0 0 A) (F0 m 104 ls [])) : ∀ (n : Nat) (p1 : Int32) (X : gM) (H : Heap) (locs : List Loc) (ls : Array Slot), gH D cA ad NL X H → va_S A s.heap H locs → lv_has ls 4 [(0, .ref (ad 43 0)), (1, .int p1)] → (43, 0) ∈ NL → X10_findsHands_L25 (gal NL) N k104 n p1 X = some (rr, XX) → W p l e rm_X10_findsHands s m args below meth c H locs 0 0 (MQ below (gQ D cA ad NL none XX A) args s 0 0 A) (F0 m 25 ls []) := by
  have hx := C.1
  have hb := C.2.1
  intro n
  induction n with
  | zero =>
    intro p1 X H locs ls hP hS hl ha_l0 hf
    rw [X10_findsHands_L25] at hf
    cases hf
  | succ n ih =>
    intro p1 X H locs ls hP hS hl ha_l0 hf
    rw [X10_findsHands_L25] at hf
    refine lv_iload_n hx hb dX10_findsHands_25 rfl (lv_at hl 1 rfl) ?_
    refine lv_if_eq (tgt := 104) hx hb dX10_findsHands_26 (by decide) (fun c1 => ?_) (fun c1 => ?_)
    · have hf := g_ip c1 hf
      exact hk104 X _ _ _ hP hS (lv_sub hl [] rfl) hf
    · have hf := g_in c1 hf
      refine lv_iconst (v := 0) hx hb dX10_findsHands_29 (by decide) ?_
      refine lv_istore_n (i := 1) (lv' := [(1, .int (0 : Int32)), (0, .ref (ad 43 0))]) hx hb dX10_findsHands_30 rfl hl (Nat.le_of_ble_eq_true rfl) rfl (fun ls hl => ?_)
      refine lv_iconst (v := 0) hx hb dX10_findsHands_31 (by decide) ?_
      refine lv_istore_n (i := 2) (lv' := [(2, .int (0 : Int32)), (1, .int (0 : Int32)), (0, .ref (ad 43 0))]) hx hb dX10_findsHands_32 rfl hl (Nat.le_of_ble_eq_true rfl) rfl (fun ls hl => ?_)
      exact s_X10_findsHands_L33 C hW hD0 (fun p1 Y H locs ls hP hS hl ha_l0 hf => s_X10_findsHands_J101 C hW hD0 ih hk104 p1 Y _ _ _ hP hS hl ha_l0 hf) N (0 : Int32) (0 : Int32) X _ _ _ hP hS (lv_sub hl [2, 1, 0] rfl) ha_l0 hf

set_option maxRecDepth 100000 in
set_option maxHeartbeats 4000000 in
theorem s_X10_findsHands_J23 {p : Program} {l : Launch} {e : Env} {s : State} {m : MethodId} {args : Array Value} {below : List Frame} {meth : Method} {c : Code} {D : va_G} {cA : Nat → ClassId} {ad : Nat → Nat → Nat} {NL : List (Nat × Nat)} {A : Nat → Prop} {rr : Int32} {XX : gM} {N : Nat} (C : gCx p c meth m s args cX10_findsHands 4 none RX10 D cA ad NL A) (hW : gWf NL) (hD0 : gD (fun _ => True) ad NL) : ∀ (X : gM) (H : Heap) (locs : List Loc) (ls : Array Slot), gH D cA ad NL X H → va_S A s.heap H locs → lv_has ls 4 [(0, .ref (ad 43 0))] → (43, 0) ∈ NL → X10_findsHands_J23 (gal NL) N X = some (rr, XX) → W p l e rm_X10_findsHands s m args below meth c H locs 0 0 (MQ below (gQ D cA ad NL none XX A) args s 0 0 A) (F0 m 23 ls []) := by
  have hx := C.1
  have hb := C.2.1
  intro X H locs ls hP hS hl ha_l0 hf
  rw [X10_findsHands_J23] at hf
  refine lv_iconst (v := 1) hx hb dX10_findsHands_23 (by decide) ?_
  refine lv_istore_n (i := 1) (lv' := [(1, .int (1 : Int32)), (0, .ref (ad 43 0))]) hx hb dX10_findsHands_24 rfl hl (Nat.le_of_ble_eq_true rfl) rfl (fun ls hl => ?_)
  exact s_X10_findsHands_L25 C hW hD0 (fun Y H locs ls hP hS hl hf => s_X10_findsHands_J104 C hW hD0 Y _ _ _ hP hS hl hf) N (1 : Int32) X _ _ _ hP hS (lv_sub hl [1, 0] rfl) ha_l0 hf

set_option maxRecDepth 100000 in
set_option maxHeartbeats 4000000 in
theorem s_X10_findsHands_L2 {p : Program} {l : Launch} {e : Env} {s : State} {m : MethodId} {args : Array Value} {below : List Frame} {meth : Method} {c : Code} {D : va_G} {cA : Nat → ClassId} {ad : Nat → Nat → Nat} {NL : List (Nat × Nat)} {A : Nat → Prop} {rr : Int32} {XX : gM} {N : Nat} {k23 : gM → Option (Int32 × gM)} (C : gCx p c meth m s args cX10_findsHands 4 none RX10 D cA ad NL A) (hW : gWf NL) (hD0 : gD (fun _ => True) ad NL) (hk23 : ∀ (Y : gM) (H : Heap) (locs : List Loc) (ls : Array Slot), gH D cA ad NL Y H → va_S A s.heap H locs → lv_has ls 4 [(0, .ref (ad 43 0))] → (43, 0) ∈ NL → k23 Y = some (rr, XX) → W p l e rm_X10_findsHands s m args below meth c H locs 0 0 (MQ below (gQ D cA ad NL none XX A) args s 0 0 A) (F0 m 23 ls [])) : ∀ (n : Nat) (p1 : Int32) (X : gM) (H : Heap) (locs : List Loc) (ls : Array Slot), gH D cA ad NL X H → va_S A s.heap H locs → lv_has ls 4 [(0, .ref (ad 43 0)), (1, .int p1)] → (43, 0) ∈ NL → X10_findsHands_L2 (gal NL) N k23 n p1 X = some (rr, XX) → W p l e rm_X10_findsHands s m args below meth c H locs 0 0 (MQ below (gQ D cA ad NL none XX A) args s 0 0 A) (F0 m 2 ls []) := by
  have hx := C.1
  have hb := C.2.1
  intro n
  induction n with
  | zero =>
    intro p1 X H locs ls hP hS hl ha_l0 hf
    rw [X10_findsHands_L2] at hf
    cases hf
  | succ n ih =>
    intro p1 X H locs ls hP hS hl ha_l0 hf
    rw [X10_findsHands_L2] at hf
    refine lv_iload_n hx hb dX10_findsHands_2 rfl (lv_at hl 1 rfl) ?_
    refine lv_aload_n hx hb dX10_findsHands_3 rfl (lv_at hl 0 rfl) ?_
    refine r_get C hP ha_l0 (ct_43 _ _ _ _) fx_X10_126 (fg_43_0 _ _ _) dX10_findsHands_4 ?_
    refine lv_icmp_ge (tgt := 23) hx hb dX10_findsHands_7 (by decide) (fun c1 => ?_) (fun c1 => ?_)
    · have hf := g_ip c1 hf
      exact hk23 X _ _ _ hP hS (lv_sub hl [0] rfl) ha_l0 hf
    · have hf := g_in c1 hf
      refine lv_aload_n hx hb dX10_findsHands_10 rfl (lv_at hl 0 rfl) ?_
      refine r_get C hP ha_l0 (ct_43 _ _ _ _) fx_X10_113 (fg_43_43 _ _ _) dX10_findsHands_11 ?_
      refine lv_iload_n hx hb dX10_findsHands_14 rfl (lv_at hl 1 rfl) ?_
      refine lv_iload_n hx hb dX10_findsHands_15 rfl (lv_at hl 1 rfl) ?_
      obtain ⟨j2, h3, hf⟩ := rd_in hf
      refine r_iast C hP hS (gs_43_43 hW ha_l0) (fun _ => ct_78 _ _ _ _) h3 dX10_findsHands_16 (fun H locs hP hS => ?_)
      obtain ⟨X4, e5, hf⟩ := gl_in hf
      rw [← e5] at hP
      obtain ⟨v6, e7, hf⟩ := gl_in hf
      refine lv_iinc (v := v6) (lv' := [(1, .int v6), (0, .ref (ad 43 0))]) hx hb dX10_findsHands_17 hl (k := 1) rfl (by rw [e7]; rfl) (Nat.le_of_ble_eq_true rfl) rfl (fun ls hl => ?_)
      refine lv_goto (tgt := 2) hx hb dX10_findsHands_20 (by decide) ?_
      exact ih v6 X4 _ _ _ hP hS (lv_sub hl [1, 0] rfl) ha_l0 hf

set_option maxRecDepth 100000 in
set_option maxHeartbeats 4000000 in
theorem w_X10_findsHands {p : Program} {l : Launch} {e : Env} {s : State} {m : MethodId} {args : Array Value} {below : List Frame} {meth : Method} {c : Code} {D : va_G} {cA : Nat → ClassId} {ad : Nat → Nat → Nat} {NL : List (Nat × Nat)} {A : Nat → Prop} {rr : Int32} {XX : gM} {N : Nat} (C : gCx p c meth m s args cX10_findsHands 4 none RX10 D cA ad NL A) (hW : gWf NL) (hD0 : gD (fun _ => True) ad NL) (ha_l0 : (43, 0) ∈ NL) : ∀ (X : gM) (H : Heap) (locs : List Loc) (ls : Array Slot), gH D cA ad NL X H → va_S A s.heap H locs → lv_has ls 4 [(0, .ref (ad 43 0))] → X10_findsHands (gal NL) N  X = some (rr, XX) → W p l e rm_X10_findsHands s m args below meth c H locs 0 0 (MQ below (gQ D cA ad NL none XX A) args s 0 0 A) (F0 m 0 ls []) := by
  have hx := C.1
  have hb := C.2.1
  intro X H locs ls hP hS hl hf
  rw [X10_findsHands] at hf
  refine lv_iconst (v := 0) hx hb dX10_findsHands_0 (by decide) ?_
  refine lv_istore_n (i := 1) (lv' := [(1, .int (0 : Int32)), (0, .ref (ad 43 0))]) hx hb dX10_findsHands_1 rfl hl (Nat.le_of_ble_eq_true rfl) rfl (fun ls hl => ?_)
  exact s_X10_findsHands_L2 C hW hD0 (fun Y H locs ls hP hS hl ha_l0 hf => s_X10_findsHands_J23 C hW hD0 Y _ _ _ hP hS hl ha_l0 hf) N (0 : Int32) X _ _ _ hP hS (lv_sub hl [1, 0] rfl) ha_l0 hf

theorem s_X10_findsHands {l : Launch} {D : va_G} {cA : Nat → ClassId} {ad : Nat → Nat → Nat} {NL : List (Nat × Nat)} {N : Nat} {X : gM} {rr : Int32} {XX : gM} (hW : gWf NL) (hD0 : gD (fun _ => True) ad NL) (ha_l0 : (43, 0) ∈ NL) (hf : X10_findsHands (gal NL) N  X = some (rr, XX)) : gC l yX10_findsHands cX10_findsHands 4 none rm_X10_findsHands D cA ad NL [.ref (ad 43 0)] X none XX :=
  g_ofW (by decide) hD0 (Nat.le_of_ble_eq_true rfl) rfl (fun p e s m below meth c ls C hP hS hl => w_X10_findsHands C hW hD0 ha_l0 X _ _ ls hP hS hl hf)
def rm_X10_hand : Room := { frames := 2, cells := 0, slots := 0, locals := 48 }
set_option maxRecDepth 100000 in
set_option maxHeartbeats 4000000 in
theorem s_X10_hand_J158 {p : Program} {l : Launch} {e : Env} {s : State} {m : MethodId} {args : Array Value} {below : List Frame} {meth : Method} {c : Code} {D : va_G} {cA : Nat → ClassId} {ad : Nat → Nat → Nat} {NL : List (Nat × Nat)} {A : Nat → Prop} {rr : Int32} {XX : gM} {N : Nat} (C : gCx p c meth m s args cX10_hand 8 (some .int) RX10 D cA ad NL A) (hW : gWf NL) (hD0 : gD (fun _ => True) ad NL) : ∀ (p6 : Int32) (X : gM) (H : Heap) (locs : List Loc) (ls : Array Slot), gH D cA ad NL X H → va_S A s.heap H locs → lv_has ls 8 [(6, .int p6)] → X10_hand_J158 (gal NL) N p6 X = some (rr, XX) → W p l e rm_X10_hand s m args below meth c H locs 0 0 (MQ below (gQ D cA ad NL (some (.int rr)) XX A) args s 0 0 A) (F0 m 158 ls []) := by
  have hx := C.1
  have hb := C.2.1
  intro p6 X H locs ls hP hS hl hf
  rw [X10_hand_J158] at hf
  refine lv_iload hx hb dX10_hand_158 (lv_at hl 0 rfl) ?_
  obtain ⟨rfl, rfl⟩ := g_s1 hf
  exact r_iret C hP hS dX10_hand_160

set_option maxRecDepth 100000 in
set_option maxHeartbeats 4000000 in
theorem s_X10_hand_J149 {p : Program} {l : Launch} {e : Env} {s : State} {m : MethodId} {args : Array Value} {below : List Frame} {meth : Method} {c : Code} {D : va_G} {cA : Nat → ClassId} {ad : Nat → Nat → Nat} {NL : List (Nat × Nat)} {A : Nat → Prop} {rr : Int32} {XX : gM} {N : Nat} {kk : Int32 → Int32 → gM → Option (Int32 × gM)} {k158 : Int32 → gM → Option (Int32 × gM)} (C : gCx p c meth m s args cX10_hand 8 (some .int) RX10 D cA ad NL A) (hW : gWf NL) (hD0 : gD (fun _ => True) ad NL) (hkk : ∀ (p6 : Int32) (p7 : Int32) (Y : gM) (H : Heap) (locs : List Loc) (ls : Array Slot), gH D cA ad NL Y H → va_S A s.heap H locs → lv_has ls 8 [(0, .ref (ad 43 0)), (6, .int p6), (7, .int p7)] → (43, 0) ∈ NL → kk p6 p7 Y = some (rr, XX) → W p l e rm_X10_hand s m args below meth c H locs 0 0 (MQ below (gQ D cA ad NL (some (.int rr)) XX A) args s 0 0 A) (F0 m 121 ls [])) (hk158 : ∀ (p6 : Int32) (Y : gM) (H : Heap) (locs : List Loc) (ls : Array Slot), gH D cA ad NL Y H → va_S A s.heap H locs → lv_has ls 8 [(6, .int p6)] → k158 p6 Y = some (rr, XX) → W p l e rm_X10_hand s m args below meth c H locs 0 0 (MQ below (gQ D cA ad NL (some (.int rr)) XX A) args s 0 0 A) (F0 m 158 ls [])) : ∀ (p7 : Int32) (s0 : Int32) (s1 : Int32) (X : gM) (H : Heap) (locs : List Loc) (ls : Array Slot), gH D cA ad NL X H → va_S A s.heap H locs → lv_has ls 8 [(0, .ref (ad 43 0)), (7, .int p7)] → (43, 0) ∈ NL → X10_hand_J149 (gal NL) N kk k158 p7 s0 s1 X = some (rr, XX) → W p l e rm_X10_hand s m args below meth c H locs 0 0 (MQ below (gQ D cA ad NL (some (.int rr)) XX A) args s 0 0 A) (F0 m 149 ls [.int s1, .int s0]) := by
  have hx := C.1
  have hb := C.2.1
  intro p7 s0 s1 X H locs ls hP hS hl ha_l0 hf
  rw [X10_hand_J149] at hf
  refine lv_iadd hx hb dX10_hand_149 ?_
  refine g_top hf (fun v1 e2 hf => ?_)
  refine lv_istore (i := 6) (lv' := [(6, .int v1), (0, .ref (ad 43 0)), (7, .int p7)]) hx hb dX10_hand_150 hl (Nat.le_of_ble_eq_true rfl) rfl (fun ls hl => ?_)
  obtain ⟨v3, e4, hf⟩ := gl_in hf
  refine lv_iinc (v := v3) (lv' := [(7, .int v3), (6, .int v1), (0, .ref (ad 43 0))]) hx hb dX10_hand_152 hl (k := 2) rfl (by rw [e4]; rfl) (Nat.le_of_ble_eq_true rfl) rfl (fun ls hl => ?_)
  refine lv_goto (tgt := 121) hx hb dX10_hand_155 (by decide) ?_
  exact hkk v1 v3 X _ _ _ hP hS (lv_sub hl [2, 1, 0] rfl) ha_l0 hf

set_option maxRecDepth 100000 in
set_option maxHeartbeats 4000000 in
theorem s_X10_hand_L121 {p : Program} {l : Launch} {e : Env} {s : State} {m : MethodId} {args : Array Value} {below : List Frame} {meth : Method} {c : Code} {D : va_G} {cA : Nat → ClassId} {ad : Nat → Nat → Nat} {NL : List (Nat × Nat)} {A : Nat → Prop} {rr : Int32} {XX : gM} {N : Nat} {k158 : Int32 → gM → Option (Int32 × gM)} (C : gCx p c meth m s args cX10_hand 8 (some .int) RX10 D cA ad NL A) (hW : gWf NL) (hD0 : gD (fun _ => True) ad NL) (hk158 : ∀ (p6 : Int32) (Y : gM) (H : Heap) (locs : List Loc) (ls : Array Slot), gH D cA ad NL Y H → va_S A s.heap H locs → lv_has ls 8 [(6, .int p6)] → k158 p6 Y = some (rr, XX) → W p l e rm_X10_hand s m args below meth c H locs 0 0 (MQ below (gQ D cA ad NL (some (.int rr)) XX A) args s 0 0 A) (F0 m 158 ls [])) : ∀ (n : Nat) (p6 : Int32) (p7 : Int32) (X : gM) (H : Heap) (locs : List Loc) (ls : Array Slot), gH D cA ad NL X H → va_S A s.heap H locs → lv_has ls 8 [(0, .ref (ad 43 0)), (6, .int p6), (7, .int p7)] → (43, 0) ∈ NL → X10_hand_L121 (gal NL) N k158 n p6 p7 X = some (rr, XX) → W p l e rm_X10_hand s m args below meth c H locs 0 0 (MQ below (gQ D cA ad NL (some (.int rr)) XX A) args s 0 0 A) (F0 m 121 ls []) := by
  have hx := C.1
  have hb := C.2.1
  intro n
  induction n with
  | zero =>
    intro p6 p7 X H locs ls hP hS hl ha_l0 hf
    rw [X10_hand_L121] at hf
    cases hf
  | succ n ih =>
    intro p6 p7 X H locs ls hP hS hl ha_l0 hf
    rw [X10_hand_L121] at hf
    refine lv_iload hx hb dX10_hand_121 (lv_at hl 2 rfl) ?_
    refine lv_aload_n hx hb dX10_hand_123 rfl (lv_at hl 0 rfl) ?_
    refine r_get C hP ha_l0 (ct_43 _ _ _ _) fx_X10_126 (fg_43_0 _ _ _) dX10_hand_124 ?_
    refine lv_icmp_ge (tgt := 158) hx hb dX10_hand_127 (by decide) (fun c1 => ?_) (fun c1 => ?_)
    · have hf := g_ip c1 hf
      exact hk158 p6 X _ _ _ hP hS (lv_sub hl [1] rfl) hf
    · have hf := g_in c1 hf
      refine lv_iload hx hb dX10_hand_130 (lv_at hl 1 rfl) ?_
      refine lv_aload_n hx hb dX10_hand_132 rfl (lv_at hl 0 rfl) ?_
      refine r_get C hP ha_l0 (ct_43 _ _ _ _) fx_X10_113 (fg_43_43 _ _ _) dX10_hand_133 ?_
      refine lv_iload hx hb dX10_hand_136 (lv_at hl 2 rfl) ?_
      obtain ⟨j2, h3, hf⟩ := rd_in hf
      refine r_iald C hP (gs_43_43 hW ha_l0) (ct_78 _ _ _ _) h3 dX10_hand_138 ?_
      refine lv_iload hx hb dX10_hand_139 (lv_at hl 2 rfl) ?_
      refine lv_icmp_ne (tgt := 148) hx hb dX10_hand_141 (by decide) (fun c4 => ?_) (fun c4 => ?_)
      · have hf := g_in c4 hf
        refine lv_iconst (v := 0) hx hb dX10_hand_148 (by decide) ?_
        exact s_X10_hand_J149 C hW hD0 ih hk158 p7 p6 (0 : Int32) X _ _ _ hP hS (lv_sub hl [0, 2] rfl) ha_l0 hf
      · have hf := g_ip c4 hf
        refine lv_iconst (v := 1) hx hb dX10_hand_144 (by decide) ?_
        refine lv_goto (tgt := 149) hx hb dX10_hand_145 (by decide) ?_
        exact s_X10_hand_J149 C hW hD0 ih hk158 p7 p6 (1 : Int32) X _ _ _ hP hS (lv_sub hl [0, 2] rfl) ha_l0 hf

set_option maxRecDepth 100000 in
set_option maxHeartbeats 4000000 in
theorem s_X10_hand_J59 {p : Program} {l : Launch} {e : Env} {s : State} {m : MethodId} {args : Array Value} {below : List Frame} {meth : Method} {c : Code} {D : va_G} {cA : Nat → ClassId} {ad : Nat → Nat → Nat} {NL : List (Nat × Nat)} {A : Nat → Prop} {rr : Int32} {XX : gM} {N : Nat} (C : gCx p c meth m s args cX10_hand 8 (some .int) RX10 D cA ad NL A) (hW : gWf NL) (hD0 : gD (fun _ => True) ad NL) : ∀ (p1 : Int32) (p2 : Int32) (p3 : Int32) (p4 : Int32) (p5 : Int32) (s1 : Int32) (X : gM) (H : Heap) (locs : List Loc) (ls : Array Slot), gH D cA ad NL X H → va_S A s.heap H locs → lv_has ls 8 [(0, .ref (ad 43 0)), (1, .int p1), (2, .int p2), (3, .int p3), (4, .int p4), (5, .int p5)] → (43, 0) ∈ NL → (43, 0) ∈ NL → X10_hand_J59 (gal NL) N p1 p2 p3 p4 p5 s1 X = some (rr, XX) → W p l e rm_X10_hand s m args below meth c H locs 0 0 (MQ below (gQ D cA ad NL (some (.int rr)) XX A) args s 0 0 A) (F0 m 59 ls [.int s1, .ref (ad 43 0)]) := by
  have hx := C.1
  have hb := C.2.1
  intro p1 p2 p3 p4 p5 s1 X H locs ls hP hS hl ha_l0 ha_s0 hf
  rw [X10_hand_J59] at hf
  refine r_put C hP hS s1 ha_s0 (ct_43 _ _ _ _) px_X10_122 (fp_43_46 _ _ _ _ _) (Nat.le_of_ble_eq_true rfl) rfl rfl dX10_hand_59 (fun H locs hP hS => ?_)
  obtain ⟨X1, e2, hf⟩ := gl_in hf
  rw [← e2] at hP
  refine lv_aload_n hx hb dX10_hand_62 rfl (lv_at hl 0 rfl) ?_
  refine r_get C hP ha_l0 (ct_43 _ _ _ _) fx_X10_122 (fg_43_46 _ _ _) dX10_hand_63 ?_
  refine lv_if_le (tgt := 71) hx hb dX10_hand_66 (by decide) (fun c3 => ?_) (fun c3 => ?_)
  · have hf := g_ip c3 hf
    refine lv_aload_n hx hb dX10_hand_71 rfl (lv_at hl 0 rfl) ?_
    refine r_get C hP ha_l0 (ct_43 _ _ _ _) fx_X10_25 (fg_43_6 _ _ _) dX10_hand_72 ?_
    refine lv_iconst (v := 3) hx hb dX10_hand_75 (by decide) ?_
    refine lv_iload_n hx hb dX10_hand_76 rfl (lv_at hl 1 rfl) ?_
    refine lv_imul hx hb dX10_hand_77 ?_
    refine lv_iload_n hx hb dX10_hand_78 rfl (lv_at hl 2 rfl) ?_
    obtain ⟨j4, h5, hf⟩ := rd_in hf
    refine r_iast C hP hS (gs_43_6 hW ha_l0) (fun _ => ct_49 _ _ _ _) h5 dX10_hand_79 (fun H locs hP hS => ?_)
    obtain ⟨X6, e7, hf⟩ := gl_in hf
    rw [← e7] at hP
    refine lv_aload_n hx hb dX10_hand_80 rfl (lv_at hl 0 rfl) ?_
    refine r_get C hP ha_l0 (ct_43 _ _ _ _) fx_X10_25 (fg_43_6 _ _ _) dX10_hand_81 ?_
    refine lv_iconst (v := 3) hx hb dX10_hand_84 (by decide) ?_
    refine lv_iload_n hx hb dX10_hand_85 rfl (lv_at hl 1 rfl) ?_
    refine lv_imul hx hb dX10_hand_86 ?_
    refine lv_iconst (v := 1) hx hb dX10_hand_87 (by decide) ?_
    refine lv_iadd hx hb dX10_hand_88 ?_
    refine lv_iload_n hx hb dX10_hand_89 rfl (lv_at hl 3 rfl) ?_
    obtain ⟨j8, h9, hf⟩ := rd_in hf
    refine r_iast C hP hS (gs_43_6 hW ha_l0) (fun _ => ct_49 _ _ _ _) h9 dX10_hand_90 (fun H locs hP hS => ?_)
    obtain ⟨X10, e11, hf⟩ := gl_in hf
    rw [← e11] at hP
    refine lv_aload_n hx hb dX10_hand_91 rfl (lv_at hl 0 rfl) ?_
    refine r_get C hP ha_l0 (ct_43 _ _ _ _) fx_X10_25 (fg_43_6 _ _ _) dX10_hand_92 ?_
    refine lv_iconst (v := 3) hx hb dX10_hand_95 (by decide) ?_
    refine lv_iload_n hx hb dX10_hand_96 rfl (lv_at hl 1 rfl) ?_
    refine lv_imul hx hb dX10_hand_97 ?_
    refine lv_iconst (v := 2) hx hb dX10_hand_98 (by decide) ?_
    refine lv_iadd hx hb dX10_hand_99 ?_
    refine lv_iload hx hb dX10_hand_100 (lv_at hl 4 rfl) ?_
    obtain ⟨j12, h13, hf⟩ := rd_in hf
    refine r_iast C hP hS (gs_43_6 hW ha_l0) (fun _ => ct_49 _ _ _ _) h13 dX10_hand_102 (fun H locs hP hS => ?_)
    obtain ⟨X14, e15, hf⟩ := gl_in hf
    rw [← e15] at hP
    refine lv_aload_n hx hb dX10_hand_103 rfl (lv_at hl 0 rfl) ?_
    refine r_get C hP ha_l0 (ct_43 _ _ _ _) fx_X10_28 (fg_43_7 _ _ _) dX10_hand_104 ?_
    refine lv_iload_n hx hb dX10_hand_107 rfl (lv_at hl 1 rfl) ?_
    refine lv_iload hx hb dX10_hand_108 (lv_at hl 5 rfl) ?_
    obtain ⟨j16, h17, hf⟩ := rd_in hf
    refine r_iast C hP hS (gs_43_7 hW ha_l0) (fun _ => ct_50 _ _ _ _) h17 dX10_hand_110 (fun H locs hP hS => ?_)
    obtain ⟨X18, e19, hf⟩ := gl_in hf
    rw [← e19] at hP
    refine lv_aload_n hx hb dX10_hand_111 rfl (lv_at hl 0 rfl) ?_
    obtain ⟨r20, X21, h22, hf⟩ := b2_in hf
    refine r_cVv (rest := []) C hP hS hl.1 (s_X10_findsHands hW hD0 ha_l0 h22) ix_X10_findsHands iv_X10_findsHands lk_X10_213 ⟨rfl, rfl, Nat.le_of_ble_eq_true rfl, Nat.le_of_ble_eq_true rfl⟩ ha_l0 (ct_43 _ _ _ _) rfl rfl rfl rfl (Nat.le_of_ble_eq_true rfl) ⟨Nat.zero_le _, Nat.zero_le _⟩ dX10_hand_112 (fun H locs hP hS => ?_)
    refine lv_iconst (v := 0) hx hb dX10_hand_115 (by decide) ?_
    refine lv_istore (i := 6) (lv' := [(6, .int (0 : Int32)), (0, .ref (ad 43 0)), (1, .int p1), (2, .int p2), (3, .int p3), (4, .int p4), (5, .int p5)]) hx hb dX10_hand_116 hl (Nat.le_of_ble_eq_true rfl) rfl (fun ls hl => ?_)
    refine lv_iconst (v := 0) hx hb dX10_hand_118 (by decide) ?_
    refine lv_istore (i := 7) (lv' := [(7, .int (0 : Int32)), (6, .int (0 : Int32)), (0, .ref (ad 43 0)), (1, .int p1), (2, .int p2), (3, .int p3), (4, .int p4), (5, .int p5)]) hx hb dX10_hand_119 hl (Nat.le_of_ble_eq_true rfl) rfl (fun ls hl => ?_)
    exact s_X10_hand_L121 C hW hD0 (fun p6 Y H locs ls hP hS hl hf => s_X10_hand_J158 C hW hD0 p6 Y _ _ _ hP hS hl hf) N (0 : Int32) (0 : Int32) X21 _ _ _ hP hS (lv_sub hl [2, 1, 0] rfl) ha_l0 hf
  · have hf := g_in c3 hf
    refine lv_iconst (v := 0) hx hb dX10_hand_69 (by decide) ?_
    obtain ⟨rfl, rfl⟩ := g_s1 hf
    exact r_iret C hP hS dX10_hand_70

set_option maxRecDepth 100000 in
set_option maxHeartbeats 4000000 in
theorem s_X10_hand_J54 {p : Program} {l : Launch} {e : Env} {s : State} {m : MethodId} {args : Array Value} {below : List Frame} {meth : Method} {c : Code} {D : va_G} {cA : Nat → ClassId} {ad : Nat → Nat → Nat} {NL : List (Nat × Nat)} {A : Nat → Prop} {rr : Int32} {XX : gM} {N : Nat} (C : gCx p c meth m s args cX10_hand 8 (some .int) RX10 D cA ad NL A) (hW : gWf NL) (hD0 : gD (fun _ => True) ad NL) : ∀ (p1 : Int32) (p2 : Int32) (p3 : Int32) (p4 : Int32) (p5 : Int32) (X : gM) (H : Heap) (locs : List Loc) (ls : Array Slot), gH D cA ad NL X H → va_S A s.heap H locs → lv_has ls 8 [(0, .ref (ad 43 0)), (1, .int p1), (2, .int p2), (3, .int p3), (4, .int p4), (5, .int p5)] → (43, 0) ∈ NL → (43, 0) ∈ NL → X10_hand_J54 (gal NL) N p1 p2 p3 p4 p5 X = some (rr, XX) → W p l e rm_X10_hand s m args below meth c H locs 0 0 (MQ below (gQ D cA ad NL (some (.int rr)) XX A) args s 0 0 A) (F0 m 54 ls [.ref (ad 43 0)]) := by
  have hx := C.1
  have hb := C.2.1
  intro p1 p2 p3 p4 p5 X H locs ls hP hS hl ha_l0 ha_s0 hf
  rw [X10_hand_J54] at hf
  refine lv_iconst (v := 2) hx hb dX10_hand_54 (by decide) ?_
  refine lv_goto (tgt := 59) hx hb dX10_hand_55 (by decide) ?_
  exact s_X10_hand_J59 C hW hD0 p1 p2 p3 p4 p5 (2 : Int32) X _ _ _ hP hS (lv_sub hl [0, 1, 2, 3, 4, 5] rfl) ha_l0 ha_s0 hf

set_option maxRecDepth 100000 in
set_option maxHeartbeats 4000000 in
theorem w_X10_hand {p : Program} {l : Launch} {e : Env} {s : State} {m : MethodId} {args : Array Value} {below : List Frame} {meth : Method} {c : Code} {D : va_G} {cA : Nat → ClassId} {ad : Nat → Nat → Nat} {NL : List (Nat × Nat)} {A : Nat → Prop} {rr : Int32} {XX : gM} {N : Nat} (C : gCx p c meth m s args cX10_hand 8 (some .int) RX10 D cA ad NL A) (hW : gWf NL) (hD0 : gD (fun _ => True) ad NL) {p1 : Int32} {p2 : Int32} {p3 : Int32} {p4 : Int32} {p5 : Int32} (ha_l0 : (43, 0) ∈ NL) : ∀ (X : gM) (H : Heap) (locs : List Loc) (ls : Array Slot), gH D cA ad NL X H → va_S A s.heap H locs → lv_has ls 8 [(0, .ref (ad 43 0)), (1, .int p1), (2, .int p2), (3, .int p3), (4, .int p4), (5, .int p5)] → X10_hand (gal NL) N p1 p2 p3 p4 p5 X = some (rr, XX) → W p l e rm_X10_hand s m args below meth c H locs 0 0 (MQ below (gQ D cA ad NL (some (.int rr)) XX A) args s 0 0 A) (F0 m 0 ls []) := by
  have hx := C.1
  have hb := C.2.1
  intro X H locs ls hP hS hl hf
  rw [X10_hand] at hf
  refine lv_aload_n hx hb dX10_hand_0 rfl (lv_at hl 0 rfl) ?_
  refine lv_aload_n hx hb dX10_hand_1 rfl (lv_at hl 0 rfl) ?_
  refine lv_iload_n hx hb dX10_hand_2 rfl (lv_at hl 1 rfl) ?_
  obtain ⟨r1, X2, h3, hf⟩ := b2_in hf
  refine r_cVi (rest := [.ref (ad 43 0)]) C hP hS hl.1 (s_X10_isLeaf hW hD0 ha_l0 h3) ix_X10_isLeaf iv_X10_isLeaf lk_X10_133 ⟨rfl, rfl, Nat.le_of_ble_eq_true rfl, Nat.le_of_ble_eq_true rfl⟩ ha_l0 (ct_43 _ _ _ _) rfl rfl rfl rfl (Nat.le_of_ble_eq_true rfl) ⟨Nat.zero_le _, Nat.zero_le _⟩ dX10_hand_3 (fun H locs hP hS => ?_)
  refine lv_if_ne (tgt := 13) hx hb dX10_hand_6 (by decide) (fun c4 => ?_) (fun c4 => ?_)
  · have hf := g_in c4 hf
    refine lv_iload_n hx hb dX10_hand_13 rfl (lv_at hl 2 rfl) ?_
    refine lv_iconst (v := 0) hx hb dX10_hand_14 (by decide) ?_
    refine lv_bipush (v := 20) hx hb dX10_hand_15 (by decide) ?_
    obtain ⟨r5, X6, h7, hf⟩ := b2_in hf
    refine r_cSi (rest := [.ref (ad 43 0)]) C hP hS hl.1 (s_X10_in hW hD0  h7) ix_X10_in is_X10_in ls_X10_129 ⟨rfl, rfl, Nat.le_of_ble_eq_true rfl, Nat.le_of_ble_eq_true rfl⟩ rfl rfl (Nat.le_of_ble_eq_true rfl) ⟨Nat.zero_le _, Nat.zero_le _⟩ dX10_hand_17 (fun H locs hP hS => ?_)
    refine lv_if_eq (tgt := 54) hx hb dX10_hand_20 (by decide) (fun c8 => ?_) (fun c8 => ?_)
    · have hf := g_ip c8 hf
      exact s_X10_hand_J54 C hW hD0 p1 p2 p3 p4 p5 X6 _ _ _ hP hS (lv_sub hl [0, 1, 2, 3, 4, 5] rfl) ha_l0 ha_l0 hf
    · have hf := g_in c8 hf
      refine lv_iload_n hx hb dX10_hand_23 rfl (lv_at hl 3 rfl) ?_
      refine lv_iconst (v := 0) hx hb dX10_hand_24 (by decide) ?_
      refine lv_bipush (v := 20) hx hb dX10_hand_25 (by decide) ?_
      obtain ⟨r9, X10, h11, hf⟩ := b2_in hf
      refine r_cSi (rest := [.ref (ad 43 0)]) C hP hS hl.1 (s_X10_in hW hD0  h11) ix_X10_in is_X10_in ls_X10_129 ⟨rfl, rfl, Nat.le_of_ble_eq_true rfl, Nat.le_of_ble_eq_true rfl⟩ rfl rfl (Nat.le_of_ble_eq_true rfl) ⟨Nat.zero_le _, Nat.zero_le _⟩ dX10_hand_27 (fun H locs hP hS => ?_)
      refine lv_if_eq (tgt := 54) hx hb dX10_hand_30 (by decide) (fun c12 => ?_) (fun c12 => ?_)
      · have hf := g_ip c12 hf
        exact s_X10_hand_J54 C hW hD0 p1 p2 p3 p4 p5 X10 _ _ _ hP hS (lv_sub hl [0, 1, 2, 3, 4, 5] rfl) ha_l0 ha_l0 hf
      · have hf := g_in c12 hf
        refine lv_iload hx hb dX10_hand_33 (lv_at hl 4 rfl) ?_
        refine lv_iconst (v := 0) hx hb dX10_hand_35 (by decide) ?_
        refine lv_bipush (v := 20) hx hb dX10_hand_36 (by decide) ?_
        obtain ⟨r13, X14, h15, hf⟩ := b2_in hf
        refine r_cSi (rest := [.ref (ad 43 0)]) C hP hS hl.1 (s_X10_in hW hD0  h15) ix_X10_in is_X10_in ls_X10_129 ⟨rfl, rfl, Nat.le_of_ble_eq_true rfl, Nat.le_of_ble_eq_true rfl⟩ rfl rfl (Nat.le_of_ble_eq_true rfl) ⟨Nat.zero_le _, Nat.zero_le _⟩ dX10_hand_38 (fun H locs hP hS => ?_)
        refine lv_if_eq (tgt := 54) hx hb dX10_hand_41 (by decide) (fun c16 => ?_) (fun c16 => ?_)
        · have hf := g_ip c16 hf
          exact s_X10_hand_J54 C hW hD0 p1 p2 p3 p4 p5 X14 _ _ _ hP hS (lv_sub hl [0, 1, 2, 3, 4, 5] rfl) ha_l0 ha_l0 hf
        · have hf := g_in c16 hf
          refine lv_iload hx hb dX10_hand_44 (lv_at hl 5 rfl) ?_
          refine lv_iconst (v := 0) hx hb dX10_hand_46 (by decide) ?_
          refine lv_iconst (v := 3) hx hb dX10_hand_47 (by decide) ?_
          obtain ⟨r17, X18, h19, hf⟩ := b2_in hf
          refine r_cSi (rest := [.ref (ad 43 0)]) C hP hS hl.1 (s_X10_in hW hD0  h19) ix_X10_in is_X10_in ls_X10_129 ⟨rfl, rfl, Nat.le_of_ble_eq_true rfl, Nat.le_of_ble_eq_true rfl⟩ rfl rfl (Nat.le_of_ble_eq_true rfl) ⟨Nat.zero_le _, Nat.zero_le _⟩ dX10_hand_48 (fun H locs hP hS => ?_)
          refine lv_if_ne (tgt := 58) hx hb dX10_hand_51 (by decide) (fun c20 => ?_) (fun c20 => ?_)
          · have hf := g_in c20 hf
            refine lv_iconst (v := 0) hx hb dX10_hand_58 (by decide) ?_
            exact s_X10_hand_J59 C hW hD0 p1 p2 p3 p4 p5 (0 : Int32) X18 _ _ _ hP hS (lv_sub hl [0, 1, 2, 3, 4, 5] rfl) ha_l0 ha_l0 hf
          · have hf := g_ip c20 hf
            exact s_X10_hand_J54 C hW hD0 p1 p2 p3 p4 p5 X18 _ _ _ hP hS (lv_sub hl [0, 1, 2, 3, 4, 5] rfl) ha_l0 ha_l0 hf
  · have hf := g_ip c4 hf
    refine lv_iconst (v := 1) hx hb dX10_hand_9 (by decide) ?_
    refine lv_goto (tgt := 59) hx hb dX10_hand_10 (by decide) ?_
    exact s_X10_hand_J59 C hW hD0 p1 p2 p3 p4 p5 (1 : Int32) X2 _ _ _ hP hS (lv_sub hl [0, 1, 2, 3, 4, 5] rfl) ha_l0 ha_l0 hf

theorem s_X10_hand {l : Launch} {D : va_G} {cA : Nat → ClassId} {ad : Nat → Nat → Nat} {NL : List (Nat × Nat)} {N : Nat} {p1 : Int32} {p2 : Int32} {p3 : Int32} {p4 : Int32} {p5 : Int32} {X : gM} {rr : Int32} {XX : gM} (hW : gWf NL) (hD0 : gD (fun _ => True) ad NL) (ha_l0 : (43, 0) ∈ NL) (hf : X10_hand (gal NL) N p1 p2 p3 p4 p5 X = some (rr, XX)) : gC l yX10_hand cX10_hand 8 (some .int) rm_X10_hand D cA ad NL [.ref (ad 43 0), .int p1, .int p2, .int p3, .int p4, .int p5] X (some (.int rr)) XX :=
  g_ofW (by decide) hD0 (Nat.le_of_ble_eq_true rfl) rfl (fun p e s m below meth c ls C hP hS hl => w_X10_hand C hW hD0 ha_l0 X _ _ ls hP hS hl hf)
def rm_X10_handOf : Room := { frames := 2, cells := 0, slots := 0, locals := 48 }
set_option maxRecDepth 100000 in
set_option maxHeartbeats 4000000 in
theorem s_X10_handOf_J14 {p : Program} {l : Launch} {e : Env} {s : State} {m : MethodId} {args : Array Value} {below : List Frame} {meth : Method} {c : Code} {D : va_G} {cA : Nat → ClassId} {ad : Nat → Nat → Nat} {NL : List (Nat × Nat)} {A : Nat → Prop} {rr : Int32} {XX : gM} {N : Nat} (C : gCx p c meth m s args cX10_handOf 2 (some .int) RX10 D cA ad NL A) (hW : gWf NL) (hD0 : gD (fun _ => True) ad NL) : ∀ (p1 : Int32) (s1 : Int32) (X : gM) (H : Heap) (locs : List Loc) (ls : Array Slot), gH D cA ad NL X H → va_S A s.heap H locs → lv_has ls 2 [(0, .ref (ad 43 0)), (1, .int p1)] → (43, 0) ∈ NL → (43, 0) ∈ NL → X10_handOf_J14 (gal NL) N p1 s1 X = some (rr, XX) → W p l e rm_X10_handOf s m args below meth c H locs 0 0 (MQ below (gQ D cA ad NL (some (.int rr)) XX A) args s 0 0 A) (F0 m 14 ls [.int s1, .ref (ad 43 0)]) := by
  have hx := C.1
  have hb := C.2.1
  intro p1 s1 X H locs ls hP hS hl ha_l0 ha_s0 hf
  rw [X10_handOf_J14] at hf
  refine r_put C hP hS s1 ha_s0 (ct_43 _ _ _ _) px_X10_122 (fp_43_46 _ _ _ _ _) (Nat.le_of_ble_eq_true rfl) rfl rfl dX10_handOf_14 (fun H locs hP hS => ?_)
  obtain ⟨X1, e2, hf⟩ := gl_in hf
  rw [← e2] at hP
  refine lv_aload_n hx hb dX10_handOf_17 rfl (lv_at hl 0 rfl) ?_
  refine r_get C hP ha_l0 (ct_43 _ _ _ _) fx_X10_122 (fg_43_46 _ _ _) dX10_handOf_18 ?_
  refine lv_if_le (tgt := 26) hx hb dX10_handOf_21 (by decide) (fun c3 => ?_) (fun c3 => ?_)
  · have hf := g_ip c3 hf
    refine lv_aload_n hx hb dX10_handOf_26 rfl (lv_at hl 0 rfl) ?_
    obtain ⟨r4, X5, h6, hf⟩ := b2_in hf
    refine r_cVv (rest := []) C hP hS hl.1 (s_X10_findsHands hW hD0 ha_l0 h6) ix_X10_findsHands iv_X10_findsHands lk_X10_213 ⟨rfl, rfl, Nat.le_of_ble_eq_true rfl, Nat.le_of_ble_eq_true rfl⟩ ha_l0 (ct_43 _ _ _ _) rfl rfl rfl rfl (Nat.le_of_ble_eq_true rfl) ⟨Nat.zero_le _, Nat.zero_le _⟩ dX10_handOf_27 (fun H locs hP hS => ?_)
    refine lv_aload_n hx hb dX10_handOf_30 rfl (lv_at hl 0 rfl) ?_
    refine r_get C hP ha_l0 (ct_43 _ _ _ _) fx_X10_113 (fg_43_43 _ _ _) dX10_handOf_31 ?_
    refine lv_iload_n hx hb dX10_handOf_34 rfl (lv_at hl 1 rfl) ?_
    obtain ⟨j7, h8, hf⟩ := rd_in hf
    refine r_iald C hP (gs_43_43 hW ha_l0) (ct_78 _ _ _ _) h8 dX10_handOf_35 ?_
    obtain ⟨rfl, rfl⟩ := g_s1 hf
    exact r_iret C hP hS dX10_handOf_36
  · have hf := g_in c3 hf
    refine lv_iconst (v := 0) hx hb dX10_handOf_24 (by decide) ?_
    obtain ⟨rfl, rfl⟩ := g_s1 hf
    exact r_iret C hP hS dX10_handOf_25

set_option maxRecDepth 100000 in
set_option maxHeartbeats 4000000 in
theorem w_X10_handOf {p : Program} {l : Launch} {e : Env} {s : State} {m : MethodId} {args : Array Value} {below : List Frame} {meth : Method} {c : Code} {D : va_G} {cA : Nat → ClassId} {ad : Nat → Nat → Nat} {NL : List (Nat × Nat)} {A : Nat → Prop} {rr : Int32} {XX : gM} {N : Nat} (C : gCx p c meth m s args cX10_handOf 2 (some .int) RX10 D cA ad NL A) (hW : gWf NL) (hD0 : gD (fun _ => True) ad NL) {p1 : Int32} (ha_l0 : (43, 0) ∈ NL) : ∀ (X : gM) (H : Heap) (locs : List Loc) (ls : Array Slot), gH D cA ad NL X H → va_S A s.heap H locs → lv_has ls 2 [(0, .ref (ad 43 0)), (1, .int p1)] → X10_handOf (gal NL) N p1 X = some (rr, XX) → W p l e rm_X10_handOf s m args below meth c H locs 0 0 (MQ below (gQ D cA ad NL (some (.int rr)) XX A) args s 0 0 A) (F0 m 0 ls []) := by
  have hx := C.1
  have hb := C.2.1
  intro X H locs ls hP hS hl hf
  rw [X10_handOf] at hf
  refine lv_aload_n hx hb dX10_handOf_0 rfl (lv_at hl 0 rfl) ?_
  refine lv_aload_n hx hb dX10_handOf_1 rfl (lv_at hl 0 rfl) ?_
  refine lv_iload_n hx hb dX10_handOf_2 rfl (lv_at hl 1 rfl) ?_
  obtain ⟨r1, X2, h3, hf⟩ := b2_in hf
  refine r_cVi (rest := [.ref (ad 43 0)]) C hP hS hl.1 (s_X10_isLeaf hW hD0 ha_l0 h3) ix_X10_isLeaf iv_X10_isLeaf lk_X10_133 ⟨rfl, rfl, Nat.le_of_ble_eq_true rfl, Nat.le_of_ble_eq_true rfl⟩ ha_l0 (ct_43 _ _ _ _) rfl rfl rfl rfl (Nat.le_of_ble_eq_true rfl) ⟨Nat.zero_le _, Nat.zero_le _⟩ dX10_handOf_3 (fun H locs hP hS => ?_)
  refine lv_if_eq (tgt := 13) hx hb dX10_handOf_6 (by decide) (fun c4 => ?_) (fun c4 => ?_)
  · have hf := g_ip c4 hf
    refine lv_iconst (v := 1) hx hb dX10_handOf_13 (by decide) ?_
    exact s_X10_handOf_J14 C hW hD0 p1 (1 : Int32) X2 _ _ _ hP hS (lv_sub hl [0, 1] rfl) ha_l0 ha_l0 hf
  · have hf := g_in c4 hf
    refine lv_iconst (v := 0) hx hb dX10_handOf_9 (by decide) ?_
    refine lv_goto (tgt := 14) hx hb dX10_handOf_10 (by decide) ?_
    exact s_X10_handOf_J14 C hW hD0 p1 (0 : Int32) X2 _ _ _ hP hS (lv_sub hl [0, 1] rfl) ha_l0 ha_l0 hf

theorem s_X10_handOf {l : Launch} {D : va_G} {cA : Nat → ClassId} {ad : Nat → Nat → Nat} {NL : List (Nat × Nat)} {N : Nat} {p1 : Int32} {X : gM} {rr : Int32} {XX : gM} (hW : gWf NL) (hD0 : gD (fun _ => True) ad NL) (ha_l0 : (43, 0) ∈ NL) (hf : X10_handOf (gal NL) N p1 X = some (rr, XX)) : gC l yX10_handOf cX10_handOf 2 (some .int) rm_X10_handOf D cA ad NL [.ref (ad 43 0), .int p1] X (some (.int rr)) XX :=
  g_ofW (by decide) hD0 (Nat.le_of_ble_eq_true rfl) rfl (fun p e s m below meth c ls C hP hS hl => w_X10_handOf C hW hD0 ha_l0 X _ _ ls hP hS hl hf)
def rm_X10_datesOf : Room := { frames := 0, cells := 0, slots := 0, locals := 0 }
set_option maxRecDepth 100000 in
set_option maxHeartbeats 4000000 in
theorem s_X10_datesOf_J180 {p : Program} {l : Launch} {e : Env} {s : State} {m : MethodId} {args : Array Value} {below : List Frame} {meth : Method} {c : Code} {D : va_G} {cA : Nat → ClassId} {ad : Nat → Nat → Nat} {NL : List (Nat × Nat)} {A : Nat → Prop} {rr : Int32} {XX : gM} {N : Nat} (C : gCx p c meth m s args cX10_datesOf 6 (some .int) RX10 D cA ad NL A) (hW : gWf NL) (hD0 : gD (fun _ => True) ad NL) : ∀ (p4 : Int32) (X : gM) (H : Heap) (locs : List Loc) (ls : Array Slot), gH D cA ad NL X H → va_S A s.heap H locs → lv_has ls 6 [(4, .int p4)] → X10_datesOf_J180 (gal NL) N p4 X = some (rr, XX) → W p l e rm_X10_datesOf s m args below meth c H locs 0 0 (MQ below (gQ D cA ad NL (some (.int rr)) XX A) args s 0 0 A) (F0 m 180 ls []) := by
  have hx := C.1
  have hb := C.2.1
  intro p4 X H locs ls hP hS hl hf
  rw [X10_datesOf_J180] at hf
  refine lv_iload hx hb dX10_datesOf_180 (lv_at hl 0 rfl) ?_
  obtain ⟨rfl, rfl⟩ := g_s1 hf
  exact r_iret C hP hS dX10_datesOf_182

set_option maxRecDepth 100000 in
set_option maxHeartbeats 4000000 in
theorem s_X10_datesOf_J171 {p : Program} {l : Launch} {e : Env} {s : State} {m : MethodId} {args : Array Value} {below : List Frame} {meth : Method} {c : Code} {D : va_G} {cA : Nat → ClassId} {ad : Nat → Nat → Nat} {NL : List (Nat × Nat)} {A : Nat → Prop} {rr : Int32} {XX : gM} {N : Nat} {kk : Int32 → Int32 → Int32 → gM → Option (Int32 × gM)} {k180 : Int32 → gM → Option (Int32 × gM)} (C : gCx p c meth m s args cX10_datesOf 6 (some .int) RX10 D cA ad NL A) (hW : gWf NL) (hD0 : gD (fun _ => True) ad NL) (hkk : ∀ (p2 : Int32) (p4 : Int32) (p5 : Int32) (Y : gM) (H : Heap) (locs : List Loc) (ls : Array Slot), gH D cA ad NL Y H → va_S A s.heap H locs → lv_has ls 6 [(0, .ref (ad 43 0)), (2, .int p2), (4, .int p4), (5, .int p5)] → (43, 0) ∈ NL → kk p2 p4 p5 Y = some (rr, XX) → W p l e rm_X10_datesOf s m args below meth c H locs 0 0 (MQ below (gQ D cA ad NL (some (.int rr)) XX A) args s 0 0 A) (F0 m 137 ls [])) (hk180 : ∀ (p4 : Int32) (Y : gM) (H : Heap) (locs : List Loc) (ls : Array Slot), gH D cA ad NL Y H → va_S A s.heap H locs → lv_has ls 6 [(4, .int p4)] → k180 p4 Y = some (rr, XX) → W p l e rm_X10_datesOf s m args below meth c H locs 0 0 (MQ below (gQ D cA ad NL (some (.int rr)) XX A) args s 0 0 A) (F0 m 180 ls [])) : ∀ (p2 : Int32) (p5 : Int32) (s0 : Int32) (s1 : Int32) (X : gM) (H : Heap) (locs : List Loc) (ls : Array Slot), gH D cA ad NL X H → va_S A s.heap H locs → lv_has ls 6 [(0, .ref (ad 43 0)), (2, .int p2), (5, .int p5)] → (43, 0) ∈ NL → X10_datesOf_J171 (gal NL) N kk k180 p2 p5 s0 s1 X = some (rr, XX) → W p l e rm_X10_datesOf s m args below meth c H locs 0 0 (MQ below (gQ D cA ad NL (some (.int rr)) XX A) args s 0 0 A) (F0 m 171 ls [.int s1, .int s0]) := by
  have hx := C.1
  have hb := C.2.1
  intro p2 p5 s0 s1 X H locs ls hP hS hl ha_l0 hf
  rw [X10_datesOf_J171] at hf
  refine lv_iand hx hb dX10_datesOf_171 ?_
  refine g_top hf (fun v1 e2 hf => ?_)
  refine lv_istore (i := 4) (lv' := [(4, .int v1), (0, .ref (ad 43 0)), (2, .int p2), (5, .int p5)]) hx hb dX10_datesOf_172 hl (Nat.le_of_ble_eq_true rfl) rfl (fun ls hl => ?_)
  obtain ⟨v3, e4, hf⟩ := gl_in hf
  refine lv_iinc (v := v3) (lv' := [(5, .int v3), (4, .int v1), (0, .ref (ad 43 0)), (2, .int p2)]) hx hb dX10_datesOf_174 hl (k := 3) rfl (by rw [e4]; rfl) (Nat.le_of_ble_eq_true rfl) rfl (fun ls hl => ?_)
  refine lv_goto (tgt := 137) hx hb dX10_datesOf_177 (by decide) ?_
  exact hkk p2 v1 v3 X _ _ _ hP hS (lv_sub hl [2, 3, 1, 0] rfl) ha_l0 hf

set_option maxRecDepth 100000 in
set_option maxHeartbeats 4000000 in
theorem s_X10_datesOf_L137 {p : Program} {l : Launch} {e : Env} {s : State} {m : MethodId} {args : Array Value} {below : List Frame} {meth : Method} {c : Code} {D : va_G} {cA : Nat → ClassId} {ad : Nat → Nat → Nat} {NL : List (Nat × Nat)} {A : Nat → Prop} {rr : Int32} {XX : gM} {N : Nat} {k180 : Int32 → gM → Option (Int32 × gM)} (C : gCx p c meth m s args cX10_datesOf 6 (some .int) RX10 D cA ad NL A) (hW : gWf NL) (hD0 : gD (fun _ => True) ad NL) (hk180 : ∀ (p4 : Int32) (Y : gM) (H : Heap) (locs : List Loc) (ls : Array Slot), gH D cA ad NL Y H → va_S A s.heap H locs → lv_has ls 6 [(4, .int p4)] → k180 p4 Y = some (rr, XX) → W p l e rm_X10_datesOf s m args below meth c H locs 0 0 (MQ below (gQ D cA ad NL (some (.int rr)) XX A) args s 0 0 A) (F0 m 180 ls [])) : ∀ (n : Nat) (p2 : Int32) (p4 : Int32) (p5 : Int32) (X : gM) (H : Heap) (locs : List Loc) (ls : Array Slot), gH D cA ad NL X H → va_S A s.heap H locs → lv_has ls 6 [(0, .ref (ad 43 0)), (2, .int p2), (4, .int p4), (5, .int p5)] → (43, 0) ∈ NL → X10_datesOf_L137 (gal NL) N k180 n p2 p4 p5 X = some (rr, XX) → W p l e rm_X10_datesOf s m args below meth c H locs 0 0 (MQ below (gQ D cA ad NL (some (.int rr)) XX A) args s 0 0 A) (F0 m 137 ls []) := by
  have hx := C.1
  have hb := C.2.1
  intro n
  induction n with
  | zero =>
    intro p2 p4 p5 X H locs ls hP hS hl ha_l0 hf
    rw [X10_datesOf_L137] at hf
    cases hf
  | succ n ih =>
    intro p2 p4 p5 X H locs ls hP hS hl ha_l0 hf
    rw [X10_datesOf_L137] at hf
    refine lv_iload hx hb dX10_datesOf_137 (lv_at hl 3 rfl) ?_
    refine lv_aload_n hx hb dX10_datesOf_139 rfl (lv_at hl 0 rfl) ?_
    refine r_get C hP ha_l0 (ct_43 _ _ _ _) fx_X10_126 (fg_43_0 _ _ _) dX10_datesOf_140 ?_
    refine lv_icmp_ge (tgt := 180) hx hb dX10_datesOf_143 (by decide) (fun c1 => ?_) (fun c1 => ?_)
    · have hf := g_ip c1 hf
      exact hk180 p4 X _ _ _ hP hS (lv_sub hl [2] rfl) hf
    · have hf := g_in c1 hf
      refine lv_iload hx hb dX10_datesOf_146 (lv_at hl 2 rfl) ?_
      refine lv_iload_n hx hb dX10_datesOf_148 rfl (lv_at hl 1 rfl) ?_
      refine lv_iload hx hb dX10_datesOf_149 (lv_at hl 3 rfl) ?_
      refine lv_ishr hx hb dX10_datesOf_151 ?_
      refine lv_iconst (v := 1) hx hb dX10_datesOf_152 (by decide) ?_
      refine lv_iand hx hb dX10_datesOf_153 ?_
      refine lv_iconst (v := 1) hx hb dX10_datesOf_154 (by decide) ?_
      refine lv_icmp_ne (tgt := 168) hx hb dX10_datesOf_155 (by decide) (fun c2 => ?_) (fun c2 => ?_)
      · have hf := g_in c2 hf
        refine lv_sipush (v := 4095) hx hb dX10_datesOf_168 (by decide) ?_
        exact s_X10_datesOf_J171 C hW hD0 ih hk180 p2 p5 p4 (4095 : Int32) X _ _ _ hP hS (lv_sub hl [0, 1, 3] rfl) ha_l0 hf
      · have hf := g_ip c2 hf
        refine lv_aload_n hx hb dX10_datesOf_158 rfl (lv_at hl 0 rfl) ?_
        refine r_get C hP ha_l0 (ct_43 _ _ _ _) fx_X10_34 (fg_43_9 _ _ _) dX10_datesOf_159 ?_
        refine lv_iload hx hb dX10_datesOf_162 (lv_at hl 3 rfl) ?_
        obtain ⟨j3, h4, hf⟩ := rd_in hf
        refine r_iald C hP (gs_43_9 hW ha_l0) (ct_52 _ _ _ _) h4 dX10_datesOf_164 ?_
        refine lv_goto (tgt := 171) hx hb dX10_datesOf_165 (by decide) ?_
        exact s_X10_datesOf_J171 C hW hD0 ih hk180 p2 p5 p4 ((X 52 0 j3)) X _ _ _ hP hS (lv_sub hl [0, 1, 3] rfl) ha_l0 hf

set_option maxRecDepth 100000 in
set_option maxHeartbeats 4000000 in
theorem s_X10_datesOf_J129 {p : Program} {l : Launch} {e : Env} {s : State} {m : MethodId} {args : Array Value} {below : List Frame} {meth : Method} {c : Code} {D : va_G} {cA : Nat → ClassId} {ad : Nat → Nat → Nat} {NL : List (Nat × Nat)} {A : Nat → Prop} {rr : Int32} {XX : gM} {N : Nat} (C : gCx p c meth m s args cX10_datesOf 6 (some .int) RX10 D cA ad NL A) (hW : gWf NL) (hD0 : gD (fun _ => True) ad NL) : ∀ (p2 : Int32) (X : gM) (H : Heap) (locs : List Loc) (ls : Array Slot), gH D cA ad NL X H → va_S A s.heap H locs → lv_has ls 6 [(0, .ref (ad 43 0)), (2, .int p2)] → (43, 0) ∈ NL → X10_datesOf_J129 (gal NL) N p2 X = some (rr, XX) → W p l e rm_X10_datesOf s m args below meth c H locs 0 0 (MQ below (gQ D cA ad NL (some (.int rr)) XX A) args s 0 0 A) (F0 m 129 ls []) := by
  have hx := C.1
  have hb := C.2.1
  intro p2 X H locs ls hP hS hl ha_l0 hf
  rw [X10_datesOf_J129] at hf
  refine lv_sipush (v := 4095) hx hb dX10_datesOf_129 (by decide) ?_
  refine lv_istore (i := 4) (lv' := [(4, .int (4095 : Int32)), (0, .ref (ad 43 0)), (2, .int p2)]) hx hb dX10_datesOf_132 hl (Nat.le_of_ble_eq_true rfl) rfl (fun ls hl => ?_)
  refine lv_iconst (v := 0) hx hb dX10_datesOf_134 (by decide) ?_
  refine lv_istore (i := 5) (lv' := [(5, .int (0 : Int32)), (4, .int (4095 : Int32)), (0, .ref (ad 43 0)), (2, .int p2)]) hx hb dX10_datesOf_135 hl (Nat.le_of_ble_eq_true rfl) rfl (fun ls hl => ?_)
  exact s_X10_datesOf_L137 C hW hD0 (fun p4 Y H locs ls hP hS hl hf => s_X10_datesOf_J180 C hW hD0 p4 Y _ _ _ hP hS hl hf) N p2 (4095 : Int32) (0 : Int32) X _ _ _ hP hS (lv_sub hl [2, 3, 1, 0] rfl) ha_l0 hf

set_option maxRecDepth 100000 in
set_option maxHeartbeats 4000000 in
theorem s_X10_datesOf_J126 {p : Program} {l : Launch} {e : Env} {s : State} {m : MethodId} {args : Array Value} {below : List Frame} {meth : Method} {c : Code} {D : va_G} {cA : Nat → ClassId} {ad : Nat → Nat → Nat} {NL : List (Nat × Nat)} {A : Nat → Prop} {rr : Int32} {XX : gM} {N : Nat} {kk : Int32 → Int32 → gM → Option (Int32 × gM)} {k129 : Int32 → gM → Option (Int32 × gM)} (C : gCx p c meth m s args cX10_datesOf 6 (some .int) RX10 D cA ad NL A) (hW : gWf NL) (hD0 : gD (fun _ => True) ad NL) (hkk : ∀ (p2 : Int32) (p3 : Int32) (Y : gM) (H : Heap) (locs : List Loc) (ls : Array Slot), gH D cA ad NL Y H → va_S A s.heap H locs → lv_has ls 6 [(0, .ref (ad 43 0)), (2, .int p2), (3, .int p3)] → (43, 0) ∈ NL → kk p2 p3 Y = some (rr, XX) → W p l e rm_X10_datesOf s m args below meth c H locs 0 0 (MQ below (gQ D cA ad NL (some (.int rr)) XX A) args s 0 0 A) (F0 m 6 ls [])) (hk129 : ∀ (p2 : Int32) (Y : gM) (H : Heap) (locs : List Loc) (ls : Array Slot), gH D cA ad NL Y H → va_S A s.heap H locs → lv_has ls 6 [(0, .ref (ad 43 0)), (2, .int p2)] → (43, 0) ∈ NL → k129 p2 Y = some (rr, XX) → W p l e rm_X10_datesOf s m args below meth c H locs 0 0 (MQ below (gQ D cA ad NL (some (.int rr)) XX A) args s 0 0 A) (F0 m 129 ls [])) : ∀ (p2 : Int32) (p3 : Int32) (X : gM) (H : Heap) (locs : List Loc) (ls : Array Slot), gH D cA ad NL X H → va_S A s.heap H locs → lv_has ls 6 [(0, .ref (ad 43 0)), (2, .int p2), (3, .int p3)] → (43, 0) ∈ NL → X10_datesOf_J126 (gal NL) N kk k129 p2 p3 X = some (rr, XX) → W p l e rm_X10_datesOf s m args below meth c H locs 0 0 (MQ below (gQ D cA ad NL (some (.int rr)) XX A) args s 0 0 A) (F0 m 126 ls []) := by
  have hx := C.1
  have hb := C.2.1
  intro p2 p3 X H locs ls hP hS hl ha_l0 hf
  rw [X10_datesOf_J126] at hf
  refine lv_goto (tgt := 6) hx hb dX10_datesOf_126 (by decide) ?_
  exact hkk p2 p3 X _ _ _ hP hS (lv_sub hl [0, 1, 2] rfl) ha_l0 hf

set_option maxRecDepth 100000 in
set_option maxHeartbeats 4000000 in
theorem s_X10_datesOf_J118 {p : Program} {l : Launch} {e : Env} {s : State} {m : MethodId} {args : Array Value} {below : List Frame} {meth : Method} {c : Code} {D : va_G} {cA : Nat → ClassId} {ad : Nat → Nat → Nat} {NL : List (Nat × Nat)} {A : Nat → Prop} {rr : Int32} {XX : gM} {N : Nat} {kk : Int32 → Int32 → Int32 → gM → Option (Int32 × gM)} {k126 : Int32 → Int32 → gM → Option (Int32 × gM)} (C : gCx p c meth m s args cX10_datesOf 6 (some .int) RX10 D cA ad NL A) (hW : gWf NL) (hD0 : gD (fun _ => True) ad NL) (hkk : ∀ (p2 : Int32) (p3 : Int32) (p4 : Int32) (Y : gM) (H : Heap) (locs : List Loc) (ls : Array Slot), gH D cA ad NL Y H → va_S A s.heap H locs → lv_has ls 6 [(0, .ref (ad 43 0)), (2, .int p2), (3, .int p3), (4, .int p4)] → (43, 0) ∈ NL → kk p2 p3 p4 Y = some (rr, XX) → W p l e rm_X10_datesOf s m args below meth c H locs 0 0 (MQ below (gQ D cA ad NL (some (.int rr)) XX A) args s 0 0 A) (F0 m 16 ls [])) (hk126 : ∀ (p2 : Int32) (p3 : Int32) (Y : gM) (H : Heap) (locs : List Loc) (ls : Array Slot), gH D cA ad NL Y H → va_S A s.heap H locs → lv_has ls 6 [(0, .ref (ad 43 0)), (2, .int p2), (3, .int p3)] → (43, 0) ∈ NL → k126 p2 p3 Y = some (rr, XX) → W p l e rm_X10_datesOf s m args below meth c H locs 0 0 (MQ below (gQ D cA ad NL (some (.int rr)) XX A) args s 0 0 A) (F0 m 126 ls [])) : ∀ (p3 : Int32) (p4 : Int32) (s0 : Int32) (s1 : Int32) (X : gM) (H : Heap) (locs : List Loc) (ls : Array Slot), gH D cA ad NL X H → va_S A s.heap H locs → lv_has ls 6 [(0, .ref (ad 43 0)), (3, .int p3), (4, .int p4)] → (43, 0) ∈ NL → X10_datesOf_J118 (gal NL) N kk k126 p3 p4 s0 s1 X = some (rr, XX) → W p l e rm_X10_datesOf s m args below meth c H locs 0 0 (MQ below (gQ D cA ad NL (some (.int rr)) XX A) args s 0 0 A) (F0 m 118 ls [.int s1, .int s0]) := by
  have hx := C.1
  have hb := C.2.1
  intro p3 p4 s0 s1 X H locs ls hP hS hl ha_l0 hf
  rw [X10_datesOf_J118] at hf
  refine lv_ior hx hb dX10_datesOf_118 ?_
  refine g_top hf (fun v1 e2 hf => ?_)
  refine lv_istore_n (i := 2) (lv' := [(2, .int v1), (0, .ref (ad 43 0)), (3, .int p3), (4, .int p4)]) hx hb dX10_datesOf_119 rfl hl (Nat.le_of_ble_eq_true rfl) rfl (fun ls hl => ?_)
  obtain ⟨v3, e4, hf⟩ := gl_in hf
  refine lv_iinc (v := v3) (lv' := [(4, .int v3), (2, .int v1), (0, .ref (ad 43 0)), (3, .int p3)]) hx hb dX10_datesOf_120 hl (k := 3) rfl (by rw [e4]; rfl) (Nat.le_of_ble_eq_true rfl) rfl (fun ls hl => ?_)
  refine lv_goto (tgt := 16) hx hb dX10_datesOf_123 (by decide) ?_
  exact hkk v1 p3 v3 X _ _ _ hP hS (lv_sub hl [2, 1, 3, 0] rfl) ha_l0 hf

set_option maxRecDepth 100000 in
set_option maxHeartbeats 4000000 in
theorem s_X10_datesOf_J87 {p : Program} {l : Launch} {e : Env} {s : State} {m : MethodId} {args : Array Value} {below : List Frame} {meth : Method} {c : Code} {D : va_G} {cA : Nat → ClassId} {ad : Nat → Nat → Nat} {NL : List (Nat × Nat)} {A : Nat → Prop} {rr : Int32} {XX : gM} {N : Nat} {kk : Int32 → Int32 → Int32 → gM → Option (Int32 × gM)} {k126 : Int32 → Int32 → gM → Option (Int32 × gM)} (C : gCx p c meth m s args cX10_datesOf 6 (some .int) RX10 D cA ad NL A) (hW : gWf NL) (hD0 : gD (fun _ => True) ad NL) (hkk : ∀ (p2 : Int32) (p3 : Int32) (p4 : Int32) (Y : gM) (H : Heap) (locs : List Loc) (ls : Array Slot), gH D cA ad NL Y H → va_S A s.heap H locs → lv_has ls 6 [(0, .ref (ad 43 0)), (2, .int p2), (3, .int p3), (4, .int p4)] → (43, 0) ∈ NL → kk p2 p3 p4 Y = some (rr, XX) → W p l e rm_X10_datesOf s m args below meth c H locs 0 0 (MQ below (gQ D cA ad NL (some (.int rr)) XX A) args s 0 0 A) (F0 m 16 ls [])) (hk126 : ∀ (p2 : Int32) (p3 : Int32) (Y : gM) (H : Heap) (locs : List Loc) (ls : Array Slot), gH D cA ad NL Y H → va_S A s.heap H locs → lv_has ls 6 [(0, .ref (ad 43 0)), (2, .int p2), (3, .int p3)] → (43, 0) ∈ NL → k126 p2 p3 Y = some (rr, XX) → W p l e rm_X10_datesOf s m args below meth c H locs 0 0 (MQ below (gQ D cA ad NL (some (.int rr)) XX A) args s 0 0 A) (F0 m 126 ls [])) : ∀ (p2 : Int32) (p3 : Int32) (p4 : Int32) (s0 : Int32) (X : gM) (H : Heap) (locs : List Loc) (ls : Array Slot), gH D cA ad NL X H → va_S A s.heap H locs → lv_has ls 6 [(0, .ref (ad 43 0)), (2, .int p2), (3, .int p3), (4, .int p4)] → (43, 0) ∈ NL → X10_datesOf_J87 (gal NL) N kk k126 p2 p3 p4 s0 X = some (rr, XX) → W p l e rm_X10_datesOf s m args below meth c H locs 0 0 (MQ below (gQ D cA ad NL (some (.int rr)) XX A) args s 0 0 A) (F0 m 87 ls [.int s0]) := by
  have hx := C.1
  have hb := C.2.1
  intro p2 p3 p4 s0 X H locs ls hP hS hl ha_l0 hf
  rw [X10_datesOf_J87] at hf
  refine lv_istore (i := 5) (lv' := [(5, .int s0), (0, .ref (ad 43 0)), (2, .int p2), (3, .int p3), (4, .int p4)]) hx hb dX10_datesOf_87 hl (Nat.le_of_ble_eq_true rfl) rfl (fun ls hl => ?_)
  refine lv_iload_n hx hb dX10_datesOf_89 rfl (lv_at hl 2 rfl) ?_
  refine lv_iload hx hb dX10_datesOf_90 (lv_at hl 0 rfl) ?_
  refine lv_if_eq (tgt := 117) hx hb dX10_datesOf_92 (by decide) (fun c1 => ?_) (fun c1 => ?_)
  · have hf := g_ip c1 hf
    refine lv_iconst (v := 0) hx hb dX10_datesOf_117 (by decide) ?_
    exact s_X10_datesOf_J118 C hW hD0 hkk hk126 p3 p4 p2 (0 : Int32) X _ _ _ hP hS (lv_sub hl [1, 3, 4] rfl) ha_l0 hf
  · have hf := g_in c1 hf
    refine lv_iconst (v := 1) hx hb dX10_datesOf_95 (by decide) ?_
    refine lv_aload_n hx hb dX10_datesOf_96 rfl (lv_at hl 1 rfl) ?_
    refine r_get C hP ha_l0 (ct_43 _ _ _ _) fx_X10_70 (fg_43_25 _ _ _) dX10_datesOf_97 ?_
    refine lv_iload hx hb dX10_datesOf_100 (lv_at hl 4 rfl) ?_
    obtain ⟨j2, h3, hf⟩ := rd_in hf
    refine r_iald C hP (gs_43_25 hW ha_l0) (ct_64 _ _ _ _) h3 dX10_datesOf_102 ?_
    refine lv_ishl hx hb dX10_datesOf_103 ?_
    refine lv_iconst (v := 1) hx hb dX10_datesOf_104 (by decide) ?_
    refine lv_aload_n hx hb dX10_datesOf_105 rfl (lv_at hl 1 rfl) ?_
    refine r_get C hP ha_l0 (ct_43 _ _ _ _) fx_X10_73 (fg_43_26 _ _ _) dX10_datesOf_106 ?_
    refine lv_iload hx hb dX10_datesOf_109 (lv_at hl 4 rfl) ?_
    obtain ⟨j4, h5, hf⟩ := rd_in hf
    refine r_iald C hP (gs_43_26 hW ha_l0) (ct_65 _ _ _ _) h5 dX10_datesOf_111 ?_
    refine lv_ishl hx hb dX10_datesOf_112 ?_
    refine lv_ior hx hb dX10_datesOf_113 ?_
    refine lv_goto (tgt := 118) hx hb dX10_datesOf_114 (by decide) ?_
    exact s_X10_datesOf_J118 C hW hD0 hkk hk126 p3 p4 p2 ((((1 : Int32) <<< ((X 64 0 j2) &&& (31 : Int32))) ||| ((1 : Int32) <<< ((X 65 0 j4) &&& (31 : Int32))))) X _ _ _ hP hS (lv_sub hl [1, 3, 4] rfl) ha_l0 hf

set_option maxRecDepth 100000 in
set_option maxHeartbeats 4000000 in
theorem s_X10_datesOf_J86 {p : Program} {l : Launch} {e : Env} {s : State} {m : MethodId} {args : Array Value} {below : List Frame} {meth : Method} {c : Code} {D : va_G} {cA : Nat → ClassId} {ad : Nat → Nat → Nat} {NL : List (Nat × Nat)} {A : Nat → Prop} {rr : Int32} {XX : gM} {N : Nat} {kk : Int32 → Int32 → Int32 → gM → Option (Int32 × gM)} {k126 : Int32 → Int32 → gM → Option (Int32 × gM)} (C : gCx p c meth m s args cX10_datesOf 6 (some .int) RX10 D cA ad NL A) (hW : gWf NL) (hD0 : gD (fun _ => True) ad NL) (hkk : ∀ (p2 : Int32) (p3 : Int32) (p4 : Int32) (Y : gM) (H : Heap) (locs : List Loc) (ls : Array Slot), gH D cA ad NL Y H → va_S A s.heap H locs → lv_has ls 6 [(0, .ref (ad 43 0)), (2, .int p2), (3, .int p3), (4, .int p4)] → (43, 0) ∈ NL → kk p2 p3 p4 Y = some (rr, XX) → W p l e rm_X10_datesOf s m args below meth c H locs 0 0 (MQ below (gQ D cA ad NL (some (.int rr)) XX A) args s 0 0 A) (F0 m 16 ls [])) (hk126 : ∀ (p2 : Int32) (p3 : Int32) (Y : gM) (H : Heap) (locs : List Loc) (ls : Array Slot), gH D cA ad NL Y H → va_S A s.heap H locs → lv_has ls 6 [(0, .ref (ad 43 0)), (2, .int p2), (3, .int p3)] → (43, 0) ∈ NL → k126 p2 p3 Y = some (rr, XX) → W p l e rm_X10_datesOf s m args below meth c H locs 0 0 (MQ below (gQ D cA ad NL (some (.int rr)) XX A) args s 0 0 A) (F0 m 126 ls [])) : ∀ (p2 : Int32) (p3 : Int32) (p4 : Int32) (X : gM) (H : Heap) (locs : List Loc) (ls : Array Slot), gH D cA ad NL X H → va_S A s.heap H locs → lv_has ls 6 [(0, .ref (ad 43 0)), (2, .int p2), (3, .int p3), (4, .int p4)] → (43, 0) ∈ NL → X10_datesOf_J86 (gal NL) N kk k126 p2 p3 p4 X = some (rr, XX) → W p l e rm_X10_datesOf s m args below meth c H locs 0 0 (MQ below (gQ D cA ad NL (some (.int rr)) XX A) args s 0 0 A) (F0 m 86 ls []) := by
  have hx := C.1
  have hb := C.2.1
  intro p2 p3 p4 X H locs ls hP hS hl ha_l0 hf
  rw [X10_datesOf_J86] at hf
  refine lv_iconst (v := 0) hx hb dX10_datesOf_86 (by decide) ?_
  exact s_X10_datesOf_J87 C hW hD0 hkk hk126 p2 p3 p4 (0 : Int32) X _ _ _ hP hS (lv_sub hl [0, 1, 2, 3] rfl) ha_l0 hf

set_option maxRecDepth 100000 in
set_option maxHeartbeats 4000000 in
theorem s_X10_datesOf_L16 {p : Program} {l : Launch} {e : Env} {s : State} {m : MethodId} {args : Array Value} {below : List Frame} {meth : Method} {c : Code} {D : va_G} {cA : Nat → ClassId} {ad : Nat → Nat → Nat} {NL : List (Nat × Nat)} {A : Nat → Prop} {rr : Int32} {XX : gM} {N : Nat} {k126 : Int32 → Int32 → gM → Option (Int32 × gM)} (C : gCx p c meth m s args cX10_datesOf 6 (some .int) RX10 D cA ad NL A) (hW : gWf NL) (hD0 : gD (fun _ => True) ad NL) (hk126 : ∀ (p2 : Int32) (p3 : Int32) (Y : gM) (H : Heap) (locs : List Loc) (ls : Array Slot), gH D cA ad NL Y H → va_S A s.heap H locs → lv_has ls 6 [(0, .ref (ad 43 0)), (2, .int p2), (3, .int p3)] → (43, 0) ∈ NL → k126 p2 p3 Y = some (rr, XX) → W p l e rm_X10_datesOf s m args below meth c H locs 0 0 (MQ below (gQ D cA ad NL (some (.int rr)) XX A) args s 0 0 A) (F0 m 126 ls [])) : ∀ (n : Nat) (p2 : Int32) (p3 : Int32) (p4 : Int32) (X : gM) (H : Heap) (locs : List Loc) (ls : Array Slot), gH D cA ad NL X H → va_S A s.heap H locs → lv_has ls 6 [(0, .ref (ad 43 0)), (2, .int p2), (3, .int p3), (4, .int p4)] → (43, 0) ∈ NL → X10_datesOf_L16 (gal NL) N k126 n p2 p3 p4 X = some (rr, XX) → W p l e rm_X10_datesOf s m args below meth c H locs 0 0 (MQ below (gQ D cA ad NL (some (.int rr)) XX A) args s 0 0 A) (F0 m 16 ls []) := by
  have hx := C.1
  have hb := C.2.1
  intro n
  induction n with
  | zero =>
    intro p2 p3 p4 X H locs ls hP hS hl ha_l0 hf
    rw [X10_datesOf_L16] at hf
    cases hf
  | succ n ih =>
    intro p2 p3 p4 X H locs ls hP hS hl ha_l0 hf
    rw [X10_datesOf_L16] at hf
    refine lv_iload hx hb dX10_datesOf_16 (lv_at hl 3 rfl) ?_
    refine lv_aload_n hx hb dX10_datesOf_18 rfl (lv_at hl 0 rfl) ?_
    refine r_get C hP ha_l0 (ct_43 _ _ _ _) fx_X10_185 (fg_43_23 _ _ _) dX10_datesOf_19 ?_
    refine lv_icmp_ge (tgt := 126) hx hb dX10_datesOf_22 (by decide) (fun c1 => ?_) (fun c1 => ?_)
    · have hf := g_ip c1 hf
      exact hk126 p2 p3 X _ _ _ hP hS (lv_sub hl [0, 1, 2] rfl) ha_l0 hf
    · have hf := g_in c1 hf
      refine lv_aload_n hx hb dX10_datesOf_25 rfl (lv_at hl 0 rfl) ?_
      refine r_get C hP ha_l0 (ct_43 _ _ _ _) fx_X10_80 (fg_43_28 _ _ _) dX10_datesOf_26 ?_
      refine lv_iload hx hb dX10_datesOf_29 (lv_at hl 3 rfl) ?_
      obtain ⟨j2, h3, hf⟩ := rd_in hf
      refine r_zald C hP (gs_43_28 hW ha_l0) (ct_67 _ _ _ _) h3 dX10_datesOf_31 ?_
      refine lv_if_eq (tgt := 86) hx hb dX10_datesOf_32 (by decide) (fun c4 => ?_) (fun c4 => ?_)
      · have hf := g_ip c4 hf
        exact s_X10_datesOf_J86 C hW hD0 ih hk126 p2 p3 p4 X _ _ _ hP hS (lv_sub hl [0, 1, 2, 3] rfl) ha_l0 hf
      · have hf := g_in c4 hf
        refine lv_aload_n hx hb dX10_datesOf_35 rfl (lv_at hl 0 rfl) ?_
        refine r_get C hP ha_l0 (ct_43 _ _ _ _) fx_X10_76 (fg_43_27 _ _ _) dX10_datesOf_36 ?_
        refine lv_iload hx hb dX10_datesOf_39 (lv_at hl 3 rfl) ?_
        obtain ⟨j5, h6, hf⟩ := rd_in hf
        refine r_zald C hP (gs_43_27 hW ha_l0) (ct_66 _ _ _ _) h6 dX10_datesOf_41 ?_
        refine lv_if_eq (tgt := 86) hx hb dX10_datesOf_42 (by decide) (fun c7 => ?_) (fun c7 => ?_)
        · have hf := g_ip c7 hf
          exact s_X10_datesOf_J86 C hW hD0 ih hk126 p2 p3 p4 X _ _ _ hP hS (lv_sub hl [0, 1, 2, 3] rfl) ha_l0 hf
        · have hf := g_in c7 hf
          refine lv_aload_n hx hb dX10_datesOf_45 rfl (lv_at hl 0 rfl) ?_
          refine r_get C hP ha_l0 (ct_43 _ _ _ _) fx_X10_67 (fg_43_24 _ _ _) dX10_datesOf_46 ?_
          refine lv_iload hx hb dX10_datesOf_49 (lv_at hl 3 rfl) ?_
          obtain ⟨j8, h9, hf⟩ := rd_in hf
          refine r_iald C hP (gs_43_24 hW ha_l0) (ct_63 _ _ _ _) h9 dX10_datesOf_51 ?_
          refine lv_if_ne (tgt := 86) hx hb dX10_datesOf_52 (by decide) (fun c10 => ?_) (fun c10 => ?_)
          · have hf := g_in c10 hf
            exact s_X10_datesOf_J86 C hW hD0 ih hk126 p2 p3 p4 X _ _ _ hP hS (lv_sub hl [0, 1, 2, 3] rfl) ha_l0 hf
          · have hf := g_ip c10 hf
            refine lv_iload_n hx hb dX10_datesOf_55 rfl (lv_at hl 1 rfl) ?_
            refine lv_aload_n hx hb dX10_datesOf_56 rfl (lv_at hl 0 rfl) ?_
            refine r_get C hP ha_l0 (ct_43 _ _ _ _) fx_X10_70 (fg_43_25 _ _ _) dX10_datesOf_57 ?_
            refine lv_iload hx hb dX10_datesOf_60 (lv_at hl 3 rfl) ?_
            obtain ⟨j11, h12, hf⟩ := rd_in hf
            refine r_iald C hP (gs_43_25 hW ha_l0) (ct_64 _ _ _ _) h12 dX10_datesOf_62 ?_
            refine lv_ishr hx hb dX10_datesOf_63 ?_
            refine lv_iconst (v := 1) hx hb dX10_datesOf_64 (by decide) ?_
            refine lv_iand hx hb dX10_datesOf_65 ?_
            refine lv_iload_n hx hb dX10_datesOf_66 rfl (lv_at hl 1 rfl) ?_
            refine lv_aload_n hx hb dX10_datesOf_67 rfl (lv_at hl 0 rfl) ?_
            refine r_get C hP ha_l0 (ct_43 _ _ _ _) fx_X10_73 (fg_43_26 _ _ _) dX10_datesOf_68 ?_
            refine lv_iload hx hb dX10_datesOf_71 (lv_at hl 3 rfl) ?_
            obtain ⟨j13, h14, hf⟩ := rd_in hf
            refine r_iald C hP (gs_43_26 hW ha_l0) (ct_65 _ _ _ _) h14 dX10_datesOf_73 ?_
            refine lv_ishr hx hb dX10_datesOf_74 ?_
            refine lv_iconst (v := 1) hx hb dX10_datesOf_75 (by decide) ?_
            refine lv_iand hx hb dX10_datesOf_76 ?_
            refine lv_ior hx hb dX10_datesOf_77 ?_
            refine lv_iconst (v := 1) hx hb dX10_datesOf_78 (by decide) ?_
            refine lv_icmp_ne (tgt := 86) hx hb dX10_datesOf_79 (by decide) (fun c15 => ?_) (fun c15 => ?_)
            · have hf := g_in c15 hf
              exact s_X10_datesOf_J86 C hW hD0 ih hk126 p2 p3 p4 X _ _ _ hP hS (lv_sub hl [0, 1, 2, 3] rfl) ha_l0 hf
            · have hf := g_ip c15 hf
              refine lv_iconst (v := 1) hx hb dX10_datesOf_82 (by decide) ?_
              refine lv_goto (tgt := 87) hx hb dX10_datesOf_83 (by decide) ?_
              exact s_X10_datesOf_J87 C hW hD0 ih hk126 p2 p3 p4 (1 : Int32) X _ _ _ hP hS (lv_sub hl [0, 1, 2, 3] rfl) ha_l0 hf

set_option maxRecDepth 100000 in
set_option maxHeartbeats 4000000 in
theorem s_X10_datesOf_L6 {p : Program} {l : Launch} {e : Env} {s : State} {m : MethodId} {args : Array Value} {below : List Frame} {meth : Method} {c : Code} {D : va_G} {cA : Nat → ClassId} {ad : Nat → Nat → Nat} {NL : List (Nat × Nat)} {A : Nat → Prop} {rr : Int32} {XX : gM} {N : Nat} {k129 : Int32 → gM → Option (Int32 × gM)} (C : gCx p c meth m s args cX10_datesOf 6 (some .int) RX10 D cA ad NL A) (hW : gWf NL) (hD0 : gD (fun _ => True) ad NL) (hk129 : ∀ (p2 : Int32) (Y : gM) (H : Heap) (locs : List Loc) (ls : Array Slot), gH D cA ad NL Y H → va_S A s.heap H locs → lv_has ls 6 [(0, .ref (ad 43 0)), (2, .int p2)] → (43, 0) ∈ NL → k129 p2 Y = some (rr, XX) → W p l e rm_X10_datesOf s m args below meth c H locs 0 0 (MQ below (gQ D cA ad NL (some (.int rr)) XX A) args s 0 0 A) (F0 m 129 ls [])) : ∀ (n : Nat) (p2 : Int32) (p3 : Int32) (X : gM) (H : Heap) (locs : List Loc) (ls : Array Slot), gH D cA ad NL X H → va_S A s.heap H locs → lv_has ls 6 [(0, .ref (ad 43 0)), (2, .int p2), (3, .int p3)] → (43, 0) ∈ NL → X10_datesOf_L6 (gal NL) N k129 n p2 p3 X = some (rr, XX) → W p l e rm_X10_datesOf s m args below meth c H locs 0 0 (MQ below (gQ D cA ad NL (some (.int rr)) XX A) args s 0 0 A) (F0 m 6 ls []) := by
  have hx := C.1
  have hb := C.2.1
  intro n
  induction n with
  | zero =>
    intro p2 p3 X H locs ls hP hS hl ha_l0 hf
    rw [X10_datesOf_L6] at hf
    cases hf
  | succ n ih =>
    intro p2 p3 X H locs ls hP hS hl ha_l0 hf
    rw [X10_datesOf_L6] at hf
    refine lv_iload_n hx hb dX10_datesOf_6 rfl (lv_at hl 1 rfl) ?_
    refine lv_iload_n hx hb dX10_datesOf_7 rfl (lv_at hl 2 rfl) ?_
    refine lv_icmp_eq (tgt := 129) hx hb dX10_datesOf_8 (by decide) (fun c1 => ?_) (fun c1 => ?_)
    · have hf := g_ip c1 hf
      exact hk129 p2 X _ _ _ hP hS (lv_sub hl [0, 1] rfl) ha_l0 hf
    · have hf := g_in c1 hf
      refine lv_iload_n hx hb dX10_datesOf_11 rfl (lv_at hl 1 rfl) ?_
      refine lv_istore_n (i := 3) (lv' := [(3, .int p2), (0, .ref (ad 43 0)), (2, .int p2)]) hx hb dX10_datesOf_12 rfl hl (Nat.le_of_ble_eq_true rfl) rfl (fun ls hl => ?_)
      refine lv_iconst (v := 0) hx hb dX10_datesOf_13 (by decide) ?_
      refine lv_istore (i := 4) (lv' := [(4, .int (0 : Int32)), (3, .int p2), (0, .ref (ad 43 0)), (2, .int p2)]) hx hb dX10_datesOf_14 hl (Nat.le_of_ble_eq_true rfl) rfl (fun ls hl => ?_)
      exact s_X10_datesOf_L16 C hW hD0 (fun p2 p3 Y H locs ls hP hS hl ha_l0 hf => s_X10_datesOf_J126 C hW hD0 ih hk129 p2 p3 Y _ _ _ hP hS hl ha_l0 hf) N p2 p2 (0 : Int32) X _ _ _ hP hS (lv_sub hl [2, 3, 1, 0] rfl) ha_l0 hf

set_option maxRecDepth 100000 in
set_option maxHeartbeats 4000000 in
theorem w_X10_datesOf {p : Program} {l : Launch} {e : Env} {s : State} {m : MethodId} {args : Array Value} {below : List Frame} {meth : Method} {c : Code} {D : va_G} {cA : Nat → ClassId} {ad : Nat → Nat → Nat} {NL : List (Nat × Nat)} {A : Nat → Prop} {rr : Int32} {XX : gM} {N : Nat} (C : gCx p c meth m s args cX10_datesOf 6 (some .int) RX10 D cA ad NL A) (hW : gWf NL) (hD0 : gD (fun _ => True) ad NL) {p1 : Int32} (ha_l0 : (43, 0) ∈ NL) : ∀ (X : gM) (H : Heap) (locs : List Loc) (ls : Array Slot), gH D cA ad NL X H → va_S A s.heap H locs → lv_has ls 6 [(0, .ref (ad 43 0)), (1, .int p1)] → X10_datesOf (gal NL) N p1 X = some (rr, XX) → W p l e rm_X10_datesOf s m args below meth c H locs 0 0 (MQ below (gQ D cA ad NL (some (.int rr)) XX A) args s 0 0 A) (F0 m 0 ls []) := by
  have hx := C.1
  have hb := C.2.1
  intro X H locs ls hP hS hl hf
  rw [X10_datesOf] at hf
  refine lv_iconst (v := 1) hx hb dX10_datesOf_0 (by decide) ?_
  refine lv_iload_n hx hb dX10_datesOf_1 rfl (lv_at hl 1 rfl) ?_
  refine lv_ishl hx hb dX10_datesOf_2 ?_
  refine g_top hf (fun v1 e2 hf => ?_)
  refine lv_istore_n (i := 2) (lv' := [(2, .int v1), (0, .ref (ad 43 0)), (1, .int p1)]) hx hb dX10_datesOf_3 rfl hl (Nat.le_of_ble_eq_true rfl) rfl (fun ls hl => ?_)
  refine lv_iconst (v := 0) hx hb dX10_datesOf_4 (by decide) ?_
  refine lv_istore_n (i := 3) (lv' := [(3, .int (0 : Int32)), (2, .int v1), (0, .ref (ad 43 0)), (1, .int p1)]) hx hb dX10_datesOf_5 rfl hl (Nat.le_of_ble_eq_true rfl) rfl (fun ls hl => ?_)
  exact s_X10_datesOf_L6 C hW hD0 (fun p2 Y H locs ls hP hS hl ha_l0 hf => s_X10_datesOf_J129 C hW hD0 p2 Y _ _ _ hP hS hl ha_l0 hf) N v1 (0 : Int32) X _ _ _ hP hS (lv_sub hl [2, 1, 0] rfl) ha_l0 hf

theorem s_X10_datesOf {l : Launch} {D : va_G} {cA : Nat → ClassId} {ad : Nat → Nat → Nat} {NL : List (Nat × Nat)} {N : Nat} {p1 : Int32} {X : gM} {rr : Int32} {XX : gM} (hW : gWf NL) (hD0 : gD (fun _ => True) ad NL) (ha_l0 : (43, 0) ∈ NL) (hf : X10_datesOf (gal NL) N p1 X = some (rr, XX)) : gC l yX10_datesOf cX10_datesOf 6 (some .int) rm_X10_datesOf D cA ad NL [.ref (ad 43 0), .int p1] X (some (.int rr)) XX :=
  g_ofW (by decide) hD0 (Nat.le_of_ble_eq_true rfl) rfl (fun p e s m below meth c ls C hP hS hl => w_X10_datesOf C hW hD0 ha_l0 X _ _ ls hP hS hl hf)
def rm_X10_date : Room := { frames := 2, cells := 0, slots := 0, locals := 43 }
set_option maxRecDepth 100000 in
set_option maxHeartbeats 4000000 in
theorem s_X10_date_J62 {p : Program} {l : Launch} {e : Env} {s : State} {m : MethodId} {args : Array Value} {below : List Frame} {meth : Method} {c : Code} {D : va_G} {cA : Nat → ClassId} {ad : Nat → Nat → Nat} {NL : List (Nat × Nat)} {A : Nat → Prop} {rr : Int32} {XX : gM} {N : Nat} (C : gCx p c meth m s args cX10_date 3 (some .int) RX10 D cA ad NL A) (hW : gWf NL) (hD0 : gD (fun _ => True) ad NL) : ∀ (p1 : Int32) (p2 : Int32) (s1 : Int32) (X : gM) (H : Heap) (locs : List Loc) (ls : Array Slot), gH D cA ad NL X H → va_S A s.heap H locs → lv_has ls 3 [(0, .ref (ad 43 0)), (1, .int p1), (2, .int p2)] → (43, 0) ∈ NL → (43, 0) ∈ NL → X10_date_J62 (gal NL) N p1 p2 s1 X = some (rr, XX) → W p l e rm_X10_date s m args below meth c H locs 0 0 (MQ below (gQ D cA ad NL (some (.int rr)) XX A) args s 0 0 A) (F0 m 62 ls [.int s1, .ref (ad 43 0)]) := by
  have hx := C.1
  have hb := C.2.1
  intro p1 p2 s1 X H locs ls hP hS hl ha_l0 ha_s0 hf
  rw [X10_date_J62] at hf
  refine r_put C hP hS s1 ha_s0 (ct_43 _ _ _ _) px_X10_122 (fp_43_46 _ _ _ _ _) (Nat.le_of_ble_eq_true rfl) rfl rfl dX10_date_62 (fun H locs hP hS => ?_)
  obtain ⟨X1, e2, hf⟩ := gl_in hf
  rw [← e2] at hP
  refine lv_aload_n hx hb dX10_date_65 rfl (lv_at hl 0 rfl) ?_
  refine r_get C hP ha_l0 (ct_43 _ _ _ _) fx_X10_122 (fg_43_46 _ _ _) dX10_date_66 ?_
  refine lv_if_le (tgt := 74) hx hb dX10_date_69 (by decide) (fun c3 => ?_) (fun c3 => ?_)
  · have hf := g_ip c3 hf
    refine lv_aload_n hx hb dX10_date_74 rfl (lv_at hl 0 rfl) ?_
    refine r_get C hP ha_l0 (ct_43 _ _ _ _) fx_X10_31 (fg_43_8 _ _ _) dX10_date_75 ?_
    refine lv_iload_n hx hb dX10_date_78 rfl (lv_at hl 1 rfl) ?_
    refine lv_dup2_11 hx hb dX10_date_79 rfl rfl ?_
    obtain ⟨j4, h5, hf⟩ := rd_in hf
    refine r_iald C hP (gs_43_8 hW ha_l0) (ct_51 _ _ _ _) h5 dX10_date_80 ?_
    refine lv_iconst (v := 1) hx hb dX10_date_81 (by decide) ?_
    refine lv_iadd hx hb dX10_date_82 ?_
    obtain ⟨j6, h7, hf⟩ := rd_in hf
    refine r_iast C hP hS (gs_43_8 hW ha_l0) (fun _ => ct_51 _ _ _ _) h7 dX10_date_83 (fun H locs hP hS => ?_)
    obtain ⟨X8, e9, hf⟩ := gl_in hf
    rw [← e9] at hP
    refine lv_aload_n hx hb dX10_date_84 rfl (lv_at hl 0 rfl) ?_
    refine r_get C hP ha_l0 (ct_43 _ _ _ _) fx_X10_34 (fg_43_9 _ _ _) dX10_date_85 ?_
    refine lv_iload_n hx hb dX10_date_88 rfl (lv_at hl 1 rfl) ?_
    refine lv_dup2_11 hx hb dX10_date_89 rfl rfl ?_
    obtain ⟨j10, h11, hf⟩ := rd_in hf
    refine r_iald C hP (gs_43_9 hW ha_l0) (ct_52 _ _ _ _) h11 dX10_date_90 ?_
    refine lv_iload_n hx hb dX10_date_91 rfl (lv_at hl 2 rfl) ?_
    refine lv_iand hx hb dX10_date_92 ?_
    obtain ⟨j12, h13, hf⟩ := rd_in hf
    refine r_iast C hP hS (gs_43_9 hW ha_l0) (fun _ => ct_52 _ _ _ _) h13 dX10_date_93 (fun H locs hP hS => ?_)
    obtain ⟨X14, e15, hf⟩ := gl_in hf
    rw [← e15] at hP
    refine lv_aload_n hx hb dX10_date_94 rfl (lv_at hl 0 rfl) ?_
    refine lv_iload_n hx hb dX10_date_95 rfl (lv_at hl 1 rfl) ?_
    obtain ⟨r16, X17, h18, hf⟩ := b2_in hf
    refine r_cVi (rest := []) C hP hS hl.1 (s_X10_datesOf hW hD0 ha_l0 h18) ix_X10_datesOf iv_X10_datesOf lk_X10_216 ⟨rfl, rfl, Nat.le_of_ble_eq_true rfl, Nat.le_of_ble_eq_true rfl⟩ ha_l0 (ct_43 _ _ _ _) rfl rfl rfl rfl (Nat.le_of_ble_eq_true rfl) ⟨Nat.zero_le _, Nat.zero_le _⟩ dX10_date_96 (fun H locs hP hS => ?_)
    obtain ⟨rfl, rfl⟩ := g_s1 hf
    exact r_iret C hP hS dX10_date_99
  · have hf := g_in c3 hf
    refine lv_iconst (v := 0) hx hb dX10_date_72 (by decide) ?_
    obtain ⟨rfl, rfl⟩ := g_s1 hf
    exact r_iret C hP hS dX10_date_73

set_option maxRecDepth 100000 in
set_option maxHeartbeats 4000000 in
theorem s_X10_date_J29 {p : Program} {l : Launch} {e : Env} {s : State} {m : MethodId} {args : Array Value} {below : List Frame} {meth : Method} {c : Code} {D : va_G} {cA : Nat → ClassId} {ad : Nat → Nat → Nat} {NL : List (Nat × Nat)} {A : Nat → Prop} {rr : Int32} {XX : gM} {N : Nat} (C : gCx p c meth m s args cX10_date 3 (some .int) RX10 D cA ad NL A) (hW : gWf NL) (hD0 : gD (fun _ => True) ad NL) : ∀ (p1 : Int32) (p2 : Int32) (s1 : Int32) (X : gM) (H : Heap) (locs : List Loc) (ls : Array Slot), gH D cA ad NL X H → va_S A s.heap H locs → lv_has ls 3 [(0, .ref (ad 43 0)), (1, .int p1), (2, .int p2)] → (43, 0) ∈ NL → (43, 0) ∈ NL → X10_date_J29 (gal NL) N p1 p2 s1 X = some (rr, XX) → W p l e rm_X10_date s m args below meth c H locs 0 0 (MQ below (gQ D cA ad NL (some (.int rr)) XX A) args s 0 0 A) (F0 m 29 ls [.int s1, .ref (ad 43 0)]) := by
  have hx := C.1
  have hb := C.2.1
  intro p1 p2 s1 X H locs ls hP hS hl ha_l0 ha_s0 hf
  rw [X10_date_J29] at hf
  refine r_put C hP hS s1 ha_s0 (ct_43 _ _ _ _) px_X10_122 (fp_43_46 _ _ _ _ _) (Nat.le_of_ble_eq_true rfl) rfl rfl dX10_date_29 (fun H locs hP hS => ?_)
  obtain ⟨X1, e2, hf⟩ := gl_in hf
  rw [← e2] at hP
  refine lv_aload_n hx hb dX10_date_32 rfl (lv_at hl 0 rfl) ?_
  refine lv_aload_n hx hb dX10_date_33 rfl (lv_at hl 0 rfl) ?_
  refine r_get C hP ha_l0 (ct_43 _ _ _ _) fx_X10_122 (fg_43_46 _ _ _) dX10_date_34 ?_
  refine lv_if_le (tgt := 47) hx hb dX10_date_37 (by decide) (fun c3 => ?_) (fun c3 => ?_)
  · have hf := g_ip c3 hf
    refine lv_aload_n hx hb dX10_date_47 rfl (lv_at hl 0 rfl) ?_
    refine r_get C hP ha_l0 (ct_43 _ _ _ _) fx_X10_31 (fg_43_8 _ _ _) dX10_date_48 ?_
    refine lv_iload_n hx hb dX10_date_51 rfl (lv_at hl 1 rfl) ?_
    obtain ⟨j4, h5, hf⟩ := rd_in hf
    refine r_iald C hP (gs_43_8 hW ha_l0) (ct_51 _ _ _ _) h5 dX10_date_52 ?_
    refine lv_iconst (v := 4) hx hb dX10_date_53 (by decide) ?_
    refine lv_icmp_ne (tgt := 61) hx hb dX10_date_54 (by decide) (fun c6 => ?_) (fun c6 => ?_)
    · have hf := g_in c6 hf
      refine lv_iconst (v := 0) hx hb dX10_date_61 (by decide) ?_
      exact s_X10_date_J62 C hW hD0 p1 p2 (0 : Int32) X1 _ _ _ hP hS (lv_sub hl [0, 1, 2] rfl) ha_l0 ha_l0 hf
    · have hf := g_ip c6 hf
      refine lv_iconst (v := 3) hx hb dX10_date_57 (by decide) ?_
      refine lv_goto (tgt := 62) hx hb dX10_date_58 (by decide) ?_
      exact s_X10_date_J62 C hW hD0 p1 p2 (3 : Int32) X1 _ _ _ hP hS (lv_sub hl [0, 1, 2] rfl) ha_l0 ha_l0 hf
  · have hf := g_in c3 hf
    refine lv_aload_n hx hb dX10_date_40 rfl (lv_at hl 0 rfl) ?_
    refine r_get C hP ha_l0 (ct_43 _ _ _ _) fx_X10_122 (fg_43_46 _ _ _) dX10_date_41 ?_
    refine lv_goto (tgt := 62) hx hb dX10_date_44 (by decide) ?_
    exact s_X10_date_J62 C hW hD0 p1 p2 ((X1 43 0 46)) X1 _ _ _ hP hS (lv_sub hl [0, 1, 2] rfl) ha_l0 ha_l0 hf

set_option maxRecDepth 100000 in
set_option maxHeartbeats 4000000 in
theorem w_X10_date {p : Program} {l : Launch} {e : Env} {s : State} {m : MethodId} {args : Array Value} {below : List Frame} {meth : Method} {c : Code} {D : va_G} {cA : Nat → ClassId} {ad : Nat → Nat → Nat} {NL : List (Nat × Nat)} {A : Nat → Prop} {rr : Int32} {XX : gM} {N : Nat} (C : gCx p c meth m s args cX10_date 3 (some .int) RX10 D cA ad NL A) (hW : gWf NL) (hD0 : gD (fun _ => True) ad NL) {p1 : Int32} {p2 : Int32} (ha_l0 : (43, 0) ∈ NL) : ∀ (X : gM) (H : Heap) (locs : List Loc) (ls : Array Slot), gH D cA ad NL X H → va_S A s.heap H locs → lv_has ls 3 [(0, .ref (ad 43 0)), (1, .int p1), (2, .int p2)] → X10_date (gal NL) N p1 p2 X = some (rr, XX) → W p l e rm_X10_date s m args below meth c H locs 0 0 (MQ below (gQ D cA ad NL (some (.int rr)) XX A) args s 0 0 A) (F0 m 0 ls []) := by
  have hx := C.1
  have hb := C.2.1
  intro X H locs ls hP hS hl hf
  rw [X10_date] at hf
  refine lv_aload_n hx hb dX10_date_0 rfl (lv_at hl 0 rfl) ?_
  refine lv_aload_n hx hb dX10_date_1 rfl (lv_at hl 0 rfl) ?_
  refine lv_iload_n hx hb dX10_date_2 rfl (lv_at hl 1 rfl) ?_
  obtain ⟨r1, X2, h3, hf⟩ := b2_in hf
  refine r_cVi (rest := [.ref (ad 43 0)]) C hP hS hl.1 (s_X10_isLeaf hW hD0 ha_l0 h3) ix_X10_isLeaf iv_X10_isLeaf lk_X10_133 ⟨rfl, rfl, Nat.le_of_ble_eq_true rfl, Nat.le_of_ble_eq_true rfl⟩ ha_l0 (ct_43 _ _ _ _) rfl rfl rfl rfl (Nat.le_of_ble_eq_true rfl) ⟨Nat.zero_le _, Nat.zero_le _⟩ dX10_date_3 (fun H locs hP hS => ?_)
  refine lv_if_ne (tgt := 13) hx hb dX10_date_6 (by decide) (fun c4 => ?_) (fun c4 => ?_)
  · have hf := g_in c4 hf
    refine lv_iload_n hx hb dX10_date_13 rfl (lv_at hl 2 rfl) ?_
    refine lv_iconst (v := 0) hx hb dX10_date_14 (by decide) ?_
    refine lv_sipush (v := 4095) hx hb dX10_date_15 (by decide) ?_
    obtain ⟨r5, X6, h7, hf⟩ := b2_in hf
    refine r_cSi (rest := [.ref (ad 43 0)]) C hP hS hl.1 (s_X10_in hW hD0  h7) ix_X10_in is_X10_in ls_X10_129 ⟨rfl, rfl, Nat.le_of_ble_eq_true rfl, Nat.le_of_ble_eq_true rfl⟩ rfl rfl (Nat.le_of_ble_eq_true rfl) ⟨Nat.zero_le _, Nat.zero_le _⟩ dX10_date_18 (fun H locs hP hS => ?_)
    refine lv_if_ne (tgt := 28) hx hb dX10_date_21 (by decide) (fun c8 => ?_) (fun c8 => ?_)
    · have hf := g_in c8 hf
      refine lv_iconst (v := 0) hx hb dX10_date_28 (by decide) ?_
      exact s_X10_date_J29 C hW hD0 p1 p2 (0 : Int32) X6 _ _ _ hP hS (lv_sub hl [0, 1, 2] rfl) ha_l0 ha_l0 hf
    · have hf := g_ip c8 hf
      refine lv_iconst (v := 2) hx hb dX10_date_24 (by decide) ?_
      refine lv_goto (tgt := 29) hx hb dX10_date_25 (by decide) ?_
      exact s_X10_date_J29 C hW hD0 p1 p2 (2 : Int32) X6 _ _ _ hP hS (lv_sub hl [0, 1, 2] rfl) ha_l0 ha_l0 hf
  · have hf := g_ip c4 hf
    refine lv_iconst (v := 1) hx hb dX10_date_9 (by decide) ?_
    refine lv_goto (tgt := 29) hx hb dX10_date_10 (by decide) ?_
    exact s_X10_date_J29 C hW hD0 p1 p2 (1 : Int32) X2 _ _ _ hP hS (lv_sub hl [0, 1, 2] rfl) ha_l0 ha_l0 hf

theorem s_X10_date {l : Launch} {D : va_G} {cA : Nat → ClassId} {ad : Nat → Nat → Nat} {NL : List (Nat × Nat)} {N : Nat} {p1 : Int32} {p2 : Int32} {X : gM} {rr : Int32} {XX : gM} (hW : gWf NL) (hD0 : gD (fun _ => True) ad NL) (ha_l0 : (43, 0) ∈ NL) (hf : X10_date (gal NL) N p1 p2 X = some (rr, XX)) : gC l yX10_date cX10_date 3 (some .int) rm_X10_date D cA ad NL [.ref (ad 43 0), .int p1, .int p2] X (some (.int rr)) XX :=
  g_ofW (by decide) hD0 (Nat.le_of_ble_eq_true rfl) rfl (fun p e s m below meth c ls C hP hS hl => w_X10_date C hW hD0 ha_l0 X _ _ ls hP hS hl hf)
def rm_X10_dates : Room := { frames := 2, cells := 0, slots := 0, locals := 43 }
set_option maxRecDepth 100000 in
set_option maxHeartbeats 4000000 in
theorem s_X10_dates_J33 {p : Program} {l : Launch} {e : Env} {s : State} {m : MethodId} {args : Array Value} {below : List Frame} {meth : Method} {c : Code} {D : va_G} {cA : Nat → ClassId} {ad : Nat → Nat → Nat} {NL : List (Nat × Nat)} {A : Nat → Prop} {rr : Int32} {XX : gM} {N : Nat} (C : gCx p c meth m s args cX10_dates 2 (some .int) RX10 D cA ad NL A) (hW : gWf NL) (hD0 : gD (fun _ => True) ad NL) : ∀ (s0 : Int32) (X : gM) (H : Heap) (locs : List Loc) (ls : Array Slot), gH D cA ad NL X H → va_S A s.heap H locs → lv_has ls 2 [] → X10_dates_J33 (gal NL) N s0 X = some (rr, XX) → W p l e rm_X10_dates s m args below meth c H locs 0 0 (MQ below (gQ D cA ad NL (some (.int rr)) XX A) args s 0 0 A) (F0 m 33 ls [.int s0]) := by
  have hx := C.1
  have hb := C.2.1
  intro s0 X H locs ls hP hS hl hf
  rw [X10_dates_J33] at hf
  obtain ⟨rfl, rfl⟩ := g_s1 hf
  exact r_iret C hP hS dX10_dates_33

set_option maxRecDepth 100000 in
set_option maxHeartbeats 4000000 in
theorem s_X10_dates_J14 {p : Program} {l : Launch} {e : Env} {s : State} {m : MethodId} {args : Array Value} {below : List Frame} {meth : Method} {c : Code} {D : va_G} {cA : Nat → ClassId} {ad : Nat → Nat → Nat} {NL : List (Nat × Nat)} {A : Nat → Prop} {rr : Int32} {XX : gM} {N : Nat} (C : gCx p c meth m s args cX10_dates 2 (some .int) RX10 D cA ad NL A) (hW : gWf NL) (hD0 : gD (fun _ => True) ad NL) : ∀ (p1 : Int32) (s1 : Int32) (X : gM) (H : Heap) (locs : List Loc) (ls : Array Slot), gH D cA ad NL X H → va_S A s.heap H locs → lv_has ls 2 [(0, .ref (ad 43 0)), (1, .int p1)] → (43, 0) ∈ NL → (43, 0) ∈ NL → X10_dates_J14 (gal NL) N p1 s1 X = some (rr, XX) → W p l e rm_X10_dates s m args below meth c H locs 0 0 (MQ below (gQ D cA ad NL (some (.int rr)) XX A) args s 0 0 A) (F0 m 14 ls [.int s1, .ref (ad 43 0)]) := by
  have hx := C.1
  have hb := C.2.1
  intro p1 s1 X H locs ls hP hS hl ha_l0 ha_s0 hf
  rw [X10_dates_J14] at hf
  refine r_put C hP hS s1 ha_s0 (ct_43 _ _ _ _) px_X10_122 (fp_43_46 _ _ _ _ _) (Nat.le_of_ble_eq_true rfl) rfl rfl dX10_dates_14 (fun H locs hP hS => ?_)
  obtain ⟨X1, e2, hf⟩ := gl_in hf
  rw [← e2] at hP
  refine lv_aload_n hx hb dX10_dates_17 rfl (lv_at hl 0 rfl) ?_
  refine r_get C hP ha_l0 (ct_43 _ _ _ _) fx_X10_122 (fg_43_46 _ _ _) dX10_dates_18 ?_
  refine lv_if_ne (tgt := 32) hx hb dX10_dates_21 (by decide) (fun c3 => ?_) (fun c3 => ?_)
  · have hf := g_in c3 hf
    refine lv_iconst (v := 0) hx hb dX10_dates_32 (by decide) ?_
    exact s_X10_dates_J33 C hW hD0 (0 : Int32) X1 _ _ _ hP hS (lv_sub hl [] rfl) hf
  · have hf := g_ip c3 hf
    refine lv_aload_n hx hb dX10_dates_24 rfl (lv_at hl 0 rfl) ?_
    refine lv_iload_n hx hb dX10_dates_25 rfl (lv_at hl 1 rfl) ?_
    obtain ⟨r4, X5, h6, hf⟩ := b2_in hf
    refine r_cVi (rest := []) C hP hS hl.1 (s_X10_datesOf hW hD0 ha_l0 h6) ix_X10_datesOf iv_X10_datesOf lk_X10_216 ⟨rfl, rfl, Nat.le_of_ble_eq_true rfl, Nat.le_of_ble_eq_true rfl⟩ ha_l0 (ct_43 _ _ _ _) rfl rfl rfl rfl (Nat.le_of_ble_eq_true rfl) ⟨Nat.zero_le _, Nat.zero_le _⟩ dX10_dates_26 (fun H locs hP hS => ?_)
    refine lv_goto (tgt := 33) hx hb dX10_dates_29 (by decide) ?_
    exact s_X10_dates_J33 C hW hD0 r4 X5 _ _ _ hP hS (lv_sub hl [] rfl) hf

set_option maxRecDepth 100000 in
set_option maxHeartbeats 4000000 in
theorem w_X10_dates {p : Program} {l : Launch} {e : Env} {s : State} {m : MethodId} {args : Array Value} {below : List Frame} {meth : Method} {c : Code} {D : va_G} {cA : Nat → ClassId} {ad : Nat → Nat → Nat} {NL : List (Nat × Nat)} {A : Nat → Prop} {rr : Int32} {XX : gM} {N : Nat} (C : gCx p c meth m s args cX10_dates 2 (some .int) RX10 D cA ad NL A) (hW : gWf NL) (hD0 : gD (fun _ => True) ad NL) {p1 : Int32} (ha_l0 : (43, 0) ∈ NL) : ∀ (X : gM) (H : Heap) (locs : List Loc) (ls : Array Slot), gH D cA ad NL X H → va_S A s.heap H locs → lv_has ls 2 [(0, .ref (ad 43 0)), (1, .int p1)] → X10_dates (gal NL) N p1 X = some (rr, XX) → W p l e rm_X10_dates s m args below meth c H locs 0 0 (MQ below (gQ D cA ad NL (some (.int rr)) XX A) args s 0 0 A) (F0 m 0 ls []) := by
  have hx := C.1
  have hb := C.2.1
  intro X H locs ls hP hS hl hf
  rw [X10_dates] at hf
  refine lv_aload_n hx hb dX10_dates_0 rfl (lv_at hl 0 rfl) ?_
  refine lv_aload_n hx hb dX10_dates_1 rfl (lv_at hl 0 rfl) ?_
  refine lv_iload_n hx hb dX10_dates_2 rfl (lv_at hl 1 rfl) ?_
  obtain ⟨r1, X2, h3, hf⟩ := b2_in hf
  refine r_cVi (rest := [.ref (ad 43 0)]) C hP hS hl.1 (s_X10_isLeaf hW hD0 ha_l0 h3) ix_X10_isLeaf iv_X10_isLeaf lk_X10_133 ⟨rfl, rfl, Nat.le_of_ble_eq_true rfl, Nat.le_of_ble_eq_true rfl⟩ ha_l0 (ct_43 _ _ _ _) rfl rfl rfl rfl (Nat.le_of_ble_eq_true rfl) ⟨Nat.zero_le _, Nat.zero_le _⟩ dX10_dates_3 (fun H locs hP hS => ?_)
  refine lv_if_eq (tgt := 13) hx hb dX10_dates_6 (by decide) (fun c4 => ?_) (fun c4 => ?_)
  · have hf := g_ip c4 hf
    refine lv_iconst (v := 1) hx hb dX10_dates_13 (by decide) ?_
    exact s_X10_dates_J14 C hW hD0 p1 (1 : Int32) X2 _ _ _ hP hS (lv_sub hl [0, 1] rfl) ha_l0 ha_l0 hf
  · have hf := g_in c4 hf
    refine lv_iconst (v := 0) hx hb dX10_dates_9 (by decide) ?_
    refine lv_goto (tgt := 14) hx hb dX10_dates_10 (by decide) ?_
    exact s_X10_dates_J14 C hW hD0 p1 (0 : Int32) X2 _ _ _ hP hS (lv_sub hl [0, 1] rfl) ha_l0 ha_l0 hf

theorem s_X10_dates {l : Launch} {D : va_G} {cA : Nat → ClassId} {ad : Nat → Nat → Nat} {NL : List (Nat × Nat)} {N : Nat} {p1 : Int32} {X : gM} {rr : Int32} {XX : gM} (hW : gWf NL) (hD0 : gD (fun _ => True) ad NL) (ha_l0 : (43, 0) ∈ NL) (hf : X10_dates (gal NL) N p1 X = some (rr, XX)) : gC l yX10_dates cX10_dates 2 (some .int) rm_X10_dates D cA ad NL [.ref (ad 43 0), .int p1] X (some (.int rr)) XX :=
  g_ofW (by decide) hD0 (Nat.le_of_ble_eq_true rfl) rfl (fun p e s m below meth c ls C hP hS hl => w_X10_dates C hW hD0 ha_l0 X _ _ ls hP hS hl hf)
def rm_X10_match : Room := { frames := 4, cells := 0, slots := 0, locals := 99 }
set_option maxRecDepth 100000 in
set_option maxHeartbeats 4000000 in
theorem s_X10_match_J347 {p : Program} {l : Launch} {e : Env} {s : State} {m : MethodId} {args : Array Value} {below : List Frame} {meth : Method} {c : Code} {D : va_G} {cA : Nat → ClassId} {ad : Nat → Nat → Nat} {NL : List (Nat × Nat)} {A : Nat → Prop} {rr : Int32} {XX : gM} {N : Nat} (C : gCx p c meth m s args cX10_match 12 (some .int) RX10 D cA ad NL A) (hW : gWf NL) (hD0 : gD (fun _ => True) ad NL) : ∀ (s0 : Int32) (X : gM) (H : Heap) (locs : List Loc) (ls : Array Slot), gH D cA ad NL X H → va_S A s.heap H locs → lv_has ls 12 [] → X10_match_J347 (gal NL) N s0 X = some (rr, XX) → W p l e rm_X10_match s m args below meth c H locs 0 0 (MQ below (gQ D cA ad NL (some (.int rr)) XX A) args s 0 0 A) (F0 m 347 ls [.int s0]) := by
  have hx := C.1
  have hb := C.2.1
  intro s0 X H locs ls hP hS hl hf
  rw [X10_match_J347] at hf
  obtain ⟨rfl, rfl⟩ := g_s1 hf
  exact r_iret C hP hS dX10_match_347

set_option maxRecDepth 100000 in
set_option maxHeartbeats 4000000 in
theorem s_X10_match_J330 {p : Program} {l : Launch} {e : Env} {s : State} {m : MethodId} {args : Array Value} {below : List Frame} {meth : Method} {c : Code} {D : va_G} {cA : Nat → ClassId} {ad : Nat → Nat → Nat} {NL : List (Nat × Nat)} {A : Nat → Prop} {rr : Int32} {XX : gM} {N : Nat} (C : gCx p c meth m s args cX10_match 12 (some .int) RX10 D cA ad NL A) (hW : gWf NL) (hD0 : gD (fun _ => True) ad NL) : ∀ (p5 : Int32) (p7 : Int32) (X : gM) (H : Heap) (locs : List Loc) (ls : Array Slot), gH D cA ad NL X H → va_S A s.heap H locs → lv_has ls 12 [(0, .ref (ad 43 0)), (5, .int p5), (7, .int p7)] → (43, 0) ∈ NL → X10_match_J330 (gal NL) N p5 p7 X = some (rr, XX) → W p l e rm_X10_match s m args below meth c H locs 0 0 (MQ below (gQ D cA ad NL (some (.int rr)) XX A) args s 0 0 A) (F0 m 330 ls []) := by
  have hx := C.1
  have hb := C.2.1
  intro p5 p7 X H locs ls hP hS hl ha_l0 hf
  rw [X10_match_J330] at hf
  refine lv_iload hx hb dX10_match_330 (lv_at hl 1 rfl) ?_
  refine lv_if_eq (tgt := 340) hx hb dX10_match_332 (by decide) (fun c1 => ?_) (fun c1 => ?_)
  · have hf := g_ip c1 hf
    refine lv_aload_n hx hb dX10_match_340 rfl (lv_at hl 0 rfl) ?_
    refine r_get C hP ha_l0 (ct_43 _ _ _ _) fx_X10_116 (fg_43_44 _ _ _) dX10_match_341 ?_
    refine lv_iload hx hb dX10_match_344 (lv_at hl 2 rfl) ?_
    obtain ⟨j2, h3, hf⟩ := rd_in hf
    refine r_iald C hP (gs_43_44 hW ha_l0) (ct_79 _ _ _ _) h3 dX10_match_346 ?_
    exact s_X10_match_J347 C hW hD0 ((X 79 0 j2)) X _ _ _ hP hS (lv_sub hl [] rfl) hf
  · have hf := g_in c1 hf
    refine lv_iload hx hb dX10_match_335 (lv_at hl 2 rfl) ?_
    refine lv_goto (tgt := 347) hx hb dX10_match_337 (by decide) ?_
    exact s_X10_match_J347 C hW hD0 p7 X _ _ _ hP hS (lv_sub hl [] rfl) hf

set_option maxRecDepth 100000 in
set_option maxHeartbeats 4000000 in
theorem s_X10_match_J322 {p : Program} {l : Launch} {e : Env} {s : State} {m : MethodId} {args : Array Value} {below : List Frame} {meth : Method} {c : Code} {D : va_G} {cA : Nat → ClassId} {ad : Nat → Nat → Nat} {NL : List (Nat × Nat)} {A : Nat → Prop} {rr : Int32} {XX : gM} {N : Nat} {kk : Int32 → Int32 → Int32 → Int32 → gM → Option (Int32 × gM)} {k330 : Int32 → Int32 → gM → Option (Int32 × gM)} (C : gCx p c meth m s args cX10_match 12 (some .int) RX10 D cA ad NL A) (hW : gWf NL) (hD0 : gD (fun _ => True) ad NL) (hkk : ∀ (p5 : Int32) (p6 : Int32) (p7 : Int32) (p8 : Int32) (Y : gM) (H : Heap) (locs : List Loc) (ls : Array Slot), gH D cA ad NL Y H → va_S A s.heap H locs → lv_has ls 12 [(0, .ref (ad 43 0)), (5, .int p5), (6, .int p6), (7, .int p7), (8, .int p8)] → (43, 0) ∈ NL → kk p5 p6 p7 p8 Y = some (rr, XX) → W p l e rm_X10_match s m args below meth c H locs 0 0 (MQ below (gQ D cA ad NL (some (.int rr)) XX A) args s 0 0 A) (F0 m 291 ls [])) (hk330 : ∀ (p5 : Int32) (p7 : Int32) (Y : gM) (H : Heap) (locs : List Loc) (ls : Array Slot), gH D cA ad NL Y H → va_S A s.heap H locs → lv_has ls 12 [(0, .ref (ad 43 0)), (5, .int p5), (7, .int p7)] → (43, 0) ∈ NL → k330 p5 p7 Y = some (rr, XX) → W p l e rm_X10_match s m args below meth c H locs 0 0 (MQ below (gQ D cA ad NL (some (.int rr)) XX A) args s 0 0 A) (F0 m 330 ls [])) : ∀ (p5 : Int32) (p6 : Int32) (p8 : Int32) (s0 : Int32) (X : gM) (H : Heap) (locs : List Loc) (ls : Array Slot), gH D cA ad NL X H → va_S A s.heap H locs → lv_has ls 12 [(0, .ref (ad 43 0)), (5, .int p5), (6, .int p6), (8, .int p8)] → (43, 0) ∈ NL → X10_match_J322 (gal NL) N kk k330 p5 p6 p8 s0 X = some (rr, XX) → W p l e rm_X10_match s m args below meth c H locs 0 0 (MQ below (gQ D cA ad NL (some (.int rr)) XX A) args s 0 0 A) (F0 m 322 ls [.int s0]) := by
  have hx := C.1
  have hb := C.2.1
  intro p5 p6 p8 s0 X H locs ls hP hS hl ha_l0 hf
  rw [X10_match_J322] at hf
  refine lv_istore (i := 7) (lv' := [(7, .int s0), (0, .ref (ad 43 0)), (5, .int p5), (6, .int p6), (8, .int p8)]) hx hb dX10_match_322 hl (Nat.le_of_ble_eq_true rfl) rfl (fun ls hl => ?_)
  obtain ⟨v1, e2, hf⟩ := gl_in hf
  refine lv_iinc (v := v1) (lv' := [(8, .int v1), (7, .int s0), (0, .ref (ad 43 0)), (5, .int p5), (6, .int p6)]) hx hb dX10_match_324 hl (k := 4) rfl (by rw [e2]; rfl) (Nat.le_of_ble_eq_true rfl) rfl (fun ls hl => ?_)
  refine lv_goto (tgt := 291) hx hb dX10_match_327 (by decide) ?_
  exact hkk p5 p6 s0 v1 X _ _ _ hP hS (lv_sub hl [2, 3, 4, 1, 0] rfl) ha_l0 hf

set_option maxRecDepth 100000 in
set_option maxHeartbeats 4000000 in
theorem s_X10_match_L291 {p : Program} {l : Launch} {e : Env} {s : State} {m : MethodId} {args : Array Value} {below : List Frame} {meth : Method} {c : Code} {D : va_G} {cA : Nat → ClassId} {ad : Nat → Nat → Nat} {NL : List (Nat × Nat)} {A : Nat → Prop} {rr : Int32} {XX : gM} {N : Nat} {k330 : Int32 → Int32 → gM → Option (Int32 × gM)} (C : gCx p c meth m s args cX10_match 12 (some .int) RX10 D cA ad NL A) (hW : gWf NL) (hD0 : gD (fun _ => True) ad NL) (hk330 : ∀ (p5 : Int32) (p7 : Int32) (Y : gM) (H : Heap) (locs : List Loc) (ls : Array Slot), gH D cA ad NL Y H → va_S A s.heap H locs → lv_has ls 12 [(0, .ref (ad 43 0)), (5, .int p5), (7, .int p7)] → (43, 0) ∈ NL → k330 p5 p7 Y = some (rr, XX) → W p l e rm_X10_match s m args below meth c H locs 0 0 (MQ below (gQ D cA ad NL (some (.int rr)) XX A) args s 0 0 A) (F0 m 330 ls [])) : ∀ (n : Nat) (p5 : Int32) (p6 : Int32) (p7 : Int32) (p8 : Int32) (X : gM) (H : Heap) (locs : List Loc) (ls : Array Slot), gH D cA ad NL X H → va_S A s.heap H locs → lv_has ls 12 [(0, .ref (ad 43 0)), (5, .int p5), (6, .int p6), (7, .int p7), (8, .int p8)] → (43, 0) ∈ NL → X10_match_L291 (gal NL) N k330 n p5 p6 p7 p8 X = some (rr, XX) → W p l e rm_X10_match s m args below meth c H locs 0 0 (MQ below (gQ D cA ad NL (some (.int rr)) XX A) args s 0 0 A) (F0 m 291 ls []) := by
  have hx := C.1
  have hb := C.2.1
  intro n
  induction n with
  | zero =>
    intro p5 p6 p7 p8 X H locs ls hP hS hl ha_l0 hf
    rw [X10_match_L291] at hf
    cases hf
  | succ n ih =>
    intro p5 p6 p7 p8 X H locs ls hP hS hl ha_l0 hf
    rw [X10_match_L291] at hf
    refine lv_iload hx hb dX10_match_291 (lv_at hl 4 rfl) ?_
    refine lv_iload hx hb dX10_match_293 (lv_at hl 2 rfl) ?_
    refine lv_icmp_gt (tgt := 330) hx hb dX10_match_295 (by decide) (fun c1 => ?_) (fun c1 => ?_)
    · have hf := g_ip c1 hf
      exact hk330 p5 p7 X _ _ _ hP hS (lv_sub hl [0, 1, 3] rfl) ha_l0 hf
    · have hf := g_in c1 hf
      refine lv_aload_n hx hb dX10_match_298 rfl (lv_at hl 0 rfl) ?_
      refine r_get C hP ha_l0 (ct_43 _ _ _ _) fx_X10_116 (fg_43_44 _ _ _) dX10_match_299 ?_
      refine lv_iload hx hb dX10_match_302 (lv_at hl 4 rfl) ?_
      obtain ⟨j2, h3, hf⟩ := rd_in hf
      refine r_iald C hP (gs_43_44 hW ha_l0) (ct_79 _ _ _ _) h3 dX10_match_304 ?_
      refine lv_aload_n hx hb dX10_match_305 rfl (lv_at hl 0 rfl) ?_
      refine r_get C hP ha_l0 (ct_43 _ _ _ _) fx_X10_116 (fg_43_44 _ _ _) dX10_match_306 ?_
      refine lv_iload hx hb dX10_match_309 (lv_at hl 3 rfl) ?_
      obtain ⟨j4, h5, hf⟩ := rd_in hf
      refine r_iald C hP (gs_43_44 hW ha_l0) (ct_79 _ _ _ _) h5 dX10_match_311 ?_
      refine lv_icmp_ge (tgt := 320) hx hb dX10_match_312 (by decide) (fun c6 => ?_) (fun c6 => ?_)
      · have hf := g_ip c6 hf
        refine lv_iload hx hb dX10_match_320 (lv_at hl 3 rfl) ?_
        exact s_X10_match_J322 C hW hD0 ih hk330 p5 p6 p8 p7 X _ _ _ hP hS (lv_sub hl [0, 1, 2, 4] rfl) ha_l0 hf
      · have hf := g_in c6 hf
        refine lv_iload hx hb dX10_match_315 (lv_at hl 4 rfl) ?_
        refine lv_goto (tgt := 322) hx hb dX10_match_317 (by decide) ?_
        exact s_X10_match_J322 C hW hD0 ih hk330 p5 p6 p8 p8 X _ _ _ hP hS (lv_sub hl [0, 1, 2, 4] rfl) ha_l0 hf

set_option maxRecDepth 100000 in
set_option maxHeartbeats 4000000 in
theorem s_X10_match_J285 {p : Program} {l : Launch} {e : Env} {s : State} {m : MethodId} {args : Array Value} {below : List Frame} {meth : Method} {c : Code} {D : va_G} {cA : Nat → ClassId} {ad : Nat → Nat → Nat} {NL : List (Nat × Nat)} {A : Nat → Prop} {rr : Int32} {XX : gM} {N : Nat} (C : gCx p c meth m s args cX10_match 12 (some .int) RX10 D cA ad NL A) (hW : gWf NL) (hD0 : gD (fun _ => True) ad NL) : ∀ (p5 : Int32) (p6 : Int32) (X : gM) (H : Heap) (locs : List Loc) (ls : Array Slot), gH D cA ad NL X H → va_S A s.heap H locs → lv_has ls 12 [(0, .ref (ad 43 0)), (5, .int p5), (6, .int p6)] → (43, 0) ∈ NL → X10_match_J285 (gal NL) N p5 p6 X = some (rr, XX) → W p l e rm_X10_match s m args below meth c H locs 0 0 (MQ below (gQ D cA ad NL (some (.int rr)) XX A) args s 0 0 A) (F0 m 285 ls []) := by
  have hx := C.1
  have hb := C.2.1
  intro p5 p6 X H locs ls hP hS hl ha_l0 hf
  rw [X10_match_J285] at hf
  refine lv_iconst (v := 0) hx hb dX10_match_285 (by decide) ?_
  refine lv_istore (i := 7) (lv' := [(7, .int (0 : Int32)), (0, .ref (ad 43 0)), (5, .int p5), (6, .int p6)]) hx hb dX10_match_286 hl (Nat.le_of_ble_eq_true rfl) rfl (fun ls hl => ?_)
  refine lv_iconst (v := 1) hx hb dX10_match_288 (by decide) ?_
  refine lv_istore (i := 8) (lv' := [(8, .int (1 : Int32)), (7, .int (0 : Int32)), (0, .ref (ad 43 0)), (5, .int p5), (6, .int p6)]) hx hb dX10_match_289 hl (Nat.le_of_ble_eq_true rfl) rfl (fun ls hl => ?_)
  exact s_X10_match_L291 C hW hD0 (fun p5 p7 Y H locs ls hP hS hl ha_l0 hf => s_X10_match_J330 C hW hD0 p5 p7 Y _ _ _ hP hS hl ha_l0 hf) N p5 p6 (0 : Int32) (1 : Int32) X _ _ _ hP hS (lv_sub hl [2, 3, 4, 1, 0] rfl) ha_l0 hf

set_option maxRecDepth 100000 in
set_option maxHeartbeats 4000000 in
theorem s_X10_match_J279 {p : Program} {l : Launch} {e : Env} {s : State} {m : MethodId} {args : Array Value} {below : List Frame} {meth : Method} {c : Code} {D : va_G} {cA : Nat → ClassId} {ad : Nat → Nat → Nat} {NL : List (Nat × Nat)} {A : Nat → Prop} {rr : Int32} {XX : gM} {N : Nat} {kk : Int32 → Int32 → Int32 → Int32 → Int32 → gM → Option (Int32 × gM)} {k285 : Int32 → Int32 → gM → Option (Int32 × gM)} (C : gCx p c meth m s args cX10_match 12 (some .int) RX10 D cA ad NL A) (hW : gWf NL) (hD0 : gD (fun _ => True) ad NL) (hkk : ∀ (p1 : Int32) (p2 : Int32) (p5 : Int32) (p6 : Int32) (p7 : Int32) (Y : gM) (H : Heap) (locs : List Loc) (ls : Array Slot), gH D cA ad NL Y H → va_S A s.heap H locs → lv_has ls 12 [(0, .ref (ad 43 0)), (1, .int p1), (2, .int p2), (5, .int p5), (6, .int p6), (7, .int p7)] → (43, 0) ∈ NL → kk p1 p2 p5 p6 p7 Y = some (rr, XX) → W p l e rm_X10_match s m args below meth c H locs 0 0 (MQ below (gQ D cA ad NL (some (.int rr)) XX A) args s 0 0 A) (F0 m 90 ls [])) (hk285 : ∀ (p5 : Int32) (p6 : Int32) (Y : gM) (H : Heap) (locs : List Loc) (ls : Array Slot), gH D cA ad NL Y H → va_S A s.heap H locs → lv_has ls 12 [(0, .ref (ad 43 0)), (5, .int p5), (6, .int p6)] → (43, 0) ∈ NL → k285 p5 p6 Y = some (rr, XX) → W p l e rm_X10_match s m args below meth c H locs 0 0 (MQ below (gQ D cA ad NL (some (.int rr)) XX A) args s 0 0 A) (F0 m 285 ls [])) : ∀ (p1 : Int32) (p2 : Int32) (p5 : Int32) (p6 : Int32) (p7 : Int32) (X : gM) (H : Heap) (locs : List Loc) (ls : Array Slot), gH D cA ad NL X H → va_S A s.heap H locs → lv_has ls 12 [(0, .ref (ad 43 0)), (1, .int p1), (2, .int p2), (5, .int p5), (6, .int p6), (7, .int p7)] → (43, 0) ∈ NL → X10_match_J279 (gal NL) N kk k285 p1 p2 p5 p6 p7 X = some (rr, XX) → W p l e rm_X10_match s m args below meth c H locs 0 0 (MQ below (gQ D cA ad NL (some (.int rr)) XX A) args s 0 0 A) (F0 m 279 ls []) := by
  have hx := C.1
  have hb := C.2.1
  intro p1 p2 p5 p6 p7 X H locs ls hP hS hl ha_l0 hf
  rw [X10_match_J279] at hf
  obtain ⟨v1, e2, hf⟩ := gl_in hf
  refine lv_iinc (v := v1) (lv' := [(7, .int v1), (0, .ref (ad 43 0)), (1, .int p1), (2, .int p2), (5, .int p5), (6, .int p6)]) hx hb dX10_match_279 hl (k := 5) rfl (by rw [e2]; rfl) (Nat.le_of_ble_eq_true rfl) rfl (fun ls hl => ?_)
  refine lv_goto (tgt := 90) hx hb dX10_match_282 (by decide) ?_
  exact hkk p1 p2 p5 p6 v1 X _ _ _ hP hS (lv_sub hl [1, 2, 3, 4, 5, 0] rfl) ha_l0 hf

set_option maxRecDepth 100000 in
set_option maxHeartbeats 4000000 in
theorem s_X10_match_L246 {p : Program} {l : Launch} {e : Env} {s : State} {m : MethodId} {args : Array Value} {below : List Frame} {meth : Method} {c : Code} {D : va_G} {cA : Nat → ClassId} {ad : Nat → Nat → Nat} {NL : List (Nat × Nat)} {A : Nat → Prop} {rr : Int32} {XX : gM} {N : Nat} {k279 : Int32 → Int32 → Int32 → Int32 → Int32 → gM → Option (Int32 × gM)} (C : gCx p c meth m s args cX10_match 12 (some .int) RX10 D cA ad NL A) (hW : gWf NL) (hD0 : gD (fun _ => True) ad NL) (hk279 : ∀ (p1 : Int32) (p2 : Int32) (p5 : Int32) (p6 : Int32) (p7 : Int32) (Y : gM) (H : Heap) (locs : List Loc) (ls : Array Slot), gH D cA ad NL Y H → va_S A s.heap H locs → lv_has ls 12 [(0, .ref (ad 43 0)), (1, .int p1), (2, .int p2), (5, .int p5), (6, .int p6), (7, .int p7)] → (43, 0) ∈ NL → k279 p1 p2 p5 p6 p7 Y = some (rr, XX) → W p l e rm_X10_match s m args below meth c H locs 0 0 (MQ below (gQ D cA ad NL (some (.int rr)) XX A) args s 0 0 A) (F0 m 279 ls [])) : ∀ (n : Nat) (p1 : Int32) (p2 : Int32) (p5 : Int32) (p6 : Int32) (p7 : Int32) (p8 : Int32) (p9 : Int32) (X : gM) (H : Heap) (locs : List Loc) (ls : Array Slot), gH D cA ad NL X H → va_S A s.heap H locs → lv_has ls 12 [(0, .ref (ad 43 0)), (1, .int p1), (2, .int p2), (5, .int p5), (6, .int p6), (7, .int p7), (8, .int p8), (9, .int p9)] → (43, 0) ∈ NL → X10_match_L246 (gal NL) N k279 n p1 p2 p5 p6 p7 p8 p9 X = some (rr, XX) → W p l e rm_X10_match s m args below meth c H locs 0 0 (MQ below (gQ D cA ad NL (some (.int rr)) XX A) args s 0 0 A) (F0 m 246 ls []) := by
  have hx := C.1
  have hb := C.2.1
  intro n
  induction n with
  | zero =>
    intro p1 p2 p5 p6 p7 p8 p9 X H locs ls hP hS hl ha_l0 hf
    rw [X10_match_L246] at hf
    cases hf
  | succ n ih =>
    intro p1 p2 p5 p6 p7 p8 p9 X H locs ls hP hS hl ha_l0 hf
    rw [X10_match_L246] at hf
    refine lv_iload hx hb dX10_match_246 (lv_at hl 7 rfl) ?_
    refine lv_iload hx hb dX10_match_248 (lv_at hl 4 rfl) ?_
    refine lv_icmp_gt (tgt := 279) hx hb dX10_match_250 (by decide) (fun c1 => ?_) (fun c1 => ?_)
    · have hf := g_ip c1 hf
      exact hk279 p1 p2 p5 p6 p7 X _ _ _ hP hS (lv_sub hl [0, 1, 2, 3, 4, 5] rfl) ha_l0 hf
    · have hf := g_in c1 hf
      refine lv_iload hx hb dX10_match_253 (lv_at hl 6 rfl) ?_
      refine lv_iconst (v := -1) hx hb dX10_match_255 (by decide) ?_
      refine lv_icmp_eq (tgt := 279) hx hb dX10_match_256 (by decide) (fun c2 => ?_) (fun c2 => ?_)
      · have hf := g_ip c2 hf
        exact hk279 p1 p2 p5 p6 p7 X _ _ _ hP hS (lv_sub hl [0, 1, 2, 3, 4, 5] rfl) ha_l0 hf
      · have hf := g_in c2 hf
        refine lv_aload_n hx hb dX10_match_259 rfl (lv_at hl 0 rfl) ?_
        refine r_get C hP ha_l0 (ct_43 _ _ _ _) fx_X10_116 (fg_43_44 _ _ _) dX10_match_260 ?_
        refine lv_iload hx hb dX10_match_263 (lv_at hl 7 rfl) ?_
        refine lv_aload_n hx hb dX10_match_265 rfl (lv_at hl 0 rfl) ?_
        refine r_get C hP ha_l0 (ct_43 _ _ _ _) fx_X10_119 (fg_43_45 _ _ _) dX10_match_266 ?_
        refine lv_iload hx hb dX10_match_269 (lv_at hl 7 rfl) ?_
        obtain ⟨j3, h4, hf⟩ := rd_in hf
        refine r_iald C hP (gs_43_45 hW ha_l0) (ct_80 _ _ _ _) h4 dX10_match_271 ?_
        obtain ⟨j5, h6, hf⟩ := rd_in hf
        refine r_iast C hP hS (gs_43_44 hW ha_l0) (fun _ => ct_79 _ _ _ _) h6 dX10_match_272 (fun H locs hP hS => ?_)
        obtain ⟨X7, e8, hf⟩ := gl_in hf
        rw [← e8] at hP
        obtain ⟨v9, e10, hf⟩ := gl_in hf
        refine lv_iinc (v := v9) (lv' := [(9, .int v9), (0, .ref (ad 43 0)), (1, .int p1), (2, .int p2), (5, .int p5), (6, .int p6), (7, .int p7), (8, .int p8)]) hx hb dX10_match_273 hl (k := 7) rfl (by rw [e10]; rfl) (Nat.le_of_ble_eq_true rfl) rfl (fun ls hl => ?_)
        refine lv_goto (tgt := 246) hx hb dX10_match_276 (by decide) ?_
        exact ih p1 p2 p5 p6 p7 p8 v9 X7 _ _ _ hP hS (lv_sub hl [1, 2, 3, 4, 5, 6, 7, 0] rfl) ha_l0 hf

set_option maxRecDepth 100000 in
set_option maxHeartbeats 4000000 in
theorem s_X10_match_J243 {p : Program} {l : Launch} {e : Env} {s : State} {m : MethodId} {args : Array Value} {below : List Frame} {meth : Method} {c : Code} {D : va_G} {cA : Nat → ClassId} {ad : Nat → Nat → Nat} {NL : List (Nat × Nat)} {A : Nat → Prop} {rr : Int32} {XX : gM} {N : Nat} {kk : Int32 → Int32 → Int32 → Int32 → Int32 → gM → Option (Int32 × gM)} {k285 : Int32 → Int32 → gM → Option (Int32 × gM)} (C : gCx p c meth m s args cX10_match 12 (some .int) RX10 D cA ad NL A) (hW : gWf NL) (hD0 : gD (fun _ => True) ad NL) (hkk : ∀ (p1 : Int32) (p2 : Int32) (p5 : Int32) (p6 : Int32) (p7 : Int32) (Y : gM) (H : Heap) (locs : List Loc) (ls : Array Slot), gH D cA ad NL Y H → va_S A s.heap H locs → lv_has ls 12 [(0, .ref (ad 43 0)), (1, .int p1), (2, .int p2), (5, .int p5), (6, .int p6), (7, .int p7)] → (43, 0) ∈ NL → kk p1 p2 p5 p6 p7 Y = some (rr, XX) → W p l e rm_X10_match s m args below meth c H locs 0 0 (MQ below (gQ D cA ad NL (some (.int rr)) XX A) args s 0 0 A) (F0 m 90 ls [])) (hk285 : ∀ (p5 : Int32) (p6 : Int32) (Y : gM) (H : Heap) (locs : List Loc) (ls : Array Slot), gH D cA ad NL Y H → va_S A s.heap H locs → lv_has ls 12 [(0, .ref (ad 43 0)), (5, .int p5), (6, .int p6)] → (43, 0) ∈ NL → k285 p5 p6 Y = some (rr, XX) → W p l e rm_X10_match s m args below meth c H locs 0 0 (MQ below (gQ D cA ad NL (some (.int rr)) XX A) args s 0 0 A) (F0 m 285 ls [])) : ∀ (p1 : Int32) (p2 : Int32) (p5 : Int32) (p6 : Int32) (p7 : Int32) (p8 : Int32) (X : gM) (H : Heap) (locs : List Loc) (ls : Array Slot), gH D cA ad NL X H → va_S A s.heap H locs → lv_has ls 12 [(0, .ref (ad 43 0)), (1, .int p1), (2, .int p2), (5, .int p5), (6, .int p6), (7, .int p7), (8, .int p8)] → (43, 0) ∈ NL → X10_match_J243 (gal NL) N kk k285 p1 p2 p5 p6 p7 p8 X = some (rr, XX) → W p l e rm_X10_match s m args below meth c H locs 0 0 (MQ below (gQ D cA ad NL (some (.int rr)) XX A) args s 0 0 A) (F0 m 243 ls []) := by
  have hx := C.1
  have hb := C.2.1
  intro p1 p2 p5 p6 p7 p8 X H locs ls hP hS hl ha_l0 hf
  rw [X10_match_J243] at hf
  refine lv_iconst (v := 0) hx hb dX10_match_243 (by decide) ?_
  refine lv_istore (i := 9) (lv' := [(9, .int (0 : Int32)), (0, .ref (ad 43 0)), (1, .int p1), (2, .int p2), (5, .int p5), (6, .int p6), (7, .int p7), (8, .int p8)]) hx hb dX10_match_244 hl (Nat.le_of_ble_eq_true rfl) rfl (fun ls hl => ?_)
  exact s_X10_match_L246 C hW hD0 (fun p1 p2 p5 p6 p7 Y H locs ls hP hS hl ha_l0 hf => s_X10_match_J279 C hW hD0 hkk hk285 p1 p2 p5 p6 p7 Y _ _ _ hP hS hl ha_l0 hf) N p1 p2 p5 p6 p7 p8 (0 : Int32) X _ _ _ hP hS (lv_sub hl [1, 2, 3, 4, 5, 6, 7, 0] rfl) ha_l0 hf

set_option maxRecDepth 100000 in
set_option maxHeartbeats 4000000 in
theorem s_X10_match_J228 {p : Program} {l : Launch} {e : Env} {s : State} {m : MethodId} {args : Array Value} {below : List Frame} {meth : Method} {c : Code} {D : va_G} {cA : Nat → ClassId} {ad : Nat → Nat → Nat} {NL : List (Nat × Nat)} {A : Nat → Prop} {rr : Int32} {XX : gM} {N : Nat} {kk : Int32 → Int32 → Int32 → Int32 → Int32 → Int32 → Int32 → gM → Option (Int32 × gM)} {k243 : Int32 → Int32 → Int32 → Int32 → Int32 → Int32 → gM → Option (Int32 × gM)} (C : gCx p c meth m s args cX10_match 12 (some .int) RX10 D cA ad NL A) (hW : gWf NL) (hD0 : gD (fun _ => True) ad NL) (hkk : ∀ (p1 : Int32) (p2 : Int32) (p5 : Int32) (p6 : Int32) (p7 : Int32) (p8 : Int32) (p9 : Int32) (Y : gM) (H : Heap) (locs : List Loc) (ls : Array Slot), gH D cA ad NL Y H → va_S A s.heap H locs → lv_has ls 12 [(0, .ref (ad 43 0)), (1, .int p1), (2, .int p2), (5, .int p5), (6, .int p6), (7, .int p7), (8, .int p8), (9, .int p9)] → (43, 0) ∈ NL → kk p1 p2 p5 p6 p7 p8 p9 Y = some (rr, XX) → W p l e rm_X10_match s m args below meth c H locs 0 0 (MQ below (gQ D cA ad NL (some (.int rr)) XX A) args s 0 0 A) (F0 m 113 ls [])) (hk243 : ∀ (p1 : Int32) (p2 : Int32) (p5 : Int32) (p6 : Int32) (p7 : Int32) (p8 : Int32) (Y : gM) (H : Heap) (locs : List Loc) (ls : Array Slot), gH D cA ad NL Y H → va_S A s.heap H locs → lv_has ls 12 [(0, .ref (ad 43 0)), (1, .int p1), (2, .int p2), (5, .int p5), (6, .int p6), (7, .int p7), (8, .int p8)] → (43, 0) ∈ NL → k243 p1 p2 p5 p6 p7 p8 Y = some (rr, XX) → W p l e rm_X10_match s m args below meth c H locs 0 0 (MQ below (gQ D cA ad NL (some (.int rr)) XX A) args s 0 0 A) (F0 m 243 ls [])) : ∀ (p1 : Int32) (p2 : Int32) (p5 : Int32) (p6 : Int32) (p7 : Int32) (p8 : Int32) (p9 : Int32) (p10 : Int32) (X : gM) (H : Heap) (locs : List Loc) (ls : Array Slot), gH D cA ad NL X H → va_S A s.heap H locs → lv_has ls 12 [(0, .ref (ad 43 0)), (1, .int p1), (2, .int p2), (5, .int p5), (6, .int p6), (7, .int p7), (8, .int p8), (9, .int p9), (10, .int p10)] → (43, 0) ∈ NL → X10_match_J228 (gal NL) N kk k243 p1 p2 p5 p6 p7 p8 p9 p10 X = some (rr, XX) → W p l e rm_X10_match s m args below meth c H locs 0 0 (MQ below (gQ D cA ad NL (some (.int rr)) XX A) args s 0 0 A) (F0 m 228 ls []) := by
  have hx := C.1
  have hb := C.2.1
  intro p1 p2 p5 p6 p7 p8 p9 p10 X H locs ls hP hS hl ha_l0 hf
  rw [X10_match_J228] at hf
  refine lv_aload_n hx hb dX10_match_228 rfl (lv_at hl 0 rfl) ?_
  refine r_get C hP ha_l0 (ct_43 _ _ _ _) fx_X10_119 (fg_43_45 _ _ _) dX10_match_229 ?_
  refine lv_iload hx hb dX10_match_232 (lv_at hl 7 rfl) ?_
  refine lv_iload hx hb dX10_match_234 (lv_at hl 8 rfl) ?_
  obtain ⟨j1, h2, hf⟩ := rd_in hf
  refine r_iast C hP hS (gs_43_45 hW ha_l0) (fun _ => ct_80 _ _ _ _) h2 dX10_match_236 (fun H locs hP hS => ?_)
  obtain ⟨X3, e4, hf⟩ := gl_in hf
  rw [← e4] at hP
  obtain ⟨v5, e6, hf⟩ := gl_in hf
  refine lv_iinc (v := v5) (lv' := [(9, .int v5), (0, .ref (ad 43 0)), (1, .int p1), (2, .int p2), (5, .int p5), (6, .int p6), (7, .int p7), (8, .int p8), (10, .int p10)]) hx hb dX10_match_237 hl (k := 7) rfl (by rw [e6]; rfl) (Nat.le_of_ble_eq_true rfl) rfl (fun ls hl => ?_)
  refine lv_goto (tgt := 113) hx hb dX10_match_240 (by decide) ?_
  exact hkk p1 p2 p5 p6 p7 p8 v5 X3 _ _ _ hP hS (lv_sub hl [1, 2, 3, 4, 5, 6, 7, 0] rfl) ha_l0 hf

set_option maxRecDepth 100000 in
set_option maxHeartbeats 4000000 in
theorem s_X10_match_J226 {p : Program} {l : Launch} {e : Env} {s : State} {m : MethodId} {args : Array Value} {below : List Frame} {meth : Method} {c : Code} {D : va_G} {cA : Nat → ClassId} {ad : Nat → Nat → Nat} {NL : List (Nat × Nat)} {A : Nat → Prop} {rr : Int32} {XX : gM} {N : Nat} {kk : Int32 → Int32 → Int32 → Int32 → Int32 → Int32 → Int32 → gM → Option (Int32 × gM)} {k243 : Int32 → Int32 → Int32 → Int32 → Int32 → Int32 → gM → Option (Int32 × gM)} (C : gCx p c meth m s args cX10_match 12 (some .int) RX10 D cA ad NL A) (hW : gWf NL) (hD0 : gD (fun _ => True) ad NL) (hkk : ∀ (p1 : Int32) (p2 : Int32) (p5 : Int32) (p6 : Int32) (p7 : Int32) (p8 : Int32) (p9 : Int32) (Y : gM) (H : Heap) (locs : List Loc) (ls : Array Slot), gH D cA ad NL Y H → va_S A s.heap H locs → lv_has ls 12 [(0, .ref (ad 43 0)), (1, .int p1), (2, .int p2), (5, .int p5), (6, .int p6), (7, .int p7), (8, .int p8), (9, .int p9)] → (43, 0) ∈ NL → kk p1 p2 p5 p6 p7 p8 p9 Y = some (rr, XX) → W p l e rm_X10_match s m args below meth c H locs 0 0 (MQ below (gQ D cA ad NL (some (.int rr)) XX A) args s 0 0 A) (F0 m 113 ls [])) (hk243 : ∀ (p1 : Int32) (p2 : Int32) (p5 : Int32) (p6 : Int32) (p7 : Int32) (p8 : Int32) (Y : gM) (H : Heap) (locs : List Loc) (ls : Array Slot), gH D cA ad NL Y H → va_S A s.heap H locs → lv_has ls 12 [(0, .ref (ad 43 0)), (1, .int p1), (2, .int p2), (5, .int p5), (6, .int p6), (7, .int p7), (8, .int p8)] → (43, 0) ∈ NL → k243 p1 p2 p5 p6 p7 p8 Y = some (rr, XX) → W p l e rm_X10_match s m args below meth c H locs 0 0 (MQ below (gQ D cA ad NL (some (.int rr)) XX A) args s 0 0 A) (F0 m 243 ls [])) : ∀ (p1 : Int32) (p2 : Int32) (p5 : Int32) (p6 : Int32) (p7 : Int32) (p8 : Int32) (p9 : Int32) (s0 : Int32) (X : gM) (H : Heap) (locs : List Loc) (ls : Array Slot), gH D cA ad NL X H → va_S A s.heap H locs → lv_has ls 12 [(0, .ref (ad 43 0)), (1, .int p1), (2, .int p2), (5, .int p5), (6, .int p6), (7, .int p7), (8, .int p8), (9, .int p9)] → (43, 0) ∈ NL → X10_match_J226 (gal NL) N kk k243 p1 p2 p5 p6 p7 p8 p9 s0 X = some (rr, XX) → W p l e rm_X10_match s m args below meth c H locs 0 0 (MQ below (gQ D cA ad NL (some (.int rr)) XX A) args s 0 0 A) (F0 m 226 ls [.int s0]) := by
  have hx := C.1
  have hb := C.2.1
  intro p1 p2 p5 p6 p7 p8 p9 s0 X H locs ls hP hS hl ha_l0 hf
  rw [X10_match_J226] at hf
  refine lv_istore (i := 10) (lv' := [(10, .int s0), (0, .ref (ad 43 0)), (1, .int p1), (2, .int p2), (5, .int p5), (6, .int p6), (7, .int p7), (8, .int p8), (9, .int p9)]) hx hb dX10_match_226 hl (Nat.le_of_ble_eq_true rfl) rfl (fun ls hl => ?_)
  exact s_X10_match_J228 C hW hD0 hkk hk243 p1 p2 p5 p6 p7 p8 p9 s0 X _ _ _ hP hS (lv_sub hl [1, 2, 3, 4, 5, 6, 7, 8, 0] rfl) ha_l0 hf

set_option maxRecDepth 100000 in
set_option maxHeartbeats 4000000 in
theorem s_X10_match_J192 {p : Program} {l : Launch} {e : Env} {s : State} {m : MethodId} {args : Array Value} {below : List Frame} {meth : Method} {c : Code} {D : va_G} {cA : Nat → ClassId} {ad : Nat → Nat → Nat} {NL : List (Nat × Nat)} {A : Nat → Prop} {rr : Int32} {XX : gM} {N : Nat} {kk : Int32 → Int32 → Int32 → Int32 → Int32 → Int32 → Int32 → gM → Option (Int32 × gM)} {k243 : Int32 → Int32 → Int32 → Int32 → Int32 → Int32 → gM → Option (Int32 × gM)} (C : gCx p c meth m s args cX10_match 12 (some .int) RX10 D cA ad NL A) (hW : gWf NL) (hD0 : gD (fun _ => True) ad NL) (hkk : ∀ (p1 : Int32) (p2 : Int32) (p5 : Int32) (p6 : Int32) (p7 : Int32) (p8 : Int32) (p9 : Int32) (Y : gM) (H : Heap) (locs : List Loc) (ls : Array Slot), gH D cA ad NL Y H → va_S A s.heap H locs → lv_has ls 12 [(0, .ref (ad 43 0)), (1, .int p1), (2, .int p2), (5, .int p5), (6, .int p6), (7, .int p7), (8, .int p8), (9, .int p9)] → (43, 0) ∈ NL → kk p1 p2 p5 p6 p7 p8 p9 Y = some (rr, XX) → W p l e rm_X10_match s m args below meth c H locs 0 0 (MQ below (gQ D cA ad NL (some (.int rr)) XX A) args s 0 0 A) (F0 m 113 ls [])) (hk243 : ∀ (p1 : Int32) (p2 : Int32) (p5 : Int32) (p6 : Int32) (p7 : Int32) (p8 : Int32) (Y : gM) (H : Heap) (locs : List Loc) (ls : Array Slot), gH D cA ad NL Y H → va_S A s.heap H locs → lv_has ls 12 [(0, .ref (ad 43 0)), (1, .int p1), (2, .int p2), (5, .int p5), (6, .int p6), (7, .int p7), (8, .int p8)] → (43, 0) ∈ NL → k243 p1 p2 p5 p6 p7 p8 Y = some (rr, XX) → W p l e rm_X10_match s m args below meth c H locs 0 0 (MQ below (gQ D cA ad NL (some (.int rr)) XX A) args s 0 0 A) (F0 m 243 ls [])) : ∀ (p1 : Int32) (p2 : Int32) (p5 : Int32) (p6 : Int32) (p7 : Int32) (p8 : Int32) (p9 : Int32) (s0 : Int32) (X : gM) (H : Heap) (locs : List Loc) (ls : Array Slot), gH D cA ad NL X H → va_S A s.heap H locs → lv_has ls 12 [(0, .ref (ad 43 0)), (1, .int p1), (2, .int p2), (5, .int p5), (6, .int p6), (7, .int p7), (8, .int p8), (9, .int p9)] → (43, 0) ∈ NL → X10_match_J192 (gal NL) N kk k243 p1 p2 p5 p6 p7 p8 p9 s0 X = some (rr, XX) → W p l e rm_X10_match s m args below meth c H locs 0 0 (MQ below (gQ D cA ad NL (some (.int rr)) XX A) args s 0 0 A) (F0 m 192 ls [.int s0]) := by
  have hx := C.1
  have hb := C.2.1
  intro p1 p2 p5 p6 p7 p8 p9 s0 X H locs ls hP hS hl ha_l0 hf
  rw [X10_match_J192] at hf
  refine lv_istore (i := 10) (lv' := [(10, .int s0), (0, .ref (ad 43 0)), (1, .int p1), (2, .int p2), (5, .int p5), (6, .int p6), (7, .int p7), (8, .int p8), (9, .int p9)]) hx hb dX10_match_192 hl (Nat.le_of_ble_eq_true rfl) rfl (fun ls hl => ?_)
  refine lv_aload_n hx hb dX10_match_194 rfl (lv_at hl 1 rfl) ?_
  refine r_get C hP ha_l0 (ct_43 _ _ _ _) fx_X10_119 (fg_43_45 _ _ _) dX10_match_195 ?_
  refine lv_iload hx hb dX10_match_198 (lv_at hl 8 rfl) ?_
  refine lv_iconst (v := 1) hx hb dX10_match_200 (by decide) ?_
  refine lv_isub hx hb dX10_match_201 ?_
  obtain ⟨j1, h2, hf⟩ := rd_in hf
  refine r_iald C hP (gs_43_45 hW ha_l0) (ct_80 _ _ _ _) h2 dX10_match_202 ?_
  refine lv_iconst (v := 2) hx hb dX10_match_203 (by decide) ?_
  refine lv_iadd hx hb dX10_match_204 ?_
  refine lv_iload hx hb dX10_match_205 (lv_at hl 0 rfl) ?_
  refine lv_icmp_ge (tgt := 224) hx hb dX10_match_207 (by decide) (fun c3 => ?_) (fun c3 => ?_)
  · have hf := g_ip c3 hf
    refine lv_iload hx hb dX10_match_224 (lv_at hl 0 rfl) ?_
    exact s_X10_match_J226 C hW hD0 hkk hk243 p1 p2 p5 p6 p7 p8 p9 s0 X _ _ _ hP hS (lv_sub hl [1, 2, 3, 4, 5, 6, 7, 8] rfl) ha_l0 hf
  · have hf := g_in c3 hf
    refine lv_aload_n hx hb dX10_match_210 rfl (lv_at hl 1 rfl) ?_
    refine r_get C hP ha_l0 (ct_43 _ _ _ _) fx_X10_119 (fg_43_45 _ _ _) dX10_match_211 ?_
    refine lv_iload hx hb dX10_match_214 (lv_at hl 8 rfl) ?_
    refine lv_iconst (v := 1) hx hb dX10_match_216 (by decide) ?_
    refine lv_isub hx hb dX10_match_217 ?_
    obtain ⟨j4, h5, hf⟩ := rd_in hf
    refine r_iald C hP (gs_43_45 hW ha_l0) (ct_80 _ _ _ _) h5 dX10_match_218 ?_
    refine lv_iconst (v := 2) hx hb dX10_match_219 (by decide) ?_
    refine lv_iadd hx hb dX10_match_220 ?_
    refine lv_goto (tgt := 226) hx hb dX10_match_221 (by decide) ?_
    exact s_X10_match_J226 C hW hD0 hkk hk243 p1 p2 p5 p6 p7 p8 p9 (((X 80 0 j4) + (2 : Int32))) X _ _ _ hP hS (lv_sub hl [1, 2, 3, 4, 5, 6, 7, 8] rfl) ha_l0 hf

set_option maxRecDepth 100000 in
set_option maxHeartbeats 4000000 in
theorem s_X10_match_J175 {p : Program} {l : Launch} {e : Env} {s : State} {m : MethodId} {args : Array Value} {below : List Frame} {meth : Method} {c : Code} {D : va_G} {cA : Nat → ClassId} {ad : Nat → Nat → Nat} {NL : List (Nat × Nat)} {A : Nat → Prop} {rr : Int32} {XX : gM} {N : Nat} {kk : Int32 → Int32 → Int32 → Int32 → Int32 → Int32 → Int32 → gM → Option (Int32 × gM)} {k243 : Int32 → Int32 → Int32 → Int32 → Int32 → Int32 → gM → Option (Int32 × gM)} (C : gCx p c meth m s args cX10_match 12 (some .int) RX10 D cA ad NL A) (hW : gWf NL) (hD0 : gD (fun _ => True) ad NL) (hkk : ∀ (p1 : Int32) (p2 : Int32) (p5 : Int32) (p6 : Int32) (p7 : Int32) (p8 : Int32) (p9 : Int32) (Y : gM) (H : Heap) (locs : List Loc) (ls : Array Slot), gH D cA ad NL Y H → va_S A s.heap H locs → lv_has ls 12 [(0, .ref (ad 43 0)), (1, .int p1), (2, .int p2), (5, .int p5), (6, .int p6), (7, .int p7), (8, .int p8), (9, .int p9)] → (43, 0) ∈ NL → kk p1 p2 p5 p6 p7 p8 p9 Y = some (rr, XX) → W p l e rm_X10_match s m args below meth c H locs 0 0 (MQ below (gQ D cA ad NL (some (.int rr)) XX A) args s 0 0 A) (F0 m 113 ls [])) (hk243 : ∀ (p1 : Int32) (p2 : Int32) (p5 : Int32) (p6 : Int32) (p7 : Int32) (p8 : Int32) (Y : gM) (H : Heap) (locs : List Loc) (ls : Array Slot), gH D cA ad NL Y H → va_S A s.heap H locs → lv_has ls 12 [(0, .ref (ad 43 0)), (1, .int p1), (2, .int p2), (5, .int p5), (6, .int p6), (7, .int p7), (8, .int p8)] → (43, 0) ∈ NL → k243 p1 p2 p5 p6 p7 p8 Y = some (rr, XX) → W p l e rm_X10_match s m args below meth c H locs 0 0 (MQ below (gQ D cA ad NL (some (.int rr)) XX A) args s 0 0 A) (F0 m 243 ls [])) : ∀ (p1 : Int32) (p2 : Int32) (p5 : Int32) (p6 : Int32) (p7 : Int32) (p8 : Int32) (p9 : Int32) (p10 : Int32) (s0 : Int32) (s1 : Int32) (X : gM) (H : Heap) (locs : List Loc) (ls : Array Slot), gH D cA ad NL X H → va_S A s.heap H locs → lv_has ls 12 [(0, .ref (ad 43 0)), (1, .int p1), (2, .int p2), (5, .int p5), (6, .int p6), (7, .int p7), (8, .int p8), (9, .int p9), (10, .int p10)] → (43, 0) ∈ NL → X10_match_J175 (gal NL) N kk k243 p1 p2 p5 p6 p7 p8 p9 p10 s0 s1 X = some (rr, XX) → W p l e rm_X10_match s m args below meth c H locs 0 0 (MQ below (gQ D cA ad NL (some (.int rr)) XX A) args s 0 0 A) (F0 m 175 ls [.int s1, .int s0]) := by
  have hx := C.1
  have hb := C.2.1
  intro p1 p2 p5 p6 p7 p8 p9 p10 s0 s1 X H locs ls hP hS hl ha_l0 hf
  rw [X10_match_J175] at hf
  refine lv_iadd hx hb dX10_match_175 ?_
  refine g_top hf (fun v1 e2 hf => ?_)
  refine lv_istore (i := 11) (lv' := [(11, .int v1), (0, .ref (ad 43 0)), (1, .int p1), (2, .int p2), (5, .int p5), (6, .int p6), (7, .int p7), (8, .int p8), (9, .int p9), (10, .int p10)]) hx hb dX10_match_176 hl (Nat.le_of_ble_eq_true rfl) rfl (fun ls hl => ?_)
  refine lv_iload hx hb dX10_match_178 (lv_at hl 0 rfl) ?_
  refine lv_iload hx hb dX10_match_180 (lv_at hl 9 rfl) ?_
  refine lv_icmp_ge (tgt := 190) hx hb dX10_match_182 (by decide) (fun c3 => ?_) (fun c3 => ?_)
  · have hf := g_ip c3 hf
    refine lv_iload hx hb dX10_match_190 (lv_at hl 9 rfl) ?_
    exact s_X10_match_J192 C hW hD0 hkk hk243 p1 p2 p5 p6 p7 p8 p9 p10 X _ _ _ hP hS (lv_sub hl [1, 2, 3, 4, 5, 6, 7, 8] rfl) ha_l0 hf
  · have hf := g_in c3 hf
    refine lv_iload hx hb dX10_match_185 (lv_at hl 0 rfl) ?_
    refine lv_goto (tgt := 192) hx hb dX10_match_187 (by decide) ?_
    exact s_X10_match_J192 C hW hD0 hkk hk243 p1 p2 p5 p6 p7 p8 p9 v1 X _ _ _ hP hS (lv_sub hl [1, 2, 3, 4, 5, 6, 7, 8] rfl) ha_l0 hf

set_option maxRecDepth 100000 in
set_option maxHeartbeats 4000000 in
theorem s_X10_match_L113 {p : Program} {l : Launch} {e : Env} {s : State} {m : MethodId} {args : Array Value} {below : List Frame} {meth : Method} {c : Code} {D : va_G} {cA : Nat → ClassId} {ad : Nat → Nat → Nat} {NL : List (Nat × Nat)} {A : Nat → Prop} {rr : Int32} {XX : gM} {N : Nat} {k243 : Int32 → Int32 → Int32 → Int32 → Int32 → Int32 → gM → Option (Int32 × gM)} (C : gCx p c meth m s args cX10_match 12 (some .int) RX10 D cA ad NL A) (hW : gWf NL) (hD0 : gD (fun _ => True) ad NL) (hk243 : ∀ (p1 : Int32) (p2 : Int32) (p5 : Int32) (p6 : Int32) (p7 : Int32) (p8 : Int32) (Y : gM) (H : Heap) (locs : List Loc) (ls : Array Slot), gH D cA ad NL Y H → va_S A s.heap H locs → lv_has ls 12 [(0, .ref (ad 43 0)), (1, .int p1), (2, .int p2), (5, .int p5), (6, .int p6), (7, .int p7), (8, .int p8)] → (43, 0) ∈ NL → k243 p1 p2 p5 p6 p7 p8 Y = some (rr, XX) → W p l e rm_X10_match s m args below meth c H locs 0 0 (MQ below (gQ D cA ad NL (some (.int rr)) XX A) args s 0 0 A) (F0 m 243 ls [])) : ∀ (n : Nat) (p1 : Int32) (p2 : Int32) (p5 : Int32) (p6 : Int32) (p7 : Int32) (p8 : Int32) (p9 : Int32) (X : gM) (H : Heap) (locs : List Loc) (ls : Array Slot), gH D cA ad NL X H → va_S A s.heap H locs → lv_has ls 12 [(0, .ref (ad 43 0)), (1, .int p1), (2, .int p2), (5, .int p5), (6, .int p6), (7, .int p7), (8, .int p8), (9, .int p9)] → (43, 0) ∈ NL → X10_match_L113 (gal NL) N k243 n p1 p2 p5 p6 p7 p8 p9 X = some (rr, XX) → W p l e rm_X10_match s m args below meth c H locs 0 0 (MQ below (gQ D cA ad NL (some (.int rr)) XX A) args s 0 0 A) (F0 m 113 ls []) := by
  have hx := C.1
  have hb := C.2.1
  intro n
  induction n with
  | zero =>
    intro p1 p2 p5 p6 p7 p8 p9 X H locs ls hP hS hl ha_l0 hf
    rw [X10_match_L113] at hf
    cases hf
  | succ n ih =>
    intro p1 p2 p5 p6 p7 p8 p9 X H locs ls hP hS hl ha_l0 hf
    rw [X10_match_L113] at hf
    refine lv_iload hx hb dX10_match_113 (lv_at hl 7 rfl) ?_
    refine lv_iload hx hb dX10_match_115 (lv_at hl 4 rfl) ?_
    refine lv_icmp_gt (tgt := 243) hx hb dX10_match_117 (by decide) (fun c1 => ?_) (fun c1 => ?_)
    · have hf := g_ip c1 hf
      exact hk243 p1 p2 p5 p6 p7 p8 X _ _ _ hP hS (lv_sub hl [0, 1, 2, 3, 4, 5, 6] rfl) ha_l0 hf
    · have hf := g_in c1 hf
      refine lv_iload hx hb dX10_match_120 (lv_at hl 6 rfl) ?_
      refine lv_iconst (v := -1) hx hb dX10_match_122 (by decide) ?_
      refine lv_icmp_eq (tgt := 243) hx hb dX10_match_123 (by decide) (fun c2 => ?_) (fun c2 => ?_)
      · have hf := g_ip c2 hf
        exact hk243 p1 p2 p5 p6 p7 p8 X _ _ _ hP hS (lv_sub hl [0, 1, 2, 3, 4, 5, 6] rfl) ha_l0 hf
      · have hf := g_in c2 hf
        refine lv_aload_n hx hb dX10_match_126 rfl (lv_at hl 0 rfl) ?_
        refine r_get C hP ha_l0 (ct_43 _ _ _ _) fx_X10_116 (fg_43_44 _ _ _) dX10_match_127 ?_
        refine lv_iload hx hb dX10_match_130 (lv_at hl 7 rfl) ?_
        obtain ⟨j3, h4, hf⟩ := rd_in hf
        refine r_iald C hP (gs_43_44 hW ha_l0) (ct_79 _ _ _ _) h4 dX10_match_132 ?_
        refine lv_iconst (v := 2) hx hb dX10_match_133 (by decide) ?_
        refine lv_iadd hx hb dX10_match_134 ?_
        refine g_top hf (fun v5 e6 hf => ?_)
        refine lv_istore (i := 10) (lv' := [(10, .int v5), (0, .ref (ad 43 0)), (1, .int p1), (2, .int p2), (5, .int p5), (6, .int p6), (7, .int p7), (8, .int p8), (9, .int p9)]) hx hb dX10_match_135 hl (Nat.le_of_ble_eq_true rfl) rfl (fun ls hl => ?_)
        refine lv_iload hx hb dX10_match_137 (lv_at hl 8 rfl) ?_
        refine lv_if_le (tgt := 228) hx hb dX10_match_139 (by decide) (fun c7 => ?_) (fun c7 => ?_)
        · have hf := g_ip c7 hf
          exact s_X10_match_J228 C hW hD0 ih hk243 p1 p2 p5 p6 p7 p8 p9 v5 X _ _ _ hP hS (lv_sub hl [1, 2, 3, 4, 5, 6, 7, 8, 0] rfl) ha_l0 hf
        · have hf := g_in c7 hf
          refine lv_aload_n hx hb dX10_match_142 rfl (lv_at hl 1 rfl) ?_
          refine r_get C hP ha_l0 (ct_43 _ _ _ _) fx_X10_116 (fg_43_44 _ _ _) dX10_match_143 ?_
          refine lv_iload hx hb dX10_match_146 (lv_at hl 8 rfl) ?_
          refine lv_iconst (v := 1) hx hb dX10_match_148 (by decide) ?_
          refine lv_isub hx hb dX10_match_149 ?_
          obtain ⟨j8, h9, hf⟩ := rd_in hf
          refine r_iald C hP (gs_43_44 hW ha_l0) (ct_79 _ _ _ _) h9 dX10_match_150 ?_
          refine lv_aload_n hx hb dX10_match_151 rfl (lv_at hl 1 rfl) ?_
          refine r_get C hP ha_l0 (ct_43 _ _ _ _) fx_X10_64 (fg_43_22 _ _ _) dX10_match_152 ?_
          refine lv_bipush (v := 40) hx hb dX10_match_155 (by decide) ?_
          refine lv_iload_n hx hb dX10_match_157 rfl (lv_at hl 2 rfl) ?_
          refine lv_imul hx hb dX10_match_158 ?_
          refine lv_iload hx hb dX10_match_159 (lv_at hl 8 rfl) ?_
          refine lv_iadd hx hb dX10_match_161 ?_
          refine lv_iconst (v := 1) hx hb dX10_match_162 (by decide) ?_
          refine lv_isub hx hb dX10_match_163 ?_
          obtain ⟨j10, h11, hf⟩ := rd_in hf
          refine r_iald C hP (gs_43_22 hW ha_l0) (ct_62 _ _ _ _) h11 dX10_match_164 ?_
          refine lv_iload hx hb dX10_match_165 (lv_at hl 7 rfl) ?_
          refine lv_icmp_ne (tgt := 174) hx hb dX10_match_167 (by decide) (fun c12 => ?_) (fun c12 => ?_)
          · have hf := g_in c12 hf
            refine lv_iconst (v := 1) hx hb dX10_match_174 (by decide) ?_
            exact s_X10_match_J175 C hW hD0 ih hk243 p1 p2 p5 p6 p7 p8 p9 v5 ((X 79 0 j8)) (1 : Int32) X _ _ _ hP hS (lv_sub hl [1, 2, 3, 4, 5, 6, 7, 8, 0] rfl) ha_l0 hf
          · have hf := g_ip c12 hf
            refine lv_iconst (v := 0) hx hb dX10_match_170 (by decide) ?_
            refine lv_goto (tgt := 175) hx hb dX10_match_171 (by decide) ?_
            exact s_X10_match_J175 C hW hD0 ih hk243 p1 p2 p5 p6 p7 p8 p9 v5 ((X 79 0 j8)) (0 : Int32) X _ _ _ hP hS (lv_sub hl [1, 2, 3, 4, 5, 6, 7, 8, 0] rfl) ha_l0 hf

set_option maxRecDepth 100000 in
set_option maxHeartbeats 4000000 in
theorem s_X10_match_L90 {p : Program} {l : Launch} {e : Env} {s : State} {m : MethodId} {args : Array Value} {below : List Frame} {meth : Method} {c : Code} {D : va_G} {cA : Nat → ClassId} {ad : Nat → Nat → Nat} {NL : List (Nat × Nat)} {A : Nat → Prop} {rr : Int32} {XX : gM} {N : Nat} {k285 : Int32 → Int32 → gM → Option (Int32 × gM)} (C : gCx p c meth m s args cX10_match 12 (some .int) RX10 D cA ad NL A) (hW : gWf NL) (hD0 : gD (fun _ => True) ad NL) (hk285 : ∀ (p5 : Int32) (p6 : Int32) (Y : gM) (H : Heap) (locs : List Loc) (ls : Array Slot), gH D cA ad NL Y H → va_S A s.heap H locs → lv_has ls 12 [(0, .ref (ad 43 0)), (5, .int p5), (6, .int p6)] → (43, 0) ∈ NL → k285 p5 p6 Y = some (rr, XX) → W p l e rm_X10_match s m args below meth c H locs 0 0 (MQ below (gQ D cA ad NL (some (.int rr)) XX A) args s 0 0 A) (F0 m 285 ls [])) : ∀ (n : Nat) (p1 : Int32) (p2 : Int32) (p5 : Int32) (p6 : Int32) (p7 : Int32) (X : gM) (H : Heap) (locs : List Loc) (ls : Array Slot), gH D cA ad NL X H → va_S A s.heap H locs → lv_has ls 12 [(0, .ref (ad 43 0)), (1, .int p1), (2, .int p2), (5, .int p5), (6, .int p6), (7, .int p7)] → (43, 0) ∈ NL → X10_match_L90 (gal NL) N k285 n p1 p2 p5 p6 p7 X = some (rr, XX) → W p l e rm_X10_match s m args below meth c H locs 0 0 (MQ below (gQ D cA ad NL (some (.int rr)) XX A) args s 0 0 A) (F0 m 90 ls []) := by
  have hx := C.1
  have hb := C.2.1
  intro n
  induction n with
  | zero =>
    intro p1 p2 p5 p6 p7 X H locs ls hP hS hl ha_l0 hf
    rw [X10_match_L90] at hf
    cases hf
  | succ n ih =>
    intro p1 p2 p5 p6 p7 X H locs ls hP hS hl ha_l0 hf
    rw [X10_match_L90] at hf
    refine lv_iload hx hb dX10_match_90 (lv_at hl 5 rfl) ?_
    refine lv_aload_n hx hb dX10_match_92 rfl (lv_at hl 0 rfl) ?_
    refine r_get C hP ha_l0 (ct_43 _ _ _ _) fx_X10_16 (fg_43_3 _ _ _) dX10_match_93 ?_
    refine lv_iload_n hx hb dX10_match_96 rfl (lv_at hl 2 rfl) ?_
    obtain ⟨j1, h2, hf⟩ := rd_in hf
    refine r_iald C hP (gs_43_3 hW ha_l0) (ct_46 _ _ _ _) h2 dX10_match_97 ?_
    refine lv_icmp_ge (tgt := 285) hx hb dX10_match_98 (by decide) (fun c3 => ?_) (fun c3 => ?_)
    · have hf := g_ip c3 hf
      exact hk285 p5 p6 X _ _ _ hP hS (lv_sub hl [0, 3, 4] rfl) ha_l0 hf
    · have hf := g_in c3 hf
      refine lv_aload_n hx hb dX10_match_101 rfl (lv_at hl 0 rfl) ?_
      refine r_get C hP ha_l0 (ct_43 _ _ _ _) fx_X10_92 (fg_43_34 _ _ _) dX10_match_102 ?_
      refine lv_iload hx hb dX10_match_105 (lv_at hl 5 rfl) ?_
      obtain ⟨j4, h5, hf⟩ := rd_in hf
      refine r_iald C hP (gs_43_34 hW ha_l0) (ct_71 _ _ _ _) h5 dX10_match_107 ?_
      refine g_top hf (fun v6 e7 hf => ?_)
      refine lv_istore (i := 8) (lv' := [(8, .int v6), (0, .ref (ad 43 0)), (1, .int p1), (2, .int p2), (5, .int p5), (6, .int p6), (7, .int p7)]) hx hb dX10_match_108 hl (Nat.le_of_ble_eq_true rfl) rfl (fun ls hl => ?_)
      refine lv_iconst (v := 0) hx hb dX10_match_110 (by decide) ?_
      refine lv_istore (i := 9) (lv' := [(9, .int (0 : Int32)), (8, .int v6), (0, .ref (ad 43 0)), (1, .int p1), (2, .int p2), (5, .int p5), (6, .int p6), (7, .int p7)]) hx hb dX10_match_111 hl (Nat.le_of_ble_eq_true rfl) rfl (fun ls hl => ?_)
      exact s_X10_match_L113 C hW hD0 (fun p1 p2 p5 p6 p7 p8 Y H locs ls hP hS hl ha_l0 hf => s_X10_match_J243 C hW hD0 ih hk285 p1 p2 p5 p6 p7 p8 Y _ _ _ hP hS hl ha_l0 hf) N p1 p2 p5 p6 p7 v6 (0 : Int32) X _ _ _ hP hS (lv_sub hl [2, 3, 4, 5, 6, 7, 1, 0] rfl) ha_l0 hf

set_option maxRecDepth 100000 in
set_option maxHeartbeats 4000000 in
theorem s_X10_match_J87 {p : Program} {l : Launch} {e : Env} {s : State} {m : MethodId} {args : Array Value} {below : List Frame} {meth : Method} {c : Code} {D : va_G} {cA : Nat → ClassId} {ad : Nat → Nat → Nat} {NL : List (Nat × Nat)} {A : Nat → Prop} {rr : Int32} {XX : gM} {N : Nat} (C : gCx p c meth m s args cX10_match 12 (some .int) RX10 D cA ad NL A) (hW : gWf NL) (hD0 : gD (fun _ => True) ad NL) : ∀ (p1 : Int32) (p2 : Int32) (p5 : Int32) (p6 : Int32) (X : gM) (H : Heap) (locs : List Loc) (ls : Array Slot), gH D cA ad NL X H → va_S A s.heap H locs → lv_has ls 12 [(0, .ref (ad 43 0)), (1, .int p1), (2, .int p2), (5, .int p5), (6, .int p6)] → (43, 0) ∈ NL → X10_match_J87 (gal NL) N p1 p2 p5 p6 X = some (rr, XX) → W p l e rm_X10_match s m args below meth c H locs 0 0 (MQ below (gQ D cA ad NL (some (.int rr)) XX A) args s 0 0 A) (F0 m 87 ls []) := by
  have hx := C.1
  have hb := C.2.1
  intro p1 p2 p5 p6 X H locs ls hP hS hl ha_l0 hf
  rw [X10_match_J87] at hf
  refine lv_iconst (v := 0) hx hb dX10_match_87 (by decide) ?_
  refine lv_istore (i := 7) (lv' := [(7, .int (0 : Int32)), (0, .ref (ad 43 0)), (1, .int p1), (2, .int p2), (5, .int p5), (6, .int p6)]) hx hb dX10_match_88 hl (Nat.le_of_ble_eq_true rfl) rfl (fun ls hl => ?_)
  exact s_X10_match_L90 C hW hD0 (fun p5 p6 Y H locs ls hP hS hl ha_l0 hf => s_X10_match_J285 C hW hD0 p5 p6 Y _ _ _ hP hS hl ha_l0 hf) N p1 p2 p5 p6 (0 : Int32) X _ _ _ hP hS (lv_sub hl [1, 2, 3, 4, 5, 0] rfl) ha_l0 hf

set_option maxRecDepth 100000 in
set_option maxHeartbeats 4000000 in
theorem s_X10_match_L66 {p : Program} {l : Launch} {e : Env} {s : State} {m : MethodId} {args : Array Value} {below : List Frame} {meth : Method} {c : Code} {D : va_G} {cA : Nat → ClassId} {ad : Nat → Nat → Nat} {NL : List (Nat × Nat)} {A : Nat → Prop} {rr : Int32} {XX : gM} {N : Nat} {k87 : Int32 → Int32 → Int32 → Int32 → gM → Option (Int32 × gM)} (C : gCx p c meth m s args cX10_match 12 (some .int) RX10 D cA ad NL A) (hW : gWf NL) (hD0 : gD (fun _ => True) ad NL) (hk87 : ∀ (p1 : Int32) (p2 : Int32) (p5 : Int32) (p6 : Int32) (Y : gM) (H : Heap) (locs : List Loc) (ls : Array Slot), gH D cA ad NL Y H → va_S A s.heap H locs → lv_has ls 12 [(0, .ref (ad 43 0)), (1, .int p1), (2, .int p2), (5, .int p5), (6, .int p6)] → (43, 0) ∈ NL → k87 p1 p2 p5 p6 Y = some (rr, XX) → W p l e rm_X10_match s m args below meth c H locs 0 0 (MQ below (gQ D cA ad NL (some (.int rr)) XX A) args s 0 0 A) (F0 m 87 ls [])) : ∀ (n : Nat) (p1 : Int32) (p2 : Int32) (p5 : Int32) (p6 : Int32) (p7 : Int32) (X : gM) (H : Heap) (locs : List Loc) (ls : Array Slot), gH D cA ad NL X H → va_S A s.heap H locs → lv_has ls 12 [(0, .ref (ad 43 0)), (1, .int p1), (2, .int p2), (5, .int p5), (6, .int p6), (7, .int p7)] → (43, 0) ∈ NL → X10_match_L66 (gal NL) N k87 n p1 p2 p5 p6 p7 X = some (rr, XX) → W p l e rm_X10_match s m args below meth c H locs 0 0 (MQ below (gQ D cA ad NL (some (.int rr)) XX A) args s 0 0 A) (F0 m 66 ls []) := by
  have hx := C.1
  have hb := C.2.1
  intro n
  induction n with
  | zero =>
    intro p1 p2 p5 p6 p7 X H locs ls hP hS hl ha_l0 hf
    rw [X10_match_L66] at hf
    cases hf
  | succ n ih =>
    intro p1 p2 p5 p6 p7 X H locs ls hP hS hl ha_l0 hf
    rw [X10_match_L66] at hf
    refine lv_iload hx hb dX10_match_66 (lv_at hl 5 rfl) ?_
    refine lv_iload hx hb dX10_match_68 (lv_at hl 4 rfl) ?_
    refine lv_icmp_gt (tgt := 87) hx hb dX10_match_70 (by decide) (fun c1 => ?_) (fun c1 => ?_)
    · have hf := g_ip c1 hf
      exact hk87 p1 p2 p5 p6 X _ _ _ hP hS (lv_sub hl [0, 1, 2, 3, 4] rfl) ha_l0 hf
    · have hf := g_in c1 hf
      refine lv_aload_n hx hb dX10_match_73 rfl (lv_at hl 0 rfl) ?_
      refine r_get C hP ha_l0 (ct_43 _ _ _ _) fx_X10_116 (fg_43_44 _ _ _) dX10_match_74 ?_
      refine lv_iload hx hb dX10_match_77 (lv_at hl 5 rfl) ?_
      refine lv_iconst (v := 0) hx hb dX10_match_79 (by decide) ?_
      obtain ⟨j2, h3, hf⟩ := rd_in hf
      refine r_iast C hP hS (gs_43_44 hW ha_l0) (fun _ => ct_79 _ _ _ _) h3 dX10_match_80 (fun H locs hP hS => ?_)
      obtain ⟨X4, e5, hf⟩ := gl_in hf
      rw [← e5] at hP
      obtain ⟨v6, e7, hf⟩ := gl_in hf
      refine lv_iinc (v := v6) (lv' := [(7, .int v6), (0, .ref (ad 43 0)), (1, .int p1), (2, .int p2), (5, .int p5), (6, .int p6)]) hx hb dX10_match_81 hl (k := 5) rfl (by rw [e7]; rfl) (Nat.le_of_ble_eq_true rfl) rfl (fun ls hl => ?_)
      refine lv_goto (tgt := 66) hx hb dX10_match_84 (by decide) ?_
      exact ih p1 p2 p5 p6 v6 X4 _ _ _ hP hS (lv_sub hl [1, 2, 3, 4, 5, 0] rfl) ha_l0 hf

set_option maxRecDepth 100000 in
set_option maxHeartbeats 4000000 in
theorem s_X10_match_J41 {p : Program} {l : Launch} {e : Env} {s : State} {m : MethodId} {args : Array Value} {below : List Frame} {meth : Method} {c : Code} {D : va_G} {cA : Nat → ClassId} {ad : Nat → Nat → Nat} {NL : List (Nat × Nat)} {A : Nat → Prop} {rr : Int32} {XX : gM} {N : Nat} (C : gCx p c meth m s args cX10_match 12 (some .int) RX10 D cA ad NL A) (hW : gWf NL) (hD0 : gD (fun _ => True) ad NL) : ∀ (X : gM) (H : Heap) (locs : List Loc) (ls : Array Slot), gH D cA ad NL X H → va_S A s.heap H locs → lv_has ls 12 [] → X10_match_J41 (gal NL) N X = some (rr, XX) → W p l e rm_X10_match s m args below meth c H locs 0 0 (MQ below (gQ D cA ad NL (some (.int rr)) XX A) args s 0 0 A) (F0 m 41 ls []) := by
  have hx := C.1
  have hb := C.2.1
  intro X H locs ls hP hS hl hf
  rw [X10_match_J41] at hf
  refine lv_iconst (v := 0) hx hb dX10_match_41 (by decide) ?_
  obtain ⟨rfl, rfl⟩ := g_s1 hf
  exact r_iret C hP hS dX10_match_42

set_option maxRecDepth 100000 in
set_option maxHeartbeats 4000000 in
theorem s_X10_match_J20 {p : Program} {l : Launch} {e : Env} {s : State} {m : MethodId} {args : Array Value} {below : List Frame} {meth : Method} {c : Code} {D : va_G} {cA : Nat → ClassId} {ad : Nat → Nat → Nat} {NL : List (Nat × Nat)} {A : Nat → Prop} {rr : Int32} {XX : gM} {N : Nat} (C : gCx p c meth m s args cX10_match 12 (some .int) RX10 D cA ad NL A) (hW : gWf NL) (hD0 : gD (fun _ => True) ad NL) : ∀ (p1 : Int32) (p2 : Int32) (p3 : Int32) (p4 : Int32) (p5 : Int32) (s1 : Int32) (X : gM) (H : Heap) (locs : List Loc) (ls : Array Slot), gH D cA ad NL X H → va_S A s.heap H locs → lv_has ls 12 [(0, .ref (ad 43 0)), (1, .int p1), (2, .int p2), (3, .int p3), (4, .int p4), (5, .int p5)] → (43, 0) ∈ NL → (43, 0) ∈ NL → X10_match_J20 (gal NL) N p1 p2 p3 p4 p5 s1 X = some (rr, XX) → W p l e rm_X10_match s m args below meth c H locs 0 0 (MQ below (gQ D cA ad NL (some (.int rr)) XX A) args s 0 0 A) (F0 m 20 ls [.int s1, .ref (ad 43 0)]) := by
  have hx := C.1
  have hb := C.2.1
  intro p1 p2 p3 p4 p5 s1 X H locs ls hP hS hl ha_l0 ha_s0 hf
  rw [X10_match_J20] at hf
  refine r_put C hP hS s1 ha_s0 (ct_43 _ _ _ _) px_X10_122 (fp_43_46 _ _ _ _ _) (Nat.le_of_ble_eq_true rfl) rfl rfl dX10_match_20 (fun H locs hP hS => ?_)
  obtain ⟨X1, e2, hf⟩ := gl_in hf
  rw [← e2] at hP
  refine lv_aload_n hx hb dX10_match_23 rfl (lv_at hl 0 rfl) ?_
  refine r_get C hP ha_l0 (ct_43 _ _ _ _) fx_X10_122 (fg_43_46 _ _ _) dX10_match_24 ?_
  refine lv_if_gt (tgt := 41) hx hb dX10_match_27 (by decide) (fun c3 => ?_) (fun c3 => ?_)
  · have hf := g_ip c3 hf
    exact s_X10_match_J41 C hW hD0 X1 _ _ _ hP hS (lv_sub hl [] rfl) hf
  · have hf := g_in c3 hf
    refine lv_aload_n hx hb dX10_match_30 rfl (lv_at hl 0 rfl) ?_
    refine lv_iload_n hx hb dX10_match_31 rfl (lv_at hl 2 rfl) ?_
    refine lv_iload_n hx hb dX10_match_32 rfl (lv_at hl 3 rfl) ?_
    refine lv_iload hx hb dX10_match_33 (lv_at hl 4 rfl) ?_
    obtain ⟨r4, X5, h6, hf⟩ := b2_in hf
    refine r_cVi (rest := []) C hP hS hl.1 (s_X10_asks hW hD0 ha_l0 h6) ix_X10_asks iv_X10_asks lk_X10_182 ⟨rfl, rfl, Nat.le_of_ble_eq_true rfl, Nat.le_of_ble_eq_true rfl⟩ ha_l0 (ct_43 _ _ _ _) rfl rfl rfl rfl (Nat.le_of_ble_eq_true rfl) ⟨Nat.zero_le _, Nat.zero_le _⟩ dX10_match_35 (fun H locs hP hS => ?_)
    refine lv_if_ne (tgt := 43) hx hb dX10_match_38 (by decide) (fun c7 => ?_) (fun c7 => ?_)
    · have hf := g_in c7 hf
      refine lv_aload_n hx hb dX10_match_43 rfl (lv_at hl 0 rfl) ?_
      refine r_get C hP ha_l0 (ct_43 _ _ _ _) fx_X10_83 (fg_43_31 _ _ _) dX10_match_44 ?_
      refine lv_iconst (v := 0) hx hb dX10_match_47 (by decide) ?_
      obtain ⟨j8, h9, hf⟩ := rd_in hf
      refine r_iald C hP (gs_43_31 hW ha_l0) (ct_68 _ _ _ _) h9 dX10_match_48 ?_
      refine lv_iconst (v := -1) hx hb dX10_match_49 (by decide) ?_
      refine lv_icmp_ne (tgt := 55) hx hb dX10_match_50 (by decide) (fun c10 => ?_) (fun c10 => ?_)
      · have hf := g_in c10 hf
        refine lv_aload_n hx hb dX10_match_55 rfl (lv_at hl 0 rfl) ?_
        refine r_get C hP ha_l0 (ct_43 _ _ _ _) fx_X10_61 (fg_43_21 _ _ _) dX10_match_56 ?_
        refine lv_iload_n hx hb dX10_match_59 rfl (lv_at hl 1 rfl) ?_
        obtain ⟨j11, h12, hf⟩ := rd_in hf
        refine r_iald C hP (gs_43_21 hW ha_l0) (ct_61 _ _ _ _) h12 dX10_match_60 ?_
        refine g_top hf (fun v13 e14 hf => ?_)
        refine lv_istore (i := 6) (lv' := [(6, .int v13), (0, .ref (ad 43 0)), (1, .int p1), (2, .int p2), (3, .int p3), (4, .int p4), (5, .int p5)]) hx hb dX10_match_61 hl (Nat.le_of_ble_eq_true rfl) rfl (fun ls hl => ?_)
        refine lv_iconst (v := 0) hx hb dX10_match_63 (by decide) ?_
        refine lv_istore (i := 7) (lv' := [(7, .int (0 : Int32)), (6, .int v13), (0, .ref (ad 43 0)), (1, .int p1), (2, .int p2), (3, .int p3), (4, .int p4), (5, .int p5)]) hx hb dX10_match_64 hl (Nat.le_of_ble_eq_true rfl) rfl (fun ls hl => ?_)
        exact s_X10_match_L66 C hW hD0 (fun p1 p2 p5 p6 Y H locs ls hP hS hl ha_l0 hf => s_X10_match_J87 C hW hD0 p1 p2 p5 p6 Y _ _ _ hP hS hl ha_l0 hf) N p1 p2 p5 v13 (0 : Int32) X5 _ _ _ hP hS (lv_sub hl [2, 3, 4, 7, 1, 0] rfl) ha_l0 hf
      · have hf := g_ip c10 hf
        refine lv_iconst (v := -1) hx hb dX10_match_53 (by decide) ?_
        obtain ⟨rfl, rfl⟩ := g_s1 hf
        exact r_iret C hP hS dX10_match_54
    · have hf := g_ip c7 hf
      exact s_X10_match_J41 C hW hD0 X5 _ _ _ hP hS (lv_sub hl [] rfl) hf

set_option maxRecDepth 100000 in
set_option maxHeartbeats 4000000 in
theorem w_X10_match {p : Program} {l : Launch} {e : Env} {s : State} {m : MethodId} {args : Array Value} {below : List Frame} {meth : Method} {c : Code} {D : va_G} {cA : Nat → ClassId} {ad : Nat → Nat → Nat} {NL : List (Nat × Nat)} {A : Nat → Prop} {rr : Int32} {XX : gM} {N : Nat} (C : gCx p c meth m s args cX10_match 12 (some .int) RX10 D cA ad NL A) (hW : gWf NL) (hD0 : gD (fun _ => True) ad NL) {p1 : Int32} {p2 : Int32} {p3 : Int32} {p4 : Int32} {p5 : Int32} (ha_l0 : (43, 0) ∈ NL) : ∀ (X : gM) (H : Heap) (locs : List Loc) (ls : Array Slot), gH D cA ad NL X H → va_S A s.heap H locs → lv_has ls 12 [(0, .ref (ad 43 0)), (1, .int p1), (2, .int p2), (3, .int p3), (4, .int p4), (5, .int p5)] → X10_match (gal NL) N p1 p2 p3 p4 p5 X = some (rr, XX) → W p l e rm_X10_match s m args below meth c H locs 0 0 (MQ below (gQ D cA ad NL (some (.int rr)) XX A) args s 0 0 A) (F0 m 0 ls []) := by
  have hx := C.1
  have hb := C.2.1
  intro X H locs ls hP hS hl hf
  rw [X10_match] at hf
  refine lv_aload_n hx hb dX10_match_0 rfl (lv_at hl 0 rfl) ?_
  refine lv_iload_n hx hb dX10_match_1 rfl (lv_at hl 1 rfl) ?_
  refine lv_iconst (v := 0) hx hb dX10_match_2 (by decide) ?_
  refine lv_aload_n hx hb dX10_match_3 rfl (lv_at hl 0 rfl) ?_
  refine r_get C hP ha_l0 (ct_43 _ _ _ _) fx_X10_166 (fg_43_20 _ _ _) dX10_match_4 ?_
  refine lv_iconst (v := 1) hx hb dX10_match_7 (by decide) ?_
  refine lv_isub hx hb dX10_match_8 ?_
  obtain ⟨r1, X2, h3, hf⟩ := b2_in hf
  refine r_cSi (rest := [.ref (ad 43 0)]) C hP hS hl.1 (s_X10_in hW hD0  h3) ix_X10_in is_X10_in ls_X10_129 ⟨rfl, rfl, Nat.le_of_ble_eq_true rfl, Nat.le_of_ble_eq_true rfl⟩ rfl rfl (Nat.le_of_ble_eq_true rfl) ⟨Nat.zero_le _, Nat.zero_le _⟩ dX10_match_9 (fun H locs hP hS => ?_)
  refine lv_if_ne (tgt := 19) hx hb dX10_match_12 (by decide) (fun c4 => ?_) (fun c4 => ?_)
  · have hf := g_in c4 hf
    refine lv_iconst (v := 0) hx hb dX10_match_19 (by decide) ?_
    exact s_X10_match_J20 C hW hD0 p1 p2 p3 p4 p5 (0 : Int32) X2 _ _ _ hP hS (lv_sub hl [0, 1, 2, 3, 4, 5] rfl) ha_l0 ha_l0 hf
  · have hf := g_ip c4 hf
    refine lv_iconst (v := 1) hx hb dX10_match_15 (by decide) ?_
    refine lv_goto (tgt := 20) hx hb dX10_match_16 (by decide) ?_
    exact s_X10_match_J20 C hW hD0 p1 p2 p3 p4 p5 (1 : Int32) X2 _ _ _ hP hS (lv_sub hl [0, 1, 2, 3, 4, 5] rfl) ha_l0 ha_l0 hf

theorem s_X10_match {l : Launch} {D : va_G} {cA : Nat → ClassId} {ad : Nat → Nat → Nat} {NL : List (Nat × Nat)} {N : Nat} {p1 : Int32} {p2 : Int32} {p3 : Int32} {p4 : Int32} {p5 : Int32} {X : gM} {rr : Int32} {XX : gM} (hW : gWf NL) (hD0 : gD (fun _ => True) ad NL) (ha_l0 : (43, 0) ∈ NL) (hf : X10_match (gal NL) N p1 p2 p3 p4 p5 X = some (rr, XX)) : gC l yX10_match cX10_match 12 (some .int) rm_X10_match D cA ad NL [.ref (ad 43 0), .int p1, .int p2, .int p3, .int p4, .int p5] X (some (.int rr)) XX :=
  g_ofW (by decide) hD0 (Nat.le_of_ble_eq_true rfl) rfl (fun p e s m below meth c ls C hP hS hl => w_X10_match C hW hD0 ha_l0 X _ _ ls hP hS hl hf)
def rm_X10_isOne : Room := { frames := 0, cells := 0, slots := 0, locals := 0 }
set_option maxRecDepth 100000 in
set_option maxHeartbeats 4000000 in
theorem s_X10_isOne_J17 {p : Program} {l : Launch} {e : Env} {s : State} {m : MethodId} {args : Array Value} {below : List Frame} {meth : Method} {c : Code} {D : va_G} {cA : Nat → ClassId} {ad : Nat → Nat → Nat} {NL : List (Nat × Nat)} {A : Nat → Prop} {rr : Int32} {XX : gM} {N : Nat} (C : gCx p c meth m s args cX10_isOne 1 (some .boolean) RX10 D cA ad NL A) (hW : gWf NL) (hD0 : gD (fun _ => True) ad NL) : ∀ (s0 : Int32) (X : gM) (H : Heap) (locs : List Loc) (ls : Array Slot), gH D cA ad NL X H → va_S A s.heap H locs → lv_has ls 1 [] → X10_isOne_J17 (gal NL) N s0 X = some (rr, XX) → W p l e rm_X10_isOne s m args below meth c H locs 0 0 (MQ below (gQ D cA ad NL (some (.int rr)) XX A) args s 0 0 A) (F0 m 17 ls [.int s0]) := by
  have hx := C.1
  have hb := C.2.1
  intro s0 X H locs ls hP hS hl hf
  rw [X10_isOne_J17] at hf
  obtain ⟨h1, hf⟩ := bz_in hf
  obtain ⟨rfl, rfl⟩ := g_s1 hf
  exact r_zret C hP hS h1 dX10_isOne_17

set_option maxRecDepth 100000 in
set_option maxHeartbeats 4000000 in
theorem s_X10_isOne_J16 {p : Program} {l : Launch} {e : Env} {s : State} {m : MethodId} {args : Array Value} {below : List Frame} {meth : Method} {c : Code} {D : va_G} {cA : Nat → ClassId} {ad : Nat → Nat → Nat} {NL : List (Nat × Nat)} {A : Nat → Prop} {rr : Int32} {XX : gM} {N : Nat} (C : gCx p c meth m s args cX10_isOne 1 (some .boolean) RX10 D cA ad NL A) (hW : gWf NL) (hD0 : gD (fun _ => True) ad NL) : ∀ (X : gM) (H : Heap) (locs : List Loc) (ls : Array Slot), gH D cA ad NL X H → va_S A s.heap H locs → lv_has ls 1 [] → X10_isOne_J16 (gal NL) N X = some (rr, XX) → W p l e rm_X10_isOne s m args below meth c H locs 0 0 (MQ below (gQ D cA ad NL (some (.int rr)) XX A) args s 0 0 A) (F0 m 16 ls []) := by
  have hx := C.1
  have hb := C.2.1
  intro X H locs ls hP hS hl hf
  rw [X10_isOne_J16] at hf
  refine lv_iconst (v := 0) hx hb dX10_isOne_16 (by decide) ?_
  exact s_X10_isOne_J17 C hW hD0 (0 : Int32) X _ _ _ hP hS (lv_sub hl [] rfl) hf

set_option maxRecDepth 100000 in
set_option maxHeartbeats 4000000 in
theorem w_X10_isOne {p : Program} {l : Launch} {e : Env} {s : State} {m : MethodId} {args : Array Value} {below : List Frame} {meth : Method} {c : Code} {D : va_G} {cA : Nat → ClassId} {ad : Nat → Nat → Nat} {NL : List (Nat × Nat)} {A : Nat → Prop} {rr : Int32} {XX : gM} {N : Nat} (C : gCx p c meth m s args cX10_isOne 1 (some .boolean) RX10 D cA ad NL A) (hW : gWf NL) (hD0 : gD (fun _ => True) ad NL) {p0 : Int32} : ∀ (X : gM) (H : Heap) (locs : List Loc) (ls : Array Slot), gH D cA ad NL X H → va_S A s.heap H locs → lv_has ls 1 [(0, .int p0)] → X10_isOne (gal NL) N p0 X = some (rr, XX) → W p l e rm_X10_isOne s m args below meth c H locs 0 0 (MQ below (gQ D cA ad NL (some (.int rr)) XX A) args s 0 0 A) (F0 m 0 ls []) := by
  have hx := C.1
  have hb := C.2.1
  intro X H locs ls hP hS hl hf
  rw [X10_isOne] at hf
  refine lv_iload_n hx hb dX10_isOne_0 rfl (lv_at hl 0 rfl) ?_
  refine lv_if_eq (tgt := 16) hx hb dX10_isOne_1 (by decide) (fun c1 => ?_) (fun c1 => ?_)
  · have hf := g_ip c1 hf
    exact s_X10_isOne_J16 C hW hD0 X _ _ _ hP hS (lv_sub hl [] rfl) hf
  · have hf := g_in c1 hf
    refine lv_iload_n hx hb dX10_isOne_4 rfl (lv_at hl 0 rfl) ?_
    refine lv_iload_n hx hb dX10_isOne_5 rfl (lv_at hl 0 rfl) ?_
    refine lv_iconst (v := 1) hx hb dX10_isOne_6 (by decide) ?_
    refine lv_isub hx hb dX10_isOne_7 ?_
    refine lv_iand hx hb dX10_isOne_8 ?_
    refine lv_if_ne (tgt := 16) hx hb dX10_isOne_9 (by decide) (fun c2 => ?_) (fun c2 => ?_)
    · have hf := g_in c2 hf
      exact s_X10_isOne_J16 C hW hD0 X _ _ _ hP hS (lv_sub hl [] rfl) hf
    · have hf := g_ip c2 hf
      refine lv_iconst (v := 1) hx hb dX10_isOne_12 (by decide) ?_
      refine lv_goto (tgt := 17) hx hb dX10_isOne_13 (by decide) ?_
      exact s_X10_isOne_J17 C hW hD0 (1 : Int32) X _ _ _ hP hS (lv_sub hl [] rfl) hf

theorem s_X10_isOne {l : Launch} {D : va_G} {cA : Nat → ClassId} {ad : Nat → Nat → Nat} {NL : List (Nat × Nat)} {N : Nat} {p0 : Int32} {X : gM} {rr : Int32} {XX : gM} (hW : gWf NL) (hD0 : gD (fun _ => True) ad NL) (hf : X10_isOne (gal NL) N p0 X = some (rr, XX)) : gC l yX10_isOne cX10_isOne 1 (some .boolean) rm_X10_isOne D cA ad NL [.int p0] X (some (.int rr)) XX :=
  g_ofW (by decide) hD0 (Nat.le_of_ble_eq_true rfl) rfl (fun p e s m below meth c ls C hP hS hl => w_X10_isOne C hW hD0  X _ _ ls hP hS hl hf)
def rm_X10_edition : Room := { frames := 4, cells := 0, slots := 0, locals := 111 }
set_option maxRecDepth 100000 in
set_option maxHeartbeats 4000000 in
theorem s_X10_edition_J110 {p : Program} {l : Launch} {e : Env} {s : State} {m : MethodId} {args : Array Value} {below : List Frame} {meth : Method} {c : Code} {D : va_G} {cA : Nat → ClassId} {ad : Nat → Nat → Nat} {NL : List (Nat × Nat)} {A : Nat → Prop} {rr : Int32} {XX : gM} {N : Nat} (C : gCx p c meth m s args cX10_edition 4 (some .int) RX10 D cA ad NL A) (hW : gWf NL) (hD0 : gD (fun _ => True) ad NL) : ∀ (X : gM) (H : Heap) (locs : List Loc) (ls : Array Slot), gH D cA ad NL X H → va_S A s.heap H locs → lv_has ls 4 [] → X10_edition_J110 (gal NL) N X = some (rr, XX) → W p l e rm_X10_edition s m args below meth c H locs 0 0 (MQ below (gQ D cA ad NL (some (.int rr)) XX A) args s 0 0 A) (F0 m 110 ls []) := by
  have hx := C.1
  have hb := C.2.1
  intro X H locs ls hP hS hl hf
  rw [X10_edition_J110] at hf
  refine lv_iconst (v := -1) hx hb dX10_edition_110 (by decide) ?_
  obtain ⟨rfl, rfl⟩ := g_s1 hf
  exact r_iret C hP hS dX10_edition_111

set_option maxRecDepth 100000 in
set_option maxHeartbeats 4000000 in
theorem s_X10_edition_J104 {p : Program} {l : Launch} {e : Env} {s : State} {m : MethodId} {args : Array Value} {below : List Frame} {meth : Method} {c : Code} {D : va_G} {cA : Nat → ClassId} {ad : Nat → Nat → Nat} {NL : List (Nat × Nat)} {A : Nat → Prop} {rr : Int32} {XX : gM} {N : Nat} {kk : Int32 → Int32 → Int32 → gM → Option (Int32 × gM)} {k102 : Int32 → gM → Option (Int32 × gM)} {k110 : gM → Option (Int32 × gM)} (C : gCx p c meth m s args cX10_edition 4 (some .int) RX10 D cA ad NL A) (hW : gWf NL) (hD0 : gD (fun _ => True) ad NL) (hkk : ∀ (p1 : Int32) (p2 : Int32) (p3 : Int32) (Y : gM) (H : Heap) (locs : List Loc) (ls : Array Slot), gH D cA ad NL Y H → va_S A s.heap H locs → lv_has ls 4 [(0, .ref (ad 43 0)), (1, .int p1), (2, .int p2), (3, .int p3)] → (43, 0) ∈ NL → kk p1 p2 p3 Y = some (rr, XX) → W p l e rm_X10_edition s m args below meth c H locs 0 0 (MQ below (gQ D cA ad NL (some (.int rr)) XX A) args s 0 0 A) (F0 m 72 ls [])) (hk102 : ∀ (p3 : Int32) (Y : gM) (H : Heap) (locs : List Loc) (ls : Array Slot), gH D cA ad NL Y H → va_S A s.heap H locs → lv_has ls 4 [(3, .int p3)] → k102 p3 Y = some (rr, XX) → W p l e rm_X10_edition s m args below meth c H locs 0 0 (MQ below (gQ D cA ad NL (some (.int rr)) XX A) args s 0 0 A) (F0 m 102 ls [])) (hk110 : ∀ (Y : gM) (H : Heap) (locs : List Loc) (ls : Array Slot), gH D cA ad NL Y H → va_S A s.heap H locs → lv_has ls 4 [] → k110 Y = some (rr, XX) → W p l e rm_X10_edition s m args below meth c H locs 0 0 (MQ below (gQ D cA ad NL (some (.int rr)) XX A) args s 0 0 A) (F0 m 110 ls [])) : ∀ (p1 : Int32) (p2 : Int32) (p3 : Int32) (X : gM) (H : Heap) (locs : List Loc) (ls : Array Slot), gH D cA ad NL X H → va_S A s.heap H locs → lv_has ls 4 [(0, .ref (ad 43 0)), (1, .int p1), (2, .int p2), (3, .int p3)] → (43, 0) ∈ NL → X10_edition_J104 (gal NL) N kk k102 k110 p1 p2 p3 X = some (rr, XX) → W p l e rm_X10_edition s m args below meth c H locs 0 0 (MQ below (gQ D cA ad NL (some (.int rr)) XX A) args s 0 0 A) (F0 m 104 ls []) := by
  have hx := C.1
  have hb := C.2.1
  intro p1 p2 p3 X H locs ls hP hS hl ha_l0 hf
  rw [X10_edition_J104] at hf
  obtain ⟨v1, e2, hf⟩ := gl_in hf
  refine lv_iinc (v := v1) (lv' := [(3, .int v1), (0, .ref (ad 43 0)), (1, .int p1), (2, .int p2)]) hx hb dX10_edition_104 hl (k := 3) rfl (by rw [e2]; rfl) (Nat.le_of_ble_eq_true rfl) rfl (fun ls hl => ?_)
  refine lv_goto (tgt := 72) hx hb dX10_edition_107 (by decide) ?_
  exact hkk p1 p2 v1 X _ _ _ hP hS (lv_sub hl [1, 2, 3, 0] rfl) ha_l0 hf

set_option maxRecDepth 100000 in
set_option maxHeartbeats 4000000 in
theorem s_X10_edition_J102 {p : Program} {l : Launch} {e : Env} {s : State} {m : MethodId} {args : Array Value} {below : List Frame} {meth : Method} {c : Code} {D : va_G} {cA : Nat → ClassId} {ad : Nat → Nat → Nat} {NL : List (Nat × Nat)} {A : Nat → Prop} {rr : Int32} {XX : gM} {N : Nat} (C : gCx p c meth m s args cX10_edition 4 (some .int) RX10 D cA ad NL A) (hW : gWf NL) (hD0 : gD (fun _ => True) ad NL) : ∀ (p3 : Int32) (X : gM) (H : Heap) (locs : List Loc) (ls : Array Slot), gH D cA ad NL X H → va_S A s.heap H locs → lv_has ls 4 [(3, .int p3)] → X10_edition_J102 (gal NL) N p3 X = some (rr, XX) → W p l e rm_X10_edition s m args below meth c H locs 0 0 (MQ below (gQ D cA ad NL (some (.int rr)) XX A) args s 0 0 A) (F0 m 102 ls []) := by
  have hx := C.1
  have hb := C.2.1
  intro p3 X H locs ls hP hS hl hf
  rw [X10_edition_J102] at hf
  refine lv_iload_n hx hb dX10_edition_102 rfl (lv_at hl 0 rfl) ?_
  obtain ⟨rfl, rfl⟩ := g_s1 hf
  exact r_iret C hP hS dX10_edition_103

set_option maxRecDepth 100000 in
set_option maxHeartbeats 4000000 in
theorem s_X10_edition_L72 {p : Program} {l : Launch} {e : Env} {s : State} {m : MethodId} {args : Array Value} {below : List Frame} {meth : Method} {c : Code} {D : va_G} {cA : Nat → ClassId} {ad : Nat → Nat → Nat} {NL : List (Nat × Nat)} {A : Nat → Prop} {rr : Int32} {XX : gM} {N : Nat} {k102 : Int32 → gM → Option (Int32 × gM)} {k110 : gM → Option (Int32 × gM)} (C : gCx p c meth m s args cX10_edition 4 (some .int) RX10 D cA ad NL A) (hW : gWf NL) (hD0 : gD (fun _ => True) ad NL) (hk102 : ∀ (p3 : Int32) (Y : gM) (H : Heap) (locs : List Loc) (ls : Array Slot), gH D cA ad NL Y H → va_S A s.heap H locs → lv_has ls 4 [(3, .int p3)] → k102 p3 Y = some (rr, XX) → W p l e rm_X10_edition s m args below meth c H locs 0 0 (MQ below (gQ D cA ad NL (some (.int rr)) XX A) args s 0 0 A) (F0 m 102 ls [])) (hk110 : ∀ (Y : gM) (H : Heap) (locs : List Loc) (ls : Array Slot), gH D cA ad NL Y H → va_S A s.heap H locs → lv_has ls 4 [] → k110 Y = some (rr, XX) → W p l e rm_X10_edition s m args below meth c H locs 0 0 (MQ below (gQ D cA ad NL (some (.int rr)) XX A) args s 0 0 A) (F0 m 110 ls [])) : ∀ (n : Nat) (p1 : Int32) (p2 : Int32) (p3 : Int32) (X : gM) (H : Heap) (locs : List Loc) (ls : Array Slot), gH D cA ad NL X H → va_S A s.heap H locs → lv_has ls 4 [(0, .ref (ad 43 0)), (1, .int p1), (2, .int p2), (3, .int p3)] → (43, 0) ∈ NL → X10_edition_L72 (gal NL) N k102 k110 n p1 p2 p3 X = some (rr, XX) → W p l e rm_X10_edition s m args below meth c H locs 0 0 (MQ below (gQ D cA ad NL (some (.int rr)) XX A) args s 0 0 A) (F0 m 72 ls []) := by
  have hx := C.1
  have hb := C.2.1
  intro n
  induction n with
  | zero =>
    intro p1 p2 p3 X H locs ls hP hS hl ha_l0 hf
    rw [X10_edition_L72] at hf
    cases hf
  | succ n ih =>
    intro p1 p2 p3 X H locs ls hP hS hl ha_l0 hf
    rw [X10_edition_L72] at hf
    refine lv_iload_n hx hb dX10_edition_72 rfl (lv_at hl 3 rfl) ?_
    refine lv_aload_n hx hb dX10_edition_73 rfl (lv_at hl 0 rfl) ?_
    refine r_get C hP ha_l0 (ct_43 _ _ _ _) fx_X10_126 (fg_43_0 _ _ _) dX10_edition_74 ?_
    refine lv_icmp_ge (tgt := 110) hx hb dX10_edition_77 (by decide) (fun c1 => ?_) (fun c1 => ?_)
    · have hf := g_ip c1 hf
      exact hk110 X _ _ _ hP hS (lv_sub hl [] rfl) hf
    · have hf := g_in c1 hf
      refine lv_aload_n hx hb dX10_edition_80 rfl (lv_at hl 0 rfl) ?_
      refine r_get C hP ha_l0 (ct_43 _ _ _ _) fx_X10_7 (fg_43_1 _ _ _) dX10_edition_81 ?_
      refine lv_iload_n hx hb dX10_edition_84 rfl (lv_at hl 3 rfl) ?_
      obtain ⟨j2, h3, hf⟩ := rd_in hf
      refine r_iald C hP (gs_43_1 hW ha_l0) (ct_44 _ _ _ _) h3 dX10_edition_85 ?_
      refine lv_iload_n hx hb dX10_edition_86 rfl (lv_at hl 1 rfl) ?_
      refine lv_icmp_ne (tgt := 104) hx hb dX10_edition_87 (by decide) (fun c4 => ?_) (fun c4 => ?_)
      · have hf := g_in c4 hf
        exact s_X10_edition_J104 C hW hD0 ih hk102 hk110 p1 p2 p3 X _ _ _ hP hS (lv_sub hl [0, 1, 2, 3] rfl) ha_l0 hf
      · have hf := g_ip c4 hf
        refine lv_aload_n hx hb dX10_edition_90 rfl (lv_at hl 0 rfl) ?_
        refine r_get C hP ha_l0 (ct_43 _ _ _ _) fx_X10_110 (fg_43_41 _ _ _) dX10_edition_91 ?_
        refine lv_iload_n hx hb dX10_edition_94 rfl (lv_at hl 3 rfl) ?_
        obtain ⟨j5, h6, hf⟩ := rd_in hf
        refine r_iald C hP (gs_43_41 hW ha_l0) (ct_77 _ _ _ _) h6 dX10_edition_95 ?_
        refine lv_iconst (v := 1) hx hb dX10_edition_96 (by decide) ?_
        refine lv_iload_n hx hb dX10_edition_97 rfl (lv_at hl 2 rfl) ?_
        refine lv_ishl hx hb dX10_edition_98 ?_
        refine lv_icmp_ne (tgt := 104) hx hb dX10_edition_99 (by decide) (fun c7 => ?_) (fun c7 => ?_)
        · have hf := g_in c7 hf
          exact s_X10_edition_J104 C hW hD0 ih hk102 hk110 p1 p2 p3 X _ _ _ hP hS (lv_sub hl [0, 1, 2, 3] rfl) ha_l0 hf
        · have hf := g_ip c7 hf
          exact hk102 p3 X _ _ _ hP hS (lv_sub hl [3] rfl) hf

set_option maxRecDepth 100000 in
set_option maxHeartbeats 4000000 in
theorem s_X10_edition_J49 {p : Program} {l : Launch} {e : Env} {s : State} {m : MethodId} {args : Array Value} {below : List Frame} {meth : Method} {c : Code} {D : va_G} {cA : Nat → ClassId} {ad : Nat → Nat → Nat} {NL : List (Nat × Nat)} {A : Nat → Prop} {rr : Int32} {XX : gM} {N : Nat} (C : gCx p c meth m s args cX10_edition 4 (some .int) RX10 D cA ad NL A) (hW : gWf NL) (hD0 : gD (fun _ => True) ad NL) : ∀ (p1 : Int32) (p2 : Int32) (s1 : Int32) (X : gM) (H : Heap) (locs : List Loc) (ls : Array Slot), gH D cA ad NL X H → va_S A s.heap H locs → lv_has ls 4 [(0, .ref (ad 43 0)), (1, .int p1), (2, .int p2)] → (43, 0) ∈ NL → (43, 0) ∈ NL → X10_edition_J49 (gal NL) N p1 p2 s1 X = some (rr, XX) → W p l e rm_X10_edition s m args below meth c H locs 0 0 (MQ below (gQ D cA ad NL (some (.int rr)) XX A) args s 0 0 A) (F0 m 49 ls [.int s1, .ref (ad 43 0)]) := by
  have hx := C.1
  have hb := C.2.1
  intro p1 p2 s1 X H locs ls hP hS hl ha_l0 ha_s0 hf
  rw [X10_edition_J49] at hf
  refine r_put C hP hS s1 ha_s0 (ct_43 _ _ _ _) px_X10_122 (fp_43_46 _ _ _ _ _) (Nat.le_of_ble_eq_true rfl) rfl rfl dX10_edition_49 (fun H locs hP hS => ?_)
  obtain ⟨X1, e2, hf⟩ := gl_in hf
  rw [← e2] at hP
  refine lv_aload_n hx hb dX10_edition_52 rfl (lv_at hl 0 rfl) ?_
  refine r_get C hP ha_l0 (ct_43 _ _ _ _) fx_X10_122 (fg_43_46 _ _ _) dX10_edition_53 ?_
  refine lv_if_le (tgt := 61) hx hb dX10_edition_56 (by decide) (fun c3 => ?_) (fun c3 => ?_)
  · have hf := g_ip c3 hf
    refine lv_aload_n hx hb dX10_edition_61 rfl (lv_at hl 0 rfl) ?_
    refine lv_iload_n hx hb dX10_edition_62 rfl (lv_at hl 1 rfl) ?_
    refine lv_iconst (v := 0) hx hb dX10_edition_63 (by decide) ?_
    refine lv_iconst (v := -1) hx hb dX10_edition_64 (by decide) ?_
    refine lv_iconst (v := -1) hx hb dX10_edition_65 (by decide) ?_
    refine lv_iconst (v := -1) hx hb dX10_edition_66 (by decide) ?_
    obtain ⟨r4, X5, h6, hf⟩ := b2_in hf
    refine r_cVv (rest := []) C hP hS hl.1 (s_X10_arranges hW hD0 ha_l0 h6) ix_X10_arranges iv_X10_arranges lk_X10_205 ⟨rfl, rfl, Nat.le_of_ble_eq_true rfl, Nat.le_of_ble_eq_true rfl⟩ ha_l0 (ct_43 _ _ _ _) rfl rfl rfl rfl (Nat.le_of_ble_eq_true rfl) ⟨Nat.zero_le _, Nat.zero_le _⟩ dX10_edition_67 (fun H locs hP hS => ?_)
    refine lv_iconst (v := 0) hx hb dX10_edition_70 (by decide) ?_
    refine lv_istore_n (i := 3) (lv' := [(3, .int (0 : Int32)), (0, .ref (ad 43 0)), (1, .int p1), (2, .int p2)]) hx hb dX10_edition_71 rfl hl (Nat.le_of_ble_eq_true rfl) rfl (fun ls hl => ?_)
    exact s_X10_edition_L72 C hW hD0 (fun p3 Y H locs ls hP hS hl hf => s_X10_edition_J102 C hW hD0 p3 Y _ _ _ hP hS hl hf) (fun Y H locs ls hP hS hl hf => s_X10_edition_J110 C hW hD0 Y _ _ _ hP hS hl hf) N p1 p2 (0 : Int32) X5 _ _ _ hP hS (lv_sub hl [1, 2, 3, 0] rfl) ha_l0 hf
  · have hf := g_in c3 hf
    refine lv_iconst (v := 0) hx hb dX10_edition_59 (by decide) ?_
    obtain ⟨rfl, rfl⟩ := g_s1 hf
    exact r_iret C hP hS dX10_edition_60

set_option maxRecDepth 100000 in
set_option maxHeartbeats 4000000 in
theorem s_X10_edition_J44 {p : Program} {l : Launch} {e : Env} {s : State} {m : MethodId} {args : Array Value} {below : List Frame} {meth : Method} {c : Code} {D : va_G} {cA : Nat → ClassId} {ad : Nat → Nat → Nat} {NL : List (Nat × Nat)} {A : Nat → Prop} {rr : Int32} {XX : gM} {N : Nat} (C : gCx p c meth m s args cX10_edition 4 (some .int) RX10 D cA ad NL A) (hW : gWf NL) (hD0 : gD (fun _ => True) ad NL) : ∀ (p1 : Int32) (p2 : Int32) (X : gM) (H : Heap) (locs : List Loc) (ls : Array Slot), gH D cA ad NL X H → va_S A s.heap H locs → lv_has ls 4 [(0, .ref (ad 43 0)), (1, .int p1), (2, .int p2)] → (43, 0) ∈ NL → (43, 0) ∈ NL → X10_edition_J44 (gal NL) N p1 p2 X = some (rr, XX) → W p l e rm_X10_edition s m args below meth c H locs 0 0 (MQ below (gQ D cA ad NL (some (.int rr)) XX A) args s 0 0 A) (F0 m 44 ls [.ref (ad 43 0)]) := by
  have hx := C.1
  have hb := C.2.1
  intro p1 p2 X H locs ls hP hS hl ha_l0 ha_s0 hf
  rw [X10_edition_J44] at hf
  refine lv_iconst (v := 1) hx hb dX10_edition_44 (by decide) ?_
  refine lv_goto (tgt := 49) hx hb dX10_edition_45 (by decide) ?_
  exact s_X10_edition_J49 C hW hD0 p1 p2 (1 : Int32) X _ _ _ hP hS (lv_sub hl [0, 1, 2] rfl) ha_l0 ha_s0 hf

set_option maxRecDepth 100000 in
set_option maxHeartbeats 4000000 in
theorem s_X10_edition_J15 {p : Program} {l : Launch} {e : Env} {s : State} {m : MethodId} {args : Array Value} {below : List Frame} {meth : Method} {c : Code} {D : va_G} {cA : Nat → ClassId} {ad : Nat → Nat → Nat} {NL : List (Nat × Nat)} {A : Nat → Prop} {rr : Int32} {XX : gM} {N : Nat} (C : gCx p c meth m s args cX10_edition 4 (some .int) RX10 D cA ad NL A) (hW : gWf NL) (hD0 : gD (fun _ => True) ad NL) : ∀ (p1 : Int32) (p2 : Int32) (s1 : Int32) (X : gM) (H : Heap) (locs : List Loc) (ls : Array Slot), gH D cA ad NL X H → va_S A s.heap H locs → lv_has ls 4 [(0, .ref (ad 43 0)), (1, .int p1), (2, .int p2)] → (43, 0) ∈ NL → (43, 0) ∈ NL → X10_edition_J15 (gal NL) N p1 p2 s1 X = some (rr, XX) → W p l e rm_X10_edition s m args below meth c H locs 0 0 (MQ below (gQ D cA ad NL (some (.int rr)) XX A) args s 0 0 A) (F0 m 15 ls [.int s1, .ref (ad 43 0)]) := by
  have hx := C.1
  have hb := C.2.1
  intro p1 p2 s1 X H locs ls hP hS hl ha_l0 ha_s0 hf
  rw [X10_edition_J15] at hf
  refine r_put C hP hS s1 ha_s0 (ct_43 _ _ _ _) px_X10_122 (fp_43_46 _ _ _ _ _) (Nat.le_of_ble_eq_true rfl) rfl rfl dX10_edition_15 (fun H locs hP hS => ?_)
  obtain ⟨X1, e2, hf⟩ := gl_in hf
  rw [← e2] at hP
  refine lv_aload_n hx hb dX10_edition_18 rfl (lv_at hl 0 rfl) ?_
  refine lv_aload_n hx hb dX10_edition_19 rfl (lv_at hl 0 rfl) ?_
  refine r_get C hP ha_l0 (ct_43 _ _ _ _) fx_X10_122 (fg_43_46 _ _ _) dX10_edition_20 ?_
  refine lv_if_gt (tgt := 44) hx hb dX10_edition_23 (by decide) (fun c3 => ?_) (fun c3 => ?_)
  · have hf := g_ip c3 hf
    exact s_X10_edition_J44 C hW hD0 p1 p2 X1 _ _ _ hP hS (lv_sub hl [0, 1, 2] rfl) ha_l0 ha_l0 hf
  · have hf := g_in c3 hf
    refine lv_iload_n hx hb dX10_edition_26 rfl (lv_at hl 2 rfl) ?_
    refine lv_iconst (v := 0) hx hb dX10_edition_27 (by decide) ?_
    refine lv_iconst (v := 2) hx hb dX10_edition_28 (by decide) ?_
    refine lv_aload_n hx hb dX10_edition_29 rfl (lv_at hl 0 rfl) ?_
    refine r_get C hP ha_l0 (ct_43 _ _ _ _) fx_X10_37 (fg_43_10 _ _ _) dX10_edition_30 ?_
    refine lv_iload_n hx hb dX10_edition_33 rfl (lv_at hl 1 rfl) ?_
    obtain ⟨j4, h5, hf⟩ := rd_in hf
    refine r_iald C hP (gs_43_10 hW ha_l0) (ct_53 _ _ _ _) h5 dX10_edition_34 ?_
    refine lv_imul hx hb dX10_edition_35 ?_
    refine lv_iconst (v := 1) hx hb dX10_edition_36 (by decide) ?_
    refine lv_isub hx hb dX10_edition_37 ?_
    obtain ⟨r6, X7, h8, hf⟩ := b2_in hf
    refine r_cSi (rest := [.ref (ad 43 0)]) C hP hS hl.1 (s_X10_in hW hD0  h8) ix_X10_in is_X10_in ls_X10_129 ⟨rfl, rfl, Nat.le_of_ble_eq_true rfl, Nat.le_of_ble_eq_true rfl⟩ rfl rfl (Nat.le_of_ble_eq_true rfl) ⟨Nat.zero_le _, Nat.zero_le _⟩ dX10_edition_38 (fun H locs hP hS => ?_)
    refine lv_if_ne (tgt := 48) hx hb dX10_edition_41 (by decide) (fun c9 => ?_) (fun c9 => ?_)
    · have hf := g_in c9 hf
      refine lv_iconst (v := 0) hx hb dX10_edition_48 (by decide) ?_
      exact s_X10_edition_J49 C hW hD0 p1 p2 (0 : Int32) X7 _ _ _ hP hS (lv_sub hl [0, 1, 2] rfl) ha_l0 ha_l0 hf
    · have hf := g_ip c9 hf
      exact s_X10_edition_J44 C hW hD0 p1 p2 X7 _ _ _ hP hS (lv_sub hl [0, 1, 2] rfl) ha_l0 ha_l0 hf

set_option maxRecDepth 100000 in
set_option maxHeartbeats 4000000 in
theorem w_X10_edition {p : Program} {l : Launch} {e : Env} {s : State} {m : MethodId} {args : Array Value} {below : List Frame} {meth : Method} {c : Code} {D : va_G} {cA : Nat → ClassId} {ad : Nat → Nat → Nat} {NL : List (Nat × Nat)} {A : Nat → Prop} {rr : Int32} {XX : gM} {N : Nat} (C : gCx p c meth m s args cX10_edition 4 (some .int) RX10 D cA ad NL A) (hW : gWf NL) (hD0 : gD (fun _ => True) ad NL) {p1 : Int32} {p2 : Int32} (ha_l0 : (43, 0) ∈ NL) : ∀ (X : gM) (H : Heap) (locs : List Loc) (ls : Array Slot), gH D cA ad NL X H → va_S A s.heap H locs → lv_has ls 4 [(0, .ref (ad 43 0)), (1, .int p1), (2, .int p2)] → X10_edition (gal NL) N p1 p2 X = some (rr, XX) → W p l e rm_X10_edition s m args below meth c H locs 0 0 (MQ below (gQ D cA ad NL (some (.int rr)) XX A) args s 0 0 A) (F0 m 0 ls []) := by
  have hx := C.1
  have hb := C.2.1
  intro X H locs ls hP hS hl hf
  rw [X10_edition] at hf
  refine lv_aload_n hx hb dX10_edition_0 rfl (lv_at hl 0 rfl) ?_
  refine lv_iload_n hx hb dX10_edition_1 rfl (lv_at hl 1 rfl) ?_
  refine lv_iconst (v := 0) hx hb dX10_edition_2 (by decide) ?_
  refine lv_iconst (v := 1) hx hb dX10_edition_3 (by decide) ?_
  obtain ⟨r1, X2, h3, hf⟩ := b2_in hf
  refine r_cSi (rest := [.ref (ad 43 0)]) C hP hS hl.1 (s_X10_in hW hD0  h3) ix_X10_in is_X10_in ls_X10_129 ⟨rfl, rfl, Nat.le_of_ble_eq_true rfl, Nat.le_of_ble_eq_true rfl⟩ rfl rfl (Nat.le_of_ble_eq_true rfl) ⟨Nat.zero_le _, Nat.zero_le _⟩ dX10_edition_4 (fun H locs hP hS => ?_)
  refine lv_if_eq (tgt := 14) hx hb dX10_edition_7 (by decide) (fun c4 => ?_) (fun c4 => ?_)
  · have hf := g_ip c4 hf
    refine lv_iconst (v := 1) hx hb dX10_edition_14 (by decide) ?_
    exact s_X10_edition_J15 C hW hD0 p1 p2 (1 : Int32) X2 _ _ _ hP hS (lv_sub hl [0, 1, 2] rfl) ha_l0 ha_l0 hf
  · have hf := g_in c4 hf
    refine lv_iconst (v := 0) hx hb dX10_edition_10 (by decide) ?_
    refine lv_goto (tgt := 15) hx hb dX10_edition_11 (by decide) ?_
    exact s_X10_edition_J15 C hW hD0 p1 p2 (0 : Int32) X2 _ _ _ hP hS (lv_sub hl [0, 1, 2] rfl) ha_l0 ha_l0 hf

theorem s_X10_edition {l : Launch} {D : va_G} {cA : Nat → ClassId} {ad : Nat → Nat → Nat} {NL : List (Nat × Nat)} {N : Nat} {p1 : Int32} {p2 : Int32} {X : gM} {rr : Int32} {XX : gM} (hW : gWf NL) (hD0 : gD (fun _ => True) ad NL) (ha_l0 : (43, 0) ∈ NL) (hf : X10_edition (gal NL) N p1 p2 X = some (rr, XX)) : gC l yX10_edition cX10_edition 4 (some .int) rm_X10_edition D cA ad NL [.ref (ad 43 0), .int p1, .int p2] X (some (.int rr)) XX :=
  g_ofW (by decide) hD0 (Nat.le_of_ble_eq_true rfl) rfl (fun p e s m below meth c ls C hP hS hl => w_X10_edition C hW hD0 ha_l0 X _ _ ls hP hS hl hf)
def rm_X10_lettersOf : Room := { frames := 1, cells := 0, slots := 0, locals := 27 }
set_option maxRecDepth 100000 in
set_option maxHeartbeats 4000000 in
theorem s_X10_lettersOf_J314 {p : Program} {l : Launch} {e : Env} {s : State} {m : MethodId} {args : Array Value} {below : List Frame} {meth : Method} {c : Code} {D : va_G} {cA : Nat → ClassId} {ad : Nat → Nat → Nat} {NL : List (Nat × Nat)} {A : Nat → Prop} {rr : Int32} {XX : gM} {N : Nat} (C : gCx p c meth m s args cX10_lettersOf 9 (some .int) RX10 D cA ad NL A) (hW : gWf NL) (hD0 : gD (fun _ => True) ad NL) : ∀ (p3 : Int32) (X : gM) (H : Heap) (locs : List Loc) (ls : Array Slot), gH D cA ad NL X H → va_S A s.heap H locs → lv_has ls 9 [(3, .int p3)] → X10_lettersOf_J314 (gal NL) N p3 X = some (rr, XX) → W p l e rm_X10_lettersOf s m args below meth c H locs 0 0 (MQ below (gQ D cA ad NL (some (.int rr)) XX A) args s 0 0 A) (F0 m 314 ls []) := by
  have hx := C.1
  have hb := C.2.1
  intro p3 X H locs ls hP hS hl hf
  rw [X10_lettersOf_J314] at hf
  refine lv_iload_n hx hb dX10_lettersOf_314 rfl (lv_at hl 0 rfl) ?_
  obtain ⟨rfl, rfl⟩ := g_s1 hf
  exact r_iret C hP hS dX10_lettersOf_315

set_option maxRecDepth 100000 in
set_option maxHeartbeats 4000000 in
theorem s_X10_lettersOf_J308 {p : Program} {l : Launch} {e : Env} {s : State} {m : MethodId} {args : Array Value} {below : List Frame} {meth : Method} {c : Code} {D : va_G} {cA : Nat → ClassId} {ad : Nat → Nat → Nat} {NL : List (Nat × Nat)} {A : Nat → Prop} {rr : Int32} {XX : gM} {N : Nat} {kk : Int32 → Int32 → Int32 → Int32 → gM → Option (Int32 × gM)} {k314 : Int32 → gM → Option (Int32 × gM)} (C : gCx p c meth m s args cX10_lettersOf 9 (some .int) RX10 D cA ad NL A) (hW : gWf NL) (hD0 : gD (fun _ => True) ad NL) (hkk : ∀ (p1 : Int32) (p2 : Int32) (p3 : Int32) (p4 : Int32) (Y : gM) (H : Heap) (locs : List Loc) (ls : Array Slot), gH D cA ad NL Y H → va_S A s.heap H locs → lv_has ls 9 [(0, .ref (ad 43 0)), (1, .int p1), (2, .int p2), (3, .int p3), (4, .int p4)] → (43, 0) ∈ NL → kk p1 p2 p3 p4 Y = some (rr, XX) → W p l e rm_X10_lettersOf s m args below meth c H locs 0 0 (MQ below (gQ D cA ad NL (some (.int rr)) XX A) args s 0 0 A) (F0 m 32 ls [])) (hk314 : ∀ (p3 : Int32) (Y : gM) (H : Heap) (locs : List Loc) (ls : Array Slot), gH D cA ad NL Y H → va_S A s.heap H locs → lv_has ls 9 [(3, .int p3)] → k314 p3 Y = some (rr, XX) → W p l e rm_X10_lettersOf s m args below meth c H locs 0 0 (MQ below (gQ D cA ad NL (some (.int rr)) XX A) args s 0 0 A) (F0 m 314 ls [])) : ∀ (p1 : Int32) (p2 : Int32) (p3 : Int32) (p4 : Int32) (X : gM) (H : Heap) (locs : List Loc) (ls : Array Slot), gH D cA ad NL X H → va_S A s.heap H locs → lv_has ls 9 [(0, .ref (ad 43 0)), (1, .int p1), (2, .int p2), (3, .int p3), (4, .int p4)] → (43, 0) ∈ NL → X10_lettersOf_J308 (gal NL) N kk k314 p1 p2 p3 p4 X = some (rr, XX) → W p l e rm_X10_lettersOf s m args below meth c H locs 0 0 (MQ below (gQ D cA ad NL (some (.int rr)) XX A) args s 0 0 A) (F0 m 308 ls []) := by
  have hx := C.1
  have hb := C.2.1
  intro p1 p2 p3 p4 X H locs ls hP hS hl ha_l0 hf
  rw [X10_lettersOf_J308] at hf
  obtain ⟨v1, e2, hf⟩ := gl_in hf
  refine lv_iinc (v := v1) (lv' := [(4, .int v1), (0, .ref (ad 43 0)), (1, .int p1), (2, .int p2), (3, .int p3)]) hx hb dX10_lettersOf_308 hl (k := 4) rfl (by rw [e2]; rfl) (Nat.le_of_ble_eq_true rfl) rfl (fun ls hl => ?_)
  refine lv_goto (tgt := 32) hx hb dX10_lettersOf_311 (by decide) ?_
  exact hkk p1 p2 p3 v1 X _ _ _ hP hS (lv_sub hl [1, 2, 3, 4, 0] rfl) ha_l0 hf

set_option maxRecDepth 100000 in
set_option maxHeartbeats 4000000 in
theorem s_X10_lettersOf_J302 {p : Program} {l : Launch} {e : Env} {s : State} {m : MethodId} {args : Array Value} {below : List Frame} {meth : Method} {c : Code} {D : va_G} {cA : Nat → ClassId} {ad : Nat → Nat → Nat} {NL : List (Nat × Nat)} {A : Nat → Prop} {rr : Int32} {XX : gM} {N : Nat} {kk : Int32 → Int32 → Int32 → Int32 → Int32 → gM → Option (Int32 × gM)} {k308 : Int32 → Int32 → Int32 → Int32 → gM → Option (Int32 × gM)} (C : gCx p c meth m s args cX10_lettersOf 9 (some .int) RX10 D cA ad NL A) (hW : gWf NL) (hD0 : gD (fun _ => True) ad NL) (hkk : ∀ (p1 : Int32) (p2 : Int32) (p3 : Int32) (p4 : Int32) (p5 : Int32) (Y : gM) (H : Heap) (locs : List Loc) (ls : Array Slot), gH D cA ad NL Y H → va_S A s.heap H locs → lv_has ls 9 [(0, .ref (ad 43 0)), (1, .int p1), (2, .int p2), (3, .int p3), (4, .int p4), (5, .int p5)] → (43, 0) ∈ NL → kk p1 p2 p3 p4 p5 Y = some (rr, XX) → W p l e rm_X10_lettersOf s m args below meth c H locs 0 0 (MQ below (gQ D cA ad NL (some (.int rr)) XX A) args s 0 0 A) (F0 m 109 ls [])) (hk308 : ∀ (p1 : Int32) (p2 : Int32) (p3 : Int32) (p4 : Int32) (Y : gM) (H : Heap) (locs : List Loc) (ls : Array Slot), gH D cA ad NL Y H → va_S A s.heap H locs → lv_has ls 9 [(0, .ref (ad 43 0)), (1, .int p1), (2, .int p2), (3, .int p3), (4, .int p4)] → (43, 0) ∈ NL → k308 p1 p2 p3 p4 Y = some (rr, XX) → W p l e rm_X10_lettersOf s m args below meth c H locs 0 0 (MQ below (gQ D cA ad NL (some (.int rr)) XX A) args s 0 0 A) (F0 m 308 ls [])) : ∀ (p1 : Int32) (p2 : Int32) (p3 : Int32) (p4 : Int32) (p5 : Int32) (X : gM) (H : Heap) (locs : List Loc) (ls : Array Slot), gH D cA ad NL X H → va_S A s.heap H locs → lv_has ls 9 [(0, .ref (ad 43 0)), (1, .int p1), (2, .int p2), (3, .int p3), (4, .int p4), (5, .int p5)] → (43, 0) ∈ NL → X10_lettersOf_J302 (gal NL) N kk k308 p1 p2 p3 p4 p5 X = some (rr, XX) → W p l e rm_X10_lettersOf s m args below meth c H locs 0 0 (MQ below (gQ D cA ad NL (some (.int rr)) XX A) args s 0 0 A) (F0 m 302 ls []) := by
  have hx := C.1
  have hb := C.2.1
  intro p1 p2 p3 p4 p5 X H locs ls hP hS hl ha_l0 hf
  rw [X10_lettersOf_J302] at hf
  obtain ⟨v1, e2, hf⟩ := gl_in hf
  refine lv_iinc (v := v1) (lv' := [(5, .int v1), (0, .ref (ad 43 0)), (1, .int p1), (2, .int p2), (3, .int p3), (4, .int p4)]) hx hb dX10_lettersOf_302 hl (k := 5) rfl (by rw [e2]; rfl) (Nat.le_of_ble_eq_true rfl) rfl (fun ls hl => ?_)
  refine lv_goto (tgt := 109) hx hb dX10_lettersOf_305 (by decide) ?_
  exact hkk p1 p2 p3 p4 v1 X _ _ _ hP hS (lv_sub hl [1, 2, 3, 4, 5, 0] rfl) ha_l0 hf

set_option maxRecDepth 100000 in
set_option maxHeartbeats 4000000 in
theorem s_X10_lettersOf_J301 {p : Program} {l : Launch} {e : Env} {s : State} {m : MethodId} {args : Array Value} {below : List Frame} {meth : Method} {c : Code} {D : va_G} {cA : Nat → ClassId} {ad : Nat → Nat → Nat} {NL : List (Nat × Nat)} {A : Nat → Prop} {rr : Int32} {XX : gM} {N : Nat} {kk : Int32 → Int32 → Int32 → Int32 → Int32 → gM → Option (Int32 × gM)} {k308 : Int32 → Int32 → Int32 → Int32 → gM → Option (Int32 × gM)} (C : gCx p c meth m s args cX10_lettersOf 9 (some .int) RX10 D cA ad NL A) (hW : gWf NL) (hD0 : gD (fun _ => True) ad NL) (hkk : ∀ (p1 : Int32) (p2 : Int32) (p3 : Int32) (p4 : Int32) (p5 : Int32) (Y : gM) (H : Heap) (locs : List Loc) (ls : Array Slot), gH D cA ad NL Y H → va_S A s.heap H locs → lv_has ls 9 [(0, .ref (ad 43 0)), (1, .int p1), (2, .int p2), (3, .int p3), (4, .int p4), (5, .int p5)] → (43, 0) ∈ NL → kk p1 p2 p3 p4 p5 Y = some (rr, XX) → W p l e rm_X10_lettersOf s m args below meth c H locs 0 0 (MQ below (gQ D cA ad NL (some (.int rr)) XX A) args s 0 0 A) (F0 m 109 ls [])) (hk308 : ∀ (p1 : Int32) (p2 : Int32) (p3 : Int32) (p4 : Int32) (Y : gM) (H : Heap) (locs : List Loc) (ls : Array Slot), gH D cA ad NL Y H → va_S A s.heap H locs → lv_has ls 9 [(0, .ref (ad 43 0)), (1, .int p1), (2, .int p2), (3, .int p3), (4, .int p4)] → (43, 0) ∈ NL → k308 p1 p2 p3 p4 Y = some (rr, XX) → W p l e rm_X10_lettersOf s m args below meth c H locs 0 0 (MQ below (gQ D cA ad NL (some (.int rr)) XX A) args s 0 0 A) (F0 m 308 ls [])) : ∀ (p1 : Int32) (p2 : Int32) (p3 : Int32) (p4 : Int32) (p5 : Int32) (s1 : Int32) (s2 : Int32) (X : gM) (H : Heap) (locs : List Loc) (ls : Array Slot), gH D cA ad NL X H → va_S A s.heap H locs → lv_has ls 9 [(0, .ref (ad 43 0)), (1, .int p1), (2, .int p2), (3, .int p3), (4, .int p4), (5, .int p5)] → (43, 0) ∈ NL → (69, 0) ∈ NL → X10_lettersOf_J301 (gal NL) N kk k308 p1 p2 p3 p4 p5 s1 s2 X = some (rr, XX) → W p l e rm_X10_lettersOf s m args below meth c H locs 0 0 (MQ below (gQ D cA ad NL (some (.int rr)) XX A) args s 0 0 A) (F0 m 301 ls [.int s2, .int s1, .ref (ad 69 0)]) := by
  have hx := C.1
  have hb := C.2.1
  intro p1 p2 p3 p4 p5 s1 s2 X H locs ls hP hS hl ha_l0 ha_s0 hf
  rw [X10_lettersOf_J301] at hf
  obtain ⟨j1, h2, hf⟩ := rd_in hf
  refine r_iast C hP hS ha_s0 (fun _ => ct_69 _ _ _ _) h2 dX10_lettersOf_301 (fun H locs hP hS => ?_)
  obtain ⟨X3, e4, hf⟩ := gl_in hf
  rw [← e4] at hP
  exact s_X10_lettersOf_J302 C hW hD0 hkk hk308 p1 p2 p3 p4 p5 X3 _ _ _ hP hS (lv_sub hl [0, 1, 2, 3, 4, 5] rfl) ha_l0 hf

set_option maxRecDepth 100000 in
set_option maxHeartbeats 4000000 in
theorem s_X10_lettersOf_J253 {p : Program} {l : Launch} {e : Env} {s : State} {m : MethodId} {args : Array Value} {below : List Frame} {meth : Method} {c : Code} {D : va_G} {cA : Nat → ClassId} {ad : Nat → Nat → Nat} {NL : List (Nat × Nat)} {A : Nat → Prop} {rr : Int32} {XX : gM} {N : Nat} {kk : Int32 → Int32 → Int32 → Int32 → Int32 → gM → Option (Int32 × gM)} {k308 : Int32 → Int32 → Int32 → Int32 → gM → Option (Int32 × gM)} (C : gCx p c meth m s args cX10_lettersOf 9 (some .int) RX10 D cA ad NL A) (hW : gWf NL) (hD0 : gD (fun _ => True) ad NL) (hkk : ∀ (p1 : Int32) (p2 : Int32) (p3 : Int32) (p4 : Int32) (p5 : Int32) (Y : gM) (H : Heap) (locs : List Loc) (ls : Array Slot), gH D cA ad NL Y H → va_S A s.heap H locs → lv_has ls 9 [(0, .ref (ad 43 0)), (1, .int p1), (2, .int p2), (3, .int p3), (4, .int p4), (5, .int p5)] → (43, 0) ∈ NL → kk p1 p2 p3 p4 p5 Y = some (rr, XX) → W p l e rm_X10_lettersOf s m args below meth c H locs 0 0 (MQ below (gQ D cA ad NL (some (.int rr)) XX A) args s 0 0 A) (F0 m 109 ls [])) (hk308 : ∀ (p1 : Int32) (p2 : Int32) (p3 : Int32) (p4 : Int32) (Y : gM) (H : Heap) (locs : List Loc) (ls : Array Slot), gH D cA ad NL Y H → va_S A s.heap H locs → lv_has ls 9 [(0, .ref (ad 43 0)), (1, .int p1), (2, .int p2), (3, .int p3), (4, .int p4)] → (43, 0) ∈ NL → k308 p1 p2 p3 p4 Y = some (rr, XX) → W p l e rm_X10_lettersOf s m args below meth c H locs 0 0 (MQ below (gQ D cA ad NL (some (.int rr)) XX A) args s 0 0 A) (F0 m 308 ls [])) : ∀ (p1 : Int32) (p2 : Int32) (p4 : Int32) (p5 : Int32) (p6 : Int32) (p7 : Int32) (s0 : Int32) (s1 : Int32) (X : gM) (H : Heap) (locs : List Loc) (ls : Array Slot), gH D cA ad NL X H → va_S A s.heap H locs → lv_has ls 9 [(0, .ref (ad 43 0)), (1, .int p1), (2, .int p2), (4, .int p4), (5, .int p5), (6, .int p6), (7, .int p7)] → (43, 0) ∈ NL → X10_lettersOf_J253 (gal NL) N kk k308 p1 p2 p4 p5 p6 p7 s0 s1 X = some (rr, XX) → W p l e rm_X10_lettersOf s m args below meth c H locs 0 0 (MQ below (gQ D cA ad NL (some (.int rr)) XX A) args s 0 0 A) (F0 m 253 ls [.int s1, .int s0]) := by
  have hx := C.1
  have hb := C.2.1
  intro p1 p2 p4 p5 p6 p7 s0 s1 X H locs ls hP hS hl ha_l0 hf
  rw [X10_lettersOf_J253] at hf
  refine lv_ior hx hb dX10_lettersOf_253 ?_
  refine g_top hf (fun v1 e2 hf => ?_)
  refine lv_istore_n (i := 3) (lv' := [(3, .int v1), (0, .ref (ad 43 0)), (1, .int p1), (2, .int p2), (4, .int p4), (5, .int p5), (6, .int p6), (7, .int p7)]) hx hb dX10_lettersOf_254 rfl hl (Nat.le_of_ble_eq_true rfl) rfl (fun ls hl => ?_)
  refine lv_aload_n hx hb dX10_lettersOf_255 rfl (lv_at hl 1 rfl) ?_
  refine r_get C hP ha_l0 (ct_43 _ _ _ _) fx_X10_86 (fg_43_32 _ _ _) dX10_lettersOf_256 ?_
  refine lv_iload hx hb dX10_lettersOf_259 (lv_at hl 7 rfl) ?_
  refine lv_aload_n hx hb dX10_lettersOf_261 rfl (lv_at hl 1 rfl) ?_
  refine r_get C hP ha_l0 (ct_43 _ _ _ _) fx_X10_86 (fg_43_32 _ _ _) dX10_lettersOf_262 ?_
  refine lv_iload hx hb dX10_lettersOf_265 (lv_at hl 4 rfl) ?_
  obtain ⟨j3, h4, hf⟩ := rd_in hf
  refine r_iald C hP (gs_43_32 hW ha_l0) (ct_69 _ _ _ _) h4 dX10_lettersOf_267 ?_
  refine lv_iload hx hb dX10_lettersOf_268 (lv_at hl 6 rfl) ?_
  refine lv_iadd hx hb dX10_lettersOf_270 ?_
  refine lv_aload_n hx hb dX10_lettersOf_271 rfl (lv_at hl 1 rfl) ?_
  refine r_get C hP ha_l0 (ct_43 _ _ _ _) fx_X10_86 (fg_43_32 _ _ _) dX10_lettersOf_272 ?_
  refine lv_iload hx hb dX10_lettersOf_275 (lv_at hl 7 rfl) ?_
  obtain ⟨j5, h6, hf⟩ := rd_in hf
  refine r_iald C hP (gs_43_32 hW ha_l0) (ct_69 _ _ _ _) h6 dX10_lettersOf_277 ?_
  refine lv_icmp_le (tgt := 294) hx hb dX10_lettersOf_278 (by decide) (fun c7 => ?_) (fun c7 => ?_)
  · have hf := g_ip c7 hf
    refine lv_aload_n hx hb dX10_lettersOf_294 rfl (lv_at hl 1 rfl) ?_
    refine r_get C hP ha_l0 (ct_43 _ _ _ _) fx_X10_86 (fg_43_32 _ _ _) dX10_lettersOf_295 ?_
    refine lv_iload hx hb dX10_lettersOf_298 (lv_at hl 7 rfl) ?_
    obtain ⟨j8, h9, hf⟩ := rd_in hf
    refine r_iald C hP (gs_43_32 hW ha_l0) (ct_69 _ _ _ _) h9 dX10_lettersOf_300 ?_
    exact s_X10_lettersOf_J301 C hW hD0 hkk hk308 p1 p2 v1 p4 p5 p7 ((X 69 0 j8)) X _ _ _ hP hS (lv_sub hl [1, 2, 3, 0, 4, 5] rfl) ha_l0 (gs_43_32 hW ha_l0) hf
  · have hf := g_in c7 hf
    refine lv_aload_n hx hb dX10_lettersOf_281 rfl (lv_at hl 1 rfl) ?_
    refine r_get C hP ha_l0 (ct_43 _ _ _ _) fx_X10_86 (fg_43_32 _ _ _) dX10_lettersOf_282 ?_
    refine lv_iload hx hb dX10_lettersOf_285 (lv_at hl 4 rfl) ?_
    obtain ⟨j10, h11, hf⟩ := rd_in hf
    refine r_iald C hP (gs_43_32 hW ha_l0) (ct_69 _ _ _ _) h11 dX10_lettersOf_287 ?_
    refine lv_iload hx hb dX10_lettersOf_288 (lv_at hl 6 rfl) ?_
    refine lv_iadd hx hb dX10_lettersOf_290 ?_
    refine lv_goto (tgt := 301) hx hb dX10_lettersOf_291 (by decide) ?_
    exact s_X10_lettersOf_J301 C hW hD0 hkk hk308 p1 p2 v1 p4 p5 p7 (((X 69 0 j10) + p6)) X _ _ _ hP hS (lv_sub hl [1, 2, 3, 0, 4, 5] rfl) ha_l0 (gs_43_32 hW ha_l0) hf

set_option maxRecDepth 100000 in
set_option maxHeartbeats 4000000 in
theorem s_X10_lettersOf_J252 {p : Program} {l : Launch} {e : Env} {s : State} {m : MethodId} {args : Array Value} {below : List Frame} {meth : Method} {c : Code} {D : va_G} {cA : Nat → ClassId} {ad : Nat → Nat → Nat} {NL : List (Nat × Nat)} {A : Nat → Prop} {rr : Int32} {XX : gM} {N : Nat} {kk : Int32 → Int32 → Int32 → Int32 → Int32 → gM → Option (Int32 × gM)} {k308 : Int32 → Int32 → Int32 → Int32 → gM → Option (Int32 × gM)} (C : gCx p c meth m s args cX10_lettersOf 9 (some .int) RX10 D cA ad NL A) (hW : gWf NL) (hD0 : gD (fun _ => True) ad NL) (hkk : ∀ (p1 : Int32) (p2 : Int32) (p3 : Int32) (p4 : Int32) (p5 : Int32) (Y : gM) (H : Heap) (locs : List Loc) (ls : Array Slot), gH D cA ad NL Y H → va_S A s.heap H locs → lv_has ls 9 [(0, .ref (ad 43 0)), (1, .int p1), (2, .int p2), (3, .int p3), (4, .int p4), (5, .int p5)] → (43, 0) ∈ NL → kk p1 p2 p3 p4 p5 Y = some (rr, XX) → W p l e rm_X10_lettersOf s m args below meth c H locs 0 0 (MQ below (gQ D cA ad NL (some (.int rr)) XX A) args s 0 0 A) (F0 m 109 ls [])) (hk308 : ∀ (p1 : Int32) (p2 : Int32) (p3 : Int32) (p4 : Int32) (Y : gM) (H : Heap) (locs : List Loc) (ls : Array Slot), gH D cA ad NL Y H → va_S A s.heap H locs → lv_has ls 9 [(0, .ref (ad 43 0)), (1, .int p1), (2, .int p2), (3, .int p3), (4, .int p4)] → (43, 0) ∈ NL → k308 p1 p2 p3 p4 Y = some (rr, XX) → W p l e rm_X10_lettersOf s m args below meth c H locs 0 0 (MQ below (gQ D cA ad NL (some (.int rr)) XX A) args s 0 0 A) (F0 m 308 ls [])) : ∀ (p1 : Int32) (p2 : Int32) (p4 : Int32) (p5 : Int32) (p6 : Int32) (p7 : Int32) (s0 : Int32) (X : gM) (H : Heap) (locs : List Loc) (ls : Array Slot), gH D cA ad NL X H → va_S A s.heap H locs → lv_has ls 9 [(0, .ref (ad 43 0)), (1, .int p1), (2, .int p2), (4, .int p4), (5, .int p5), (6, .int p6), (7, .int p7)] → (43, 0) ∈ NL → X10_lettersOf_J252 (gal NL) N kk k308 p1 p2 p4 p5 p6 p7 s0 X = some (rr, XX) → W p l e rm_X10_lettersOf s m args below meth c H locs 0 0 (MQ below (gQ D cA ad NL (some (.int rr)) XX A) args s 0 0 A) (F0 m 252 ls [.int s0]) := by
  have hx := C.1
  have hb := C.2.1
  intro p1 p2 p4 p5 p6 p7 s0 X H locs ls hP hS hl ha_l0 hf
  rw [X10_lettersOf_J252] at hf
  refine lv_iconst (v := 0) hx hb dX10_lettersOf_252 (by decide) ?_
  exact s_X10_lettersOf_J253 C hW hD0 hkk hk308 p1 p2 p4 p5 p6 p7 s0 (0 : Int32) X _ _ _ hP hS (lv_sub hl [0, 1, 2, 3, 4, 5, 6] rfl) ha_l0 hf

set_option maxRecDepth 100000 in
set_option maxHeartbeats 4000000 in
theorem s_X10_lettersOf_J211 {p : Program} {l : Launch} {e : Env} {s : State} {m : MethodId} {args : Array Value} {below : List Frame} {meth : Method} {c : Code} {D : va_G} {cA : Nat → ClassId} {ad : Nat → Nat → Nat} {NL : List (Nat × Nat)} {A : Nat → Prop} {rr : Int32} {XX : gM} {N : Nat} {kk : Int32 → Int32 → Int32 → Int32 → Int32 → gM → Option (Int32 × gM)} {k308 : Int32 → Int32 → Int32 → Int32 → gM → Option (Int32 × gM)} (C : gCx p c meth m s args cX10_lettersOf 9 (some .int) RX10 D cA ad NL A) (hW : gWf NL) (hD0 : gD (fun _ => True) ad NL) (hkk : ∀ (p1 : Int32) (p2 : Int32) (p3 : Int32) (p4 : Int32) (p5 : Int32) (Y : gM) (H : Heap) (locs : List Loc) (ls : Array Slot), gH D cA ad NL Y H → va_S A s.heap H locs → lv_has ls 9 [(0, .ref (ad 43 0)), (1, .int p1), (2, .int p2), (3, .int p3), (4, .int p4), (5, .int p5)] → (43, 0) ∈ NL → kk p1 p2 p3 p4 p5 Y = some (rr, XX) → W p l e rm_X10_lettersOf s m args below meth c H locs 0 0 (MQ below (gQ D cA ad NL (some (.int rr)) XX A) args s 0 0 A) (F0 m 109 ls [])) (hk308 : ∀ (p1 : Int32) (p2 : Int32) (p3 : Int32) (p4 : Int32) (Y : gM) (H : Heap) (locs : List Loc) (ls : Array Slot), gH D cA ad NL Y H → va_S A s.heap H locs → lv_has ls 9 [(0, .ref (ad 43 0)), (1, .int p1), (2, .int p2), (3, .int p3), (4, .int p4)] → (43, 0) ∈ NL → k308 p1 p2 p3 p4 Y = some (rr, XX) → W p l e rm_X10_lettersOf s m args below meth c H locs 0 0 (MQ below (gQ D cA ad NL (some (.int rr)) XX A) args s 0 0 A) (F0 m 308 ls [])) : ∀ (p1 : Int32) (p2 : Int32) (p3 : Int32) (p4 : Int32) (p5 : Int32) (p6 : Int32) (p7 : Int32) (s0 : Int32) (X : gM) (H : Heap) (locs : List Loc) (ls : Array Slot), gH D cA ad NL X H → va_S A s.heap H locs → lv_has ls 9 [(0, .ref (ad 43 0)), (1, .int p1), (2, .int p2), (3, .int p3), (4, .int p4), (5, .int p5), (6, .int p6), (7, .int p7)] → (43, 0) ∈ NL → X10_lettersOf_J211 (gal NL) N kk k308 p1 p2 p3 p4 p5 p6 p7 s0 X = some (rr, XX) → W p l e rm_X10_lettersOf s m args below meth c H locs 0 0 (MQ below (gQ D cA ad NL (some (.int rr)) XX A) args s 0 0 A) (F0 m 211 ls [.int s0]) := by
  have hx := C.1
  have hb := C.2.1
  intro p1 p2 p3 p4 p5 p6 p7 s0 X H locs ls hP hS hl ha_l0 hf
  rw [X10_lettersOf_J211] at hf
  refine lv_istore (i := 8) (lv' := [(8, .int s0), (0, .ref (ad 43 0)), (1, .int p1), (2, .int p2), (3, .int p3), (4, .int p4), (5, .int p5), (6, .int p6), (7, .int p7)]) hx hb dX10_lettersOf_211 hl (Nat.le_of_ble_eq_true rfl) rfl (fun ls hl => ?_)
  refine lv_iload_n hx hb dX10_lettersOf_213 rfl (lv_at hl 4 rfl) ?_
  refine lv_iload hx hb dX10_lettersOf_214 (lv_at hl 0 rfl) ?_
  refine lv_if_eq (tgt := 252) hx hb dX10_lettersOf_216 (by decide) (fun c1 => ?_) (fun c1 => ?_)
  · have hf := g_ip c1 hf
    exact s_X10_lettersOf_J252 C hW hD0 hkk hk308 p1 p2 p4 p5 p6 p7 p3 X _ _ _ hP hS (lv_sub hl [1, 2, 3, 5, 6, 7, 8] rfl) ha_l0 hf
  · have hf := g_in c1 hf
    refine lv_iload_n hx hb dX10_lettersOf_219 rfl (lv_at hl 2 rfl) ?_
    refine lv_iload hx hb dX10_lettersOf_220 (lv_at hl 5 rfl) ?_
    refine lv_iload hx hb dX10_lettersOf_222 (lv_at hl 8 rfl) ?_
    refine lv_iconst (v := 1) hx hb dX10_lettersOf_224 (by decide) ?_
    refine lv_isub hx hb dX10_lettersOf_225 ?_
    obtain ⟨r2, X3, h4, hf⟩ := b2_in hf
    refine r_cSi (rest := [.int p3]) C hP hS hl.1 (s_X10_in hW hD0  h4) ix_X10_in is_X10_in ls_X10_129 ⟨rfl, rfl, Nat.le_of_ble_eq_true rfl, Nat.le_of_ble_eq_true rfl⟩ rfl rfl (Nat.le_of_ble_eq_true rfl) ⟨Nat.zero_le _, Nat.zero_le _⟩ dX10_lettersOf_226 (fun H locs hP hS => ?_)
    refine lv_if_eq (tgt := 252) hx hb dX10_lettersOf_229 (by decide) (fun c5 => ?_) (fun c5 => ?_)
    · have hf := g_ip c5 hf
      exact s_X10_lettersOf_J252 C hW hD0 hkk hk308 p1 p2 p4 p5 p6 p7 p3 X3 _ _ _ hP hS (lv_sub hl [1, 2, 3, 5, 6, 7, 8] rfl) ha_l0 hf
    · have hf := g_in c5 hf
      refine lv_iconst (v := 1) hx hb dX10_lettersOf_232 (by decide) ?_
      refine lv_aload_n hx hb dX10_lettersOf_233 rfl (lv_at hl 1 rfl) ?_
      refine r_get C hP ha_l0 (ct_43 _ _ _ _) fx_X10_58 (fg_43_19 _ _ _) dX10_lettersOf_234 ?_
      refine lv_bipush (v := 8) hx hb dX10_lettersOf_237 (by decide) ?_
      refine lv_iload hx hb dX10_lettersOf_239 (lv_at hl 6 rfl) ?_
      refine lv_imul hx hb dX10_lettersOf_241 ?_
      refine lv_iload_n hx hb dX10_lettersOf_242 rfl (lv_at hl 2 rfl) ?_
      refine lv_iadd hx hb dX10_lettersOf_243 ?_
      refine lv_iload hx hb dX10_lettersOf_244 (lv_at hl 5 rfl) ?_
      refine lv_isub hx hb dX10_lettersOf_246 ?_
      obtain ⟨j6, h7, hf⟩ := rd_in hf
      refine r_iald C hP (gs_43_19 hW ha_l0) (ct_60 _ _ _ _) h7 dX10_lettersOf_247 ?_
      refine lv_ishl hx hb dX10_lettersOf_248 ?_
      refine lv_goto (tgt := 253) hx hb dX10_lettersOf_249 (by decide) ?_
      exact s_X10_lettersOf_J253 C hW hD0 hkk hk308 p1 p2 p4 p5 p6 p7 p3 (((1 : Int32) <<< ((X3 60 0 j6) &&& (31 : Int32)))) X3 _ _ _ hP hS (lv_sub hl [1, 2, 3, 5, 6, 7, 8] rfl) ha_l0 hf

set_option maxRecDepth 100000 in
set_option maxHeartbeats 4000000 in
theorem s_X10_lettersOf_L109 {p : Program} {l : Launch} {e : Env} {s : State} {m : MethodId} {args : Array Value} {below : List Frame} {meth : Method} {c : Code} {D : va_G} {cA : Nat → ClassId} {ad : Nat → Nat → Nat} {NL : List (Nat × Nat)} {A : Nat → Prop} {rr : Int32} {XX : gM} {N : Nat} {k308 : Int32 → Int32 → Int32 → Int32 → gM → Option (Int32 × gM)} (C : gCx p c meth m s args cX10_lettersOf 9 (some .int) RX10 D cA ad NL A) (hW : gWf NL) (hD0 : gD (fun _ => True) ad NL) (hk308 : ∀ (p1 : Int32) (p2 : Int32) (p3 : Int32) (p4 : Int32) (Y : gM) (H : Heap) (locs : List Loc) (ls : Array Slot), gH D cA ad NL Y H → va_S A s.heap H locs → lv_has ls 9 [(0, .ref (ad 43 0)), (1, .int p1), (2, .int p2), (3, .int p3), (4, .int p4)] → (43, 0) ∈ NL → k308 p1 p2 p3 p4 Y = some (rr, XX) → W p l e rm_X10_lettersOf s m args below meth c H locs 0 0 (MQ below (gQ D cA ad NL (some (.int rr)) XX A) args s 0 0 A) (F0 m 308 ls [])) : ∀ (n : Nat) (p1 : Int32) (p2 : Int32) (p3 : Int32) (p4 : Int32) (p5 : Int32) (X : gM) (H : Heap) (locs : List Loc) (ls : Array Slot), gH D cA ad NL X H → va_S A s.heap H locs → lv_has ls 9 [(0, .ref (ad 43 0)), (1, .int p1), (2, .int p2), (3, .int p3), (4, .int p4), (5, .int p5)] → (43, 0) ∈ NL → X10_lettersOf_L109 (gal NL) N k308 n p1 p2 p3 p4 p5 X = some (rr, XX) → W p l e rm_X10_lettersOf s m args below meth c H locs 0 0 (MQ below (gQ D cA ad NL (some (.int rr)) XX A) args s 0 0 A) (F0 m 109 ls []) := by
  have hx := C.1
  have hb := C.2.1
  intro n
  induction n with
  | zero =>
    intro p1 p2 p3 p4 p5 X H locs ls hP hS hl ha_l0 hf
    rw [X10_lettersOf_L109] at hf
    cases hf
  | succ n ih =>
    intro p1 p2 p3 p4 p5 X H locs ls hP hS hl ha_l0 hf
    rw [X10_lettersOf_L109] at hf
    refine lv_iload hx hb dX10_lettersOf_109 (lv_at hl 5 rfl) ?_
    refine lv_aload_n hx hb dX10_lettersOf_111 rfl (lv_at hl 0 rfl) ?_
    refine r_get C hP ha_l0 (ct_43 _ _ _ _) fx_X10_163 (fg_43_17 _ _ _) dX10_lettersOf_112 ?_
    refine lv_icmp_ge (tgt := 308) hx hb dX10_lettersOf_115 (by decide) (fun c1 => ?_) (fun c1 => ?_)
    · have hf := g_ip c1 hf
      exact hk308 p1 p2 p3 p4 X _ _ _ hP hS (lv_sub hl [0, 1, 2, 3, 4] rfl) ha_l0 hf
    · have hf := g_in c1 hf
      refine lv_aload_n hx hb dX10_lettersOf_118 rfl (lv_at hl 0 rfl) ?_
      refine r_get C hP ha_l0 (ct_43 _ _ _ _) fx_X10_86 (fg_43_32 _ _ _) dX10_lettersOf_119 ?_
      refine lv_iload hx hb dX10_lettersOf_122 (lv_at hl 4 rfl) ?_
      obtain ⟨j2, h3, hf⟩ := rd_in hf
      refine r_iald C hP (gs_43_32 hW ha_l0) (ct_69 _ _ _ _) h3 dX10_lettersOf_124 ?_
      refine lv_iconst (v := -1) hx hb dX10_lettersOf_125 (by decide) ?_
      refine lv_icmp_eq (tgt := 308) hx hb dX10_lettersOf_126 (by decide) (fun c4 => ?_) (fun c4 => ?_)
      · have hf := g_ip c4 hf
        exact hk308 p1 p2 p3 p4 X _ _ _ hP hS (lv_sub hl [0, 1, 2, 3, 4] rfl) ha_l0 hf
      · have hf := g_in c4 hf
        refine lv_aload_n hx hb dX10_lettersOf_129 rfl (lv_at hl 0 rfl) ?_
        refine r_get C hP ha_l0 (ct_43 _ _ _ _) fx_X10_95 (fg_43_35 _ _ _) dX10_lettersOf_130 ?_
        refine lv_iload hx hb dX10_lettersOf_133 (lv_at hl 4 rfl) ?_
        obtain ⟨j5, h6, hf⟩ := rd_in hf
        refine r_zald C hP (gs_43_35 hW ha_l0) (ct_72 _ _ _ _) h6 dX10_lettersOf_135 ?_
        refine lv_if_ne (tgt := 308) hx hb dX10_lettersOf_136 (by decide) (fun c7 => ?_) (fun c7 => ?_)
        · have hf := g_in c7 hf
          exact hk308 p1 p2 p3 p4 X _ _ _ hP hS (lv_sub hl [0, 1, 2, 3, 4] rfl) ha_l0 hf
        · have hf := g_ip c7 hf
          refine lv_aload_n hx hb dX10_lettersOf_139 rfl (lv_at hl 0 rfl) ?_
          refine lv_iload hx hb dX10_lettersOf_140 (lv_at hl 5 rfl) ?_
          refine lv_iload hx hb dX10_lettersOf_142 (lv_at hl 4 rfl) ?_
          refine lv_iload_n hx hb dX10_lettersOf_144 rfl (lv_at hl 2 rfl) ?_
          obtain ⟨r8, X9, h10, hf⟩ := b2_in hf
          refine r_cVi (rest := []) C hP hS hl.1 (s_X10_weightAt hW hD0 ha_l0 h10) ix_X10_weightAt iv_X10_weightAt lk_X10_169 ⟨rfl, rfl, Nat.le_of_ble_eq_true rfl, Nat.le_of_ble_eq_true rfl⟩ ha_l0 (ct_43 _ _ _ _) rfl rfl rfl rfl (Nat.le_of_ble_eq_true rfl) ⟨Nat.zero_le _, Nat.zero_le _⟩ dX10_lettersOf_145 (fun H locs hP hS => ?_)
          refine lv_istore (i := 6) (lv' := [(6, .int r8), (0, .ref (ad 43 0)), (1, .int p1), (2, .int p2), (3, .int p3), (4, .int p4), (5, .int p5)]) hx hb dX10_lettersOf_148 hl (Nat.le_of_ble_eq_true rfl) rfl (fun ls hl => ?_)
          refine lv_iload hx hb dX10_lettersOf_150 (lv_at hl 5 rfl) ?_
          refine lv_aload_n hx hb dX10_lettersOf_152 rfl (lv_at hl 1 rfl) ?_
          refine r_get C hP ha_l0 (ct_43 _ _ _ _) fx_X10_55 (fg_43_18 _ _ _) dX10_lettersOf_153 ?_
          refine lv_iload hx hb dX10_lettersOf_156 (lv_at hl 6 rfl) ?_
          obtain ⟨j11, h12, hf⟩ := rd_in hf
          refine r_iald C hP (gs_43_18 hW ha_l0) (ct_59 _ _ _ _) h12 dX10_lettersOf_158 ?_
          refine lv_iadd hx hb dX10_lettersOf_159 ?_
          refine g_top hf (fun v13 e14 hf => ?_)
          refine lv_istore (i := 7) (lv' := [(7, .int v13), (6, .int r8), (0, .ref (ad 43 0)), (1, .int p1), (2, .int p2), (3, .int p3), (4, .int p4), (5, .int p5)]) hx hb dX10_lettersOf_160 hl (Nat.le_of_ble_eq_true rfl) rfl (fun ls hl => ?_)
          refine lv_iload hx hb dX10_lettersOf_162 (lv_at hl 1 rfl) ?_
          refine lv_iconst (v := -1) hx hb dX10_lettersOf_164 (by decide) ?_
          refine lv_icmp_eq (tgt := 302) hx hb dX10_lettersOf_165 (by decide) (fun c15 => ?_) (fun c15 => ?_)
          · have hf := g_ip c15 hf
            exact s_X10_lettersOf_J302 C hW hD0 ih hk308 p1 p2 p3 p4 p5 X9 _ _ _ hP hS (lv_sub hl [2, 3, 4, 5, 6, 7] rfl) ha_l0 hf
          · have hf := g_in c15 hf
            refine lv_aload_n hx hb dX10_lettersOf_168 rfl (lv_at hl 2 rfl) ?_
            refine r_get C hP ha_l0 (ct_43 _ _ _ _) fx_X10_83 (fg_43_31 _ _ _) dX10_lettersOf_169 ?_
            refine lv_iload hx hb dX10_lettersOf_172 (lv_at hl 0 rfl) ?_
            obtain ⟨j16, h17, hf⟩ := rd_in hf
            refine r_iald C hP (gs_43_31 hW ha_l0) (ct_68 _ _ _ _) h17 dX10_lettersOf_174 ?_
            refine lv_iconst (v := -1) hx hb dX10_lettersOf_175 (by decide) ?_
            refine lv_icmp_eq (tgt := 302) hx hb dX10_lettersOf_176 (by decide) (fun c18 => ?_) (fun c18 => ?_)
            · have hf := g_ip c18 hf
              exact s_X10_lettersOf_J302 C hW hD0 ih hk308 p1 p2 p3 p4 p5 X9 _ _ _ hP hS (lv_sub hl [2, 3, 4, 5, 6, 7] rfl) ha_l0 hf
            · have hf := g_in c18 hf
              refine lv_aload_n hx hb dX10_lettersOf_179 rfl (lv_at hl 2 rfl) ?_
              refine r_get C hP ha_l0 (ct_43 _ _ _ _) fx_X10_86 (fg_43_32 _ _ _) dX10_lettersOf_180 ?_
              refine lv_iload hx hb dX10_lettersOf_183 (lv_at hl 6 rfl) ?_
              obtain ⟨j19, h20, hf⟩ := rd_in hf
              refine r_iald C hP (gs_43_32 hW ha_l0) (ct_69 _ _ _ _) h20 dX10_lettersOf_185 ?_
              refine lv_iload hx hb dX10_lettersOf_186 (lv_at hl 1 rfl) ?_
              refine lv_iadd hx hb dX10_lettersOf_188 ?_
              refine lv_aload_n hx hb dX10_lettersOf_189 rfl (lv_at hl 2 rfl) ?_
              refine r_get C hP ha_l0 (ct_43 _ _ _ _) fx_X10_83 (fg_43_31 _ _ _) dX10_lettersOf_190 ?_
              refine lv_iload hx hb dX10_lettersOf_193 (lv_at hl 0 rfl) ?_
              obtain ⟨j21, h22, hf⟩ := rd_in hf
              refine r_iald C hP (gs_43_31 hW ha_l0) (ct_68 _ _ _ _) h22 dX10_lettersOf_195 ?_
              refine lv_iadd hx hb dX10_lettersOf_196 ?_
              refine lv_aload_n hx hb dX10_lettersOf_197 rfl (lv_at hl 2 rfl) ?_
              refine r_get C hP ha_l0 (ct_43 _ _ _ _) fx_X10_83 (fg_43_31 _ _ _) dX10_lettersOf_198 ?_
              refine lv_iconst (v := 0) hx hb dX10_lettersOf_201 (by decide) ?_
              obtain ⟨j23, h24, hf⟩ := rd_in hf
              refine r_iald C hP (gs_43_31 hW ha_l0) (ct_68 _ _ _ _) h24 dX10_lettersOf_202 ?_
              refine lv_icmp_ne (tgt := 210) hx hb dX10_lettersOf_203 (by decide) (fun c25 => ?_) (fun c25 => ?_)
              · have hf := g_in c25 hf
                refine lv_iconst (v := 0) hx hb dX10_lettersOf_210 (by decide) ?_
                exact s_X10_lettersOf_J211 C hW hD0 ih hk308 p1 p2 p3 p4 p5 r8 v13 (0 : Int32) X9 _ _ _ hP hS (lv_sub hl [2, 3, 4, 5, 6, 7, 1, 0] rfl) ha_l0 hf
              · have hf := g_ip c25 hf
                refine lv_iconst (v := 1) hx hb dX10_lettersOf_206 (by decide) ?_
                refine lv_goto (tgt := 211) hx hb dX10_lettersOf_207 (by decide) ?_
                exact s_X10_lettersOf_J211 C hW hD0 ih hk308 p1 p2 p3 p4 p5 r8 v13 (1 : Int32) X9 _ _ _ hP hS (lv_sub hl [2, 3, 4, 5, 6, 7, 1, 0] rfl) ha_l0 hf

set_option maxRecDepth 100000 in
set_option maxHeartbeats 4000000 in
theorem s_X10_lettersOf_J106 {p : Program} {l : Launch} {e : Env} {s : State} {m : MethodId} {args : Array Value} {below : List Frame} {meth : Method} {c : Code} {D : va_G} {cA : Nat → ClassId} {ad : Nat → Nat → Nat} {NL : List (Nat × Nat)} {A : Nat → Prop} {rr : Int32} {XX : gM} {N : Nat} {kk : Int32 → Int32 → Int32 → Int32 → gM → Option (Int32 × gM)} {k314 : Int32 → gM → Option (Int32 × gM)} (C : gCx p c meth m s args cX10_lettersOf 9 (some .int) RX10 D cA ad NL A) (hW : gWf NL) (hD0 : gD (fun _ => True) ad NL) (hkk : ∀ (p1 : Int32) (p2 : Int32) (p3 : Int32) (p4 : Int32) (Y : gM) (H : Heap) (locs : List Loc) (ls : Array Slot), gH D cA ad NL Y H → va_S A s.heap H locs → lv_has ls 9 [(0, .ref (ad 43 0)), (1, .int p1), (2, .int p2), (3, .int p3), (4, .int p4)] → (43, 0) ∈ NL → kk p1 p2 p3 p4 Y = some (rr, XX) → W p l e rm_X10_lettersOf s m args below meth c H locs 0 0 (MQ below (gQ D cA ad NL (some (.int rr)) XX A) args s 0 0 A) (F0 m 32 ls [])) (hk314 : ∀ (p3 : Int32) (Y : gM) (H : Heap) (locs : List Loc) (ls : Array Slot), gH D cA ad NL Y H → va_S A s.heap H locs → lv_has ls 9 [(3, .int p3)] → k314 p3 Y = some (rr, XX) → W p l e rm_X10_lettersOf s m args below meth c H locs 0 0 (MQ below (gQ D cA ad NL (some (.int rr)) XX A) args s 0 0 A) (F0 m 314 ls [])) : ∀ (p1 : Int32) (p2 : Int32) (p3 : Int32) (p4 : Int32) (X : gM) (H : Heap) (locs : List Loc) (ls : Array Slot), gH D cA ad NL X H → va_S A s.heap H locs → lv_has ls 9 [(0, .ref (ad 43 0)), (1, .int p1), (2, .int p2), (3, .int p3), (4, .int p4)] → (43, 0) ∈ NL → X10_lettersOf_J106 (gal NL) N kk k314 p1 p2 p3 p4 X = some (rr, XX) → W p l e rm_X10_lettersOf s m args below meth c H locs 0 0 (MQ below (gQ D cA ad NL (some (.int rr)) XX A) args s 0 0 A) (F0 m 106 ls []) := by
  have hx := C.1
  have hb := C.2.1
  intro p1 p2 p3 p4 X H locs ls hP hS hl ha_l0 hf
  rw [X10_lettersOf_J106] at hf
  refine lv_iconst (v := 0) hx hb dX10_lettersOf_106 (by decide) ?_
  refine lv_istore (i := 5) (lv' := [(5, .int (0 : Int32)), (0, .ref (ad 43 0)), (1, .int p1), (2, .int p2), (3, .int p3), (4, .int p4)]) hx hb dX10_lettersOf_107 hl (Nat.le_of_ble_eq_true rfl) rfl (fun ls hl => ?_)
  exact s_X10_lettersOf_L109 C hW hD0 (fun p1 p2 p3 p4 Y H locs ls hP hS hl ha_l0 hf => s_X10_lettersOf_J308 C hW hD0 hkk hk314 p1 p2 p3 p4 Y _ _ _ hP hS hl ha_l0 hf) N p1 p2 p3 p4 (0 : Int32) X _ _ _ hP hS (lv_sub hl [1, 2, 3, 4, 5, 0] rfl) ha_l0 hf

set_option maxRecDepth 100000 in
set_option maxHeartbeats 4000000 in
theorem s_X10_lettersOf_J105 {p : Program} {l : Launch} {e : Env} {s : State} {m : MethodId} {args : Array Value} {below : List Frame} {meth : Method} {c : Code} {D : va_G} {cA : Nat → ClassId} {ad : Nat → Nat → Nat} {NL : List (Nat × Nat)} {A : Nat → Prop} {rr : Int32} {XX : gM} {N : Nat} {kk : Int32 → Int32 → Int32 → Int32 → gM → Option (Int32 × gM)} {k314 : Int32 → gM → Option (Int32 × gM)} (C : gCx p c meth m s args cX10_lettersOf 9 (some .int) RX10 D cA ad NL A) (hW : gWf NL) (hD0 : gD (fun _ => True) ad NL) (hkk : ∀ (p1 : Int32) (p2 : Int32) (p3 : Int32) (p4 : Int32) (Y : gM) (H : Heap) (locs : List Loc) (ls : Array Slot), gH D cA ad NL Y H → va_S A s.heap H locs → lv_has ls 9 [(0, .ref (ad 43 0)), (1, .int p1), (2, .int p2), (3, .int p3), (4, .int p4)] → (43, 0) ∈ NL → kk p1 p2 p3 p4 Y = some (rr, XX) → W p l e rm_X10_lettersOf s m args below meth c H locs 0 0 (MQ below (gQ D cA ad NL (some (.int rr)) XX A) args s 0 0 A) (F0 m 32 ls [])) (hk314 : ∀ (p3 : Int32) (Y : gM) (H : Heap) (locs : List Loc) (ls : Array Slot), gH D cA ad NL Y H → va_S A s.heap H locs → lv_has ls 9 [(3, .int p3)] → k314 p3 Y = some (rr, XX) → W p l e rm_X10_lettersOf s m args below meth c H locs 0 0 (MQ below (gQ D cA ad NL (some (.int rr)) XX A) args s 0 0 A) (F0 m 314 ls [])) : ∀ (p1 : Int32) (p2 : Int32) (p3 : Int32) (p4 : Int32) (s1 : Int32) (s2 : Int32) (X : gM) (H : Heap) (locs : List Loc) (ls : Array Slot), gH D cA ad NL X H → va_S A s.heap H locs → lv_has ls 9 [(0, .ref (ad 43 0)), (1, .int p1), (2, .int p2), (3, .int p3), (4, .int p4)] → (43, 0) ∈ NL → (69, 0) ∈ NL → X10_lettersOf_J105 (gal NL) N kk k314 p1 p2 p3 p4 s1 s2 X = some (rr, XX) → W p l e rm_X10_lettersOf s m args below meth c H locs 0 0 (MQ below (gQ D cA ad NL (some (.int rr)) XX A) args s 0 0 A) (F0 m 105 ls [.int s2, .int s1, .ref (ad 69 0)]) := by
  have hx := C.1
  have hb := C.2.1
  intro p1 p2 p3 p4 s1 s2 X H locs ls hP hS hl ha_l0 ha_s0 hf
  rw [X10_lettersOf_J105] at hf
  obtain ⟨j1, h2, hf⟩ := rd_in hf
  refine r_iast C hP hS ha_s0 (fun _ => ct_69 _ _ _ _) h2 dX10_lettersOf_105 (fun H locs hP hS => ?_)
  obtain ⟨X3, e4, hf⟩ := gl_in hf
  rw [← e4] at hP
  exact s_X10_lettersOf_J106 C hW hD0 hkk hk314 p1 p2 p3 p4 X3 _ _ _ hP hS (lv_sub hl [0, 1, 2, 3, 4] rfl) ha_l0 hf

set_option maxRecDepth 100000 in
set_option maxHeartbeats 4000000 in
theorem s_X10_lettersOf_L32 {p : Program} {l : Launch} {e : Env} {s : State} {m : MethodId} {args : Array Value} {below : List Frame} {meth : Method} {c : Code} {D : va_G} {cA : Nat → ClassId} {ad : Nat → Nat → Nat} {NL : List (Nat × Nat)} {A : Nat → Prop} {rr : Int32} {XX : gM} {N : Nat} {k314 : Int32 → gM → Option (Int32 × gM)} (C : gCx p c meth m s args cX10_lettersOf 9 (some .int) RX10 D cA ad NL A) (hW : gWf NL) (hD0 : gD (fun _ => True) ad NL) (hk314 : ∀ (p3 : Int32) (Y : gM) (H : Heap) (locs : List Loc) (ls : Array Slot), gH D cA ad NL Y H → va_S A s.heap H locs → lv_has ls 9 [(3, .int p3)] → k314 p3 Y = some (rr, XX) → W p l e rm_X10_lettersOf s m args below meth c H locs 0 0 (MQ below (gQ D cA ad NL (some (.int rr)) XX A) args s 0 0 A) (F0 m 314 ls [])) : ∀ (n : Nat) (p1 : Int32) (p2 : Int32) (p3 : Int32) (p4 : Int32) (X : gM) (H : Heap) (locs : List Loc) (ls : Array Slot), gH D cA ad NL X H → va_S A s.heap H locs → lv_has ls 9 [(0, .ref (ad 43 0)), (1, .int p1), (2, .int p2), (3, .int p3), (4, .int p4)] → (43, 0) ∈ NL → X10_lettersOf_L32 (gal NL) N k314 n p1 p2 p3 p4 X = some (rr, XX) → W p l e rm_X10_lettersOf s m args below meth c H locs 0 0 (MQ below (gQ D cA ad NL (some (.int rr)) XX A) args s 0 0 A) (F0 m 32 ls []) := by
  have hx := C.1
  have hb := C.2.1
  intro n
  induction n with
  | zero =>
    intro p1 p2 p3 p4 X H locs ls hP hS hl ha_l0 hf
    rw [X10_lettersOf_L32] at hf
    cases hf
  | succ n ih =>
    intro p1 p2 p3 p4 X H locs ls hP hS hl ha_l0 hf
    rw [X10_lettersOf_L32] at hf
    refine lv_iload hx hb dX10_lettersOf_32 (lv_at hl 4 rfl) ?_
    refine lv_iload_n hx hb dX10_lettersOf_34 rfl (lv_at hl 2 rfl) ?_
    refine lv_icmp_ge (tgt := 314) hx hb dX10_lettersOf_35 (by decide) (fun c1 => ?_) (fun c1 => ?_)
    · have hf := g_ip c1 hf
      exact hk314 p3 X _ _ _ hP hS (lv_sub hl [3] rfl) hf
    · have hf := g_in c1 hf
      refine lv_aload_n hx hb dX10_lettersOf_38 rfl (lv_at hl 0 rfl) ?_
      refine r_get C hP ha_l0 (ct_43 _ _ _ _) fx_X10_86 (fg_43_32 _ _ _) dX10_lettersOf_39 ?_
      refine lv_iload hx hb dX10_lettersOf_42 (lv_at hl 4 rfl) ?_
      obtain ⟨j2, h3, hf⟩ := rd_in hf
      refine r_iald C hP (gs_43_32 hW ha_l0) (ct_69 _ _ _ _) h3 dX10_lettersOf_44 ?_
      refine lv_iconst (v := -1) hx hb dX10_lettersOf_45 (by decide) ?_
      refine lv_icmp_eq (tgt := 106) hx hb dX10_lettersOf_46 (by decide) (fun c4 => ?_) (fun c4 => ?_)
      · have hf := g_ip c4 hf
        exact s_X10_lettersOf_J106 C hW hD0 ih hk314 p1 p2 p3 p4 X _ _ _ hP hS (lv_sub hl [0, 1, 2, 3, 4] rfl) ha_l0 hf
      · have hf := g_in c4 hf
        refine lv_aload_n hx hb dX10_lettersOf_49 rfl (lv_at hl 0 rfl) ?_
        refine r_get C hP ha_l0 (ct_43 _ _ _ _) fx_X10_95 (fg_43_35 _ _ _) dX10_lettersOf_50 ?_
        refine lv_iload hx hb dX10_lettersOf_53 (lv_at hl 4 rfl) ?_
        obtain ⟨j5, h6, hf⟩ := rd_in hf
        refine r_zald C hP (gs_43_35 hW ha_l0) (ct_72 _ _ _ _) h6 dX10_lettersOf_55 ?_
        refine lv_if_eq (tgt := 106) hx hb dX10_lettersOf_56 (by decide) (fun c7 => ?_) (fun c7 => ?_)
        · have hf := g_ip c7 hf
          exact s_X10_lettersOf_J106 C hW hD0 ih hk314 p1 p2 p3 p4 X _ _ _ hP hS (lv_sub hl [0, 1, 2, 3, 4] rfl) ha_l0 hf
        · have hf := g_in c7 hf
          refine lv_aload_n hx hb dX10_lettersOf_59 rfl (lv_at hl 0 rfl) ?_
          refine r_get C hP ha_l0 (ct_43 _ _ _ _) fx_X10_86 (fg_43_32 _ _ _) dX10_lettersOf_60 ?_
          refine lv_iload hx hb dX10_lettersOf_63 (lv_at hl 4 rfl) ?_
          refine lv_iconst (v := 1) hx hb dX10_lettersOf_65 (by decide) ?_
          refine lv_iadd hx hb dX10_lettersOf_66 ?_
          refine lv_aload_n hx hb dX10_lettersOf_67 rfl (lv_at hl 0 rfl) ?_
          refine r_get C hP ha_l0 (ct_43 _ _ _ _) fx_X10_86 (fg_43_32 _ _ _) dX10_lettersOf_68 ?_
          refine lv_iload hx hb dX10_lettersOf_71 (lv_at hl 4 rfl) ?_
          obtain ⟨j8, h9, hf⟩ := rd_in hf
          refine r_iald C hP (gs_43_32 hW ha_l0) (ct_69 _ _ _ _) h9 dX10_lettersOf_73 ?_
          refine lv_aload_n hx hb dX10_lettersOf_74 rfl (lv_at hl 0 rfl) ?_
          refine r_get C hP ha_l0 (ct_43 _ _ _ _) fx_X10_86 (fg_43_32 _ _ _) dX10_lettersOf_75 ?_
          refine lv_iload hx hb dX10_lettersOf_78 (lv_at hl 4 rfl) ?_
          refine lv_iconst (v := 1) hx hb dX10_lettersOf_80 (by decide) ?_
          refine lv_iadd hx hb dX10_lettersOf_81 ?_
          obtain ⟨j10, h11, hf⟩ := rd_in hf
          refine r_iald C hP (gs_43_32 hW ha_l0) (ct_69 _ _ _ _) h11 dX10_lettersOf_82 ?_
          refine lv_icmp_le (tgt := 96) hx hb dX10_lettersOf_83 (by decide) (fun c12 => ?_) (fun c12 => ?_)
          · have hf := g_ip c12 hf
            refine lv_aload_n hx hb dX10_lettersOf_96 rfl (lv_at hl 0 rfl) ?_
            refine r_get C hP ha_l0 (ct_43 _ _ _ _) fx_X10_86 (fg_43_32 _ _ _) dX10_lettersOf_97 ?_
            refine lv_iload hx hb dX10_lettersOf_100 (lv_at hl 4 rfl) ?_
            refine lv_iconst (v := 1) hx hb dX10_lettersOf_102 (by decide) ?_
            refine lv_iadd hx hb dX10_lettersOf_103 ?_
            obtain ⟨j13, h14, hf⟩ := rd_in hf
            refine r_iald C hP (gs_43_32 hW ha_l0) (ct_69 _ _ _ _) h14 dX10_lettersOf_104 ?_
            exact s_X10_lettersOf_J105 C hW hD0 ih hk314 p1 p2 p3 p4 ((p4 + (1 : Int32))) ((X 69 0 j13)) X _ _ _ hP hS (lv_sub hl [0, 1, 2, 3, 4] rfl) ha_l0 (gs_43_32 hW ha_l0) hf
          · have hf := g_in c12 hf
            refine lv_aload_n hx hb dX10_lettersOf_86 rfl (lv_at hl 0 rfl) ?_
            refine r_get C hP ha_l0 (ct_43 _ _ _ _) fx_X10_86 (fg_43_32 _ _ _) dX10_lettersOf_87 ?_
            refine lv_iload hx hb dX10_lettersOf_90 (lv_at hl 4 rfl) ?_
            obtain ⟨j15, h16, hf⟩ := rd_in hf
            refine r_iald C hP (gs_43_32 hW ha_l0) (ct_69 _ _ _ _) h16 dX10_lettersOf_92 ?_
            refine lv_goto (tgt := 105) hx hb dX10_lettersOf_93 (by decide) ?_
            exact s_X10_lettersOf_J105 C hW hD0 ih hk314 p1 p2 p3 p4 ((p4 + (1 : Int32))) ((X 69 0 j15)) X _ _ _ hP hS (lv_sub hl [0, 1, 2, 3, 4] rfl) ha_l0 (gs_43_32 hW ha_l0) hf

set_option maxRecDepth 100000 in
set_option maxHeartbeats 4000000 in
theorem s_X10_lettersOf_J20 {p : Program} {l : Launch} {e : Env} {s : State} {m : MethodId} {args : Array Value} {below : List Frame} {meth : Method} {c : Code} {D : va_G} {cA : Nat → ClassId} {ad : Nat → Nat → Nat} {NL : List (Nat × Nat)} {A : Nat → Prop} {rr : Int32} {XX : gM} {N : Nat} (C : gCx p c meth m s args cX10_lettersOf 9 (some .int) RX10 D cA ad NL A) (hW : gWf NL) (hD0 : gD (fun _ => True) ad NL) : ∀ (p1 : Int32) (p2 : Int32) (X : gM) (H : Heap) (locs : List Loc) (ls : Array Slot), gH D cA ad NL X H → va_S A s.heap H locs → lv_has ls 9 [(0, .ref (ad 43 0)), (1, .int p1), (2, .int p2)] → (43, 0) ∈ NL → X10_lettersOf_J20 (gal NL) N p1 p2 X = some (rr, XX) → W p l e rm_X10_lettersOf s m args below meth c H locs 0 0 (MQ below (gQ D cA ad NL (some (.int rr)) XX A) args s 0 0 A) (F0 m 20 ls []) := by
  have hx := C.1
  have hb := C.2.1
  intro p1 p2 X H locs ls hP hS hl ha_l0 hf
  rw [X10_lettersOf_J20] at hf
  refine lv_aload_n hx hb dX10_lettersOf_20 rfl (lv_at hl 0 rfl) ?_
  refine r_get C hP ha_l0 (ct_43 _ _ _ _) fx_X10_86 (fg_43_32 _ _ _) dX10_lettersOf_21 ?_
  refine lv_iconst (v := 0) hx hb dX10_lettersOf_24 (by decide) ?_
  refine lv_iconst (v := 0) hx hb dX10_lettersOf_25 (by decide) ?_
  obtain ⟨j1, h2, hf⟩ := rd_in hf
  refine r_iast C hP hS (gs_43_32 hW ha_l0) (fun _ => ct_69 _ _ _ _) h2 dX10_lettersOf_26 (fun H locs hP hS => ?_)
  obtain ⟨X3, e4, hf⟩ := gl_in hf
  rw [← e4] at hP
  refine lv_iconst (v := 0) hx hb dX10_lettersOf_27 (by decide) ?_
  refine lv_istore_n (i := 3) (lv' := [(3, .int (0 : Int32)), (0, .ref (ad 43 0)), (1, .int p1), (2, .int p2)]) hx hb dX10_lettersOf_28 rfl hl (Nat.le_of_ble_eq_true rfl) rfl (fun ls hl => ?_)
  refine lv_iconst (v := 0) hx hb dX10_lettersOf_29 (by decide) ?_
  refine lv_istore (i := 4) (lv' := [(4, .int (0 : Int32)), (3, .int (0 : Int32)), (0, .ref (ad 43 0)), (1, .int p1), (2, .int p2)]) hx hb dX10_lettersOf_30 hl (Nat.le_of_ble_eq_true rfl) rfl (fun ls hl => ?_)
  exact s_X10_lettersOf_L32 C hW hD0 (fun p3 Y H locs ls hP hS hl hf => s_X10_lettersOf_J314 C hW hD0 p3 Y _ _ _ hP hS hl hf) N p1 p2 (0 : Int32) (0 : Int32) X3 _ _ _ hP hS (lv_sub hl [2, 3, 4, 1, 0] rfl) ha_l0 hf

set_option maxRecDepth 100000 in
set_option maxHeartbeats 4000000 in
theorem s_X10_lettersOf_L2 {p : Program} {l : Launch} {e : Env} {s : State} {m : MethodId} {args : Array Value} {below : List Frame} {meth : Method} {c : Code} {D : va_G} {cA : Nat → ClassId} {ad : Nat → Nat → Nat} {NL : List (Nat × Nat)} {A : Nat → Prop} {rr : Int32} {XX : gM} {N : Nat} {k20 : Int32 → Int32 → gM → Option (Int32 × gM)} (C : gCx p c meth m s args cX10_lettersOf 9 (some .int) RX10 D cA ad NL A) (hW : gWf NL) (hD0 : gD (fun _ => True) ad NL) (hk20 : ∀ (p1 : Int32) (p2 : Int32) (Y : gM) (H : Heap) (locs : List Loc) (ls : Array Slot), gH D cA ad NL Y H → va_S A s.heap H locs → lv_has ls 9 [(0, .ref (ad 43 0)), (1, .int p1), (2, .int p2)] → (43, 0) ∈ NL → k20 p1 p2 Y = some (rr, XX) → W p l e rm_X10_lettersOf s m args below meth c H locs 0 0 (MQ below (gQ D cA ad NL (some (.int rr)) XX A) args s 0 0 A) (F0 m 20 ls [])) : ∀ (n : Nat) (p1 : Int32) (p2 : Int32) (p3 : Int32) (X : gM) (H : Heap) (locs : List Loc) (ls : Array Slot), gH D cA ad NL X H → va_S A s.heap H locs → lv_has ls 9 [(0, .ref (ad 43 0)), (1, .int p1), (2, .int p2), (3, .int p3)] → (43, 0) ∈ NL → X10_lettersOf_L2 (gal NL) N k20 n p1 p2 p3 X = some (rr, XX) → W p l e rm_X10_lettersOf s m args below meth c H locs 0 0 (MQ below (gQ D cA ad NL (some (.int rr)) XX A) args s 0 0 A) (F0 m 2 ls []) := by
  have hx := C.1
  have hb := C.2.1
  intro n
  induction n with
  | zero =>
    intro p1 p2 p3 X H locs ls hP hS hl ha_l0 hf
    rw [X10_lettersOf_L2] at hf
    cases hf
  | succ n ih =>
    intro p1 p2 p3 X H locs ls hP hS hl ha_l0 hf
    rw [X10_lettersOf_L2] at hf
    refine lv_iload_n hx hb dX10_lettersOf_2 rfl (lv_at hl 3 rfl) ?_
    refine lv_iload_n hx hb dX10_lettersOf_3 rfl (lv_at hl 2 rfl) ?_
    refine lv_icmp_gt (tgt := 20) hx hb dX10_lettersOf_4 (by decide) (fun c1 => ?_) (fun c1 => ?_)
    · have hf := g_ip c1 hf
      exact hk20 p1 p2 X _ _ _ hP hS (lv_sub hl [0, 1, 2] rfl) ha_l0 hf
    · have hf := g_in c1 hf
      refine lv_aload_n hx hb dX10_lettersOf_7 rfl (lv_at hl 0 rfl) ?_
      refine r_get C hP ha_l0 (ct_43 _ _ _ _) fx_X10_86 (fg_43_32 _ _ _) dX10_lettersOf_8 ?_
      refine lv_iload_n hx hb dX10_lettersOf_11 rfl (lv_at hl 3 rfl) ?_
      refine lv_iconst (v := -1) hx hb dX10_lettersOf_12 (by decide) ?_
      obtain ⟨j2, h3, hf⟩ := rd_in hf
      refine r_iast C hP hS (gs_43_32 hW ha_l0) (fun _ => ct_69 _ _ _ _) h3 dX10_lettersOf_13 (fun H locs hP hS => ?_)
      obtain ⟨X4, e5, hf⟩ := gl_in hf
      rw [← e5] at hP
      obtain ⟨v6, e7, hf⟩ := gl_in hf
      refine lv_iinc (v := v6) (lv' := [(3, .int v6), (0, .ref (ad 43 0)), (1, .int p1), (2, .int p2)]) hx hb dX10_lettersOf_14 hl (k := 3) rfl (by rw [e7]; rfl) (Nat.le_of_ble_eq_true rfl) rfl (fun ls hl => ?_)
      refine lv_goto (tgt := 2) hx hb dX10_lettersOf_17 (by decide) ?_
      exact ih p1 p2 v6 X4 _ _ _ hP hS (lv_sub hl [1, 2, 3, 0] rfl) ha_l0 hf

set_option maxRecDepth 100000 in
set_option maxHeartbeats 4000000 in
theorem w_X10_lettersOf {p : Program} {l : Launch} {e : Env} {s : State} {m : MethodId} {args : Array Value} {below : List Frame} {meth : Method} {c : Code} {D : va_G} {cA : Nat → ClassId} {ad : Nat → Nat → Nat} {NL : List (Nat × Nat)} {A : Nat → Prop} {rr : Int32} {XX : gM} {N : Nat} (C : gCx p c meth m s args cX10_lettersOf 9 (some .int) RX10 D cA ad NL A) (hW : gWf NL) (hD0 : gD (fun _ => True) ad NL) {p1 : Int32} {p2 : Int32} (ha_l0 : (43, 0) ∈ NL) : ∀ (X : gM) (H : Heap) (locs : List Loc) (ls : Array Slot), gH D cA ad NL X H → va_S A s.heap H locs → lv_has ls 9 [(0, .ref (ad 43 0)), (1, .int p1), (2, .int p2)] → X10_lettersOf (gal NL) N p1 p2 X = some (rr, XX) → W p l e rm_X10_lettersOf s m args below meth c H locs 0 0 (MQ below (gQ D cA ad NL (some (.int rr)) XX A) args s 0 0 A) (F0 m 0 ls []) := by
  have hx := C.1
  have hb := C.2.1
  intro X H locs ls hP hS hl hf
  rw [X10_lettersOf] at hf
  refine lv_iconst (v := 0) hx hb dX10_lettersOf_0 (by decide) ?_
  refine lv_istore_n (i := 3) (lv' := [(3, .int (0 : Int32)), (0, .ref (ad 43 0)), (1, .int p1), (2, .int p2)]) hx hb dX10_lettersOf_1 rfl hl (Nat.le_of_ble_eq_true rfl) rfl (fun ls hl => ?_)
  exact s_X10_lettersOf_L2 C hW hD0 (fun p1 p2 Y H locs ls hP hS hl ha_l0 hf => s_X10_lettersOf_J20 C hW hD0 p1 p2 Y _ _ _ hP hS hl ha_l0 hf) N p1 p2 (0 : Int32) X _ _ _ hP hS (lv_sub hl [1, 2, 3, 0] rfl) ha_l0 hf

theorem s_X10_lettersOf {l : Launch} {D : va_G} {cA : Nat → ClassId} {ad : Nat → Nat → Nat} {NL : List (Nat × Nat)} {N : Nat} {p1 : Int32} {p2 : Int32} {X : gM} {rr : Int32} {XX : gM} (hW : gWf NL) (hD0 : gD (fun _ => True) ad NL) (ha_l0 : (43, 0) ∈ NL) (hf : X10_lettersOf (gal NL) N p1 p2 X = some (rr, XX)) : gC l yX10_lettersOf cX10_lettersOf 9 (some .int) rm_X10_lettersOf D cA ad NL [.ref (ad 43 0), .int p1, .int p2] X (some (.int rr)) XX :=
  g_ofW (by decide) hD0 (Nat.le_of_ble_eq_true rfl) rfl (fun p e s m below meth c ls C hP hS hl => w_X10_lettersOf C hW hD0 ha_l0 X _ _ ls hP hS hl hf)
def rm_X10_state : Room := { frames := 3, cells := 0, slots := 0, locals := 76 }
set_option maxRecDepth 100000 in
set_option maxHeartbeats 4000000 in
theorem s_X10_state_J127 {p : Program} {l : Launch} {e : Env} {s : State} {m : MethodId} {args : Array Value} {below : List Frame} {meth : Method} {c : Code} {D : va_G} {cA : Nat → ClassId} {ad : Nat → Nat → Nat} {NL : List (Nat × Nat)} {A : Nat → Prop} {rr : Int32} {XX : gM} {N : Nat} (C : gCx p c meth m s args cX10_state 6 (some .int) RX10 D cA ad NL A) (hW : gWf NL) (hD0 : gD (fun _ => True) ad NL) : ∀ (s0 : Int32) (X : gM) (H : Heap) (locs : List Loc) (ls : Array Slot), gH D cA ad NL X H → va_S A s.heap H locs → lv_has ls 6 [] → X10_state_J127 (gal NL) N s0 X = some (rr, XX) → W p l e rm_X10_state s m args below meth c H locs 0 0 (MQ below (gQ D cA ad NL (some (.int rr)) XX A) args s 0 0 A) (F0 m 127 ls [.int s0]) := by
  have hx := C.1
  have hb := C.2.1
  intro s0 X H locs ls hP hS hl hf
  rw [X10_state_J127] at hf
  obtain ⟨rfl, rfl⟩ := g_s1 hf
  exact r_iret C hP hS dX10_state_127

set_option maxRecDepth 100000 in
set_option maxHeartbeats 4000000 in
theorem s_X10_state_J31 {p : Program} {l : Launch} {e : Env} {s : State} {m : MethodId} {args : Array Value} {below : List Frame} {meth : Method} {c : Code} {D : va_G} {cA : Nat → ClassId} {ad : Nat → Nat → Nat} {NL : List (Nat × Nat)} {A : Nat → Prop} {rr : Int32} {XX : gM} {N : Nat} (C : gCx p c meth m s args cX10_state 6 (some .int) RX10 D cA ad NL A) (hW : gWf NL) (hD0 : gD (fun _ => True) ad NL) : ∀ (p1 : Int32) (p2 : Int32) (p3 : Int32) (p4 : Int32) (s1 : Int32) (X : gM) (H : Heap) (locs : List Loc) (ls : Array Slot), gH D cA ad NL X H → va_S A s.heap H locs → lv_has ls 6 [(0, .ref (ad 43 0)), (1, .int p1), (2, .int p2), (3, .int p3), (4, .int p4)] → (43, 0) ∈ NL → (43, 0) ∈ NL → X10_state_J31 (gal NL) N p1 p2 p3 p4 s1 X = some (rr, XX) → W p l e rm_X10_state s m args below meth c H locs 0 0 (MQ below (gQ D cA ad NL (some (.int rr)) XX A) args s 0 0 A) (F0 m 31 ls [.int s1, .ref (ad 43 0)]) := by
  have hx := C.1
  have hb := C.2.1
  intro p1 p2 p3 p4 s1 X H locs ls hP hS hl ha_l0 ha_s0 hf
  rw [X10_state_J31] at hf
  refine r_put C hP hS s1 ha_s0 (ct_43 _ _ _ _) px_X10_122 (fp_43_46 _ _ _ _ _) (Nat.le_of_ble_eq_true rfl) rfl rfl dX10_state_31 (fun H locs hP hS => ?_)
  obtain ⟨X1, e2, hf⟩ := gl_in hf
  rw [← e2] at hP
  refine lv_aload_n hx hb dX10_state_34 rfl (lv_at hl 0 rfl) ?_
  refine r_get C hP ha_l0 (ct_43 _ _ _ _) fx_X10_122 (fg_43_46 _ _ _) dX10_state_35 ?_
  refine lv_if_le (tgt := 43) hx hb dX10_state_38 (by decide) (fun c3 => ?_) (fun c3 => ?_)
  · have hf := g_ip c3 hf
    refine lv_aload_n hx hb dX10_state_43 rfl (lv_at hl 0 rfl) ?_
    refine lv_iload_n hx hb dX10_state_44 rfl (lv_at hl 1 rfl) ?_
    refine lv_iload_n hx hb dX10_state_45 rfl (lv_at hl 2 rfl) ?_
    refine lv_iload hx hb dX10_state_46 (lv_at hl 4 rfl) ?_
    obtain ⟨r4, X5, h6, hf⟩ := b2_in hf
    refine r_cVv (rest := []) C hP hS hl.1 (s_X10_reads hW hD0 ha_l0 h6) ix_X10_reads iv_X10_reads lk_X10_179 ⟨rfl, rfl, Nat.le_of_ble_eq_true rfl, Nat.le_of_ble_eq_true rfl⟩ ha_l0 (ct_43 _ _ _ _) rfl rfl rfl rfl (Nat.le_of_ble_eq_true rfl) ⟨Nat.zero_le _, Nat.zero_le _⟩ dX10_state_48 (fun H locs hP hS => ?_)
    refine lv_aload_n hx hb dX10_state_51 rfl (lv_at hl 0 rfl) ?_
    refine r_get C hP ha_l0 (ct_43 _ _ _ _) fx_X10_83 (fg_43_31 _ _ _) dX10_state_52 ?_
    refine lv_iconst (v := 0) hx hb dX10_state_55 (by decide) ?_
    obtain ⟨j7, h8, hf⟩ := rd_in hf
    refine r_iald C hP (gs_43_31 hW ha_l0) (ct_68 _ _ _ _) h8 dX10_state_56 ?_
    refine lv_iconst (v := -1) hx hb dX10_state_57 (by decide) ?_
    refine lv_icmp_ne (tgt := 63) hx hb dX10_state_58 (by decide) (fun c9 => ?_) (fun c9 => ?_)
    · have hf := g_in c9 hf
      refine lv_aload_n hx hb dX10_state_63 rfl (lv_at hl 0 rfl) ?_
      refine r_get C hP ha_l0 (ct_43 _ _ _ _) fx_X10_95 (fg_43_35 _ _ _) dX10_state_64 ?_
      refine lv_iload_n hx hb dX10_state_67 rfl (lv_at hl 3 rfl) ?_
      obtain ⟨j10, h11, hf⟩ := rd_in hf
      refine r_zald C hP (gs_43_35 hW ha_l0) (ct_72 _ _ _ _) h11 dX10_state_68 ?_
      refine lv_if_eq (tgt := 74) hx hb dX10_state_69 (by decide) (fun c12 => ?_) (fun c12 => ?_)
      · have hf := g_ip c12 hf
        refine lv_aload_n hx hb dX10_state_74 rfl (lv_at hl 0 rfl) ?_
        refine lv_iload_n hx hb dX10_state_75 rfl (lv_at hl 3 rfl) ?_
        refine lv_aload_n hx hb dX10_state_76 rfl (lv_at hl 0 rfl) ?_
        refine r_get C hP ha_l0 (ct_43 _ _ _ _) fx_X10_16 (fg_43_3 _ _ _) dX10_state_77 ?_
        refine lv_iload_n hx hb dX10_state_80 rfl (lv_at hl 1 rfl) ?_
        obtain ⟨j13, h14, hf⟩ := rd_in hf
        refine r_iald C hP (gs_43_3 hW ha_l0) (ct_46 _ _ _ _) h14 dX10_state_81 ?_
        obtain ⟨r15, X16, h17, hf⟩ := b2_in hf
        refine r_cVi (rest := []) C hP hS hl.1 (s_X10_lettersOf hW hD0 ha_l0 h17) ix_X10_lettersOf iv_X10_lettersOf lk_X10_219 ⟨rfl, rfl, Nat.le_of_ble_eq_true rfl, Nat.le_of_ble_eq_true rfl⟩ ha_l0 (ct_43 _ _ _ _) rfl rfl rfl rfl (Nat.le_of_ble_eq_true rfl) ⟨Nat.zero_le _, Nat.zero_le _⟩ dX10_state_82 (fun H locs hP hS => ?_)
        refine lv_istore (i := 5) (lv' := [(5, .int r15), (0, .ref (ad 43 0)), (1, .int p1), (2, .int p2), (3, .int p3), (4, .int p4)]) hx hb dX10_state_85 hl (Nat.le_of_ble_eq_true rfl) rfl (fun ls hl => ?_)
        refine lv_iload hx hb dX10_state_87 (lv_at hl 0 rfl) ?_
        obtain ⟨r18, X19, h20, hf⟩ := b2_in hf
        refine r_cSi (rest := []) C hP hS hl.1 (s_X10_isOne hW hD0  h20) ix_X10_isOne is_X10_isOne ls_X10_222 ⟨rfl, rfl, Nat.le_of_ble_eq_true rfl, Nat.le_of_ble_eq_true rfl⟩ rfl rfl (Nat.le_of_ble_eq_true rfl) ⟨Nat.zero_le _, Nat.zero_le _⟩ dX10_state_89 (fun H locs hP hS => ?_)
        refine lv_if_ne (tgt := 99) hx hb dX10_state_92 (by decide) (fun c21 => ?_) (fun c21 => ?_)
        · have hf := g_in c21 hf
          refine lv_aload_n hx hb dX10_state_99 rfl (lv_at hl 1 rfl) ?_
          refine r_get C hP ha_l0 (ct_43 _ _ _ _) fx_X10_101 (fg_43_37 _ _ _) dX10_state_100 ?_
          refine lv_iload_n hx hb dX10_state_103 rfl (lv_at hl 4 rfl) ?_
          obtain ⟨j22, h23, hf⟩ := rd_in hf
          refine r_iald C hP (gs_43_37 hW ha_l0) (ct_74 _ _ _ _) h23 dX10_state_104 ?_
          refine lv_if_ne (tgt := 112) hx hb dX10_state_105 (by decide) (fun c24 => ?_) (fun c24 => ?_)
          · have hf := g_in c24 hf
            refine lv_aload_n hx hb dX10_state_112 rfl (lv_at hl 1 rfl) ?_
            refine r_get C hP ha_l0 (ct_43 _ _ _ _) fx_X10_101 (fg_43_37 _ _ _) dX10_state_113 ?_
            refine lv_iload_n hx hb dX10_state_116 rfl (lv_at hl 4 rfl) ?_
            obtain ⟨j25, h26, hf⟩ := rd_in hf
            refine r_iald C hP (gs_43_37 hW ha_l0) (ct_74 _ _ _ _) h26 dX10_state_117 ?_
            refine lv_iconst (v := 1) hx hb dX10_state_118 (by decide) ?_
            refine lv_icmp_ne (tgt := 126) hx hb dX10_state_119 (by decide) (fun c27 => ?_) (fun c27 => ?_)
            · have hf := g_in c27 hf
              refine lv_iconst (v := 3) hx hb dX10_state_126 (by decide) ?_
              exact s_X10_state_J127 C hW hD0 (3 : Int32) X19 _ _ _ hP hS (lv_sub hl [] rfl) hf
            · have hf := g_ip c27 hf
              refine lv_iconst (v := 2) hx hb dX10_state_122 (by decide) ?_
              refine lv_goto (tgt := 127) hx hb dX10_state_123 (by decide) ?_
              exact s_X10_state_J127 C hW hD0 (2 : Int32) X19 _ _ _ hP hS (lv_sub hl [] rfl) hf
          · have hf := g_ip c24 hf
            refine lv_iconst (v := 4) hx hb dX10_state_108 (by decide) ?_
            refine lv_goto (tgt := 127) hx hb dX10_state_109 (by decide) ?_
            exact s_X10_state_J127 C hW hD0 (4 : Int32) X19 _ _ _ hP hS (lv_sub hl [] rfl) hf
        · have hf := g_ip c21 hf
          refine lv_iconst (v := 5) hx hb dX10_state_95 (by decide) ?_
          refine lv_goto (tgt := 127) hx hb dX10_state_96 (by decide) ?_
          exact s_X10_state_J127 C hW hD0 (5 : Int32) X19 _ _ _ hP hS (lv_sub hl [] rfl) hf
      · have hf := g_in c12 hf
        refine lv_iconst (v := 1) hx hb dX10_state_72 (by decide) ?_
        obtain ⟨rfl, rfl⟩ := g_s1 hf
        exact r_iret C hP hS dX10_state_73
    · have hf := g_ip c9 hf
      refine lv_iconst (v := 0) hx hb dX10_state_61 (by decide) ?_
      obtain ⟨rfl, rfl⟩ := g_s1 hf
      exact r_iret C hP hS dX10_state_62
  · have hf := g_in c3 hf
    refine lv_iconst (v := 0) hx hb dX10_state_41 (by decide) ?_
    obtain ⟨rfl, rfl⟩ := g_s1 hf
    exact r_iret C hP hS dX10_state_42

set_option maxRecDepth 100000 in
set_option maxHeartbeats 4000000 in
theorem w_X10_state {p : Program} {l : Launch} {e : Env} {s : State} {m : MethodId} {args : Array Value} {below : List Frame} {meth : Method} {c : Code} {D : va_G} {cA : Nat → ClassId} {ad : Nat → Nat → Nat} {NL : List (Nat × Nat)} {A : Nat → Prop} {rr : Int32} {XX : gM} {N : Nat} (C : gCx p c meth m s args cX10_state 6 (some .int) RX10 D cA ad NL A) (hW : gWf NL) (hD0 : gD (fun _ => True) ad NL) {p1 : Int32} {p2 : Int32} {p3 : Int32} {p4 : Int32} (ha_l0 : (43, 0) ∈ NL) : ∀ (X : gM) (H : Heap) (locs : List Loc) (ls : Array Slot), gH D cA ad NL X H → va_S A s.heap H locs → lv_has ls 6 [(0, .ref (ad 43 0)), (1, .int p1), (2, .int p2), (3, .int p3), (4, .int p4)] → X10_state (gal NL) N p1 p2 p3 p4 X = some (rr, XX) → W p l e rm_X10_state s m args below meth c H locs 0 0 (MQ below (gQ D cA ad NL (some (.int rr)) XX A) args s 0 0 A) (F0 m 0 ls []) := by
  have hx := C.1
  have hb := C.2.1
  intro X H locs ls hP hS hl hf
  rw [X10_state] at hf
  refine lv_aload_n hx hb dX10_state_0 rfl (lv_at hl 0 rfl) ?_
  refine lv_aload_n hx hb dX10_state_1 rfl (lv_at hl 0 rfl) ?_
  refine lv_iload_n hx hb dX10_state_2 rfl (lv_at hl 1 rfl) ?_
  refine lv_iload_n hx hb dX10_state_3 rfl (lv_at hl 2 rfl) ?_
  refine lv_iload_n hx hb dX10_state_4 rfl (lv_at hl 3 rfl) ?_
  obtain ⟨r1, X2, h3, hf⟩ := b2_in hf
  refine r_cVi (rest := [.ref (ad 43 0)]) C hP hS hl.1 (s_X10_isCell hW hD0 ha_l0 h3) ix_X10_isCell iv_X10_isCell lk_X10_150 ⟨rfl, rfl, Nat.le_of_ble_eq_true rfl, Nat.le_of_ble_eq_true rfl⟩ ha_l0 (ct_43 _ _ _ _) rfl rfl rfl rfl (Nat.le_of_ble_eq_true rfl) ⟨Nat.zero_le _, Nat.zero_le _⟩ dX10_state_5 (fun H locs hP hS => ?_)
  refine lv_if_ne (tgt := 15) hx hb dX10_state_8 (by decide) (fun c4 => ?_) (fun c4 => ?_)
  · have hf := g_in c4 hf
    refine lv_iload hx hb dX10_state_15 (lv_at hl 4 rfl) ?_
    refine lv_iconst (v := 0) hx hb dX10_state_17 (by decide) ?_
    refine lv_bipush (v := 7) hx hb dX10_state_18 (by decide) ?_
    obtain ⟨r5, X6, h7, hf⟩ := b2_in hf
    refine r_cSi (rest := [.ref (ad 43 0)]) C hP hS hl.1 (s_X10_in hW hD0  h7) ix_X10_in is_X10_in ls_X10_129 ⟨rfl, rfl, Nat.le_of_ble_eq_true rfl, Nat.le_of_ble_eq_true rfl⟩ rfl rfl (Nat.le_of_ble_eq_true rfl) ⟨Nat.zero_le _, Nat.zero_le _⟩ dX10_state_20 (fun H locs hP hS => ?_)
    refine lv_if_ne (tgt := 30) hx hb dX10_state_23 (by decide) (fun c8 => ?_) (fun c8 => ?_)
    · have hf := g_in c8 hf
      refine lv_iconst (v := 0) hx hb dX10_state_30 (by decide) ?_
      exact s_X10_state_J31 C hW hD0 p1 p2 p3 p4 (0 : Int32) X6 _ _ _ hP hS (lv_sub hl [0, 1, 2, 3, 4] rfl) ha_l0 ha_l0 hf
    · have hf := g_ip c8 hf
      refine lv_iconst (v := 2) hx hb dX10_state_26 (by decide) ?_
      refine lv_goto (tgt := 31) hx hb dX10_state_27 (by decide) ?_
      exact s_X10_state_J31 C hW hD0 p1 p2 p3 p4 (2 : Int32) X6 _ _ _ hP hS (lv_sub hl [0, 1, 2, 3, 4] rfl) ha_l0 ha_l0 hf
  · have hf := g_ip c4 hf
    refine lv_iconst (v := 1) hx hb dX10_state_11 (by decide) ?_
    refine lv_goto (tgt := 31) hx hb dX10_state_12 (by decide) ?_
    exact s_X10_state_J31 C hW hD0 p1 p2 p3 p4 (1 : Int32) X2 _ _ _ hP hS (lv_sub hl [0, 1, 2, 3, 4] rfl) ha_l0 ha_l0 hf

theorem s_X10_state {l : Launch} {D : va_G} {cA : Nat → ClassId} {ad : Nat → Nat → Nat} {NL : List (Nat × Nat)} {N : Nat} {p1 : Int32} {p2 : Int32} {p3 : Int32} {p4 : Int32} {X : gM} {rr : Int32} {XX : gM} (hW : gWf NL) (hD0 : gD (fun _ => True) ad NL) (ha_l0 : (43, 0) ∈ NL) (hf : X10_state (gal NL) N p1 p2 p3 p4 X = some (rr, XX)) : gC l yX10_state cX10_state 6 (some .int) rm_X10_state D cA ad NL [.ref (ad 43 0), .int p1, .int p2, .int p3, .int p4] X (some (.int rr)) XX :=
  g_ofW (by decide) hD0 (Nat.le_of_ble_eq_true rfl) rfl (fun p e s m below meth c ls C hP hS hl => w_X10_state C hW hD0 ha_l0 X _ _ ls hP hS hl hf)
def rm_X10_rests : Room := { frames := 4, cells := 0, slots := 0, locals := 111 }
set_option maxRecDepth 100000 in
set_option maxHeartbeats 4000000 in
theorem s_X10_rests_J110 {p : Program} {l : Launch} {e : Env} {s : State} {m : MethodId} {args : Array Value} {below : List Frame} {meth : Method} {c : Code} {D : va_G} {cA : Nat → ClassId} {ad : Nat → Nat → Nat} {NL : List (Nat × Nat)} {A : Nat → Prop} {rr : Int32} {XX : gM} {N : Nat} (C : gCx p c meth m s args cX10_rests 5 (some .int) RX10 D cA ad NL A) (hW : gWf NL) (hD0 : gD (fun _ => True) ad NL) : ∀ (p3 : Int32) (X : gM) (H : Heap) (locs : List Loc) (ls : Array Slot), gH D cA ad NL X H → va_S A s.heap H locs → lv_has ls 5 [(3, .int p3)] → X10_rests_J110 (gal NL) N p3 X = some (rr, XX) → W p l e rm_X10_rests s m args below meth c H locs 0 0 (MQ below (gQ D cA ad NL (some (.int rr)) XX A) args s 0 0 A) (F0 m 110 ls []) := by
  have hx := C.1
  have hb := C.2.1
  intro p3 X H locs ls hP hS hl hf
  rw [X10_rests_J110] at hf
  refine lv_iload_n hx hb dX10_rests_110 rfl (lv_at hl 0 rfl) ?_
  obtain ⟨rfl, rfl⟩ := g_s1 hf
  exact r_iret C hP hS dX10_rests_111

set_option maxRecDepth 100000 in
set_option maxHeartbeats 4000000 in
theorem s_X10_rests_J102 {p : Program} {l : Launch} {e : Env} {s : State} {m : MethodId} {args : Array Value} {below : List Frame} {meth : Method} {c : Code} {D : va_G} {cA : Nat → ClassId} {ad : Nat → Nat → Nat} {NL : List (Nat × Nat)} {A : Nat → Prop} {rr : Int32} {XX : gM} {N : Nat} {kk : Int32 → Int32 → Int32 → Int32 → gM → Option (Int32 × gM)} {k110 : Int32 → gM → Option (Int32 × gM)} (C : gCx p c meth m s args cX10_rests 5 (some .int) RX10 D cA ad NL A) (hW : gWf NL) (hD0 : gD (fun _ => True) ad NL) (hkk : ∀ (p1 : Int32) (p2 : Int32) (p3 : Int32) (p4 : Int32) (Y : gM) (H : Heap) (locs : List Loc) (ls : Array Slot), gH D cA ad NL Y H → va_S A s.heap H locs → lv_has ls 5 [(0, .ref (ad 43 0)), (1, .int p1), (2, .int p2), (3, .int p3), (4, .int p4)] → (43, 0) ∈ NL → kk p1 p2 p3 p4 Y = some (rr, XX) → W p l e rm_X10_rests s m args below meth c H locs 0 0 (MQ below (gQ D cA ad NL (some (.int rr)) XX A) args s 0 0 A) (F0 m 52 ls [])) (hk110 : ∀ (p3 : Int32) (Y : gM) (H : Heap) (locs : List Loc) (ls : Array Slot), gH D cA ad NL Y H → va_S A s.heap H locs → lv_has ls 5 [(3, .int p3)] → k110 p3 Y = some (rr, XX) → W p l e rm_X10_rests s m args below meth c H locs 0 0 (MQ below (gQ D cA ad NL (some (.int rr)) XX A) args s 0 0 A) (F0 m 110 ls [])) : ∀ (p1 : Int32) (p2 : Int32) (p4 : Int32) (s0 : Int32) (s1 : Int32) (X : gM) (H : Heap) (locs : List Loc) (ls : Array Slot), gH D cA ad NL X H → va_S A s.heap H locs → lv_has ls 5 [(0, .ref (ad 43 0)), (1, .int p1), (2, .int p2), (4, .int p4)] → (43, 0) ∈ NL → X10_rests_J102 (gal NL) N kk k110 p1 p2 p4 s0 s1 X = some (rr, XX) → W p l e rm_X10_rests s m args below meth c H locs 0 0 (MQ below (gQ D cA ad NL (some (.int rr)) XX A) args s 0 0 A) (F0 m 102 ls [.int s1, .int s0]) := by
  have hx := C.1
  have hb := C.2.1
  intro p1 p2 p4 s0 s1 X H locs ls hP hS hl ha_l0 hf
  rw [X10_rests_J102] at hf
  refine lv_ior hx hb dX10_rests_102 ?_
  refine g_top hf (fun v1 e2 hf => ?_)
  refine lv_istore_n (i := 3) (lv' := [(3, .int v1), (0, .ref (ad 43 0)), (1, .int p1), (2, .int p2), (4, .int p4)]) hx hb dX10_rests_103 rfl hl (Nat.le_of_ble_eq_true rfl) rfl (fun ls hl => ?_)
  obtain ⟨v3, e4, hf⟩ := gl_in hf
  refine lv_iinc (v := v3) (lv' := [(4, .int v3), (3, .int v1), (0, .ref (ad 43 0)), (1, .int p1), (2, .int p2)]) hx hb dX10_rests_104 hl (k := 4) rfl (by rw [e4]; rfl) (Nat.le_of_ble_eq_true rfl) rfl (fun ls hl => ?_)
  refine lv_goto (tgt := 52) hx hb dX10_rests_107 (by decide) ?_
  exact hkk p1 p2 v1 v3 X _ _ _ hP hS (lv_sub hl [2, 3, 4, 1, 0] rfl) ha_l0 hf

set_option maxRecDepth 100000 in
set_option maxHeartbeats 4000000 in
theorem s_X10_rests_L52 {p : Program} {l : Launch} {e : Env} {s : State} {m : MethodId} {args : Array Value} {below : List Frame} {meth : Method} {c : Code} {D : va_G} {cA : Nat → ClassId} {ad : Nat → Nat → Nat} {NL : List (Nat × Nat)} {A : Nat → Prop} {rr : Int32} {XX : gM} {N : Nat} {k110 : Int32 → gM → Option (Int32 × gM)} (C : gCx p c meth m s args cX10_rests 5 (some .int) RX10 D cA ad NL A) (hW : gWf NL) (hD0 : gD (fun _ => True) ad NL) (hk110 : ∀ (p3 : Int32) (Y : gM) (H : Heap) (locs : List Loc) (ls : Array Slot), gH D cA ad NL Y H → va_S A s.heap H locs → lv_has ls 5 [(3, .int p3)] → k110 p3 Y = some (rr, XX) → W p l e rm_X10_rests s m args below meth c H locs 0 0 (MQ below (gQ D cA ad NL (some (.int rr)) XX A) args s 0 0 A) (F0 m 110 ls [])) : ∀ (n : Nat) (p1 : Int32) (p2 : Int32) (p3 : Int32) (p4 : Int32) (X : gM) (H : Heap) (locs : List Loc) (ls : Array Slot), gH D cA ad NL X H → va_S A s.heap H locs → lv_has ls 5 [(0, .ref (ad 43 0)), (1, .int p1), (2, .int p2), (3, .int p3), (4, .int p4)] → (43, 0) ∈ NL → X10_rests_L52 (gal NL) N k110 n p1 p2 p3 p4 X = some (rr, XX) → W p l e rm_X10_rests s m args below meth c H locs 0 0 (MQ below (gQ D cA ad NL (some (.int rr)) XX A) args s 0 0 A) (F0 m 52 ls []) := by
  have hx := C.1
  have hb := C.2.1
  intro n
  induction n with
  | zero =>
    intro p1 p2 p3 p4 X H locs ls hP hS hl ha_l0 hf
    rw [X10_rests_L52] at hf
    cases hf
  | succ n ih =>
    intro p1 p2 p3 p4 X H locs ls hP hS hl ha_l0 hf
    rw [X10_rests_L52] at hf
    refine lv_iload hx hb dX10_rests_52 (lv_at hl 4 rfl) ?_
    refine lv_aload_n hx hb dX10_rests_54 rfl (lv_at hl 0 rfl) ?_
    refine r_get C hP ha_l0 (ct_43 _ _ _ _) fx_X10_185 (fg_43_23 _ _ _) dX10_rests_55 ?_
    refine lv_icmp_ge (tgt := 110) hx hb dX10_rests_58 (by decide) (fun c1 => ?_) (fun c1 => ?_)
    · have hf := g_ip c1 hf
      exact hk110 p3 X _ _ _ hP hS (lv_sub hl [3] rfl) hf
    · have hf := g_in c1 hf
      refine lv_iload_n hx hb dX10_rests_61 rfl (lv_at hl 2 rfl) ?_
      obtain ⟨r2, X3, h4, hf⟩ := b2_in hf
      refine r_cSi (rest := []) C hP hS hl.1 (s_X10_isOne hW hD0  h4) ix_X10_isOne is_X10_isOne ls_X10_222 ⟨rfl, rfl, Nat.le_of_ble_eq_true rfl, Nat.le_of_ble_eq_true rfl⟩ rfl rfl (Nat.le_of_ble_eq_true rfl) ⟨Nat.zero_le _, Nat.zero_le _⟩ dX10_rests_62 (fun H locs hP hS => ?_)
      refine lv_if_eq (tgt := 110) hx hb dX10_rests_65 (by decide) (fun c5 => ?_) (fun c5 => ?_)
      · have hf := g_ip c5 hf
        exact hk110 p3 X3 _ _ _ hP hS (lv_sub hl [3] rfl) hf
      · have hf := g_in c5 hf
        refine lv_aload_n hx hb dX10_rests_68 rfl (lv_at hl 0 rfl) ?_
        refine lv_aload_n hx hb dX10_rests_69 rfl (lv_at hl 0 rfl) ?_
        refine r_get C hP ha_l0 (ct_43 _ _ _ _) fx_X10_7 (fg_43_1 _ _ _) dX10_rests_70 ?_
        refine lv_iload_n hx hb dX10_rests_73 rfl (lv_at hl 1 rfl) ?_
        obtain ⟨j6, h7, hf⟩ := rd_in hf
        refine r_iald C hP (gs_43_1 hW ha_l0) (ct_44 _ _ _ _) h7 dX10_rests_74 ?_
        refine lv_iconst (v := 0) hx hb dX10_rests_75 (by decide) ?_
        refine lv_iload hx hb dX10_rests_76 (lv_at hl 4 rfl) ?_
        refine lv_iconst (v := -1) hx hb dX10_rests_78 (by decide) ?_
        refine lv_iconst (v := -1) hx hb dX10_rests_79 (by decide) ?_
        obtain ⟨r8, X9, h10, hf⟩ := b2_in hf
        refine r_cVv (rest := []) C hP hS hl.1 (s_X10_arranges hW hD0 ha_l0 h10) ix_X10_arranges iv_X10_arranges lk_X10_205 ⟨rfl, rfl, Nat.le_of_ble_eq_true rfl, Nat.le_of_ble_eq_true rfl⟩ ha_l0 (ct_43 _ _ _ _) rfl rfl rfl rfl (Nat.le_of_ble_eq_true rfl) ⟨Nat.zero_le _, Nat.zero_le _⟩ dX10_rests_80 (fun H locs hP hS => ?_)
        refine lv_iload_n hx hb dX10_rests_83 rfl (lv_at hl 3 rfl) ?_
        refine lv_aload_n hx hb dX10_rests_84 rfl (lv_at hl 0 rfl) ?_
        refine r_get C hP ha_l0 (ct_43 _ _ _ _) fx_X10_110 (fg_43_41 _ _ _) dX10_rests_85 ?_
        refine lv_iload_n hx hb dX10_rests_88 rfl (lv_at hl 1 rfl) ?_
        obtain ⟨j11, h12, hf⟩ := rd_in hf
        refine r_iald C hP (gs_43_41 hW ha_l0) (ct_77 _ _ _ _) h12 dX10_rests_89 ?_
        refine lv_iload_n hx hb dX10_rests_90 rfl (lv_at hl 2 rfl) ?_
        refine lv_icmp_eq (tgt := 101) hx hb dX10_rests_91 (by decide) (fun c13 => ?_) (fun c13 => ?_)
        · have hf := g_ip c13 hf
          refine lv_iconst (v := 0) hx hb dX10_rests_101 (by decide) ?_
          exact s_X10_rests_J102 C hW hD0 ih hk110 p1 p2 p4 p3 (0 : Int32) X9 _ _ _ hP hS (lv_sub hl [0, 1, 2, 4] rfl) ha_l0 hf
        · have hf := g_in c13 hf
          refine lv_iconst (v := 1) hx hb dX10_rests_94 (by decide) ?_
          refine lv_iload hx hb dX10_rests_95 (lv_at hl 4 rfl) ?_
          refine lv_ishl hx hb dX10_rests_97 ?_
          refine lv_goto (tgt := 102) hx hb dX10_rests_98 (by decide) ?_
          exact s_X10_rests_J102 C hW hD0 ih hk110 p1 p2 p4 p3 (((1 : Int32) <<< (p4 &&& (31 : Int32)))) X9 _ _ _ hP hS (lv_sub hl [0, 1, 2, 4] rfl) ha_l0 hf

set_option maxRecDepth 100000 in
set_option maxHeartbeats 4000000 in
theorem s_X10_rests_J14 {p : Program} {l : Launch} {e : Env} {s : State} {m : MethodId} {args : Array Value} {below : List Frame} {meth : Method} {c : Code} {D : va_G} {cA : Nat → ClassId} {ad : Nat → Nat → Nat} {NL : List (Nat × Nat)} {A : Nat → Prop} {rr : Int32} {XX : gM} {N : Nat} (C : gCx p c meth m s args cX10_rests 5 (some .int) RX10 D cA ad NL A) (hW : gWf NL) (hD0 : gD (fun _ => True) ad NL) : ∀ (p1 : Int32) (s1 : Int32) (X : gM) (H : Heap) (locs : List Loc) (ls : Array Slot), gH D cA ad NL X H → va_S A s.heap H locs → lv_has ls 5 [(0, .ref (ad 43 0)), (1, .int p1)] → (43, 0) ∈ NL → (43, 0) ∈ NL → X10_rests_J14 (gal NL) N p1 s1 X = some (rr, XX) → W p l e rm_X10_rests s m args below meth c H locs 0 0 (MQ below (gQ D cA ad NL (some (.int rr)) XX A) args s 0 0 A) (F0 m 14 ls [.int s1, .ref (ad 43 0)]) := by
  have hx := C.1
  have hb := C.2.1
  intro p1 s1 X H locs ls hP hS hl ha_l0 ha_s0 hf
  rw [X10_rests_J14] at hf
  refine r_put C hP hS s1 ha_s0 (ct_43 _ _ _ _) px_X10_122 (fp_43_46 _ _ _ _ _) (Nat.le_of_ble_eq_true rfl) rfl rfl dX10_rests_14 (fun H locs hP hS => ?_)
  obtain ⟨X1, e2, hf⟩ := gl_in hf
  rw [← e2] at hP
  refine lv_aload_n hx hb dX10_rests_17 rfl (lv_at hl 0 rfl) ?_
  refine r_get C hP ha_l0 (ct_43 _ _ _ _) fx_X10_122 (fg_43_46 _ _ _) dX10_rests_18 ?_
  refine lv_if_le (tgt := 26) hx hb dX10_rests_21 (by decide) (fun c3 => ?_) (fun c3 => ?_)
  · have hf := g_ip c3 hf
    refine lv_aload_n hx hb dX10_rests_26 rfl (lv_at hl 0 rfl) ?_
    refine lv_aload_n hx hb dX10_rests_27 rfl (lv_at hl 0 rfl) ?_
    refine r_get C hP ha_l0 (ct_43 _ _ _ _) fx_X10_7 (fg_43_1 _ _ _) dX10_rests_28 ?_
    refine lv_iload_n hx hb dX10_rests_31 rfl (lv_at hl 1 rfl) ?_
    obtain ⟨j4, h5, hf⟩ := rd_in hf
    refine r_iald C hP (gs_43_1 hW ha_l0) (ct_44 _ _ _ _) h5 dX10_rests_32 ?_
    refine lv_iconst (v := 0) hx hb dX10_rests_33 (by decide) ?_
    refine lv_iconst (v := -1) hx hb dX10_rests_34 (by decide) ?_
    refine lv_iconst (v := -1) hx hb dX10_rests_35 (by decide) ?_
    refine lv_iconst (v := -1) hx hb dX10_rests_36 (by decide) ?_
    obtain ⟨r6, X7, h8, hf⟩ := b2_in hf
    refine r_cVv (rest := []) C hP hS hl.1 (s_X10_arranges hW hD0 ha_l0 h8) ix_X10_arranges iv_X10_arranges lk_X10_205 ⟨rfl, rfl, Nat.le_of_ble_eq_true rfl, Nat.le_of_ble_eq_true rfl⟩ ha_l0 (ct_43 _ _ _ _) rfl rfl rfl rfl (Nat.le_of_ble_eq_true rfl) ⟨Nat.zero_le _, Nat.zero_le _⟩ dX10_rests_37 (fun H locs hP hS => ?_)
    refine lv_aload_n hx hb dX10_rests_40 rfl (lv_at hl 0 rfl) ?_
    refine r_get C hP ha_l0 (ct_43 _ _ _ _) fx_X10_110 (fg_43_41 _ _ _) dX10_rests_41 ?_
    refine lv_iload_n hx hb dX10_rests_44 rfl (lv_at hl 1 rfl) ?_
    obtain ⟨j9, h10, hf⟩ := rd_in hf
    refine r_iald C hP (gs_43_41 hW ha_l0) (ct_77 _ _ _ _) h10 dX10_rests_45 ?_
    refine g_top hf (fun v11 e12 hf => ?_)
    refine lv_istore_n (i := 2) (lv' := [(2, .int v11), (0, .ref (ad 43 0)), (1, .int p1)]) hx hb dX10_rests_46 rfl hl (Nat.le_of_ble_eq_true rfl) rfl (fun ls hl => ?_)
    refine lv_iconst (v := 0) hx hb dX10_rests_47 (by decide) ?_
    refine lv_istore_n (i := 3) (lv' := [(3, .int (0 : Int32)), (2, .int v11), (0, .ref (ad 43 0)), (1, .int p1)]) hx hb dX10_rests_48 rfl hl (Nat.le_of_ble_eq_true rfl) rfl (fun ls hl => ?_)
    refine lv_iconst (v := 0) hx hb dX10_rests_49 (by decide) ?_
    refine lv_istore (i := 4) (lv' := [(4, .int (0 : Int32)), (3, .int (0 : Int32)), (2, .int v11), (0, .ref (ad 43 0)), (1, .int p1)]) hx hb dX10_rests_50 hl (Nat.le_of_ble_eq_true rfl) rfl (fun ls hl => ?_)
    exact s_X10_rests_L52 C hW hD0 (fun p3 Y H locs ls hP hS hl hf => s_X10_rests_J110 C hW hD0 p3 Y _ _ _ hP hS hl hf) N p1 v11 (0 : Int32) (0 : Int32) X7 _ _ _ hP hS (lv_sub hl [3, 4, 2, 1, 0] rfl) ha_l0 hf
  · have hf := g_in c3 hf
    refine lv_iconst (v := 0) hx hb dX10_rests_24 (by decide) ?_
    obtain ⟨rfl, rfl⟩ := g_s1 hf
    exact r_iret C hP hS dX10_rests_25

set_option maxRecDepth 100000 in
set_option maxHeartbeats 4000000 in
theorem w_X10_rests {p : Program} {l : Launch} {e : Env} {s : State} {m : MethodId} {args : Array Value} {below : List Frame} {meth : Method} {c : Code} {D : va_G} {cA : Nat → ClassId} {ad : Nat → Nat → Nat} {NL : List (Nat × Nat)} {A : Nat → Prop} {rr : Int32} {XX : gM} {N : Nat} (C : gCx p c meth m s args cX10_rests 5 (some .int) RX10 D cA ad NL A) (hW : gWf NL) (hD0 : gD (fun _ => True) ad NL) {p1 : Int32} (ha_l0 : (43, 0) ∈ NL) : ∀ (X : gM) (H : Heap) (locs : List Loc) (ls : Array Slot), gH D cA ad NL X H → va_S A s.heap H locs → lv_has ls 5 [(0, .ref (ad 43 0)), (1, .int p1)] → X10_rests (gal NL) N p1 X = some (rr, XX) → W p l e rm_X10_rests s m args below meth c H locs 0 0 (MQ below (gQ D cA ad NL (some (.int rr)) XX A) args s 0 0 A) (F0 m 0 ls []) := by
  have hx := C.1
  have hb := C.2.1
  intro X H locs ls hP hS hl hf
  rw [X10_rests] at hf
  refine lv_aload_n hx hb dX10_rests_0 rfl (lv_at hl 0 rfl) ?_
  refine lv_aload_n hx hb dX10_rests_1 rfl (lv_at hl 0 rfl) ?_
  refine lv_iload_n hx hb dX10_rests_2 rfl (lv_at hl 1 rfl) ?_
  obtain ⟨r1, X2, h3, hf⟩ := b2_in hf
  refine r_cVi (rest := [.ref (ad 43 0)]) C hP hS hl.1 (s_X10_isLeaf hW hD0 ha_l0 h3) ix_X10_isLeaf iv_X10_isLeaf lk_X10_133 ⟨rfl, rfl, Nat.le_of_ble_eq_true rfl, Nat.le_of_ble_eq_true rfl⟩ ha_l0 (ct_43 _ _ _ _) rfl rfl rfl rfl (Nat.le_of_ble_eq_true rfl) ⟨Nat.zero_le _, Nat.zero_le _⟩ dX10_rests_3 (fun H locs hP hS => ?_)
  refine lv_if_eq (tgt := 13) hx hb dX10_rests_6 (by decide) (fun c4 => ?_) (fun c4 => ?_)
  · have hf := g_ip c4 hf
    refine lv_iconst (v := 1) hx hb dX10_rests_13 (by decide) ?_
    exact s_X10_rests_J14 C hW hD0 p1 (1 : Int32) X2 _ _ _ hP hS (lv_sub hl [0, 1] rfl) ha_l0 ha_l0 hf
  · have hf := g_in c4 hf
    refine lv_iconst (v := 0) hx hb dX10_rests_9 (by decide) ?_
    refine lv_goto (tgt := 14) hx hb dX10_rests_10 (by decide) ?_
    exact s_X10_rests_J14 C hW hD0 p1 (0 : Int32) X2 _ _ _ hP hS (lv_sub hl [0, 1] rfl) ha_l0 ha_l0 hf

theorem s_X10_rests {l : Launch} {D : va_G} {cA : Nat → ClassId} {ad : Nat → Nat → Nat} {NL : List (Nat × Nat)} {N : Nat} {p1 : Int32} {X : gM} {rr : Int32} {XX : gM} (hW : gWf NL) (hD0 : gD (fun _ => True) ad NL) (ha_l0 : (43, 0) ∈ NL) (hf : X10_rests (gal NL) N p1 X = some (rr, XX)) : gC l yX10_rests cX10_rests 5 (some .int) rm_X10_rests D cA ad NL [.ref (ad 43 0), .int p1] X (some (.int rr)) XX :=
  g_ofW (by decide) hD0 (Nat.le_of_ble_eq_true rfl) rfl (fun p e s m below meth c ls C hP hS hl => w_X10_rests C hW hD0 ha_l0 X _ _ ls hP hS hl hf)
def rm_X10_many : Room := { frames := 0, cells := 0, slots := 0, locals := 0 }
set_option maxRecDepth 100000 in
set_option maxHeartbeats 4000000 in
theorem s_X10_many_J21 {p : Program} {l : Launch} {e : Env} {s : State} {m : MethodId} {args : Array Value} {below : List Frame} {meth : Method} {c : Code} {D : va_G} {cA : Nat → ClassId} {ad : Nat → Nat → Nat} {NL : List (Nat × Nat)} {A : Nat → Prop} {rr : Int32} {XX : gM} {N : Nat} (C : gCx p c meth m s args cX10_many 3 (some .int) RX10 D cA ad NL A) (hW : gWf NL) (hD0 : gD (fun _ => True) ad NL) : ∀ (p1 : Int32) (X : gM) (H : Heap) (locs : List Loc) (ls : Array Slot), gH D cA ad NL X H → va_S A s.heap H locs → lv_has ls 3 [(1, .int p1)] → X10_many_J21 (gal NL) N p1 X = some (rr, XX) → W p l e rm_X10_many s m args below meth c H locs 0 0 (MQ below (gQ D cA ad NL (some (.int rr)) XX A) args s 0 0 A) (F0 m 21 ls []) := by
  have hx := C.1
  have hb := C.2.1
  intro p1 X H locs ls hP hS hl hf
  rw [X10_many_J21] at hf
  refine lv_iload_n hx hb dX10_many_21 rfl (lv_at hl 0 rfl) ?_
  obtain ⟨rfl, rfl⟩ := g_s1 hf
  exact r_iret C hP hS dX10_many_22

set_option maxRecDepth 100000 in
set_option maxHeartbeats 4000000 in
theorem s_X10_many_L4 {p : Program} {l : Launch} {e : Env} {s : State} {m : MethodId} {args : Array Value} {below : List Frame} {meth : Method} {c : Code} {D : va_G} {cA : Nat → ClassId} {ad : Nat → Nat → Nat} {NL : List (Nat × Nat)} {A : Nat → Prop} {rr : Int32} {XX : gM} {N : Nat} {k21 : Int32 → gM → Option (Int32 × gM)} (C : gCx p c meth m s args cX10_many 3 (some .int) RX10 D cA ad NL A) (hW : gWf NL) (hD0 : gD (fun _ => True) ad NL) (hk21 : ∀ (p1 : Int32) (Y : gM) (H : Heap) (locs : List Loc) (ls : Array Slot), gH D cA ad NL Y H → va_S A s.heap H locs → lv_has ls 3 [(1, .int p1)] → k21 p1 Y = some (rr, XX) → W p l e rm_X10_many s m args below meth c H locs 0 0 (MQ below (gQ D cA ad NL (some (.int rr)) XX A) args s 0 0 A) (F0 m 21 ls [])) : ∀ (n : Nat) (p1 : Int32) (p2 : Int32) (X : gM) (H : Heap) (locs : List Loc) (ls : Array Slot), gH D cA ad NL X H → va_S A s.heap H locs → lv_has ls 3 [(1, .int p1), (2, .int p2)] → X10_many_L4 (gal NL) N k21 n p1 p2 X = some (rr, XX) → W p l e rm_X10_many s m args below meth c H locs 0 0 (MQ below (gQ D cA ad NL (some (.int rr)) XX A) args s 0 0 A) (F0 m 4 ls []) := by
  have hx := C.1
  have hb := C.2.1
  intro n
  induction n with
  | zero =>
    intro p1 p2 X H locs ls hP hS hl hf
    rw [X10_many_L4] at hf
    cases hf
  | succ n ih =>
    intro p1 p2 X H locs ls hP hS hl hf
    rw [X10_many_L4] at hf
    refine lv_iload_n hx hb dX10_many_4 rfl (lv_at hl 1 rfl) ?_
    refine lv_if_le (tgt := 21) hx hb dX10_many_5 (by decide) (fun c1 => ?_) (fun c1 => ?_)
    · have hf := g_ip c1 hf
      exact hk21 p1 X _ _ _ hP hS (lv_sub hl [0] rfl) hf
    · have hf := g_in c1 hf
      refine lv_iload_n hx hb dX10_many_8 rfl (lv_at hl 0 rfl) ?_
      refine lv_iload_n hx hb dX10_many_9 rfl (lv_at hl 1 rfl) ?_
      refine lv_iconst (v := 1) hx hb dX10_many_10 (by decide) ?_
      refine lv_iand hx hb dX10_many_11 ?_
      refine lv_iadd hx hb dX10_many_12 ?_
      refine g_top hf (fun v2 e3 hf => ?_)
      refine lv_istore_n (i := 1) (lv' := [(1, .int v2), (2, .int p2)]) hx hb dX10_many_13 rfl hl (Nat.le_of_ble_eq_true rfl) rfl (fun ls hl => ?_)
      refine lv_iload_n hx hb dX10_many_14 rfl (lv_at hl 1 rfl) ?_
      refine lv_iconst (v := 1) hx hb dX10_many_15 (by decide) ?_
      refine lv_ishr hx hb dX10_many_16 ?_
      refine g_top hf (fun v4 e5 hf => ?_)
      refine lv_istore_n (i := 2) (lv' := [(2, .int v4), (1, .int v2)]) hx hb dX10_many_17 rfl hl (Nat.le_of_ble_eq_true rfl) rfl (fun ls hl => ?_)
      refine lv_goto (tgt := 4) hx hb dX10_many_18 (by decide) ?_
      exact ih v2 v4 X _ _ _ hP hS (lv_sub hl [1, 0] rfl) hf

set_option maxRecDepth 100000 in
set_option maxHeartbeats 4000000 in
theorem w_X10_many {p : Program} {l : Launch} {e : Env} {s : State} {m : MethodId} {args : Array Value} {below : List Frame} {meth : Method} {c : Code} {D : va_G} {cA : Nat → ClassId} {ad : Nat → Nat → Nat} {NL : List (Nat × Nat)} {A : Nat → Prop} {rr : Int32} {XX : gM} {N : Nat} (C : gCx p c meth m s args cX10_many 3 (some .int) RX10 D cA ad NL A) (hW : gWf NL) (hD0 : gD (fun _ => True) ad NL) {p0 : Int32} : ∀ (X : gM) (H : Heap) (locs : List Loc) (ls : Array Slot), gH D cA ad NL X H → va_S A s.heap H locs → lv_has ls 3 [(0, .int p0)] → X10_many (gal NL) N p0 X = some (rr, XX) → W p l e rm_X10_many s m args below meth c H locs 0 0 (MQ below (gQ D cA ad NL (some (.int rr)) XX A) args s 0 0 A) (F0 m 0 ls []) := by
  have hx := C.1
  have hb := C.2.1
  intro X H locs ls hP hS hl hf
  rw [X10_many] at hf
  refine lv_iconst (v := 0) hx hb dX10_many_0 (by decide) ?_
  refine lv_istore_n (i := 1) (lv' := [(1, .int (0 : Int32)), (0, .int p0)]) hx hb dX10_many_1 rfl hl (Nat.le_of_ble_eq_true rfl) rfl (fun ls hl => ?_)
  refine lv_iload_n hx hb dX10_many_2 rfl (lv_at hl 1 rfl) ?_
  refine lv_istore_n (i := 2) (lv' := [(2, .int p0), (1, .int (0 : Int32)), (0, .int p0)]) hx hb dX10_many_3 rfl hl (Nat.le_of_ble_eq_true rfl) rfl (fun ls hl => ?_)
  exact s_X10_many_L4 C hW hD0 (fun p1 Y H locs ls hP hS hl hf => s_X10_many_J21 C hW hD0 p1 Y _ _ _ hP hS hl hf) N (0 : Int32) p0 X _ _ _ hP hS (lv_sub hl [1, 0] rfl) hf

theorem s_X10_many {l : Launch} {D : va_G} {cA : Nat → ClassId} {ad : Nat → Nat → Nat} {NL : List (Nat × Nat)} {N : Nat} {p0 : Int32} {X : gM} {rr : Int32} {XX : gM} (hW : gWf NL) (hD0 : gD (fun _ => True) ad NL) (hf : X10_many (gal NL) N p0 X = some (rr, XX)) : gC l yX10_many cX10_many 3 (some .int) rm_X10_many D cA ad NL [.int p0] X (some (.int rr)) XX :=
  g_ofW (by decide) hD0 (Nat.le_of_ble_eq_true rfl) rfl (fun p e s m below meth c ls C hP hS hl => w_X10_many C hW hD0  X _ _ ls hP hS hl hf)
def rm_X10_worth : Room := { frames := 4, cells := 0, slots := 0, locals := 111 }
set_option maxRecDepth 100000 in
set_option maxHeartbeats 4000000 in
theorem s_X10_worth_J168 {p : Program} {l : Launch} {e : Env} {s : State} {m : MethodId} {args : Array Value} {below : List Frame} {meth : Method} {c : Code} {D : va_G} {cA : Nat → ClassId} {ad : Nat → Nat → Nat} {NL : List (Nat × Nat)} {A : Nat → Prop} {rr : Int32} {XX : gM} {N : Nat} (C : gCx p c meth m s args cX10_worth 6 (some .int) RX10 D cA ad NL A) (hW : gWf NL) (hD0 : gD (fun _ => True) ad NL) : ∀ (p1 : Int32) (X : gM) (H : Heap) (locs : List Loc) (ls : Array Slot), gH D cA ad NL X H → va_S A s.heap H locs → lv_has ls 6 [(1, .int p1)] → X10_worth_J168 (gal NL) N p1 X = some (rr, XX) → W p l e rm_X10_worth s m args below meth c H locs 0 0 (MQ below (gQ D cA ad NL (some (.int rr)) XX A) args s 0 0 A) (F0 m 168 ls []) := by
  have hx := C.1
  have hb := C.2.1
  intro p1 X H locs ls hP hS hl hf
  rw [X10_worth_J168] at hf
  refine lv_iload_n hx hb dX10_worth_168 rfl (lv_at hl 0 rfl) ?_
  obtain ⟨rfl, rfl⟩ := g_s1 hf
  exact r_iret C hP hS dX10_worth_169

set_option maxRecDepth 100000 in
set_option maxHeartbeats 4000000 in
theorem s_X10_worth_J161 {p : Program} {l : Launch} {e : Env} {s : State} {m : MethodId} {args : Array Value} {below : List Frame} {meth : Method} {c : Code} {D : va_G} {cA : Nat → ClassId} {ad : Nat → Nat → Nat} {NL : List (Nat × Nat)} {A : Nat → Prop} {rr : Int32} {XX : gM} {N : Nat} {kk : Int32 → Int32 → Int32 → gM → Option (Int32 × gM)} {k168 : Int32 → gM → Option (Int32 × gM)} (C : gCx p c meth m s args cX10_worth 6 (some .int) RX10 D cA ad NL A) (hW : gWf NL) (hD0 : gD (fun _ => True) ad NL) (hkk : ∀ (p1 : Int32) (p2 : Int32) (p3 : Int32) (Y : gM) (H : Heap) (locs : List Loc) (ls : Array Slot), gH D cA ad NL Y H → va_S A s.heap H locs → lv_has ls 6 [(0, .ref (ad 43 0)), (1, .int p1), (2, .int p2), (3, .int p3)] → (43, 0) ∈ NL → kk p1 p2 p3 Y = some (rr, XX) → W p l e rm_X10_worth s m args below meth c H locs 0 0 (MQ below (gQ D cA ad NL (some (.int rr)) XX A) args s 0 0 A) (F0 m 33 ls [])) (hk168 : ∀ (p1 : Int32) (Y : gM) (H : Heap) (locs : List Loc) (ls : Array Slot), gH D cA ad NL Y H → va_S A s.heap H locs → lv_has ls 6 [(1, .int p1)] → k168 p1 Y = some (rr, XX) → W p l e rm_X10_worth s m args below meth c H locs 0 0 (MQ below (gQ D cA ad NL (some (.int rr)) XX A) args s 0 0 A) (F0 m 168 ls [])) : ∀ (p1 : Int32) (p3 : Int32) (s0 : Int32) (X : gM) (H : Heap) (locs : List Loc) (ls : Array Slot), gH D cA ad NL X H → va_S A s.heap H locs → lv_has ls 6 [(0, .ref (ad 43 0)), (1, .int p1), (3, .int p3)] → (43, 0) ∈ NL → X10_worth_J161 (gal NL) N kk k168 p1 p3 s0 X = some (rr, XX) → W p l e rm_X10_worth s m args below meth c H locs 0 0 (MQ below (gQ D cA ad NL (some (.int rr)) XX A) args s 0 0 A) (F0 m 161 ls [.int s0]) := by
  have hx := C.1
  have hb := C.2.1
  intro p1 p3 s0 X H locs ls hP hS hl ha_l0 hf
  rw [X10_worth_J161] at hf
  refine lv_istore_n (i := 2) (lv' := [(2, .int s0), (0, .ref (ad 43 0)), (1, .int p1), (3, .int p3)]) hx hb dX10_worth_161 rfl hl (Nat.le_of_ble_eq_true rfl) rfl (fun ls hl => ?_)
  obtain ⟨v1, e2, hf⟩ := gl_in hf
  refine lv_iinc (v := v1) (lv' := [(3, .int v1), (2, .int s0), (0, .ref (ad 43 0)), (1, .int p1)]) hx hb dX10_worth_162 hl (k := 3) rfl (by rw [e2]; rfl) (Nat.le_of_ble_eq_true rfl) rfl (fun ls hl => ?_)
  refine lv_goto (tgt := 33) hx hb dX10_worth_165 (by decide) ?_
  exact hkk p1 s0 v1 X _ _ _ hP hS (lv_sub hl [2, 3, 1, 0] rfl) ha_l0 hf

set_option maxRecDepth 100000 in
set_option maxHeartbeats 4000000 in
theorem s_X10_worth_J148 {p : Program} {l : Launch} {e : Env} {s : State} {m : MethodId} {args : Array Value} {below : List Frame} {meth : Method} {c : Code} {D : va_G} {cA : Nat → ClassId} {ad : Nat → Nat → Nat} {NL : List (Nat × Nat)} {A : Nat → Prop} {rr : Int32} {XX : gM} {N : Nat} {kk : Int32 → Int32 → Int32 → gM → Option (Int32 × gM)} {k168 : Int32 → gM → Option (Int32 × gM)} (C : gCx p c meth m s args cX10_worth 6 (some .int) RX10 D cA ad NL A) (hW : gWf NL) (hD0 : gD (fun _ => True) ad NL) (hkk : ∀ (p1 : Int32) (p2 : Int32) (p3 : Int32) (Y : gM) (H : Heap) (locs : List Loc) (ls : Array Slot), gH D cA ad NL Y H → va_S A s.heap H locs → lv_has ls 6 [(0, .ref (ad 43 0)), (1, .int p1), (2, .int p2), (3, .int p3)] → (43, 0) ∈ NL → kk p1 p2 p3 Y = some (rr, XX) → W p l e rm_X10_worth s m args below meth c H locs 0 0 (MQ below (gQ D cA ad NL (some (.int rr)) XX A) args s 0 0 A) (F0 m 33 ls [])) (hk168 : ∀ (p1 : Int32) (Y : gM) (H : Heap) (locs : List Loc) (ls : Array Slot), gH D cA ad NL Y H → va_S A s.heap H locs → lv_has ls 6 [(1, .int p1)] → k168 p1 Y = some (rr, XX) → W p l e rm_X10_worth s m args below meth c H locs 0 0 (MQ below (gQ D cA ad NL (some (.int rr)) XX A) args s 0 0 A) (F0 m 168 ls [])) : ∀ (p2 : Int32) (p3 : Int32) (p4 : Int32) (s0 : Int32) (X : gM) (H : Heap) (locs : List Loc) (ls : Array Slot), gH D cA ad NL X H → va_S A s.heap H locs → lv_has ls 6 [(0, .ref (ad 43 0)), (2, .int p2), (3, .int p3), (4, .int p4)] → (43, 0) ∈ NL → X10_worth_J148 (gal NL) N kk k168 p2 p3 p4 s0 X = some (rr, XX) → W p l e rm_X10_worth s m args below meth c H locs 0 0 (MQ below (gQ D cA ad NL (some (.int rr)) XX A) args s 0 0 A) (F0 m 148 ls [.int s0]) := by
  have hx := C.1
  have hb := C.2.1
  intro p2 p3 p4 s0 X H locs ls hP hS hl ha_l0 hf
  rw [X10_worth_J148] at hf
  refine lv_istore_n (i := 1) (lv' := [(1, .int s0), (0, .ref (ad 43 0)), (2, .int p2), (3, .int p3), (4, .int p4)]) hx hb dX10_worth_148 rfl hl (Nat.le_of_ble_eq_true rfl) rfl (fun ls hl => ?_)
  refine lv_iload hx hb dX10_worth_149 (lv_at hl 4 rfl) ?_
  refine lv_iload_n hx hb dX10_worth_151 rfl (lv_at hl 2 rfl) ?_
  refine lv_icmp_le (tgt := 160) hx hb dX10_worth_152 (by decide) (fun c1 => ?_) (fun c1 => ?_)
  · have hf := g_ip c1 hf
    refine lv_iload_n hx hb dX10_worth_160 rfl (lv_at hl 2 rfl) ?_
    exact s_X10_worth_J161 C hW hD0 hkk hk168 s0 p3 p2 X _ _ _ hP hS (lv_sub hl [1, 0, 3] rfl) ha_l0 hf
  · have hf := g_in c1 hf
    refine lv_iload hx hb dX10_worth_155 (lv_at hl 4 rfl) ?_
    refine lv_goto (tgt := 161) hx hb dX10_worth_157 (by decide) ?_
    exact s_X10_worth_J161 C hW hD0 hkk hk168 s0 p3 p4 X _ _ _ hP hS (lv_sub hl [1, 0, 3] rfl) ha_l0 hf

set_option maxRecDepth 100000 in
set_option maxHeartbeats 4000000 in
theorem s_X10_worth_J134 {p : Program} {l : Launch} {e : Env} {s : State} {m : MethodId} {args : Array Value} {below : List Frame} {meth : Method} {c : Code} {D : va_G} {cA : Nat → ClassId} {ad : Nat → Nat → Nat} {NL : List (Nat × Nat)} {A : Nat → Prop} {rr : Int32} {XX : gM} {N : Nat} {kk : Int32 → Int32 → Int32 → gM → Option (Int32 × gM)} {k168 : Int32 → gM → Option (Int32 × gM)} (C : gCx p c meth m s args cX10_worth 6 (some .int) RX10 D cA ad NL A) (hW : gWf NL) (hD0 : gD (fun _ => True) ad NL) (hkk : ∀ (p1 : Int32) (p2 : Int32) (p3 : Int32) (Y : gM) (H : Heap) (locs : List Loc) (ls : Array Slot), gH D cA ad NL Y H → va_S A s.heap H locs → lv_has ls 6 [(0, .ref (ad 43 0)), (1, .int p1), (2, .int p2), (3, .int p3)] → (43, 0) ∈ NL → kk p1 p2 p3 Y = some (rr, XX) → W p l e rm_X10_worth s m args below meth c H locs 0 0 (MQ below (gQ D cA ad NL (some (.int rr)) XX A) args s 0 0 A) (F0 m 33 ls [])) (hk168 : ∀ (p1 : Int32) (Y : gM) (H : Heap) (locs : List Loc) (ls : Array Slot), gH D cA ad NL Y H → va_S A s.heap H locs → lv_has ls 6 [(1, .int p1)] → k168 p1 Y = some (rr, XX) → W p l e rm_X10_worth s m args below meth c H locs 0 0 (MQ below (gQ D cA ad NL (some (.int rr)) XX A) args s 0 0 A) (F0 m 168 ls [])) : ∀ (p1 : Int32) (p2 : Int32) (p3 : Int32) (s0 : Int32) (s1 : Int32) (X : gM) (H : Heap) (locs : List Loc) (ls : Array Slot), gH D cA ad NL X H → va_S A s.heap H locs → lv_has ls 6 [(0, .ref (ad 43 0)), (1, .int p1), (2, .int p2), (3, .int p3)] → (43, 0) ∈ NL → X10_worth_J134 (gal NL) N kk k168 p1 p2 p3 s0 s1 X = some (rr, XX) → W p l e rm_X10_worth s m args below meth c H locs 0 0 (MQ below (gQ D cA ad NL (some (.int rr)) XX A) args s 0 0 A) (F0 m 134 ls [.int s1, .int s0]) := by
  have hx := C.1
  have hb := C.2.1
  intro p1 p2 p3 s0 s1 X H locs ls hP hS hl ha_l0 hf
  rw [X10_worth_J134] at hf
  refine lv_imul hx hb dX10_worth_134 ?_
  refine g_top hf (fun v1 e2 hf => ?_)
  refine lv_istore (i := 4) (lv' := [(4, .int v1), (0, .ref (ad 43 0)), (1, .int p1), (2, .int p2), (3, .int p3)]) hx hb dX10_worth_135 hl (Nat.le_of_ble_eq_true rfl) rfl (fun ls hl => ?_)
  refine lv_iload hx hb dX10_worth_137 (lv_at hl 0 rfl) ?_
  refine lv_iload_n hx hb dX10_worth_139 rfl (lv_at hl 3 rfl) ?_
  refine lv_icmp_le (tgt := 147) hx hb dX10_worth_140 (by decide) (fun c3 => ?_) (fun c3 => ?_)
  · have hf := g_ip c3 hf
    refine lv_iload_n hx hb dX10_worth_147 rfl (lv_at hl 2 rfl) ?_
    exact s_X10_worth_J148 C hW hD0 hkk hk168 p2 p3 v1 p1 X _ _ _ hP hS (lv_sub hl [1, 3, 4, 0] rfl) ha_l0 hf
  · have hf := g_in c3 hf
    refine lv_iload_n hx hb dX10_worth_143 rfl (lv_at hl 4 rfl) ?_
    refine lv_goto (tgt := 148) hx hb dX10_worth_144 (by decide) ?_
    exact s_X10_worth_J148 C hW hD0 hkk hk168 p2 p3 v1 p3 X _ _ _ hP hS (lv_sub hl [1, 3, 4, 0] rfl) ha_l0 hf

set_option maxRecDepth 100000 in
set_option maxHeartbeats 4000000 in
theorem s_X10_worth_J110 {p : Program} {l : Launch} {e : Env} {s : State} {m : MethodId} {args : Array Value} {below : List Frame} {meth : Method} {c : Code} {D : va_G} {cA : Nat → ClassId} {ad : Nat → Nat → Nat} {NL : List (Nat × Nat)} {A : Nat → Prop} {rr : Int32} {XX : gM} {N : Nat} {kk : Int32 → Int32 → Int32 → gM → Option (Int32 × gM)} {k168 : Int32 → gM → Option (Int32 × gM)} (C : gCx p c meth m s args cX10_worth 6 (some .int) RX10 D cA ad NL A) (hW : gWf NL) (hD0 : gD (fun _ => True) ad NL) (hkk : ∀ (p1 : Int32) (p2 : Int32) (p3 : Int32) (Y : gM) (H : Heap) (locs : List Loc) (ls : Array Slot), gH D cA ad NL Y H → va_S A s.heap H locs → lv_has ls 6 [(0, .ref (ad 43 0)), (1, .int p1), (2, .int p2), (3, .int p3)] → (43, 0) ∈ NL → kk p1 p2 p3 Y = some (rr, XX) → W p l e rm_X10_worth s m args below meth c H locs 0 0 (MQ below (gQ D cA ad NL (some (.int rr)) XX A) args s 0 0 A) (F0 m 33 ls [])) (hk168 : ∀ (p1 : Int32) (Y : gM) (H : Heap) (locs : List Loc) (ls : Array Slot), gH D cA ad NL Y H → va_S A s.heap H locs → lv_has ls 6 [(1, .int p1)] → k168 p1 Y = some (rr, XX) → W p l e rm_X10_worth s m args below meth c H locs 0 0 (MQ below (gQ D cA ad NL (some (.int rr)) XX A) args s 0 0 A) (F0 m 168 ls [])) : ∀ (p1 : Int32) (p2 : Int32) (p3 : Int32) (p4 : Int32) (X : gM) (H : Heap) (locs : List Loc) (ls : Array Slot), gH D cA ad NL X H → va_S A s.heap H locs → lv_has ls 6 [(0, .ref (ad 43 0)), (1, .int p1), (2, .int p2), (3, .int p3), (4, .int p4)] → (43, 0) ∈ NL → X10_worth_J110 (gal NL) N kk k168 p1 p2 p3 p4 X = some (rr, XX) → W p l e rm_X10_worth s m args below meth c H locs 0 0 (MQ below (gQ D cA ad NL (some (.int rr)) XX A) args s 0 0 A) (F0 m 110 ls []) := by
  have hx := C.1
  have hb := C.2.1
  intro p1 p2 p3 p4 X H locs ls hP hS hl ha_l0 hf
  rw [X10_worth_J110] at hf
  refine lv_iload hx hb dX10_worth_110 (lv_at hl 4 rfl) ?_
  refine lv_aload_n hx hb dX10_worth_112 rfl (lv_at hl 0 rfl) ?_
  refine r_get C hP ha_l0 (ct_43 _ _ _ _) fx_X10_110 (fg_43_41 _ _ _) dX10_worth_113 ?_
  refine lv_iload_n hx hb dX10_worth_116 rfl (lv_at hl 3 rfl) ?_
  obtain ⟨j1, h2, hf⟩ := rd_in hf
  refine r_iald C hP (gs_43_41 hW ha_l0) (ct_77 _ _ _ _) h2 dX10_worth_117 ?_
  refine lv_if_ne (tgt := 125) hx hb dX10_worth_118 (by decide) (fun c3 => ?_) (fun c3 => ?_)
  · have hf := g_in c3 hf
    refine lv_aload_n hx hb dX10_worth_125 rfl (lv_at hl 0 rfl) ?_
    refine r_get C hP ha_l0 (ct_43 _ _ _ _) fx_X10_110 (fg_43_41 _ _ _) dX10_worth_126 ?_
    refine lv_iload_n hx hb dX10_worth_129 rfl (lv_at hl 3 rfl) ?_
    obtain ⟨j4, h5, hf⟩ := rd_in hf
    refine r_iald C hP (gs_43_41 hW ha_l0) (ct_77 _ _ _ _) h5 dX10_worth_130 ?_
    obtain ⟨r6, X7, h8, hf⟩ := b2_in hf
    refine r_cSi (rest := [.int p4]) C hP hS hl.1 (s_X10_many hW hD0  h8) ix_X10_many is_X10_many ls_X10_225 ⟨rfl, rfl, Nat.le_of_ble_eq_true rfl, Nat.le_of_ble_eq_true rfl⟩ rfl rfl (Nat.le_of_ble_eq_true rfl) ⟨Nat.zero_le _, Nat.zero_le _⟩ dX10_worth_131 (fun H locs hP hS => ?_)
    exact s_X10_worth_J134 C hW hD0 hkk hk168 p1 p2 p3 p4 r6 X7 _ _ _ hP hS (lv_sub hl [0, 1, 2, 3] rfl) ha_l0 hf
  · have hf := g_ip c3 hf
    refine lv_iconst (v := 1) hx hb dX10_worth_121 (by decide) ?_
    refine lv_goto (tgt := 134) hx hb dX10_worth_122 (by decide) ?_
    exact s_X10_worth_J134 C hW hD0 hkk hk168 p1 p2 p3 p4 (1 : Int32) X _ _ _ hP hS (lv_sub hl [0, 1, 2, 3] rfl) ha_l0 hf

set_option maxRecDepth 100000 in
set_option maxHeartbeats 4000000 in
theorem s_X10_worth_J101 {p : Program} {l : Launch} {e : Env} {s : State} {m : MethodId} {args : Array Value} {below : List Frame} {meth : Method} {c : Code} {D : va_G} {cA : Nat → ClassId} {ad : Nat → Nat → Nat} {NL : List (Nat × Nat)} {A : Nat → Prop} {rr : Int32} {XX : gM} {N : Nat} {kk : Int32 → Int32 → Int32 → Int32 → Int32 → gM → Option (Int32 × gM)} {k110 : Int32 → Int32 → Int32 → Int32 → gM → Option (Int32 × gM)} (C : gCx p c meth m s args cX10_worth 6 (some .int) RX10 D cA ad NL A) (hW : gWf NL) (hD0 : gD (fun _ => True) ad NL) (hkk : ∀ (p1 : Int32) (p2 : Int32) (p3 : Int32) (p4 : Int32) (p5 : Int32) (Y : gM) (H : Heap) (locs : List Loc) (ls : Array Slot), gH D cA ad NL Y H → va_S A s.heap H locs → lv_has ls 6 [(0, .ref (ad 43 0)), (1, .int p1), (2, .int p2), (3, .int p3), (4, .int p4), (5, .int p5)] → (43, 0) ∈ NL → kk p1 p2 p3 p4 p5 Y = some (rr, XX) → W p l e rm_X10_worth s m args below meth c H locs 0 0 (MQ below (gQ D cA ad NL (some (.int rr)) XX A) args s 0 0 A) (F0 m 47 ls [])) (hk110 : ∀ (p1 : Int32) (p2 : Int32) (p3 : Int32) (p4 : Int32) (Y : gM) (H : Heap) (locs : List Loc) (ls : Array Slot), gH D cA ad NL Y H → va_S A s.heap H locs → lv_has ls 6 [(0, .ref (ad 43 0)), (1, .int p1), (2, .int p2), (3, .int p3), (4, .int p4)] → (43, 0) ∈ NL → k110 p1 p2 p3 p4 Y = some (rr, XX) → W p l e rm_X10_worth s m args below meth c H locs 0 0 (MQ below (gQ D cA ad NL (some (.int rr)) XX A) args s 0 0 A) (F0 m 110 ls [])) : ∀ (p1 : Int32) (p2 : Int32) (p3 : Int32) (p5 : Int32) (s0 : Int32) (s1 : Int32) (X : gM) (H : Heap) (locs : List Loc) (ls : Array Slot), gH D cA ad NL X H → va_S A s.heap H locs → lv_has ls 6 [(0, .ref (ad 43 0)), (1, .int p1), (2, .int p2), (3, .int p3), (5, .int p5)] → (43, 0) ∈ NL → X10_worth_J101 (gal NL) N kk k110 p1 p2 p3 p5 s0 s1 X = some (rr, XX) → W p l e rm_X10_worth s m args below meth c H locs 0 0 (MQ below (gQ D cA ad NL (some (.int rr)) XX A) args s 0 0 A) (F0 m 101 ls [.int s1, .int s0]) := by
  have hx := C.1
  have hb := C.2.1
  intro p1 p2 p3 p5 s0 s1 X H locs ls hP hS hl ha_l0 hf
  rw [X10_worth_J101] at hf
  refine lv_iadd hx hb dX10_worth_101 ?_
  refine g_top hf (fun v1 e2 hf => ?_)
  refine lv_istore (i := 4) (lv' := [(4, .int v1), (0, .ref (ad 43 0)), (1, .int p1), (2, .int p2), (3, .int p3), (5, .int p5)]) hx hb dX10_worth_102 hl (Nat.le_of_ble_eq_true rfl) rfl (fun ls hl => ?_)
  obtain ⟨v3, e4, hf⟩ := gl_in hf
  refine lv_iinc (v := v3) (lv' := [(5, .int v3), (4, .int v1), (0, .ref (ad 43 0)), (1, .int p1), (2, .int p2), (3, .int p3)]) hx hb dX10_worth_104 hl (k := 5) rfl (by rw [e4]; rfl) (Nat.le_of_ble_eq_true rfl) rfl (fun ls hl => ?_)
  refine lv_goto (tgt := 47) hx hb dX10_worth_107 (by decide) ?_
  exact hkk p1 p2 p3 v1 v3 X _ _ _ hP hS (lv_sub hl [2, 3, 4, 5, 1, 0] rfl) ha_l0 hf

set_option maxRecDepth 100000 in
set_option maxHeartbeats 4000000 in
theorem s_X10_worth_L47 {p : Program} {l : Launch} {e : Env} {s : State} {m : MethodId} {args : Array Value} {below : List Frame} {meth : Method} {c : Code} {D : va_G} {cA : Nat → ClassId} {ad : Nat → Nat → Nat} {NL : List (Nat × Nat)} {A : Nat → Prop} {rr : Int32} {XX : gM} {N : Nat} {k110 : Int32 → Int32 → Int32 → Int32 → gM → Option (Int32 × gM)} (C : gCx p c meth m s args cX10_worth 6 (some .int) RX10 D cA ad NL A) (hW : gWf NL) (hD0 : gD (fun _ => True) ad NL) (hk110 : ∀ (p1 : Int32) (p2 : Int32) (p3 : Int32) (p4 : Int32) (Y : gM) (H : Heap) (locs : List Loc) (ls : Array Slot), gH D cA ad NL Y H → va_S A s.heap H locs → lv_has ls 6 [(0, .ref (ad 43 0)), (1, .int p1), (2, .int p2), (3, .int p3), (4, .int p4)] → (43, 0) ∈ NL → k110 p1 p2 p3 p4 Y = some (rr, XX) → W p l e rm_X10_worth s m args below meth c H locs 0 0 (MQ below (gQ D cA ad NL (some (.int rr)) XX A) args s 0 0 A) (F0 m 110 ls [])) : ∀ (n : Nat) (p1 : Int32) (p2 : Int32) (p3 : Int32) (p4 : Int32) (p5 : Int32) (X : gM) (H : Heap) (locs : List Loc) (ls : Array Slot), gH D cA ad NL X H → va_S A s.heap H locs → lv_has ls 6 [(0, .ref (ad 43 0)), (1, .int p1), (2, .int p2), (3, .int p3), (4, .int p4), (5, .int p5)] → (43, 0) ∈ NL → X10_worth_L47 (gal NL) N k110 n p1 p2 p3 p4 p5 X = some (rr, XX) → W p l e rm_X10_worth s m args below meth c H locs 0 0 (MQ below (gQ D cA ad NL (some (.int rr)) XX A) args s 0 0 A) (F0 m 47 ls []) := by
  have hx := C.1
  have hb := C.2.1
  intro n
  induction n with
  | zero =>
    intro p1 p2 p3 p4 p5 X H locs ls hP hS hl ha_l0 hf
    rw [X10_worth_L47] at hf
    cases hf
  | succ n ih =>
    intro p1 p2 p3 p4 p5 X H locs ls hP hS hl ha_l0 hf
    rw [X10_worth_L47] at hf
    refine lv_iload hx hb dX10_worth_47 (lv_at hl 5 rfl) ?_
    refine lv_aload_n hx hb dX10_worth_49 rfl (lv_at hl 0 rfl) ?_
    refine r_get C hP ha_l0 (ct_43 _ _ _ _) fx_X10_13 (fg_43_2 _ _ _) dX10_worth_50 ?_
    refine lv_iload_n hx hb dX10_worth_53 rfl (lv_at hl 3 rfl) ?_
    obtain ⟨j1, h2, hf⟩ := rd_in hf
    refine r_iald C hP (gs_43_2 hW ha_l0) (ct_45 _ _ _ _) h2 dX10_worth_54 ?_
    refine lv_aload_n hx hb dX10_worth_55 rfl (lv_at hl 0 rfl) ?_
    refine r_get C hP ha_l0 (ct_43 _ _ _ _) fx_X10_16 (fg_43_3 _ _ _) dX10_worth_56 ?_
    refine lv_iload_n hx hb dX10_worth_59 rfl (lv_at hl 3 rfl) ?_
    obtain ⟨j3, h4, hf⟩ := rd_in hf
    refine r_iald C hP (gs_43_3 hW ha_l0) (ct_46 _ _ _ _) h4 dX10_worth_60 ?_
    refine lv_imul hx hb dX10_worth_61 ?_
    refine lv_icmp_ge (tgt := 110) hx hb dX10_worth_62 (by decide) (fun c5 => ?_) (fun c5 => ?_)
    · have hf := g_ip c5 hf
      exact hk110 p1 p2 p3 p4 X _ _ _ hP hS (lv_sub hl [0, 1, 2, 3, 4] rfl) ha_l0 hf
    · have hf := g_in c5 hf
      refine lv_iload hx hb dX10_worth_65 (lv_at hl 4 rfl) ?_
      refine lv_aload_n hx hb dX10_worth_67 rfl (lv_at hl 0 rfl) ?_
      refine lv_iload_n hx hb dX10_worth_68 rfl (lv_at hl 3 rfl) ?_
      refine lv_iload hx hb dX10_worth_69 (lv_at hl 5 rfl) ?_
      refine lv_aload_n hx hb dX10_worth_71 rfl (lv_at hl 0 rfl) ?_
      refine r_get C hP ha_l0 (ct_43 _ _ _ _) fx_X10_16 (fg_43_3 _ _ _) dX10_worth_72 ?_
      refine lv_iload_n hx hb dX10_worth_75 rfl (lv_at hl 3 rfl) ?_
      obtain ⟨j6, h7, hf⟩ := rd_in hf
      refine r_iald C hP (gs_43_3 hW ha_l0) (ct_46 _ _ _ _) h7 dX10_worth_76 ?_
      obtain ⟨h9, hf⟩ := nz_in hf
      refine lv_idiv hx hb dX10_worth_77 h9 ?_
      refine lv_iload hx hb dX10_worth_78 (lv_at hl 5 rfl) ?_
      refine lv_aload_n hx hb dX10_worth_80 rfl (lv_at hl 0 rfl) ?_
      refine r_get C hP ha_l0 (ct_43 _ _ _ _) fx_X10_16 (fg_43_3 _ _ _) dX10_worth_81 ?_
      refine lv_iload_n hx hb dX10_worth_84 rfl (lv_at hl 3 rfl) ?_
      obtain ⟨j10, h11, hf⟩ := rd_in hf
      refine r_iald C hP (gs_43_3 hW ha_l0) (ct_46 _ _ _ _) h11 dX10_worth_85 ?_
      obtain ⟨h13, hf⟩ := nz_in hf
      refine lv_irem hx hb dX10_worth_86 h13 ?_
      obtain ⟨r14, X15, h16, hf⟩ := b2_in hf
      refine r_cSi (rest := [.ref (ad 43 0), .int p4]) C hP hS hl.1 (s_X10_cellAt hW hD0  h16) ix_X10_cellAt is_X10_cellAt ls_X10_153 ⟨rfl, rfl, Nat.le_of_ble_eq_true rfl, Nat.le_of_ble_eq_true rfl⟩ rfl rfl (Nat.le_of_ble_eq_true rfl) ⟨Nat.zero_le _, Nat.zero_le _⟩ dX10_worth_87 (fun H locs hP hS => ?_)
      obtain ⟨r17, X18, h19, hf⟩ := b2_in hf
      refine r_cVi (rest := [.int p4]) C hP hS hl.1 (s_X10_unmixes hW hD0 ha_l0 h19) ix_X10_unmixes iv_X10_unmixes lk_X10_147 ⟨rfl, rfl, Nat.le_of_ble_eq_true rfl, Nat.le_of_ble_eq_true rfl⟩ ha_l0 (ct_43 _ _ _ _) rfl rfl rfl rfl (Nat.le_of_ble_eq_true rfl) ⟨Nat.zero_le _, Nat.zero_le _⟩ dX10_worth_90 (fun H locs hP hS => ?_)
      refine lv_if_eq (tgt := 100) hx hb dX10_worth_93 (by decide) (fun c20 => ?_) (fun c20 => ?_)
      · have hf := g_ip c20 hf
        refine lv_iconst (v := 1) hx hb dX10_worth_100 (by decide) ?_
        exact s_X10_worth_J101 C hW hD0 ih hk110 p1 p2 p3 p5 p4 (1 : Int32) X18 _ _ _ hP hS (lv_sub hl [0, 1, 2, 3, 5] rfl) ha_l0 hf
      · have hf := g_in c20 hf
        refine lv_iconst (v := 0) hx hb dX10_worth_96 (by decide) ?_
        refine lv_goto (tgt := 101) hx hb dX10_worth_97 (by decide) ?_
        exact s_X10_worth_J101 C hW hD0 ih hk110 p1 p2 p3 p5 p4 (0 : Int32) X18 _ _ _ hP hS (lv_sub hl [0, 1, 2, 3, 5] rfl) ha_l0 hf

set_option maxRecDepth 100000 in
set_option maxHeartbeats 4000000 in
theorem s_X10_worth_L33 {p : Program} {l : Launch} {e : Env} {s : State} {m : MethodId} {args : Array Value} {below : List Frame} {meth : Method} {c : Code} {D : va_G} {cA : Nat → ClassId} {ad : Nat → Nat → Nat} {NL : List (Nat × Nat)} {A : Nat → Prop} {rr : Int32} {XX : gM} {N : Nat} {k168 : Int32 → gM → Option (Int32 × gM)} (C : gCx p c meth m s args cX10_worth 6 (some .int) RX10 D cA ad NL A) (hW : gWf NL) (hD0 : gD (fun _ => True) ad NL) (hk168 : ∀ (p1 : Int32) (Y : gM) (H : Heap) (locs : List Loc) (ls : Array Slot), gH D cA ad NL Y H → va_S A s.heap H locs → lv_has ls 6 [(1, .int p1)] → k168 p1 Y = some (rr, XX) → W p l e rm_X10_worth s m args below meth c H locs 0 0 (MQ below (gQ D cA ad NL (some (.int rr)) XX A) args s 0 0 A) (F0 m 168 ls [])) : ∀ (n : Nat) (p1 : Int32) (p2 : Int32) (p3 : Int32) (X : gM) (H : Heap) (locs : List Loc) (ls : Array Slot), gH D cA ad NL X H → va_S A s.heap H locs → lv_has ls 6 [(0, .ref (ad 43 0)), (1, .int p1), (2, .int p2), (3, .int p3)] → (43, 0) ∈ NL → X10_worth_L33 (gal NL) N k168 n p1 p2 p3 X = some (rr, XX) → W p l e rm_X10_worth s m args below meth c H locs 0 0 (MQ below (gQ D cA ad NL (some (.int rr)) XX A) args s 0 0 A) (F0 m 33 ls []) := by
  have hx := C.1
  have hb := C.2.1
  intro n
  induction n with
  | zero =>
    intro p1 p2 p3 X H locs ls hP hS hl ha_l0 hf
    rw [X10_worth_L33] at hf
    cases hf
  | succ n ih =>
    intro p1 p2 p3 X H locs ls hP hS hl ha_l0 hf
    rw [X10_worth_L33] at hf
    refine lv_iload_n hx hb dX10_worth_33 rfl (lv_at hl 3 rfl) ?_
    refine lv_aload_n hx hb dX10_worth_34 rfl (lv_at hl 0 rfl) ?_
    refine r_get C hP ha_l0 (ct_43 _ _ _ _) fx_X10_126 (fg_43_0 _ _ _) dX10_worth_35 ?_
    refine lv_icmp_ge (tgt := 168) hx hb dX10_worth_38 (by decide) (fun c1 => ?_) (fun c1 => ?_)
    · have hf := g_ip c1 hf
      exact hk168 p1 X _ _ _ hP hS (lv_sub hl [1] rfl) hf
    · have hf := g_in c1 hf
      refine lv_iconst (v := 0) hx hb dX10_worth_41 (by decide) ?_
      refine lv_istore (i := 4) (lv' := [(4, .int (0 : Int32)), (0, .ref (ad 43 0)), (1, .int p1), (2, .int p2), (3, .int p3)]) hx hb dX10_worth_42 hl (Nat.le_of_ble_eq_true rfl) rfl (fun ls hl => ?_)
      refine lv_iconst (v := 0) hx hb dX10_worth_44 (by decide) ?_
      refine lv_istore (i := 5) (lv' := [(5, .int (0 : Int32)), (4, .int (0 : Int32)), (0, .ref (ad 43 0)), (1, .int p1), (2, .int p2), (3, .int p3)]) hx hb dX10_worth_45 hl (Nat.le_of_ble_eq_true rfl) rfl (fun ls hl => ?_)
      exact s_X10_worth_L47 C hW hD0 (fun p1 p2 p3 p4 Y H locs ls hP hS hl ha_l0 hf => s_X10_worth_J110 C hW hD0 ih hk168 p1 p2 p3 p4 Y _ _ _ hP hS hl ha_l0 hf) N p1 p2 p3 (0 : Int32) (0 : Int32) X _ _ _ hP hS (lv_sub hl [2, 3, 4, 5, 1, 0] rfl) ha_l0 hf

set_option maxRecDepth 100000 in
set_option maxHeartbeats 4000000 in
theorem s_X10_worth_J31 {p : Program} {l : Launch} {e : Env} {s : State} {m : MethodId} {args : Array Value} {below : List Frame} {meth : Method} {c : Code} {D : va_G} {cA : Nat → ClassId} {ad : Nat → Nat → Nat} {NL : List (Nat × Nat)} {A : Nat → Prop} {rr : Int32} {XX : gM} {N : Nat} (C : gCx p c meth m s args cX10_worth 6 (some .int) RX10 D cA ad NL A) (hW : gWf NL) (hD0 : gD (fun _ => True) ad NL) : ∀ (p1 : Int32) (p2 : Int32) (X : gM) (H : Heap) (locs : List Loc) (ls : Array Slot), gH D cA ad NL X H → va_S A s.heap H locs → lv_has ls 6 [(0, .ref (ad 43 0)), (1, .int p1), (2, .int p2)] → (43, 0) ∈ NL → X10_worth_J31 (gal NL) N p1 p2 X = some (rr, XX) → W p l e rm_X10_worth s m args below meth c H locs 0 0 (MQ below (gQ D cA ad NL (some (.int rr)) XX A) args s 0 0 A) (F0 m 31 ls []) := by
  have hx := C.1
  have hb := C.2.1
  intro p1 p2 X H locs ls hP hS hl ha_l0 hf
  rw [X10_worth_J31] at hf
  refine lv_iconst (v := 0) hx hb dX10_worth_31 (by decide) ?_
  refine lv_istore_n (i := 3) (lv' := [(3, .int (0 : Int32)), (0, .ref (ad 43 0)), (1, .int p1), (2, .int p2)]) hx hb dX10_worth_32 rfl hl (Nat.le_of_ble_eq_true rfl) rfl (fun ls hl => ?_)
  exact s_X10_worth_L33 C hW hD0 (fun p1 Y H locs ls hP hS hl hf => s_X10_worth_J168 C hW hD0 p1 Y _ _ _ hP hS hl hf) N p1 p2 (0 : Int32) X _ _ _ hP hS (lv_sub hl [1, 2, 3, 0] rfl) ha_l0 hf

set_option maxRecDepth 100000 in
set_option maxHeartbeats 4000000 in
theorem s_X10_worth_L11 {p : Program} {l : Launch} {e : Env} {s : State} {m : MethodId} {args : Array Value} {below : List Frame} {meth : Method} {c : Code} {D : va_G} {cA : Nat → ClassId} {ad : Nat → Nat → Nat} {NL : List (Nat × Nat)} {A : Nat → Prop} {rr : Int32} {XX : gM} {N : Nat} {k31 : Int32 → Int32 → gM → Option (Int32 × gM)} (C : gCx p c meth m s args cX10_worth 6 (some .int) RX10 D cA ad NL A) (hW : gWf NL) (hD0 : gD (fun _ => True) ad NL) (hk31 : ∀ (p1 : Int32) (p2 : Int32) (Y : gM) (H : Heap) (locs : List Loc) (ls : Array Slot), gH D cA ad NL Y H → va_S A s.heap H locs → lv_has ls 6 [(0, .ref (ad 43 0)), (1, .int p1), (2, .int p2)] → (43, 0) ∈ NL → k31 p1 p2 Y = some (rr, XX) → W p l e rm_X10_worth s m args below meth c H locs 0 0 (MQ below (gQ D cA ad NL (some (.int rr)) XX A) args s 0 0 A) (F0 m 31 ls [])) : ∀ (n : Nat) (p1 : Int32) (p2 : Int32) (p3 : Int32) (X : gM) (H : Heap) (locs : List Loc) (ls : Array Slot), gH D cA ad NL X H → va_S A s.heap H locs → lv_has ls 6 [(0, .ref (ad 43 0)), (1, .int p1), (2, .int p2), (3, .int p3)] → (43, 0) ∈ NL → X10_worth_L11 (gal NL) N k31 n p1 p2 p3 X = some (rr, XX) → W p l e rm_X10_worth s m args below meth c H locs 0 0 (MQ below (gQ D cA ad NL (some (.int rr)) XX A) args s 0 0 A) (F0 m 11 ls []) := by
  have hx := C.1
  have hb := C.2.1
  intro n
  induction n with
  | zero =>
    intro p1 p2 p3 X H locs ls hP hS hl ha_l0 hf
    rw [X10_worth_L11] at hf
    cases hf
  | succ n ih =>
    intro p1 p2 p3 X H locs ls hP hS hl ha_l0 hf
    rw [X10_worth_L11] at hf
    refine lv_iload_n hx hb dX10_worth_11 rfl (lv_at hl 3 rfl) ?_
    refine lv_iconst (v := 2) hx hb dX10_worth_12 (by decide) ?_
    refine lv_icmp_ge (tgt := 31) hx hb dX10_worth_13 (by decide) (fun c1 => ?_) (fun c1 => ?_)
    · have hf := g_ip c1 hf
      exact hk31 p1 p2 X _ _ _ hP hS (lv_sub hl [0, 1, 2] rfl) ha_l0 hf
    · have hf := g_in c1 hf
      refine lv_aload_n hx hb dX10_worth_16 rfl (lv_at hl 0 rfl) ?_
      refine lv_iload_n hx hb dX10_worth_17 rfl (lv_at hl 3 rfl) ?_
      refine lv_iconst (v := 0) hx hb dX10_worth_18 (by decide) ?_
      refine lv_iconst (v := -1) hx hb dX10_worth_19 (by decide) ?_
      refine lv_iconst (v := -1) hx hb dX10_worth_20 (by decide) ?_
      refine lv_iconst (v := -1) hx hb dX10_worth_21 (by decide) ?_
      obtain ⟨r2, X3, h4, hf⟩ := b2_in hf
      refine r_cVv (rest := []) C hP hS hl.1 (s_X10_arranges hW hD0 ha_l0 h4) ix_X10_arranges iv_X10_arranges lk_X10_205 ⟨rfl, rfl, Nat.le_of_ble_eq_true rfl, Nat.le_of_ble_eq_true rfl⟩ ha_l0 (ct_43 _ _ _ _) rfl rfl rfl rfl (Nat.le_of_ble_eq_true rfl) ⟨Nat.zero_le _, Nat.zero_le _⟩ dX10_worth_22 (fun H locs hP hS => ?_)
      obtain ⟨v5, e6, hf⟩ := gl_in hf
      refine lv_iinc (v := v5) (lv' := [(3, .int v5), (0, .ref (ad 43 0)), (1, .int p1), (2, .int p2)]) hx hb dX10_worth_25 hl (k := 3) rfl (by rw [e6]; rfl) (Nat.le_of_ble_eq_true rfl) rfl (fun ls hl => ?_)
      refine lv_goto (tgt := 11) hx hb dX10_worth_28 (by decide) ?_
      exact ih p1 p2 v5 X3 _ _ _ hP hS (lv_sub hl [1, 2, 3, 0] rfl) ha_l0 hf

set_option maxRecDepth 100000 in
set_option maxHeartbeats 4000000 in
theorem w_X10_worth {p : Program} {l : Launch} {e : Env} {s : State} {m : MethodId} {args : Array Value} {below : List Frame} {meth : Method} {c : Code} {D : va_G} {cA : Nat → ClassId} {ad : Nat → Nat → Nat} {NL : List (Nat × Nat)} {A : Nat → Prop} {rr : Int32} {XX : gM} {N : Nat} (C : gCx p c meth m s args cX10_worth 6 (some .int) RX10 D cA ad NL A) (hW : gWf NL) (hD0 : gD (fun _ => True) ad NL) (ha_l0 : (43, 0) ∈ NL) : ∀ (X : gM) (H : Heap) (locs : List Loc) (ls : Array Slot), gH D cA ad NL X H → va_S A s.heap H locs → lv_has ls 6 [(0, .ref (ad 43 0))] → X10_worth (gal NL) N  X = some (rr, XX) → W p l e rm_X10_worth s m args below meth c H locs 0 0 (MQ below (gQ D cA ad NL (some (.int rr)) XX A) args s 0 0 A) (F0 m 0 ls []) := by
  have hx := C.1
  have hb := C.2.1
  intro X H locs ls hP hS hl hf
  rw [X10_worth] at hf
  refine lv_aload_n hx hb dX10_worth_0 rfl (lv_at hl 0 rfl) ?_
  refine lv_iconst (v := 0) hx hb dX10_worth_1 (by decide) ?_
  refine r_put C hP hS (0 : Int32) ha_l0 (ct_43 _ _ _ _) px_X10_122 (fp_43_46 _ _ _ _ _) (Nat.le_of_ble_eq_true rfl) rfl rfl dX10_worth_2 (fun H locs hP hS => ?_)
  obtain ⟨X1, e2, hf⟩ := gl_in hf
  rw [← e2] at hP
  refine lv_iconst (v := -1) hx hb dX10_worth_5 (by decide) ?_
  refine lv_istore_n (i := 1) (lv' := [(1, .int (-1 : Int32)), (0, .ref (ad 43 0))]) hx hb dX10_worth_6 rfl hl (Nat.le_of_ble_eq_true rfl) rfl (fun ls hl => ?_)
  refine lv_iconst (v := 0) hx hb dX10_worth_7 (by decide) ?_
  refine lv_istore_n (i := 2) (lv' := [(2, .int (0 : Int32)), (1, .int (-1 : Int32)), (0, .ref (ad 43 0))]) hx hb dX10_worth_8 rfl hl (Nat.le_of_ble_eq_true rfl) rfl (fun ls hl => ?_)
  refine lv_iconst (v := 0) hx hb dX10_worth_9 (by decide) ?_
  refine lv_istore_n (i := 3) (lv' := [(3, .int (0 : Int32)), (2, .int (0 : Int32)), (1, .int (-1 : Int32)), (0, .ref (ad 43 0))]) hx hb dX10_worth_10 rfl hl (Nat.le_of_ble_eq_true rfl) rfl (fun ls hl => ?_)
  exact s_X10_worth_L11 C hW hD0 (fun p1 p2 Y H locs ls hP hS hl ha_l0 hf => s_X10_worth_J31 C hW hD0 p1 p2 Y _ _ _ hP hS hl ha_l0 hf) N (-1 : Int32) (0 : Int32) (0 : Int32) X1 _ _ _ hP hS (lv_sub hl [3, 2, 1, 0] rfl) ha_l0 hf

theorem s_X10_worth {l : Launch} {D : va_G} {cA : Nat → ClassId} {ad : Nat → Nat → Nat} {NL : List (Nat × Nat)} {N : Nat} {X : gM} {rr : Int32} {XX : gM} (hW : gWf NL) (hD0 : gD (fun _ => True) ad NL) (ha_l0 : (43, 0) ∈ NL) (hf : X10_worth (gal NL) N  X = some (rr, XX)) : gC l yX10_worth cX10_worth 6 (some .int) rm_X10_worth D cA ad NL [.ref (ad 43 0)] X (some (.int rr)) XX :=
  g_ofW (by decide) hD0 (Nat.le_of_ble_eq_true rfl) rfl (fun p e s m below meth c ls C hP hS hl => w_X10_worth C hW hD0 ha_l0 X _ _ ls hP hS hl hf)
