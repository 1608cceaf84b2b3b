def rm_X10_hold : Room := { frames := 1, cells := 0, slots := 0, locals := 22 }
set_option maxRecDepth 100000 in
set_option maxHeartbeats 4000000 in
theorem s_X10_hold_J20 {p : Program} {l : Launch} {e : Env} {s : State} {m : MethodId} {args : Array Value} {below : List Frame} {meth : Method} {c : Code} {D : va_G} {cA : Nat → ClassId} {ad : Nat → Nat → Nat} {NL : List (Nat × Nat)} {A : Nat → Prop} {rr : Int32} {XX : gM} {N : Nat} (C : gCx p c meth m s args cX10_hold 4 (some .boolean) RX10 D cA ad NL A) (hW : gWf NL) (hD0 : gD (fun _ => True) ad NL) : ∀ (p1 : Int32) (p2 : Int32) (s1 : Int32) (X : gM) (H : Heap) (locs : List Loc) (ls : Array Slot), gH D cA ad NL X H → va_S A s.heap H locs → lv_has ls 4 [(0, .ref (ad 43 0)), (1, .int p1), (2, .int p2)] → (43, 0) ∈ NL → (43, 0) ∈ NL → X10_hold_J20 (gal NL) N p1 p2 s1 X = some (rr, XX) → W p l e rm_X10_hold s m args below meth c H locs 0 0 (MQ below (gQ D cA ad NL (some (.int rr)) XX A) args s 0 0 A) (F0 m 20 ls [.int s1, .ref (ad 43 0)]) := by
  have hx := C.1
  have hb := C.2.1
  intro p1 p2 s1 X H locs ls hP hS hl ha_l0 ha_s0 hf
  rw [X10_hold_J20] at hf
  refine r_put C hP hS s1 ha_s0 (ct_43 _ _ _ _) px_X10_122 (fp_43_46 _ _ _ _ _) (Nat.le_of_ble_eq_true rfl) rfl rfl dX10_hold_20 (fun H locs hP hS => ?_)
  obtain ⟨X1, e2, hf⟩ := gl_in hf
  rw [← e2] at hP
  refine lv_aload_n hx hb dX10_hold_23 rfl (lv_at hl 0 rfl) ?_
  refine r_get C hP ha_l0 (ct_43 _ _ _ _) fx_X10_122 (fg_43_46 _ _ _) dX10_hold_24 ?_
  refine lv_if_le (tgt := 32) hx hb dX10_hold_27 (by decide) (fun c3 => ?_) (fun c3 => ?_)
  · have hf := g_ip c3 hf
    refine lv_aload_n hx hb dX10_hold_32 rfl (lv_at hl 0 rfl) ?_
    refine r_get C hP ha_l0 (ct_43 _ _ _ _) fx_X10_80 (fg_43_28 _ _ _) dX10_hold_33 ?_
    refine lv_iload_n hx hb dX10_hold_36 rfl (lv_at hl 1 rfl) ?_
    obtain ⟨j4, h5, hf⟩ := rd_in hf
    refine r_zald C hP (gs_43_28 hW ha_l0) (ct_67 _ _ _ _) h5 dX10_hold_37 ?_
    refine g_top hf (fun v6 e7 hf => ?_)
    refine lv_istore_n (i := 3) (lv' := [(3, .int v6), (0, .ref (ad 43 0)), (1, .int p1), (2, .int p2)]) hx hb dX10_hold_38 rfl hl (Nat.le_of_ble_eq_true rfl) rfl (fun ls hl => ?_)
    refine lv_aload_n hx hb dX10_hold_39 rfl (lv_at hl 1 rfl) ?_
    refine r_get C hP ha_l0 (ct_43 _ _ _ _) fx_X10_80 (fg_43_28 _ _ _) dX10_hold_40 ?_
    refine lv_iload_n hx hb dX10_hold_43 rfl (lv_at hl 2 rfl) ?_
    refine lv_iload_n hx hb dX10_hold_44 rfl (lv_at hl 3 rfl) ?_
    obtain ⟨j8, h9, hf⟩ := rd_in hf
    obtain ⟨h10, hf⟩ := bz_in hf
    refine r_zast C hP hS h10 (gs_43_28 hW ha_l0) (fun _ => ct_67 _ _ _ _) h9 dX10_hold_45 (fun H locs hP hS => ?_)
    obtain ⟨X11, e12, hf⟩ := gl_in hf
    rw [← e12] at hP
    refine lv_iload_n hx hb dX10_hold_46 rfl (lv_at hl 0 rfl) ?_
    obtain ⟨h13, hf⟩ := bz_in hf
    obtain ⟨rfl, rfl⟩ := g_s1 hf
    exact r_zret C hP hS h13 dX10_hold_47
  · have hf := g_in c3 hf
    refine lv_iconst (v := 0) hx hb dX10_hold_30 (by decide) ?_
    obtain ⟨rfl, rfl⟩ := g_s1 hf
    exact r_zret C hP hS (by decide) dX10_hold_31

set_option maxRecDepth 100000 in
set_option maxHeartbeats 4000000 in
theorem w_X10_hold {p : Program} {l : Launch} {e : Env} {s : State} {m : MethodId} {args : Array Value} {below : List Frame} {meth : Method} {c : Code} {D : va_G} {cA : Nat → ClassId} {ad : Nat → Nat → Nat} {NL : List (Nat × Nat)} {A : Nat → Prop} {rr : Int32} {XX : gM} {N : Nat} (C : gCx p c meth m s args cX10_hold 4 (some .boolean) RX10 D cA ad NL A) (hW : gWf NL) (hD0 : gD (fun _ => True) ad NL) {p1 : Int32} {p2 : Int32} (ha_l0 : (43, 0) ∈ NL) : ∀ (X : gM) (H : Heap) (locs : List Loc) (ls : Array Slot), gH D cA ad NL X H → va_S A s.heap H locs → lv_has ls 4 [(0, .ref (ad 43 0)), (1, .int p1), (2, .int p2)] → X10_hold (gal NL) N p1 p2 X = some (rr, XX) → W p l e rm_X10_hold s m args below meth c H locs 0 0 (MQ below (gQ D cA ad NL (some (.int rr)) XX A) args s 0 0 A) (F0 m 0 ls []) := by
  have hx := C.1
  have hb := C.2.1
  intro X H locs ls hP hS hl hf
  rw [X10_hold] at hf
  refine lv_aload_n hx hb dX10_hold_0 rfl (lv_at hl 0 rfl) ?_
  refine lv_iload_n hx hb dX10_hold_1 rfl (lv_at hl 1 rfl) ?_
  refine lv_iconst (v := 0) hx hb dX10_hold_2 (by decide) ?_
  refine lv_aload_n hx hb dX10_hold_3 rfl (lv_at hl 0 rfl) ?_
  refine r_get C hP ha_l0 (ct_43 _ _ _ _) fx_X10_185 (fg_43_23 _ _ _) dX10_hold_4 ?_
  refine lv_iconst (v := 1) hx hb dX10_hold_7 (by decide) ?_
  refine lv_isub hx hb dX10_hold_8 ?_
  obtain ⟨r1, X2, h3, hf⟩ := b2_in hf
  refine r_cSi (rest := [.ref (ad 43 0)]) C hP hS hl.1 (s_X10_in hW hD0  h3) ix_X10_in is_X10_in ls_X10_129 ⟨rfl, rfl, Nat.le_of_ble_eq_true rfl, Nat.le_of_ble_eq_true rfl⟩ rfl rfl (Nat.le_of_ble_eq_true rfl) ⟨Nat.zero_le _, Nat.zero_le _⟩ dX10_hold_9 (fun H locs hP hS => ?_)
  refine lv_if_eq (tgt := 19) hx hb dX10_hold_12 (by decide) (fun c4 => ?_) (fun c4 => ?_)
  · have hf := g_ip c4 hf
    refine lv_iconst (v := 1) hx hb dX10_hold_19 (by decide) ?_
    exact s_X10_hold_J20 C hW hD0 p1 p2 (1 : Int32) X2 _ _ _ hP hS (lv_sub hl [0, 1, 2] rfl) ha_l0 ha_l0 hf
  · have hf := g_in c4 hf
    refine lv_iconst (v := 0) hx hb dX10_hold_15 (by decide) ?_
    refine lv_goto (tgt := 20) hx hb dX10_hold_16 (by decide) ?_
    exact s_X10_hold_J20 C hW hD0 p1 p2 (0 : Int32) X2 _ _ _ hP hS (lv_sub hl [0, 1, 2] rfl) ha_l0 ha_l0 hf

theorem s_X10_hold {l : Launch} {D : va_G} {cA : Nat → ClassId} {ad : Nat → Nat → Nat} {NL : List (Nat × Nat)} {N : Nat} {p1 : Int32} {p2 : Int32} {X : gM} {rr : Int32} {XX : gM} (hW : gWf NL) (hD0 : gD (fun _ => True) ad NL) (ha_l0 : (43, 0) ∈ NL) (hf : X10_hold (gal NL) N p1 p2 X = some (rr, XX)) : gC l yX10_hold cX10_hold 4 (some .boolean) rm_X10_hold D cA ad NL [.ref (ad 43 0), .int p1, .int p2] X (some (.int rr)) XX :=
  g_ofW (by decide) hD0 (Nat.le_of_ble_eq_true rfl) rfl (fun p e s m below meth c ls C hP hS hl => w_X10_hold C hW hD0 ha_l0 X _ _ ls hP hS hl hf)
def rm_X10_placeOf : Room := { frames := 0, cells := 0, slots := 0, locals := 0 }
set_option maxRecDepth 100000 in
set_option maxHeartbeats 4000000 in
theorem s_X10_placeOf_J40 {p : Program} {l : Launch} {e : Env} {s : State} {m : MethodId} {args : Array Value} {below : List Frame} {meth : Method} {c : Code} {D : va_G} {cA : Nat → ClassId} {ad : Nat → Nat → Nat} {NL : List (Nat × Nat)} {A : Nat → Prop} {rr : Int32} {XX : gM} {N : Nat} (C : gCx p c meth m s args cX10_placeOf 5 (some .int) RX10 D cA ad NL A) (hW : gWf NL) (hD0 : gD (fun _ => True) ad NL) : ∀ (p3 : Int32) (X : gM) (H : Heap) (locs : List Loc) (ls : Array Slot), gH D cA ad NL X H → va_S A s.heap H locs → lv_has ls 5 [(3, .int p3)] → X10_placeOf_J40 (gal NL) N p3 X = some (rr, XX) → W p l e rm_X10_placeOf s m args below meth c H locs 0 0 (MQ below (gQ D cA ad NL (some (.int rr)) XX A) args s 0 0 A) (F0 m 40 ls []) := by
  have hx := C.1
  have hb := C.2.1
  intro p3 X H locs ls hP hS hl hf
  rw [X10_placeOf_J40] at hf
  refine lv_iload_n hx hb dX10_placeOf_40 rfl (lv_at hl 0 rfl) ?_
  obtain ⟨rfl, rfl⟩ := g_s1 hf
  exact r_iret C hP hS dX10_placeOf_41

set_option maxRecDepth 100000 in
set_option maxHeartbeats 4000000 in
theorem s_X10_placeOf_J33 {p : Program} {l : Launch} {e : Env} {s : State} {m : MethodId} {args : Array Value} {below : List Frame} {meth : Method} {c : Code} {D : va_G} {cA : Nat → ClassId} {ad : Nat → Nat → Nat} {NL : List (Nat × Nat)} {A : Nat → Prop} {rr : Int32} {XX : gM} {N : Nat} {kk : Int32 → Int32 → Int32 → Int32 → gM → Option (Int32 × gM)} {k40 : Int32 → gM → Option (Int32 × gM)} (C : gCx p c meth m s args cX10_placeOf 5 (some .int) RX10 D cA ad NL A) (hW : gWf NL) (hD0 : gD (fun _ => True) ad NL) (hkk : ∀ (p1 : Int32) (p2 : Int32) (p3 : Int32) (p4 : Int32) (Y : gM) (H : Heap) (locs : List Loc) (ls : Array Slot), gH D cA ad NL Y H → va_S A s.heap H locs → lv_has ls 5 [(0, .ref (ad 43 0)), (1, .int p1), (2, .int p2), (3, .int p3), (4, .int p4)] → (43, 0) ∈ NL → kk p1 p2 p3 p4 Y = some (rr, XX) → W p l e rm_X10_placeOf s m args below meth c H locs 0 0 (MQ below (gQ D cA ad NL (some (.int rr)) XX A) args s 0 0 A) (F0 m 5 ls [])) (hk40 : ∀ (p3 : Int32) (Y : gM) (H : Heap) (locs : List Loc) (ls : Array Slot), gH D cA ad NL Y H → va_S A s.heap H locs → lv_has ls 5 [(3, .int p3)] → k40 p3 Y = some (rr, XX) → W p l e rm_X10_placeOf s m args below meth c H locs 0 0 (MQ below (gQ D cA ad NL (some (.int rr)) XX A) args s 0 0 A) (F0 m 40 ls [])) : ∀ (p1 : Int32) (p2 : Int32) (p4 : Int32) (s0 : Int32) (X : gM) (H : Heap) (locs : List Loc) (ls : Array Slot), gH D cA ad NL X H → va_S A s.heap H locs → lv_has ls 5 [(0, .ref (ad 43 0)), (1, .int p1), (2, .int p2), (4, .int p4)] → (43, 0) ∈ NL → X10_placeOf_J33 (gal NL) N kk k40 p1 p2 p4 s0 X = some (rr, XX) → W p l e rm_X10_placeOf s m args below meth c H locs 0 0 (MQ below (gQ D cA ad NL (some (.int rr)) XX A) args s 0 0 A) (F0 m 33 ls [.int s0]) := by
  have hx := C.1
  have hb := C.2.1
  intro p1 p2 p4 s0 X H locs ls hP hS hl ha_l0 hf
  rw [X10_placeOf_J33] at hf
  refine lv_istore_n (i := 3) (lv' := [(3, .int s0), (0, .ref (ad 43 0)), (1, .int p1), (2, .int p2), (4, .int p4)]) hx hb dX10_placeOf_33 rfl hl (Nat.le_of_ble_eq_true rfl) rfl (fun ls hl => ?_)
  obtain ⟨v1, e2, hf⟩ := gl_in hf
  refine lv_iinc (v := v1) (lv' := [(4, .int v1), (3, .int s0), (0, .ref (ad 43 0)), (1, .int p1), (2, .int p2)]) hx hb dX10_placeOf_34 hl (k := 4) rfl (by rw [e2]; rfl) (Nat.le_of_ble_eq_true rfl) rfl (fun ls hl => ?_)
  refine lv_goto (tgt := 5) hx hb dX10_placeOf_37 (by decide) ?_
  exact hkk p1 p2 s0 v1 X _ _ _ hP hS (lv_sub hl [2, 3, 4, 1, 0] rfl) ha_l0 hf

set_option maxRecDepth 100000 in
set_option maxHeartbeats 4000000 in
theorem s_X10_placeOf_L5 {p : Program} {l : Launch} {e : Env} {s : State} {m : MethodId} {args : Array Value} {below : List Frame} {meth : Method} {c : Code} {D : va_G} {cA : Nat → ClassId} {ad : Nat → Nat → Nat} {NL : List (Nat × Nat)} {A : Nat → Prop} {rr : Int32} {XX : gM} {N : Nat} {k40 : Int32 → gM → Option (Int32 × gM)} (C : gCx p c meth m s args cX10_placeOf 5 (some .int) RX10 D cA ad NL A) (hW : gWf NL) (hD0 : gD (fun _ => True) ad NL) (hk40 : ∀ (p3 : Int32) (Y : gM) (H : Heap) (locs : List Loc) (ls : Array Slot), gH D cA ad NL Y H → va_S A s.heap H locs → lv_has ls 5 [(3, .int p3)] → k40 p3 Y = some (rr, XX) → W p l e rm_X10_placeOf s m args below meth c H locs 0 0 (MQ below (gQ D cA ad NL (some (.int rr)) XX A) args s 0 0 A) (F0 m 40 ls [])) : ∀ (n : Nat) (p1 : Int32) (p2 : Int32) (p3 : Int32) (p4 : Int32) (X : gM) (H : Heap) (locs : List Loc) (ls : Array Slot), gH D cA ad NL X H → va_S A s.heap H locs → lv_has ls 5 [(0, .ref (ad 43 0)), (1, .int p1), (2, .int p2), (3, .int p3), (4, .int p4)] → (43, 0) ∈ NL → X10_placeOf_L5 (gal NL) N k40 n p1 p2 p3 p4 X = some (rr, XX) → W p l e rm_X10_placeOf s m args below meth c H locs 0 0 (MQ below (gQ D cA ad NL (some (.int rr)) XX A) args s 0 0 A) (F0 m 5 ls []) := by
  have hx := C.1
  have hb := C.2.1
  intro n
  induction n with
  | zero =>
    intro p1 p2 p3 p4 X H locs ls hP hS hl ha_l0 hf
    rw [X10_placeOf_L5] at hf
    cases hf
  | succ n ih =>
    intro p1 p2 p3 p4 X H locs ls hP hS hl ha_l0 hf
    rw [X10_placeOf_L5] at hf
    refine lv_iload hx hb dX10_placeOf_5 (lv_at hl 4 rfl) ?_
    refine lv_iload_n hx hb dX10_placeOf_7 rfl (lv_at hl 2 rfl) ?_
    refine lv_icmp_ge (tgt := 40) hx hb dX10_placeOf_8 (by decide) (fun c1 => ?_) (fun c1 => ?_)
    · have hf := g_ip c1 hf
      exact hk40 p3 X _ _ _ hP hS (lv_sub hl [3] rfl) hf
    · have hf := g_in c1 hf
      refine lv_aload_n hx hb dX10_placeOf_11 rfl (lv_at hl 0 rfl) ?_
      refine r_get C hP ha_l0 (ct_43 _ _ _ _) fx_X10_104 (fg_43_38 _ _ _) dX10_placeOf_12 ?_
      refine lv_iload hx hb dX10_placeOf_15 (lv_at hl 4 rfl) ?_
      obtain ⟨j2, h3, hf⟩ := rd_in hf
      refine r_iald C hP (gs_43_38 hW ha_l0) (ct_75 _ _ _ _) h3 dX10_placeOf_17 ?_
      refine lv_iload_n hx hb dX10_placeOf_18 rfl (lv_at hl 1 rfl) ?_
      refine lv_icmp_ne (tgt := 32) hx hb dX10_placeOf_19 (by decide) (fun c4 => ?_) (fun c4 => ?_)
      · have hf := g_in c4 hf
        refine lv_iload_n hx hb dX10_placeOf_32 rfl (lv_at hl 3 rfl) ?_
        exact s_X10_placeOf_J33 C hW hD0 ih hk40 p1 p2 p4 p3 X _ _ _ hP hS (lv_sub hl [0, 1, 2, 4] rfl) ha_l0 hf
      · have hf := g_ip c4 hf
        refine lv_aload_n hx hb dX10_placeOf_22 rfl (lv_at hl 0 rfl) ?_
        refine r_get C hP ha_l0 (ct_43 _ _ _ _) fx_X10_107 (fg_43_39 _ _ _) dX10_placeOf_23 ?_
        refine lv_iload hx hb dX10_placeOf_26 (lv_at hl 4 rfl) ?_
        obtain ⟨j5, h6, hf⟩ := rd_in hf
        refine r_iald C hP (gs_43_39 hW ha_l0) (ct_76 _ _ _ _) h6 dX10_placeOf_28 ?_
        refine lv_goto (tgt := 33) hx hb dX10_placeOf_29 (by decide) ?_
        exact s_X10_placeOf_J33 C hW hD0 ih hk40 p1 p2 p4 ((X 76 0 j5)) X _ _ _ hP hS (lv_sub hl [0, 1, 2, 4] rfl) ha_l0 hf

set_option maxRecDepth 100000 in
set_option maxHeartbeats 4000000 in
theorem w_X10_placeOf {p : Program} {l : Launch} {e : Env} {s : State} {m : MethodId} {args : Array Value} {below : List Frame} {meth : Method} {c : Code} {D : va_G} {cA : Nat → ClassId} {ad : Nat → Nat → Nat} {NL : List (Nat × Nat)} {A : Nat → Prop} {rr : Int32} {XX : gM} {N : Nat} (C : gCx p c meth m s args cX10_placeOf 5 (some .int) RX10 D cA ad NL A) (hW : gWf NL) (hD0 : gD (fun _ => True) ad NL) {p1 : Int32} {p2 : Int32} (ha_l0 : (43, 0) ∈ NL) : ∀ (X : gM) (H : Heap) (locs : List Loc) (ls : Array Slot), gH D cA ad NL X H → va_S A s.heap H locs → lv_has ls 5 [(0, .ref (ad 43 0)), (1, .int p1), (2, .int p2)] → X10_placeOf (gal NL) N p1 p2 X = some (rr, XX) → W p l e rm_X10_placeOf s m args below meth c H locs 0 0 (MQ below (gQ D cA ad NL (some (.int rr)) XX A) args s 0 0 A) (F0 m 0 ls []) := by
  have hx := C.1
  have hb := C.2.1
  intro X H locs ls hP hS hl hf
  rw [X10_placeOf] at hf
  refine lv_iconst (v := -1) hx hb dX10_placeOf_0 (by decide) ?_
  refine lv_istore_n (i := 3) (lv' := [(3, .int (-1 : Int32)), (0, .ref (ad 43 0)), (1, .int p1), (2, .int p2)]) hx hb dX10_placeOf_1 rfl hl (Nat.le_of_ble_eq_true rfl) rfl (fun ls hl => ?_)
  refine lv_iconst (v := 0) hx hb dX10_placeOf_2 (by decide) ?_
  refine lv_istore (i := 4) (lv' := [(4, .int (0 : Int32)), (3, .int (-1 : Int32)), (0, .ref (ad 43 0)), (1, .int p1), (2, .int p2)]) hx hb dX10_placeOf_3 hl (Nat.le_of_ble_eq_true rfl) rfl (fun ls hl => ?_)
  exact s_X10_placeOf_L5 C hW hD0 (fun p3 Y H locs ls hP hS hl hf => s_X10_placeOf_J40 C hW hD0 p3 Y _ _ _ hP hS hl hf) N p1 p2 (-1 : Int32) (0 : Int32) X _ _ _ hP hS (lv_sub hl [2, 3, 4, 1, 0] rfl) ha_l0 hf

theorem s_X10_placeOf {l : Launch} {D : va_G} {cA : Nat → ClassId} {ad : Nat → Nat → Nat} {NL : List (Nat × Nat)} {N : Nat} {p1 : Int32} {p2 : Int32} {X : gM} {rr : Int32} {XX : gM} (hW : gWf NL) (hD0 : gD (fun _ => True) ad NL) (ha_l0 : (43, 0) ∈ NL) (hf : X10_placeOf (gal NL) N p1 p2 X = some (rr, XX)) : gC l yX10_placeOf cX10_placeOf 5 (some .int) rm_X10_placeOf D cA ad NL [.ref (ad 43 0), .int p1, .int p2] X (some (.int rr)) XX :=
  g_ofW (by decide) hD0 (Nat.le_of_ble_eq_true rfl) rfl (fun p e s m below meth c ls C hP hS hl => w_X10_placeOf C hW hD0 ha_l0 X _ _ ls hP hS hl hf)
def rm_X10_fitsFact : Room := { frames := 1, cells := 0, slots := 0, locals := 24 }
set_option maxRecDepth 100000 in
set_option maxHeartbeats 4000000 in
theorem s_X10_fitsFact_J160 {p : Program} {l : Launch} {e : Env} {s : State} {m : MethodId} {args : Array Value} {below : List Frame} {meth : Method} {c : Code} {D : va_G} {cA : Nat → ClassId} {ad : Nat → Nat → Nat} {NL : List (Nat × Nat)} {A : Nat → Prop} {rr : Int32} {XX : gM} {N : Nat} (C : gCx p c meth m s args cX10_fitsFact 8 (some .boolean) RX10 D cA ad NL A) (hW : gWf NL) (hD0 : gD (fun _ => True) ad NL) : ∀ (s0 : Int32) (X : gM) (H : Heap) (locs : List Loc) (ls : Array Slot), gH D cA ad NL X H → va_S A s.heap H locs → lv_has ls 8 [] → X10_fitsFact_J160 (gal NL) N s0 X = some (rr, XX) → W p l e rm_X10_fitsFact s m args below meth c H locs 0 0 (MQ below (gQ D cA ad NL (some (.int rr)) XX A) args s 0 0 A) (F0 m 160 ls [.int s0]) := by
  have hx := C.1
  have hb := C.2.1
  intro s0 X H locs ls hP hS hl hf
  rw [X10_fitsFact_J160] at hf
  obtain ⟨h1, hf⟩ := bz_in hf
  obtain ⟨rfl, rfl⟩ := g_s1 hf
  exact r_zret C hP hS h1 dX10_fitsFact_160

set_option maxRecDepth 100000 in
set_option maxHeartbeats 4000000 in
theorem s_X10_fitsFact_J73 {p : Program} {l : Launch} {e : Env} {s : State} {m : MethodId} {args : Array Value} {below : List Frame} {meth : Method} {c : Code} {D : va_G} {cA : Nat → ClassId} {ad : Nat → Nat → Nat} {NL : List (Nat × Nat)} {A : Nat → Prop} {rr : Int32} {XX : gM} {N : Nat} (C : gCx p c meth m s args cX10_fitsFact 8 (some .boolean) RX10 D cA ad NL A) (hW : gWf NL) (hD0 : gD (fun _ => True) ad NL) : ∀ (p4 : Int32) (p5 : Int32) (p6 : Int32) (s0 : Int32) (X : gM) (H : Heap) (locs : List Loc) (ls : Array Slot), gH D cA ad NL X H → va_S A s.heap H locs → lv_has ls 8 [(4, .int p4), (5, .int p5), (6, .int p6)] → X10_fitsFact_J73 (gal NL) N p4 p5 p6 s0 X = some (rr, XX) → W p l e rm_X10_fitsFact s m args below meth c H locs 0 0 (MQ below (gQ D cA ad NL (some (.int rr)) XX A) args s 0 0 A) (F0 m 73 ls [.int s0]) := by
  have hx := C.1
  have hb := C.2.1
  intro p4 p5 p6 s0 X H locs ls hP hS hl hf
  rw [X10_fitsFact_J73] at hf
  refine lv_istore (i := 7) (lv' := [(7, .int s0), (4, .int p4), (5, .int p5), (6, .int p6)]) hx hb dX10_fitsFact_73 hl (Nat.le_of_ble_eq_true rfl) rfl (fun ls hl => ?_)
  refine lv_iload hx hb dX10_fitsFact_75 (lv_at hl 2 rfl) ?_
  refine lv_if_ne (tgt := 85) hx hb dX10_fitsFact_77 (by decide) (fun c1 => ?_) (fun c1 => ?_)
  · have hf := g_in c1 hf
    refine lv_iload hx hb dX10_fitsFact_85 (lv_at hl 2 rfl) ?_
    refine lv_iconst (v := 1) hx hb dX10_fitsFact_87 (by decide) ?_
    refine lv_icmp_ne (tgt := 108) hx hb dX10_fitsFact_88 (by decide) (fun c2 => ?_) (fun c2 => ?_)
    · have hf := g_in c2 hf
      refine lv_iload hx hb dX10_fitsFact_108 (lv_at hl 2 rfl) ?_
      refine lv_iconst (v := 2) hx hb dX10_fitsFact_110 (by decide) ?_
      refine lv_icmp_ne (tgt := 129) hx hb dX10_fitsFact_111 (by decide) (fun c3 => ?_) (fun c3 => ?_)
      · have hf := g_in c3 hf
        refine lv_iload hx hb dX10_fitsFact_129 (lv_at hl 2 rfl) ?_
        refine lv_iconst (v := 3) hx hb dX10_fitsFact_131 (by decide) ?_
        refine lv_icmp_ne (tgt := 150) hx hb dX10_fitsFact_132 (by decide) (fun c4 => ?_) (fun c4 => ?_)
        · have hf := g_in c4 hf
          refine lv_iload hx hb dX10_fitsFact_150 (lv_at hl 0 rfl) ?_
          refine lv_if_ne (tgt := 159) hx hb dX10_fitsFact_152 (by decide) (fun c5 => ?_) (fun c5 => ?_)
          · have hf := g_in c5 hf
            refine lv_iconst (v := 0) hx hb dX10_fitsFact_159 (by decide) ?_
            exact s_X10_fitsFact_J160 C hW hD0 (0 : Int32) X _ _ _ hP hS (lv_sub hl [] rfl) hf
          · have hf := g_ip c5 hf
            refine lv_iconst (v := 1) hx hb dX10_fitsFact_155 (by decide) ?_
            refine lv_goto (tgt := 160) hx hb dX10_fitsFact_156 (by decide) ?_
            exact s_X10_fitsFact_J160 C hW hD0 (1 : Int32) X _ _ _ hP hS (lv_sub hl [] rfl) hf
        · have hf := g_ip c4 hf
          refine lv_iload hx hb dX10_fitsFact_135 (lv_at hl 1 rfl) ?_
          refine lv_iload hx hb dX10_fitsFact_137 (lv_at hl 3 rfl) ?_
          refine lv_icmp_ne (tgt := 146) hx hb dX10_fitsFact_139 (by decide) (fun c6 => ?_) (fun c6 => ?_)
          · have hf := g_in c6 hf
            refine lv_iconst (v := 0) hx hb dX10_fitsFact_146 (by decide) ?_
            refine lv_goto (tgt := 160) hx hb dX10_fitsFact_147 (by decide) ?_
            exact s_X10_fitsFact_J160 C hW hD0 (0 : Int32) X _ _ _ hP hS (lv_sub hl [] rfl) hf
          · have hf := g_ip c6 hf
            refine lv_iconst (v := 1) hx hb dX10_fitsFact_142 (by decide) ?_
            refine lv_goto (tgt := 160) hx hb dX10_fitsFact_143 (by decide) ?_
            exact s_X10_fitsFact_J160 C hW hD0 (1 : Int32) X _ _ _ hP hS (lv_sub hl [] rfl) hf
      · have hf := g_ip c3 hf
        refine lv_iload hx hb dX10_fitsFact_114 (lv_at hl 1 rfl) ?_
        refine lv_iload hx hb dX10_fitsFact_116 (lv_at hl 3 rfl) ?_
        refine lv_icmp_ge (tgt := 125) hx hb dX10_fitsFact_118 (by decide) (fun c7 => ?_) (fun c7 => ?_)
        · have hf := g_ip c7 hf
          refine lv_iconst (v := 0) hx hb dX10_fitsFact_125 (by decide) ?_
          refine lv_goto (tgt := 160) hx hb dX10_fitsFact_126 (by decide) ?_
          exact s_X10_fitsFact_J160 C hW hD0 (0 : Int32) X _ _ _ hP hS (lv_sub hl [] rfl) hf
        · have hf := g_in c7 hf
          refine lv_iconst (v := 1) hx hb dX10_fitsFact_121 (by decide) ?_
          refine lv_goto (tgt := 160) hx hb dX10_fitsFact_122 (by decide) ?_
          exact s_X10_fitsFact_J160 C hW hD0 (1 : Int32) X _ _ _ hP hS (lv_sub hl [] rfl) hf
    · have hf := g_ip c2 hf
      refine lv_iload hx hb dX10_fitsFact_91 (lv_at hl 3 rfl) ?_
      refine lv_iload hx hb dX10_fitsFact_93 (lv_at hl 1 rfl) ?_
      refine lv_iconst (v := 1) hx hb dX10_fitsFact_95 (by decide) ?_
      refine lv_iadd hx hb dX10_fitsFact_96 ?_
      refine lv_icmp_ne (tgt := 104) hx hb dX10_fitsFact_97 (by decide) (fun c8 => ?_) (fun c8 => ?_)
      · have hf := g_in c8 hf
        refine lv_iconst (v := 0) hx hb dX10_fitsFact_104 (by decide) ?_
        refine lv_goto (tgt := 160) hx hb dX10_fitsFact_105 (by decide) ?_
        exact s_X10_fitsFact_J160 C hW hD0 (0 : Int32) X _ _ _ hP hS (lv_sub hl [] rfl) hf
      · have hf := g_ip c8 hf
        refine lv_iconst (v := 1) hx hb dX10_fitsFact_100 (by decide) ?_
        refine lv_goto (tgt := 160) hx hb dX10_fitsFact_101 (by decide) ?_
        exact s_X10_fitsFact_J160 C hW hD0 (1 : Int32) X _ _ _ hP hS (lv_sub hl [] rfl) hf
  · have hf := g_ip c1 hf
    refine lv_iload hx hb dX10_fitsFact_80 (lv_at hl 0 rfl) ?_
    refine lv_goto (tgt := 160) hx hb dX10_fitsFact_82 (by decide) ?_
    exact s_X10_fitsFact_J160 C hW hD0 s0 X _ _ _ hP hS (lv_sub hl [] rfl) hf

set_option maxRecDepth 100000 in
set_option maxHeartbeats 4000000 in
theorem s_X10_fitsFact_J55 {p : Program} {l : Launch} {e : Env} {s : State} {m : MethodId} {args : Array Value} {below : List Frame} {meth : Method} {c : Code} {D : va_G} {cA : Nat → ClassId} {ad : Nat → Nat → Nat} {NL : List (Nat × Nat)} {A : Nat → Prop} {rr : Int32} {XX : gM} {N : Nat} (C : gCx p c meth m s args cX10_fitsFact 8 (some .boolean) RX10 D cA ad NL A) (hW : gWf NL) (hD0 : gD (fun _ => True) ad NL) : ∀ (p3 : Int32) (p4 : Int32) (p5 : Int32) (s0 : Int32) (X : gM) (H : Heap) (locs : List Loc) (ls : Array Slot), gH D cA ad NL X H → va_S A s.heap H locs → lv_has ls 8 [(3, .int p3), (4, .int p4), (5, .int p5)] → X10_fitsFact_J55 (gal NL) N p3 p4 p5 s0 X = some (rr, XX) → W p l e rm_X10_fitsFact s m args below meth c H locs 0 0 (MQ below (gQ D cA ad NL (some (.int rr)) XX A) args s 0 0 A) (F0 m 55 ls [.int s0]) := by
  have hx := C.1
  have hb := C.2.1
  intro p3 p4 p5 s0 X H locs ls hP hS hl hf
  rw [X10_fitsFact_J55] at hf
  refine lv_istore (i := 6) (lv' := [(6, .int s0), (3, .int p3), (4, .int p4), (5, .int p5)]) hx hb dX10_fitsFact_55 hl (Nat.le_of_ble_eq_true rfl) rfl (fun ls hl => ?_)
  refine lv_iload hx hb dX10_fitsFact_57 (lv_at hl 2 rfl) ?_
  refine lv_iload hx hb dX10_fitsFact_59 (lv_at hl 0 rfl) ?_
  refine lv_iadd hx hb dX10_fitsFact_61 ?_
  refine lv_iload_n hx hb dX10_fitsFact_62 rfl (lv_at hl 1 rfl) ?_
  refine lv_iconst (v := 1) hx hb dX10_fitsFact_63 (by decide) ?_
  refine lv_isub hx hb dX10_fitsFact_64 ?_
  refine lv_icmp_ne (tgt := 72) hx hb dX10_fitsFact_65 (by decide) (fun c1 => ?_) (fun c1 => ?_)
  · have hf := g_in c1 hf
    refine lv_iconst (v := 0) hx hb dX10_fitsFact_72 (by decide) ?_
    exact s_X10_fitsFact_J73 C hW hD0 p4 p5 s0 (0 : Int32) X _ _ _ hP hS (lv_sub hl [2, 3, 0] rfl) hf
  · have hf := g_ip c1 hf
    refine lv_iconst (v := 1) hx hb dX10_fitsFact_68 (by decide) ?_
    refine lv_goto (tgt := 73) hx hb dX10_fitsFact_69 (by decide) ?_
    exact s_X10_fitsFact_J73 C hW hD0 p4 p5 s0 (1 : Int32) X _ _ _ hP hS (lv_sub hl [2, 3, 0] rfl) hf

set_option maxRecDepth 100000 in
set_option maxHeartbeats 4000000 in
theorem w_X10_fitsFact {p : Program} {l : Launch} {e : Env} {s : State} {m : MethodId} {args : Array Value} {below : List Frame} {meth : Method} {c : Code} {D : va_G} {cA : Nat → ClassId} {ad : Nat → Nat → Nat} {NL : List (Nat × Nat)} {A : Nat → Prop} {rr : Int32} {XX : gM} {N : Nat} (C : gCx p c meth m s args cX10_fitsFact 8 (some .boolean) RX10 D cA ad NL A) (hW : gWf NL) (hD0 : gD (fun _ => True) ad NL) {p1 : Int32} {p2 : Int32} {p3 : Int32} (ha_l0 : (43, 0) ∈ NL) : ∀ (X : gM) (H : Heap) (locs : List Loc) (ls : Array Slot), gH D cA ad NL X H → va_S A s.heap H locs → lv_has ls 8 [(0, .ref (ad 43 0)), (1, .int p1), (2, .int p2), (3, .int p3)] → X10_fitsFact (gal NL) N p1 p2 p3 X = some (rr, XX) → W p l e rm_X10_fitsFact s m args below meth c H locs 0 0 (MQ below (gQ D cA ad NL (some (.int rr)) XX A) args s 0 0 A) (F0 m 0 ls []) := by
  have hx := C.1
  have hb := C.2.1
  intro X H locs ls hP hS hl hf
  rw [X10_fitsFact] at hf
  refine lv_aload_n hx hb dX10_fitsFact_0 rfl (lv_at hl 0 rfl) ?_
  refine lv_aload_n hx hb dX10_fitsFact_1 rfl (lv_at hl 0 rfl) ?_
  refine r_get C hP ha_l0 (ct_43 _ _ _ _) fx_X10_70 (fg_43_25 _ _ _) dX10_fitsFact_2 ?_
  refine lv_iload_n hx hb dX10_fitsFact_5 rfl (lv_at hl 1 rfl) ?_
  obtain ⟨j1, h2, hf⟩ := rd_in hf
  refine r_iald C hP (gs_43_25 hW ha_l0) (ct_64 _ _ _ _) h2 dX10_fitsFact_6 ?_
  refine lv_iload_n hx hb dX10_fitsFact_7 rfl (lv_at hl 2 rfl) ?_
  obtain ⟨r3, X4, h5, hf⟩ := b2_in hf
  refine r_cVi (rest := []) C hP hS hl.1 (s_X10_placeOf hW hD0 ha_l0 h5) ix_X10_placeOf iv_X10_placeOf lk_X10_188 ⟨rfl, rfl, Nat.le_of_ble_eq_true rfl, Nat.le_of_ble_eq_true rfl⟩ ha_l0 (ct_43 _ _ _ _) rfl rfl rfl rfl (Nat.le_of_ble_eq_true rfl) ⟨Nat.zero_le _, Nat.zero_le _⟩ dX10_fitsFact_8 (fun H locs hP hS => ?_)
  refine lv_istore (i := 4) (lv' := [(4, .int r3), (0, .ref (ad 43 0)), (1, .int p1), (2, .int p2), (3, .int p3)]) hx hb dX10_fitsFact_11 hl (Nat.le_of_ble_eq_true rfl) rfl (fun ls hl => ?_)
  refine lv_aload_n hx hb dX10_fitsFact_13 rfl (lv_at hl 1 rfl) ?_
  refine r_get C hP ha_l0 (ct_43 _ _ _ _) fx_X10_67 (fg_43_24 _ _ _) dX10_fitsFact_14 ?_
  refine lv_iload_n hx hb dX10_fitsFact_17 rfl (lv_at hl 2 rfl) ?_
  obtain ⟨j6, h7, hf⟩ := rd_in hf
  refine r_iald C hP (gs_43_24 hW ha_l0) (ct_63 _ _ _ _) h7 dX10_fitsFact_18 ?_
  refine g_top hf (fun v8 e9 hf => ?_)
  refine lv_istore (i := 5) (lv' := [(5, .int v8), (4, .int r3), (0, .ref (ad 43 0)), (1, .int p1), (2, .int p2), (3, .int p3)]) hx hb dX10_fitsFact_19 hl (Nat.le_of_ble_eq_true rfl) rfl (fun ls hl => ?_)
  refine lv_iload hx hb dX10_fitsFact_21 (lv_at hl 1 rfl) ?_
  refine lv_iconst (v := -1) hx hb dX10_fitsFact_23 (by decide) ?_
  refine lv_icmp_ne (tgt := 29) hx hb dX10_fitsFact_24 (by decide) (fun c10 => ?_) (fun c10 => ?_)
  · have hf := g_in c10 hf
    refine lv_iload hx hb dX10_fitsFact_29 (lv_at hl 0 rfl) ?_
    refine lv_iconst (v := 3) hx hb dX10_fitsFact_31 (by decide) ?_
    refine lv_icmp_ne (tgt := 44) hx hb dX10_fitsFact_32 (by decide) (fun c11 => ?_) (fun c11 => ?_)
    · have hf := g_in c11 hf
      refine lv_aload_n hx hb dX10_fitsFact_44 rfl (lv_at hl 2 rfl) ?_
      refine lv_aload_n hx hb dX10_fitsFact_45 rfl (lv_at hl 2 rfl) ?_
      refine r_get C hP ha_l0 (ct_43 _ _ _ _) fx_X10_73 (fg_43_26 _ _ _) dX10_fitsFact_46 ?_
      refine lv_iload_n hx hb dX10_fitsFact_49 rfl (lv_at hl 3 rfl) ?_
      obtain ⟨j12, h13, hf⟩ := rd_in hf
      refine r_iald C hP (gs_43_26 hW ha_l0) (ct_65 _ _ _ _) h13 dX10_fitsFact_50 ?_
      refine lv_iload_n hx hb dX10_fitsFact_51 rfl (lv_at hl 4 rfl) ?_
      obtain ⟨r14, X15, h16, hf⟩ := b2_in hf
      refine r_cVi (rest := []) C hP hS hl.1 (s_X10_placeOf hW hD0 ha_l0 h16) ix_X10_placeOf iv_X10_placeOf lk_X10_188 ⟨rfl, rfl, Nat.le_of_ble_eq_true rfl, Nat.le_of_ble_eq_true rfl⟩ ha_l0 (ct_43 _ _ _ _) rfl rfl rfl rfl (Nat.le_of_ble_eq_true rfl) ⟨Nat.zero_le _, Nat.zero_le _⟩ dX10_fitsFact_52 (fun H locs hP hS => ?_)
      exact s_X10_fitsFact_J55 C hW hD0 p3 r3 v8 r14 X15 _ _ _ hP hS (lv_sub hl [5, 1, 0] rfl) hf
    · have hf := g_ip c11 hf
      refine lv_aload_n hx hb dX10_fitsFact_35 rfl (lv_at hl 2 rfl) ?_
      refine r_get C hP ha_l0 (ct_43 _ _ _ _) fx_X10_73 (fg_43_26 _ _ _) dX10_fitsFact_36 ?_
      refine lv_iload_n hx hb dX10_fitsFact_39 rfl (lv_at hl 3 rfl) ?_
      obtain ⟨j17, h18, hf⟩ := rd_in hf
      refine r_iald C hP (gs_43_26 hW ha_l0) (ct_65 _ _ _ _) h18 dX10_fitsFact_40 ?_
      refine lv_goto (tgt := 55) hx hb dX10_fitsFact_41 (by decide) ?_
      exact s_X10_fitsFact_J55 C hW hD0 p3 r3 v8 ((X4 65 0 j17)) X4 _ _ _ hP hS (lv_sub hl [5, 1, 0] rfl) hf
  · have hf := g_ip c10 hf
    refine lv_iconst (v := 1) hx hb dX10_fitsFact_27 (by decide) ?_
    obtain ⟨rfl, rfl⟩ := g_s1 hf
    exact r_zret C hP hS (by decide) dX10_fitsFact_28

theorem s_X10_fitsFact {l : Launch} {D : va_G} {cA : Nat → ClassId} {ad : Nat → Nat → Nat} {NL : List (Nat × Nat)} {N : Nat} {p1 : Int32} {p2 : Int32} {p3 : Int32} {X : gM} {rr : Int32} {XX : gM} (hW : gWf NL) (hD0 : gD (fun _ => True) ad NL) (ha_l0 : (43, 0) ∈ NL) (hf : X10_fitsFact (gal NL) N p1 p2 p3 X = some (rr, XX)) : gC l yX10_fitsFact cX10_fitsFact 8 (some .boolean) rm_X10_fitsFact D cA ad NL [.ref (ad 43 0), .int p1, .int p2, .int p3] X (some (.int rr)) XX :=
  g_ofW (by decide) hD0 (Nat.le_of_ble_eq_true rfl) rfl (fun p e s m below meth c ls C hP hS hl => w_X10_fitsFact C hW hD0 ha_l0 X _ _ ls hP hS hl hf)
def rm_X10_fits : Room := { frames := 2, cells := 0, slots := 0, locals := 51 }
set_option maxRecDepth 100000 in
set_option maxHeartbeats 4000000 in
theorem s_X10_fits_J433 {p : Program} {l : Launch} {e : Env} {s : State} {m : MethodId} {args : Array Value} {below : List Frame} {meth : Method} {c : Code} {D : va_G} {cA : Nat → ClassId} {ad : Nat → Nat → Nat} {NL : List (Nat × Nat)} {A : Nat → Prop} {rr : Int32} {XX : gM} {N : Nat} (C : gCx p c meth m s args cX10_fits 11 (some .boolean) RX10 D cA ad NL A) (hW : gWf NL) (hD0 : gD (fun _ => True) ad NL) : ∀ (p5 : Int32) (X : gM) (H : Heap) (locs : List Loc) (ls : Array Slot), gH D cA ad NL X H → va_S A s.heap H locs → lv_has ls 11 [(5, .int p5)] → X10_fits_J433 (gal NL) N p5 X = some (rr, XX) → W p l e rm_X10_fits s m args below meth c H locs 0 0 (MQ below (gQ D cA ad NL (some (.int rr)) XX A) args s 0 0 A) (F0 m 433 ls []) := by
  have hx := C.1
  have hb := C.2.1
  intro p5 X H locs ls hP hS hl hf
  rw [X10_fits_J433] at hf
  refine lv_iload hx hb dX10_fits_433 (lv_at hl 0 rfl) ?_
  obtain ⟨h1, hf⟩ := bz_in hf
  obtain ⟨rfl, rfl⟩ := g_s1 hf
  exact r_zret C hP hS h1 dX10_fits_435

set_option maxRecDepth 100000 in
set_option maxHeartbeats 4000000 in
theorem s_X10_fits_J427 {p : Program} {l : Launch} {e : Env} {s : State} {m : MethodId} {args : Array Value} {below : List Frame} {meth : Method} {c : Code} {D : va_G} {cA : Nat → ClassId} {ad : Nat → Nat → Nat} {NL : List (Nat × Nat)} {A : Nat → Prop} {rr : Int32} {XX : gM} {N : Nat} {kk : Int32 → Int32 → Int32 → gM → Option (Int32 × gM)} {k433 : Int32 → gM → Option (Int32 × gM)} (C : gCx p c meth m s args cX10_fits 11 (some .boolean) RX10 D cA ad NL A) (hW : gWf NL) (hD0 : gD (fun _ => True) ad NL) (hkk : ∀ (p1 : Int32) (p5 : Int32) (p6 : Int32) (Y : gM) (H : Heap) (locs : List Loc) (ls : Array Slot), gH D cA ad NL Y H → va_S A s.heap H locs → lv_has ls 11 [(0, .ref (ad 43 0)), (1, .int p1), (5, .int p5), (6, .int p6)] → (43, 0) ∈ NL → kk p1 p5 p6 Y = some (rr, XX) → W p l e rm_X10_fits s m args below meth c H locs 0 0 (MQ below (gQ D cA ad NL (some (.int rr)) XX A) args s 0 0 A) (F0 m 283 ls [])) (hk433 : ∀ (p5 : Int32) (Y : gM) (H : Heap) (locs : List Loc) (ls : Array Slot), gH D cA ad NL Y H → va_S A s.heap H locs → lv_has ls 11 [(5, .int p5)] → k433 p5 Y = some (rr, XX) → W p l e rm_X10_fits s m args below meth c H locs 0 0 (MQ below (gQ D cA ad NL (some (.int rr)) XX A) args s 0 0 A) (F0 m 433 ls [])) : ∀ (p1 : Int32) (p5 : Int32) (p6 : Int32) (X : gM) (H : Heap) (locs : List Loc) (ls : Array Slot), gH D cA ad NL X H → va_S A s.heap H locs → lv_has ls 11 [(0, .ref (ad 43 0)), (1, .int p1), (5, .int p5), (6, .int p6)] → (43, 0) ∈ NL → X10_fits_J427 (gal NL) N kk k433 p1 p5 p6 X = some (rr, XX) → W p l e rm_X10_fits s m args below meth c H locs 0 0 (MQ below (gQ D cA ad NL (some (.int rr)) XX A) args s 0 0 A) (F0 m 427 ls []) := by
  have hx := C.1
  have hb := C.2.1
  intro p1 p5 p6 X H locs ls hP hS hl ha_l0 hf
  rw [X10_fits_J427] at hf
  obtain ⟨v1, e2, hf⟩ := gl_in hf
  refine lv_iinc (v := v1) (lv' := [(6, .int v1), (0, .ref (ad 43 0)), (1, .int p1), (5, .int p5)]) hx hb dX10_fits_427 hl (k := 3) rfl (by rw [e2]; rfl) (Nat.le_of_ble_eq_true rfl) rfl (fun ls hl => ?_)
  refine lv_goto (tgt := 283) hx hb dX10_fits_430 (by decide) ?_
  exact hkk p1 p5 v1 X _ _ _ hP hS (lv_sub hl [1, 2, 3, 0] rfl) ha_l0 hf

set_option maxRecDepth 100000 in
set_option maxHeartbeats 4000000 in
theorem s_X10_fits_J419 {p : Program} {l : Launch} {e : Env} {s : State} {m : MethodId} {args : Array Value} {below : List Frame} {meth : Method} {c : Code} {D : va_G} {cA : Nat → ClassId} {ad : Nat → Nat → Nat} {NL : List (Nat × Nat)} {A : Nat → Prop} {rr : Int32} {XX : gM} {N : Nat} {kk : Int32 → Int32 → Int32 → Int32 → gM → Option (Int32 × gM)} {k427 : Int32 → Int32 → Int32 → gM → Option (Int32 × gM)} (C : gCx p c meth m s args cX10_fits 11 (some .boolean) RX10 D cA ad NL A) (hW : gWf NL) (hD0 : gD (fun _ => True) ad NL) (hkk : ∀ (p1 : Int32) (p5 : Int32) (p6 : Int32) (p7 : Int32) (Y : gM) (H : Heap) (locs : List Loc) (ls : Array Slot), gH D cA ad NL Y H → va_S A s.heap H locs → lv_has ls 11 [(0, .ref (ad 43 0)), (1, .int p1), (5, .int p5), (6, .int p6), (7, .int p7)] → (43, 0) ∈ NL → kk p1 p5 p6 p7 Y = some (rr, XX) → W p l e rm_X10_fits s m args below meth c H locs 0 0 (MQ below (gQ D cA ad NL (some (.int rr)) XX A) args s 0 0 A) (F0 m 297 ls [])) (hk427 : ∀ (p1 : Int32) (p5 : Int32) (p6 : Int32) (Y : gM) (H : Heap) (locs : List Loc) (ls : Array Slot), gH D cA ad NL Y H → va_S A s.heap H locs → lv_has ls 11 [(0, .ref (ad 43 0)), (1, .int p1), (5, .int p5), (6, .int p6)] → (43, 0) ∈ NL → k427 p1 p5 p6 Y = some (rr, XX) → W p l e rm_X10_fits s m args below meth c H locs 0 0 (MQ below (gQ D cA ad NL (some (.int rr)) XX A) args s 0 0 A) (F0 m 427 ls [])) : ∀ (p1 : Int32) (p6 : Int32) (p7 : Int32) (s0 : Int32) (X : gM) (H : Heap) (locs : List Loc) (ls : Array Slot), gH D cA ad NL X H → va_S A s.heap H locs → lv_has ls 11 [(0, .ref (ad 43 0)), (1, .int p1), (6, .int p6), (7, .int p7)] → (43, 0) ∈ NL → X10_fits_J419 (gal NL) N kk k427 p1 p6 p7 s0 X = some (rr, XX) → W p l e rm_X10_fits s m args below meth c H locs 0 0 (MQ below (gQ D cA ad NL (some (.int rr)) XX A) args s 0 0 A) (F0 m 419 ls [.int s0]) := by
  have hx := C.1
  have hb := C.2.1
  intro p1 p6 p7 s0 X H locs ls hP hS hl ha_l0 hf
  rw [X10_fits_J419] at hf
  refine lv_istore (i := 5) (lv' := [(5, .int s0), (0, .ref (ad 43 0)), (1, .int p1), (6, .int p6), (7, .int p7)]) hx hb dX10_fits_419 hl (Nat.le_of_ble_eq_true rfl) rfl (fun ls hl => ?_)
  obtain ⟨v1, e2, hf⟩ := gl_in hf
  refine lv_iinc (v := v1) (lv' := [(7, .int v1), (5, .int s0), (0, .ref (ad 43 0)), (1, .int p1), (6, .int p6)]) hx hb dX10_fits_421 hl (k := 4) rfl (by rw [e2]; rfl) (Nat.le_of_ble_eq_true rfl) rfl (fun ls hl => ?_)
  refine lv_goto (tgt := 297) hx hb dX10_fits_424 (by decide) ?_
  exact hkk p1 s0 p6 v1 X _ _ _ hP hS (lv_sub hl [2, 3, 1, 4, 0] rfl) ha_l0 hf

set_option maxRecDepth 100000 in
set_option maxHeartbeats 4000000 in
theorem s_X10_fits_J418 {p : Program} {l : Launch} {e : Env} {s : State} {m : MethodId} {args : Array Value} {below : List Frame} {meth : Method} {c : Code} {D : va_G} {cA : Nat → ClassId} {ad : Nat → Nat → Nat} {NL : List (Nat × Nat)} {A : Nat → Prop} {rr : Int32} {XX : gM} {N : Nat} {kk : Int32 → Int32 → Int32 → Int32 → gM → Option (Int32 × gM)} {k427 : Int32 → Int32 → Int32 → gM → Option (Int32 × gM)} (C : gCx p c meth m s args cX10_fits 11 (some .boolean) RX10 D cA ad NL A) (hW : gWf NL) (hD0 : gD (fun _ => True) ad NL) (hkk : ∀ (p1 : Int32) (p5 : Int32) (p6 : Int32) (p7 : Int32) (Y : gM) (H : Heap) (locs : List Loc) (ls : Array Slot), gH D cA ad NL Y H → va_S A s.heap H locs → lv_has ls 11 [(0, .ref (ad 43 0)), (1, .int p1), (5, .int p5), (6, .int p6), (7, .int p7)] → (43, 0) ∈ NL → kk p1 p5 p6 p7 Y = some (rr, XX) → W p l e rm_X10_fits s m args below meth c H locs 0 0 (MQ below (gQ D cA ad NL (some (.int rr)) XX A) args s 0 0 A) (F0 m 297 ls [])) (hk427 : ∀ (p1 : Int32) (p5 : Int32) (p6 : Int32) (Y : gM) (H : Heap) (locs : List Loc) (ls : Array Slot), gH D cA ad NL Y H → va_S A s.heap H locs → lv_has ls 11 [(0, .ref (ad 43 0)), (1, .int p1), (5, .int p5), (6, .int p6)] → (43, 0) ∈ NL → k427 p1 p5 p6 Y = some (rr, XX) → W p l e rm_X10_fits s m args below meth c H locs 0 0 (MQ below (gQ D cA ad NL (some (.int rr)) XX A) args s 0 0 A) (F0 m 427 ls [])) : ∀ (p1 : Int32) (p6 : Int32) (p7 : Int32) (X : gM) (H : Heap) (locs : List Loc) (ls : Array Slot), gH D cA ad NL X H → va_S A s.heap H locs → lv_has ls 11 [(0, .ref (ad 43 0)), (1, .int p1), (6, .int p6), (7, .int p7)] → (43, 0) ∈ NL → X10_fits_J418 (gal NL) N kk k427 p1 p6 p7 X = some (rr, XX) → W p l e rm_X10_fits s m args below meth c H locs 0 0 (MQ below (gQ D cA ad NL (some (.int rr)) XX A) args s 0 0 A) (F0 m 418 ls []) := by
  have hx := C.1
  have hb := C.2.1
  intro p1 p6 p7 X H locs ls hP hS hl ha_l0 hf
  rw [X10_fits_J418] at hf
  refine lv_iconst (v := 0) hx hb dX10_fits_418 (by decide) ?_
  exact s_X10_fits_J419 C hW hD0 hkk hk427 p1 p6 p7 (0 : Int32) X _ _ _ hP hS (lv_sub hl [0, 1, 2, 3] rfl) ha_l0 hf

set_option maxRecDepth 100000 in
set_option maxHeartbeats 4000000 in
theorem s_X10_fits_J414 {p : Program} {l : Launch} {e : Env} {s : State} {m : MethodId} {args : Array Value} {below : List Frame} {meth : Method} {c : Code} {D : va_G} {cA : Nat → ClassId} {ad : Nat → Nat → Nat} {NL : List (Nat × Nat)} {A : Nat → Prop} {rr : Int32} {XX : gM} {N : Nat} {kk : Int32 → Int32 → Int32 → Int32 → gM → Option (Int32 × gM)} {k427 : Int32 → Int32 → Int32 → gM → Option (Int32 × gM)} (C : gCx p c meth m s args cX10_fits 11 (some .boolean) RX10 D cA ad NL A) (hW : gWf NL) (hD0 : gD (fun _ => True) ad NL) (hkk : ∀ (p1 : Int32) (p5 : Int32) (p6 : Int32) (p7 : Int32) (Y : gM) (H : Heap) (locs : List Loc) (ls : Array Slot), gH D cA ad NL Y H → va_S A s.heap H locs → lv_has ls 11 [(0, .ref (ad 43 0)), (1, .int p1), (5, .int p5), (6, .int p6), (7, .int p7)] → (43, 0) ∈ NL → kk p1 p5 p6 p7 Y = some (rr, XX) → W p l e rm_X10_fits s m args below meth c H locs 0 0 (MQ below (gQ D cA ad NL (some (.int rr)) XX A) args s 0 0 A) (F0 m 297 ls [])) (hk427 : ∀ (p1 : Int32) (p5 : Int32) (p6 : Int32) (Y : gM) (H : Heap) (locs : List Loc) (ls : Array Slot), gH D cA ad NL Y H → va_S A s.heap H locs → lv_has ls 11 [(0, .ref (ad 43 0)), (1, .int p1), (5, .int p5), (6, .int p6)] → (43, 0) ∈ NL → k427 p1 p5 p6 Y = some (rr, XX) → W p l e rm_X10_fits s m args below meth c H locs 0 0 (MQ below (gQ D cA ad NL (some (.int rr)) XX A) args s 0 0 A) (F0 m 427 ls [])) : ∀ (p1 : Int32) (p6 : Int32) (p7 : Int32) (X : gM) (H : Heap) (locs : List Loc) (ls : Array Slot), gH D cA ad NL X H → va_S A s.heap H locs → lv_has ls 11 [(0, .ref (ad 43 0)), (1, .int p1), (6, .int p6), (7, .int p7)] → (43, 0) ∈ NL → X10_fits_J414 (gal NL) N kk k427 p1 p6 p7 X = some (rr, XX) → W p l e rm_X10_fits s m args below meth c H locs 0 0 (MQ below (gQ D cA ad NL (some (.int rr)) XX A) args s 0 0 A) (F0 m 414 ls []) := by
  have hx := C.1
  have hb := C.2.1
  intro p1 p6 p7 X H locs ls hP hS hl ha_l0 hf
  rw [X10_fits_J414] at hf
  refine lv_iconst (v := 1) hx hb dX10_fits_414 (by decide) ?_
  refine lv_goto (tgt := 419) hx hb dX10_fits_415 (by decide) ?_
  exact s_X10_fits_J419 C hW hD0 hkk hk427 p1 p6 p7 (1 : Int32) X _ _ _ hP hS (lv_sub hl [0, 1, 2, 3] rfl) ha_l0 hf

set_option maxRecDepth 100000 in
set_option maxHeartbeats 4000000 in
theorem s_X10_fits_J411 {p : Program} {l : Launch} {e : Env} {s : State} {m : MethodId} {args : Array Value} {below : List Frame} {meth : Method} {c : Code} {D : va_G} {cA : Nat → ClassId} {ad : Nat → Nat → Nat} {NL : List (Nat × Nat)} {A : Nat → Prop} {rr : Int32} {XX : gM} {N : Nat} {kk : Int32 → Int32 → Int32 → Int32 → gM → Option (Int32 × gM)} {k427 : Int32 → Int32 → Int32 → gM → Option (Int32 × gM)} (C : gCx p c meth m s args cX10_fits 11 (some .boolean) RX10 D cA ad NL A) (hW : gWf NL) (hD0 : gD (fun _ => True) ad NL) (hkk : ∀ (p1 : Int32) (p5 : Int32) (p6 : Int32) (p7 : Int32) (Y : gM) (H : Heap) (locs : List Loc) (ls : Array Slot), gH D cA ad NL Y H → va_S A s.heap H locs → lv_has ls 11 [(0, .ref (ad 43 0)), (1, .int p1), (5, .int p5), (6, .int p6), (7, .int p7)] → (43, 0) ∈ NL → kk p1 p5 p6 p7 Y = some (rr, XX) → W p l e rm_X10_fits s m args below meth c H locs 0 0 (MQ below (gQ D cA ad NL (some (.int rr)) XX A) args s 0 0 A) (F0 m 297 ls [])) (hk427 : ∀ (p1 : Int32) (p5 : Int32) (p6 : Int32) (Y : gM) (H : Heap) (locs : List Loc) (ls : Array Slot), gH D cA ad NL Y H → va_S A s.heap H locs → lv_has ls 11 [(0, .ref (ad 43 0)), (1, .int p1), (5, .int p5), (6, .int p6)] → (43, 0) ∈ NL → k427 p1 p5 p6 Y = some (rr, XX) → W p l e rm_X10_fits s m args below meth c H locs 0 0 (MQ below (gQ D cA ad NL (some (.int rr)) XX A) args s 0 0 A) (F0 m 427 ls [])) : ∀ (p1 : Int32) (p6 : Int32) (p7 : Int32) (s0 : Int32) (s1 : Int32) (X : gM) (H : Heap) (locs : List Loc) (ls : Array Slot), gH D cA ad NL X H → va_S A s.heap H locs → lv_has ls 11 [(0, .ref (ad 43 0)), (1, .int p1), (6, .int p6), (7, .int p7)] → (43, 0) ∈ NL → X10_fits_J411 (gal NL) N kk k427 p1 p6 p7 s0 s1 X = some (rr, XX) → W p l e rm_X10_fits s m args below meth c H locs 0 0 (MQ below (gQ D cA ad NL (some (.int rr)) XX A) args s 0 0 A) (F0 m 411 ls [.int s1, .int s0]) := by
  have hx := C.1
  have hb := C.2.1
  intro p1 p6 p7 s0 s1 X H locs ls hP hS hl ha_l0 hf
  rw [X10_fits_J411] at hf
  refine lv_icmp_eq (tgt := 418) hx hb dX10_fits_411 (by decide) (fun c1 => ?_) (fun c1 => ?_)
  · have hf := g_ip c1 hf
    exact s_X10_fits_J418 C hW hD0 hkk hk427 p1 p6 p7 X _ _ _ hP hS (lv_sub hl [0, 1, 2, 3] rfl) ha_l0 hf
  · have hf := g_in c1 hf
    exact s_X10_fits_J414 C hW hD0 hkk hk427 p1 p6 p7 X _ _ _ hP hS (lv_sub hl [0, 1, 2, 3] rfl) ha_l0 hf

set_option maxRecDepth 100000 in
set_option maxHeartbeats 4000000 in
theorem s_X10_fits_J391 {p : Program} {l : Launch} {e : Env} {s : State} {m : MethodId} {args : Array Value} {below : List Frame} {meth : Method} {c : Code} {D : va_G} {cA : Nat → ClassId} {ad : Nat → Nat → Nat} {NL : List (Nat × Nat)} {A : Nat → Prop} {rr : Int32} {XX : gM} {N : Nat} {kk : Int32 → Int32 → Int32 → Int32 → gM → Option (Int32 × gM)} {k427 : Int32 → Int32 → Int32 → gM → Option (Int32 × gM)} (C : gCx p c meth m s args cX10_fits 11 (some .boolean) RX10 D cA ad NL A) (hW : gWf NL) (hD0 : gD (fun _ => True) ad NL) (hkk : ∀ (p1 : Int32) (p5 : Int32) (p6 : Int32) (p7 : Int32) (Y : gM) (H : Heap) (locs : List Loc) (ls : Array Slot), gH D cA ad NL Y H → va_S A s.heap H locs → lv_has ls 11 [(0, .ref (ad 43 0)), (1, .int p1), (5, .int p5), (6, .int p6), (7, .int p7)] → (43, 0) ∈ NL → kk p1 p5 p6 p7 Y = some (rr, XX) → W p l e rm_X10_fits s m args below meth c H locs 0 0 (MQ below (gQ D cA ad NL (some (.int rr)) XX A) args s 0 0 A) (F0 m 297 ls [])) (hk427 : ∀ (p1 : Int32) (p5 : Int32) (p6 : Int32) (Y : gM) (H : Heap) (locs : List Loc) (ls : Array Slot), gH D cA ad NL Y H → va_S A s.heap H locs → lv_has ls 11 [(0, .ref (ad 43 0)), (1, .int p1), (5, .int p5), (6, .int p6)] → (43, 0) ∈ NL → k427 p1 p5 p6 Y = some (rr, XX) → W p l e rm_X10_fits s m args below meth c H locs 0 0 (MQ below (gQ D cA ad NL (some (.int rr)) XX A) args s 0 0 A) (F0 m 427 ls [])) : ∀ (p1 : Int32) (p6 : Int32) (p7 : Int32) (s0 : Int32) (X : gM) (H : Heap) (locs : List Loc) (ls : Array Slot), gH D cA ad NL X H → va_S A s.heap H locs → lv_has ls 11 [(0, .ref (ad 43 0)), (1, .int p1), (6, .int p6), (7, .int p7)] → (43, 0) ∈ NL → X10_fits_J391 (gal NL) N kk k427 p1 p6 p7 s0 X = some (rr, XX) → W p l e rm_X10_fits s m args below meth c H locs 0 0 (MQ below (gQ D cA ad NL (some (.int rr)) XX A) args s 0 0 A) (F0 m 391 ls [.int s0]) := by
  have hx := C.1
  have hb := C.2.1
  intro p1 p6 p7 s0 X H locs ls hP hS hl ha_l0 hf
  rw [X10_fits_J391] at hf
  refine lv_aload_n hx hb dX10_fits_391 rfl (lv_at hl 0 rfl) ?_
  refine r_get C hP ha_l0 (ct_43 _ _ _ _) fx_X10_19 (fg_43_4 _ _ _) dX10_fits_392 ?_
  refine lv_aload_n hx hb dX10_fits_395 rfl (lv_at hl 0 rfl) ?_
  refine r_get C hP ha_l0 (ct_43 _ _ _ _) fx_X10_104 (fg_43_38 _ _ _) dX10_fits_396 ?_
  refine lv_iload hx hb dX10_fits_399 (lv_at hl 3 rfl) ?_
  obtain ⟨j1, h2, hf⟩ := rd_in hf
  refine r_iald C hP (gs_43_38 hW ha_l0) (ct_75 _ _ _ _) h2 dX10_fits_401 ?_
  obtain ⟨j3, h4, hf⟩ := rd_in hf
  refine r_iald C hP (gs_43_4 hW ha_l0) (ct_47 _ _ _ _) h4 dX10_fits_402 ?_
  refine lv_if_ne (tgt := 410) hx hb dX10_fits_403 (by decide) (fun c5 => ?_) (fun c5 => ?_)
  · have hf := g_in c5 hf
    refine lv_iconst (v := 0) hx hb dX10_fits_410 (by decide) ?_
    exact s_X10_fits_J411 C hW hD0 hkk hk427 p1 p6 p7 s0 (0 : Int32) X _ _ _ hP hS (lv_sub hl [0, 1, 2, 3] rfl) ha_l0 hf
  · have hf := g_ip c5 hf
    refine lv_iconst (v := 1) hx hb dX10_fits_406 (by decide) ?_
    refine lv_goto (tgt := 411) hx hb dX10_fits_407 (by decide) ?_
    exact s_X10_fits_J411 C hW hD0 hkk hk427 p1 p6 p7 s0 (1 : Int32) X _ _ _ hP hS (lv_sub hl [0, 1, 2, 3] rfl) ha_l0 hf

set_option maxRecDepth 100000 in
set_option maxHeartbeats 4000000 in
theorem s_X10_fits_J359 {p : Program} {l : Launch} {e : Env} {s : State} {m : MethodId} {args : Array Value} {below : List Frame} {meth : Method} {c : Code} {D : va_G} {cA : Nat → ClassId} {ad : Nat → Nat → Nat} {NL : List (Nat × Nat)} {A : Nat → Prop} {rr : Int32} {XX : gM} {N : Nat} {kk : Int32 → Int32 → Int32 → Int32 → gM → Option (Int32 × gM)} {k427 : Int32 → Int32 → Int32 → gM → Option (Int32 × gM)} (C : gCx p c meth m s args cX10_fits 11 (some .boolean) RX10 D cA ad NL A) (hW : gWf NL) (hD0 : gD (fun _ => True) ad NL) (hkk : ∀ (p1 : Int32) (p5 : Int32) (p6 : Int32) (p7 : Int32) (Y : gM) (H : Heap) (locs : List Loc) (ls : Array Slot), gH D cA ad NL Y H → va_S A s.heap H locs → lv_has ls 11 [(0, .ref (ad 43 0)), (1, .int p1), (5, .int p5), (6, .int p6), (7, .int p7)] → (43, 0) ∈ NL → kk p1 p5 p6 p7 Y = some (rr, XX) → W p l e rm_X10_fits s m args below meth c H locs 0 0 (MQ below (gQ D cA ad NL (some (.int rr)) XX A) args s 0 0 A) (F0 m 297 ls [])) (hk427 : ∀ (p1 : Int32) (p5 : Int32) (p6 : Int32) (Y : gM) (H : Heap) (locs : List Loc) (ls : Array Slot), gH D cA ad NL Y H → va_S A s.heap H locs → lv_has ls 11 [(0, .ref (ad 43 0)), (1, .int p1), (5, .int p5), (6, .int p6)] → (43, 0) ∈ NL → k427 p1 p5 p6 Y = some (rr, XX) → W p l e rm_X10_fits s m args below meth c H locs 0 0 (MQ below (gQ D cA ad NL (some (.int rr)) XX A) args s 0 0 A) (F0 m 427 ls [])) : ∀ (p1 : Int32) (p5 : Int32) (p6 : Int32) (p7 : Int32) (s0 : Int32) (X : gM) (H : Heap) (locs : List Loc) (ls : Array Slot), gH D cA ad NL X H → va_S A s.heap H locs → lv_has ls 11 [(0, .ref (ad 43 0)), (1, .int p1), (5, .int p5), (6, .int p6), (7, .int p7)] → (43, 0) ∈ NL → X10_fits_J359 (gal NL) N kk k427 p1 p5 p6 p7 s0 X = some (rr, XX) → W p l e rm_X10_fits s m args below meth c H locs 0 0 (MQ below (gQ D cA ad NL (some (.int rr)) XX A) args s 0 0 A) (F0 m 359 ls [.int s0]) := by
  have hx := C.1
  have hb := C.2.1
  intro p1 p5 p6 p7 s0 X H locs ls hP hS hl ha_l0 hf
  rw [X10_fits_J359] at hf
  refine lv_istore (i := 8) (lv' := [(8, .int s0), (0, .ref (ad 43 0)), (1, .int p1), (5, .int p5), (6, .int p6), (7, .int p7)]) hx hb dX10_fits_359 hl (Nat.le_of_ble_eq_true rfl) rfl (fun ls hl => ?_)
  refine lv_iload hx hb dX10_fits_361 (lv_at hl 3 rfl) ?_
  refine lv_if_eq (tgt := 418) hx hb dX10_fits_363 (by decide) (fun c1 => ?_) (fun c1 => ?_)
  · have hf := g_ip c1 hf
    exact s_X10_fits_J418 C hW hD0 hkk hk427 p1 p6 p7 X _ _ _ hP hS (lv_sub hl [1, 2, 4, 5] rfl) ha_l0 hf
  · have hf := g_in c1 hf
    refine lv_iload hx hb dX10_fits_366 (lv_at hl 0 rfl) ?_
    refine lv_if_eq (tgt := 414) hx hb dX10_fits_368 (by decide) (fun c2 => ?_) (fun c2 => ?_)
    · have hf := g_ip c2 hf
      exact s_X10_fits_J414 C hW hD0 hkk hk427 p1 p6 p7 X _ _ _ hP hS (lv_sub hl [1, 2, 4, 5] rfl) ha_l0 hf
    · have hf := g_in c2 hf
      refine lv_aload_n hx hb dX10_fits_371 rfl (lv_at hl 1 rfl) ?_
      refine r_get C hP ha_l0 (ct_43 _ _ _ _) fx_X10_19 (fg_43_4 _ _ _) dX10_fits_372 ?_
      refine lv_aload_n hx hb dX10_fits_375 rfl (lv_at hl 1 rfl) ?_
      refine r_get C hP ha_l0 (ct_43 _ _ _ _) fx_X10_104 (fg_43_38 _ _ _) dX10_fits_376 ?_
      refine lv_iload hx hb dX10_fits_379 (lv_at hl 4 rfl) ?_
      obtain ⟨j3, h4, hf⟩ := rd_in hf
      refine r_iald C hP (gs_43_38 hW ha_l0) (ct_75 _ _ _ _) h4 dX10_fits_381 ?_
      obtain ⟨j5, h6, hf⟩ := rd_in hf
      refine r_iald C hP (gs_43_4 hW ha_l0) (ct_47 _ _ _ _) h6 dX10_fits_382 ?_
      refine lv_if_ne (tgt := 390) hx hb dX10_fits_383 (by decide) (fun c7 => ?_) (fun c7 => ?_)
      · have hf := g_in c7 hf
        refine lv_iconst (v := 0) hx hb dX10_fits_390 (by decide) ?_
        exact s_X10_fits_J391 C hW hD0 hkk hk427 p1 p6 p7 (0 : Int32) X _ _ _ hP hS (lv_sub hl [1, 2, 4, 5] rfl) ha_l0 hf
      · have hf := g_ip c7 hf
        refine lv_iconst (v := 1) hx hb dX10_fits_386 (by decide) ?_
        refine lv_goto (tgt := 391) hx hb dX10_fits_387 (by decide) ?_
        exact s_X10_fits_J391 C hW hD0 hkk hk427 p1 p6 p7 (1 : Int32) X _ _ _ hP hS (lv_sub hl [1, 2, 4, 5] rfl) ha_l0 hf

set_option maxRecDepth 100000 in
set_option maxHeartbeats 4000000 in
theorem s_X10_fits_J358 {p : Program} {l : Launch} {e : Env} {s : State} {m : MethodId} {args : Array Value} {below : List Frame} {meth : Method} {c : Code} {D : va_G} {cA : Nat → ClassId} {ad : Nat → Nat → Nat} {NL : List (Nat × Nat)} {A : Nat → Prop} {rr : Int32} {XX : gM} {N : Nat} {kk : Int32 → Int32 → Int32 → Int32 → gM → Option (Int32 × gM)} {k427 : Int32 → Int32 → Int32 → gM → Option (Int32 × gM)} (C : gCx p c meth m s args cX10_fits 11 (some .boolean) RX10 D cA ad NL A) (hW : gWf NL) (hD0 : gD (fun _ => True) ad NL) (hkk : ∀ (p1 : Int32) (p5 : Int32) (p6 : Int32) (p7 : Int32) (Y : gM) (H : Heap) (locs : List Loc) (ls : Array Slot), gH D cA ad NL Y H → va_S A s.heap H locs → lv_has ls 11 [(0, .ref (ad 43 0)), (1, .int p1), (5, .int p5), (6, .int p6), (7, .int p7)] → (43, 0) ∈ NL → kk p1 p5 p6 p7 Y = some (rr, XX) → W p l e rm_X10_fits s m args below meth c H locs 0 0 (MQ below (gQ D cA ad NL (some (.int rr)) XX A) args s 0 0 A) (F0 m 297 ls [])) (hk427 : ∀ (p1 : Int32) (p5 : Int32) (p6 : Int32) (Y : gM) (H : Heap) (locs : List Loc) (ls : Array Slot), gH D cA ad NL Y H → va_S A s.heap H locs → lv_has ls 11 [(0, .ref (ad 43 0)), (1, .int p1), (5, .int p5), (6, .int p6)] → (43, 0) ∈ NL → k427 p1 p5 p6 Y = some (rr, XX) → W p l e rm_X10_fits s m args below meth c H locs 0 0 (MQ below (gQ D cA ad NL (some (.int rr)) XX A) args s 0 0 A) (F0 m 427 ls [])) : ∀ (p1 : Int32) (p5 : Int32) (p6 : Int32) (p7 : Int32) (X : gM) (H : Heap) (locs : List Loc) (ls : Array Slot), gH D cA ad NL X H → va_S A s.heap H locs → lv_has ls 11 [(0, .ref (ad 43 0)), (1, .int p1), (5, .int p5), (6, .int p6), (7, .int p7)] → (43, 0) ∈ NL → X10_fits_J358 (gal NL) N kk k427 p1 p5 p6 p7 X = some (rr, XX) → W p l e rm_X10_fits s m args below meth c H locs 0 0 (MQ below (gQ D cA ad NL (some (.int rr)) XX A) args s 0 0 A) (F0 m 358 ls []) := by
  have hx := C.1
  have hb := C.2.1
  intro p1 p5 p6 p7 X H locs ls hP hS hl ha_l0 hf
  rw [X10_fits_J358] at hf
  refine lv_iconst (v := 0) hx hb dX10_fits_358 (by decide) ?_
  exact s_X10_fits_J359 C hW hD0 hkk hk427 p1 p5 p6 p7 (0 : Int32) X _ _ _ hP hS (lv_sub hl [0, 1, 2, 3, 4] rfl) ha_l0 hf

set_option maxRecDepth 100000 in
set_option maxHeartbeats 4000000 in
theorem s_X10_fits_L297 {p : Program} {l : Launch} {e : Env} {s : State} {m : MethodId} {args : Array Value} {below : List Frame} {meth : Method} {c : Code} {D : va_G} {cA : Nat → ClassId} {ad : Nat → Nat → Nat} {NL : List (Nat × Nat)} {A : Nat → Prop} {rr : Int32} {XX : gM} {N : Nat} {k427 : Int32 → Int32 → Int32 → gM → Option (Int32 × gM)} (C : gCx p c meth m s args cX10_fits 11 (some .boolean) RX10 D cA ad NL A) (hW : gWf NL) (hD0 : gD (fun _ => True) ad NL) (hk427 : ∀ (p1 : Int32) (p5 : Int32) (p6 : Int32) (Y : gM) (H : Heap) (locs : List Loc) (ls : Array Slot), gH D cA ad NL Y H → va_S A s.heap H locs → lv_has ls 11 [(0, .ref (ad 43 0)), (1, .int p1), (5, .int p5), (6, .int p6)] → (43, 0) ∈ NL → k427 p1 p5 p6 Y = some (rr, XX) → W p l e rm_X10_fits s m args below meth c H locs 0 0 (MQ below (gQ D cA ad NL (some (.int rr)) XX A) args s 0 0 A) (F0 m 427 ls [])) : ∀ (n : Nat) (p1 : Int32) (p5 : Int32) (p6 : Int32) (p7 : Int32) (X : gM) (H : Heap) (locs : List Loc) (ls : Array Slot), gH D cA ad NL X H → va_S A s.heap H locs → lv_has ls 11 [(0, .ref (ad 43 0)), (1, .int p1), (5, .int p5), (6, .int p6), (7, .int p7)] → (43, 0) ∈ NL → X10_fits_L297 (gal NL) N k427 n p1 p5 p6 p7 X = some (rr, XX) → W p l e rm_X10_fits s m args below meth c H locs 0 0 (MQ below (gQ D cA ad NL (some (.int rr)) XX A) args s 0 0 A) (F0 m 297 ls []) := by
  have hx := C.1
  have hb := C.2.1
  intro n
  induction n with
  | zero =>
    intro p1 p5 p6 p7 X H locs ls hP hS hl ha_l0 hf
    rw [X10_fits_L297] at hf
    cases hf
  | succ n ih =>
    intro p1 p5 p6 p7 X H locs ls hP hS hl ha_l0 hf
    rw [X10_fits_L297] at hf
    refine lv_iload hx hb dX10_fits_297 (lv_at hl 4 rfl) ?_
    refine lv_iload_n hx hb dX10_fits_299 rfl (lv_at hl 1 rfl) ?_
    refine lv_icmp_ge (tgt := 427) hx hb dX10_fits_300 (by decide) (fun c1 => ?_) (fun c1 => ?_)
    · have hf := g_ip c1 hf
      exact hk427 p1 p5 p6 X _ _ _ hP hS (lv_sub hl [0, 1, 2, 3] rfl) ha_l0 hf
    · have hf := g_in c1 hf
      refine lv_aload_n hx hb dX10_fits_303 rfl (lv_at hl 0 rfl) ?_
      refine r_get C hP ha_l0 (ct_43 _ _ _ _) fx_X10_107 (fg_43_39 _ _ _) dX10_fits_304 ?_
      refine lv_iload hx hb dX10_fits_307 (lv_at hl 4 rfl) ?_
      obtain ⟨j2, h3, hf⟩ := rd_in hf
      refine r_iald C hP (gs_43_39 hW ha_l0) (ct_76 _ _ _ _) h3 dX10_fits_309 ?_
      refine lv_aload_n hx hb dX10_fits_310 rfl (lv_at hl 0 rfl) ?_
      refine r_get C hP ha_l0 (ct_43 _ _ _ _) fx_X10_107 (fg_43_39 _ _ _) dX10_fits_311 ?_
      refine lv_iload hx hb dX10_fits_314 (lv_at hl 3 rfl) ?_
      obtain ⟨j4, h5, hf⟩ := rd_in hf
      refine r_iald C hP (gs_43_39 hW ha_l0) (ct_76 _ _ _ _) h5 dX10_fits_316 ?_
      refine lv_iconst (v := 1) hx hb dX10_fits_317 (by decide) ?_
      refine lv_iadd hx hb dX10_fits_318 ?_
      refine lv_icmp_ne (tgt := 358) hx hb dX10_fits_319 (by decide) (fun c6 => ?_) (fun c6 => ?_)
      · have hf := g_in c6 hf
        exact s_X10_fits_J358 C hW hD0 ih hk427 p1 p5 p6 p7 X _ _ _ hP hS (lv_sub hl [0, 1, 2, 3, 4] rfl) ha_l0 hf
      · have hf := g_ip c6 hf
        refine lv_aload_n hx hb dX10_fits_322 rfl (lv_at hl 0 rfl) ?_
        refine r_get C hP ha_l0 (ct_43 _ _ _ _) fx_X10_19 (fg_43_4 _ _ _) dX10_fits_323 ?_
        refine lv_aload_n hx hb dX10_fits_326 rfl (lv_at hl 0 rfl) ?_
        refine r_get C hP ha_l0 (ct_43 _ _ _ _) fx_X10_104 (fg_43_38 _ _ _) dX10_fits_327 ?_
        refine lv_iload hx hb dX10_fits_330 (lv_at hl 3 rfl) ?_
        obtain ⟨j7, h8, hf⟩ := rd_in hf
        refine r_iald C hP (gs_43_38 hW ha_l0) (ct_75 _ _ _ _) h8 dX10_fits_332 ?_
        obtain ⟨j9, h10, hf⟩ := rd_in hf
        refine r_iald C hP (gs_43_4 hW ha_l0) (ct_47 _ _ _ _) h10 dX10_fits_333 ?_
        refine lv_iconst (v := -1) hx hb dX10_fits_334 (by decide) ?_
        refine lv_icmp_eq (tgt := 358) hx hb dX10_fits_335 (by decide) (fun c11 => ?_) (fun c11 => ?_)
        · have hf := g_ip c11 hf
          exact s_X10_fits_J358 C hW hD0 ih hk427 p1 p5 p6 p7 X _ _ _ hP hS (lv_sub hl [0, 1, 2, 3, 4] rfl) ha_l0 hf
        · have hf := g_in c11 hf
          refine lv_aload_n hx hb dX10_fits_338 rfl (lv_at hl 0 rfl) ?_
          refine r_get C hP ha_l0 (ct_43 _ _ _ _) fx_X10_19 (fg_43_4 _ _ _) dX10_fits_339 ?_
          refine lv_aload_n hx hb dX10_fits_342 rfl (lv_at hl 0 rfl) ?_
          refine r_get C hP ha_l0 (ct_43 _ _ _ _) fx_X10_104 (fg_43_38 _ _ _) dX10_fits_343 ?_
          refine lv_iload hx hb dX10_fits_346 (lv_at hl 4 rfl) ?_
          obtain ⟨j12, h13, hf⟩ := rd_in hf
          refine r_iald C hP (gs_43_38 hW ha_l0) (ct_75 _ _ _ _) h13 dX10_fits_348 ?_
          obtain ⟨j14, h15, hf⟩ := rd_in hf
          refine r_iald C hP (gs_43_4 hW ha_l0) (ct_47 _ _ _ _) h15 dX10_fits_349 ?_
          refine lv_iconst (v := -1) hx hb dX10_fits_350 (by decide) ?_
          refine lv_icmp_eq (tgt := 358) hx hb dX10_fits_351 (by decide) (fun c16 => ?_) (fun c16 => ?_)
          · have hf := g_ip c16 hf
            exact s_X10_fits_J358 C hW hD0 ih hk427 p1 p5 p6 p7 X _ _ _ hP hS (lv_sub hl [0, 1, 2, 3, 4] rfl) ha_l0 hf
          · have hf := g_in c16 hf
            refine lv_iconst (v := 1) hx hb dX10_fits_354 (by decide) ?_
            refine lv_goto (tgt := 359) hx hb dX10_fits_355 (by decide) ?_
            exact s_X10_fits_J359 C hW hD0 ih hk427 p1 p5 p6 p7 (1 : Int32) X _ _ _ hP hS (lv_sub hl [0, 1, 2, 3, 4] rfl) ha_l0 hf

set_option maxRecDepth 100000 in
set_option maxHeartbeats 4000000 in
theorem s_X10_fits_L283 {p : Program} {l : Launch} {e : Env} {s : State} {m : MethodId} {args : Array Value} {below : List Frame} {meth : Method} {c : Code} {D : va_G} {cA : Nat → ClassId} {ad : Nat → Nat → Nat} {NL : List (Nat × Nat)} {A : Nat → Prop} {rr : Int32} {XX : gM} {N : Nat} {k433 : Int32 → gM → Option (Int32 × gM)} (C : gCx p c meth m s args cX10_fits 11 (some .boolean) RX10 D cA ad NL A) (hW : gWf NL) (hD0 : gD (fun _ => True) ad NL) (hk433 : ∀ (p5 : Int32) (Y : gM) (H : Heap) (locs : List Loc) (ls : Array Slot), gH D cA ad NL Y H → va_S A s.heap H locs → lv_has ls 11 [(5, .int p5)] → k433 p5 Y = some (rr, XX) → W p l e rm_X10_fits s m args below meth c H locs 0 0 (MQ below (gQ D cA ad NL (some (.int rr)) XX A) args s 0 0 A) (F0 m 433 ls [])) : ∀ (n : Nat) (p1 : Int32) (p5 : Int32) (p6 : Int32) (X : gM) (H : Heap) (locs : List Loc) (ls : Array Slot), gH D cA ad NL X H → va_S A s.heap H locs → lv_has ls 11 [(0, .ref (ad 43 0)), (1, .int p1), (5, .int p5), (6, .int p6)] → (43, 0) ∈ NL → X10_fits_L283 (gal NL) N k433 n p1 p5 p6 X = some (rr, XX) → W p l e rm_X10_fits s m args below meth c H locs 0 0 (MQ below (gQ D cA ad NL (some (.int rr)) XX A) args s 0 0 A) (F0 m 283 ls []) := by
  have hx := C.1
  have hb := C.2.1
  intro n
  induction n with
  | zero =>
    intro p1 p5 p6 X H locs ls hP hS hl ha_l0 hf
    rw [X10_fits_L283] at hf
    cases hf
  | succ n ih =>
    intro p1 p5 p6 X H locs ls hP hS hl ha_l0 hf
    rw [X10_fits_L283] at hf
    refine lv_iload hx hb dX10_fits_283 (lv_at hl 3 rfl) ?_
    refine lv_iload_n hx hb dX10_fits_285 rfl (lv_at hl 1 rfl) ?_
    refine lv_icmp_ge (tgt := 433) hx hb dX10_fits_286 (by decide) (fun c1 => ?_) (fun c1 => ?_)
    · have hf := g_ip c1 hf
      exact hk433 p5 X _ _ _ hP hS (lv_sub hl [2] rfl) hf
    · have hf := g_in c1 hf
      refine lv_iload hx hb dX10_fits_289 (lv_at hl 2 rfl) ?_
      refine lv_if_eq (tgt := 433) hx hb dX10_fits_291 (by decide) (fun c2 => ?_) (fun c2 => ?_)
      · have hf := g_ip c2 hf
        exact hk433 p5 X _ _ _ hP hS (lv_sub hl [2] rfl) hf
      · have hf := g_in c2 hf
        refine lv_iconst (v := 0) hx hb dX10_fits_294 (by decide) ?_
        refine lv_istore (i := 7) (lv' := [(7, .int (0 : Int32)), (0, .ref (ad 43 0)), (1, .int p1), (5, .int p5), (6, .int p6)]) hx hb dX10_fits_295 hl (Nat.le_of_ble_eq_true rfl) rfl (fun ls hl => ?_)
        exact s_X10_fits_L297 C hW hD0 (fun p1 p5 p6 Y H locs ls hP hS hl ha_l0 hf => s_X10_fits_J427 C hW hD0 ih hk433 p1 p5 p6 Y _ _ _ hP hS hl ha_l0 hf) N p1 p5 p6 (0 : Int32) X _ _ _ hP hS (lv_sub hl [1, 2, 3, 4, 0] rfl) ha_l0 hf

set_option maxRecDepth 100000 in
set_option maxHeartbeats 4000000 in
theorem s_X10_fits_J280 {p : Program} {l : Launch} {e : Env} {s : State} {m : MethodId} {args : Array Value} {below : List Frame} {meth : Method} {c : Code} {D : va_G} {cA : Nat → ClassId} {ad : Nat → Nat → Nat} {NL : List (Nat × Nat)} {A : Nat → Prop} {rr : Int32} {XX : gM} {N : Nat} (C : gCx p c meth m s args cX10_fits 11 (some .boolean) RX10 D cA ad NL A) (hW : gWf NL) (hD0 : gD (fun _ => True) ad NL) : ∀ (p1 : Int32) (p5 : Int32) (X : gM) (H : Heap) (locs : List Loc) (ls : Array Slot), gH D cA ad NL X H → va_S A s.heap H locs → lv_has ls 11 [(0, .ref (ad 43 0)), (1, .int p1), (5, .int p5)] → (43, 0) ∈ NL → X10_fits_J280 (gal NL) N p1 p5 X = some (rr, XX) → W p l e rm_X10_fits s m args below meth c H locs 0 0 (MQ below (gQ D cA ad NL (some (.int rr)) XX A) args s 0 0 A) (F0 m 280 ls []) := by
  have hx := C.1
  have hb := C.2.1
  intro p1 p5 X H locs ls hP hS hl ha_l0 hf
  rw [X10_fits_J280] at hf
  refine lv_iconst (v := 0) hx hb dX10_fits_280 (by decide) ?_
  refine lv_istore (i := 6) (lv' := [(6, .int (0 : Int32)), (0, .ref (ad 43 0)), (1, .int p1), (5, .int p5)]) hx hb dX10_fits_281 hl (Nat.le_of_ble_eq_true rfl) rfl (fun ls hl => ?_)
  exact s_X10_fits_L283 C hW hD0 (fun p5 Y H locs ls hP hS hl hf => s_X10_fits_J433 C hW hD0 p5 Y _ _ _ hP hS hl hf) N p1 p5 (0 : Int32) X _ _ _ hP hS (lv_sub hl [1, 2, 3, 0] rfl) ha_l0 hf

set_option maxRecDepth 100000 in
set_option maxHeartbeats 4000000 in
theorem s_X10_fits_J274 {p : Program} {l : Launch} {e : Env} {s : State} {m : MethodId} {args : Array Value} {below : List Frame} {meth : Method} {c : Code} {D : va_G} {cA : Nat → ClassId} {ad : Nat → Nat → Nat} {NL : List (Nat × Nat)} {A : Nat → Prop} {rr : Int32} {XX : gM} {N : Nat} {kk : Int32 → Int32 → Int32 → gM → Option (Int32 × gM)} {k280 : Int32 → Int32 → gM → Option (Int32 × gM)} (C : gCx p c meth m s args cX10_fits 11 (some .boolean) RX10 D cA ad NL A) (hW : gWf NL) (hD0 : gD (fun _ => True) ad NL) (hkk : ∀ (p1 : Int32) (p5 : Int32) (p6 : Int32) (Y : gM) (H : Heap) (locs : List Loc) (ls : Array Slot), gH D cA ad NL Y H → va_S A s.heap H locs → lv_has ls 11 [(0, .ref (ad 43 0)), (1, .int p1), (5, .int p5), (6, .int p6)] → (43, 0) ∈ NL → kk p1 p5 p6 Y = some (rr, XX) → W p l e rm_X10_fits s m args below meth c H locs 0 0 (MQ below (gQ D cA ad NL (some (.int rr)) XX A) args s 0 0 A) (F0 m 78 ls [])) (hk280 : ∀ (p1 : Int32) (p5 : Int32) (Y : gM) (H : Heap) (locs : List Loc) (ls : Array Slot), gH D cA ad NL Y H → va_S A s.heap H locs → lv_has ls 11 [(0, .ref (ad 43 0)), (1, .int p1), (5, .int p5)] → (43, 0) ∈ NL → k280 p1 p5 Y = some (rr, XX) → W p l e rm_X10_fits s m args below meth c H locs 0 0 (MQ below (gQ D cA ad NL (some (.int rr)) XX A) args s 0 0 A) (F0 m 280 ls [])) : ∀ (p1 : Int32) (p5 : Int32) (p6 : Int32) (X : gM) (H : Heap) (locs : List Loc) (ls : Array Slot), gH D cA ad NL X H → va_S A s.heap H locs → lv_has ls 11 [(0, .ref (ad 43 0)), (1, .int p1), (5, .int p5), (6, .int p6)] → (43, 0) ∈ NL → X10_fits_J274 (gal NL) N kk k280 p1 p5 p6 X = some (rr, XX) → W p l e rm_X10_fits s m args below meth c H locs 0 0 (MQ below (gQ D cA ad NL (some (.int rr)) XX A) args s 0 0 A) (F0 m 274 ls []) := by
  have hx := C.1
  have hb := C.2.1
  intro p1 p5 p6 X H locs ls hP hS hl ha_l0 hf
  rw [X10_fits_J274] at hf
  obtain ⟨v1, e2, hf⟩ := gl_in hf
  refine lv_iinc (v := v1) (lv' := [(6, .int v1), (0, .ref (ad 43 0)), (1, .int p1), (5, .int p5)]) hx hb dX10_fits_274 hl (k := 3) rfl (by rw [e2]; rfl) (Nat.le_of_ble_eq_true rfl) rfl (fun ls hl => ?_)
  refine lv_goto (tgt := 78) hx hb dX10_fits_277 (by decide) ?_
  exact hkk p1 p5 v1 X _ _ _ hP hS (lv_sub hl [1, 2, 3, 0] rfl) ha_l0 hf

set_option maxRecDepth 100000 in
set_option maxHeartbeats 4000000 in
theorem s_X10_fits_J266 {p : Program} {l : Launch} {e : Env} {s : State} {m : MethodId} {args : Array Value} {below : List Frame} {meth : Method} {c : Code} {D : va_G} {cA : Nat → ClassId} {ad : Nat → Nat → Nat} {NL : List (Nat × Nat)} {A : Nat → Prop} {rr : Int32} {XX : gM} {N : Nat} {kk : Int32 → Int32 → Int32 → Int32 → Int32 → Int32 → gM → Option (Int32 × gM)} {k274 : Int32 → Int32 → Int32 → gM → Option (Int32 × gM)} (C : gCx p c meth m s args cX10_fits 11 (some .boolean) RX10 D cA ad NL A) (hW : gWf NL) (hD0 : gD (fun _ => True) ad NL) (hkk : ∀ (p1 : Int32) (p5 : Int32) (p6 : Int32) (p7 : Int32) (p8 : Int32) (p9 : Int32) (Y : gM) (H : Heap) (locs : List Loc) (ls : Array Slot), gH D cA ad NL Y H → va_S A s.heap H locs → lv_has ls 11 [(0, .ref (ad 43 0)), (1, .int p1), (5, .int p5), (6, .int p6), (7, .int p7), (8, .int p8), (9, .int p9)] → (43, 0) ∈ NL → kk p1 p5 p6 p7 p8 p9 Y = some (rr, XX) → W p l e rm_X10_fits s m args below meth c H locs 0 0 (MQ below (gQ D cA ad NL (some (.int rr)) XX A) args s 0 0 A) (F0 m 205 ls [])) (hk274 : ∀ (p1 : Int32) (p5 : Int32) (p6 : Int32) (Y : gM) (H : Heap) (locs : List Loc) (ls : Array Slot), gH D cA ad NL Y H → va_S A s.heap H locs → lv_has ls 11 [(0, .ref (ad 43 0)), (1, .int p1), (5, .int p5), (6, .int p6)] → (43, 0) ∈ NL → k274 p1 p5 p6 Y = some (rr, XX) → W p l e rm_X10_fits s m args below meth c H locs 0 0 (MQ below (gQ D cA ad NL (some (.int rr)) XX A) args s 0 0 A) (F0 m 274 ls [])) : ∀ (p1 : Int32) (p6 : Int32) (p7 : Int32) (p8 : Int32) (p9 : Int32) (s0 : Int32) (X : gM) (H : Heap) (locs : List Loc) (ls : Array Slot), gH D cA ad NL X H → va_S A s.heap H locs → lv_has ls 11 [(0, .ref (ad 43 0)), (1, .int p1), (6, .int p6), (7, .int p7), (8, .int p8), (9, .int p9)] → (43, 0) ∈ NL → X10_fits_J266 (gal NL) N kk k274 p1 p6 p7 p8 p9 s0 X = some (rr, XX) → W p l e rm_X10_fits s m args below meth c H locs 0 0 (MQ below (gQ D cA ad NL (some (.int rr)) XX A) args s 0 0 A) (F0 m 266 ls [.int s0]) := by
  have hx := C.1
  have hb := C.2.1
  intro p1 p6 p7 p8 p9 s0 X H locs ls hP hS hl ha_l0 hf
  rw [X10_fits_J266] at hf
  refine lv_istore (i := 5) (lv' := [(5, .int s0), (0, .ref (ad 43 0)), (1, .int p1), (6, .int p6), (7, .int p7), (8, .int p8), (9, .int p9)]) hx hb dX10_fits_266 hl (Nat.le_of_ble_eq_true rfl) rfl (fun ls hl => ?_)
  obtain ⟨v1, e2, hf⟩ := gl_in hf
  refine lv_iinc (v := v1) (lv' := [(9, .int v1), (5, .int s0), (0, .ref (ad 43 0)), (1, .int p1), (6, .int p6), (7, .int p7), (8, .int p8)]) hx hb dX10_fits_268 hl (k := 6) rfl (by rw [e2]; rfl) (Nat.le_of_ble_eq_true rfl) rfl (fun ls hl => ?_)
  refine lv_goto (tgt := 205) hx hb dX10_fits_271 (by decide) ?_
  exact hkk p1 s0 p6 p7 p8 v1 X _ _ _ hP hS (lv_sub hl [2, 3, 1, 4, 5, 6, 0] rfl) ha_l0 hf

set_option maxRecDepth 100000 in
set_option maxHeartbeats 4000000 in
theorem s_X10_fits_J265 {p : Program} {l : Launch} {e : Env} {s : State} {m : MethodId} {args : Array Value} {below : List Frame} {meth : Method} {c : Code} {D : va_G} {cA : Nat → ClassId} {ad : Nat → Nat → Nat} {NL : List (Nat × Nat)} {A : Nat → Prop} {rr : Int32} {XX : gM} {N : Nat} {kk : Int32 → Int32 → Int32 → Int32 → Int32 → Int32 → gM → Option (Int32 × gM)} {k274 : Int32 → Int32 → Int32 → gM → Option (Int32 × gM)} (C : gCx p c meth m s args cX10_fits 11 (some .boolean) RX10 D cA ad NL A) (hW : gWf NL) (hD0 : gD (fun _ => True) ad NL) (hkk : ∀ (p1 : Int32) (p5 : Int32) (p6 : Int32) (p7 : Int32) (p8 : Int32) (p9 : Int32) (Y : gM) (H : Heap) (locs : List Loc) (ls : Array Slot), gH D cA ad NL Y H → va_S A s.heap H locs → lv_has ls 11 [(0, .ref (ad 43 0)), (1, .int p1), (5, .int p5), (6, .int p6), (7, .int p7), (8, .int p8), (9, .int p9)] → (43, 0) ∈ NL → kk p1 p5 p6 p7 p8 p9 Y = some (rr, XX) → W p l e rm_X10_fits s m args below meth c H locs 0 0 (MQ below (gQ D cA ad NL (some (.int rr)) XX A) args s 0 0 A) (F0 m 205 ls [])) (hk274 : ∀ (p1 : Int32) (p5 : Int32) (p6 : Int32) (Y : gM) (H : Heap) (locs : List Loc) (ls : Array Slot), gH D cA ad NL Y H → va_S A s.heap H locs → lv_has ls 11 [(0, .ref (ad 43 0)), (1, .int p1), (5, .int p5), (6, .int p6)] → (43, 0) ∈ NL → k274 p1 p5 p6 Y = some (rr, XX) → W p l e rm_X10_fits s m args below meth c H locs 0 0 (MQ below (gQ D cA ad NL (some (.int rr)) XX A) args s 0 0 A) (F0 m 274 ls [])) : ∀ (p1 : Int32) (p6 : Int32) (p7 : Int32) (p8 : Int32) (p9 : Int32) (X : gM) (H : Heap) (locs : List Loc) (ls : Array Slot), gH D cA ad NL X H → va_S A s.heap H locs → lv_has ls 11 [(0, .ref (ad 43 0)), (1, .int p1), (6, .int p6), (7, .int p7), (8, .int p8), (9, .int p9)] → (43, 0) ∈ NL → X10_fits_J265 (gal NL) N kk k274 p1 p6 p7 p8 p9 X = some (rr, XX) → W p l e rm_X10_fits s m args below meth c H locs 0 0 (MQ below (gQ D cA ad NL (some (.int rr)) XX A) args s 0 0 A) (F0 m 265 ls []) := by
  have hx := C.1
  have hb := C.2.1
  intro p1 p6 p7 p8 p9 X H locs ls hP hS hl ha_l0 hf
  rw [X10_fits_J265] at hf
  refine lv_iconst (v := 0) hx hb dX10_fits_265 (by decide) ?_
  exact s_X10_fits_J266 C hW hD0 hkk hk274 p1 p6 p7 p8 p9 (0 : Int32) X _ _ _ hP hS (lv_sub hl [0, 1, 2, 3, 4, 5] rfl) ha_l0 hf

set_option maxRecDepth 100000 in
set_option maxHeartbeats 4000000 in
theorem s_X10_fits_J261 {p : Program} {l : Launch} {e : Env} {s : State} {m : MethodId} {args : Array Value} {below : List Frame} {meth : Method} {c : Code} {D : va_G} {cA : Nat → ClassId} {ad : Nat → Nat → Nat} {NL : List (Nat × Nat)} {A : Nat → Prop} {rr : Int32} {XX : gM} {N : Nat} {kk : Int32 → Int32 → Int32 → Int32 → Int32 → Int32 → gM → Option (Int32 × gM)} {k274 : Int32 → Int32 → Int32 → gM → Option (Int32 × gM)} (C : gCx p c meth m s args cX10_fits 11 (some .boolean) RX10 D cA ad NL A) (hW : gWf NL) (hD0 : gD (fun _ => True) ad NL) (hkk : ∀ (p1 : Int32) (p5 : Int32) (p6 : Int32) (p7 : Int32) (p8 : Int32) (p9 : Int32) (Y : gM) (H : Heap) (locs : List Loc) (ls : Array Slot), gH D cA ad NL Y H → va_S A s.heap H locs → lv_has ls 11 [(0, .ref (ad 43 0)), (1, .int p1), (5, .int p5), (6, .int p6), (7, .int p7), (8, .int p8), (9, .int p9)] → (43, 0) ∈ NL → kk p1 p5 p6 p7 p8 p9 Y = some (rr, XX) → W p l e rm_X10_fits s m args below meth c H locs 0 0 (MQ below (gQ D cA ad NL (some (.int rr)) XX A) args s 0 0 A) (F0 m 205 ls [])) (hk274 : ∀ (p1 : Int32) (p5 : Int32) (p6 : Int32) (Y : gM) (H : Heap) (locs : List Loc) (ls : Array Slot), gH D cA ad NL Y H → va_S A s.heap H locs → lv_has ls 11 [(0, .ref (ad 43 0)), (1, .int p1), (5, .int p5), (6, .int p6)] → (43, 0) ∈ NL → k274 p1 p5 p6 Y = some (rr, XX) → W p l e rm_X10_fits s m args below meth c H locs 0 0 (MQ below (gQ D cA ad NL (some (.int rr)) XX A) args s 0 0 A) (F0 m 274 ls [])) : ∀ (p1 : Int32) (p6 : Int32) (p7 : Int32) (p8 : Int32) (p9 : Int32) (X : gM) (H : Heap) (locs : List Loc) (ls : Array Slot), gH D cA ad NL X H → va_S A s.heap H locs → lv_has ls 11 [(0, .ref (ad 43 0)), (1, .int p1), (6, .int p6), (7, .int p7), (8, .int p8), (9, .int p9)] → (43, 0) ∈ NL → X10_fits_J261 (gal NL) N kk k274 p1 p6 p7 p8 p9 X = some (rr, XX) → W p l e rm_X10_fits s m args below meth c H locs 0 0 (MQ below (gQ D cA ad NL (some (.int rr)) XX A) args s 0 0 A) (F0 m 261 ls []) := by
  have hx := C.1
  have hb := C.2.1
  intro p1 p6 p7 p8 p9 X H locs ls hP hS hl ha_l0 hf
  rw [X10_fits_J261] at hf
  refine lv_iconst (v := 1) hx hb dX10_fits_261 (by decide) ?_
  refine lv_goto (tgt := 266) hx hb dX10_fits_262 (by decide) ?_
  exact s_X10_fits_J266 C hW hD0 hkk hk274 p1 p6 p7 p8 p9 (1 : Int32) X _ _ _ hP hS (lv_sub hl [0, 1, 2, 3, 4, 5] rfl) ha_l0 hf

set_option maxRecDepth 100000 in
set_option maxHeartbeats 4000000 in
theorem s_X10_fits_L205 {p : Program} {l : Launch} {e : Env} {s : State} {m : MethodId} {args : Array Value} {below : List Frame} {meth : Method} {c : Code} {D : va_G} {cA : Nat → ClassId} {ad : Nat → Nat → Nat} {NL : List (Nat × Nat)} {A : Nat → Prop} {rr : Int32} {XX : gM} {N : Nat} {k274 : Int32 → Int32 → Int32 → gM → Option (Int32 × gM)} (C : gCx p c meth m s args cX10_fits 11 (some .boolean) RX10 D cA ad NL A) (hW : gWf NL) (hD0 : gD (fun _ => True) ad NL) (hk274 : ∀ (p1 : Int32) (p5 : Int32) (p6 : Int32) (Y : gM) (H : Heap) (locs : List Loc) (ls : Array Slot), gH D cA ad NL Y H → va_S A s.heap H locs → lv_has ls 11 [(0, .ref (ad 43 0)), (1, .int p1), (5, .int p5), (6, .int p6)] → (43, 0) ∈ NL → k274 p1 p5 p6 Y = some (rr, XX) → W p l e rm_X10_fits s m args below meth c H locs 0 0 (MQ below (gQ D cA ad NL (some (.int rr)) XX A) args s 0 0 A) (F0 m 274 ls [])) : ∀ (n : Nat) (p1 : Int32) (p5 : Int32) (p6 : Int32) (p7 : Int32) (p8 : Int32) (p9 : Int32) (X : gM) (H : Heap) (locs : List Loc) (ls : Array Slot), gH D cA ad NL X H → va_S A s.heap H locs → lv_has ls 11 [(0, .ref (ad 43 0)), (1, .int p1), (5, .int p5), (6, .int p6), (7, .int p7), (8, .int p8), (9, .int p9)] → (43, 0) ∈ NL → X10_fits_L205 (gal NL) N k274 n p1 p5 p6 p7 p8 p9 X = some (rr, XX) → W p l e rm_X10_fits s m args below meth c H locs 0 0 (MQ below (gQ D cA ad NL (some (.int rr)) XX A) args s 0 0 A) (F0 m 205 ls []) := by
  have hx := C.1
  have hb := C.2.1
  intro n
  induction n with
  | zero =>
    intro p1 p5 p6 p7 p8 p9 X H locs ls hP hS hl ha_l0 hf
    rw [X10_fits_L205] at hf
    cases hf
  | succ n ih =>
    intro p1 p5 p6 p7 p8 p9 X H locs ls hP hS hl ha_l0 hf
    rw [X10_fits_L205] at hf
    refine lv_iload hx hb dX10_fits_205 (lv_at hl 6 rfl) ?_
    refine lv_iload_n hx hb dX10_fits_207 rfl (lv_at hl 1 rfl) ?_
    refine lv_icmp_ge (tgt := 274) hx hb dX10_fits_208 (by decide) (fun c1 => ?_) (fun c1 => ?_)
    · have hf := g_ip c1 hf
      exact hk274 p1 p5 p6 X _ _ _ hP hS (lv_sub hl [0, 1, 2, 3] rfl) ha_l0 hf
    · have hf := g_in c1 hf
      refine lv_iload hx hb dX10_fits_211 (lv_at hl 2 rfl) ?_
      refine lv_if_eq (tgt := 265) hx hb dX10_fits_213 (by decide) (fun c2 => ?_) (fun c2 => ?_)
      · have hf := g_ip c2 hf
        exact s_X10_fits_J265 C hW hD0 ih hk274 p1 p6 p7 p8 p9 X _ _ _ hP hS (lv_sub hl [0, 1, 3, 4, 5, 6] rfl) ha_l0 hf
      · have hf := g_in c2 hf
        refine lv_aload_n hx hb dX10_fits_216 rfl (lv_at hl 0 rfl) ?_
        refine r_get C hP ha_l0 (ct_43 _ _ _ _) fx_X10_22 (fg_43_5 _ _ _) dX10_fits_217 ?_
        refine lv_aload_n hx hb dX10_fits_220 rfl (lv_at hl 0 rfl) ?_
        refine r_get C hP ha_l0 (ct_43 _ _ _ _) fx_X10_104 (fg_43_38 _ _ _) dX10_fits_221 ?_
        refine lv_iload hx hb dX10_fits_224 (lv_at hl 6 rfl) ?_
        obtain ⟨j3, h4, hf⟩ := rd_in hf
        refine r_iald C hP (gs_43_38 hW ha_l0) (ct_75 _ _ _ _) h4 dX10_fits_226 ?_
        obtain ⟨j5, h6, hf⟩ := rd_in hf
        refine r_iald C hP (gs_43_5 hW ha_l0) (ct_48 _ _ _ _) h6 dX10_fits_227 ?_
        refine lv_iload hx hb dX10_fits_228 (lv_at hl 3 rfl) ?_
        refine lv_ishr hx hb dX10_fits_230 ?_
        refine lv_iconst (v := 1) hx hb dX10_fits_231 (by decide) ?_
        refine lv_iand hx hb dX10_fits_232 ?_
        refine lv_iconst (v := 1) hx hb dX10_fits_233 (by decide) ?_
        refine lv_icmp_eq (tgt := 261) hx hb dX10_fits_234 (by decide) (fun c7 => ?_) (fun c7 => ?_)
        · have hf := g_ip c7 hf
          exact s_X10_fits_J261 C hW hD0 ih hk274 p1 p6 p7 p8 p9 X _ _ _ hP hS (lv_sub hl [0, 1, 3, 4, 5, 6] rfl) ha_l0 hf
        · have hf := g_in c7 hf
          refine lv_aload_n hx hb dX10_fits_237 rfl (lv_at hl 0 rfl) ?_
          refine r_get C hP ha_l0 (ct_43 _ _ _ _) fx_X10_107 (fg_43_39 _ _ _) dX10_fits_238 ?_
          refine lv_iload hx hb dX10_fits_241 (lv_at hl 6 rfl) ?_
          obtain ⟨j8, h9, hf⟩ := rd_in hf
          refine r_iald C hP (gs_43_39 hW ha_l0) (ct_76 _ _ _ _) h9 dX10_fits_243 ?_
          refine lv_iload hx hb dX10_fits_244 (lv_at hl 4 rfl) ?_
          refine lv_icmp_lt (tgt := 261) hx hb dX10_fits_246 (by decide) (fun c10 => ?_) (fun c10 => ?_)
          · have hf := g_ip c10 hf
            exact s_X10_fits_J261 C hW hD0 ih hk274 p1 p6 p7 p8 p9 X _ _ _ hP hS (lv_sub hl [0, 1, 3, 4, 5, 6] rfl) ha_l0 hf
          · have hf := g_in c10 hf
            refine lv_aload_n hx hb dX10_fits_249 rfl (lv_at hl 0 rfl) ?_
            refine r_get C hP ha_l0 (ct_43 _ _ _ _) fx_X10_107 (fg_43_39 _ _ _) dX10_fits_250 ?_
            refine lv_iload hx hb dX10_fits_253 (lv_at hl 6 rfl) ?_
            obtain ⟨j11, h12, hf⟩ := rd_in hf
            refine r_iald C hP (gs_43_39 hW ha_l0) (ct_76 _ _ _ _) h12 dX10_fits_255 ?_
            refine lv_iload hx hb dX10_fits_256 (lv_at hl 5 rfl) ?_
            refine lv_icmp_le (tgt := 265) hx hb dX10_fits_258 (by decide) (fun c13 => ?_) (fun c13 => ?_)
            · have hf := g_ip c13 hf
              exact s_X10_fits_J265 C hW hD0 ih hk274 p1 p6 p7 p8 p9 X _ _ _ hP hS (lv_sub hl [0, 1, 3, 4, 5, 6] rfl) ha_l0 hf
            · have hf := g_in c13 hf
              exact s_X10_fits_J261 C hW hD0 ih hk274 p1 p6 p7 p8 p9 X _ _ _ hP hS (lv_sub hl [0, 1, 3, 4, 5, 6] rfl) ha_l0 hf

set_option maxRecDepth 100000 in
set_option maxHeartbeats 4000000 in
theorem s_X10_fits_J202 {p : Program} {l : Launch} {e : Env} {s : State} {m : MethodId} {args : Array Value} {below : List Frame} {meth : Method} {c : Code} {D : va_G} {cA : Nat → ClassId} {ad : Nat → Nat → Nat} {NL : List (Nat × Nat)} {A : Nat → Prop} {rr : Int32} {XX : gM} {N : Nat} {kk : Int32 → Int32 → Int32 → gM → Option (Int32 × gM)} {k280 : Int32 → Int32 → gM → Option (Int32 × gM)} (C : gCx p c meth m s args cX10_fits 11 (some .boolean) RX10 D cA ad NL A) (hW : gWf NL) (hD0 : gD (fun _ => True) ad NL) (hkk : ∀ (p1 : Int32) (p5 : Int32) (p6 : Int32) (Y : gM) (H : Heap) (locs : List Loc) (ls : Array Slot), gH D cA ad NL Y H → va_S A s.heap H locs → lv_has ls 11 [(0, .ref (ad 43 0)), (1, .int p1), (5, .int p5), (6, .int p6)] → (43, 0) ∈ NL → kk p1 p5 p6 Y = some (rr, XX) → W p l e rm_X10_fits s m args below meth c H locs 0 0 (MQ below (gQ D cA ad NL (some (.int rr)) XX A) args s 0 0 A) (F0 m 78 ls [])) (hk280 : ∀ (p1 : Int32) (p5 : Int32) (Y : gM) (H : Heap) (locs : List Loc) (ls : Array Slot), gH D cA ad NL Y H → va_S A s.heap H locs → lv_has ls 11 [(0, .ref (ad 43 0)), (1, .int p1), (5, .int p5)] → (43, 0) ∈ NL → k280 p1 p5 Y = some (rr, XX) → W p l e rm_X10_fits s m args below meth c H locs 0 0 (MQ below (gQ D cA ad NL (some (.int rr)) XX A) args s 0 0 A) (F0 m 280 ls [])) : ∀ (p1 : Int32) (p5 : Int32) (p6 : Int32) (p7 : Int32) (p8 : Int32) (X : gM) (H : Heap) (locs : List Loc) (ls : Array Slot), gH D cA ad NL X H → va_S A s.heap H locs → lv_has ls 11 [(0, .ref (ad 43 0)), (1, .int p1), (5, .int p5), (6, .int p6), (7, .int p7), (8, .int p8)] → (43, 0) ∈ NL → X10_fits_J202 (gal NL) N kk k280 p1 p5 p6 p7 p8 X = some (rr, XX) → W p l e rm_X10_fits s m args below meth c H locs 0 0 (MQ below (gQ D cA ad NL (some (.int rr)) XX A) args s 0 0 A) (F0 m 202 ls []) := by
  have hx := C.1
  have hb := C.2.1
  intro p1 p5 p6 p7 p8 X H locs ls hP hS hl ha_l0 hf
  rw [X10_fits_J202] at hf
  refine lv_iconst (v := 0) hx hb dX10_fits_202 (by decide) ?_
  refine lv_istore (i := 9) (lv' := [(9, .int (0 : Int32)), (0, .ref (ad 43 0)), (1, .int p1), (5, .int p5), (6, .int p6), (7, .int p7), (8, .int p8)]) hx hb dX10_fits_203 hl (Nat.le_of_ble_eq_true rfl) rfl (fun ls hl => ?_)
  exact s_X10_fits_L205 C hW hD0 (fun p1 p5 p6 Y H locs ls hP hS hl ha_l0 hf => s_X10_fits_J274 C hW hD0 hkk hk280 p1 p5 p6 Y _ _ _ hP hS hl ha_l0 hf) N p1 p5 p6 p7 p8 (0 : Int32) X _ _ _ hP hS (lv_sub hl [1, 2, 3, 4, 5, 6, 0] rfl) ha_l0 hf

set_option maxRecDepth 100000 in
set_option maxHeartbeats 4000000 in
theorem s_X10_fits_J194 {p : Program} {l : Launch} {e : Env} {s : State} {m : MethodId} {args : Array Value} {below : List Frame} {meth : Method} {c : Code} {D : va_G} {cA : Nat → ClassId} {ad : Nat → Nat → Nat} {NL : List (Nat × Nat)} {A : Nat → Prop} {rr : Int32} {XX : gM} {N : Nat} {kk : Int32 → Int32 → Int32 → Int32 → Int32 → Int32 → gM → Option (Int32 × gM)} {k202 : Int32 → Int32 → Int32 → Int32 → Int32 → gM → Option (Int32 × gM)} (C : gCx p c meth m s args cX10_fits 11 (some .boolean) RX10 D cA ad NL A) (hW : gWf NL) (hD0 : gD (fun _ => True) ad NL) (hkk : ∀ (p1 : Int32) (p5 : Int32) (p6 : Int32) (p7 : Int32) (p8 : Int32) (p9 : Int32) (Y : gM) (H : Heap) (locs : List Loc) (ls : Array Slot), gH D cA ad NL Y H → va_S A s.heap H locs → lv_has ls 11 [(0, .ref (ad 43 0)), (1, .int p1), (5, .int p5), (6, .int p6), (7, .int p7), (8, .int p8), (9, .int p9)] → (43, 0) ∈ NL → kk p1 p5 p6 p7 p8 p9 Y = some (rr, XX) → W p l e rm_X10_fits s m args below meth c H locs 0 0 (MQ below (gQ D cA ad NL (some (.int rr)) XX A) args s 0 0 A) (F0 m 100 ls [])) (hk202 : ∀ (p1 : Int32) (p5 : Int32) (p6 : Int32) (p7 : Int32) (p8 : Int32) (Y : gM) (H : Heap) (locs : List Loc) (ls : Array Slot), gH D cA ad NL Y H → va_S A s.heap H locs → lv_has ls 11 [(0, .ref (ad 43 0)), (1, .int p1), (5, .int p5), (6, .int p6), (7, .int p7), (8, .int p8)] → (43, 0) ∈ NL → k202 p1 p5 p6 p7 p8 Y = some (rr, XX) → W p l e rm_X10_fits s m args below meth c H locs 0 0 (MQ below (gQ D cA ad NL (some (.int rr)) XX A) args s 0 0 A) (F0 m 202 ls [])) : ∀ (p1 : Int32) (p5 : Int32) (p6 : Int32) (p7 : Int32) (p9 : Int32) (s0 : Int32) (X : gM) (H : Heap) (locs : List Loc) (ls : Array Slot), gH D cA ad NL X H → va_S A s.heap H locs → lv_has ls 11 [(0, .ref (ad 43 0)), (1, .int p1), (5, .int p5), (6, .int p6), (7, .int p7), (9, .int p9)] → (43, 0) ∈ NL → X10_fits_J194 (gal NL) N kk k202 p1 p5 p6 p7 p9 s0 X = some (rr, XX) → W p l e rm_X10_fits s m args below meth c H locs 0 0 (MQ below (gQ D cA ad NL (some (.int rr)) XX A) args s 0 0 A) (F0 m 194 ls [.int s0]) := by
  have hx := C.1
  have hb := C.2.1
  intro p1 p5 p6 p7 p9 s0 X H locs ls hP hS hl ha_l0 hf
  rw [X10_fits_J194] at hf
  refine lv_istore (i := 8) (lv' := [(8, .int s0), (0, .ref (ad 43 0)), (1, .int p1), (5, .int p5), (6, .int p6), (7, .int p7), (9, .int p9)]) hx hb dX10_fits_194 hl (Nat.le_of_ble_eq_true rfl) rfl (fun ls hl => ?_)
  obtain ⟨v1, e2, hf⟩ := gl_in hf
  refine lv_iinc (v := v1) (lv' := [(9, .int v1), (8, .int s0), (0, .ref (ad 43 0)), (1, .int p1), (5, .int p5), (6, .int p6), (7, .int p7)]) hx hb dX10_fits_196 hl (k := 6) rfl (by rw [e2]; rfl) (Nat.le_of_ble_eq_true rfl) rfl (fun ls hl => ?_)
  refine lv_goto (tgt := 100) hx hb dX10_fits_199 (by decide) ?_
  exact hkk p1 p5 p6 p7 s0 v1 X _ _ _ hP hS (lv_sub hl [2, 3, 4, 5, 6, 1, 0] rfl) ha_l0 hf

set_option maxRecDepth 100000 in
set_option maxHeartbeats 4000000 in
theorem s_X10_fits_J192 {p : Program} {l : Launch} {e : Env} {s : State} {m : MethodId} {args : Array Value} {below : List Frame} {meth : Method} {c : Code} {D : va_G} {cA : Nat → ClassId} {ad : Nat → Nat → Nat} {NL : List (Nat × Nat)} {A : Nat → Prop} {rr : Int32} {XX : gM} {N : Nat} {kk : Int32 → Int32 → Int32 → Int32 → Int32 → Int32 → gM → Option (Int32 × gM)} {k202 : Int32 → Int32 → Int32 → Int32 → Int32 → gM → Option (Int32 × gM)} (C : gCx p c meth m s args cX10_fits 11 (some .boolean) RX10 D cA ad NL A) (hW : gWf NL) (hD0 : gD (fun _ => True) ad NL) (hkk : ∀ (p1 : Int32) (p5 : Int32) (p6 : Int32) (p7 : Int32) (p8 : Int32) (p9 : Int32) (Y : gM) (H : Heap) (locs : List Loc) (ls : Array Slot), gH D cA ad NL Y H → va_S A s.heap H locs → lv_has ls 11 [(0, .ref (ad 43 0)), (1, .int p1), (5, .int p5), (6, .int p6), (7, .int p7), (8, .int p8), (9, .int p9)] → (43, 0) ∈ NL → kk p1 p5 p6 p7 p8 p9 Y = some (rr, XX) → W p l e rm_X10_fits s m args below meth c H locs 0 0 (MQ below (gQ D cA ad NL (some (.int rr)) XX A) args s 0 0 A) (F0 m 100 ls [])) (hk202 : ∀ (p1 : Int32) (p5 : Int32) (p6 : Int32) (p7 : Int32) (p8 : Int32) (Y : gM) (H : Heap) (locs : List Loc) (ls : Array Slot), gH D cA ad NL Y H → va_S A s.heap H locs → lv_has ls 11 [(0, .ref (ad 43 0)), (1, .int p1), (5, .int p5), (6, .int p6), (7, .int p7), (8, .int p8)] → (43, 0) ∈ NL → k202 p1 p5 p6 p7 p8 Y = some (rr, XX) → W p l e rm_X10_fits s m args below meth c H locs 0 0 (MQ below (gQ D cA ad NL (some (.int rr)) XX A) args s 0 0 A) (F0 m 202 ls [])) : ∀ (p1 : Int32) (p5 : Int32) (p6 : Int32) (p7 : Int32) (p8 : Int32) (p9 : Int32) (X : gM) (H : Heap) (locs : List Loc) (ls : Array Slot), gH D cA ad NL X H → va_S A s.heap H locs → lv_has ls 11 [(0, .ref (ad 43 0)), (1, .int p1), (5, .int p5), (6, .int p6), (7, .int p7), (8, .int p8), (9, .int p9)] → (43, 0) ∈ NL → X10_fits_J192 (gal NL) N kk k202 p1 p5 p6 p7 p8 p9 X = some (rr, XX) → W p l e rm_X10_fits s m args below meth c H locs 0 0 (MQ below (gQ D cA ad NL (some (.int rr)) XX A) args s 0 0 A) (F0 m 192 ls []) := by
  have hx := C.1
  have hb := C.2.1
  intro p1 p5 p6 p7 p8 p9 X H locs ls hP hS hl ha_l0 hf
  rw [X10_fits_J192] at hf
  refine lv_iload hx hb dX10_fits_192 (lv_at hl 5 rfl) ?_
  exact s_X10_fits_J194 C hW hD0 hkk hk202 p1 p5 p6 p7 p9 p8 X _ _ _ hP hS (lv_sub hl [0, 1, 2, 3, 4, 6] rfl) ha_l0 hf

set_option maxRecDepth 100000 in
set_option maxHeartbeats 4000000 in
theorem s_X10_fits_J163 {p : Program} {l : Launch} {e : Env} {s : State} {m : MethodId} {args : Array Value} {below : List Frame} {meth : Method} {c : Code} {D : va_G} {cA : Nat → ClassId} {ad : Nat → Nat → Nat} {NL : List (Nat × Nat)} {A : Nat → Prop} {rr : Int32} {XX : gM} {N : Nat} {kk : Int32 → Int32 → Int32 → Int32 → Int32 → Int32 → gM → Option (Int32 × gM)} {k202 : Int32 → Int32 → Int32 → Int32 → Int32 → gM → Option (Int32 × gM)} (C : gCx p c meth m s args cX10_fits 11 (some .boolean) RX10 D cA ad NL A) (hW : gWf NL) (hD0 : gD (fun _ => True) ad NL) (hkk : ∀ (p1 : Int32) (p5 : Int32) (p6 : Int32) (p7 : Int32) (p8 : Int32) (p9 : Int32) (Y : gM) (H : Heap) (locs : List Loc) (ls : Array Slot), gH D cA ad NL Y H → va_S A s.heap H locs → lv_has ls 11 [(0, .ref (ad 43 0)), (1, .int p1), (5, .int p5), (6, .int p6), (7, .int p7), (8, .int p8), (9, .int p9)] → (43, 0) ∈ NL → kk p1 p5 p6 p7 p8 p9 Y = some (rr, XX) → W p l e rm_X10_fits s m args below meth c H locs 0 0 (MQ below (gQ D cA ad NL (some (.int rr)) XX A) args s 0 0 A) (F0 m 100 ls [])) (hk202 : ∀ (p1 : Int32) (p5 : Int32) (p6 : Int32) (p7 : Int32) (p8 : Int32) (Y : gM) (H : Heap) (locs : List Loc) (ls : Array Slot), gH D cA ad NL Y H → va_S A s.heap H locs → lv_has ls 11 [(0, .ref (ad 43 0)), (1, .int p1), (5, .int p5), (6, .int p6), (7, .int p7), (8, .int p8)] → (43, 0) ∈ NL → k202 p1 p5 p6 p7 p8 Y = some (rr, XX) → W p l e rm_X10_fits s m args below meth c H locs 0 0 (MQ below (gQ D cA ad NL (some (.int rr)) XX A) args s 0 0 A) (F0 m 202 ls [])) : ∀ (p1 : Int32) (p5 : Int32) (p6 : Int32) (p8 : Int32) (p9 : Int32) (p10 : Int32) (s0 : Int32) (X : gM) (H : Heap) (locs : List Loc) (ls : Array Slot), gH D cA ad NL X H → va_S A s.heap H locs → lv_has ls 11 [(0, .ref (ad 43 0)), (1, .int p1), (5, .int p5), (6, .int p6), (8, .int p8), (9, .int p9), (10, .int p10)] → (43, 0) ∈ NL → X10_fits_J163 (gal NL) N kk k202 p1 p5 p6 p8 p9 p10 s0 X = some (rr, XX) → W p l e rm_X10_fits s m args below meth c H locs 0 0 (MQ below (gQ D cA ad NL (some (.int rr)) XX A) args s 0 0 A) (F0 m 163 ls [.int s0]) := by
  have hx := C.1
  have hb := C.2.1
  intro p1 p5 p6 p8 p9 p10 s0 X H locs ls hP hS hl ha_l0 hf
  rw [X10_fits_J163] at hf
  refine lv_istore (i := 7) (lv' := [(7, .int s0), (0, .ref (ad 43 0)), (1, .int p1), (5, .int p5), (6, .int p6), (8, .int p8), (9, .int p9), (10, .int p10)]) hx hb dX10_fits_163 hl (Nat.le_of_ble_eq_true rfl) rfl (fun ls hl => ?_)
  refine lv_iload hx hb dX10_fits_165 (lv_at hl 7 rfl) ?_
  refine lv_if_eq (tgt := 192) hx hb dX10_fits_167 (by decide) (fun c1 => ?_) (fun c1 => ?_)
  · have hf := g_ip c1 hf
    exact s_X10_fits_J192 C hW hD0 hkk hk202 p1 p5 p6 s0 p8 p9 X _ _ _ hP hS (lv_sub hl [1, 2, 3, 4, 0, 5, 6] rfl) ha_l0 hf
  · have hf := g_in c1 hf
    refine lv_aload_n hx hb dX10_fits_170 rfl (lv_at hl 1 rfl) ?_
    refine r_get C hP ha_l0 (ct_43 _ _ _ _) fx_X10_107 (fg_43_39 _ _ _) dX10_fits_171 ?_
    refine lv_iload hx hb dX10_fits_174 (lv_at hl 6 rfl) ?_
    obtain ⟨j2, h3, hf⟩ := rd_in hf
    refine r_iald C hP (gs_43_39 hW ha_l0) (ct_76 _ _ _ _) h3 dX10_fits_176 ?_
    refine lv_iload hx hb dX10_fits_177 (lv_at hl 5 rfl) ?_
    refine lv_icmp_le (tgt := 192) hx hb dX10_fits_179 (by decide) (fun c4 => ?_) (fun c4 => ?_)
    · have hf := g_ip c4 hf
      exact s_X10_fits_J192 C hW hD0 hkk hk202 p1 p5 p6 s0 p8 p9 X _ _ _ hP hS (lv_sub hl [1, 2, 3, 4, 0, 5, 6] rfl) ha_l0 hf
    · have hf := g_in c4 hf
      refine lv_aload_n hx hb dX10_fits_182 rfl (lv_at hl 1 rfl) ?_
      refine r_get C hP ha_l0 (ct_43 _ _ _ _) fx_X10_107 (fg_43_39 _ _ _) dX10_fits_183 ?_
      refine lv_iload hx hb dX10_fits_186 (lv_at hl 6 rfl) ?_
      obtain ⟨j5, h6, hf⟩ := rd_in hf
      refine r_iald C hP (gs_43_39 hW ha_l0) (ct_76 _ _ _ _) h6 dX10_fits_188 ?_
      refine lv_goto (tgt := 194) hx hb dX10_fits_189 (by decide) ?_
      exact s_X10_fits_J194 C hW hD0 hkk hk202 p1 p5 p6 s0 p9 ((X 76 0 j5)) X _ _ _ hP hS (lv_sub hl [1, 2, 3, 4, 0, 6] rfl) ha_l0 hf

set_option maxRecDepth 100000 in
set_option maxHeartbeats 4000000 in
theorem s_X10_fits_J161 {p : Program} {l : Launch} {e : Env} {s : State} {m : MethodId} {args : Array Value} {below : List Frame} {meth : Method} {c : Code} {D : va_G} {cA : Nat → ClassId} {ad : Nat → Nat → Nat} {NL : List (Nat × Nat)} {A : Nat → Prop} {rr : Int32} {XX : gM} {N : Nat} {kk : Int32 → Int32 → Int32 → Int32 → Int32 → Int32 → gM → Option (Int32 × gM)} {k202 : Int32 → Int32 → Int32 → Int32 → Int32 → gM → Option (Int32 × gM)} (C : gCx p c meth m s args cX10_fits 11 (some .boolean) RX10 D cA ad NL A) (hW : gWf NL) (hD0 : gD (fun _ => True) ad NL) (hkk : ∀ (p1 : Int32) (p5 : Int32) (p6 : Int32) (p7 : Int32) (p8 : Int32) (p9 : Int32) (Y : gM) (H : Heap) (locs : List Loc) (ls : Array Slot), gH D cA ad NL Y H → va_S A s.heap H locs → lv_has ls 11 [(0, .ref (ad 43 0)), (1, .int p1), (5, .int p5), (6, .int p6), (7, .int p7), (8, .int p8), (9, .int p9)] → (43, 0) ∈ NL → kk p1 p5 p6 p7 p8 p9 Y = some (rr, XX) → W p l e rm_X10_fits s m args below meth c H locs 0 0 (MQ below (gQ D cA ad NL (some (.int rr)) XX A) args s 0 0 A) (F0 m 100 ls [])) (hk202 : ∀ (p1 : Int32) (p5 : Int32) (p6 : Int32) (p7 : Int32) (p8 : Int32) (Y : gM) (H : Heap) (locs : List Loc) (ls : Array Slot), gH D cA ad NL Y H → va_S A s.heap H locs → lv_has ls 11 [(0, .ref (ad 43 0)), (1, .int p1), (5, .int p5), (6, .int p6), (7, .int p7), (8, .int p8)] → (43, 0) ∈ NL → k202 p1 p5 p6 p7 p8 Y = some (rr, XX) → W p l e rm_X10_fits s m args below meth c H locs 0 0 (MQ below (gQ D cA ad NL (some (.int rr)) XX A) args s 0 0 A) (F0 m 202 ls [])) : ∀ (p1 : Int32) (p5 : Int32) (p6 : Int32) (p7 : Int32) (p8 : Int32) (p9 : Int32) (p10 : Int32) (X : gM) (H : Heap) (locs : List Loc) (ls : Array Slot), gH D cA ad NL X H → va_S A s.heap H locs → lv_has ls 11 [(0, .ref (ad 43 0)), (1, .int p1), (5, .int p5), (6, .int p6), (7, .int p7), (8, .int p8), (9, .int p9), (10, .int p10)] → (43, 0) ∈ NL → X10_fits_J161 (gal NL) N kk k202 p1 p5 p6 p7 p8 p9 p10 X = some (rr, XX) → W p l e rm_X10_fits s m args below meth c H locs 0 0 (MQ below (gQ D cA ad NL (some (.int rr)) XX A) args s 0 0 A) (F0 m 161 ls []) := by
  have hx := C.1
  have hb := C.2.1
  intro p1 p5 p6 p7 p8 p9 p10 X H locs ls hP hS hl ha_l0 hf
  rw [X10_fits_J161] at hf
  refine lv_iload hx hb dX10_fits_161 (lv_at hl 4 rfl) ?_
  exact s_X10_fits_J163 C hW hD0 hkk hk202 p1 p5 p6 p8 p9 p10 p7 X _ _ _ hP hS (lv_sub hl [0, 1, 2, 3, 5, 6, 7] rfl) ha_l0 hf

set_option maxRecDepth 100000 in
set_option maxHeartbeats 4000000 in
theorem s_X10_fits_J132 {p : Program} {l : Launch} {e : Env} {s : State} {m : MethodId} {args : Array Value} {below : List Frame} {meth : Method} {c : Code} {D : va_G} {cA : Nat → ClassId} {ad : Nat → Nat → Nat} {NL : List (Nat × Nat)} {A : Nat → Prop} {rr : Int32} {XX : gM} {N : Nat} {kk : Int32 → Int32 → Int32 → Int32 → Int32 → Int32 → gM → Option (Int32 × gM)} {k202 : Int32 → Int32 → Int32 → Int32 → Int32 → gM → Option (Int32 × gM)} (C : gCx p c meth m s args cX10_fits 11 (some .boolean) RX10 D cA ad NL A) (hW : gWf NL) (hD0 : gD (fun _ => True) ad NL) (hkk : ∀ (p1 : Int32) (p5 : Int32) (p6 : Int32) (p7 : Int32) (p8 : Int32) (p9 : Int32) (Y : gM) (H : Heap) (locs : List Loc) (ls : Array Slot), gH D cA ad NL Y H → va_S A s.heap H locs → lv_has ls 11 [(0, .ref (ad 43 0)), (1, .int p1), (5, .int p5), (6, .int p6), (7, .int p7), (8, .int p8), (9, .int p9)] → (43, 0) ∈ NL → kk p1 p5 p6 p7 p8 p9 Y = some (rr, XX) → W p l e rm_X10_fits s m args below meth c H locs 0 0 (MQ below (gQ D cA ad NL (some (.int rr)) XX A) args s 0 0 A) (F0 m 100 ls [])) (hk202 : ∀ (p1 : Int32) (p5 : Int32) (p6 : Int32) (p7 : Int32) (p8 : Int32) (Y : gM) (H : Heap) (locs : List Loc) (ls : Array Slot), gH D cA ad NL Y H → va_S A s.heap H locs → lv_has ls 11 [(0, .ref (ad 43 0)), (1, .int p1), (5, .int p5), (6, .int p6), (7, .int p7), (8, .int p8)] → (43, 0) ∈ NL → k202 p1 p5 p6 p7 p8 Y = some (rr, XX) → W p l e rm_X10_fits s m args below meth c H locs 0 0 (MQ below (gQ D cA ad NL (some (.int rr)) XX A) args s 0 0 A) (F0 m 202 ls [])) : ∀ (p1 : Int32) (p5 : Int32) (p6 : Int32) (p7 : Int32) (p8 : Int32) (p9 : Int32) (s0 : Int32) (X : gM) (H : Heap) (locs : List Loc) (ls : Array Slot), gH D cA ad NL X H → va_S A s.heap H locs → lv_has ls 11 [(0, .ref (ad 43 0)), (1, .int p1), (5, .int p5), (6, .int p6), (7, .int p7), (8, .int p8), (9, .int p9)] → (43, 0) ∈ NL → X10_fits_J132 (gal NL) N kk k202 p1 p5 p6 p7 p8 p9 s0 X = some (rr, XX) → W p l e rm_X10_fits s m args below meth c H locs 0 0 (MQ below (gQ D cA ad NL (some (.int rr)) XX A) args s 0 0 A) (F0 m 132 ls [.int s0]) := by
  have hx := C.1
  have hb := C.2.1
  intro p1 p5 p6 p7 p8 p9 s0 X H locs ls hP hS hl ha_l0 hf
  rw [X10_fits_J132] at hf
  refine lv_istore (i := 10) (lv' := [(10, .int s0), (0, .ref (ad 43 0)), (1, .int p1), (5, .int p5), (6, .int p6), (7, .int p7), (8, .int p8), (9, .int p9)]) hx hb dX10_fits_132 hl (Nat.le_of_ble_eq_true rfl) rfl (fun ls hl => ?_)
  refine lv_iload hx hb dX10_fits_134 (lv_at hl 0 rfl) ?_
  refine lv_if_eq (tgt := 161) hx hb dX10_fits_136 (by decide) (fun c1 => ?_) (fun c1 => ?_)
  · have hf := g_ip c1 hf
    exact s_X10_fits_J161 C hW hD0 hkk hk202 p1 p5 p6 p7 p8 p9 s0 X _ _ _ hP hS (lv_sub hl [1, 2, 3, 4, 5, 6, 7, 0] rfl) ha_l0 hf
  · have hf := g_in c1 hf
    refine lv_aload_n hx hb dX10_fits_139 rfl (lv_at hl 1 rfl) ?_
    refine r_get C hP ha_l0 (ct_43 _ _ _ _) fx_X10_107 (fg_43_39 _ _ _) dX10_fits_140 ?_
    refine lv_iload hx hb dX10_fits_143 (lv_at hl 7 rfl) ?_
    obtain ⟨j2, h3, hf⟩ := rd_in hf
    refine r_iald C hP (gs_43_39 hW ha_l0) (ct_76 _ _ _ _) h3 dX10_fits_145 ?_
    refine lv_iload hx hb dX10_fits_146 (lv_at hl 5 rfl) ?_
    refine lv_icmp_ge (tgt := 161) hx hb dX10_fits_148 (by decide) (fun c4 => ?_) (fun c4 => ?_)
    · have hf := g_ip c4 hf
      exact s_X10_fits_J161 C hW hD0 hkk hk202 p1 p5 p6 p7 p8 p9 s0 X _ _ _ hP hS (lv_sub hl [1, 2, 3, 4, 5, 6, 7, 0] rfl) ha_l0 hf
    · have hf := g_in c4 hf
      refine lv_aload_n hx hb dX10_fits_151 rfl (lv_at hl 1 rfl) ?_
      refine r_get C hP ha_l0 (ct_43 _ _ _ _) fx_X10_107 (fg_43_39 _ _ _) dX10_fits_152 ?_
      refine lv_iload hx hb dX10_fits_155 (lv_at hl 7 rfl) ?_
      obtain ⟨j5, h6, hf⟩ := rd_in hf
      refine r_iald C hP (gs_43_39 hW ha_l0) (ct_76 _ _ _ _) h6 dX10_fits_157 ?_
      refine lv_goto (tgt := 163) hx hb dX10_fits_158 (by decide) ?_
      exact s_X10_fits_J163 C hW hD0 hkk hk202 p1 p5 p6 p8 p9 s0 ((X 76 0 j5)) X _ _ _ hP hS (lv_sub hl [1, 2, 3, 4, 6, 7, 0] rfl) ha_l0 hf

set_option maxRecDepth 100000 in
set_option maxHeartbeats 4000000 in
theorem s_X10_fits_L100 {p : Program} {l : Launch} {e : Env} {s : State} {m : MethodId} {args : Array Value} {below : List Frame} {meth : Method} {c : Code} {D : va_G} {cA : Nat → ClassId} {ad : Nat → Nat → Nat} {NL : List (Nat × Nat)} {A : Nat → Prop} {rr : Int32} {XX : gM} {N : Nat} {k202 : Int32 → Int32 → Int32 → Int32 → Int32 → gM → Option (Int32 × gM)} (C : gCx p c meth m s args cX10_fits 11 (some .boolean) RX10 D cA ad NL A) (hW : gWf NL) (hD0 : gD (fun _ => True) ad NL) (hk202 : ∀ (p1 : Int32) (p5 : Int32) (p6 : Int32) (p7 : Int32) (p8 : Int32) (Y : gM) (H : Heap) (locs : List Loc) (ls : Array Slot), gH D cA ad NL Y H → va_S A s.heap H locs → lv_has ls 11 [(0, .ref (ad 43 0)), (1, .int p1), (5, .int p5), (6, .int p6), (7, .int p7), (8, .int p8)] → (43, 0) ∈ NL → k202 p1 p5 p6 p7 p8 Y = some (rr, XX) → W p l e rm_X10_fits s m args below meth c H locs 0 0 (MQ below (gQ D cA ad NL (some (.int rr)) XX A) args s 0 0 A) (F0 m 202 ls [])) : ∀ (n : Nat) (p1 : Int32) (p5 : Int32) (p6 : Int32) (p7 : Int32) (p8 : Int32) (p9 : Int32) (X : gM) (H : Heap) (locs : List Loc) (ls : Array Slot), gH D cA ad NL X H → va_S A s.heap H locs → lv_has ls 11 [(0, .ref (ad 43 0)), (1, .int p1), (5, .int p5), (6, .int p6), (7, .int p7), (8, .int p8), (9, .int p9)] → (43, 0) ∈ NL → X10_fits_L100 (gal NL) N k202 n p1 p5 p6 p7 p8 p9 X = some (rr, XX) → W p l e rm_X10_fits s m args below meth c H locs 0 0 (MQ below (gQ D cA ad NL (some (.int rr)) XX A) args s 0 0 A) (F0 m 100 ls []) := by
  have hx := C.1
  have hb := C.2.1
  intro n
  induction n with
  | zero =>
    intro p1 p5 p6 p7 p8 p9 X H locs ls hP hS hl ha_l0 hf
    rw [X10_fits_L100] at hf
    cases hf
  | succ n ih =>
    intro p1 p5 p6 p7 p8 p9 X H locs ls hP hS hl ha_l0 hf
    rw [X10_fits_L100] at hf
    refine lv_iload hx hb dX10_fits_100 (lv_at hl 6 rfl) ?_
    refine lv_iload_n hx hb dX10_fits_102 rfl (lv_at hl 1 rfl) ?_
    refine lv_icmp_ge (tgt := 202) hx hb dX10_fits_103 (by decide) (fun c1 => ?_) (fun c1 => ?_)
    · have hf := g_ip c1 hf
      exact hk202 p1 p5 p6 p7 p8 X _ _ _ hP hS (lv_sub hl [0, 1, 2, 3, 4, 5] rfl) ha_l0 hf
    · have hf := g_in c1 hf
      refine lv_aload_n hx hb dX10_fits_106 rfl (lv_at hl 0 rfl) ?_
      refine r_get C hP ha_l0 (ct_43 _ _ _ _) fx_X10_22 (fg_43_5 _ _ _) dX10_fits_107 ?_
      refine lv_aload_n hx hb dX10_fits_110 rfl (lv_at hl 0 rfl) ?_
      refine r_get C hP ha_l0 (ct_43 _ _ _ _) fx_X10_104 (fg_43_38 _ _ _) dX10_fits_111 ?_
      refine lv_iload hx hb dX10_fits_114 (lv_at hl 6 rfl) ?_
      obtain ⟨j2, h3, hf⟩ := rd_in hf
      refine r_iald C hP (gs_43_38 hW ha_l0) (ct_75 _ _ _ _) h3 dX10_fits_116 ?_
      obtain ⟨j4, h5, hf⟩ := rd_in hf
      refine r_iald C hP (gs_43_5 hW ha_l0) (ct_48 _ _ _ _) h5 dX10_fits_117 ?_
      refine lv_iload hx hb dX10_fits_118 (lv_at hl 3 rfl) ?_
      refine lv_ishr hx hb dX10_fits_120 ?_
      refine lv_iconst (v := 1) hx hb dX10_fits_121 (by decide) ?_
      refine lv_iand hx hb dX10_fits_122 ?_
      refine lv_iconst (v := 1) hx hb dX10_fits_123 (by decide) ?_
      refine lv_icmp_ne (tgt := 131) hx hb dX10_fits_124 (by decide) (fun c6 => ?_) (fun c6 => ?_)
      · have hf := g_in c6 hf
        refine lv_iconst (v := 0) hx hb dX10_fits_131 (by decide) ?_
        exact s_X10_fits_J132 C hW hD0 ih hk202 p1 p5 p6 p7 p8 p9 (0 : Int32) X _ _ _ hP hS (lv_sub hl [0, 1, 2, 3, 4, 5, 6] rfl) ha_l0 hf
      · have hf := g_ip c6 hf
        refine lv_iconst (v := 1) hx hb dX10_fits_127 (by decide) ?_
        refine lv_goto (tgt := 132) hx hb dX10_fits_128 (by decide) ?_
        exact s_X10_fits_J132 C hW hD0 ih hk202 p1 p5 p6 p7 p8 p9 (1 : Int32) X _ _ _ hP hS (lv_sub hl [0, 1, 2, 3, 4, 5, 6] rfl) ha_l0 hf

set_option maxRecDepth 100000 in
set_option maxHeartbeats 4000000 in
theorem s_X10_fits_L78 {p : Program} {l : Launch} {e : Env} {s : State} {m : MethodId} {args : Array Value} {below : List Frame} {meth : Method} {c : Code} {D : va_G} {cA : Nat → ClassId} {ad : Nat → Nat → Nat} {NL : List (Nat × Nat)} {A : Nat → Prop} {rr : Int32} {XX : gM} {N : Nat} {k280 : Int32 → Int32 → gM → Option (Int32 × gM)} (C : gCx p c meth m s args cX10_fits 11 (some .boolean) RX10 D cA ad NL A) (hW : gWf NL) (hD0 : gD (fun _ => True) ad NL) (hk280 : ∀ (p1 : Int32) (p5 : Int32) (Y : gM) (H : Heap) (locs : List Loc) (ls : Array Slot), gH D cA ad NL Y H → va_S A s.heap H locs → lv_has ls 11 [(0, .ref (ad 43 0)), (1, .int p1), (5, .int p5)] → (43, 0) ∈ NL → k280 p1 p5 Y = some (rr, XX) → W p l e rm_X10_fits s m args below meth c H locs 0 0 (MQ below (gQ D cA ad NL (some (.int rr)) XX A) args s 0 0 A) (F0 m 280 ls [])) : ∀ (n : Nat) (p1 : Int32) (p5 : Int32) (p6 : Int32) (X : gM) (H : Heap) (locs : List Loc) (ls : Array Slot), gH D cA ad NL X H → va_S A s.heap H locs → lv_has ls 11 [(0, .ref (ad 43 0)), (1, .int p1), (5, .int p5), (6, .int p6)] → (43, 0) ∈ NL → X10_fits_L78 (gal NL) N k280 n p1 p5 p6 X = some (rr, XX) → W p l e rm_X10_fits s m args below meth c H locs 0 0 (MQ below (gQ D cA ad NL (some (.int rr)) XX A) args s 0 0 A) (F0 m 78 ls []) := by
  have hx := C.1
  have hb := C.2.1
  intro n
  induction n with
  | zero =>
    intro p1 p5 p6 X H locs ls hP hS hl ha_l0 hf
    rw [X10_fits_L78] at hf
    cases hf
  | succ n ih =>
    intro p1 p5 p6 X H locs ls hP hS hl ha_l0 hf
    rw [X10_fits_L78] at hf
    refine lv_iload hx hb dX10_fits_78 (lv_at hl 3 rfl) ?_
    refine lv_bipush (v := 8) hx hb dX10_fits_80 (by decide) ?_
    refine lv_icmp_ge (tgt := 280) hx hb dX10_fits_82 (by decide) (fun c1 => ?_) (fun c1 => ?_)
    · have hf := g_ip c1 hf
      exact hk280 p1 p5 X _ _ _ hP hS (lv_sub hl [0, 1, 2] rfl) ha_l0 hf
    · have hf := g_in c1 hf
      refine lv_iload hx hb dX10_fits_85 (lv_at hl 2 rfl) ?_
      refine lv_if_eq (tgt := 280) hx hb dX10_fits_87 (by decide) (fun c2 => ?_) (fun c2 => ?_)
      · have hf := g_ip c2 hf
        exact hk280 p1 p5 X _ _ _ hP hS (lv_sub hl [0, 1, 2] rfl) ha_l0 hf
      · have hf := g_in c2 hf
        refine lv_bipush (v := 100) hx hb dX10_fits_90 (by decide) ?_
        refine lv_istore (i := 7) (lv' := [(7, .int (100 : Int32)), (0, .ref (ad 43 0)), (1, .int p1), (5, .int p5), (6, .int p6)]) hx hb dX10_fits_92 hl (Nat.le_of_ble_eq_true rfl) rfl (fun ls hl => ?_)
        refine lv_iconst (v := -1) hx hb dX10_fits_94 (by decide) ?_
        refine lv_istore (i := 8) (lv' := [(8, .int (-1 : Int32)), (7, .int (100 : Int32)), (0, .ref (ad 43 0)), (1, .int p1), (5, .int p5), (6, .int p6)]) hx hb dX10_fits_95 hl (Nat.le_of_ble_eq_true rfl) rfl (fun ls hl => ?_)
        refine lv_iconst (v := 0) hx hb dX10_fits_97 (by decide) ?_
        refine lv_istore (i := 9) (lv' := [(9, .int (0 : Int32)), (8, .int (-1 : Int32)), (7, .int (100 : Int32)), (0, .ref (ad 43 0)), (1, .int p1), (5, .int p5), (6, .int p6)]) hx hb dX10_fits_98 hl (Nat.le_of_ble_eq_true rfl) rfl (fun ls hl => ?_)
        exact s_X10_fits_L100 C hW hD0 (fun p1 p5 p6 p7 p8 Y H locs ls hP hS hl ha_l0 hf => s_X10_fits_J202 C hW hD0 ih hk280 p1 p5 p6 p7 p8 Y _ _ _ hP hS hl ha_l0 hf) N p1 p5 p6 (100 : Int32) (-1 : Int32) (0 : Int32) X _ _ _ hP hS (lv_sub hl [3, 4, 5, 6, 2, 1, 0] rfl) ha_l0 hf

set_option maxRecDepth 100000 in
set_option maxHeartbeats 4000000 in
theorem s_X10_fits_J75 {p : Program} {l : Launch} {e : Env} {s : State} {m : MethodId} {args : Array Value} {below : List Frame} {meth : Method} {c : Code} {D : va_G} {cA : Nat → ClassId} {ad : Nat → Nat → Nat} {NL : List (Nat × Nat)} {A : Nat → Prop} {rr : Int32} {XX : gM} {N : Nat} (C : gCx p c meth m s args cX10_fits 11 (some .boolean) RX10 D cA ad NL A) (hW : gWf NL) (hD0 : gD (fun _ => True) ad NL) : ∀ (p1 : Int32) (p5 : Int32) (X : gM) (H : Heap) (locs : List Loc) (ls : Array Slot), gH D cA ad NL X H → va_S A s.heap H locs → lv_has ls 11 [(0, .ref (ad 43 0)), (1, .int p1), (5, .int p5)] → (43, 0) ∈ NL → X10_fits_J75 (gal NL) N p1 p5 X = some (rr, XX) → W p l e rm_X10_fits s m args below meth c H locs 0 0 (MQ below (gQ D cA ad NL (some (.int rr)) XX A) args s 0 0 A) (F0 m 75 ls []) := by
  have hx := C.1
  have hb := C.2.1
  intro p1 p5 X H locs ls hP hS hl ha_l0 hf
  rw [X10_fits_J75] at hf
  refine lv_iconst (v := 0) hx hb dX10_fits_75 (by decide) ?_
  refine lv_istore (i := 6) (lv' := [(6, .int (0 : Int32)), (0, .ref (ad 43 0)), (1, .int p1), (5, .int p5)]) hx hb dX10_fits_76 hl (Nat.le_of_ble_eq_true rfl) rfl (fun ls hl => ?_)
  exact s_X10_fits_L78 C hW hD0 (fun p1 p5 Y H locs ls hP hS hl ha_l0 hf => s_X10_fits_J280 C hW hD0 p1 p5 Y _ _ _ hP hS hl ha_l0 hf) N p1 p5 (0 : Int32) X _ _ _ hP hS (lv_sub hl [1, 2, 3, 0] rfl) ha_l0 hf

set_option maxRecDepth 100000 in
set_option maxHeartbeats 4000000 in
theorem s_X10_fits_J67 {p : Program} {l : Launch} {e : Env} {s : State} {m : MethodId} {args : Array Value} {below : List Frame} {meth : Method} {c : Code} {D : va_G} {cA : Nat → ClassId} {ad : Nat → Nat → Nat} {NL : List (Nat × Nat)} {A : Nat → Prop} {rr : Int32} {XX : gM} {N : Nat} {kk : Int32 → Int32 → Int32 → Int32 → Int32 → Int32 → gM → Option (Int32 × gM)} {k75 : Int32 → Int32 → gM → Option (Int32 × gM)} (C : gCx p c meth m s args cX10_fits 11 (some .boolean) RX10 D cA ad NL A) (hW : gWf NL) (hD0 : gD (fun _ => True) ad NL) (hkk : ∀ (p1 : Int32) (p2 : Int32) (p3 : Int32) (p4 : Int32) (p5 : Int32) (p6 : Int32) (Y : gM) (H : Heap) (locs : List Loc) (ls : Array Slot), gH D cA ad NL Y H → va_S A s.heap H locs → lv_has ls 11 [(0, .ref (ad 43 0)), (1, .int p1), (2, .int p2), (3, .int p3), (4, .int p4), (5, .int p5), (6, .int p6)] → (43, 0) ∈ NL → kk p1 p2 p3 p4 p5 p6 Y = some (rr, XX) → W p l e rm_X10_fits s m args below meth c H locs 0 0 (MQ below (gQ D cA ad NL (some (.int rr)) XX A) args s 0 0 A) (F0 m 6 ls [])) (hk75 : ∀ (p1 : Int32) (p5 : Int32) (Y : gM) (H : Heap) (locs : List Loc) (ls : Array Slot), gH D cA ad NL Y H → va_S A s.heap H locs → lv_has ls 11 [(0, .ref (ad 43 0)), (1, .int p1), (5, .int p5)] → (43, 0) ∈ NL → k75 p1 p5 Y = some (rr, XX) → W p l e rm_X10_fits s m args below meth c H locs 0 0 (MQ below (gQ D cA ad NL (some (.int rr)) XX A) args s 0 0 A) (F0 m 75 ls [])) : ∀ (p1 : Int32) (p2 : Int32) (p3 : Int32) (p4 : Int32) (p6 : Int32) (s0 : Int32) (X : gM) (H : Heap) (locs : List Loc) (ls : Array Slot), gH D cA ad NL X H → va_S A s.heap H locs → lv_has ls 11 [(0, .ref (ad 43 0)), (1, .int p1), (2, .int p2), (3, .int p3), (4, .int p4), (6, .int p6)] → (43, 0) ∈ NL → X10_fits_J67 (gal NL) N kk k75 p1 p2 p3 p4 p6 s0 X = some (rr, XX) → W p l e rm_X10_fits s m args below meth c H locs 0 0 (MQ below (gQ D cA ad NL (some (.int rr)) XX A) args s 0 0 A) (F0 m 67 ls [.int s0]) := by
  have hx := C.1
  have hb := C.2.1
  intro p1 p2 p3 p4 p6 s0 X H locs ls hP hS hl ha_l0 hf
  rw [X10_fits_J67] at hf
  refine lv_istore (i := 5) (lv' := [(5, .int s0), (0, .ref (ad 43 0)), (1, .int p1), (2, .int p2), (3, .int p3), (4, .int p4), (6, .int p6)]) hx hb dX10_fits_67 hl (Nat.le_of_ble_eq_true rfl) rfl (fun ls hl => ?_)
  obtain ⟨v1, e2, hf⟩ := gl_in hf
  refine lv_iinc (v := v1) (lv' := [(6, .int v1), (5, .int s0), (0, .ref (ad 43 0)), (1, .int p1), (2, .int p2), (3, .int p3), (4, .int p4)]) hx hb dX10_fits_69 hl (k := 6) rfl (by rw [e2]; rfl) (Nat.le_of_ble_eq_true rfl) rfl (fun ls hl => ?_)
  refine lv_goto (tgt := 6) hx hb dX10_fits_72 (by decide) ?_
  exact hkk p1 p2 p3 p4 s0 v1 X _ _ _ hP hS (lv_sub hl [2, 3, 4, 5, 6, 1, 0] rfl) ha_l0 hf

set_option maxRecDepth 100000 in
set_option maxHeartbeats 4000000 in
theorem s_X10_fits_J62 {p : Program} {l : Launch} {e : Env} {s : State} {m : MethodId} {args : Array Value} {below : List Frame} {meth : Method} {c : Code} {D : va_G} {cA : Nat → ClassId} {ad : Nat → Nat → Nat} {NL : List (Nat × Nat)} {A : Nat → Prop} {rr : Int32} {XX : gM} {N : Nat} {kk : Int32 → Int32 → Int32 → Int32 → Int32 → Int32 → gM → Option (Int32 × gM)} {k75 : Int32 → Int32 → gM → Option (Int32 × gM)} (C : gCx p c meth m s args cX10_fits 11 (some .boolean) RX10 D cA ad NL A) (hW : gWf NL) (hD0 : gD (fun _ => True) ad NL) (hkk : ∀ (p1 : Int32) (p2 : Int32) (p3 : Int32) (p4 : Int32) (p5 : Int32) (p6 : Int32) (Y : gM) (H : Heap) (locs : List Loc) (ls : Array Slot), gH D cA ad NL Y H → va_S A s.heap H locs → lv_has ls 11 [(0, .ref (ad 43 0)), (1, .int p1), (2, .int p2), (3, .int p3), (4, .int p4), (5, .int p5), (6, .int p6)] → (43, 0) ∈ NL → kk p1 p2 p3 p4 p5 p6 Y = some (rr, XX) → W p l e rm_X10_fits s m args below meth c H locs 0 0 (MQ below (gQ D cA ad NL (some (.int rr)) XX A) args s 0 0 A) (F0 m 6 ls [])) (hk75 : ∀ (p1 : Int32) (p5 : Int32) (Y : gM) (H : Heap) (locs : List Loc) (ls : Array Slot), gH D cA ad NL Y H → va_S A s.heap H locs → lv_has ls 11 [(0, .ref (ad 43 0)), (1, .int p1), (5, .int p5)] → (43, 0) ∈ NL → k75 p1 p5 Y = some (rr, XX) → W p l e rm_X10_fits s m args below meth c H locs 0 0 (MQ below (gQ D cA ad NL (some (.int rr)) XX A) args s 0 0 A) (F0 m 75 ls [])) : ∀ (p1 : Int32) (p2 : Int32) (p3 : Int32) (p4 : Int32) (p6 : Int32) (X : gM) (H : Heap) (locs : List Loc) (ls : Array Slot), gH D cA ad NL X H → va_S A s.heap H locs → lv_has ls 11 [(0, .ref (ad 43 0)), (1, .int p1), (2, .int p2), (3, .int p3), (4, .int p4), (6, .int p6)] → (43, 0) ∈ NL → X10_fits_J62 (gal NL) N kk k75 p1 p2 p3 p4 p6 X = some (rr, XX) → W p l e rm_X10_fits s m args below meth c H locs 0 0 (MQ below (gQ D cA ad NL (some (.int rr)) XX A) args s 0 0 A) (F0 m 62 ls []) := by
  have hx := C.1
  have hb := C.2.1
  intro p1 p2 p3 p4 p6 X H locs ls hP hS hl ha_l0 hf
  rw [X10_fits_J62] at hf
  refine lv_iconst (v := 1) hx hb dX10_fits_62 (by decide) ?_
  refine lv_goto (tgt := 67) hx hb dX10_fits_63 (by decide) ?_
  exact s_X10_fits_J67 C hW hD0 hkk hk75 p1 p2 p3 p4 p6 (1 : Int32) X _ _ _ hP hS (lv_sub hl [0, 1, 2, 3, 4, 5] rfl) ha_l0 hf

set_option maxRecDepth 100000 in
set_option maxHeartbeats 4000000 in
theorem s_X10_fits_J44 {p : Program} {l : Launch} {e : Env} {s : State} {m : MethodId} {args : Array Value} {below : List Frame} {meth : Method} {c : Code} {D : va_G} {cA : Nat → ClassId} {ad : Nat → Nat → Nat} {NL : List (Nat × Nat)} {A : Nat → Prop} {rr : Int32} {XX : gM} {N : Nat} {kk : Int32 → Int32 → Int32 → Int32 → Int32 → Int32 → gM → Option (Int32 × gM)} {k75 : Int32 → Int32 → gM → Option (Int32 × gM)} (C : gCx p c meth m s args cX10_fits 11 (some .boolean) RX10 D cA ad NL A) (hW : gWf NL) (hD0 : gD (fun _ => True) ad NL) (hkk : ∀ (p1 : Int32) (p2 : Int32) (p3 : Int32) (p4 : Int32) (p5 : Int32) (p6 : Int32) (Y : gM) (H : Heap) (locs : List Loc) (ls : Array Slot), gH D cA ad NL Y H → va_S A s.heap H locs → lv_has ls 11 [(0, .ref (ad 43 0)), (1, .int p1), (2, .int p2), (3, .int p3), (4, .int p4), (5, .int p5), (6, .int p6)] → (43, 0) ∈ NL → kk p1 p2 p3 p4 p5 p6 Y = some (rr, XX) → W p l e rm_X10_fits s m args below meth c H locs 0 0 (MQ below (gQ D cA ad NL (some (.int rr)) XX A) args s 0 0 A) (F0 m 6 ls [])) (hk75 : ∀ (p1 : Int32) (p5 : Int32) (Y : gM) (H : Heap) (locs : List Loc) (ls : Array Slot), gH D cA ad NL Y H → va_S A s.heap H locs → lv_has ls 11 [(0, .ref (ad 43 0)), (1, .int p1), (5, .int p5)] → (43, 0) ∈ NL → k75 p1 p5 Y = some (rr, XX) → W p l e rm_X10_fits s m args below meth c H locs 0 0 (MQ below (gQ D cA ad NL (some (.int rr)) XX A) args s 0 0 A) (F0 m 75 ls [])) : ∀ (p1 : Int32) (p2 : Int32) (p3 : Int32) (p4 : Int32) (p6 : Int32) (X : gM) (H : Heap) (locs : List Loc) (ls : Array Slot), gH D cA ad NL X H → va_S A s.heap H locs → lv_has ls 11 [(0, .ref (ad 43 0)), (1, .int p1), (2, .int p2), (3, .int p3), (4, .int p4), (6, .int p6)] → (43, 0) ∈ NL → X10_fits_J44 (gal NL) N kk k75 p1 p2 p3 p4 p6 X = some (rr, XX) → W p l e rm_X10_fits s m args below meth c H locs 0 0 (MQ below (gQ D cA ad NL (some (.int rr)) XX A) args s 0 0 A) (F0 m 44 ls []) := by
  have hx := C.1
  have hb := C.2.1
  intro p1 p2 p3 p4 p6 X H locs ls hP hS hl ha_l0 hf
  rw [X10_fits_J44] at hf
  refine lv_iload hx hb dX10_fits_44 (lv_at hl 5 rfl) ?_
  refine lv_iload hx hb dX10_fits_46 (lv_at hl 4 rfl) ?_
  refine lv_icmp_eq (tgt := 62) hx hb dX10_fits_48 (by decide) (fun c1 => ?_) (fun c1 => ?_)
  · have hf := g_ip c1 hf
    exact s_X10_fits_J62 C hW hD0 hkk hk75 p1 p2 p3 p4 p6 X _ _ _ hP hS (lv_sub hl [0, 1, 2, 3, 4, 5] rfl) ha_l0 hf
  · have hf := g_in c1 hf
    refine lv_aload_n hx hb dX10_fits_51 rfl (lv_at hl 0 rfl) ?_
    refine lv_iload hx hb dX10_fits_52 (lv_at hl 5 rfl) ?_
    refine lv_iload_n hx hb dX10_fits_54 rfl (lv_at hl 1 rfl) ?_
    refine lv_iload_n hx hb dX10_fits_55 rfl (lv_at hl 2 rfl) ?_
    obtain ⟨r2, X3, h4, hf⟩ := b2_in hf
    refine r_cVi (rest := []) C hP hS hl.1 (s_X10_fitsFact hW hD0 ha_l0 h4) ix_X10_fitsFact iv_X10_fitsFact lk_X10_192 ⟨rfl, rfl, Nat.le_of_ble_eq_true rfl, Nat.le_of_ble_eq_true rfl⟩ ha_l0 (ct_43 _ _ _ _) rfl rfl rfl rfl (Nat.le_of_ble_eq_true rfl) ⟨Nat.zero_le _, Nat.zero_le _⟩ dX10_fits_56 (fun H locs hP hS => ?_)
    refine lv_if_eq (tgt := 66) hx hb dX10_fits_59 (by decide) (fun c5 => ?_) (fun c5 => ?_)
    · have hf := g_ip c5 hf
      refine lv_iconst (v := 0) hx hb dX10_fits_66 (by decide) ?_
      exact s_X10_fits_J67 C hW hD0 hkk hk75 p1 p2 p3 p4 p6 (0 : Int32) X3 _ _ _ hP hS (lv_sub hl [0, 1, 2, 3, 4, 5] rfl) ha_l0 hf
    · have hf := g_in c5 hf
      exact s_X10_fits_J62 C hW hD0 hkk hk75 p1 p2 p3 p4 p6 X3 _ _ _ hP hS (lv_sub hl [0, 1, 2, 3, 4, 5] rfl) ha_l0 hf

set_option maxRecDepth 100000 in
set_option maxHeartbeats 4000000 in
theorem s_X10_fits_L6 {p : Program} {l : Launch} {e : Env} {s : State} {m : MethodId} {args : Array Value} {below : List Frame} {meth : Method} {c : Code} {D : va_G} {cA : Nat → ClassId} {ad : Nat → Nat → Nat} {NL : List (Nat × Nat)} {A : Nat → Prop} {rr : Int32} {XX : gM} {N : Nat} {k75 : Int32 → Int32 → gM → Option (Int32 × gM)} (C : gCx p c meth m s args cX10_fits 11 (some .boolean) RX10 D cA ad NL A) (hW : gWf NL) (hD0 : gD (fun _ => True) ad NL) (hk75 : ∀ (p1 : Int32) (p5 : Int32) (Y : gM) (H : Heap) (locs : List Loc) (ls : Array Slot), gH D cA ad NL Y H → va_S A s.heap H locs → lv_has ls 11 [(0, .ref (ad 43 0)), (1, .int p1), (5, .int p5)] → (43, 0) ∈ NL → k75 p1 p5 Y = some (rr, XX) → W p l e rm_X10_fits s m args below meth c H locs 0 0 (MQ below (gQ D cA ad NL (some (.int rr)) XX A) args s 0 0 A) (F0 m 75 ls [])) : ∀ (n : Nat) (p1 : Int32) (p2 : Int32) (p3 : Int32) (p4 : Int32) (p5 : Int32) (p6 : Int32) (X : gM) (H : Heap) (locs : List Loc) (ls : Array Slot), gH D cA ad NL X H → va_S A s.heap H locs → lv_has ls 11 [(0, .ref (ad 43 0)), (1, .int p1), (2, .int p2), (3, .int p3), (4, .int p4), (5, .int p5), (6, .int p6)] → (43, 0) ∈ NL → X10_fits_L6 (gal NL) N k75 n p1 p2 p3 p4 p5 p6 X = some (rr, XX) → W p l e rm_X10_fits s m args below meth c H locs 0 0 (MQ below (gQ D cA ad NL (some (.int rr)) XX A) args s 0 0 A) (F0 m 6 ls []) := by
  have hx := C.1
  have hb := C.2.1
  intro n
  induction n with
  | zero =>
    intro p1 p2 p3 p4 p5 p6 X H locs ls hP hS hl ha_l0 hf
    rw [X10_fits_L6] at hf
    cases hf
  | succ n ih =>
    intro p1 p2 p3 p4 p5 p6 X H locs ls hP hS hl ha_l0 hf
    rw [X10_fits_L6] at hf
    refine lv_iload hx hb dX10_fits_6 (lv_at hl 6 rfl) ?_
    refine lv_aload_n hx hb dX10_fits_8 rfl (lv_at hl 0 rfl) ?_
    refine r_get C hP ha_l0 (ct_43 _ _ _ _) fx_X10_185 (fg_43_23 _ _ _) dX10_fits_9 ?_
    refine lv_icmp_ge (tgt := 75) hx hb dX10_fits_12 (by decide) (fun c1 => ?_) (fun c1 => ?_)
    · have hf := g_ip c1 hf
      exact hk75 p1 p5 X _ _ _ hP hS (lv_sub hl [0, 1, 5] rfl) ha_l0 hf
    · have hf := g_in c1 hf
      refine lv_iload hx hb dX10_fits_15 (lv_at hl 5 rfl) ?_
      refine lv_if_eq (tgt := 75) hx hb dX10_fits_17 (by decide) (fun c2 => ?_) (fun c2 => ?_)
      · have hf := g_ip c2 hf
        exact hk75 p1 p5 X _ _ _ hP hS (lv_sub hl [0, 1, 5] rfl) ha_l0 hf
      · have hf := g_in c2 hf
        refine lv_aload_n hx hb dX10_fits_20 rfl (lv_at hl 0 rfl) ?_
        refine r_get C hP ha_l0 (ct_43 _ _ _ _) fx_X10_80 (fg_43_28 _ _ _) dX10_fits_21 ?_
        refine lv_iload hx hb dX10_fits_24 (lv_at hl 6 rfl) ?_
        obtain ⟨j3, h4, hf⟩ := rd_in hf
        refine r_zald C hP (gs_43_28 hW ha_l0) (ct_67 _ _ _ _) h4 dX10_fits_26 ?_
        refine lv_if_eq (tgt := 62) hx hb dX10_fits_27 (by decide) (fun c5 => ?_) (fun c5 => ?_)
        · have hf := g_ip c5 hf
          exact s_X10_fits_J62 C hW hD0 ih hk75 p1 p2 p3 p4 p6 X _ _ _ hP hS (lv_sub hl [0, 1, 2, 3, 4, 6] rfl) ha_l0 hf
        · have hf := g_in c5 hf
          refine lv_iload_n hx hb dX10_fits_30 rfl (lv_at hl 3 rfl) ?_
          refine lv_if_ne (tgt := 44) hx hb dX10_fits_31 (by decide) (fun c6 => ?_) (fun c6 => ?_)
          · have hf := g_in c6 hf
            exact s_X10_fits_J44 C hW hD0 ih hk75 p1 p2 p3 p4 p6 X _ _ _ hP hS (lv_sub hl [0, 1, 2, 3, 4, 6] rfl) ha_l0 hf
          · have hf := g_ip c6 hf
            refine lv_aload_n hx hb dX10_fits_34 rfl (lv_at hl 0 rfl) ?_
            refine r_get C hP ha_l0 (ct_43 _ _ _ _) fx_X10_76 (fg_43_27 _ _ _) dX10_fits_35 ?_
            refine lv_iload hx hb dX10_fits_38 (lv_at hl 6 rfl) ?_
            obtain ⟨j7, h8, hf⟩ := rd_in hf
            refine r_zald C hP (gs_43_27 hW ha_l0) (ct_66 _ _ _ _) h8 dX10_fits_40 ?_
            refine lv_if_eq (tgt := 62) hx hb dX10_fits_41 (by decide) (fun c9 => ?_) (fun c9 => ?_)
            · have hf := g_ip c9 hf
              exact s_X10_fits_J62 C hW hD0 ih hk75 p1 p2 p3 p4 p6 X _ _ _ hP hS (lv_sub hl [0, 1, 2, 3, 4, 6] rfl) ha_l0 hf
            · have hf := g_in c9 hf
              exact s_X10_fits_J44 C hW hD0 ih hk75 p1 p2 p3 p4 p6 X _ _ _ hP hS (lv_sub hl [0, 1, 2, 3, 4, 6] rfl) ha_l0 hf

set_option maxRecDepth 100000 in
set_option maxHeartbeats 4000000 in
theorem w_X10_fits {p : Program} {l : Launch} {e : Env} {s : State} {m : MethodId} {args : Array Value} {below : List Frame} {meth : Method} {c : Code} {D : va_G} {cA : Nat → ClassId} {ad : Nat → Nat → Nat} {NL : List (Nat × Nat)} {A : Nat → Prop} {rr : Int32} {XX : gM} {N : Nat} (C : gCx p c meth m s args cX10_fits 11 (some .boolean) RX10 D cA ad NL A) (hW : gWf NL) (hD0 : gD (fun _ => True) ad NL) {p1 : Int32} {p2 : Int32} {p3 : Int32} {p4 : Int32} (ha_l0 : (43, 0) ∈ NL) : ∀ (X : gM) (H : Heap) (locs : List Loc) (ls : Array Slot), gH D cA ad NL X H → va_S A s.heap H locs → lv_has ls 11 [(0, .ref (ad 43 0)), (1, .int p1), (2, .int p2), (3, .int p3), (4, .int p4)] → X10_fits (gal NL) N p1 p2 p3 p4 X = some (rr, XX) → W p l e rm_X10_fits s m args below meth c H locs 0 0 (MQ below (gQ D cA ad NL (some (.int rr)) XX A) args s 0 0 A) (F0 m 0 ls []) := by
  have hx := C.1
  have hb := C.2.1
  intro X H locs ls hP hS hl hf
  rw [X10_fits] at hf
  refine lv_iconst (v := 1) hx hb dX10_fits_0 (by decide) ?_
  refine lv_istore (i := 5) (lv' := [(5, .int (1 : Int32)), (0, .ref (ad 43 0)), (1, .int p1), (2, .int p2), (3, .int p3), (4, .int p4)]) hx hb dX10_fits_1 hl (Nat.le_of_ble_eq_true rfl) rfl (fun ls hl => ?_)
  refine lv_iconst (v := 0) hx hb dX10_fits_3 (by decide) ?_
  refine lv_istore (i := 6) (lv' := [(6, .int (0 : Int32)), (5, .int (1 : Int32)), (0, .ref (ad 43 0)), (1, .int p1), (2, .int p2), (3, .int p3), (4, .int p4)]) hx hb dX10_fits_4 hl (Nat.le_of_ble_eq_true rfl) rfl (fun ls hl => ?_)
  exact s_X10_fits_L6 C hW hD0 (fun p1 p5 Y H locs ls hP hS hl ha_l0 hf => s_X10_fits_J75 C hW hD0 p1 p5 Y _ _ _ hP hS hl ha_l0 hf) N p1 p2 p3 p4 (1 : Int32) (0 : Int32) X _ _ _ hP hS (lv_sub hl [2, 3, 4, 5, 6, 1, 0] rfl) ha_l0 hf

theorem s_X10_fits {l : Launch} {D : va_G} {cA : Nat → ClassId} {ad : Nat → Nat → Nat} {NL : List (Nat × Nat)} {N : Nat} {p1 : Int32} {p2 : Int32} {p3 : Int32} {p4 : Int32} {X : gM} {rr : Int32} {XX : gM} (hW : gWf NL) (hD0 : gD (fun _ => True) ad NL) (ha_l0 : (43, 0) ∈ NL) (hf : X10_fits (gal NL) N p1 p2 p3 p4 X = some (rr, XX)) : gC l yX10_fits cX10_fits 11 (some .boolean) rm_X10_fits D cA ad NL [.ref (ad 43 0), .int p1, .int p2, .int p3, .int p4] X (some (.int rr)) XX :=
  g_ofW (by decide) hD0 (Nat.le_of_ble_eq_true rfl) rfl (fun p e s m below meth c ls C hP hS hl => w_X10_fits C hW hD0 ha_l0 X _ _ ls hP hS hl hf)
def rm_X10_arranges : Room := { frames := 3, cells := 0, slots := 0, locals := 81 }
set_option maxRecDepth 100000 in
set_option maxHeartbeats 4000000 in
theorem s_X10_arranges_J321 {p : Program} {l : Launch} {e : Env} {s : State} {m : MethodId} {args : Array Value} {below : List Frame} {meth : Method} {c : Code} {D : va_G} {cA : Nat → ClassId} {ad : Nat → Nat → Nat} {NL : List (Nat × Nat)} {A : Nat → Prop} {rr : Int32} {XX : gM} {N : Nat} (C : gCx p c meth m s args cX10_arranges 11 none RX10 D cA ad NL A) (hW : gWf NL) (hD0 : gD (fun _ => True) ad NL) : ∀ (X : gM) (H : Heap) (locs : List Loc) (ls : Array Slot), gH D cA ad NL X H → va_S A s.heap H locs → lv_has ls 11 [] → X10_arranges_J321 (gal NL) N X = some (rr, XX) → W p l e rm_X10_arranges s m args below meth c H locs 0 0 (MQ below (gQ D cA ad NL none XX A) args s 0 0 A) (F0 m 321 ls []) := by
  have hx := C.1
  have hb := C.2.1
  intro X H locs ls hP hS hl hf
  rw [X10_arranges_J321] at hf
  obtain ⟨rfl, rfl⟩ := g_s1 hf
  exact r_vret C hP hS dX10_arranges_321

set_option maxRecDepth 100000 in
set_option maxHeartbeats 4000000 in
theorem s_X10_arranges_J318 {p : Program} {l : Launch} {e : Env} {s : State} {m : MethodId} {args : Array Value} {below : List Frame} {meth : Method} {c : Code} {D : va_G} {cA : Nat → ClassId} {ad : Nat → Nat → Nat} {NL : List (Nat × Nat)} {A : Nat → Prop} {rr : Int32} {XX : gM} {N : Nat} {kk : Int32 → Int32 → Int32 → Int32 → Int32 → Int32 → Int32 → gM → Option (Int32 × gM)} {k321 : gM → Option (Int32 × gM)} (C : gCx p c meth m s args cX10_arranges 11 none RX10 D cA ad NL A) (hW : gWf NL) (hD0 : gD (fun _ => True) ad NL) (hkk : ∀ (p2 : Int32) (p3 : Int32) (p4 : Int32) (p5 : Int32) (p6 : Int32) (p7 : Int32) (p8 : Int32) (Y : gM) (H : Heap) (locs : List Loc) (ls : Array Slot), gH D cA ad NL Y H → va_S A s.heap H locs → lv_has ls 11 [(0, .ref (ad 43 0)), (2, .int p2), (3, .int p3), (4, .int p4), (5, .int p5), (6, .int p6), (7, .int p7), (8, .int p8)] → (43, 0) ∈ NL → kk p2 p3 p4 p5 p6 p7 p8 Y = some (rr, XX) → W p l e rm_X10_arranges s m args below meth c H locs 0 0 (MQ below (gQ D cA ad NL none XX A) args s 0 0 A) (F0 m 91 ls [])) (hk321 : ∀ (Y : gM) (H : Heap) (locs : List Loc) (ls : Array Slot), gH D cA ad NL Y H → va_S A s.heap H locs → lv_has ls 11 [] → k321 Y = some (rr, XX) → W p l e rm_X10_arranges s m args below meth c H locs 0 0 (MQ below (gQ D cA ad NL none XX A) args s 0 0 A) (F0 m 321 ls [])) : ∀ (p2 : Int32) (p3 : Int32) (p4 : Int32) (p5 : Int32) (p6 : Int32) (p7 : Int32) (p8 : Int32) (X : gM) (H : Heap) (locs : List Loc) (ls : Array Slot), gH D cA ad NL X H → va_S A s.heap H locs → lv_has ls 11 [(0, .ref (ad 43 0)), (2, .int p2), (3, .int p3), (4, .int p4), (5, .int p5), (6, .int p6), (7, .int p7), (8, .int p8)] → (43, 0) ∈ NL → X10_arranges_J318 (gal NL) N kk k321 p2 p3 p4 p5 p6 p7 p8 X = some (rr, XX) → W p l e rm_X10_arranges s m args below meth c H locs 0 0 (MQ below (gQ D cA ad NL none XX A) args s 0 0 A) (F0 m 318 ls []) := by
  have hx := C.1
  have hb := C.2.1
  intro p2 p3 p4 p5 p6 p7 p8 X H locs ls hP hS hl ha_l0 hf
  rw [X10_arranges_J318] at hf
  refine lv_goto (tgt := 91) hx hb dX10_arranges_318 (by decide) ?_
  exact hkk p2 p3 p4 p5 p6 p7 p8 X _ _ _ hP hS (lv_sub hl [0, 1, 2, 3, 4, 5, 6, 7] rfl) ha_l0 hf

set_option maxRecDepth 100000 in
set_option maxHeartbeats 4000000 in
theorem s_X10_arranges_J314 {p : Program} {l : Launch} {e : Env} {s : State} {m : MethodId} {args : Array Value} {below : List Frame} {meth : Method} {c : Code} {D : va_G} {cA : Nat → ClassId} {ad : Nat → Nat → Nat} {NL : List (Nat × Nat)} {A : Nat → Prop} {rr : Int32} {XX : gM} {N : Nat} {kk : Int32 → Int32 → Int32 → Int32 → Int32 → Int32 → Int32 → gM → Option (Int32 × gM)} {k321 : gM → Option (Int32 × gM)} (C : gCx p c meth m s args cX10_arranges 11 none RX10 D cA ad NL A) (hW : gWf NL) (hD0 : gD (fun _ => True) ad NL) (hkk : ∀ (p2 : Int32) (p3 : Int32) (p4 : Int32) (p5 : Int32) (p6 : Int32) (p7 : Int32) (p8 : Int32) (Y : gM) (H : Heap) (locs : List Loc) (ls : Array Slot), gH D cA ad NL Y H → va_S A s.heap H locs → lv_has ls 11 [(0, .ref (ad 43 0)), (2, .int p2), (3, .int p3), (4, .int p4), (5, .int p5), (6, .int p6), (7, .int p7), (8, .int p8)] → (43, 0) ∈ NL → kk p2 p3 p4 p5 p6 p7 p8 Y = some (rr, XX) → W p l e rm_X10_arranges s m args below meth c H locs 0 0 (MQ below (gQ D cA ad NL none XX A) args s 0 0 A) (F0 m 91 ls [])) (hk321 : ∀ (Y : gM) (H : Heap) (locs : List Loc) (ls : Array Slot), gH D cA ad NL Y H → va_S A s.heap H locs → lv_has ls 11 [] → k321 Y = some (rr, XX) → W p l e rm_X10_arranges s m args below meth c H locs 0 0 (MQ below (gQ D cA ad NL none XX A) args s 0 0 A) (F0 m 321 ls [])) : ∀ (p2 : Int32) (p3 : Int32) (p4 : Int32) (p5 : Int32) (p6 : Int32) (p7 : Int32) (p8 : Int32) (s1 : Int32) (s2 : Int32) (X : gM) (H : Heap) (locs : List Loc) (ls : Array Slot), gH D cA ad NL X H → va_S A s.heap H locs → lv_has ls 11 [(0, .ref (ad 43 0)), (2, .int p2), (3, .int p3), (4, .int p4), (5, .int p5), (6, .int p6), (7, .int p7), (8, .int p8)] → (43, 0) ∈ NL → (43, 0) ∈ NL → X10_arranges_J314 (gal NL) N kk k321 p2 p3 p4 p5 p6 p7 p8 s1 s2 X = some (rr, XX) → W p l e rm_X10_arranges s m args below meth c H locs 0 0 (MQ below (gQ D cA ad NL none XX A) args s 0 0 A) (F0 m 314 ls [.int s2, .int s1, .ref (ad 43 0)]) := by
  have hx := C.1
  have hb := C.2.1
  intro p2 p3 p4 p5 p6 p7 p8 s1 s2 X H locs ls hP hS hl ha_l0 ha_s0 hf
  rw [X10_arranges_J314] at hf
  refine lv_iadd hx hb dX10_arranges_314 ?_
  refine r_put C hP hS (s1 + s2) ha_s0 (ct_43 _ _ _ _) px_X10_198 (fp_43_42 _ _ _ _ _) (Nat.le_of_ble_eq_true rfl) rfl rfl dX10_arranges_315 (fun H locs hP hS => ?_)
  obtain ⟨X1, e2, hf⟩ := gl_in hf
  rw [← e2] at hP
  exact s_X10_arranges_J318 C hW hD0 hkk hk321 p2 p3 p4 p5 p6 p7 p8 X1 _ _ _ hP hS (lv_sub hl [0, 1, 2, 3, 4, 5, 6, 7] rfl) ha_l0 hf

set_option maxRecDepth 100000 in
set_option maxHeartbeats 4000000 in
theorem s_X10_arranges_J313 {p : Program} {l : Launch} {e : Env} {s : State} {m : MethodId} {args : Array Value} {below : List Frame} {meth : Method} {c : Code} {D : va_G} {cA : Nat → ClassId} {ad : Nat → Nat → Nat} {NL : List (Nat × Nat)} {A : Nat → Prop} {rr : Int32} {XX : gM} {N : Nat} {kk : Int32 → Int32 → Int32 → Int32 → Int32 → Int32 → Int32 → gM → Option (Int32 × gM)} {k321 : gM → Option (Int32 × gM)} (C : gCx p c meth m s args cX10_arranges 11 none RX10 D cA ad NL A) (hW : gWf NL) (hD0 : gD (fun _ => True) ad NL) (hkk : ∀ (p2 : Int32) (p3 : Int32) (p4 : Int32) (p5 : Int32) (p6 : Int32) (p7 : Int32) (p8 : Int32) (Y : gM) (H : Heap) (locs : List Loc) (ls : Array Slot), gH D cA ad NL Y H → va_S A s.heap H locs → lv_has ls 11 [(0, .ref (ad 43 0)), (2, .int p2), (3, .int p3), (4, .int p4), (5, .int p5), (6, .int p6), (7, .int p7), (8, .int p8)] → (43, 0) ∈ NL → kk p2 p3 p4 p5 p6 p7 p8 Y = some (rr, XX) → W p l e rm_X10_arranges s m args below meth c H locs 0 0 (MQ below (gQ D cA ad NL none XX A) args s 0 0 A) (F0 m 91 ls [])) (hk321 : ∀ (Y : gM) (H : Heap) (locs : List Loc) (ls : Array Slot), gH D cA ad NL Y H → va_S A s.heap H locs → lv_has ls 11 [] → k321 Y = some (rr, XX) → W p l e rm_X10_arranges s m args below meth c H locs 0 0 (MQ below (gQ D cA ad NL none XX A) args s 0 0 A) (F0 m 321 ls [])) : ∀ (p2 : Int32) (p3 : Int32) (p4 : Int32) (p5 : Int32) (p6 : Int32) (p7 : Int32) (p8 : Int32) (s1 : Int32) (X : gM) (H : Heap) (locs : List Loc) (ls : Array Slot), gH D cA ad NL X H → va_S A s.heap H locs → lv_has ls 11 [(0, .ref (ad 43 0)), (2, .int p2), (3, .int p3), (4, .int p4), (5, .int p5), (6, .int p6), (7, .int p7), (8, .int p8)] → (43, 0) ∈ NL → (43, 0) ∈ NL → X10_arranges_J313 (gal NL) N kk k321 p2 p3 p4 p5 p6 p7 p8 s1 X = some (rr, XX) → W p l e rm_X10_arranges s m args below meth c H locs 0 0 (MQ below (gQ D cA ad NL none XX A) args s 0 0 A) (F0 m 313 ls [.int s1, .ref (ad 43 0)]) := by
  have hx := C.1
  have hb := C.2.1
  intro p2 p3 p4 p5 p6 p7 p8 s1 X H locs ls hP hS hl ha_l0 ha_s0 hf
  rw [X10_arranges_J313] at hf
  refine lv_iconst (v := 0) hx hb dX10_arranges_313 (by decide) ?_
  exact s_X10_arranges_J314 C hW hD0 hkk hk321 p2 p3 p4 p5 p6 p7 p8 s1 (0 : Int32) X _ _ _ hP hS (lv_sub hl [0, 1, 2, 3, 4, 5, 6, 7] rfl) ha_l0 ha_s0 hf

set_option maxRecDepth 100000 in
set_option maxHeartbeats 4000000 in
theorem s_X10_arranges_J274 {p : Program} {l : Launch} {e : Env} {s : State} {m : MethodId} {args : Array Value} {below : List Frame} {meth : Method} {c : Code} {D : va_G} {cA : Nat → ClassId} {ad : Nat → Nat → Nat} {NL : List (Nat × Nat)} {A : Nat → Prop} {rr : Int32} {XX : gM} {N : Nat} {kk : Int32 → Int32 → Int32 → Int32 → Int32 → Int32 → Int32 → gM → Option (Int32 × gM)} {k321 : gM → Option (Int32 × gM)} (C : gCx p c meth m s args cX10_arranges 11 none RX10 D cA ad NL A) (hW : gWf NL) (hD0 : gD (fun _ => True) ad NL) (hkk : ∀ (p2 : Int32) (p3 : Int32) (p4 : Int32) (p5 : Int32) (p6 : Int32) (p7 : Int32) (p8 : Int32) (Y : gM) (H : Heap) (locs : List Loc) (ls : Array Slot), gH D cA ad NL Y H → va_S A s.heap H locs → lv_has ls 11 [(0, .ref (ad 43 0)), (2, .int p2), (3, .int p3), (4, .int p4), (5, .int p5), (6, .int p6), (7, .int p7), (8, .int p8)] → (43, 0) ∈ NL → kk p2 p3 p4 p5 p6 p7 p8 Y = some (rr, XX) → W p l e rm_X10_arranges s m args below meth c H locs 0 0 (MQ below (gQ D cA ad NL none XX A) args s 0 0 A) (F0 m 91 ls [])) (hk321 : ∀ (Y : gM) (H : Heap) (locs : List Loc) (ls : Array Slot), gH D cA ad NL Y H → va_S A s.heap H locs → lv_has ls 11 [] → k321 Y = some (rr, XX) → W p l e rm_X10_arranges s m args below meth c H locs 0 0 (MQ below (gQ D cA ad NL none XX A) args s 0 0 A) (F0 m 321 ls [])) : ∀ (p2 : Int32) (p3 : Int32) (p4 : Int32) (p5 : Int32) (p6 : Int32) (p7 : Int32) (p8 : Int32) (X : gM) (H : Heap) (locs : List Loc) (ls : Array Slot), gH D cA ad NL X H → va_S A s.heap H locs → lv_has ls 11 [(0, .ref (ad 43 0)), (2, .int p2), (3, .int p3), (4, .int p4), (5, .int p5), (6, .int p6), (7, .int p7), (8, .int p8)] → (43, 0) ∈ NL → X10_arranges_J274 (gal NL) N kk k321 p2 p3 p4 p5 p6 p7 p8 X = some (rr, XX) → W p l e rm_X10_arranges s m args below meth c H locs 0 0 (MQ below (gQ D cA ad NL none XX A) args s 0 0 A) (F0 m 274 ls []) := by
  have hx := C.1
  have hb := C.2.1
  intro p2 p3 p4 p5 p6 p7 p8 X H locs ls hP hS hl ha_l0 hf
  rw [X10_arranges_J274] at hf
  refine lv_aload_n hx hb dX10_arranges_274 rfl (lv_at hl 0 rfl) ?_
  refine lv_dup hx hb dX10_arranges_275 rfl ?_
  refine r_get C hP ha_l0 (ct_43 _ _ _ _) fx_X10_198 (fg_43_42 _ _ _) dX10_arranges_276 ?_
  refine lv_iload hx hb dX10_arranges_279 (lv_at hl 3 rfl) ?_
  refine lv_iconst (v := -1) hx hb dX10_arranges_281 (by decide) ?_
  refine lv_icmp_eq (tgt := 313) hx hb dX10_arranges_282 (by decide) (fun c1 => ?_) (fun c1 => ?_)
  · have hf := g_ip c1 hf
    exact s_X10_arranges_J313 C hW hD0 hkk hk321 p2 p3 p4 p5 p6 p7 p8 ((X 43 0 42)) X _ _ _ hP hS (lv_sub hl [0, 1, 2, 3, 4, 5, 6, 7] rfl) ha_l0 ha_l0 hf
  · have hf := g_in c1 hf
    refine lv_aload_n hx hb dX10_arranges_285 rfl (lv_at hl 0 rfl) ?_
    refine lv_iload hx hb dX10_arranges_286 (lv_at hl 3 rfl) ?_
    refine lv_iload hx hb dX10_arranges_288 (lv_at hl 5 rfl) ?_
    obtain ⟨r2, X3, h4, hf⟩ := b2_in hf
    refine r_cVi (rest := [.int (X 43 0 42), .ref (ad 43 0)]) C hP hS hl.1 (s_X10_placeOf hW hD0 ha_l0 h4) ix_X10_placeOf iv_X10_placeOf lk_X10_188 ⟨rfl, rfl, Nat.le_of_ble_eq_true rfl, Nat.le_of_ble_eq_true rfl⟩ ha_l0 (ct_43 _ _ _ _) rfl rfl rfl rfl (Nat.le_of_ble_eq_true rfl) ⟨Nat.zero_le _, Nat.zero_le _⟩ dX10_arranges_290 (fun H locs hP hS => ?_)
    refine lv_aload_n hx hb dX10_arranges_293 rfl (lv_at hl 0 rfl) ?_
    refine lv_iload hx hb dX10_arranges_294 (lv_at hl 4 rfl) ?_
    refine lv_iload hx hb dX10_arranges_296 (lv_at hl 5 rfl) ?_
    obtain ⟨r5, X6, h7, hf⟩ := b2_in hf
    refine r_cVi (rest := [.int r2, .int (X 43 0 42), .ref (ad 43 0)]) C hP hS hl.1 (s_X10_placeOf hW hD0 ha_l0 h7) ix_X10_placeOf iv_X10_placeOf lk_X10_188 ⟨rfl, rfl, Nat.le_of_ble_eq_true rfl, Nat.le_of_ble_eq_true rfl⟩ ha_l0 (ct_43 _ _ _ _) rfl rfl rfl rfl (Nat.le_of_ble_eq_true rfl) ⟨Nat.zero_le _, Nat.zero_le _⟩ dX10_arranges_298 (fun H locs hP hS => ?_)
    refine lv_iadd hx hb dX10_arranges_301 ?_
    refine lv_iload hx hb dX10_arranges_302 (lv_at hl 6 rfl) ?_
    refine lv_iconst (v := 1) hx hb dX10_arranges_304 (by decide) ?_
    refine lv_isub hx hb dX10_arranges_305 ?_
    refine lv_icmp_ne (tgt := 313) hx hb dX10_arranges_306 (by decide) (fun c8 => ?_) (fun c8 => ?_)
    · have hf := g_in c8 hf
      exact s_X10_arranges_J313 C hW hD0 hkk hk321 p2 p3 p4 p5 p6 p7 p8 ((X 43 0 42)) X6 _ _ _ hP hS (lv_sub hl [0, 1, 2, 3, 4, 5, 6, 7] rfl) ha_l0 ha_l0 hf
    · have hf := g_ip c8 hf
      refine lv_iconst (v := 1) hx hb dX10_arranges_309 (by decide) ?_
      refine lv_goto (tgt := 314) hx hb dX10_arranges_310 (by decide) ?_
      exact s_X10_arranges_J314 C hW hD0 hkk hk321 p2 p3 p4 p5 p6 p7 p8 ((X 43 0 42)) (1 : Int32) X6 _ _ _ hP hS (lv_sub hl [0, 1, 2, 3, 4, 5, 6, 7] rfl) ha_l0 ha_l0 hf

set_option maxRecDepth 100000 in
set_option maxHeartbeats 4000000 in
theorem s_X10_arranges_L237 {p : Program} {l : Launch} {e : Env} {s : State} {m : MethodId} {args : Array Value} {below : List Frame} {meth : Method} {c : Code} {D : va_G} {cA : Nat → ClassId} {ad : Nat → Nat → Nat} {NL : List (Nat × Nat)} {A : Nat → Prop} {rr : Int32} {XX : gM} {N : Nat} {k274 : Int32 → Int32 → Int32 → Int32 → Int32 → Int32 → Int32 → gM → Option (Int32 × gM)} (C : gCx p c meth m s args cX10_arranges 11 none RX10 D cA ad NL A) (hW : gWf NL) (hD0 : gD (fun _ => True) ad NL) (hk274 : ∀ (p2 : Int32) (p3 : Int32) (p4 : Int32) (p5 : Int32) (p6 : Int32) (p7 : Int32) (p8 : Int32) (Y : gM) (H : Heap) (locs : List Loc) (ls : Array Slot), gH D cA ad NL Y H → va_S A s.heap H locs → lv_has ls 11 [(0, .ref (ad 43 0)), (2, .int p2), (3, .int p3), (4, .int p4), (5, .int p5), (6, .int p6), (7, .int p7), (8, .int p8)] → (43, 0) ∈ NL → k274 p2 p3 p4 p5 p6 p7 p8 Y = some (rr, XX) → W p l e rm_X10_arranges s m args below meth c H locs 0 0 (MQ below (gQ D cA ad NL none XX A) args s 0 0 A) (F0 m 274 ls [])) : ∀ (n : Nat) (p2 : Int32) (p3 : Int32) (p4 : Int32) (p5 : Int32) (p6 : Int32) (p7 : Int32) (p8 : Int32) (p10 : Int32) (X : gM) (H : Heap) (locs : List Loc) (ls : Array Slot), gH D cA ad NL X H → va_S A s.heap H locs → lv_has ls 11 [(0, .ref (ad 43 0)), (2, .int p2), (3, .int p3), (4, .int p4), (5, .int p5), (6, .int p6), (7, .int p7), (8, .int p8), (10, .int p10)] → (43, 0) ∈ NL → X10_arranges_L237 (gal NL) N k274 n p2 p3 p4 p5 p6 p7 p8 p10 X = some (rr, XX) → W p l e rm_X10_arranges s m args below meth c H locs 0 0 (MQ below (gQ D cA ad NL none XX A) args s 0 0 A) (F0 m 237 ls []) := by
  have hx := C.1
  have hb := C.2.1
  intro n
  induction n with
  | zero =>
    intro p2 p3 p4 p5 p6 p7 p8 p10 X H locs ls hP hS hl ha_l0 hf
    rw [X10_arranges_L237] at hf
    cases hf
  | succ n ih =>
    intro p2 p3 p4 p5 p6 p7 p8 p10 X H locs ls hP hS hl ha_l0 hf
    rw [X10_arranges_L237] at hf
    refine lv_iload hx hb dX10_arranges_237 (lv_at hl 8 rfl) ?_
    refine lv_iload hx hb dX10_arranges_239 (lv_at hl 5 rfl) ?_
    refine lv_icmp_ge (tgt := 274) hx hb dX10_arranges_241 (by decide) (fun c1 => ?_) (fun c1 => ?_)
    · have hf := g_ip c1 hf
      exact hk274 p2 p3 p4 p5 p6 p7 p8 X _ _ _ hP hS (lv_sub hl [0, 1, 2, 3, 4, 5, 6, 7] rfl) ha_l0 hf
    · have hf := g_in c1 hf
      refine lv_aload_n hx hb dX10_arranges_244 rfl (lv_at hl 0 rfl) ?_
      refine r_get C hP ha_l0 (ct_43 _ _ _ _) fx_X10_110 (fg_43_41 _ _ _) dX10_arranges_245 ?_
      refine lv_aload_n hx hb dX10_arranges_248 rfl (lv_at hl 0 rfl) ?_
      refine r_get C hP ha_l0 (ct_43 _ _ _ _) fx_X10_104 (fg_43_38 _ _ _) dX10_arranges_249 ?_
      refine lv_iload hx hb dX10_arranges_252 (lv_at hl 8 rfl) ?_
      obtain ⟨j2, h3, hf⟩ := rd_in hf
      refine r_iald C hP (gs_43_38 hW ha_l0) (ct_75 _ _ _ _) h3 dX10_arranges_254 ?_
      refine lv_dup2_11 hx hb dX10_arranges_255 rfl rfl ?_
      obtain ⟨j4, h5, hf⟩ := rd_in hf
      refine r_iald C hP (gs_43_41 hW ha_l0) (ct_77 _ _ _ _) h5 dX10_arranges_256 ?_
      refine lv_iconst (v := 1) hx hb dX10_arranges_257 (by decide) ?_
      refine lv_aload_n hx hb dX10_arranges_258 rfl (lv_at hl 0 rfl) ?_
      refine r_get C hP ha_l0 (ct_43 _ _ _ _) fx_X10_107 (fg_43_39 _ _ _) dX10_arranges_259 ?_
      refine lv_iload hx hb dX10_arranges_262 (lv_at hl 8 rfl) ?_
      obtain ⟨j6, h7, hf⟩ := rd_in hf
      refine r_iald C hP (gs_43_39 hW ha_l0) (ct_76 _ _ _ _) h7 dX10_arranges_264 ?_
      refine lv_ishl hx hb dX10_arranges_265 ?_
      refine lv_ior hx hb dX10_arranges_266 ?_
      obtain ⟨j8, h9, hf⟩ := rd_in hf
      refine r_iast C hP hS (gs_43_41 hW ha_l0) (fun _ => ct_77 _ _ _ _) h9 dX10_arranges_267 (fun H locs hP hS => ?_)
      obtain ⟨X10, e11, hf⟩ := gl_in hf
      rw [← e11] at hP
      obtain ⟨v12, e13, hf⟩ := gl_in hf
      refine lv_iinc (v := v12) (lv' := [(10, .int v12), (0, .ref (ad 43 0)), (2, .int p2), (3, .int p3), (4, .int p4), (5, .int p5), (6, .int p6), (7, .int p7), (8, .int p8)]) hx hb dX10_arranges_268 hl (k := 8) rfl (by rw [e13]; rfl) (Nat.le_of_ble_eq_true rfl) rfl (fun ls hl => ?_)
      refine lv_goto (tgt := 237) hx hb dX10_arranges_271 (by decide) ?_
      exact ih p2 p3 p4 p5 p6 p7 p8 v12 X10 _ _ _ hP hS (lv_sub hl [1, 2, 3, 4, 5, 6, 7, 8, 0] rfl) ha_l0 hf

set_option maxRecDepth 100000 in
set_option maxHeartbeats 4000000 in
theorem s_X10_arranges_J206 {p : Program} {l : Launch} {e : Env} {s : State} {m : MethodId} {args : Array Value} {below : List Frame} {meth : Method} {c : Code} {D : va_G} {cA : Nat → ClassId} {ad : Nat → Nat → Nat} {NL : List (Nat × Nat)} {A : Nat → Prop} {rr : Int32} {XX : gM} {N : Nat} {kk : Int32 → Int32 → Int32 → Int32 → Int32 → Int32 → Int32 → gM → Option (Int32 × gM)} {k321 : gM → Option (Int32 × gM)} (C : gCx p c meth m s args cX10_arranges 11 none RX10 D cA ad NL A) (hW : gWf NL) (hD0 : gD (fun _ => True) ad NL) (hkk : ∀ (p2 : Int32) (p3 : Int32) (p4 : Int32) (p5 : Int32) (p6 : Int32) (p7 : Int32) (p8 : Int32) (Y : gM) (H : Heap) (locs : List Loc) (ls : Array Slot), gH D cA ad NL Y H → va_S A s.heap H locs → lv_has ls 11 [(0, .ref (ad 43 0)), (2, .int p2), (3, .int p3), (4, .int p4), (5, .int p5), (6, .int p6), (7, .int p7), (8, .int p8)] → (43, 0) ∈ NL → kk p2 p3 p4 p5 p6 p7 p8 Y = some (rr, XX) → W p l e rm_X10_arranges s m args below meth c H locs 0 0 (MQ below (gQ D cA ad NL none XX A) args s 0 0 A) (F0 m 91 ls [])) (hk321 : ∀ (Y : gM) (H : Heap) (locs : List Loc) (ls : Array Slot), gH D cA ad NL Y H → va_S A s.heap H locs → lv_has ls 11 [] → k321 Y = some (rr, XX) → W p l e rm_X10_arranges s m args below meth c H locs 0 0 (MQ below (gQ D cA ad NL none XX A) args s 0 0 A) (F0 m 321 ls [])) : ∀ (p2 : Int32) (p3 : Int32) (p4 : Int32) (p5 : Int32) (p6 : Int32) (p7 : Int32) (p8 : Int32) (p9 : Int32) (X : gM) (H : Heap) (locs : List Loc) (ls : Array Slot), gH D cA ad NL X H → va_S A s.heap H locs → lv_has ls 11 [(0, .ref (ad 43 0)), (2, .int p2), (3, .int p3), (4, .int p4), (5, .int p5), (6, .int p6), (7, .int p7), (8, .int p8), (9, .int p9)] → (43, 0) ∈ NL → X10_arranges_J206 (gal NL) N kk k321 p2 p3 p4 p5 p6 p7 p8 p9 X = some (rr, XX) → W p l e rm_X10_arranges s m args below meth c H locs 0 0 (MQ below (gQ D cA ad NL none XX A) args s 0 0 A) (F0 m 206 ls []) := by
  have hx := C.1
  have hb := C.2.1
  intro p2 p3 p4 p5 p6 p7 p8 p9 X H locs ls hP hS hl ha_l0 hf
  rw [X10_arranges_J206] at hf
  refine lv_iload hx hb dX10_arranges_206 (lv_at hl 8 rfl) ?_
  refine lv_if_eq (tgt := 318) hx hb dX10_arranges_208 (by decide) (fun c1 => ?_) (fun c1 => ?_)
  · have hf := g_ip c1 hf
    exact s_X10_arranges_J318 C hW hD0 hkk hk321 p2 p3 p4 p5 p6 p7 p8 X _ _ _ hP hS (lv_sub hl [0, 1, 2, 3, 4, 5, 6, 7] rfl) ha_l0 hf
  · have hf := g_in c1 hf
    refine lv_aload_n hx hb dX10_arranges_211 rfl (lv_at hl 0 rfl) ?_
    refine lv_iload hx hb dX10_arranges_212 (lv_at hl 5 rfl) ?_
    refine lv_iload hx hb dX10_arranges_214 (lv_at hl 6 rfl) ?_
    refine lv_iload_n hx hb dX10_arranges_216 rfl (lv_at hl 1 rfl) ?_
    refine lv_iload_n hx hb dX10_arranges_217 rfl (lv_at hl 2 rfl) ?_
    obtain ⟨r2, X3, h4, hf⟩ := b2_in hf
    refine r_cVi (rest := []) C hP hS hl.1 (s_X10_fits hW hD0 ha_l0 h4) ix_X10_fits iv_X10_fits lk_X10_201 ⟨rfl, rfl, Nat.le_of_ble_eq_true rfl, Nat.le_of_ble_eq_true rfl⟩ ha_l0 (ct_43 _ _ _ _) rfl rfl rfl rfl (Nat.le_of_ble_eq_true rfl) ⟨Nat.zero_le _, Nat.zero_le _⟩ dX10_arranges_218 (fun H locs hP hS => ?_)
    refine lv_if_eq (tgt := 318) hx hb dX10_arranges_221 (by decide) (fun c5 => ?_) (fun c5 => ?_)
    · have hf := g_ip c5 hf
      exact s_X10_arranges_J318 C hW hD0 hkk hk321 p2 p3 p4 p5 p6 p7 p8 X3 _ _ _ hP hS (lv_sub hl [0, 1, 2, 3, 4, 5, 6, 7] rfl) ha_l0 hf
    · have hf := g_in c5 hf
      refine lv_aload_n hx hb dX10_arranges_224 rfl (lv_at hl 0 rfl) ?_
      refine lv_dup hx hb dX10_arranges_225 rfl ?_
      refine r_get C hP ha_l0 (ct_43 _ _ _ _) fx_X10_195 (fg_43_40 _ _ _) dX10_arranges_226 ?_
      refine lv_iconst (v := 1) hx hb dX10_arranges_229 (by decide) ?_
      refine lv_iadd hx hb dX10_arranges_230 ?_
      refine r_put C hP hS ((X3 43 0 40) + (1 : Int32)) ha_l0 (ct_43 _ _ _ _) px_X10_195 (fp_43_40 _ _ _ _ _) (Nat.le_of_ble_eq_true rfl) rfl rfl dX10_arranges_231 (fun H locs hP hS => ?_)
      obtain ⟨X6, e7, hf⟩ := gl_in hf
      rw [← e7] at hP
      refine lv_iconst (v := 0) hx hb dX10_arranges_234 (by decide) ?_
      refine lv_istore (i := 10) (lv' := [(10, .int (0 : Int32)), (0, .ref (ad 43 0)), (2, .int p2), (3, .int p3), (4, .int p4), (5, .int p5), (6, .int p6), (7, .int p7), (8, .int p8), (9, .int p9)]) hx hb dX10_arranges_235 hl (Nat.le_of_ble_eq_true rfl) rfl (fun ls hl => ?_)
      exact s_X10_arranges_L237 C hW hD0 (fun p2 p3 p4 p5 p6 p7 p8 Y H locs ls hP hS hl ha_l0 hf => s_X10_arranges_J274 C hW hD0 hkk hk321 p2 p3 p4 p5 p6 p7 p8 Y _ _ _ hP hS hl ha_l0 hf) N p2 p3 p4 p5 p6 p7 p8 (0 : Int32) X6 _ _ _ hP hS (lv_sub hl [1, 2, 3, 4, 5, 6, 7, 8, 0] rfl) ha_l0 hf

set_option maxRecDepth 100000 in
set_option maxHeartbeats 4000000 in
theorem s_X10_arranges_J160 {p : Program} {l : Launch} {e : Env} {s : State} {m : MethodId} {args : Array Value} {below : List Frame} {meth : Method} {c : Code} {D : va_G} {cA : Nat → ClassId} {ad : Nat → Nat → Nat} {NL : List (Nat × Nat)} {A : Nat → Prop} {rr : Int32} {XX : gM} {N : Nat} {kk : Int32 → Int32 → Int32 → Int32 → Int32 → Int32 → Int32 → gM → Option (Int32 × gM)} {k321 : gM → Option (Int32 × gM)} (C : gCx p c meth m s args cX10_arranges 11 none RX10 D cA ad NL A) (hW : gWf NL) (hD0 : gD (fun _ => True) ad NL) (hkk : ∀ (p2 : Int32) (p3 : Int32) (p4 : Int32) (p5 : Int32) (p6 : Int32) (p7 : Int32) (p8 : Int32) (Y : gM) (H : Heap) (locs : List Loc) (ls : Array Slot), gH D cA ad NL Y H → va_S A s.heap H locs → lv_has ls 11 [(0, .ref (ad 43 0)), (2, .int p2), (3, .int p3), (4, .int p4), (5, .int p5), (6, .int p6), (7, .int p7), (8, .int p8)] → (43, 0) ∈ NL → kk p2 p3 p4 p5 p6 p7 p8 Y = some (rr, XX) → W p l e rm_X10_arranges s m args below meth c H locs 0 0 (MQ below (gQ D cA ad NL none XX A) args s 0 0 A) (F0 m 91 ls [])) (hk321 : ∀ (Y : gM) (H : Heap) (locs : List Loc) (ls : Array Slot), gH D cA ad NL Y H → va_S A s.heap H locs → lv_has ls 11 [] → k321 Y = some (rr, XX) → W p l e rm_X10_arranges s m args below meth c H locs 0 0 (MQ below (gQ D cA ad NL none XX A) args s 0 0 A) (F0 m 321 ls [])) : ∀ (p2 : Int32) (p3 : Int32) (p4 : Int32) (p5 : Int32) (p6 : Int32) (p7 : Int32) (p8 : Int32) (p9 : Int32) (X : gM) (H : Heap) (locs : List Loc) (ls : Array Slot), gH D cA ad NL X H → va_S A s.heap H locs → lv_has ls 11 [(0, .ref (ad 43 0)), (2, .int p2), (3, .int p3), (4, .int p4), (5, .int p5), (6, .int p6), (7, .int p7), (8, .int p8), (9, .int p9)] → (43, 0) ∈ NL → X10_arranges_J160 (gal NL) N kk k321 p2 p3 p4 p5 p6 p7 p8 p9 X = some (rr, XX) → W p l e rm_X10_arranges s m args below meth c H locs 0 0 (MQ below (gQ D cA ad NL none XX A) args s 0 0 A) (F0 m 160 ls []) := by
  have hx := C.1
  have hb := C.2.1
  intro p2 p3 p4 p5 p6 p7 p8 p9 X H locs ls hP hS hl ha_l0 hf
  rw [X10_arranges_J160] at hf
  refine lv_aload_n hx hb dX10_arranges_160 rfl (lv_at hl 0 rfl) ?_
  refine r_get C hP ha_l0 (ct_43 _ _ _ _) fx_X10_107 (fg_43_39 _ _ _) dX10_arranges_161 ?_
  refine lv_iload hx hb dX10_arranges_164 (lv_at hl 7 rfl) ?_
  obtain ⟨j1, h2, hf⟩ := rd_in hf
  refine r_iald C hP (gs_43_39 hW ha_l0) (ct_76 _ _ _ _) h2 dX10_arranges_166 ?_
  refine lv_iload hx hb dX10_arranges_167 (lv_at hl 6 rfl) ?_
  refine lv_icmp_lt (tgt := 178) hx hb dX10_arranges_169 (by decide) (fun c3 => ?_) (fun c3 => ?_)
  · have hf := g_ip c3 hf
    refine lv_iload hx hb dX10_arranges_178 (lv_at hl 8 rfl) ?_
    refine lv_if_eq (tgt := 206) hx hb dX10_arranges_180 (by decide) (fun c4 => ?_) (fun c4 => ?_)
    · have hf := g_ip c4 hf
      exact s_X10_arranges_J206 C hW hD0 hkk hk321 p2 p3 p4 p5 p6 p7 p8 p9 X _ _ _ hP hS (lv_sub hl [0, 1, 2, 3, 4, 5, 6, 7, 8] rfl) ha_l0 hf
    · have hf := g_in c4 hf
      refine lv_iload hx hb dX10_arranges_183 (lv_at hl 7 rfl) ?_
      refine lv_iload hx hb dX10_arranges_185 (lv_at hl 5 rfl) ?_
      refine lv_iconst (v := 1) hx hb dX10_arranges_187 (by decide) ?_
      refine lv_isub hx hb dX10_arranges_188 ?_
      refine lv_icmp_ge (tgt := 206) hx hb dX10_arranges_189 (by decide) (fun c5 => ?_) (fun c5 => ?_)
      · have hf := g_ip c5 hf
        exact s_X10_arranges_J206 C hW hD0 hkk hk321 p2 p3 p4 p5 p6 p7 p8 p9 X _ _ _ hP hS (lv_sub hl [0, 1, 2, 3, 4, 5, 6, 7, 8] rfl) ha_l0 hf
      · have hf := g_in c5 hf
        obtain ⟨v6, e7, hf⟩ := gl_in hf
        refine lv_iinc (v := v6) (lv' := [(8, .int v6), (0, .ref (ad 43 0)), (2, .int p2), (3, .int p3), (4, .int p4), (5, .int p5), (6, .int p6), (7, .int p7), (9, .int p9)]) hx hb dX10_arranges_192 hl (k := 7) rfl (by rw [e7]; rfl) (Nat.le_of_ble_eq_true rfl) rfl (fun ls hl => ?_)
        refine lv_aload_n hx hb dX10_arranges_195 rfl (lv_at hl 1 rfl) ?_
        refine r_get C hP ha_l0 (ct_43 _ _ _ _) fx_X10_107 (fg_43_39 _ _ _) dX10_arranges_196 ?_
        refine lv_iload hx hb dX10_arranges_199 (lv_at hl 0 rfl) ?_
        refine lv_iconst (v := -1) hx hb dX10_arranges_201 (by decide) ?_
        obtain ⟨j8, h9, hf⟩ := rd_in hf
        refine r_iast C hP hS (gs_43_39 hW ha_l0) (fun _ => ct_76 _ _ _ _) h9 dX10_arranges_202 (fun H locs hP hS => ?_)
        obtain ⟨X10, e11, hf⟩ := gl_in hf
        rw [← e11] at hP
        refine lv_goto (tgt := 318) hx hb dX10_arranges_203 (by decide) ?_
        exact s_X10_arranges_J318 C hW hD0 hkk hk321 p2 p3 p4 p5 p6 p7 v6 X10 _ _ _ hP hS (lv_sub hl [1, 2, 3, 4, 5, 6, 7, 0] rfl) ha_l0 hf
  · have hf := g_in c3 hf
    obtain ⟨v12, e13, hf⟩ := gl_in hf
    refine lv_iinc (v := v12) (lv' := [(8, .int v12), (0, .ref (ad 43 0)), (2, .int p2), (3, .int p3), (4, .int p4), (5, .int p5), (6, .int p6), (7, .int p7), (9, .int p9)]) hx hb dX10_arranges_172 hl (k := 7) rfl (by rw [e13]; rfl) (Nat.le_of_ble_eq_true rfl) rfl (fun ls hl => ?_)
    refine lv_goto (tgt := 318) hx hb dX10_arranges_175 (by decide) ?_
    exact s_X10_arranges_J318 C hW hD0 hkk hk321 p2 p3 p4 p5 p6 p7 v12 X _ _ _ hP hS (lv_sub hl [1, 2, 3, 4, 5, 6, 7, 0] rfl) ha_l0 hf

set_option maxRecDepth 100000 in
set_option maxHeartbeats 4000000 in
theorem s_X10_arranges_J152 {p : Program} {l : Launch} {e : Env} {s : State} {m : MethodId} {args : Array Value} {below : List Frame} {meth : Method} {c : Code} {D : va_G} {cA : Nat → ClassId} {ad : Nat → Nat → Nat} {NL : List (Nat × Nat)} {A : Nat → Prop} {rr : Int32} {XX : gM} {N : Nat} {kk : Int32 → Int32 → Int32 → Int32 → Int32 → Int32 → Int32 → Int32 → Int32 → gM → Option (Int32 × gM)} {k160 : Int32 → Int32 → Int32 → Int32 → Int32 → Int32 → Int32 → Int32 → gM → Option (Int32 × gM)} (C : gCx p c meth m s args cX10_arranges 11 none RX10 D cA ad NL A) (hW : gWf NL) (hD0 : gD (fun _ => True) ad NL) (hkk : ∀ (p2 : Int32) (p3 : Int32) (p4 : Int32) (p5 : Int32) (p6 : Int32) (p7 : Int32) (p8 : Int32) (p9 : Int32) (p10 : Int32) (Y : gM) (H : Heap) (locs : List Loc) (ls : Array Slot), gH D cA ad NL Y H → va_S A s.heap H locs → lv_has ls 11 [(0, .ref (ad 43 0)), (2, .int p2), (3, .int p3), (4, .int p4), (5, .int p5), (6, .int p6), (7, .int p7), (8, .int p8), (9, .int p9), (10, .int p10)] → (43, 0) ∈ NL → kk p2 p3 p4 p5 p6 p7 p8 p9 p10 Y = some (rr, XX) → W p l e rm_X10_arranges s m args below meth c H locs 0 0 (MQ below (gQ D cA ad NL none XX A) args s 0 0 A) (F0 m 118 ls [])) (hk160 : ∀ (p2 : Int32) (p3 : Int32) (p4 : Int32) (p5 : Int32) (p6 : Int32) (p7 : Int32) (p8 : Int32) (p9 : Int32) (Y : gM) (H : Heap) (locs : List Loc) (ls : Array Slot), gH D cA ad NL Y H → va_S A s.heap H locs → lv_has ls 11 [(0, .ref (ad 43 0)), (2, .int p2), (3, .int p3), (4, .int p4), (5, .int p5), (6, .int p6), (7, .int p7), (8, .int p8), (9, .int p9)] → (43, 0) ∈ NL → k160 p2 p3 p4 p5 p6 p7 p8 p9 Y = some (rr, XX) → W p l e rm_X10_arranges s m args below meth c H locs 0 0 (MQ below (gQ D cA ad NL none XX A) args s 0 0 A) (F0 m 160 ls [])) : ∀ (p2 : Int32) (p3 : Int32) (p4 : Int32) (p5 : Int32) (p6 : Int32) (p7 : Int32) (p8 : Int32) (p10 : Int32) (s0 : Int32) (X : gM) (H : Heap) (locs : List Loc) (ls : Array Slot), gH D cA ad NL X H → va_S A s.heap H locs → lv_has ls 11 [(0, .ref (ad 43 0)), (2, .int p2), (3, .int p3), (4, .int p4), (5, .int p5), (6, .int p6), (7, .int p7), (8, .int p8), (10, .int p10)] → (43, 0) ∈ NL → X10_arranges_J152 (gal NL) N kk k160 p2 p3 p4 p5 p6 p7 p8 p10 s0 X = some (rr, XX) → W p l e rm_X10_arranges s m args below meth c H locs 0 0 (MQ below (gQ D cA ad NL none XX A) args s 0 0 A) (F0 m 152 ls [.int s0]) := by
  have hx := C.1
  have hb := C.2.1
  intro p2 p3 p4 p5 p6 p7 p8 p10 s0 X H locs ls hP hS hl ha_l0 hf
  rw [X10_arranges_J152] at hf
  refine lv_istore (i := 9) (lv' := [(9, .int s0), (0, .ref (ad 43 0)), (2, .int p2), (3, .int p3), (4, .int p4), (5, .int p5), (6, .int p6), (7, .int p7), (8, .int p8), (10, .int p10)]) hx hb dX10_arranges_152 hl (Nat.le_of_ble_eq_true rfl) rfl (fun ls hl => ?_)
  obtain ⟨v1, e2, hf⟩ := gl_in hf
  refine lv_iinc (v := v1) (lv' := [(10, .int v1), (9, .int s0), (0, .ref (ad 43 0)), (2, .int p2), (3, .int p3), (4, .int p4), (5, .int p5), (6, .int p6), (7, .int p7), (8, .int p8)]) hx hb dX10_arranges_154 hl (k := 9) rfl (by rw [e2]; rfl) (Nat.le_of_ble_eq_true rfl) rfl (fun ls hl => ?_)
  refine lv_goto (tgt := 118) hx hb dX10_arranges_157 (by decide) ?_
  exact hkk p2 p3 p4 p5 p6 p7 p8 s0 v1 X _ _ _ hP hS (lv_sub hl [2, 3, 4, 5, 6, 7, 8, 9, 1, 0] rfl) ha_l0 hf

set_option maxRecDepth 100000 in
set_option maxHeartbeats 4000000 in
theorem s_X10_arranges_J151 {p : Program} {l : Launch} {e : Env} {s : State} {m : MethodId} {args : Array Value} {below : List Frame} {meth : Method} {c : Code} {D : va_G} {cA : Nat → ClassId} {ad : Nat → Nat → Nat} {NL : List (Nat × Nat)} {A : Nat → Prop} {rr : Int32} {XX : gM} {N : Nat} {kk : Int32 → Int32 → Int32 → Int32 → Int32 → Int32 → Int32 → Int32 → Int32 → gM → Option (Int32 × gM)} {k160 : Int32 → Int32 → Int32 → Int32 → Int32 → Int32 → Int32 → Int32 → gM → Option (Int32 × gM)} (C : gCx p c meth m s args cX10_arranges 11 none RX10 D cA ad NL A) (hW : gWf NL) (hD0 : gD (fun _ => True) ad NL) (hkk : ∀ (p2 : Int32) (p3 : Int32) (p4 : Int32) (p5 : Int32) (p6 : Int32) (p7 : Int32) (p8 : Int32) (p9 : Int32) (p10 : Int32) (Y : gM) (H : Heap) (locs : List Loc) (ls : Array Slot), gH D cA ad NL Y H → va_S A s.heap H locs → lv_has ls 11 [(0, .ref (ad 43 0)), (2, .int p2), (3, .int p3), (4, .int p4), (5, .int p5), (6, .int p6), (7, .int p7), (8, .int p8), (9, .int p9), (10, .int p10)] → (43, 0) ∈ NL → kk p2 p3 p4 p5 p6 p7 p8 p9 p10 Y = some (rr, XX) → W p l e rm_X10_arranges s m args below meth c H locs 0 0 (MQ below (gQ D cA ad NL none XX A) args s 0 0 A) (F0 m 118 ls [])) (hk160 : ∀ (p2 : Int32) (p3 : Int32) (p4 : Int32) (p5 : Int32) (p6 : Int32) (p7 : Int32) (p8 : Int32) (p9 : Int32) (Y : gM) (H : Heap) (locs : List Loc) (ls : Array Slot), gH D cA ad NL Y H → va_S A s.heap H locs → lv_has ls 11 [(0, .ref (ad 43 0)), (2, .int p2), (3, .int p3), (4, .int p4), (5, .int p5), (6, .int p6), (7, .int p7), (8, .int p8), (9, .int p9)] → (43, 0) ∈ NL → k160 p2 p3 p4 p5 p6 p7 p8 p9 Y = some (rr, XX) → W p l e rm_X10_arranges s m args below meth c H locs 0 0 (MQ below (gQ D cA ad NL none XX A) args s 0 0 A) (F0 m 160 ls [])) : ∀ (p2 : Int32) (p3 : Int32) (p4 : Int32) (p5 : Int32) (p6 : Int32) (p7 : Int32) (p8 : Int32) (p10 : Int32) (X : gM) (H : Heap) (locs : List Loc) (ls : Array Slot), gH D cA ad NL X H → va_S A s.heap H locs → lv_has ls 11 [(0, .ref (ad 43 0)), (2, .int p2), (3, .int p3), (4, .int p4), (5, .int p5), (6, .int p6), (7, .int p7), (8, .int p8), (10, .int p10)] → (43, 0) ∈ NL → X10_arranges_J151 (gal NL) N kk k160 p2 p3 p4 p5 p6 p7 p8 p10 X = some (rr, XX) → W p l e rm_X10_arranges s m args below meth c H locs 0 0 (MQ below (gQ D cA ad NL none XX A) args s 0 0 A) (F0 m 151 ls []) := by
  have hx := C.1
  have hb := C.2.1
  intro p2 p3 p4 p5 p6 p7 p8 p10 X H locs ls hP hS hl ha_l0 hf
  rw [X10_arranges_J151] at hf
  refine lv_iconst (v := 0) hx hb dX10_arranges_151 (by decide) ?_
  exact s_X10_arranges_J152 C hW hD0 hkk hk160 p2 p3 p4 p5 p6 p7 p8 p10 (0 : Int32) X _ _ _ hP hS (lv_sub hl [0, 1, 2, 3, 4, 5, 6, 7, 8] rfl) ha_l0 hf

set_option maxRecDepth 100000 in
set_option maxHeartbeats 4000000 in
theorem s_X10_arranges_L118 {p : Program} {l : Launch} {e : Env} {s : State} {m : MethodId} {args : Array Value} {below : List Frame} {meth : Method} {c : Code} {D : va_G} {cA : Nat → ClassId} {ad : Nat → Nat → Nat} {NL : List (Nat × Nat)} {A : Nat → Prop} {rr : Int32} {XX : gM} {N : Nat} {k160 : Int32 → Int32 → Int32 → Int32 → Int32 → Int32 → Int32 → Int32 → gM → Option (Int32 × gM)} (C : gCx p c meth m s args cX10_arranges 11 none RX10 D cA ad NL A) (hW : gWf NL) (hD0 : gD (fun _ => True) ad NL) (hk160 : ∀ (p2 : Int32) (p3 : Int32) (p4 : Int32) (p5 : Int32) (p6 : Int32) (p7 : Int32) (p8 : Int32) (p9 : Int32) (Y : gM) (H : Heap) (locs : List Loc) (ls : Array Slot), gH D cA ad NL Y H → va_S A s.heap H locs → lv_has ls 11 [(0, .ref (ad 43 0)), (2, .int p2), (3, .int p3), (4, .int p4), (5, .int p5), (6, .int p6), (7, .int p7), (8, .int p8), (9, .int p9)] → (43, 0) ∈ NL → k160 p2 p3 p4 p5 p6 p7 p8 p9 Y = some (rr, XX) → W p l e rm_X10_arranges s m args below meth c H locs 0 0 (MQ below (gQ D cA ad NL none XX A) args s 0 0 A) (F0 m 160 ls [])) : ∀ (n : Nat) (p2 : Int32) (p3 : Int32) (p4 : Int32) (p5 : Int32) (p6 : Int32) (p7 : Int32) (p8 : Int32) (p9 : Int32) (p10 : Int32) (X : gM) (H : Heap) (locs : List Loc) (ls : Array Slot), gH D cA ad NL X H → va_S A s.heap H locs → lv_has ls 11 [(0, .ref (ad 43 0)), (2, .int p2), (3, .int p3), (4, .int p4), (5, .int p5), (6, .int p6), (7, .int p7), (8, .int p8), (9, .int p9), (10, .int p10)] → (43, 0) ∈ NL → X10_arranges_L118 (gal NL) N k160 n p2 p3 p4 p5 p6 p7 p8 p9 p10 X = some (rr, XX) → W p l e rm_X10_arranges s m args below meth c H locs 0 0 (MQ below (gQ D cA ad NL none XX A) args s 0 0 A) (F0 m 118 ls []) := by
  have hx := C.1
  have hb := C.2.1
  intro n
  induction n with
  | zero =>
    intro p2 p3 p4 p5 p6 p7 p8 p9 p10 X H locs ls hP hS hl ha_l0 hf
    rw [X10_arranges_L118] at hf
    cases hf
  | succ n ih =>
    intro p2 p3 p4 p5 p6 p7 p8 p9 p10 X H locs ls hP hS hl ha_l0 hf
    rw [X10_arranges_L118] at hf
    refine lv_iload hx hb dX10_arranges_118 (lv_at hl 9 rfl) ?_
    refine lv_iload hx hb dX10_arranges_120 (lv_at hl 7 rfl) ?_
    refine lv_icmp_ge (tgt := 160) hx hb dX10_arranges_122 (by decide) (fun c1 => ?_) (fun c1 => ?_)
    · have hf := g_ip c1 hf
      exact hk160 p2 p3 p4 p5 p6 p7 p8 p9 X _ _ _ hP hS (lv_sub hl [0, 1, 2, 3, 4, 5, 6, 7, 8] rfl) ha_l0 hf
    · have hf := g_in c1 hf
      refine lv_iload hx hb dX10_arranges_125 (lv_at hl 8 rfl) ?_
      refine lv_if_eq (tgt := 151) hx hb dX10_arranges_127 (by decide) (fun c2 => ?_) (fun c2 => ?_)
      · have hf := g_ip c2 hf
        exact s_X10_arranges_J151 C hW hD0 ih hk160 p2 p3 p4 p5 p6 p7 p8 p10 X _ _ _ hP hS (lv_sub hl [0, 1, 2, 3, 4, 5, 6, 7, 9] rfl) ha_l0 hf
      · have hf := g_in c2 hf
        refine lv_aload_n hx hb dX10_arranges_130 rfl (lv_at hl 0 rfl) ?_
        refine r_get C hP ha_l0 (ct_43 _ _ _ _) fx_X10_107 (fg_43_39 _ _ _) dX10_arranges_131 ?_
        refine lv_iload hx hb dX10_arranges_134 (lv_at hl 9 rfl) ?_
        obtain ⟨j3, h4, hf⟩ := rd_in hf
        refine r_iald C hP (gs_43_39 hW ha_l0) (ct_76 _ _ _ _) h4 dX10_arranges_136 ?_
        refine lv_aload_n hx hb dX10_arranges_137 rfl (lv_at hl 0 rfl) ?_
        refine r_get C hP ha_l0 (ct_43 _ _ _ _) fx_X10_107 (fg_43_39 _ _ _) dX10_arranges_138 ?_
        refine lv_iload hx hb dX10_arranges_141 (lv_at hl 7 rfl) ?_
        obtain ⟨j5, h6, hf⟩ := rd_in hf
        refine r_iald C hP (gs_43_39 hW ha_l0) (ct_76 _ _ _ _) h6 dX10_arranges_143 ?_
        refine lv_icmp_eq (tgt := 151) hx hb dX10_arranges_144 (by decide) (fun c7 => ?_) (fun c7 => ?_)
        · have hf := g_ip c7 hf
          exact s_X10_arranges_J151 C hW hD0 ih hk160 p2 p3 p4 p5 p6 p7 p8 p10 X _ _ _ hP hS (lv_sub hl [0, 1, 2, 3, 4, 5, 6, 7, 9] rfl) ha_l0 hf
        · have hf := g_in c7 hf
          refine lv_iconst (v := 1) hx hb dX10_arranges_147 (by decide) ?_
          refine lv_goto (tgt := 152) hx hb dX10_arranges_148 (by decide) ?_
          exact s_X10_arranges_J152 C hW hD0 ih hk160 p2 p3 p4 p5 p6 p7 p8 p10 (1 : Int32) X _ _ _ hP hS (lv_sub hl [0, 1, 2, 3, 4, 5, 6, 7, 9] rfl) ha_l0 hf

set_option maxRecDepth 100000 in
set_option maxHeartbeats 4000000 in
theorem s_X10_arranges_L91 {p : Program} {l : Launch} {e : Env} {s : State} {m : MethodId} {args : Array Value} {below : List Frame} {meth : Method} {c : Code} {D : va_G} {cA : Nat → ClassId} {ad : Nat → Nat → Nat} {NL : List (Nat × Nat)} {A : Nat → Prop} {rr : Int32} {XX : gM} {N : Nat} {k321 : gM → Option (Int32 × gM)} (C : gCx p c meth m s args cX10_arranges 11 none RX10 D cA ad NL A) (hW : gWf NL) (hD0 : gD (fun _ => True) ad NL) (hk321 : ∀ (Y : gM) (H : Heap) (locs : List Loc) (ls : Array Slot), gH D cA ad NL Y H → va_S A s.heap H locs → lv_has ls 11 [] → k321 Y = some (rr, XX) → W p l e rm_X10_arranges s m args below meth c H locs 0 0 (MQ below (gQ D cA ad NL none XX A) args s 0 0 A) (F0 m 321 ls [])) : ∀ (n : Nat) (p2 : Int32) (p3 : Int32) (p4 : Int32) (p5 : Int32) (p6 : Int32) (p7 : Int32) (p8 : Int32) (X : gM) (H : Heap) (locs : List Loc) (ls : Array Slot), gH D cA ad NL X H → va_S A s.heap H locs → lv_has ls 11 [(0, .ref (ad 43 0)), (2, .int p2), (3, .int p3), (4, .int p4), (5, .int p5), (6, .int p6), (7, .int p7), (8, .int p8)] → (43, 0) ∈ NL → X10_arranges_L91 (gal NL) N k321 n p2 p3 p4 p5 p6 p7 p8 X = some (rr, XX) → W p l e rm_X10_arranges s m args below meth c H locs 0 0 (MQ below (gQ D cA ad NL none XX A) args s 0 0 A) (F0 m 91 ls []) := by
  have hx := C.1
  have hb := C.2.1
  intro n
  induction n with
  | zero =>
    intro p2 p3 p4 p5 p6 p7 p8 X H locs ls hP hS hl ha_l0 hf
    rw [X10_arranges_L91] at hf
    cases hf
  | succ n ih =>
    intro p2 p3 p4 p5 p6 p7 p8 X H locs ls hP hS hl ha_l0 hf
    rw [X10_arranges_L91] at hf
    refine lv_iload hx hb dX10_arranges_91 (lv_at hl 7 rfl) ?_
    refine lv_if_lt (tgt := 321) hx hb dX10_arranges_93 (by decide) (fun c1 => ?_) (fun c1 => ?_)
    · have hf := g_ip c1 hf
      exact hk321 X _ _ _ hP hS (lv_sub hl [] rfl) hf
    · have hf := g_in c1 hf
      refine lv_iload hx hb dX10_arranges_96 (lv_at hl 5 rfl) ?_
      refine lv_if_le (tgt := 321) hx hb dX10_arranges_98 (by decide) (fun c2 => ?_) (fun c2 => ?_)
      · have hf := g_ip c2 hf
        exact hk321 X _ _ _ hP hS (lv_sub hl [] rfl) hf
      · have hf := g_in c2 hf
        refine lv_aload_n hx hb dX10_arranges_101 rfl (lv_at hl 0 rfl) ?_
        refine r_get C hP ha_l0 (ct_43 _ _ _ _) fx_X10_107 (fg_43_39 _ _ _) dX10_arranges_102 ?_
        refine lv_iload hx hb dX10_arranges_105 (lv_at hl 7 rfl) ?_
        refine lv_dup2_11 hx hb dX10_arranges_107 rfl rfl ?_
        obtain ⟨j3, h4, hf⟩ := rd_in hf
        refine r_iald C hP (gs_43_39 hW ha_l0) (ct_76 _ _ _ _) h4 dX10_arranges_108 ?_
        refine lv_iconst (v := 1) hx hb dX10_arranges_109 (by decide) ?_
        refine lv_iadd hx hb dX10_arranges_110 ?_
        obtain ⟨j5, h6, hf⟩ := rd_in hf
        refine r_iast C hP hS (gs_43_39 hW ha_l0) (fun _ => ct_76 _ _ _ _) h6 dX10_arranges_111 (fun H locs hP hS => ?_)
        obtain ⟨X7, e8, hf⟩ := gl_in hf
        rw [← e8] at hP
        refine lv_iconst (v := 1) hx hb dX10_arranges_112 (by decide) ?_
        refine lv_istore (i := 9) (lv' := [(9, .int (1 : Int32)), (0, .ref (ad 43 0)), (2, .int p2), (3, .int p3), (4, .int p4), (5, .int p5), (6, .int p6), (7, .int p7), (8, .int p8)]) hx hb dX10_arranges_113 hl (Nat.le_of_ble_eq_true rfl) rfl (fun ls hl => ?_)
        refine lv_iconst (v := 0) hx hb dX10_arranges_115 (by decide) ?_
        refine lv_istore (i := 10) (lv' := [(10, .int (0 : Int32)), (9, .int (1 : Int32)), (0, .ref (ad 43 0)), (2, .int p2), (3, .int p3), (4, .int p4), (5, .int p5), (6, .int p6), (7, .int p7), (8, .int p8)]) hx hb dX10_arranges_116 hl (Nat.le_of_ble_eq_true rfl) rfl (fun ls hl => ?_)
        exact s_X10_arranges_L118 C hW hD0 (fun p2 p3 p4 p5 p6 p7 p8 p9 Y H locs ls hP hS hl ha_l0 hf => s_X10_arranges_J160 C hW hD0 ih hk321 p2 p3 p4 p5 p6 p7 p8 p9 Y _ _ _ hP hS hl ha_l0 hf) N p2 p3 p4 p5 p6 p7 p8 (1 : Int32) (0 : Int32) X7 _ _ _ hP hS (lv_sub hl [2, 3, 4, 5, 6, 7, 8, 9, 1, 0] rfl) ha_l0 hf

set_option maxRecDepth 100000 in
set_option maxHeartbeats 4000000 in
theorem s_X10_arranges_J63 {p : Program} {l : Launch} {e : Env} {s : State} {m : MethodId} {args : Array Value} {below : List Frame} {meth : Method} {c : Code} {D : va_G} {cA : Nat → ClassId} {ad : Nat → Nat → Nat} {NL : List (Nat × Nat)} {A : Nat → Prop} {rr : Int32} {XX : gM} {N : Nat} (C : gCx p c meth m s args cX10_arranges 11 none RX10 D cA ad NL A) (hW : gWf NL) (hD0 : gD (fun _ => True) ad NL) : ∀ (p1 : Int32) (p2 : Int32) (p3 : Int32) (p4 : Int32) (p5 : Int32) (p6 : Int32) (s1 : Int32) (X : gM) (H : Heap) (locs : List Loc) (ls : Array Slot), gH D cA ad NL X H → va_S A s.heap H locs → lv_has ls 11 [(0, .ref (ad 43 0)), (1, .int p1), (2, .int p2), (3, .int p3), (4, .int p4), (5, .int p5), (6, .int p6)] → (43, 0) ∈ NL → (43, 0) ∈ NL → X10_arranges_J63 (gal NL) N p1 p2 p3 p4 p5 p6 s1 X = some (rr, XX) → W p l e rm_X10_arranges s m args below meth c H locs 0 0 (MQ below (gQ D cA ad NL none XX A) args s 0 0 A) (F0 m 63 ls [.int s1, .ref (ad 43 0)]) := by
  have hx := C.1
  have hb := C.2.1
  intro p1 p2 p3 p4 p5 p6 s1 X H locs ls hP hS hl ha_l0 ha_s0 hf
  rw [X10_arranges_J63] at hf
  refine r_put C hP hS s1 ha_s0 (ct_43 _ _ _ _) px_X10_195 (fp_43_40 _ _ _ _ _) (Nat.le_of_ble_eq_true rfl) rfl rfl dX10_arranges_63 (fun H locs hP hS => ?_)
  obtain ⟨X1, e2, hf⟩ := gl_in hf
  rw [← e2] at hP
  refine lv_aload_n hx hb dX10_arranges_66 rfl (lv_at hl 0 rfl) ?_
  refine lv_iconst (v := 0) hx hb dX10_arranges_67 (by decide) ?_
  refine r_put C hP hS (0 : Int32) ha_l0 (ct_43 _ _ _ _) px_X10_198 (fp_43_42 _ _ _ _ _) (Nat.le_of_ble_eq_true rfl) rfl rfl dX10_arranges_68 (fun H locs hP hS => ?_)
  obtain ⟨X3, e4, hf⟩ := gl_in hf
  rw [← e4] at hP
  refine lv_iconst (v := 2) hx hb dX10_arranges_71 (by decide) ?_
  refine lv_aload_n hx hb dX10_arranges_72 rfl (lv_at hl 0 rfl) ?_
  refine r_get C hP ha_l0 (ct_43 _ _ _ _) fx_X10_37 (fg_43_10 _ _ _) dX10_arranges_73 ?_
  refine lv_iload_n hx hb dX10_arranges_76 rfl (lv_at hl 1 rfl) ?_
  obtain ⟨j5, h6, hf⟩ := rd_in hf
  refine r_iald C hP (gs_43_10 hW ha_l0) (ct_53 _ _ _ _) h6 dX10_arranges_77 ?_
  refine lv_imul hx hb dX10_arranges_78 ?_
  refine g_top hf (fun v7 e8 hf => ?_)
  refine lv_istore (i := 7) (lv' := [(7, .int v7), (0, .ref (ad 43 0)), (1, .int p1), (2, .int p2), (3, .int p3), (4, .int p4), (5, .int p5), (6, .int p6)]) hx hb dX10_arranges_79 hl (Nat.le_of_ble_eq_true rfl) rfl (fun ls hl => ?_)
  refine lv_iconst (v := 0) hx hb dX10_arranges_81 (by decide) ?_
  refine lv_istore (i := 8) (lv' := [(8, .int (0 : Int32)), (7, .int v7), (0, .ref (ad 43 0)), (1, .int p1), (2, .int p2), (3, .int p3), (4, .int p4), (5, .int p5), (6, .int p6)]) hx hb dX10_arranges_82 hl (Nat.le_of_ble_eq_true rfl) rfl (fun ls hl => ?_)
  refine lv_aload_n hx hb dX10_arranges_84 rfl (lv_at hl 2 rfl) ?_
  refine r_get C hP ha_l0 (ct_43 _ _ _ _) fx_X10_107 (fg_43_39 _ _ _) dX10_arranges_85 ?_
  refine lv_iconst (v := 0) hx hb dX10_arranges_88 (by decide) ?_
  refine lv_iconst (v := -1) hx hb dX10_arranges_89 (by decide) ?_
  obtain ⟨j9, h10, hf⟩ := rd_in hf
  refine r_iast C hP hS (gs_43_39 hW ha_l0) (fun _ => ct_76 _ _ _ _) h10 dX10_arranges_90 (fun H locs hP hS => ?_)
  obtain ⟨X11, e12, hf⟩ := gl_in hf
  rw [← e12] at hP
  exact s_X10_arranges_L91 C hW hD0 (fun Y H locs ls hP hS hl hf => s_X10_arranges_J321 C hW hD0 Y _ _ _ hP hS hl hf) N p2 p3 p4 p5 p6 v7 (0 : Int32) X11 _ _ _ hP hS (lv_sub hl [2, 4, 5, 6, 7, 8, 1, 0] rfl) ha_l0 hf

set_option maxRecDepth 100000 in
set_option maxHeartbeats 4000000 in
theorem s_X10_arranges_J52 {p : Program} {l : Launch} {e : Env} {s : State} {m : MethodId} {args : Array Value} {below : List Frame} {meth : Method} {c : Code} {D : va_G} {cA : Nat → ClassId} {ad : Nat → Nat → Nat} {NL : List (Nat × Nat)} {A : Nat → Prop} {rr : Int32} {XX : gM} {N : Nat} (C : gCx p c meth m s args cX10_arranges 11 none RX10 D cA ad NL A) (hW : gWf NL) (hD0 : gD (fun _ => True) ad NL) : ∀ (p1 : Int32) (p2 : Int32) (p3 : Int32) (p4 : Int32) (p5 : Int32) (p6 : Int32) (X : gM) (H : Heap) (locs : List Loc) (ls : Array Slot), gH D cA ad NL X H → va_S A s.heap H locs → lv_has ls 11 [(0, .ref (ad 43 0)), (1, .int p1), (2, .int p2), (3, .int p3), (4, .int p4), (5, .int p5), (6, .int p6)] → (43, 0) ∈ NL → X10_arranges_J52 (gal NL) N p1 p2 p3 p4 p5 p6 X = some (rr, XX) → W p l e rm_X10_arranges s m args below meth c H locs 0 0 (MQ below (gQ D cA ad NL none XX A) args s 0 0 A) (F0 m 52 ls []) := by
  have hx := C.1
  have hb := C.2.1
  intro p1 p2 p3 p4 p5 p6 X H locs ls hP hS hl ha_l0 hf
  rw [X10_arranges_J52] at hf
  refine lv_aload_n hx hb dX10_arranges_52 rfl (lv_at hl 0 rfl) ?_
  refine lv_iload hx hb dX10_arranges_53 (lv_at hl 6 rfl) ?_
  refine lv_if_ne (tgt := 62) hx hb dX10_arranges_55 (by decide) (fun c1 => ?_) (fun c1 => ?_)
  · have hf := g_in c1 hf
    refine lv_iconst (v := 0) hx hb dX10_arranges_62 (by decide) ?_
    exact s_X10_arranges_J63 C hW hD0 p1 p2 p3 p4 p5 p6 (0 : Int32) X _ _ _ hP hS (lv_sub hl [0, 1, 2, 3, 4, 5, 6] rfl) ha_l0 ha_l0 hf
  · have hf := g_ip c1 hf
    refine lv_iconst (v := 1) hx hb dX10_arranges_58 (by decide) ?_
    refine lv_goto (tgt := 63) hx hb dX10_arranges_59 (by decide) ?_
    exact s_X10_arranges_J63 C hW hD0 p1 p2 p3 p4 p5 p6 (1 : Int32) X _ _ _ hP hS (lv_sub hl [0, 1, 2, 3, 4, 5, 6] rfl) ha_l0 ha_l0 hf

set_option maxRecDepth 100000 in
set_option maxHeartbeats 4000000 in
theorem s_X10_arranges_J46 {p : Program} {l : Launch} {e : Env} {s : State} {m : MethodId} {args : Array Value} {below : List Frame} {meth : Method} {c : Code} {D : va_G} {cA : Nat → ClassId} {ad : Nat → Nat → Nat} {NL : List (Nat × Nat)} {A : Nat → Prop} {rr : Int32} {XX : gM} {N : Nat} {kk : Int32 → Int32 → Int32 → Int32 → Int32 → Int32 → Int32 → gM → Option (Int32 × gM)} {k52 : Int32 → Int32 → Int32 → Int32 → Int32 → Int32 → gM → Option (Int32 × gM)} (C : gCx p c meth m s args cX10_arranges 11 none RX10 D cA ad NL A) (hW : gWf NL) (hD0 : gD (fun _ => True) ad NL) (hkk : ∀ (p1 : Int32) (p2 : Int32) (p3 : Int32) (p4 : Int32) (p5 : Int32) (p6 : Int32) (p7 : Int32) (Y : gM) (H : Heap) (locs : List Loc) (ls : Array Slot), gH D cA ad NL Y H → va_S A s.heap H locs → lv_has ls 11 [(0, .ref (ad 43 0)), (1, .int p1), (2, .int p2), (3, .int p3), (4, .int p4), (5, .int p5), (6, .int p6), (7, .int p7)] → (43, 0) ∈ NL → kk p1 p2 p3 p4 p5 p6 p7 Y = some (rr, XX) → W p l e rm_X10_arranges s m args below meth c H locs 0 0 (MQ below (gQ D cA ad NL none XX A) args s 0 0 A) (F0 m 6 ls [])) (hk52 : ∀ (p1 : Int32) (p2 : Int32) (p3 : Int32) (p4 : Int32) (p5 : Int32) (p6 : Int32) (Y : gM) (H : Heap) (locs : List Loc) (ls : Array Slot), gH D cA ad NL Y H → va_S A s.heap H locs → lv_has ls 11 [(0, .ref (ad 43 0)), (1, .int p1), (2, .int p2), (3, .int p3), (4, .int p4), (5, .int p5), (6, .int p6)] → (43, 0) ∈ NL → k52 p1 p2 p3 p4 p5 p6 Y = some (rr, XX) → W p l e rm_X10_arranges s m args below meth c H locs 0 0 (MQ below (gQ D cA ad NL none XX A) args s 0 0 A) (F0 m 52 ls [])) : ∀ (p1 : Int32) (p2 : Int32) (p3 : Int32) (p4 : Int32) (p5 : Int32) (p6 : Int32) (p7 : Int32) (X : gM) (H : Heap) (locs : List Loc) (ls : Array Slot), gH D cA ad NL X H → va_S A s.heap H locs → lv_has ls 11 [(0, .ref (ad 43 0)), (1, .int p1), (2, .int p2), (3, .int p3), (4, .int p4), (5, .int p5), (6, .int p6), (7, .int p7)] → (43, 0) ∈ NL → X10_arranges_J46 (gal NL) N kk k52 p1 p2 p3 p4 p5 p6 p7 X = some (rr, XX) → W p l e rm_X10_arranges s m args below meth c H locs 0 0 (MQ below (gQ D cA ad NL none XX A) args s 0 0 A) (F0 m 46 ls []) := by
  have hx := C.1
  have hb := C.2.1
  intro p1 p2 p3 p4 p5 p6 p7 X H locs ls hP hS hl ha_l0 hf
  rw [X10_arranges_J46] at hf
  obtain ⟨v1, e2, hf⟩ := gl_in hf
  refine lv_iinc (v := v1) (lv' := [(7, .int v1), (0, .ref (ad 43 0)), (1, .int p1), (2, .int p2), (3, .int p3), (4, .int p4), (5, .int p5), (6, .int p6)]) hx hb dX10_arranges_46 hl (k := 7) rfl (by rw [e2]; rfl) (Nat.le_of_ble_eq_true rfl) rfl (fun ls hl => ?_)
  refine lv_goto (tgt := 6) hx hb dX10_arranges_49 (by decide) ?_
  exact hkk p1 p2 p3 p4 p5 p6 v1 X _ _ _ hP hS (lv_sub hl [1, 2, 3, 4, 5, 6, 7, 0] rfl) ha_l0 hf

set_option maxRecDepth 100000 in
set_option maxHeartbeats 4000000 in
theorem s_X10_arranges_L6 {p : Program} {l : Launch} {e : Env} {s : State} {m : MethodId} {args : Array Value} {below : List Frame} {meth : Method} {c : Code} {D : va_G} {cA : Nat → ClassId} {ad : Nat → Nat → Nat} {NL : List (Nat × Nat)} {A : Nat → Prop} {rr : Int32} {XX : gM} {N : Nat} {k52 : Int32 → Int32 → Int32 → Int32 → Int32 → Int32 → gM → Option (Int32 × gM)} (C : gCx p c meth m s args cX10_arranges 11 none RX10 D cA ad NL A) (hW : gWf NL) (hD0 : gD (fun _ => True) ad NL) (hk52 : ∀ (p1 : Int32) (p2 : Int32) (p3 : Int32) (p4 : Int32) (p5 : Int32) (p6 : Int32) (Y : gM) (H : Heap) (locs : List Loc) (ls : Array Slot), gH D cA ad NL Y H → va_S A s.heap H locs → lv_has ls 11 [(0, .ref (ad 43 0)), (1, .int p1), (2, .int p2), (3, .int p3), (4, .int p4), (5, .int p5), (6, .int p6)] → (43, 0) ∈ NL → k52 p1 p2 p3 p4 p5 p6 Y = some (rr, XX) → W p l e rm_X10_arranges s m args below meth c H locs 0 0 (MQ below (gQ D cA ad NL none XX A) args s 0 0 A) (F0 m 52 ls [])) : ∀ (n : Nat) (p1 : Int32) (p2 : Int32) (p3 : Int32) (p4 : Int32) (p5 : Int32) (p6 : Int32) (p7 : Int32) (X : gM) (H : Heap) (locs : List Loc) (ls : Array Slot), gH D cA ad NL X H → va_S A s.heap H locs → lv_has ls 11 [(0, .ref (ad 43 0)), (1, .int p1), (2, .int p2), (3, .int p3), (4, .int p4), (5, .int p5), (6, .int p6), (7, .int p7)] → (43, 0) ∈ NL → X10_arranges_L6 (gal NL) N k52 n p1 p2 p3 p4 p5 p6 p7 X = some (rr, XX) → W p l e rm_X10_arranges s m args below meth c H locs 0 0 (MQ below (gQ D cA ad NL none XX A) args s 0 0 A) (F0 m 6 ls []) := by
  have hx := C.1
  have hb := C.2.1
  intro n
  induction n with
  | zero =>
    intro p1 p2 p3 p4 p5 p6 p7 X H locs ls hP hS hl ha_l0 hf
    rw [X10_arranges_L6] at hf
    cases hf
  | succ n ih =>
    intro p1 p2 p3 p4 p5 p6 p7 X H locs ls hP hS hl ha_l0 hf
    rw [X10_arranges_L6] at hf
    refine lv_iload hx hb dX10_arranges_6 (lv_at hl 7 rfl) ?_
    refine lv_aload_n hx hb dX10_arranges_8 rfl (lv_at hl 0 rfl) ?_
    refine r_get C hP ha_l0 (ct_43 _ _ _ _) fx_X10_126 (fg_43_0 _ _ _) dX10_arranges_9 ?_
    refine lv_icmp_ge (tgt := 52) hx hb dX10_arranges_12 (by decide) (fun c1 => ?_) (fun c1 => ?_)
    · have hf := g_ip c1 hf
      exact hk52 p1 p2 p3 p4 p5 p6 X _ _ _ hP hS (lv_sub hl [0, 1, 2, 3, 4, 5, 6] rfl) ha_l0 hf
    · have hf := g_in c1 hf
      refine lv_aload_n hx hb dX10_arranges_15 rfl (lv_at hl 0 rfl) ?_
      refine r_get C hP ha_l0 (ct_43 _ _ _ _) fx_X10_7 (fg_43_1 _ _ _) dX10_arranges_16 ?_
      refine lv_iload hx hb dX10_arranges_19 (lv_at hl 7 rfl) ?_
      obtain ⟨j2, h3, hf⟩ := rd_in hf
      refine r_iald C hP (gs_43_1 hW ha_l0) (ct_44 _ _ _ _) h3 dX10_arranges_21 ?_
      refine lv_iload_n hx hb dX10_arranges_22 rfl (lv_at hl 1 rfl) ?_
      refine lv_icmp_ne (tgt := 46) hx hb dX10_arranges_23 (by decide) (fun c4 => ?_) (fun c4 => ?_)
      · have hf := g_in c4 hf
        exact s_X10_arranges_J46 C hW hD0 ih hk52 p1 p2 p3 p4 p5 p6 p7 X _ _ _ hP hS (lv_sub hl [0, 1, 2, 3, 4, 5, 6, 7] rfl) ha_l0 hf
      · have hf := g_ip c4 hf
        refine lv_aload_n hx hb dX10_arranges_26 rfl (lv_at hl 0 rfl) ?_
        refine r_get C hP ha_l0 (ct_43 _ _ _ _) fx_X10_104 (fg_43_38 _ _ _) dX10_arranges_27 ?_
        refine lv_iload hx hb dX10_arranges_30 (lv_at hl 6 rfl) ?_
        refine lv_iload hx hb dX10_arranges_32 (lv_at hl 7 rfl) ?_
        obtain ⟨j5, h6, hf⟩ := rd_in hf
        refine r_iast C hP hS (gs_43_38 hW ha_l0) (fun _ => ct_75 _ _ _ _) h6 dX10_arranges_34 (fun H locs hP hS => ?_)
        obtain ⟨X7, e8, hf⟩ := gl_in hf
        rw [← e8] at hP
        refine lv_aload_n hx hb dX10_arranges_35 rfl (lv_at hl 0 rfl) ?_
        refine r_get C hP ha_l0 (ct_43 _ _ _ _) fx_X10_110 (fg_43_41 _ _ _) dX10_arranges_36 ?_
        refine lv_iload hx hb dX10_arranges_39 (lv_at hl 7 rfl) ?_
        refine lv_iconst (v := 0) hx hb dX10_arranges_41 (by decide) ?_
        obtain ⟨j9, h10, hf⟩ := rd_in hf
        refine r_iast C hP hS (gs_43_41 hW ha_l0) (fun _ => ct_77 _ _ _ _) h10 dX10_arranges_42 (fun H locs hP hS => ?_)
        obtain ⟨X11, e12, hf⟩ := gl_in hf
        rw [← e12] at hP
        obtain ⟨v13, e14, hf⟩ := gl_in hf
        refine lv_iinc (v := v13) (lv' := [(6, .int v13), (0, .ref (ad 43 0)), (1, .int p1), (2, .int p2), (3, .int p3), (4, .int p4), (5, .int p5), (7, .int p7)]) hx hb dX10_arranges_43 hl (k := 6) rfl (by rw [e14]; rfl) (Nat.le_of_ble_eq_true rfl) rfl (fun ls hl => ?_)
        exact s_X10_arranges_J46 C hW hD0 ih hk52 p1 p2 p3 p4 p5 v13 p7 X11 _ _ _ hP hS (lv_sub hl [1, 2, 3, 4, 5, 6, 0, 7] rfl) ha_l0 hf

set_option maxRecDepth 100000 in
set_option maxHeartbeats 4000000 in
theorem w_X10_arranges {p : Program} {l : Launch} {e : Env} {s : State} {m : MethodId} {args : Array Value} {below : List Frame} {meth : Method} {c : Code} {D : va_G} {cA : Nat → ClassId} {ad : Nat → Nat → Nat} {NL : List (Nat × Nat)} {A : Nat → Prop} {rr : Int32} {XX : gM} {N : Nat} (C : gCx p c meth m s args cX10_arranges 11 none RX10 D cA ad NL A) (hW : gWf NL) (hD0 : gD (fun _ => True) ad NL) {p1 : Int32} {p2 : Int32} {p3 : Int32} {p4 : Int32} {p5 : Int32} (ha_l0 : (43, 0) ∈ NL) : ∀ (X : gM) (H : Heap) (locs : List Loc) (ls : Array Slot), gH D cA ad NL X H → va_S A s.heap H locs → lv_has ls 11 [(0, .ref (ad 43 0)), (1, .int p1), (2, .int p2), (3, .int p3), (4, .int p4), (5, .int p5)] → X10_arranges (gal NL) N p1 p2 p3 p4 p5 X = some (rr, XX) → W p l e rm_X10_arranges s m args below meth c H locs 0 0 (MQ below (gQ D cA ad NL none XX A) args s 0 0 A) (F0 m 0 ls []) := by
  have hx := C.1
  have hb := C.2.1
  intro X H locs ls hP hS hl hf
  rw [X10_arranges] at hf
  refine lv_iconst (v := 0) hx hb dX10_arranges_0 (by decide) ?_
  refine lv_istore (i := 6) (lv' := [(6, .int (0 : Int32)), (0, .ref (ad 43 0)), (1, .int p1), (2, .int p2), (3, .int p3), (4, .int p4), (5, .int p5)]) hx hb dX10_arranges_1 hl (Nat.le_of_ble_eq_true rfl) rfl (fun ls hl => ?_)
  refine lv_iconst (v := 0) hx hb dX10_arranges_3 (by decide) ?_
  refine lv_istore (i := 7) (lv' := [(7, .int (0 : Int32)), (6, .int (0 : Int32)), (0, .ref (ad 43 0)), (1, .int p1), (2, .int p2), (3, .int p3), (4, .int p4), (5, .int p5)]) hx hb dX10_arranges_4 hl (Nat.le_of_ble_eq_true rfl) rfl (fun ls hl => ?_)
  exact s_X10_arranges_L6 C hW hD0 (fun p1 p2 p3 p4 p5 p6 Y H locs ls hP hS hl ha_l0 hf => s_X10_arranges_J52 C hW hD0 p1 p2 p3 p4 p5 p6 Y _ _ _ hP hS hl ha_l0 hf) N p1 p2 p3 p4 p5 (0 : Int32) (0 : Int32) X _ _ _ hP hS (lv_sub hl [2, 3, 4, 5, 6, 7, 1, 0] rfl) ha_l0 hf

theorem s_X10_arranges {l : Launch} {D : va_G} {cA : Nat → ClassId} {ad : Nat → Nat → Nat} {NL : List (Nat × Nat)} {N : Nat} {p1 : Int32} {p2 : Int32} {p3 : Int32} {p4 : Int32} {p5 : Int32} {X : gM} {rr : Int32} {XX : gM} (hW : gWf NL) (hD0 : gD (fun _ => True) ad NL) (ha_l0 : (43, 0) ∈ NL) (hf : X10_arranges (gal NL) N p1 p2 p3 p4 p5 X = some (rr, XX)) : gC l yX10_arranges cX10_arranges 11 none rm_X10_arranges D cA ad NL [.ref (ad 43 0), .int p1, .int p2, .int p3, .int p4, .int p5] X none XX :=
  g_ofW (by decide) hD0 (Nat.le_of_ble_eq_true rfl) rfl (fun p e s m below meth c ls C hP hS hl => w_X10_arranges C hW hD0 ha_l0 X _ _ ls hP hS hl hf)
def rm_X10_arrangements : Room := { frames := 4, cells := 0, slots := 0, locals := 111 }
set_option maxRecDepth 100000 in
set_option maxHeartbeats 4000000 in
theorem s_X10_arrangements_J15 {p : Program} {l : Launch} {e : Env} {s : State} {m : MethodId} {args : Array Value} {below : List Frame} {meth : Method} {c : Code} {D : va_G} {cA : Nat → ClassId} {ad : Nat → Nat → Nat} {NL : List (Nat × Nat)} {A : Nat → Prop} {rr : Int32} {XX : gM} {N : Nat} (C : gCx p c meth m s args cX10_arrangements 3 (some .int) RX10 D cA ad NL A) (hW : gWf NL) (hD0 : gD (fun _ => True) ad NL) : ∀ (p1 : Int32) (p2 : Int32) (s1 : Int32) (X : gM) (H : Heap) (locs : List Loc) (ls : Array Slot), gH D cA ad NL X H → va_S A s.heap H locs → lv_has ls 3 [(0, .ref (ad 43 0)), (1, .int p1), (2, .int p2)] → (43, 0) ∈ NL → (43, 0) ∈ NL → X10_arrangements_J15 (gal NL) N p1 p2 s1 X = some (rr, XX) → W p l e rm_X10_arrangements s m args below meth c H locs 0 0 (MQ below (gQ D cA ad NL (some (.int rr)) XX A) args s 0 0 A) (F0 m 15 ls [.int s1, .ref (ad 43 0)]) := by
  have hx := C.1
  have hb := C.2.1
  intro p1 p2 s1 X H locs ls hP hS hl ha_l0 ha_s0 hf
  rw [X10_arrangements_J15] at hf
  refine r_put C hP hS s1 ha_s0 (ct_43 _ _ _ _) px_X10_122 (fp_43_46 _ _ _ _ _) (Nat.le_of_ble_eq_true rfl) rfl rfl dX10_arrangements_15 (fun H locs hP hS => ?_)
  obtain ⟨X1, e2, hf⟩ := gl_in hf
  rw [← e2] at hP
  refine lv_aload_n hx hb dX10_arrangements_18 rfl (lv_at hl 0 rfl) ?_
  refine r_get C hP ha_l0 (ct_43 _ _ _ _) fx_X10_122 (fg_43_46 _ _ _) dX10_arrangements_19 ?_
  refine lv_if_le (tgt := 27) hx hb dX10_arrangements_22 (by decide) (fun c3 => ?_) (fun c3 => ?_)
  · have hf := g_ip c3 hf
    refine lv_aload_n hx hb dX10_arrangements_27 rfl (lv_at hl 0 rfl) ?_
    refine lv_iload_n hx hb dX10_arrangements_28 rfl (lv_at hl 1 rfl) ?_
    refine lv_iload_n hx hb dX10_arrangements_29 rfl (lv_at hl 2 rfl) ?_
    refine lv_iconst (v := -1) hx hb dX10_arrangements_30 (by decide) ?_
    refine lv_iconst (v := -1) hx hb dX10_arrangements_31 (by decide) ?_
    refine lv_iconst (v := -1) hx hb dX10_arrangements_32 (by decide) ?_
    obtain ⟨r4, X5, h6, hf⟩ := b2_in hf
    refine r_cVv (rest := []) C hP hS hl.1 (s_X10_arranges hW hD0 ha_l0 h6) ix_X10_arranges iv_X10_arranges lk_X10_205 ⟨rfl, rfl, Nat.le_of_ble_eq_true rfl, Nat.le_of_ble_eq_true rfl⟩ ha_l0 (ct_43 _ _ _ _) rfl rfl rfl rfl (Nat.le_of_ble_eq_true rfl) ⟨Nat.zero_le _, Nat.zero_le _⟩ dX10_arrangements_33 (fun H locs hP hS => ?_)
    refine lv_aload_n hx hb dX10_arrangements_36 rfl (lv_at hl 0 rfl) ?_
    refine r_get C hP ha_l0 (ct_43 _ _ _ _) fx_X10_195 (fg_43_40 _ _ _) dX10_arrangements_37 ?_
    obtain ⟨rfl, rfl⟩ := g_s1 hf
    exact r_iret C hP hS dX10_arrangements_40
  · have hf := g_in c3 hf
    refine lv_iconst (v := 0) hx hb dX10_arrangements_25 (by decide) ?_
    obtain ⟨rfl, rfl⟩ := g_s1 hf
    exact r_iret C hP hS dX10_arrangements_26

set_option maxRecDepth 100000 in
set_option maxHeartbeats 4000000 in
theorem w_X10_arrangements {p : Program} {l : Launch} {e : Env} {s : State} {m : MethodId} {args : Array Value} {below : List Frame} {meth : Method} {c : Code} {D : va_G} {cA : Nat → ClassId} {ad : Nat → Nat → Nat} {NL : List (Nat × Nat)} {A : Nat → Prop} {rr : Int32} {XX : gM} {N : Nat} (C : gCx p c meth m s args cX10_arrangements 3 (some .int) RX10 D cA ad NL A) (hW : gWf NL) (hD0 : gD (fun _ => True) ad NL) {p1 : Int32} {p2 : Int32} (ha_l0 : (43, 0) ∈ NL) : ∀ (X : gM) (H : Heap) (locs : List Loc) (ls : Array Slot), gH D cA ad NL X H → va_S A s.heap H locs → lv_has ls 3 [(0, .ref (ad 43 0)), (1, .int p1), (2, .int p2)] → X10_arrangements (gal NL) N p1 p2 X = some (rr, XX) → W p l e rm_X10_arrangements s m args below meth c H locs 0 0 (MQ below (gQ D cA ad NL (some (.int rr)) XX A) args s 0 0 A) (F0 m 0 ls []) := by
  have hx := C.1
  have hb := C.2.1
  intro X H locs ls hP hS hl hf
  rw [X10_arrangements] at hf
  refine lv_aload_n hx hb dX10_arrangements_0 rfl (lv_at hl 0 rfl) ?_
  refine lv_iload_n hx hb dX10_arrangements_1 rfl (lv_at hl 1 rfl) ?_
  refine lv_iconst (v := 0) hx hb dX10_arrangements_2 (by decide) ?_
  refine lv_iconst (v := 1) hx hb dX10_arrangements_3 (by decide) ?_
  obtain ⟨r1, X2, h3, hf⟩ := b2_in hf
  refine r_cSi (rest := [.ref (ad 43 0)]) C hP hS hl.1 (s_X10_in hW hD0  h3) ix_X10_in is_X10_in ls_X10_129 ⟨rfl, rfl, Nat.le_of_ble_eq_true rfl, Nat.le_of_ble_eq_true rfl⟩ rfl rfl (Nat.le_of_ble_eq_true rfl) ⟨Nat.zero_le _, Nat.zero_le _⟩ dX10_arrangements_4 (fun H locs hP hS => ?_)
  refine lv_if_eq (tgt := 14) hx hb dX10_arrangements_7 (by decide) (fun c4 => ?_) (fun c4 => ?_)
  · have hf := g_ip c4 hf
    refine lv_iconst (v := 1) hx hb dX10_arrangements_14 (by decide) ?_
    exact s_X10_arrangements_J15 C hW hD0 p1 p2 (1 : Int32) X2 _ _ _ hP hS (lv_sub hl [0, 1, 2] rfl) ha_l0 ha_l0 hf
  · have hf := g_in c4 hf
    refine lv_iconst (v := 0) hx hb dX10_arrangements_10 (by decide) ?_
    refine lv_goto (tgt := 15) hx hb dX10_arrangements_11 (by decide) ?_
    exact s_X10_arrangements_J15 C hW hD0 p1 p2 (0 : Int32) X2 _ _ _ hP hS (lv_sub hl [0, 1, 2] rfl) ha_l0 ha_l0 hf

theorem s_X10_arrangements {l : Launch} {D : va_G} {cA : Nat → ClassId} {ad : Nat → Nat → Nat} {NL : List (Nat × Nat)} {N : Nat} {p1 : Int32} {p2 : Int32} {X : gM} {rr : Int32} {XX : gM} (hW : gWf NL) (hD0 : gD (fun _ => True) ad NL) (ha_l0 : (43, 0) ∈ NL) (hf : X10_arrangements (gal NL) N p1 p2 X = some (rr, XX)) : gC l yX10_arrangements cX10_arrangements 3 (some .int) rm_X10_arrangements D cA ad NL [.ref (ad 43 0), .int p1, .int p2] X (some (.int rr)) XX :=
  g_ofW (by decide) hD0 (Nat.le_of_ble_eq_true rfl) rfl (fun p e s m below meth c ls C hP hS hl => w_X10_arrangements C hW hD0 ha_l0 X _ _ ls hP hS hl hf)
def rm_X10_places : Room := { frames := 4, cells := 0, slots := 0, locals := 111 }
set_option maxRecDepth 100000 in
set_option maxHeartbeats 4000000 in
theorem s_X10_places_J14 {p : Program} {l : Launch} {e : Env} {s : State} {m : MethodId} {args : Array Value} {below : List Frame} {meth : Method} {c : Code} {D : va_G} {cA : Nat → ClassId} {ad : Nat → Nat → Nat} {NL : List (Nat × Nat)} {A : Nat → Prop} {rr : Int32} {XX : gM} {N : Nat} (C : gCx p c meth m s args cX10_places 3 (some .int) RX10 D cA ad NL A) (hW : gWf NL) (hD0 : gD (fun _ => True) ad NL) : ∀ (p1 : Int32) (p2 : Int32) (s1 : Int32) (X : gM) (H : Heap) (locs : List Loc) (ls : Array Slot), gH D cA ad NL X H → va_S A s.heap H locs → lv_has ls 3 [(0, .ref (ad 43 0)), (1, .int p1), (2, .int p2)] → (43, 0) ∈ NL → (43, 0) ∈ NL → X10_places_J14 (gal NL) N p1 p2 s1 X = some (rr, XX) → W p l e rm_X10_places s m args below meth c H locs 0 0 (MQ below (gQ D cA ad NL (some (.int rr)) XX A) args s 0 0 A) (F0 m 14 ls [.int s1, .ref (ad 43 0)]) := by
  have hx := C.1
  have hb := C.2.1
  intro p1 p2 s1 X H locs ls hP hS hl ha_l0 ha_s0 hf
  rw [X10_places_J14] at hf
  refine r_put C hP hS s1 ha_s0 (ct_43 _ _ _ _) px_X10_122 (fp_43_46 _ _ _ _ _) (Nat.le_of_ble_eq_true rfl) rfl rfl dX10_places_14 (fun H locs hP hS => ?_)
  obtain ⟨X1, e2, hf⟩ := gl_in hf
  rw [← e2] at hP
  refine lv_aload_n hx hb dX10_places_17 rfl (lv_at hl 0 rfl) ?_
  refine r_get C hP ha_l0 (ct_43 _ _ _ _) fx_X10_122 (fg_43_46 _ _ _) dX10_places_18 ?_
  refine lv_if_le (tgt := 26) hx hb dX10_places_21 (by decide) (fun c3 => ?_) (fun c3 => ?_)
  · have hf := g_ip c3 hf
    refine lv_aload_n hx hb dX10_places_26 rfl (lv_at hl 0 rfl) ?_
    refine lv_aload_n hx hb dX10_places_27 rfl (lv_at hl 0 rfl) ?_
    refine r_get C hP ha_l0 (ct_43 _ _ _ _) fx_X10_7 (fg_43_1 _ _ _) dX10_places_28 ?_
    refine lv_iload_n hx hb dX10_places_31 rfl (lv_at hl 1 rfl) ?_
    obtain ⟨j4, h5, hf⟩ := rd_in hf
    refine r_iald C hP (gs_43_1 hW ha_l0) (ct_44 _ _ _ _) h5 dX10_places_32 ?_
    refine lv_iload_n hx hb dX10_places_33 rfl (lv_at hl 2 rfl) ?_
    refine lv_iconst (v := -1) hx hb dX10_places_34 (by decide) ?_
    refine lv_iconst (v := -1) hx hb dX10_places_35 (by decide) ?_
    refine lv_iconst (v := -1) hx hb dX10_places_36 (by decide) ?_
    obtain ⟨r6, X7, h8, hf⟩ := b2_in hf
    refine r_cVv (rest := []) C hP hS hl.1 (s_X10_arranges hW hD0 ha_l0 h8) ix_X10_arranges iv_X10_arranges lk_X10_205 ⟨rfl, rfl, Nat.le_of_ble_eq_true rfl, Nat.le_of_ble_eq_true rfl⟩ ha_l0 (ct_43 _ _ _ _) rfl rfl rfl rfl (Nat.le_of_ble_eq_true rfl) ⟨Nat.zero_le _, Nat.zero_le _⟩ dX10_places_37 (fun H locs hP hS => ?_)
    refine lv_aload_n hx hb dX10_places_40 rfl (lv_at hl 0 rfl) ?_
    refine r_get C hP ha_l0 (ct_43 _ _ _ _) fx_X10_110 (fg_43_41 _ _ _) dX10_places_41 ?_
    refine lv_iload_n hx hb dX10_places_44 rfl (lv_at hl 1 rfl) ?_
    obtain ⟨j9, h10, hf⟩ := rd_in hf
    refine r_iald C hP (gs_43_41 hW ha_l0) (ct_77 _ _ _ _) h10 dX10_places_45 ?_
    obtain ⟨rfl, rfl⟩ := g_s1 hf
    exact r_iret C hP hS dX10_places_46
  · have hf := g_in c3 hf
    refine lv_iconst (v := 0) hx hb dX10_places_24 (by decide) ?_
    obtain ⟨rfl, rfl⟩ := g_s1 hf
    exact r_iret C hP hS dX10_places_25

set_option maxRecDepth 100000 in
set_option maxHeartbeats 4000000 in
theorem w_X10_places {p : Program} {l : Launch} {e : Env} {s : State} {m : MethodId} {args : Array Value} {below : List Frame} {meth : Method} {c : Code} {D : va_G} {cA : Nat → ClassId} {ad : Nat → Nat → Nat} {NL : List (Nat × Nat)} {A : Nat → Prop} {rr : Int32} {XX : gM} {N : Nat} (C : gCx p c meth m s args cX10_places 3 (some .int) RX10 D cA ad NL A) (hW : gWf NL) (hD0 : gD (fun _ => True) ad NL) {p1 : Int32} {p2 : Int32} (ha_l0 : (43, 0) ∈ NL) : ∀ (X : gM) (H : Heap) (locs : List Loc) (ls : Array Slot), gH D cA ad NL X H → va_S A s.heap H locs → lv_has ls 3 [(0, .ref (ad 43 0)), (1, .int p1), (2, .int p2)] → X10_places (gal NL) N p1 p2 X = some (rr, XX) → W p l e rm_X10_places s m args below meth c H locs 0 0 (MQ below (gQ D cA ad NL (some (.int rr)) XX A) args s 0 0 A) (F0 m 0 ls []) := by
  have hx := C.1
  have hb := C.2.1
  intro X H locs ls hP hS hl hf
  rw [X10_places] at hf
  refine lv_aload_n hx hb dX10_places_0 rfl (lv_at hl 0 rfl) ?_
  refine lv_aload_n hx hb dX10_places_1 rfl (lv_at hl 0 rfl) ?_
  refine lv_iload_n hx hb dX10_places_2 rfl (lv_at hl 1 rfl) ?_
  obtain ⟨r1, X2, h3, hf⟩ := b2_in hf
  refine r_cVi (rest := [.ref (ad 43 0)]) C hP hS hl.1 (s_X10_isLeaf hW hD0 ha_l0 h3) ix_X10_isLeaf iv_X10_isLeaf lk_X10_133 ⟨rfl, rfl, Nat.le_of_ble_eq_true rfl, Nat.le_of_ble_eq_true rfl⟩ ha_l0 (ct_43 _ _ _ _) rfl rfl rfl rfl (Nat.le_of_ble_eq_true rfl) ⟨Nat.zero_le _, Nat.zero_le _⟩ dX10_places_3 (fun H locs hP hS => ?_)
  refine lv_if_eq (tgt := 13) hx hb dX10_places_6 (by decide) (fun c4 => ?_) (fun c4 => ?_)
  · have hf := g_ip c4 hf
    refine lv_iconst (v := 1) hx hb dX10_places_13 (by decide) ?_
    exact s_X10_places_J14 C hW hD0 p1 p2 (1 : Int32) X2 _ _ _ hP hS (lv_sub hl [0, 1, 2] rfl) ha_l0 ha_l0 hf
  · have hf := g_in c4 hf
    refine lv_iconst (v := 0) hx hb dX10_places_9 (by decide) ?_
    refine lv_goto (tgt := 14) hx hb dX10_places_10 (by decide) ?_
    exact s_X10_places_J14 C hW hD0 p1 p2 (0 : Int32) X2 _ _ _ hP hS (lv_sub hl [0, 1, 2] rfl) ha_l0 ha_l0 hf

theorem s_X10_places {l : Launch} {D : va_G} {cA : Nat → ClassId} {ad : Nat → Nat → Nat} {NL : List (Nat × Nat)} {N : Nat} {p1 : Int32} {p2 : Int32} {X : gM} {rr : Int32} {XX : gM} (hW : gWf NL) (hD0 : gD (fun _ => True) ad NL) (ha_l0 : (43, 0) ∈ NL) (hf : X10_places (gal NL) N p1 p2 X = some (rr, XX)) : gC l yX10_places cX10_places 3 (some .int) rm_X10_places D cA ad NL [.ref (ad 43 0), .int p1, .int p2] X (some (.int rr)) XX :=
  g_ofW (by decide) hD0 (Nat.le_of_ble_eq_true rfl) rfl (fun p e s m below meth c ls C hP hS hl => w_X10_places C hW hD0 ha_l0 X _ _ ls hP hS hl hf)
def rm_X10_joined : Room := { frames := 4, cells := 0, slots := 0, locals := 111 }
set_option maxRecDepth 100000 in
set_option maxHeartbeats 4000000 in
theorem s_X10_joined_J118 {p : Program} {l : Launch} {e : Env} {s : State} {m : MethodId} {args : Array Value} {below : List Frame} {meth : Method} {c : Code} {D : va_G} {cA : Nat → ClassId} {ad : Nat → Nat → Nat} {NL : List (Nat × Nat)} {A : Nat → Prop} {rr : Int32} {XX : gM} {N : Nat} (C : gCx p c meth m s args cX10_joined 3 (some .int) RX10 D cA ad NL A) (hW : gWf NL) (hD0 : gD (fun _ => True) ad NL) : ∀ (s0 : Int32) (X : gM) (H : Heap) (locs : List Loc) (ls : Array Slot), gH D cA ad NL X H → va_S A s.heap H locs → lv_has ls 3 [] → X10_joined_J118 (gal NL) N s0 X = some (rr, XX) → W p l e rm_X10_joined s m args below meth c H locs 0 0 (MQ below (gQ D cA ad NL (some (.int rr)) XX A) args s 0 0 A) (F0 m 118 ls [.int s0]) := by
  have hx := C.1
  have hb := C.2.1
  intro s0 X H locs ls hP hS hl hf
  rw [X10_joined_J118] at hf
  obtain ⟨rfl, rfl⟩ := g_s1 hf
  exact r_iret C hP hS dX10_joined_118

set_option maxRecDepth 100000 in
set_option maxHeartbeats 4000000 in
theorem s_X10_joined_J65 {p : Program} {l : Launch} {e : Env} {s : State} {m : MethodId} {args : Array Value} {below : List Frame} {meth : Method} {c : Code} {D : va_G} {cA : Nat → ClassId} {ad : Nat → Nat → Nat} {NL : List (Nat × Nat)} {A : Nat → Prop} {rr : Int32} {XX : gM} {N : Nat} (C : gCx p c meth m s args cX10_joined 3 (some .int) RX10 D cA ad NL A) (hW : gWf NL) (hD0 : gD (fun _ => True) ad NL) : ∀ (p1 : Int32) (p2 : Int32) (s1 : Int32) (X : gM) (H : Heap) (locs : List Loc) (ls : Array Slot), gH D cA ad NL X H → va_S A s.heap H locs → lv_has ls 3 [(0, .ref (ad 43 0)), (1, .int p1), (2, .int p2)] → (43, 0) ∈ NL → (43, 0) ∈ NL → X10_joined_J65 (gal NL) N p1 p2 s1 X = some (rr, XX) → W p l e rm_X10_joined s m args below meth c H locs 0 0 (MQ below (gQ D cA ad NL (some (.int rr)) XX A) args s 0 0 A) (F0 m 65 ls [.int s1, .ref (ad 43 0)]) := by
  have hx := C.1
  have hb := C.2.1
  intro p1 p2 s1 X H locs ls hP hS hl ha_l0 ha_s0 hf
  rw [X10_joined_J65] at hf
  refine r_put C hP hS s1 ha_s0 (ct_43 _ _ _ _) px_X10_122 (fp_43_46 _ _ _ _ _) (Nat.le_of_ble_eq_true rfl) rfl rfl dX10_joined_65 (fun H locs hP hS => ?_)
  obtain ⟨X1, e2, hf⟩ := gl_in hf
  rw [← e2] at hP
  refine lv_aload_n hx hb dX10_joined_68 rfl (lv_at hl 0 rfl) ?_
  refine r_get C hP ha_l0 (ct_43 _ _ _ _) fx_X10_122 (fg_43_46 _ _ _) dX10_joined_69 ?_
  refine lv_if_le (tgt := 77) hx hb dX10_joined_72 (by decide) (fun c3 => ?_) (fun c3 => ?_)
  · have hf := g_ip c3 hf
    refine lv_aload_n hx hb dX10_joined_77 rfl (lv_at hl 0 rfl) ?_
    refine lv_aload_n hx hb dX10_joined_78 rfl (lv_at hl 0 rfl) ?_
    refine r_get C hP ha_l0 (ct_43 _ _ _ _) fx_X10_7 (fg_43_1 _ _ _) dX10_joined_79 ?_
    refine lv_iload_n hx hb dX10_joined_82 rfl (lv_at hl 1 rfl) ?_
    obtain ⟨j4, h5, hf⟩ := rd_in hf
    refine r_iald C hP (gs_43_1 hW ha_l0) (ct_44 _ _ _ _) h5 dX10_joined_83 ?_
    refine lv_iconst (v := 0) hx hb dX10_joined_84 (by decide) ?_
    refine lv_iconst (v := -1) hx hb dX10_joined_85 (by decide) ?_
    refine lv_iload_n hx hb dX10_joined_86 rfl (lv_at hl 1 rfl) ?_
    refine lv_iload_n hx hb dX10_joined_87 rfl (lv_at hl 2 rfl) ?_
    obtain ⟨r6, X7, h8, hf⟩ := b2_in hf
    refine r_cVv (rest := []) C hP hS hl.1 (s_X10_arranges hW hD0 ha_l0 h8) ix_X10_arranges iv_X10_arranges lk_X10_205 ⟨rfl, rfl, Nat.le_of_ble_eq_true rfl, Nat.le_of_ble_eq_true rfl⟩ ha_l0 (ct_43 _ _ _ _) rfl rfl rfl rfl (Nat.le_of_ble_eq_true rfl) ⟨Nat.zero_le _, Nat.zero_le _⟩ dX10_joined_88 (fun H locs hP hS => ?_)
    refine lv_aload_n hx hb dX10_joined_91 rfl (lv_at hl 0 rfl) ?_
    refine r_get C hP ha_l0 (ct_43 _ _ _ _) fx_X10_198 (fg_43_42 _ _ _) dX10_joined_92 ?_
    refine lv_if_ne (tgt := 102) hx hb dX10_joined_95 (by decide) (fun c9 => ?_) (fun c9 => ?_)
    · have hf := g_in c9 hf
      refine lv_aload_n hx hb dX10_joined_102 rfl (lv_at hl 0 rfl) ?_
      refine r_get C hP ha_l0 (ct_43 _ _ _ _) fx_X10_198 (fg_43_42 _ _ _) dX10_joined_103 ?_
      refine lv_aload_n hx hb dX10_joined_106 rfl (lv_at hl 0 rfl) ?_
      refine r_get C hP ha_l0 (ct_43 _ _ _ _) fx_X10_195 (fg_43_40 _ _ _) dX10_joined_107 ?_
      refine lv_icmp_ne (tgt := 117) hx hb dX10_joined_110 (by decide) (fun c10 => ?_) (fun c10 => ?_)
      · have hf := g_in c10 hf
        refine lv_iconst (v := 1) hx hb dX10_joined_117 (by decide) ?_
        exact s_X10_joined_J118 C hW hD0 (1 : Int32) X7 _ _ _ hP hS (lv_sub hl [] rfl) hf
      · have hf := g_ip c10 hf
        refine lv_iconst (v := 2) hx hb dX10_joined_113 (by decide) ?_
        refine lv_goto (tgt := 118) hx hb dX10_joined_114 (by decide) ?_
        exact s_X10_joined_J118 C hW hD0 (2 : Int32) X7 _ _ _ hP hS (lv_sub hl [] rfl) hf
    · have hf := g_ip c9 hf
      refine lv_iconst (v := 0) hx hb dX10_joined_98 (by decide) ?_
      refine lv_goto (tgt := 118) hx hb dX10_joined_99 (by decide) ?_
      exact s_X10_joined_J118 C hW hD0 (0 : Int32) X7 _ _ _ hP hS (lv_sub hl [] rfl) hf
  · have hf := g_in c3 hf
    refine lv_iconst (v := 0) hx hb dX10_joined_75 (by decide) ?_
    obtain ⟨rfl, rfl⟩ := g_s1 hf
    exact r_iret C hP hS dX10_joined_76

set_option maxRecDepth 100000 in
set_option maxHeartbeats 4000000 in
theorem s_X10_joined_J60 {p : Program} {l : Launch} {e : Env} {s : State} {m : MethodId} {args : Array Value} {below : List Frame} {meth : Method} {c : Code} {D : va_G} {cA : Nat → ClassId} {ad : Nat → Nat → Nat} {NL : List (Nat × Nat)} {A : Nat → Prop} {rr : Int32} {XX : gM} {N : Nat} (C : gCx p c meth m s args cX10_joined 3 (some .int) RX10 D cA ad NL A) (hW : gWf NL) (hD0 : gD (fun _ => True) ad NL) : ∀ (p1 : Int32) (p2 : Int32) (X : gM) (H : Heap) (locs : List Loc) (ls : Array Slot), gH D cA ad NL X H → va_S A s.heap H locs → lv_has ls 3 [(0, .ref (ad 43 0)), (1, .int p1), (2, .int p2)] → (43, 0) ∈ NL → (43, 0) ∈ NL → X10_joined_J60 (gal NL) N p1 p2 X = some (rr, XX) → W p l e rm_X10_joined s m args below meth c H locs 0 0 (MQ below (gQ D cA ad NL (some (.int rr)) XX A) args s 0 0 A) (F0 m 60 ls [.ref (ad 43 0)]) := by
  have hx := C.1
  have hb := C.2.1
  intro p1 p2 X H locs ls hP hS hl ha_l0 ha_s0 hf
  rw [X10_joined_J60] at hf
  refine lv_iconst (v := 2) hx hb dX10_joined_60 (by decide) ?_
  refine lv_goto (tgt := 65) hx hb dX10_joined_61 (by decide) ?_
  exact s_X10_joined_J65 C hW hD0 p1 p2 (2 : Int32) X _ _ _ hP hS (lv_sub hl [0, 1, 2] rfl) ha_l0 ha_s0 hf

set_option maxRecDepth 100000 in
set_option maxHeartbeats 4000000 in
theorem s_X10_joined_J22 {p : Program} {l : Launch} {e : Env} {s : State} {m : MethodId} {args : Array Value} {below : List Frame} {meth : Method} {c : Code} {D : va_G} {cA : Nat → ClassId} {ad : Nat → Nat → Nat} {NL : List (Nat × Nat)} {A : Nat → Prop} {rr : Int32} {XX : gM} {N : Nat} (C : gCx p c meth m s args cX10_joined 3 (some .int) RX10 D cA ad NL A) (hW : gWf NL) (hD0 : gD (fun _ => True) ad NL) : ∀ (p1 : Int32) (p2 : Int32) (s1 : Int32) (X : gM) (H : Heap) (locs : List Loc) (ls : Array Slot), gH D cA ad NL X H → va_S A s.heap H locs → lv_has ls 3 [(0, .ref (ad 43 0)), (1, .int p1), (2, .int p2)] → (43, 0) ∈ NL → (43, 0) ∈ NL → X10_joined_J22 (gal NL) N p1 p2 s1 X = some (rr, XX) → W p l e rm_X10_joined s m args below meth c H locs 0 0 (MQ below (gQ D cA ad NL (some (.int rr)) XX A) args s 0 0 A) (F0 m 22 ls [.int s1, .ref (ad 43 0)]) := by
  have hx := C.1
  have hb := C.2.1
  intro p1 p2 s1 X H locs ls hP hS hl ha_l0 ha_s0 hf
  rw [X10_joined_J22] at hf
  refine r_put C hP hS s1 ha_s0 (ct_43 _ _ _ _) px_X10_122 (fp_43_46 _ _ _ _ _) (Nat.le_of_ble_eq_true rfl) rfl rfl dX10_joined_22 (fun H locs hP hS => ?_)
  obtain ⟨X1, e2, hf⟩ := gl_in hf
  rw [← e2] at hP
  refine lv_aload_n hx hb dX10_joined_25 rfl (lv_at hl 0 rfl) ?_
  refine lv_aload_n hx hb dX10_joined_26 rfl (lv_at hl 0 rfl) ?_
  refine r_get C hP ha_l0 (ct_43 _ _ _ _) fx_X10_122 (fg_43_46 _ _ _) dX10_joined_27 ?_
  refine lv_if_le (tgt := 40) hx hb dX10_joined_30 (by decide) (fun c3 => ?_) (fun c3 => ?_)
  · have hf := g_ip c3 hf
    refine lv_iload_n hx hb dX10_joined_40 rfl (lv_at hl 1 rfl) ?_
    refine lv_iload_n hx hb dX10_joined_41 rfl (lv_at hl 2 rfl) ?_
    refine lv_icmp_eq (tgt := 60) hx hb dX10_joined_42 (by decide) (fun c4 => ?_) (fun c4 => ?_)
    · have hf := g_ip c4 hf
      exact s_X10_joined_J60 C hW hD0 p1 p2 X1 _ _ _ hP hS (lv_sub hl [0, 1, 2] rfl) ha_l0 ha_l0 hf
    · have hf := g_in c4 hf
      refine lv_aload_n hx hb dX10_joined_45 rfl (lv_at hl 0 rfl) ?_
      refine r_get C hP ha_l0 (ct_43 _ _ _ _) fx_X10_7 (fg_43_1 _ _ _) dX10_joined_46 ?_
      refine lv_iload_n hx hb dX10_joined_49 rfl (lv_at hl 1 rfl) ?_
      obtain ⟨j5, h6, hf⟩ := rd_in hf
      refine r_iald C hP (gs_43_1 hW ha_l0) (ct_44 _ _ _ _) h6 dX10_joined_50 ?_
      refine lv_aload_n hx hb dX10_joined_51 rfl (lv_at hl 0 rfl) ?_
      refine r_get C hP ha_l0 (ct_43 _ _ _ _) fx_X10_7 (fg_43_1 _ _ _) dX10_joined_52 ?_
      refine lv_iload_n hx hb dX10_joined_55 rfl (lv_at hl 2 rfl) ?_
      obtain ⟨j7, h8, hf⟩ := rd_in hf
      refine r_iald C hP (gs_43_1 hW ha_l0) (ct_44 _ _ _ _) h8 dX10_joined_56 ?_
      refine lv_icmp_eq (tgt := 64) hx hb dX10_joined_57 (by decide) (fun c9 => ?_) (fun c9 => ?_)
      · have hf := g_ip c9 hf
        refine lv_iconst (v := 0) hx hb dX10_joined_64 (by decide) ?_
        exact s_X10_joined_J65 C hW hD0 p1 p2 (0 : Int32) X1 _ _ _ hP hS (lv_sub hl [0, 1, 2] rfl) ha_l0 ha_l0 hf
      · have hf := g_in c9 hf
        exact s_X10_joined_J60 C hW hD0 p1 p2 X1 _ _ _ hP hS (lv_sub hl [0, 1, 2] rfl) ha_l0 ha_l0 hf
  · have hf := g_in c3 hf
    refine lv_aload_n hx hb dX10_joined_33 rfl (lv_at hl 0 rfl) ?_
    refine r_get C hP ha_l0 (ct_43 _ _ _ _) fx_X10_122 (fg_43_46 _ _ _) dX10_joined_34 ?_
    refine lv_goto (tgt := 65) hx hb dX10_joined_37 (by decide) ?_
    exact s_X10_joined_J65 C hW hD0 p1 p2 ((X1 43 0 46)) X1 _ _ _ hP hS (lv_sub hl [0, 1, 2] rfl) ha_l0 ha_l0 hf

set_option maxRecDepth 100000 in
set_option maxHeartbeats 4000000 in
theorem s_X10_joined_J17 {p : Program} {l : Launch} {e : Env} {s : State} {m : MethodId} {args : Array Value} {below : List Frame} {meth : Method} {c : Code} {D : va_G} {cA : Nat → ClassId} {ad : Nat → Nat → Nat} {NL : List (Nat × Nat)} {A : Nat → Prop} {rr : Int32} {XX : gM} {N : Nat} (C : gCx p c meth m s args cX10_joined 3 (some .int) RX10 D cA ad NL A) (hW : gWf NL) (hD0 : gD (fun _ => True) ad NL) : ∀ (p1 : Int32) (p2 : Int32) (X : gM) (H : Heap) (locs : List Loc) (ls : Array Slot), gH D cA ad NL X H → va_S A s.heap H locs → lv_has ls 3 [(0, .ref (ad 43 0)), (1, .int p1), (2, .int p2)] → (43, 0) ∈ NL → (43, 0) ∈ NL → X10_joined_J17 (gal NL) N p1 p2 X = some (rr, XX) → W p l e rm_X10_joined s m args below meth c H locs 0 0 (MQ below (gQ D cA ad NL (some (.int rr)) XX A) args s 0 0 A) (F0 m 17 ls [.ref (ad 43 0)]) := by
  have hx := C.1
  have hb := C.2.1
  intro p1 p2 X H locs ls hP hS hl ha_l0 ha_s0 hf
  rw [X10_joined_J17] at hf
  refine lv_iconst (v := 1) hx hb dX10_joined_17 (by decide) ?_
  refine lv_goto (tgt := 22) hx hb dX10_joined_18 (by decide) ?_
  exact s_X10_joined_J22 C hW hD0 p1 p2 (1 : Int32) X _ _ _ hP hS (lv_sub hl [0, 1, 2] rfl) ha_l0 ha_s0 hf

set_option maxRecDepth 100000 in
set_option maxHeartbeats 4000000 in
theorem w_X10_joined {p : Program} {l : Launch} {e : Env} {s : State} {m : MethodId} {args : Array Value} {below : List Frame} {meth : Method} {c : Code} {D : va_G} {cA : Nat → ClassId} {ad : Nat → Nat → Nat} {NL : List (Nat × Nat)} {A : Nat → Prop} {rr : Int32} {XX : gM} {N : Nat} (C : gCx p c meth m s args cX10_joined 3 (some .int) RX10 D cA ad NL A) (hW : gWf NL) (hD0 : gD (fun _ => True) ad NL) {p1 : Int32} {p2 : Int32} (ha_l0 : (43, 0) ∈ NL) : ∀ (X : gM) (H : Heap) (locs : List Loc) (ls : Array Slot), gH D cA ad NL X H → va_S A s.heap H locs → lv_has ls 3 [(0, .ref (ad 43 0)), (1, .int p1), (2, .int p2)] → X10_joined (gal NL) N p1 p2 X = some (rr, XX) → W p l e rm_X10_joined s m args below meth c H locs 0 0 (MQ below (gQ D cA ad NL (some (.int rr)) XX A) args s 0 0 A) (F0 m 0 ls []) := by
  have hx := C.1
  have hb := C.2.1
  intro X H locs ls hP hS hl hf
  rw [X10_joined] at hf
  refine lv_aload_n hx hb dX10_joined_0 rfl (lv_at hl 0 rfl) ?_
  refine lv_aload_n hx hb dX10_joined_1 rfl (lv_at hl 0 rfl) ?_
  refine lv_iload_n hx hb dX10_joined_2 rfl (lv_at hl 1 rfl) ?_
  obtain ⟨r1, X2, h3, hf⟩ := b2_in hf
  refine r_cVi (rest := [.ref (ad 43 0)]) C hP hS hl.1 (s_X10_isLeaf hW hD0 ha_l0 h3) ix_X10_isLeaf iv_X10_isLeaf lk_X10_133 ⟨rfl, rfl, Nat.le_of_ble_eq_true rfl, Nat.le_of_ble_eq_true rfl⟩ ha_l0 (ct_43 _ _ _ _) rfl rfl rfl rfl (Nat.le_of_ble_eq_true rfl) ⟨Nat.zero_le _, Nat.zero_le _⟩ dX10_joined_3 (fun H locs hP hS => ?_)
  refine lv_if_eq (tgt := 17) hx hb dX10_joined_6 (by decide) (fun c4 => ?_) (fun c4 => ?_)
  · have hf := g_ip c4 hf
    exact s_X10_joined_J17 C hW hD0 p1 p2 X2 _ _ _ hP hS (lv_sub hl [0, 1, 2] rfl) ha_l0 ha_l0 hf
  · have hf := g_in c4 hf
    refine lv_aload_n hx hb dX10_joined_9 rfl (lv_at hl 0 rfl) ?_
    refine lv_iload_n hx hb dX10_joined_10 rfl (lv_at hl 2 rfl) ?_
    obtain ⟨r5, X6, h7, hf⟩ := b2_in hf
    refine r_cVi (rest := [.ref (ad 43 0)]) C hP hS hl.1 (s_X10_isLeaf hW hD0 ha_l0 h7) ix_X10_isLeaf iv_X10_isLeaf lk_X10_133 ⟨rfl, rfl, Nat.le_of_ble_eq_true rfl, Nat.le_of_ble_eq_true rfl⟩ ha_l0 (ct_43 _ _ _ _) rfl rfl rfl rfl (Nat.le_of_ble_eq_true rfl) ⟨Nat.zero_le _, Nat.zero_le _⟩ dX10_joined_11 (fun H locs hP hS => ?_)
    refine lv_if_ne (tgt := 21) hx hb dX10_joined_14 (by decide) (fun c8 => ?_) (fun c8 => ?_)
    · have hf := g_in c8 hf
      refine lv_iconst (v := 0) hx hb dX10_joined_21 (by decide) ?_
      exact s_X10_joined_J22 C hW hD0 p1 p2 (0 : Int32) X6 _ _ _ hP hS (lv_sub hl [0, 1, 2] rfl) ha_l0 ha_l0 hf
    · have hf := g_ip c8 hf
      exact s_X10_joined_J17 C hW hD0 p1 p2 X6 _ _ _ hP hS (lv_sub hl [0, 1, 2] rfl) ha_l0 ha_l0 hf

theorem s_X10_joined {l : Launch} {D : va_G} {cA : Nat → ClassId} {ad : Nat → Nat → Nat} {NL : List (Nat × Nat)} {N : Nat} {p1 : Int32} {p2 : Int32} {X : gM} {rr : Int32} {XX : gM} (hW : gWf NL) (hD0 : gD (fun _ => True) ad NL) (ha_l0 : (43, 0) ∈ NL) (hf : X10_joined (gal NL) N p1 p2 X = some (rr, XX)) : gC l yX10_joined cX10_joined 3 (some .int) rm_X10_joined D cA ad NL [.ref (ad 43 0), .int p1, .int p2] X (some (.int rr)) XX :=
  g_ofW (by decide) hD0 (Nat.le_of_ble_eq_true rfl) rfl (fun p e s m below meth c ls C hP hS hl => w_X10_joined C hW hD0 ha_l0 X _ _ ls hP hS hl hf)
def rm_X10_areAlike : Room := { frames := 0, cells := 0, slots := 0, locals := 0 }
set_option maxRecDepth 100000 in
set_option maxHeartbeats 4000000 in
theorem s_X10_areAlike_J87 {p : Program} {l : Launch} {e : Env} {s : State} {m : MethodId} {args : Array Value} {below : List Frame} {meth : Method} {c : Code} {D : va_G} {cA : Nat → ClassId} {ad : Nat → Nat → Nat} {NL : List (Nat × Nat)} {A : Nat → Prop} {rr : Int32} {XX : gM} {N : Nat} (C : gCx p c meth m s args cX10_areAlike 6 (some .boolean) RX10 D cA ad NL A) (hW : gWf NL) (hD0 : gD (fun _ => True) ad NL) : ∀ (s0 : Int32) (X : gM) (H : Heap) (locs : List Loc) (ls : Array Slot), gH D cA ad NL X H → va_S A s.heap H locs → lv_has ls 6 [] → X10_areAlike_J87 (gal NL) N s0 X = some (rr, XX) → W p l e rm_X10_areAlike s m args below meth c H locs 0 0 (MQ below (gQ D cA ad NL (some (.int rr)) XX A) args s 0 0 A) (F0 m 87 ls [.int s0]) := by
  have hx := C.1
  have hb := C.2.1
  intro s0 X H locs ls hP hS hl hf
  rw [X10_areAlike_J87] at hf
  obtain ⟨h1, hf⟩ := bz_in hf
  obtain ⟨rfl, rfl⟩ := g_s1 hf
  exact r_zret C hP hS h1 dX10_areAlike_87

set_option maxRecDepth 100000 in
set_option maxHeartbeats 4000000 in
theorem s_X10_areAlike_J58 {p : Program} {l : Launch} {e : Env} {s : State} {m : MethodId} {args : Array Value} {below : List Frame} {meth : Method} {c : Code} {D : va_G} {cA : Nat → ClassId} {ad : Nat → Nat → Nat} {NL : List (Nat × Nat)} {A : Nat → Prop} {rr : Int32} {XX : gM} {N : Nat} (C : gCx p c meth m s args cX10_areAlike 6 (some .boolean) RX10 D cA ad NL A) (hW : gWf NL) (hD0 : gD (fun _ => True) ad NL) : ∀ (p1 : Int32) (p2 : Int32) (p3 : Int32) (X : gM) (H : Heap) (locs : List Loc) (ls : Array Slot), gH D cA ad NL X H → va_S A s.heap H locs → lv_has ls 6 [(0, .ref (ad 43 0)), (1, .int p1), (2, .int p2), (3, .int p3)] → (43, 0) ∈ NL → X10_areAlike_J58 (gal NL) N p1 p2 p3 X = some (rr, XX) → W p l e rm_X10_areAlike s m args below meth c H locs 0 0 (MQ below (gQ D cA ad NL (some (.int rr)) XX A) args s 0 0 A) (F0 m 58 ls []) := by
  have hx := C.1
  have hb := C.2.1
  intro p1 p2 p3 X H locs ls hP hS hl ha_l0 hf
  rw [X10_areAlike_J58] at hf
  refine lv_iload_n hx hb dX10_areAlike_58 rfl (lv_at hl 3 rfl) ?_
  refine lv_bipush (v := 6) hx hb dX10_areAlike_59 (by decide) ?_
  refine lv_iconst (v := 2) hx hb dX10_areAlike_61 (by decide) ?_
  refine lv_aload_n hx hb dX10_areAlike_62 rfl (lv_at hl 0 rfl) ?_
  refine r_get C hP ha_l0 (ct_43 _ _ _ _) fx_X10_28 (fg_43_7 _ _ _) dX10_areAlike_63 ?_
  refine lv_iload_n hx hb dX10_areAlike_66 rfl (lv_at hl 1 rfl) ?_
  obtain ⟨j1, h2, hf⟩ := rd_in hf
  refine r_iald C hP (gs_43_7 hW ha_l0) (ct_50 _ _ _ _) h2 dX10_areAlike_67 ?_
  refine lv_imul hx hb dX10_areAlike_68 ?_
  refine lv_iadd hx hb dX10_areAlike_69 ?_
  refine lv_iconst (v := 2) hx hb dX10_areAlike_70 (by decide) ?_
  refine lv_aload_n hx hb dX10_areAlike_71 rfl (lv_at hl 0 rfl) ?_
  refine r_get C hP ha_l0 (ct_43 _ _ _ _) fx_X10_28 (fg_43_7 _ _ _) dX10_areAlike_72 ?_
  refine lv_iload_n hx hb dX10_areAlike_75 rfl (lv_at hl 2 rfl) ?_
  obtain ⟨j3, h4, hf⟩ := rd_in hf
  refine r_iald C hP (gs_43_7 hW ha_l0) (ct_50 _ _ _ _) h4 dX10_areAlike_76 ?_
  refine lv_imul hx hb dX10_areAlike_77 ?_
  refine lv_iadd hx hb dX10_areAlike_78 ?_
  refine lv_icmp_gt (tgt := 86) hx hb dX10_areAlike_79 (by decide) (fun c5 => ?_) (fun c5 => ?_)
  · have hf := g_ip c5 hf
    refine lv_iconst (v := 0) hx hb dX10_areAlike_86 (by decide) ?_
    exact s_X10_areAlike_J87 C hW hD0 (0 : Int32) X _ _ _ hP hS (lv_sub hl [] rfl) hf
  · have hf := g_in c5 hf
    refine lv_iconst (v := 1) hx hb dX10_areAlike_82 (by decide) ?_
    refine lv_goto (tgt := 87) hx hb dX10_areAlike_83 (by decide) ?_
    exact s_X10_areAlike_J87 C hW hD0 (1 : Int32) X _ _ _ hP hS (lv_sub hl [] rfl) hf

set_option maxRecDepth 100000 in
set_option maxHeartbeats 4000000 in
theorem s_X10_areAlike_J50 {p : Program} {l : Launch} {e : Env} {s : State} {m : MethodId} {args : Array Value} {below : List Frame} {meth : Method} {c : Code} {D : va_G} {cA : Nat → ClassId} {ad : Nat → Nat → Nat} {NL : List (Nat × Nat)} {A : Nat → Prop} {rr : Int32} {XX : gM} {N : Nat} {kk : Int32 → Int32 → Int32 → Int32 → gM → Option (Int32 × gM)} {k58 : Int32 → Int32 → Int32 → gM → Option (Int32 × gM)} (C : gCx p c meth m s args cX10_areAlike 6 (some .boolean) RX10 D cA ad NL A) (hW : gWf NL) (hD0 : gD (fun _ => True) ad NL) (hkk : ∀ (p1 : Int32) (p2 : Int32) (p3 : Int32) (p4 : Int32) (Y : gM) (H : Heap) (locs : List Loc) (ls : Array Slot), gH D cA ad NL Y H → va_S A s.heap H locs → lv_has ls 6 [(0, .ref (ad 43 0)), (1, .int p1), (2, .int p2), (3, .int p3), (4, .int p4)] → (43, 0) ∈ NL → kk p1 p2 p3 p4 Y = some (rr, XX) → W p l e rm_X10_areAlike s m args below meth c H locs 0 0 (MQ below (gQ D cA ad NL (some (.int rr)) XX A) args s 0 0 A) (F0 m 5 ls [])) (hk58 : ∀ (p1 : Int32) (p2 : Int32) (p3 : Int32) (Y : gM) (H : Heap) (locs : List Loc) (ls : Array Slot), gH D cA ad NL Y H → va_S A s.heap H locs → lv_has ls 6 [(0, .ref (ad 43 0)), (1, .int p1), (2, .int p2), (3, .int p3)] → (43, 0) ∈ NL → k58 p1 p2 p3 Y = some (rr, XX) → W p l e rm_X10_areAlike s m args below meth c H locs 0 0 (MQ below (gQ D cA ad NL (some (.int rr)) XX A) args s 0 0 A) (F0 m 58 ls [])) : ∀ (p1 : Int32) (p2 : Int32) (p4 : Int32) (s0 : Int32) (s1 : Int32) (X : gM) (H : Heap) (locs : List Loc) (ls : Array Slot), gH D cA ad NL X H → va_S A s.heap H locs → lv_has ls 6 [(0, .ref (ad 43 0)), (1, .int p1), (2, .int p2), (4, .int p4)] → (43, 0) ∈ NL → X10_areAlike_J50 (gal NL) N kk k58 p1 p2 p4 s0 s1 X = some (rr, XX) → W p l e rm_X10_areAlike s m args below meth c H locs 0 0 (MQ below (gQ D cA ad NL (some (.int rr)) XX A) args s 0 0 A) (F0 m 50 ls [.int s1, .int s0]) := by
  have hx := C.1
  have hb := C.2.1
  intro p1 p2 p4 s0 s1 X H locs ls hP hS hl ha_l0 hf
  rw [X10_areAlike_J50] at hf
  refine lv_iadd hx hb dX10_areAlike_50 ?_
  refine g_top hf (fun v1 e2 hf => ?_)
  refine lv_istore_n (i := 3) (lv' := [(3, .int v1), (0, .ref (ad 43 0)), (1, .int p1), (2, .int p2), (4, .int p4)]) hx hb dX10_areAlike_51 rfl hl (Nat.le_of_ble_eq_true rfl) rfl (fun ls hl => ?_)
  obtain ⟨v3, e4, hf⟩ := gl_in hf
  refine lv_iinc (v := v3) (lv' := [(4, .int v3), (3, .int v1), (0, .ref (ad 43 0)), (1, .int p1), (2, .int p2)]) hx hb dX10_areAlike_52 hl (k := 4) rfl (by rw [e4]; rfl) (Nat.le_of_ble_eq_true rfl) rfl (fun ls hl => ?_)
  refine lv_goto (tgt := 5) hx hb dX10_areAlike_55 (by decide) ?_
  exact hkk p1 p2 v1 v3 X _ _ _ hP hS (lv_sub hl [2, 3, 4, 1, 0] rfl) ha_l0 hf

set_option maxRecDepth 100000 in
set_option maxHeartbeats 4000000 in
theorem s_X10_areAlike_L5 {p : Program} {l : Launch} {e : Env} {s : State} {m : MethodId} {args : Array Value} {below : List Frame} {meth : Method} {c : Code} {D : va_G} {cA : Nat → ClassId} {ad : Nat → Nat → Nat} {NL : List (Nat × Nat)} {A : Nat → Prop} {rr : Int32} {XX : gM} {N : Nat} {k58 : Int32 → Int32 → Int32 → gM → Option (Int32 × gM)} (C : gCx p c meth m s args cX10_areAlike 6 (some .boolean) RX10 D cA ad NL A) (hW : gWf NL) (hD0 : gD (fun _ => True) ad NL) (hk58 : ∀ (p1 : Int32) (p2 : Int32) (p3 : Int32) (Y : gM) (H : Heap) (locs : List Loc) (ls : Array Slot), gH D cA ad NL Y H → va_S A s.heap H locs → lv_has ls 6 [(0, .ref (ad 43 0)), (1, .int p1), (2, .int p2), (3, .int p3)] → (43, 0) ∈ NL → k58 p1 p2 p3 Y = some (rr, XX) → W p l e rm_X10_areAlike s m args below meth c H locs 0 0 (MQ below (gQ D cA ad NL (some (.int rr)) XX A) args s 0 0 A) (F0 m 58 ls [])) : ∀ (n : Nat) (p1 : Int32) (p2 : Int32) (p3 : Int32) (p4 : Int32) (X : gM) (H : Heap) (locs : List Loc) (ls : Array Slot), gH D cA ad NL X H → va_S A s.heap H locs → lv_has ls 6 [(0, .ref (ad 43 0)), (1, .int p1), (2, .int p2), (3, .int p3), (4, .int p4)] → (43, 0) ∈ NL → X10_areAlike_L5 (gal NL) N k58 n p1 p2 p3 p4 X = some (rr, XX) → W p l e rm_X10_areAlike s m args below meth c H locs 0 0 (MQ below (gQ D cA ad NL (some (.int rr)) XX A) args s 0 0 A) (F0 m 5 ls []) := by
  have hx := C.1
  have hb := C.2.1
  intro n
  induction n with
  | zero =>
    intro p1 p2 p3 p4 X H locs ls hP hS hl ha_l0 hf
    rw [X10_areAlike_L5] at hf
    cases hf
  | succ n ih =>
    intro p1 p2 p3 p4 X H locs ls hP hS hl ha_l0 hf
    rw [X10_areAlike_L5] at hf
    refine lv_iload hx hb dX10_areAlike_5 (lv_at hl 4 rfl) ?_
    refine lv_iconst (v := 3) hx hb dX10_areAlike_7 (by decide) ?_
    refine lv_icmp_ge (tgt := 58) hx hb dX10_areAlike_8 (by decide) (fun c1 => ?_) (fun c1 => ?_)
    · have hf := g_ip c1 hf
      exact hk58 p1 p2 p3 X _ _ _ hP hS (lv_sub hl [0, 1, 2, 3] rfl) ha_l0 hf
    · have hf := g_in c1 hf
      refine lv_aload_n hx hb dX10_areAlike_11 rfl (lv_at hl 0 rfl) ?_
      refine r_get C hP ha_l0 (ct_43 _ _ _ _) fx_X10_25 (fg_43_6 _ _ _) dX10_areAlike_12 ?_
      refine lv_iconst (v := 3) hx hb dX10_areAlike_15 (by decide) ?_
      refine lv_iload_n hx hb dX10_areAlike_16 rfl (lv_at hl 1 rfl) ?_
      refine lv_imul hx hb dX10_areAlike_17 ?_
      refine lv_iload hx hb dX10_areAlike_18 (lv_at hl 4 rfl) ?_
      refine lv_iadd hx hb dX10_areAlike_20 ?_
      obtain ⟨j2, h3, hf⟩ := rd_in hf
      refine r_iald C hP (gs_43_6 hW ha_l0) (ct_49 _ _ _ _) h3 dX10_areAlike_21 ?_
      refine lv_aload_n hx hb dX10_areAlike_22 rfl (lv_at hl 0 rfl) ?_
      refine r_get C hP ha_l0 (ct_43 _ _ _ _) fx_X10_25 (fg_43_6 _ _ _) dX10_areAlike_23 ?_
      refine lv_iconst (v := 3) hx hb dX10_areAlike_26 (by decide) ?_
      refine lv_iload_n hx hb dX10_areAlike_27 rfl (lv_at hl 2 rfl) ?_
      refine lv_imul hx hb dX10_areAlike_28 ?_
      refine lv_iload hx hb dX10_areAlike_29 (lv_at hl 4 rfl) ?_
      refine lv_iadd hx hb dX10_areAlike_31 ?_
      obtain ⟨j4, h5, hf⟩ := rd_in hf
      refine r_iald C hP (gs_43_6 hW ha_l0) (ct_49 _ _ _ _) h5 dX10_areAlike_32 ?_
      refine lv_isub hx hb dX10_areAlike_33 ?_
      refine g_top hf (fun v6 e7 hf => ?_)
      refine lv_istore (i := 5) (lv' := [(5, .int v6), (0, .ref (ad 43 0)), (1, .int p1), (2, .int p2), (3, .int p3), (4, .int p4)]) hx hb dX10_areAlike_34 hl (Nat.le_of_ble_eq_true rfl) rfl (fun ls hl => ?_)
      refine lv_iload_n hx hb dX10_areAlike_36 rfl (lv_at hl 4 rfl) ?_
      refine lv_iload hx hb dX10_areAlike_37 (lv_at hl 0 rfl) ?_
      refine lv_if_ge (tgt := 48) hx hb dX10_areAlike_39 (by decide) (fun c8 => ?_) (fun c8 => ?_)
      · have hf := g_ip c8 hf
        refine lv_iload hx hb dX10_areAlike_48 (lv_at hl 0 rfl) ?_
        exact s_X10_areAlike_J50 C hW hD0 ih hk58 p1 p2 p4 p3 v6 X _ _ _ hP hS (lv_sub hl [1, 2, 3, 5] rfl) ha_l0 hf
      · have hf := g_in c8 hf
        refine lv_iload hx hb dX10_areAlike_42 (lv_at hl 0 rfl) ?_
        refine lv_ineg hx hb dX10_areAlike_44 ?_
        refine lv_goto (tgt := 50) hx hb dX10_areAlike_45 (by decide) ?_
        exact s_X10_areAlike_J50 C hW hD0 ih hk58 p1 p2 p4 p3 ((-v6)) X _ _ _ hP hS (lv_sub hl [1, 2, 3, 5] rfl) ha_l0 hf

set_option maxRecDepth 100000 in
set_option maxHeartbeats 4000000 in
theorem w_X10_areAlike {p : Program} {l : Launch} {e : Env} {s : State} {m : MethodId} {args : Array Value} {below : List Frame} {meth : Method} {c : Code} {D : va_G} {cA : Nat → ClassId} {ad : Nat → Nat → Nat} {NL : List (Nat × Nat)} {A : Nat → Prop} {rr : Int32} {XX : gM} {N : Nat} (C : gCx p c meth m s args cX10_areAlike 6 (some .boolean) RX10 D cA ad NL A) (hW : gWf NL) (hD0 : gD (fun _ => True) ad NL) {p1 : Int32} {p2 : Int32} (ha_l0 : (43, 0) ∈ NL) : ∀ (X : gM) (H : Heap) (locs : List Loc) (ls : Array Slot), gH D cA ad NL X H → va_S A s.heap H locs → lv_has ls 6 [(0, .ref (ad 43 0)), (1, .int p1), (2, .int p2)] → X10_areAlike (gal NL) N p1 p2 X = some (rr, XX) → W p l e rm_X10_areAlike s m args below meth c H locs 0 0 (MQ below (gQ D cA ad NL (some (.int rr)) XX A) args s 0 0 A) (F0 m 0 ls []) := by
  have hx := C.1
  have hb := C.2.1
  intro X H locs ls hP hS hl hf
  rw [X10_areAlike] at hf
  refine lv_iconst (v := 0) hx hb dX10_areAlike_0 (by decide) ?_
  refine lv_istore_n (i := 3) (lv' := [(3, .int (0 : Int32)), (0, .ref (ad 43 0)), (1, .int p1), (2, .int p2)]) hx hb dX10_areAlike_1 rfl hl (Nat.le_of_ble_eq_true rfl) rfl (fun ls hl => ?_)
  refine lv_iconst (v := 0) hx hb dX10_areAlike_2 (by decide) ?_
  refine lv_istore (i := 4) (lv' := [(4, .int (0 : Int32)), (3, .int (0 : Int32)), (0, .ref (ad 43 0)), (1, .int p1), (2, .int p2)]) hx hb dX10_areAlike_3 hl (Nat.le_of_ble_eq_true rfl) rfl (fun ls hl => ?_)
  exact s_X10_areAlike_L5 C hW hD0 (fun p1 p2 p3 Y H locs ls hP hS hl ha_l0 hf => s_X10_areAlike_J58 C hW hD0 p1 p2 p3 Y _ _ _ hP hS hl ha_l0 hf) N p1 p2 (0 : Int32) (0 : Int32) X _ _ _ hP hS (lv_sub hl [2, 3, 4, 1, 0] rfl) ha_l0 hf

theorem s_X10_areAlike {l : Launch} {D : va_G} {cA : Nat → ClassId} {ad : Nat → Nat → Nat} {NL : List (Nat × Nat)} {N : Nat} {p1 : Int32} {p2 : Int32} {X : gM} {rr : Int32} {XX : gM} (hW : gWf NL) (hD0 : gD (fun _ => True) ad NL) (ha_l0 : (43, 0) ∈ NL) (hf : X10_areAlike (gal NL) N p1 p2 X = some (rr, XX)) : gC l yX10_areAlike cX10_areAlike 6 (some .boolean) rm_X10_areAlike D cA ad NL [.ref (ad 43 0), .int p1, .int p2] X (some (.int rr)) XX :=
  g_ofW (by decide) hD0 (Nat.le_of_ble_eq_true rfl) rfl (fun p e s m below meth c ls C hP hS hl => w_X10_areAlike C hW hD0 ha_l0 X _ _ ls hP hS hl hf)
