def rm_X10_thrown : Room := { frames := 0, cells := 0, slots := 0, locals := 0 }
set_option maxRecDepth 100000 in
set_option maxHeartbeats 4000000 in
theorem w_X10_thrown {p : Program} {l : Launch} {e : Env} {s : State} {m : MethodId} {args : Array Value} {below : List Frame} {meth : Method} {c : Code} {D : va_G} {cA : Nat → ClassId} {ad : Nat → Nat → Nat} {NL : List (Nat × Nat)} {A : Nat → Prop} {rr : Int32} {XX : gM} {N : Nat} (C : gCx p c meth m s args cX10_thrown 1 (some .int) RX10 D cA ad NL A) (hW : gWf NL) (hD0 : gD (fun _ => True) ad NL) (ha_l0 : (43, 0) ∈ NL) : ∀ (X : gM) (H : Heap) (locs : List Loc) (ls : Array Slot), gH D cA ad NL X H → va_S A s.heap H locs → lv_has ls 1 [(0, .ref (ad 43 0))] → X10_thrown (gal NL) N  X = some (rr, XX) → W p l e rm_X10_thrown s m args below meth c H locs 0 0 (MQ below (gQ D cA ad NL (some (.int rr)) XX A) args s 0 0 A) (F0 m 0 ls []) := by
  have hx := C.1
  have hb := C.2.1
  intro X H locs ls hP hS hl hf
  rw [X10_thrown] at hf
  refine lv_aload_n hx hb dX10_thrown_0 rfl (lv_at hl 0 rfl) ?_
  refine r_get C hP ha_l0 (ct_43 _ _ _ _) fx_X10_122 (fg_43_46 _ _ _) dX10_thrown_1 ?_
  obtain ⟨rfl, rfl⟩ := g_s1 hf
  exact r_iret C hP hS dX10_thrown_4

theorem s_X10_thrown {l : Launch} {D : va_G} {cA : Nat → ClassId} {ad : Nat → Nat → Nat} {NL : List (Nat × Nat)} {N : Nat} {X : gM} {rr : Int32} {XX : gM} (hW : gWf NL) (hD0 : gD (fun _ => True) ad NL) (ha_l0 : (43, 0) ∈ NL) (hf : X10_thrown (gal NL) N  X = some (rr, XX)) : gC l yX10_thrown cX10_thrown 1 (some .int) rm_X10_thrown D cA ad NL [.ref (ad 43 0)] X (some (.int rr)) XX :=
  g_ofW (by decide) hD0 (Nat.le_of_ble_eq_true rfl) rfl (fun p e s m below meth c ls C hP hS hl => w_X10_thrown C hW hD0 ha_l0 X _ _ ls hP hS hl hf)
def rm_X10_in : Room := { frames := 0, cells := 0, slots := 0, locals := 0 }
set_option maxRecDepth 100000 in
set_option maxHeartbeats 4000000 in
theorem s_X10_in_J15 {p : Program} {l : Launch} {e : Env} {s : State} {m : MethodId} {args : Array Value} {below : List Frame} {meth : Method} {c : Code} {D : va_G} {cA : Nat → ClassId} {ad : Nat → Nat → Nat} {NL : List (Nat × Nat)} {A : Nat → Prop} {rr : Int32} {XX : gM} {N : Nat} (C : gCx p c meth m s args cX10_in 3 (some .boolean) RX10 D cA ad NL A) (hW : gWf NL) (hD0 : gD (fun _ => True) ad NL) : ∀ (s0 : Int32) (X : gM) (H : Heap) (locs : List Loc) (ls : Array Slot), gH D cA ad NL X H → va_S A s.heap H locs → lv_has ls 3 [] → X10_in_J15 (gal NL) N s0 X = some (rr, XX) → W p l e rm_X10_in s m args below meth c H locs 0 0 (MQ below (gQ D cA ad NL (some (.int rr)) XX A) args s 0 0 A) (F0 m 15 ls [.int s0]) := by
  have hx := C.1
  have hb := C.2.1
  intro s0 X H locs ls hP hS hl hf
  rw [X10_in_J15] at hf
  obtain ⟨h1, hf⟩ := bz_in hf
  obtain ⟨rfl, rfl⟩ := g_s1 hf
  exact r_zret C hP hS h1 dX10_in_15

set_option maxRecDepth 100000 in
set_option maxHeartbeats 4000000 in
theorem s_X10_in_J14 {p : Program} {l : Launch} {e : Env} {s : State} {m : MethodId} {args : Array Value} {below : List Frame} {meth : Method} {c : Code} {D : va_G} {cA : Nat → ClassId} {ad : Nat → Nat → Nat} {NL : List (Nat × Nat)} {A : Nat → Prop} {rr : Int32} {XX : gM} {N : Nat} (C : gCx p c meth m s args cX10_in 3 (some .boolean) RX10 D cA ad NL A) (hW : gWf NL) (hD0 : gD (fun _ => True) ad NL) : ∀ (X : gM) (H : Heap) (locs : List Loc) (ls : Array Slot), gH D cA ad NL X H → va_S A s.heap H locs → lv_has ls 3 [] → X10_in_J14 (gal NL) N X = some (rr, XX) → W p l e rm_X10_in s m args below meth c H locs 0 0 (MQ below (gQ D cA ad NL (some (.int rr)) XX A) args s 0 0 A) (F0 m 14 ls []) := by
  have hx := C.1
  have hb := C.2.1
  intro X H locs ls hP hS hl hf
  rw [X10_in_J14] at hf
  refine lv_iconst (v := 0) hx hb dX10_in_14 (by decide) ?_
  exact s_X10_in_J15 C hW hD0 (0 : Int32) X _ _ _ hP hS (lv_sub hl [] rfl) hf

set_option maxRecDepth 100000 in
set_option maxHeartbeats 4000000 in
theorem w_X10_in {p : Program} {l : Launch} {e : Env} {s : State} {m : MethodId} {args : Array Value} {below : List Frame} {meth : Method} {c : Code} {D : va_G} {cA : Nat → ClassId} {ad : Nat → Nat → Nat} {NL : List (Nat × Nat)} {A : Nat → Prop} {rr : Int32} {XX : gM} {N : Nat} (C : gCx p c meth m s args cX10_in 3 (some .boolean) RX10 D cA ad NL A) (hW : gWf NL) (hD0 : gD (fun _ => True) ad NL) {p0 : Int32} {p1 : Int32} {p2 : Int32} : ∀ (X : gM) (H : Heap) (locs : List Loc) (ls : Array Slot), gH D cA ad NL X H → va_S A s.heap H locs → lv_has ls 3 [(0, .int p0), (1, .int p1), (2, .int p2)] → X10_in (gal NL) N p0 p1 p2 X = some (rr, XX) → W p l e rm_X10_in s m args below meth c H locs 0 0 (MQ below (gQ D cA ad NL (some (.int rr)) XX A) args s 0 0 A) (F0 m 0 ls []) := by
  have hx := C.1
  have hb := C.2.1
  intro X H locs ls hP hS hl hf
  rw [X10_in] at hf
  refine lv_iload_n hx hb dX10_in_0 rfl (lv_at hl 0 rfl) ?_
  refine lv_iload_n hx hb dX10_in_1 rfl (lv_at hl 1 rfl) ?_
  refine lv_icmp_lt (tgt := 14) hx hb dX10_in_2 (by decide) (fun c1 => ?_) (fun c1 => ?_)
  · have hf := g_ip c1 hf
    exact s_X10_in_J14 C hW hD0 X _ _ _ hP hS (lv_sub hl [] rfl) hf
  · have hf := g_in c1 hf
    refine lv_iload_n hx hb dX10_in_5 rfl (lv_at hl 0 rfl) ?_
    refine lv_iload_n hx hb dX10_in_6 rfl (lv_at hl 2 rfl) ?_
    refine lv_icmp_gt (tgt := 14) hx hb dX10_in_7 (by decide) (fun c2 => ?_) (fun c2 => ?_)
    · have hf := g_ip c2 hf
      exact s_X10_in_J14 C hW hD0 X _ _ _ hP hS (lv_sub hl [] rfl) hf
    · have hf := g_in c2 hf
      refine lv_iconst (v := 1) hx hb dX10_in_10 (by decide) ?_
      refine lv_goto (tgt := 15) hx hb dX10_in_11 (by decide) ?_
      exact s_X10_in_J15 C hW hD0 (1 : Int32) X _ _ _ hP hS (lv_sub hl [] rfl) hf

theorem s_X10_in {l : Launch} {D : va_G} {cA : Nat → ClassId} {ad : Nat → Nat → Nat} {NL : List (Nat × Nat)} {N : Nat} {p0 : Int32} {p1 : Int32} {p2 : Int32} {X : gM} {rr : Int32} {XX : gM} (hW : gWf NL) (hD0 : gD (fun _ => True) ad NL) (hf : X10_in (gal NL) N p0 p1 p2 X = some (rr, XX)) : gC l yX10_in cX10_in 3 (some .boolean) rm_X10_in D cA ad NL [.int p0, .int p1, .int p2] X (some (.int rr)) XX :=
  g_ofW (by decide) hD0 (Nat.le_of_ble_eq_true rfl) rfl (fun p e s m below meth c ls C hP hS hl => w_X10_in C hW hD0  X _ _ ls hP hS hl hf)
def rm_X10_isLeaf : Room := { frames := 1, cells := 0, slots := 0, locals := 22 }
set_option maxRecDepth 100000 in
set_option maxHeartbeats 4000000 in
theorem w_X10_isLeaf {p : Program} {l : Launch} {e : Env} {s : State} {m : MethodId} {args : Array Value} {below : List Frame} {meth : Method} {c : Code} {D : va_G} {cA : Nat → ClassId} {ad : Nat → Nat → Nat} {NL : List (Nat × Nat)} {A : Nat → Prop} {rr : Int32} {XX : gM} {N : Nat} (C : gCx p c meth m s args cX10_isLeaf 2 (some .boolean) RX10 D cA ad NL A) (hW : gWf NL) (hD0 : gD (fun _ => True) ad NL) {p1 : Int32} (ha_l0 : (43, 0) ∈ NL) : ∀ (X : gM) (H : Heap) (locs : List Loc) (ls : Array Slot), gH D cA ad NL X H → va_S A s.heap H locs → lv_has ls 2 [(0, .ref (ad 43 0)), (1, .int p1)] → X10_isLeaf (gal NL) N p1 X = some (rr, XX) → W p l e rm_X10_isLeaf s m args below meth c H locs 0 0 (MQ below (gQ D cA ad NL (some (.int rr)) XX A) args s 0 0 A) (F0 m 0 ls []) := by
  have hx := C.1
  have hb := C.2.1
  intro X H locs ls hP hS hl hf
  rw [X10_isLeaf] at hf
  refine lv_iload_n hx hb dX10_isLeaf_0 rfl (lv_at hl 1 rfl) ?_
  refine lv_iconst (v := 0) hx hb dX10_isLeaf_1 (by decide) ?_
  refine lv_aload_n hx hb dX10_isLeaf_2 rfl (lv_at hl 0 rfl) ?_
  refine r_get C hP ha_l0 (ct_43 _ _ _ _) fx_X10_126 (fg_43_0 _ _ _) dX10_isLeaf_3 ?_
  refine lv_iconst (v := 1) hx hb dX10_isLeaf_6 (by decide) ?_
  refine lv_isub hx hb dX10_isLeaf_7 ?_
  obtain ⟨r1, X2, h3, hf⟩ := b2_in hf
  refine r_cSi (rest := []) C hP hS hl.1 (s_X10_in hW hD0  h3) ix_X10_in is_X10_in ls_X10_129 ⟨rfl, rfl, Nat.le_of_ble_eq_true rfl, Nat.le_of_ble_eq_true rfl⟩ rfl rfl (Nat.le_of_ble_eq_true rfl) ⟨Nat.zero_le _, Nat.zero_le _⟩ dX10_isLeaf_8 (fun H locs hP hS => ?_)
  obtain ⟨h4, hf⟩ := bz_in hf
  obtain ⟨rfl, rfl⟩ := g_s1 hf
  exact r_zret C hP hS h4 dX10_isLeaf_11

theorem s_X10_isLeaf {l : Launch} {D : va_G} {cA : Nat → ClassId} {ad : Nat → Nat → Nat} {NL : List (Nat × Nat)} {N : Nat} {p1 : Int32} {X : gM} {rr : Int32} {XX : gM} (hW : gWf NL) (hD0 : gD (fun _ => True) ad NL) (ha_l0 : (43, 0) ∈ NL) (hf : X10_isLeaf (gal NL) N p1 X = some (rr, XX)) : gC l yX10_isLeaf cX10_isLeaf 2 (some .boolean) rm_X10_isLeaf D cA ad NL [.ref (ad 43 0), .int p1] X (some (.int rr)) XX :=
  g_ofW (by decide) hD0 (Nat.le_of_ble_eq_true rfl) rfl (fun p e s m below meth c ls C hP hS hl => w_X10_isLeaf C hW hD0 ha_l0 X _ _ ls hP hS hl hf)
def rm_X10_isCell : Room := { frames := 2, cells := 0, slots := 0, locals := 43 }
set_option maxRecDepth 100000 in
set_option maxHeartbeats 4000000 in
theorem s_X10_isCell_J45 {p : Program} {l : Launch} {e : Env} {s : State} {m : MethodId} {args : Array Value} {below : List Frame} {meth : Method} {c : Code} {D : va_G} {cA : Nat → ClassId} {ad : Nat → Nat → Nat} {NL : List (Nat × Nat)} {A : Nat → Prop} {rr : Int32} {XX : gM} {N : Nat} (C : gCx p c meth m s args cX10_isCell 4 (some .boolean) RX10 D cA ad NL A) (hW : gWf NL) (hD0 : gD (fun _ => True) ad NL) : ∀ (s0 : Int32) (X : gM) (H : Heap) (locs : List Loc) (ls : Array Slot), gH D cA ad NL X H → va_S A s.heap H locs → lv_has ls 4 [] → X10_isCell_J45 (gal NL) N s0 X = some (rr, XX) → W p l e rm_X10_isCell s m args below meth c H locs 0 0 (MQ below (gQ D cA ad NL (some (.int rr)) XX A) args s 0 0 A) (F0 m 45 ls [.int s0]) := by
  have hx := C.1
  have hb := C.2.1
  intro s0 X H locs ls hP hS hl hf
  rw [X10_isCell_J45] at hf
  obtain ⟨h1, hf⟩ := bz_in hf
  obtain ⟨rfl, rfl⟩ := g_s1 hf
  exact r_zret C hP hS h1 dX10_isCell_45

set_option maxRecDepth 100000 in
set_option maxHeartbeats 4000000 in
theorem s_X10_isCell_J44 {p : Program} {l : Launch} {e : Env} {s : State} {m : MethodId} {args : Array Value} {below : List Frame} {meth : Method} {c : Code} {D : va_G} {cA : Nat → ClassId} {ad : Nat → Nat → Nat} {NL : List (Nat × Nat)} {A : Nat → Prop} {rr : Int32} {XX : gM} {N : Nat} (C : gCx p c meth m s args cX10_isCell 4 (some .boolean) RX10 D cA ad NL A) (hW : gWf NL) (hD0 : gD (fun _ => True) ad NL) : ∀ (X : gM) (H : Heap) (locs : List Loc) (ls : Array Slot), gH D cA ad NL X H → va_S A s.heap H locs → lv_has ls 4 [] → X10_isCell_J44 (gal NL) N X = some (rr, XX) → W p l e rm_X10_isCell s m args below meth c H locs 0 0 (MQ below (gQ D cA ad NL (some (.int rr)) XX A) args s 0 0 A) (F0 m 44 ls []) := by
  have hx := C.1
  have hb := C.2.1
  intro X H locs ls hP hS hl hf
  rw [X10_isCell_J44] at hf
  refine lv_iconst (v := 0) hx hb dX10_isCell_44 (by decide) ?_
  exact s_X10_isCell_J45 C hW hD0 (0 : Int32) X _ _ _ hP hS (lv_sub hl [] rfl) hf

set_option maxRecDepth 100000 in
set_option maxHeartbeats 4000000 in
theorem w_X10_isCell {p : Program} {l : Launch} {e : Env} {s : State} {m : MethodId} {args : Array Value} {below : List Frame} {meth : Method} {c : Code} {D : va_G} {cA : Nat → ClassId} {ad : Nat → Nat → Nat} {NL : List (Nat × Nat)} {A : Nat → Prop} {rr : Int32} {XX : gM} {N : Nat} (C : gCx p c meth m s args cX10_isCell 4 (some .boolean) RX10 D cA ad NL A) (hW : gWf NL) (hD0 : gD (fun _ => True) ad NL) {p1 : Int32} {p2 : Int32} {p3 : Int32} (ha_l0 : (43, 0) ∈ NL) : ∀ (X : gM) (H : Heap) (locs : List Loc) (ls : Array Slot), gH D cA ad NL X H → va_S A s.heap H locs → lv_has ls 4 [(0, .ref (ad 43 0)), (1, .int p1), (2, .int p2), (3, .int p3)] → X10_isCell (gal NL) N p1 p2 p3 X = some (rr, XX) → W p l e rm_X10_isCell s m args below meth c H locs 0 0 (MQ below (gQ D cA ad NL (some (.int rr)) XX A) args s 0 0 A) (F0 m 0 ls []) := by
  have hx := C.1
  have hb := C.2.1
  intro X H locs ls hP hS hl hf
  rw [X10_isCell] at hf
  refine lv_aload_n hx hb dX10_isCell_0 rfl (lv_at hl 0 rfl) ?_
  refine lv_iload_n hx hb dX10_isCell_1 rfl (lv_at hl 1 rfl) ?_
  obtain ⟨r1, X2, h3, hf⟩ := b2_in hf
  refine r_cVi (rest := []) C hP hS hl.1 (s_X10_isLeaf hW hD0 ha_l0 h3) ix_X10_isLeaf iv_X10_isLeaf lk_X10_133 ⟨rfl, rfl, Nat.le_of_ble_eq_true rfl, Nat.le_of_ble_eq_true rfl⟩ ha_l0 (ct_43 _ _ _ _) rfl rfl rfl rfl (Nat.le_of_ble_eq_true rfl) ⟨Nat.zero_le _, Nat.zero_le _⟩ dX10_isCell_2 (fun H locs hP hS => ?_)
  refine lv_if_eq (tgt := 44) hx hb dX10_isCell_5 (by decide) (fun c4 => ?_) (fun c4 => ?_)
  · have hf := g_ip c4 hf
    exact s_X10_isCell_J44 C hW hD0 X2 _ _ _ hP hS (lv_sub hl [] rfl) hf
  · have hf := g_in c4 hf
    refine lv_iload_n hx hb dX10_isCell_8 rfl (lv_at hl 2 rfl) ?_
    refine lv_iconst (v := 0) hx hb dX10_isCell_9 (by decide) ?_
    refine lv_aload_n hx hb dX10_isCell_10 rfl (lv_at hl 0 rfl) ?_
    refine r_get C hP ha_l0 (ct_43 _ _ _ _) fx_X10_13 (fg_43_2 _ _ _) dX10_isCell_11 ?_
    refine lv_iload_n hx hb dX10_isCell_14 rfl (lv_at hl 1 rfl) ?_
    obtain ⟨j5, h6, hf⟩ := rd_in hf
    refine r_iald C hP (gs_43_2 hW ha_l0) (ct_45 _ _ _ _) h6 dX10_isCell_15 ?_
    refine lv_iconst (v := 1) hx hb dX10_isCell_16 (by decide) ?_
    refine lv_isub hx hb dX10_isCell_17 ?_
    obtain ⟨r7, X8, h9, hf⟩ := b2_in hf
    refine r_cSi (rest := []) C hP hS hl.1 (s_X10_in hW hD0  h9) ix_X10_in is_X10_in ls_X10_129 ⟨rfl, rfl, Nat.le_of_ble_eq_true rfl, Nat.le_of_ble_eq_true rfl⟩ rfl rfl (Nat.le_of_ble_eq_true rfl) ⟨Nat.zero_le _, Nat.zero_le _⟩ dX10_isCell_18 (fun H locs hP hS => ?_)
    refine lv_if_eq (tgt := 44) hx hb dX10_isCell_21 (by decide) (fun c10 => ?_) (fun c10 => ?_)
    · have hf := g_ip c10 hf
      exact s_X10_isCell_J44 C hW hD0 X8 _ _ _ hP hS (lv_sub hl [] rfl) hf
    · have hf := g_in c10 hf
      refine lv_iload_n hx hb dX10_isCell_24 rfl (lv_at hl 3 rfl) ?_
      refine lv_iconst (v := 0) hx hb dX10_isCell_25 (by decide) ?_
      refine lv_aload_n hx hb dX10_isCell_26 rfl (lv_at hl 0 rfl) ?_
      refine r_get C hP ha_l0 (ct_43 _ _ _ _) fx_X10_16 (fg_43_3 _ _ _) dX10_isCell_27 ?_
      refine lv_iload_n hx hb dX10_isCell_30 rfl (lv_at hl 1 rfl) ?_
      obtain ⟨j11, h12, hf⟩ := rd_in hf
      refine r_iald C hP (gs_43_3 hW ha_l0) (ct_46 _ _ _ _) h12 dX10_isCell_31 ?_
      refine lv_iconst (v := 1) hx hb dX10_isCell_32 (by decide) ?_
      refine lv_isub hx hb dX10_isCell_33 ?_
      obtain ⟨r13, X14, h15, hf⟩ := b2_in hf
      refine r_cSi (rest := []) C hP hS hl.1 (s_X10_in hW hD0  h15) ix_X10_in is_X10_in ls_X10_129 ⟨rfl, rfl, Nat.le_of_ble_eq_true rfl, Nat.le_of_ble_eq_true rfl⟩ rfl rfl (Nat.le_of_ble_eq_true rfl) ⟨Nat.zero_le _, Nat.zero_le _⟩ dX10_isCell_34 (fun H locs hP hS => ?_)
      refine lv_if_eq (tgt := 44) hx hb dX10_isCell_37 (by decide) (fun c16 => ?_) (fun c16 => ?_)
      · have hf := g_ip c16 hf
        exact s_X10_isCell_J44 C hW hD0 X14 _ _ _ hP hS (lv_sub hl [] rfl) hf
      · have hf := g_in c16 hf
        refine lv_iconst (v := 1) hx hb dX10_isCell_40 (by decide) ?_
        refine lv_goto (tgt := 45) hx hb dX10_isCell_41 (by decide) ?_
        exact s_X10_isCell_J45 C hW hD0 (1 : Int32) X14 _ _ _ hP hS (lv_sub hl [] rfl) hf

theorem s_X10_isCell {l : Launch} {D : va_G} {cA : Nat → ClassId} {ad : Nat → Nat → Nat} {NL : List (Nat × Nat)} {N : Nat} {p1 : Int32} {p2 : Int32} {p3 : Int32} {X : gM} {rr : Int32} {XX : gM} (hW : gWf NL) (hD0 : gD (fun _ => True) ad NL) (ha_l0 : (43, 0) ∈ NL) (hf : X10_isCell (gal NL) N p1 p2 p3 X = some (rr, XX)) : gC l yX10_isCell cX10_isCell 4 (some .boolean) rm_X10_isCell D cA ad NL [.ref (ad 43 0), .int p1, .int p2, .int p3] X (some (.int rr)) XX :=
  g_ofW (by decide) hD0 (Nat.le_of_ble_eq_true rfl) rfl (fun p e s m below meth c ls C hP hS hl => w_X10_isCell C hW hD0 ha_l0 X _ _ ls hP hS hl hf)
def rm_X10_cellAt : Room := { frames := 0, cells := 0, slots := 0, locals := 0 }
set_option maxRecDepth 100000 in
set_option maxHeartbeats 4000000 in
theorem w_X10_cellAt {p : Program} {l : Launch} {e : Env} {s : State} {m : MethodId} {args : Array Value} {below : List Frame} {meth : Method} {c : Code} {D : va_G} {cA : Nat → ClassId} {ad : Nat → Nat → Nat} {NL : List (Nat × Nat)} {A : Nat → Prop} {rr : Int32} {XX : gM} {N : Nat} (C : gCx p c meth m s args cX10_cellAt 3 (some .int) RX10 D cA ad NL A) (hW : gWf NL) (hD0 : gD (fun _ => True) ad NL) {p0 : Int32} {p1 : Int32} {p2 : Int32} : ∀ (X : gM) (H : Heap) (locs : List Loc) (ls : Array Slot), gH D cA ad NL X H → va_S A s.heap H locs → lv_has ls 3 [(0, .int p0), (1, .int p1), (2, .int p2)] → X10_cellAt (gal NL) N p0 p1 p2 X = some (rr, XX) → W p l e rm_X10_cellAt s m args below meth c H locs 0 0 (MQ below (gQ D cA ad NL (some (.int rr)) XX A) args s 0 0 A) (F0 m 0 ls []) := by
  have hx := C.1
  have hb := C.2.1
  intro X H locs ls hP hS hl hf
  rw [X10_cellAt] at hf
  refine lv_bipush (v := 32) hx hb dX10_cellAt_0 (by decide) ?_
  refine lv_iload_n hx hb dX10_cellAt_2 rfl (lv_at hl 0 rfl) ?_
  refine lv_imul hx hb dX10_cellAt_3 ?_
  refine lv_bipush (v := 8) hx hb dX10_cellAt_4 (by decide) ?_
  refine lv_iload_n hx hb dX10_cellAt_6 rfl (lv_at hl 1 rfl) ?_
  refine lv_imul hx hb dX10_cellAt_7 ?_
  refine lv_iadd hx hb dX10_cellAt_8 ?_
  refine lv_iload_n hx hb dX10_cellAt_9 rfl (lv_at hl 2 rfl) ?_
  refine lv_iadd hx hb dX10_cellAt_10 ?_
  obtain ⟨rfl, rfl⟩ := g_s1 hf
  exact r_iret C hP hS dX10_cellAt_11

theorem s_X10_cellAt {l : Launch} {D : va_G} {cA : Nat → ClassId} {ad : Nat → Nat → Nat} {NL : List (Nat × Nat)} {N : Nat} {p0 : Int32} {p1 : Int32} {p2 : Int32} {X : gM} {rr : Int32} {XX : gM} (hW : gWf NL) (hD0 : gD (fun _ => True) ad NL) (hf : X10_cellAt (gal NL) N p0 p1 p2 X = some (rr, XX)) : gC l yX10_cellAt cX10_cellAt 3 (some .int) rm_X10_cellAt D cA ad NL [.int p0, .int p1, .int p2] X (some (.int rr)) XX :=
  g_ofW (by decide) hD0 (Nat.le_of_ble_eq_true rfl) rfl (fun p e s m below meth c ls C hP hS hl => w_X10_cellAt C hW hD0  X _ _ ls hP hS hl hf)
def rm_X10_leavesOf : Room := { frames := 0, cells := 0, slots := 0, locals := 0 }
set_option maxRecDepth 100000 in
set_option maxHeartbeats 4000000 in
theorem s_X10_leavesOf_J36 {p : Program} {l : Launch} {e : Env} {s : State} {m : MethodId} {args : Array Value} {below : List Frame} {meth : Method} {c : Code} {D : va_G} {cA : Nat → ClassId} {ad : Nat → Nat → Nat} {NL : List (Nat × Nat)} {A : Nat → Prop} {rr : Int32} {XX : gM} {N : Nat} (C : gCx p c meth m s args cX10_leavesOf 4 (some .int) RX10 D cA ad NL A) (hW : gWf NL) (hD0 : gD (fun _ => True) ad NL) : ∀ (p2 : Int32) (X : gM) (H : Heap) (locs : List Loc) (ls : Array Slot), gH D cA ad NL X H → va_S A s.heap H locs → lv_has ls 4 [(2, .int p2)] → X10_leavesOf_J36 (gal NL) N p2 X = some (rr, XX) → W p l e rm_X10_leavesOf s m args below meth c H locs 0 0 (MQ below (gQ D cA ad NL (some (.int rr)) XX A) args s 0 0 A) (F0 m 36 ls []) := by
  have hx := C.1
  have hb := C.2.1
  intro p2 X H locs ls hP hS hl hf
  rw [X10_leavesOf_J36] at hf
  refine lv_iload_n hx hb dX10_leavesOf_36 rfl (lv_at hl 0 rfl) ?_
  obtain ⟨rfl, rfl⟩ := g_s1 hf
  exact r_iret C hP hS dX10_leavesOf_37

set_option maxRecDepth 100000 in
set_option maxHeartbeats 4000000 in
theorem s_X10_leavesOf_J28 {p : Program} {l : Launch} {e : Env} {s : State} {m : MethodId} {args : Array Value} {below : List Frame} {meth : Method} {c : Code} {D : va_G} {cA : Nat → ClassId} {ad : Nat → Nat → Nat} {NL : List (Nat × Nat)} {A : Nat → Prop} {rr : Int32} {XX : gM} {N : Nat} {kk : Int32 → Int32 → Int32 → gM → Option (Int32 × gM)} {k36 : Int32 → gM → Option (Int32 × gM)} (C : gCx p c meth m s args cX10_leavesOf 4 (some .int) RX10 D cA ad NL A) (hW : gWf NL) (hD0 : gD (fun _ => True) ad NL) (hkk : ∀ (p1 : Int32) (p2 : Int32) (p3 : Int32) (Y : gM) (H : Heap) (locs : List Loc) (ls : Array Slot), gH D cA ad NL Y H → va_S A s.heap H locs → lv_has ls 4 [(0, .ref (ad 43 0)), (1, .int p1), (2, .int p2), (3, .int p3)] → (43, 0) ∈ NL → kk p1 p2 p3 Y = some (rr, XX) → W p l e rm_X10_leavesOf s m args below meth c H locs 0 0 (MQ below (gQ D cA ad NL (some (.int rr)) XX A) args s 0 0 A) (F0 m 4 ls [])) (hk36 : ∀ (p2 : Int32) (Y : gM) (H : Heap) (locs : List Loc) (ls : Array Slot), gH D cA ad NL Y H → va_S A s.heap H locs → lv_has ls 4 [(2, .int p2)] → k36 p2 Y = some (rr, XX) → W p l e rm_X10_leavesOf s m args below meth c H locs 0 0 (MQ below (gQ D cA ad NL (some (.int rr)) XX A) args s 0 0 A) (F0 m 36 ls [])) : ∀ (p1 : Int32) (p3 : Int32) (s0 : Int32) (s1 : Int32) (X : gM) (H : Heap) (locs : List Loc) (ls : Array Slot), gH D cA ad NL X H → va_S A s.heap H locs → lv_has ls 4 [(0, .ref (ad 43 0)), (1, .int p1), (3, .int p3)] → (43, 0) ∈ NL → X10_leavesOf_J28 (gal NL) N kk k36 p1 p3 s0 s1 X = some (rr, XX) → W p l e rm_X10_leavesOf s m args below meth c H locs 0 0 (MQ below (gQ D cA ad NL (some (.int rr)) XX A) args s 0 0 A) (F0 m 28 ls [.int s1, .int s0]) := by
  have hx := C.1
  have hb := C.2.1
  intro p1 p3 s0 s1 X H locs ls hP hS hl ha_l0 hf
  rw [X10_leavesOf_J28] at hf
  refine lv_iadd hx hb dX10_leavesOf_28 ?_
  refine g_top hf (fun v1 e2 hf => ?_)
  refine lv_istore_n (i := 2) (lv' := [(2, .int v1), (0, .ref (ad 43 0)), (1, .int p1), (3, .int p3)]) hx hb dX10_leavesOf_29 rfl hl (Nat.le_of_ble_eq_true rfl) rfl (fun ls hl => ?_)
  obtain ⟨v3, e4, hf⟩ := gl_in hf
  refine lv_iinc (v := v3) (lv' := [(3, .int v3), (2, .int v1), (0, .ref (ad 43 0)), (1, .int p1)]) hx hb dX10_leavesOf_30 hl (k := 3) rfl (by rw [e4]; rfl) (Nat.le_of_ble_eq_true rfl) rfl (fun ls hl => ?_)
  refine lv_goto (tgt := 4) hx hb dX10_leavesOf_33 (by decide) ?_
  exact hkk p1 v1 v3 X _ _ _ hP hS (lv_sub hl [2, 3, 1, 0] rfl) ha_l0 hf

set_option maxRecDepth 100000 in
set_option maxHeartbeats 4000000 in
theorem s_X10_leavesOf_L4 {p : Program} {l : Launch} {e : Env} {s : State} {m : MethodId} {args : Array Value} {below : List Frame} {meth : Method} {c : Code} {D : va_G} {cA : Nat → ClassId} {ad : Nat → Nat → Nat} {NL : List (Nat × Nat)} {A : Nat → Prop} {rr : Int32} {XX : gM} {N : Nat} {k36 : Int32 → gM → Option (Int32 × gM)} (C : gCx p c meth m s args cX10_leavesOf 4 (some .int) RX10 D cA ad NL A) (hW : gWf NL) (hD0 : gD (fun _ => True) ad NL) (hk36 : ∀ (p2 : Int32) (Y : gM) (H : Heap) (locs : List Loc) (ls : Array Slot), gH D cA ad NL Y H → va_S A s.heap H locs → lv_has ls 4 [(2, .int p2)] → k36 p2 Y = some (rr, XX) → W p l e rm_X10_leavesOf s m args below meth c H locs 0 0 (MQ below (gQ D cA ad NL (some (.int rr)) XX A) args s 0 0 A) (F0 m 36 ls [])) : ∀ (n : Nat) (p1 : Int32) (p2 : Int32) (p3 : Int32) (X : gM) (H : Heap) (locs : List Loc) (ls : Array Slot), gH D cA ad NL X H → va_S A s.heap H locs → lv_has ls 4 [(0, .ref (ad 43 0)), (1, .int p1), (2, .int p2), (3, .int p3)] → (43, 0) ∈ NL → X10_leavesOf_L4 (gal NL) N k36 n p1 p2 p3 X = some (rr, XX) → W p l e rm_X10_leavesOf s m args below meth c H locs 0 0 (MQ below (gQ D cA ad NL (some (.int rr)) XX A) args s 0 0 A) (F0 m 4 ls []) := by
  have hx := C.1
  have hb := C.2.1
  intro n
  induction n with
  | zero =>
    intro p1 p2 p3 X H locs ls hP hS hl ha_l0 hf
    rw [X10_leavesOf_L4] at hf
    cases hf
  | succ n ih =>
    intro p1 p2 p3 X H locs ls hP hS hl ha_l0 hf
    rw [X10_leavesOf_L4] at hf
    refine lv_iload_n hx hb dX10_leavesOf_4 rfl (lv_at hl 3 rfl) ?_
    refine lv_aload_n hx hb dX10_leavesOf_5 rfl (lv_at hl 0 rfl) ?_
    refine r_get C hP ha_l0 (ct_43 _ _ _ _) fx_X10_126 (fg_43_0 _ _ _) dX10_leavesOf_6 ?_
    refine lv_icmp_ge (tgt := 36) hx hb dX10_leavesOf_9 (by decide) (fun c1 => ?_) (fun c1 => ?_)
    · have hf := g_ip c1 hf
      exact hk36 p2 X _ _ _ hP hS (lv_sub hl [2] rfl) hf
    · have hf := g_in c1 hf
      refine lv_iload_n hx hb dX10_leavesOf_12 rfl (lv_at hl 2 rfl) ?_
      refine lv_aload_n hx hb dX10_leavesOf_13 rfl (lv_at hl 0 rfl) ?_
      refine r_get C hP ha_l0 (ct_43 _ _ _ _) fx_X10_7 (fg_43_1 _ _ _) dX10_leavesOf_14 ?_
      refine lv_iload_n hx hb dX10_leavesOf_17 rfl (lv_at hl 3 rfl) ?_
      obtain ⟨j2, h3, hf⟩ := rd_in hf
      refine r_iald C hP (gs_43_1 hW ha_l0) (ct_44 _ _ _ _) h3 dX10_leavesOf_18 ?_
      refine lv_iload_n hx hb dX10_leavesOf_19 rfl (lv_at hl 1 rfl) ?_
      refine lv_icmp_ne (tgt := 27) hx hb dX10_leavesOf_20 (by decide) (fun c4 => ?_) (fun c4 => ?_)
      · have hf := g_in c4 hf
        refine lv_iconst (v := 0) hx hb dX10_leavesOf_27 (by decide) ?_
        exact s_X10_leavesOf_J28 C hW hD0 ih hk36 p1 p3 p2 (0 : Int32) X _ _ _ hP hS (lv_sub hl [0, 1, 3] rfl) ha_l0 hf
      · have hf := g_ip c4 hf
        refine lv_iconst (v := 1) hx hb dX10_leavesOf_23 (by decide) ?_
        refine lv_goto (tgt := 28) hx hb dX10_leavesOf_24 (by decide) ?_
        exact s_X10_leavesOf_J28 C hW hD0 ih hk36 p1 p3 p2 (1 : Int32) X _ _ _ hP hS (lv_sub hl [0, 1, 3] rfl) ha_l0 hf

set_option maxRecDepth 100000 in
set_option maxHeartbeats 4000000 in
theorem w_X10_leavesOf {p : Program} {l : Launch} {e : Env} {s : State} {m : MethodId} {args : Array Value} {below : List Frame} {meth : Method} {c : Code} {D : va_G} {cA : Nat → ClassId} {ad : Nat → Nat → Nat} {NL : List (Nat × Nat)} {A : Nat → Prop} {rr : Int32} {XX : gM} {N : Nat} (C : gCx p c meth m s args cX10_leavesOf 4 (some .int) RX10 D cA ad NL A) (hW : gWf NL) (hD0 : gD (fun _ => True) ad NL) {p1 : Int32} (ha_l0 : (43, 0) ∈ NL) : ∀ (X : gM) (H : Heap) (locs : List Loc) (ls : Array Slot), gH D cA ad NL X H → va_S A s.heap H locs → lv_has ls 4 [(0, .ref (ad 43 0)), (1, .int p1)] → X10_leavesOf (gal NL) N p1 X = some (rr, XX) → W p l e rm_X10_leavesOf s m args below meth c H locs 0 0 (MQ below (gQ D cA ad NL (some (.int rr)) XX A) args s 0 0 A) (F0 m 0 ls []) := by
  have hx := C.1
  have hb := C.2.1
  intro X H locs ls hP hS hl hf
  rw [X10_leavesOf] at hf
  refine lv_iconst (v := 0) hx hb dX10_leavesOf_0 (by decide) ?_
  refine lv_istore_n (i := 2) (lv' := [(2, .int (0 : Int32)), (0, .ref (ad 43 0)), (1, .int p1)]) hx hb dX10_leavesOf_1 rfl hl (Nat.le_of_ble_eq_true rfl) rfl (fun ls hl => ?_)
  refine lv_iconst (v := 0) hx hb dX10_leavesOf_2 (by decide) ?_
  refine lv_istore_n (i := 3) (lv' := [(3, .int (0 : Int32)), (2, .int (0 : Int32)), (0, .ref (ad 43 0)), (1, .int p1)]) hx hb dX10_leavesOf_3 rfl hl (Nat.le_of_ble_eq_true rfl) rfl (fun ls hl => ?_)
  exact s_X10_leavesOf_L4 C hW hD0 (fun p2 Y H locs ls hP hS hl hf => s_X10_leavesOf_J36 C hW hD0 p2 Y _ _ _ hP hS hl hf) N p1 (0 : Int32) (0 : Int32) X _ _ _ hP hS (lv_sub hl [2, 3, 1, 0] rfl) ha_l0 hf

theorem s_X10_leavesOf {l : Launch} {D : va_G} {cA : Nat → ClassId} {ad : Nat → Nat → Nat} {NL : List (Nat × Nat)} {N : Nat} {p1 : Int32} {X : gM} {rr : Int32} {XX : gM} (hW : gWf NL) (hD0 : gD (fun _ => True) ad NL) (ha_l0 : (43, 0) ∈ NL) (hf : X10_leavesOf (gal NL) N p1 X = some (rr, XX)) : gC l yX10_leavesOf cX10_leavesOf 4 (some .int) rm_X10_leavesOf D cA ad NL [.ref (ad 43 0), .int p1] X (some (.int rr)) XX :=
  g_ofW (by decide) hD0 (Nat.le_of_ble_eq_true rfl) rfl (fun p e s m below meth c ls C hP hS hl => w_X10_leavesOf C hW hD0 ha_l0 X _ _ ls hP hS hl hf)
def rm_X10_leaf : Room := { frames := 1, cells := 0, slots := 0, locals := 23 }
set_option maxRecDepth 100000 in
set_option maxHeartbeats 4000000 in
theorem s_X10_leaf_J114 {p : Program} {l : Launch} {e : Env} {s : State} {m : MethodId} {args : Array Value} {below : List Frame} {meth : Method} {c : Code} {D : va_G} {cA : Nat → ClassId} {ad : Nat → Nat → Nat} {NL : List (Nat × Nat)} {A : Nat → Prop} {rr : Int32} {XX : gM} {N : Nat} (C : gCx p c meth m s args cX10_leaf 7 (some .int) RX10 D cA ad NL A) (hW : gWf NL) (hD0 : gD (fun _ => True) ad NL) : ∀ (p1 : Int32) (p2 : Int32) (p3 : Int32) (p4 : Int32) (p5 : Int32) (s1 : Int32) (X : gM) (H : Heap) (locs : List Loc) (ls : Array Slot), gH D cA ad NL X H → va_S A s.heap H locs → lv_has ls 7 [(0, .ref (ad 43 0)), (1, .int p1), (2, .int p2), (3, .int p3), (4, .int p4), (5, .int p5)] → (43, 0) ∈ NL → (43, 0) ∈ NL → X10_leaf_J114 (gal NL) N p1 p2 p3 p4 p5 s1 X = some (rr, XX) → W p l e rm_X10_leaf s m args below meth c H locs 0 0 (MQ below (gQ D cA ad NL (some (.int rr)) XX A) args s 0 0 A) (F0 m 114 ls [.int s1, .ref (ad 43 0)]) := by
  have hx := C.1
  have hb := C.2.1
  intro p1 p2 p3 p4 p5 s1 X H locs ls hP hS hl ha_l0 ha_s0 hf
  rw [X10_leaf_J114] at hf
  refine r_put C hP hS s1 ha_s0 (ct_43 _ _ _ _) px_X10_122 (fp_43_46 _ _ _ _ _) (Nat.le_of_ble_eq_true rfl) rfl rfl dX10_leaf_114 (fun H locs hP hS => ?_)
  obtain ⟨X1, e2, hf⟩ := gl_in hf
  rw [← e2] at hP
  refine lv_aload_n hx hb dX10_leaf_117 rfl (lv_at hl 0 rfl) ?_
  refine r_get C hP ha_l0 (ct_43 _ _ _ _) fx_X10_122 (fg_43_46 _ _ _) dX10_leaf_118 ?_
  refine lv_if_le (tgt := 126) hx hb dX10_leaf_121 (by decide) (fun c3 => ?_) (fun c3 => ?_)
  · have hf := g_ip c3 hf
    refine lv_aload_n hx hb dX10_leaf_126 rfl (lv_at hl 0 rfl) ?_
    refine r_get C hP ha_l0 (ct_43 _ _ _ _) fx_X10_7 (fg_43_1 _ _ _) dX10_leaf_127 ?_
    refine lv_aload_n hx hb dX10_leaf_130 rfl (lv_at hl 0 rfl) ?_
    refine r_get C hP ha_l0 (ct_43 _ _ _ _) fx_X10_126 (fg_43_0 _ _ _) dX10_leaf_131 ?_
    refine lv_iload_n hx hb dX10_leaf_134 rfl (lv_at hl 1 rfl) ?_
    obtain ⟨j4, h5, hf⟩ := rd_in hf
    refine r_iast C hP hS (gs_43_1 hW ha_l0) (fun _ => ct_44 _ _ _ _) h5 dX10_leaf_135 (fun H locs hP hS => ?_)
    obtain ⟨X6, e7, hf⟩ := gl_in hf
    rw [← e7] at hP
    refine lv_aload_n hx hb dX10_leaf_136 rfl (lv_at hl 0 rfl) ?_
    refine r_get C hP ha_l0 (ct_43 _ _ _ _) fx_X10_13 (fg_43_2 _ _ _) dX10_leaf_137 ?_
    refine lv_aload_n hx hb dX10_leaf_140 rfl (lv_at hl 0 rfl) ?_
    refine r_get C hP ha_l0 (ct_43 _ _ _ _) fx_X10_126 (fg_43_0 _ _ _) dX10_leaf_141 ?_
    refine lv_iload_n hx hb dX10_leaf_144 rfl (lv_at hl 2 rfl) ?_
    obtain ⟨j8, h9, hf⟩ := rd_in hf
    refine r_iast C hP hS (gs_43_2 hW ha_l0) (fun _ => ct_45 _ _ _ _) h9 dX10_leaf_145 (fun H locs hP hS => ?_)
    obtain ⟨X10, e11, hf⟩ := gl_in hf
    rw [← e11] at hP
    refine lv_aload_n hx hb dX10_leaf_146 rfl (lv_at hl 0 rfl) ?_
    refine r_get C hP ha_l0 (ct_43 _ _ _ _) fx_X10_16 (fg_43_3 _ _ _) dX10_leaf_147 ?_
    refine lv_aload_n hx hb dX10_leaf_150 rfl (lv_at hl 0 rfl) ?_
    refine r_get C hP ha_l0 (ct_43 _ _ _ _) fx_X10_126 (fg_43_0 _ _ _) dX10_leaf_151 ?_
    refine lv_iload_n hx hb dX10_leaf_154 rfl (lv_at hl 3 rfl) ?_
    obtain ⟨j12, h13, hf⟩ := rd_in hf
    refine r_iast C hP hS (gs_43_3 hW ha_l0) (fun _ => ct_46 _ _ _ _) h13 dX10_leaf_155 (fun H locs hP hS => ?_)
    obtain ⟨X14, e15, hf⟩ := gl_in hf
    rw [← e15] at hP
    refine lv_aload_n hx hb dX10_leaf_156 rfl (lv_at hl 0 rfl) ?_
    refine r_get C hP ha_l0 (ct_43 _ _ _ _) fx_X10_19 (fg_43_4 _ _ _) dX10_leaf_157 ?_
    refine lv_aload_n hx hb dX10_leaf_160 rfl (lv_at hl 0 rfl) ?_
    refine r_get C hP ha_l0 (ct_43 _ _ _ _) fx_X10_126 (fg_43_0 _ _ _) dX10_leaf_161 ?_
    refine lv_iload hx hb dX10_leaf_164 (lv_at hl 4 rfl) ?_
    obtain ⟨j16, h17, hf⟩ := rd_in hf
    refine r_iast C hP hS (gs_43_4 hW ha_l0) (fun _ => ct_47 _ _ _ _) h17 dX10_leaf_166 (fun H locs hP hS => ?_)
    obtain ⟨X18, e19, hf⟩ := gl_in hf
    rw [← e19] at hP
    refine lv_aload_n hx hb dX10_leaf_167 rfl (lv_at hl 0 rfl) ?_
    refine r_get C hP ha_l0 (ct_43 _ _ _ _) fx_X10_22 (fg_43_5 _ _ _) dX10_leaf_168 ?_
    refine lv_aload_n hx hb dX10_leaf_171 rfl (lv_at hl 0 rfl) ?_
    refine r_get C hP ha_l0 (ct_43 _ _ _ _) fx_X10_126 (fg_43_0 _ _ _) dX10_leaf_172 ?_
    refine lv_iload hx hb dX10_leaf_175 (lv_at hl 5 rfl) ?_
    obtain ⟨j20, h21, hf⟩ := rd_in hf
    refine r_iast C hP hS (gs_43_5 hW ha_l0) (fun _ => ct_48 _ _ _ _) h21 dX10_leaf_177 (fun H locs hP hS => ?_)
    obtain ⟨X22, e23, hf⟩ := gl_in hf
    rw [← e23] at hP
    refine lv_aload_n hx hb dX10_leaf_178 rfl (lv_at hl 0 rfl) ?_
    refine r_get C hP ha_l0 (ct_43 _ _ _ _) fx_X10_34 (fg_43_9 _ _ _) dX10_leaf_179 ?_
    refine lv_aload_n hx hb dX10_leaf_182 rfl (lv_at hl 0 rfl) ?_
    refine r_get C hP ha_l0 (ct_43 _ _ _ _) fx_X10_126 (fg_43_0 _ _ _) dX10_leaf_183 ?_
    refine lv_sipush (v := 4095) hx hb dX10_leaf_186 (by decide) ?_
    obtain ⟨j24, h25, hf⟩ := rd_in hf
    refine r_iast C hP hS (gs_43_9 hW ha_l0) (fun _ => ct_52 _ _ _ _) h25 dX10_leaf_189 (fun H locs hP hS => ?_)
    obtain ⟨X26, e27, hf⟩ := gl_in hf
    rw [← e27] at hP
    refine lv_aload_n hx hb dX10_leaf_190 rfl (lv_at hl 0 rfl) ?_
    refine lv_dup hx hb dX10_leaf_191 rfl ?_
    refine r_get C hP ha_l0 (ct_43 _ _ _ _) fx_X10_126 (fg_43_0 _ _ _) dX10_leaf_192 ?_
    refine lv_iconst (v := 1) hx hb dX10_leaf_195 (by decide) ?_
    refine lv_iadd hx hb dX10_leaf_196 ?_
    refine r_put C hP hS ((X26 43 0 0) + (1 : Int32)) ha_l0 (ct_43 _ _ _ _) px_X10_126 (fp_43_0 _ _ _ _ _) (Nat.le_of_ble_eq_true rfl) rfl rfl dX10_leaf_197 (fun H locs hP hS => ?_)
    obtain ⟨X28, e29, hf⟩ := gl_in hf
    rw [← e29] at hP
    refine lv_aload_n hx hb dX10_leaf_200 rfl (lv_at hl 0 rfl) ?_
    refine r_get C hP ha_l0 (ct_43 _ _ _ _) fx_X10_126 (fg_43_0 _ _ _) dX10_leaf_201 ?_
    refine lv_iconst (v := 1) hx hb dX10_leaf_204 (by decide) ?_
    refine lv_isub hx hb dX10_leaf_205 ?_
    obtain ⟨rfl, rfl⟩ := g_s1 hf
    exact r_iret C hP hS dX10_leaf_206
  · have hf := g_in c3 hf
    refine lv_iconst (v := 0) hx hb dX10_leaf_124 (by decide) ?_
    obtain ⟨rfl, rfl⟩ := g_s1 hf
    exact r_iret C hP hS dX10_leaf_125

set_option maxRecDepth 100000 in
set_option maxHeartbeats 4000000 in
theorem s_X10_leaf_J109 {p : Program} {l : Launch} {e : Env} {s : State} {m : MethodId} {args : Array Value} {below : List Frame} {meth : Method} {c : Code} {D : va_G} {cA : Nat → ClassId} {ad : Nat → Nat → Nat} {NL : List (Nat × Nat)} {A : Nat → Prop} {rr : Int32} {XX : gM} {N : Nat} (C : gCx p c meth m s args cX10_leaf 7 (some .int) RX10 D cA ad NL A) (hW : gWf NL) (hD0 : gD (fun _ => True) ad NL) : ∀ (p1 : Int32) (p2 : Int32) (p3 : Int32) (p4 : Int32) (p5 : Int32) (X : gM) (H : Heap) (locs : List Loc) (ls : Array Slot), gH D cA ad NL X H → va_S A s.heap H locs → lv_has ls 7 [(0, .ref (ad 43 0)), (1, .int p1), (2, .int p2), (3, .int p3), (4, .int p4), (5, .int p5)] → (43, 0) ∈ NL → (43, 0) ∈ NL → X10_leaf_J109 (gal NL) N p1 p2 p3 p4 p5 X = some (rr, XX) → W p l e rm_X10_leaf s m args below meth c H locs 0 0 (MQ below (gQ D cA ad NL (some (.int rr)) XX A) args s 0 0 A) (F0 m 109 ls [.ref (ad 43 0)]) := by
  have hx := C.1
  have hb := C.2.1
  intro p1 p2 p3 p4 p5 X H locs ls hP hS hl ha_l0 ha_s0 hf
  rw [X10_leaf_J109] at hf
  refine lv_iconst (v := 3) hx hb dX10_leaf_109 (by decide) ?_
  refine lv_goto (tgt := 114) hx hb dX10_leaf_110 (by decide) ?_
  exact s_X10_leaf_J114 C hW hD0 p1 p2 p3 p4 p5 (3 : Int32) X _ _ _ hP hS (lv_sub hl [0, 1, 2, 3, 4, 5] rfl) ha_l0 ha_s0 hf

set_option maxRecDepth 100000 in
set_option maxHeartbeats 4000000 in
theorem s_X10_leaf_J60 {p : Program} {l : Launch} {e : Env} {s : State} {m : MethodId} {args : Array Value} {below : List Frame} {meth : Method} {c : Code} {D : va_G} {cA : Nat → ClassId} {ad : Nat → Nat → Nat} {NL : List (Nat × Nat)} {A : Nat → Prop} {rr : Int32} {XX : gM} {N : Nat} (C : gCx p c meth m s args cX10_leaf 7 (some .int) RX10 D cA ad NL A) (hW : gWf NL) (hD0 : gD (fun _ => True) ad NL) : ∀ (p1 : Int32) (p2 : Int32) (p3 : Int32) (p4 : Int32) (p5 : Int32) (s1 : Int32) (X : gM) (H : Heap) (locs : List Loc) (ls : Array Slot), gH D cA ad NL X H → va_S A s.heap H locs → lv_has ls 7 [(0, .ref (ad 43 0)), (1, .int p1), (2, .int p2), (3, .int p3), (4, .int p4), (5, .int p5)] → (43, 0) ∈ NL → (43, 0) ∈ NL → X10_leaf_J60 (gal NL) N p1 p2 p3 p4 p5 s1 X = some (rr, XX) → W p l e rm_X10_leaf s m args below meth c H locs 0 0 (MQ below (gQ D cA ad NL (some (.int rr)) XX A) args s 0 0 A) (F0 m 60 ls [.int s1, .ref (ad 43 0)]) := by
  have hx := C.1
  have hb := C.2.1
  intro p1 p2 p3 p4 p5 s1 X H locs ls hP hS hl ha_l0 ha_s0 hf
  rw [X10_leaf_J60] at hf
  refine r_put C hP hS s1 ha_s0 (ct_43 _ _ _ _) px_X10_122 (fp_43_46 _ _ _ _ _) (Nat.le_of_ble_eq_true rfl) rfl rfl dX10_leaf_60 (fun H locs hP hS => ?_)
  obtain ⟨X1, e2, hf⟩ := gl_in hf
  rw [← e2] at hP
  refine lv_aload_n hx hb dX10_leaf_63 rfl (lv_at hl 0 rfl) ?_
  refine r_get C hP ha_l0 (ct_43 _ _ _ _) fx_X10_122 (fg_43_46 _ _ _) dX10_leaf_64 ?_
  refine lv_if_le (tgt := 72) hx hb dX10_leaf_67 (by decide) (fun c3 => ?_) (fun c3 => ?_)
  · have hf := g_ip c3 hf
    refine lv_aload_n hx hb dX10_leaf_72 rfl (lv_at hl 0 rfl) ?_
    refine lv_iload_n hx hb dX10_leaf_73 rfl (lv_at hl 1 rfl) ?_
    obtain ⟨r4, X5, h6, hf⟩ := b2_in hf
    refine r_cVi (rest := []) C hP hS hl.1 (s_X10_leavesOf hW hD0 ha_l0 h6) ix_X10_leavesOf iv_X10_leavesOf lk_X10_137 ⟨rfl, rfl, Nat.le_of_ble_eq_true rfl, Nat.le_of_ble_eq_true rfl⟩ ha_l0 (ct_43 _ _ _ _) rfl rfl rfl rfl (Nat.le_of_ble_eq_true rfl) ⟨Nat.zero_le _, Nat.zero_le _⟩ dX10_leaf_74 (fun H locs hP hS => ?_)
    refine lv_istore (i := 6) (lv' := [(6, .int r4), (0, .ref (ad 43 0)), (1, .int p1), (2, .int p2), (3, .int p3), (4, .int p4), (5, .int p5)]) hx hb dX10_leaf_77 hl (Nat.le_of_ble_eq_true rfl) rfl (fun ls hl => ?_)
    refine lv_aload_n hx hb dX10_leaf_79 rfl (lv_at hl 1 rfl) ?_
    refine lv_aload_n hx hb dX10_leaf_80 rfl (lv_at hl 1 rfl) ?_
    refine r_get C hP ha_l0 (ct_43 _ _ _ _) fx_X10_126 (fg_43_0 _ _ _) dX10_leaf_81 ?_
    refine lv_bipush (v := 10) hx hb dX10_leaf_84 (by decide) ?_
    refine lv_icmp_eq (tgt := 109) hx hb dX10_leaf_86 (by decide) (fun c7 => ?_) (fun c7 => ?_)
    · have hf := g_ip c7 hf
      exact s_X10_leaf_J109 C hW hD0 p1 p2 p3 p4 p5 X5 _ _ _ hP hS (lv_sub hl [1, 2, 3, 4, 5, 6] rfl) ha_l0 ha_l0 hf
    · have hf := g_in c7 hf
      refine lv_iload hx hb dX10_leaf_89 (lv_at hl 0 rfl) ?_
      refine lv_bipush (v := 6) hx hb dX10_leaf_91 (by decide) ?_
      refine lv_icmp_eq (tgt := 109) hx hb dX10_leaf_93 (by decide) (fun c8 => ?_) (fun c8 => ?_)
      · have hf := g_ip c8 hf
        exact s_X10_leaf_J109 C hW hD0 p1 p2 p3 p4 p5 X5 _ _ _ hP hS (lv_sub hl [1, 2, 3, 4, 5, 6] rfl) ha_l0 ha_l0 hf
      · have hf := g_in c8 hf
        refine lv_iload hx hb dX10_leaf_96 (lv_at hl 0 rfl) ?_
        refine lv_iconst (v := 2) hx hb dX10_leaf_98 (by decide) ?_
        refine lv_aload_n hx hb dX10_leaf_99 rfl (lv_at hl 1 rfl) ?_
        refine r_get C hP ha_l0 (ct_43 _ _ _ _) fx_X10_37 (fg_43_10 _ _ _) dX10_leaf_100 ?_
        refine lv_iload_n hx hb dX10_leaf_103 rfl (lv_at hl 2 rfl) ?_
        obtain ⟨j9, h10, hf⟩ := rd_in hf
        refine r_iald C hP (gs_43_10 hW ha_l0) (ct_53 _ _ _ _) h10 dX10_leaf_104 ?_
        refine lv_imul hx hb dX10_leaf_105 ?_
        refine lv_icmp_ne (tgt := 113) hx hb dX10_leaf_106 (by decide) (fun c11 => ?_) (fun c11 => ?_)
        · have hf := g_in c11 hf
          refine lv_iconst (v := 0) hx hb dX10_leaf_113 (by decide) ?_
          exact s_X10_leaf_J114 C hW hD0 p1 p2 p3 p4 p5 (0 : Int32) X5 _ _ _ hP hS (lv_sub hl [1, 2, 3, 4, 5, 6] rfl) ha_l0 ha_l0 hf
        · have hf := g_ip c11 hf
          exact s_X10_leaf_J109 C hW hD0 p1 p2 p3 p4 p5 X5 _ _ _ hP hS (lv_sub hl [1, 2, 3, 4, 5, 6] rfl) ha_l0 ha_l0 hf
  · have hf := g_in c3 hf
    refine lv_iconst (v := 0) hx hb dX10_leaf_70 (by decide) ?_
    obtain ⟨rfl, rfl⟩ := g_s1 hf
    exact r_iret C hP hS dX10_leaf_71

set_option maxRecDepth 100000 in
set_option maxHeartbeats 4000000 in
theorem s_X10_leaf_J55 {p : Program} {l : Launch} {e : Env} {s : State} {m : MethodId} {args : Array Value} {below : List Frame} {meth : Method} {c : Code} {D : va_G} {cA : Nat → ClassId} {ad : Nat → Nat → Nat} {NL : List (Nat × Nat)} {A : Nat → Prop} {rr : Int32} {XX : gM} {N : Nat} (C : gCx p c meth m s args cX10_leaf 7 (some .int) RX10 D cA ad NL A) (hW : gWf NL) (hD0 : gD (fun _ => True) ad NL) : ∀ (p1 : Int32) (p2 : Int32) (p3 : Int32) (p4 : Int32) (p5 : Int32) (X : gM) (H : Heap) (locs : List Loc) (ls : Array Slot), gH D cA ad NL X H → va_S A s.heap H locs → lv_has ls 7 [(0, .ref (ad 43 0)), (1, .int p1), (2, .int p2), (3, .int p3), (4, .int p4), (5, .int p5)] → (43, 0) ∈ NL → (43, 0) ∈ NL → X10_leaf_J55 (gal NL) N p1 p2 p3 p4 p5 X = some (rr, XX) → W p l e rm_X10_leaf s m args below meth c H locs 0 0 (MQ below (gQ D cA ad NL (some (.int rr)) XX A) args s 0 0 A) (F0 m 55 ls [.ref (ad 43 0)]) := by
  have hx := C.1
  have hb := C.2.1
  intro p1 p2 p3 p4 p5 X H locs ls hP hS hl ha_l0 ha_s0 hf
  rw [X10_leaf_J55] at hf
  refine lv_iconst (v := 2) hx hb dX10_leaf_55 (by decide) ?_
  refine lv_goto (tgt := 60) hx hb dX10_leaf_56 (by decide) ?_
  exact s_X10_leaf_J60 C hW hD0 p1 p2 p3 p4 p5 (2 : Int32) X _ _ _ hP hS (lv_sub hl [0, 1, 2, 3, 4, 5] rfl) ha_l0 ha_s0 hf

set_option maxRecDepth 100000 in
set_option maxHeartbeats 4000000 in
theorem w_X10_leaf {p : Program} {l : Launch} {e : Env} {s : State} {m : MethodId} {args : Array Value} {below : List Frame} {meth : Method} {c : Code} {D : va_G} {cA : Nat → ClassId} {ad : Nat → Nat → Nat} {NL : List (Nat × Nat)} {A : Nat → Prop} {rr : Int32} {XX : gM} {N : Nat} (C : gCx p c meth m s args cX10_leaf 7 (some .int) RX10 D cA ad NL A) (hW : gWf NL) (hD0 : gD (fun _ => True) ad NL) {p1 : Int32} {p2 : Int32} {p3 : Int32} {p4 : Int32} {p5 : Int32} (ha_l0 : (43, 0) ∈ NL) : ∀ (X : gM) (H : Heap) (locs : List Loc) (ls : Array Slot), gH D cA ad NL X H → va_S A s.heap H locs → lv_has ls 7 [(0, .ref (ad 43 0)), (1, .int p1), (2, .int p2), (3, .int p3), (4, .int p4), (5, .int p5)] → X10_leaf (gal NL) N p1 p2 p3 p4 p5 X = some (rr, XX) → W p l e rm_X10_leaf s m args below meth c H locs 0 0 (MQ below (gQ D cA ad NL (some (.int rr)) XX A) args s 0 0 A) (F0 m 0 ls []) := by
  have hx := C.1
  have hb := C.2.1
  intro X H locs ls hP hS hl hf
  rw [X10_leaf] at hf
  refine lv_aload_n hx hb dX10_leaf_0 rfl (lv_at hl 0 rfl) ?_
  refine lv_iload_n hx hb dX10_leaf_1 rfl (lv_at hl 1 rfl) ?_
  refine lv_iconst (v := 0) hx hb dX10_leaf_2 (by decide) ?_
  refine lv_iconst (v := 1) hx hb dX10_leaf_3 (by decide) ?_
  obtain ⟨r1, X2, h3, hf⟩ := b2_in hf
  refine r_cSi (rest := [.ref (ad 43 0)]) C hP hS hl.1 (s_X10_in hW hD0  h3) ix_X10_in is_X10_in ls_X10_129 ⟨rfl, rfl, Nat.le_of_ble_eq_true rfl, Nat.le_of_ble_eq_true rfl⟩ rfl rfl (Nat.le_of_ble_eq_true rfl) ⟨Nat.zero_le _, Nat.zero_le _⟩ dX10_leaf_4 (fun H locs hP hS => ?_)
  refine lv_if_ne (tgt := 14) hx hb dX10_leaf_7 (by decide) (fun c4 => ?_) (fun c4 => ?_)
  · have hf := g_in c4 hf
    refine lv_iload_n hx hb dX10_leaf_14 rfl (lv_at hl 2 rfl) ?_
    refine lv_iconst (v := 1) hx hb dX10_leaf_15 (by decide) ?_
    refine lv_iconst (v := 4) hx hb dX10_leaf_16 (by decide) ?_
    obtain ⟨r5, X6, h7, hf⟩ := b2_in hf
    refine r_cSi (rest := [.ref (ad 43 0)]) C hP hS hl.1 (s_X10_in hW hD0  h7) ix_X10_in is_X10_in ls_X10_129 ⟨rfl, rfl, Nat.le_of_ble_eq_true rfl, Nat.le_of_ble_eq_true rfl⟩ rfl rfl (Nat.le_of_ble_eq_true rfl) ⟨Nat.zero_le _, Nat.zero_le _⟩ dX10_leaf_17 (fun H locs hP hS => ?_)
    refine lv_if_eq (tgt := 55) hx hb dX10_leaf_20 (by decide) (fun c8 => ?_) (fun c8 => ?_)
    · have hf := g_ip c8 hf
      exact s_X10_leaf_J55 C hW hD0 p1 p2 p3 p4 p5 X6 _ _ _ hP hS (lv_sub hl [0, 1, 2, 3, 4, 5] rfl) ha_l0 ha_l0 hf
    · have hf := g_in c8 hf
      refine lv_iload_n hx hb dX10_leaf_23 rfl (lv_at hl 3 rfl) ?_
      refine lv_iconst (v := 1) hx hb dX10_leaf_24 (by decide) ?_
      refine lv_bipush (v := 8) hx hb dX10_leaf_25 (by decide) ?_
      obtain ⟨r9, X10, h11, hf⟩ := b2_in hf
      refine r_cSi (rest := [.ref (ad 43 0)]) C hP hS hl.1 (s_X10_in hW hD0  h11) ix_X10_in is_X10_in ls_X10_129 ⟨rfl, rfl, Nat.le_of_ble_eq_true rfl, Nat.le_of_ble_eq_true rfl⟩ rfl rfl (Nat.le_of_ble_eq_true rfl) ⟨Nat.zero_le _, Nat.zero_le _⟩ dX10_leaf_27 (fun H locs hP hS => ?_)
      refine lv_if_eq (tgt := 55) hx hb dX10_leaf_30 (by decide) (fun c12 => ?_) (fun c12 => ?_)
      · have hf := g_ip c12 hf
        exact s_X10_leaf_J55 C hW hD0 p1 p2 p3 p4 p5 X10 _ _ _ hP hS (lv_sub hl [0, 1, 2, 3, 4, 5] rfl) ha_l0 ha_l0 hf
      · have hf := g_in c12 hf
        refine lv_iload hx hb dX10_leaf_33 (lv_at hl 4 rfl) ?_
        refine lv_iconst (v := -1) hx hb dX10_leaf_35 (by decide) ?_
        refine lv_iconst (v := 1) hx hb dX10_leaf_36 (by decide) ?_
        obtain ⟨r13, X14, h15, hf⟩ := b2_in hf
        refine r_cSi (rest := [.ref (ad 43 0)]) C hP hS hl.1 (s_X10_in hW hD0  h15) ix_X10_in is_X10_in ls_X10_129 ⟨rfl, rfl, Nat.le_of_ble_eq_true rfl, Nat.le_of_ble_eq_true rfl⟩ rfl rfl (Nat.le_of_ble_eq_true rfl) ⟨Nat.zero_le _, Nat.zero_le _⟩ dX10_leaf_37 (fun H locs hP hS => ?_)
        refine lv_if_eq (tgt := 55) hx hb dX10_leaf_40 (by decide) (fun c16 => ?_) (fun c16 => ?_)
        · have hf := g_ip c16 hf
          exact s_X10_leaf_J55 C hW hD0 p1 p2 p3 p4 p5 X14 _ _ _ hP hS (lv_sub hl [0, 1, 2, 3, 4, 5] rfl) ha_l0 ha_l0 hf
        · have hf := g_in c16 hf
          refine lv_iload hx hb dX10_leaf_43 (lv_at hl 5 rfl) ?_
          refine lv_iconst (v := 0) hx hb dX10_leaf_45 (by decide) ?_
          refine lv_sipush (v := 255) hx hb dX10_leaf_46 (by decide) ?_
          obtain ⟨r17, X18, h19, hf⟩ := b2_in hf
          refine r_cSi (rest := [.ref (ad 43 0)]) C hP hS hl.1 (s_X10_in hW hD0  h19) ix_X10_in is_X10_in ls_X10_129 ⟨rfl, rfl, Nat.le_of_ble_eq_true rfl, Nat.le_of_ble_eq_true rfl⟩ rfl rfl (Nat.le_of_ble_eq_true rfl) ⟨Nat.zero_le _, Nat.zero_le _⟩ dX10_leaf_49 (fun H locs hP hS => ?_)
          refine lv_if_ne (tgt := 59) hx hb dX10_leaf_52 (by decide) (fun c20 => ?_) (fun c20 => ?_)
          · have hf := g_in c20 hf
            refine lv_iconst (v := 0) hx hb dX10_leaf_59 (by decide) ?_
            exact s_X10_leaf_J60 C hW hD0 p1 p2 p3 p4 p5 (0 : Int32) X18 _ _ _ hP hS (lv_sub hl [0, 1, 2, 3, 4, 5] rfl) ha_l0 ha_l0 hf
          · have hf := g_ip c20 hf
            exact s_X10_leaf_J55 C hW hD0 p1 p2 p3 p4 p5 X18 _ _ _ hP hS (lv_sub hl [0, 1, 2, 3, 4, 5] rfl) ha_l0 ha_l0 hf
  · have hf := g_ip c4 hf
    refine lv_iconst (v := 1) hx hb dX10_leaf_10 (by decide) ?_
    refine lv_goto (tgt := 60) hx hb dX10_leaf_11 (by decide) ?_
    exact s_X10_leaf_J60 C hW hD0 p1 p2 p3 p4 p5 (1 : Int32) X2 _ _ _ hP hS (lv_sub hl [0, 1, 2, 3, 4, 5] rfl) ha_l0 ha_l0 hf

theorem s_X10_leaf {l : Launch} {D : va_G} {cA : Nat → ClassId} {ad : Nat → Nat → Nat} {NL : List (Nat × Nat)} {N : Nat} {p1 : Int32} {p2 : Int32} {p3 : Int32} {p4 : Int32} {p5 : Int32} {X : gM} {rr : Int32} {XX : gM} (hW : gWf NL) (hD0 : gD (fun _ => True) ad NL) (ha_l0 : (43, 0) ∈ NL) (hf : X10_leaf (gal NL) N p1 p2 p3 p4 p5 X = some (rr, XX)) : gC l yX10_leaf cX10_leaf 7 (some .int) rm_X10_leaf D cA ad NL [.ref (ad 43 0), .int p1, .int p2, .int p3, .int p4, .int p5] X (some (.int rr)) XX :=
  g_ofW (by decide) hD0 (Nat.le_of_ble_eq_true rfl) rfl (fun p e s m below meth c ls C hP hS hl => w_X10_leaf C hW hD0 ha_l0 X _ _ ls hP hS hl hf)
def rm_X10_sheets : Room := { frames := 1, cells := 0, slots := 0, locals := 23 }
set_option maxRecDepth 100000 in
set_option maxHeartbeats 4000000 in
theorem s_X10_sheets_J43 {p : Program} {l : Launch} {e : Env} {s : State} {m : MethodId} {args : Array Value} {below : List Frame} {meth : Method} {c : Code} {D : va_G} {cA : Nat → ClassId} {ad : Nat → Nat → Nat} {NL : List (Nat × Nat)} {A : Nat → Prop} {rr : Int32} {XX : gM} {N : Nat} (C : gCx p c meth m s args cX10_sheets 4 (some .int) RX10 D cA ad NL A) (hW : gWf NL) (hD0 : gD (fun _ => True) ad NL) : ∀ (p1 : Int32) (p2 : Int32) (s1 : Int32) (X : gM) (H : Heap) (locs : List Loc) (ls : Array Slot), gH D cA ad NL X H → va_S A s.heap H locs → lv_has ls 4 [(0, .ref (ad 43 0)), (1, .int p1), (2, .int p2)] → (43, 0) ∈ NL → (43, 0) ∈ NL → X10_sheets_J43 (gal NL) N p1 p2 s1 X = some (rr, XX) → W p l e rm_X10_sheets s m args below meth c H locs 0 0 (MQ below (gQ D cA ad NL (some (.int rr)) XX A) args s 0 0 A) (F0 m 43 ls [.int s1, .ref (ad 43 0)]) := by
  have hx := C.1
  have hb := C.2.1
  intro p1 p2 s1 X H locs ls hP hS hl ha_l0 ha_s0 hf
  rw [X10_sheets_J43] at hf
  refine r_put C hP hS s1 ha_s0 (ct_43 _ _ _ _) px_X10_122 (fp_43_46 _ _ _ _ _) (Nat.le_of_ble_eq_true rfl) rfl rfl dX10_sheets_43 (fun H locs hP hS => ?_)
  obtain ⟨X1, e2, hf⟩ := gl_in hf
  rw [← e2] at hP
  refine lv_aload_n hx hb dX10_sheets_46 rfl (lv_at hl 0 rfl) ?_
  refine r_get C hP ha_l0 (ct_43 _ _ _ _) fx_X10_122 (fg_43_46 _ _ _) dX10_sheets_47 ?_
  refine lv_if_le (tgt := 55) hx hb dX10_sheets_50 (by decide) (fun c3 => ?_) (fun c3 => ?_)
  · have hf := g_ip c3 hf
    refine lv_aload_n hx hb dX10_sheets_55 rfl (lv_at hl 0 rfl) ?_
    refine r_get C hP ha_l0 (ct_43 _ _ _ _) fx_X10_37 (fg_43_10 _ _ _) dX10_sheets_56 ?_
    refine lv_iload_n hx hb dX10_sheets_59 rfl (lv_at hl 1 rfl) ?_
    obtain ⟨j4, h5, hf⟩ := rd_in hf
    refine r_iald C hP (gs_43_10 hW ha_l0) (ct_53 _ _ _ _) h5 dX10_sheets_60 ?_
    refine g_top hf (fun v6 e7 hf => ?_)
    refine lv_istore_n (i := 3) (lv' := [(3, .int v6), (0, .ref (ad 43 0)), (1, .int p1), (2, .int p2)]) hx hb dX10_sheets_61 rfl hl (Nat.le_of_ble_eq_true rfl) rfl (fun ls hl => ?_)
    refine lv_aload_n hx hb dX10_sheets_62 rfl (lv_at hl 1 rfl) ?_
    refine r_get C hP ha_l0 (ct_43 _ _ _ _) fx_X10_37 (fg_43_10 _ _ _) dX10_sheets_63 ?_
    refine lv_iload_n hx hb dX10_sheets_66 rfl (lv_at hl 2 rfl) ?_
    refine lv_iload_n hx hb dX10_sheets_67 rfl (lv_at hl 3 rfl) ?_
    obtain ⟨j8, h9, hf⟩ := rd_in hf
    refine r_iast C hP hS (gs_43_10 hW ha_l0) (fun _ => ct_53 _ _ _ _) h9 dX10_sheets_68 (fun H locs hP hS => ?_)
    obtain ⟨X10, e11, hf⟩ := gl_in hf
    rw [← e11] at hP
    refine lv_iload_n hx hb dX10_sheets_69 rfl (lv_at hl 0 rfl) ?_
    obtain ⟨rfl, rfl⟩ := g_s1 hf
    exact r_iret C hP hS dX10_sheets_70
  · have hf := g_in c3 hf
    refine lv_iconst (v := 0) hx hb dX10_sheets_53 (by decide) ?_
    obtain ⟨rfl, rfl⟩ := g_s1 hf
    exact r_iret C hP hS dX10_sheets_54

set_option maxRecDepth 100000 in
set_option maxHeartbeats 4000000 in
theorem w_X10_sheets {p : Program} {l : Launch} {e : Env} {s : State} {m : MethodId} {args : Array Value} {below : List Frame} {meth : Method} {c : Code} {D : va_G} {cA : Nat → ClassId} {ad : Nat → Nat → Nat} {NL : List (Nat × Nat)} {A : Nat → Prop} {rr : Int32} {XX : gM} {N : Nat} (C : gCx p c meth m s args cX10_sheets 4 (some .int) RX10 D cA ad NL A) (hW : gWf NL) (hD0 : gD (fun _ => True) ad NL) {p1 : Int32} {p2 : Int32} (ha_l0 : (43, 0) ∈ NL) : ∀ (X : gM) (H : Heap) (locs : List Loc) (ls : Array Slot), gH D cA ad NL X H → va_S A s.heap H locs → lv_has ls 4 [(0, .ref (ad 43 0)), (1, .int p1), (2, .int p2)] → X10_sheets (gal NL) N p1 p2 X = some (rr, XX) → W p l e rm_X10_sheets s m args below meth c H locs 0 0 (MQ below (gQ D cA ad NL (some (.int rr)) XX A) args s 0 0 A) (F0 m 0 ls []) := by
  have hx := C.1
  have hb := C.2.1
  intro X H locs ls hP hS hl hf
  rw [X10_sheets] at hf
  refine lv_aload_n hx hb dX10_sheets_0 rfl (lv_at hl 0 rfl) ?_
  refine lv_iload_n hx hb dX10_sheets_1 rfl (lv_at hl 1 rfl) ?_
  refine lv_iconst (v := 0) hx hb dX10_sheets_2 (by decide) ?_
  refine lv_iconst (v := 1) hx hb dX10_sheets_3 (by decide) ?_
  obtain ⟨r1, X2, h3, hf⟩ := b2_in hf
  refine r_cSi (rest := [.ref (ad 43 0)]) C hP hS hl.1 (s_X10_in hW hD0  h3) ix_X10_in is_X10_in ls_X10_129 ⟨rfl, rfl, Nat.le_of_ble_eq_true rfl, Nat.le_of_ble_eq_true rfl⟩ rfl rfl (Nat.le_of_ble_eq_true rfl) ⟨Nat.zero_le _, Nat.zero_le _⟩ dX10_sheets_4 (fun H locs hP hS => ?_)
  refine lv_if_ne (tgt := 14) hx hb dX10_sheets_7 (by decide) (fun c4 => ?_) (fun c4 => ?_)
  · have hf := g_in c4 hf
    refine lv_iload_n hx hb dX10_sheets_14 rfl (lv_at hl 2 rfl) ?_
    refine lv_iconst (v := 1) hx hb dX10_sheets_15 (by decide) ?_
    refine lv_iconst (v := 4) hx hb dX10_sheets_16 (by decide) ?_
    obtain ⟨r5, X6, h7, hf⟩ := b2_in hf
    refine r_cSi (rest := [.ref (ad 43 0)]) C hP hS hl.1 (s_X10_in hW hD0  h7) ix_X10_in is_X10_in ls_X10_129 ⟨rfl, rfl, Nat.le_of_ble_eq_true rfl, Nat.le_of_ble_eq_true rfl⟩ rfl rfl (Nat.le_of_ble_eq_true rfl) ⟨Nat.zero_le _, Nat.zero_le _⟩ dX10_sheets_17 (fun H locs hP hS => ?_)
    refine lv_if_ne (tgt := 27) hx hb dX10_sheets_20 (by decide) (fun c8 => ?_) (fun c8 => ?_)
    · have hf := g_in c8 hf
      refine lv_aload_n hx hb dX10_sheets_27 rfl (lv_at hl 0 rfl) ?_
      refine lv_iload_n hx hb dX10_sheets_28 rfl (lv_at hl 1 rfl) ?_
      obtain ⟨r9, X10, h11, hf⟩ := b2_in hf
      refine r_cVi (rest := [.ref (ad 43 0)]) C hP hS hl.1 (s_X10_leavesOf hW hD0 ha_l0 h11) ix_X10_leavesOf iv_X10_leavesOf lk_X10_137 ⟨rfl, rfl, Nat.le_of_ble_eq_true rfl, Nat.le_of_ble_eq_true rfl⟩ ha_l0 (ct_43 _ _ _ _) rfl rfl rfl rfl (Nat.le_of_ble_eq_true rfl) ⟨Nat.zero_le _, Nat.zero_le _⟩ dX10_sheets_29 (fun H locs hP hS => ?_)
      refine lv_iconst (v := 2) hx hb dX10_sheets_32 (by decide) ?_
      refine lv_iload_n hx hb dX10_sheets_33 rfl (lv_at hl 2 rfl) ?_
      refine lv_imul hx hb dX10_sheets_34 ?_
      refine lv_icmp_le (tgt := 42) hx hb dX10_sheets_35 (by decide) (fun c12 => ?_) (fun c12 => ?_)
      · have hf := g_ip c12 hf
        refine lv_iconst (v := 0) hx hb dX10_sheets_42 (by decide) ?_
        exact s_X10_sheets_J43 C hW hD0 p1 p2 (0 : Int32) X10 _ _ _ hP hS (lv_sub hl [0, 1, 2] rfl) ha_l0 ha_l0 hf
      · have hf := g_in c12 hf
        refine lv_iconst (v := 3) hx hb dX10_sheets_38 (by decide) ?_
        refine lv_goto (tgt := 43) hx hb dX10_sheets_39 (by decide) ?_
        exact s_X10_sheets_J43 C hW hD0 p1 p2 (3 : Int32) X10 _ _ _ hP hS (lv_sub hl [0, 1, 2] rfl) ha_l0 ha_l0 hf
    · have hf := g_ip c8 hf
      refine lv_iconst (v := 2) hx hb dX10_sheets_23 (by decide) ?_
      refine lv_goto (tgt := 43) hx hb dX10_sheets_24 (by decide) ?_
      exact s_X10_sheets_J43 C hW hD0 p1 p2 (2 : Int32) X6 _ _ _ hP hS (lv_sub hl [0, 1, 2] rfl) ha_l0 ha_l0 hf
  · have hf := g_ip c4 hf
    refine lv_iconst (v := 1) hx hb dX10_sheets_10 (by decide) ?_
    refine lv_goto (tgt := 43) hx hb dX10_sheets_11 (by decide) ?_
    exact s_X10_sheets_J43 C hW hD0 p1 p2 (1 : Int32) X2 _ _ _ hP hS (lv_sub hl [0, 1, 2] rfl) ha_l0 ha_l0 hf

theorem s_X10_sheets {l : Launch} {D : va_G} {cA : Nat → ClassId} {ad : Nat → Nat → Nat} {NL : List (Nat × Nat)} {N : Nat} {p1 : Int32} {p2 : Int32} {X : gM} {rr : Int32} {XX : gM} (hW : gWf NL) (hD0 : gD (fun _ => True) ad NL) (ha_l0 : (43, 0) ∈ NL) (hf : X10_sheets (gal NL) N p1 p2 X = some (rr, XX)) : gC l yX10_sheets cX10_sheets 4 (some .int) rm_X10_sheets D cA ad NL [.ref (ad 43 0), .int p1, .int p2] X (some (.int rr)) XX :=
  g_ofW (by decide) hD0 (Nat.le_of_ble_eq_true rfl) rfl (fun p e s m below meth c ls C hP hS hl => w_X10_sheets C hW hD0 ha_l0 X _ _ ls hP hS hl hf)
def rm_X10_light : Room := { frames := 1, cells := 0, slots := 0, locals := 22 }
set_option maxRecDepth 100000 in
set_option maxHeartbeats 4000000 in
theorem s_X10_light_J63 {p : Program} {l : Launch} {e : Env} {s : State} {m : MethodId} {args : Array Value} {below : List Frame} {meth : Method} {c : Code} {D : va_G} {cA : Nat → ClassId} {ad : Nat → Nat → Nat} {NL : List (Nat × Nat)} {A : Nat → Prop} {rr : Int32} {XX : gM} {N : Nat} (C : gCx p c meth m s args cX10_light 4 none RX10 D cA ad NL A) (hW : gWf NL) (hD0 : gD (fun _ => True) ad NL) : ∀ (X : gM) (H : Heap) (locs : List Loc) (ls : Array Slot), gH D cA ad NL X H → va_S A s.heap H locs → lv_has ls 4 [] → X10_light_J63 (gal NL) N X = some (rr, XX) → W p l e rm_X10_light s m args below meth c H locs 0 0 (MQ below (gQ D cA ad NL none XX A) args s 0 0 A) (F0 m 63 ls []) := by
  have hx := C.1
  have hb := C.2.1
  intro X H locs ls hP hS hl hf
  rw [X10_light_J63] at hf
  obtain ⟨rfl, rfl⟩ := g_s1 hf
  exact r_vret C hP hS dX10_light_63

set_option maxRecDepth 100000 in
set_option maxHeartbeats 4000000 in
theorem s_X10_light_J39 {p : Program} {l : Launch} {e : Env} {s : State} {m : MethodId} {args : Array Value} {below : List Frame} {meth : Method} {c : Code} {D : va_G} {cA : Nat → ClassId} {ad : Nat → Nat → Nat} {NL : List (Nat × Nat)} {A : Nat → Prop} {rr : Int32} {XX : gM} {N : Nat} (C : gCx p c meth m s args cX10_light 4 none RX10 D cA ad NL A) (hW : gWf NL) (hD0 : gD (fun _ => True) ad NL) : ∀ (p1 : Int32) (p2 : Int32) (p3 : Int32) (s1 : Int32) (X : gM) (H : Heap) (locs : List Loc) (ls : Array Slot), gH D cA ad NL X H → va_S A s.heap H locs → lv_has ls 4 [(0, .ref (ad 43 0)), (1, .int p1), (2, .int p2), (3, .int p3)] → (43, 0) ∈ NL → (43, 0) ∈ NL → X10_light_J39 (gal NL) N p1 p2 p3 s1 X = some (rr, XX) → W p l e rm_X10_light s m args below meth c H locs 0 0 (MQ below (gQ D cA ad NL none XX A) args s 0 0 A) (F0 m 39 ls [.int s1, .ref (ad 43 0)]) := by
  have hx := C.1
  have hb := C.2.1
  intro p1 p2 p3 s1 X H locs ls hP hS hl ha_l0 ha_s0 hf
  rw [X10_light_J39] at hf
  refine r_put C hP hS s1 ha_s0 (ct_43 _ _ _ _) px_X10_122 (fp_43_46 _ _ _ _ _) (Nat.le_of_ble_eq_true rfl) rfl rfl dX10_light_39 (fun H locs hP hS => ?_)
  obtain ⟨X1, e2, hf⟩ := gl_in hf
  rw [← e2] at hP
  refine lv_aload_n hx hb dX10_light_42 rfl (lv_at hl 0 rfl) ?_
  refine r_get C hP ha_l0 (ct_43 _ _ _ _) fx_X10_122 (fg_43_46 _ _ _) dX10_light_43 ?_
  refine lv_if_ne (tgt := 63) hx hb dX10_light_46 (by decide) (fun c3 => ?_) (fun c3 => ?_)
  · have hf := g_in c3 hf
    exact s_X10_light_J63 C hW hD0 X1 _ _ _ hP hS (lv_sub hl [] rfl) hf
  · have hf := g_ip c3 hf
    refine lv_aload_n hx hb dX10_light_49 rfl (lv_at hl 0 rfl) ?_
    refine r_get C hP ha_l0 (ct_43 _ _ _ _) fx_X10_40 (fg_43_11 _ _ _) dX10_light_50 ?_
    refine lv_iload_n hx hb dX10_light_53 rfl (lv_at hl 1 rfl) ?_
    refine lv_iload_n hx hb dX10_light_54 rfl (lv_at hl 2 rfl) ?_
    obtain ⟨j4, h5, hf⟩ := rd_in hf
    refine r_iast C hP hS (gs_43_11 hW ha_l0) (fun _ => ct_54 _ _ _ _) h5 dX10_light_55 (fun H locs hP hS => ?_)
    obtain ⟨X6, e7, hf⟩ := gl_in hf
    rw [← e7] at hP
    refine lv_aload_n hx hb dX10_light_56 rfl (lv_at hl 0 rfl) ?_
    refine r_get C hP ha_l0 (ct_43 _ _ _ _) fx_X10_43 (fg_43_12 _ _ _) dX10_light_57 ?_
    refine lv_iload_n hx hb dX10_light_60 rfl (lv_at hl 1 rfl) ?_
    refine lv_iload_n hx hb dX10_light_61 rfl (lv_at hl 3 rfl) ?_
    obtain ⟨j8, h9, hf⟩ := rd_in hf
    refine r_iast C hP hS (gs_43_12 hW ha_l0) (fun _ => ct_55 _ _ _ _) h9 dX10_light_62 (fun H locs hP hS => ?_)
    obtain ⟨X10, e11, hf⟩ := gl_in hf
    rw [← e11] at hP
    exact s_X10_light_J63 C hW hD0 X10 _ _ _ hP hS (lv_sub hl [] rfl) hf

set_option maxRecDepth 100000 in
set_option maxHeartbeats 4000000 in
theorem s_X10_light_J34 {p : Program} {l : Launch} {e : Env} {s : State} {m : MethodId} {args : Array Value} {below : List Frame} {meth : Method} {c : Code} {D : va_G} {cA : Nat → ClassId} {ad : Nat → Nat → Nat} {NL : List (Nat × Nat)} {A : Nat → Prop} {rr : Int32} {XX : gM} {N : Nat} (C : gCx p c meth m s args cX10_light 4 none RX10 D cA ad NL A) (hW : gWf NL) (hD0 : gD (fun _ => True) ad NL) : ∀ (p1 : Int32) (p2 : Int32) (p3 : Int32) (X : gM) (H : Heap) (locs : List Loc) (ls : Array Slot), gH D cA ad NL X H → va_S A s.heap H locs → lv_has ls 4 [(0, .ref (ad 43 0)), (1, .int p1), (2, .int p2), (3, .int p3)] → (43, 0) ∈ NL → (43, 0) ∈ NL → X10_light_J34 (gal NL) N p1 p2 p3 X = some (rr, XX) → W p l e rm_X10_light s m args below meth c H locs 0 0 (MQ below (gQ D cA ad NL none XX A) args s 0 0 A) (F0 m 34 ls [.ref (ad 43 0)]) := by
  have hx := C.1
  have hb := C.2.1
  intro p1 p2 p3 X H locs ls hP hS hl ha_l0 ha_s0 hf
  rw [X10_light_J34] at hf
  refine lv_iconst (v := 2) hx hb dX10_light_34 (by decide) ?_
  refine lv_goto (tgt := 39) hx hb dX10_light_35 (by decide) ?_
  exact s_X10_light_J39 C hW hD0 p1 p2 p3 (2 : Int32) X _ _ _ hP hS (lv_sub hl [0, 1, 2, 3] rfl) ha_l0 ha_s0 hf

set_option maxRecDepth 100000 in
set_option maxHeartbeats 4000000 in
theorem w_X10_light {p : Program} {l : Launch} {e : Env} {s : State} {m : MethodId} {args : Array Value} {below : List Frame} {meth : Method} {c : Code} {D : va_G} {cA : Nat → ClassId} {ad : Nat → Nat → Nat} {NL : List (Nat × Nat)} {A : Nat → Prop} {rr : Int32} {XX : gM} {N : Nat} (C : gCx p c meth m s args cX10_light 4 none RX10 D cA ad NL A) (hW : gWf NL) (hD0 : gD (fun _ => True) ad NL) {p1 : Int32} {p2 : Int32} {p3 : Int32} (ha_l0 : (43, 0) ∈ NL) : ∀ (X : gM) (H : Heap) (locs : List Loc) (ls : Array Slot), gH D cA ad NL X H → va_S A s.heap H locs → lv_has ls 4 [(0, .ref (ad 43 0)), (1, .int p1), (2, .int p2), (3, .int p3)] → X10_light (gal NL) N p1 p2 p3 X = some (rr, XX) → W p l e rm_X10_light s m args below meth c H locs 0 0 (MQ below (gQ D cA ad NL none XX A) args s 0 0 A) (F0 m 0 ls []) := by
  have hx := C.1
  have hb := C.2.1
  intro X H locs ls hP hS hl hf
  rw [X10_light] at hf
  refine lv_aload_n hx hb dX10_light_0 rfl (lv_at hl 0 rfl) ?_
  refine lv_iload_n hx hb dX10_light_1 rfl (lv_at hl 1 rfl) ?_
  refine lv_iconst (v := 0) hx hb dX10_light_2 (by decide) ?_
  refine lv_iconst (v := 2) hx hb dX10_light_3 (by decide) ?_
  obtain ⟨r1, X2, h3, hf⟩ := b2_in hf
  refine r_cSi (rest := [.ref (ad 43 0)]) C hP hS hl.1 (s_X10_in hW hD0  h3) ix_X10_in is_X10_in ls_X10_129 ⟨rfl, rfl, Nat.le_of_ble_eq_true rfl, Nat.le_of_ble_eq_true rfl⟩ rfl rfl (Nat.le_of_ble_eq_true rfl) ⟨Nat.zero_le _, Nat.zero_le _⟩ dX10_light_4 (fun H locs hP hS => ?_)
  refine lv_if_ne (tgt := 14) hx hb dX10_light_7 (by decide) (fun c4 => ?_) (fun c4 => ?_)
  · have hf := g_in c4 hf
    refine lv_iload_n hx hb dX10_light_14 rfl (lv_at hl 2 rfl) ?_
    refine lv_iconst (v := 0) hx hb dX10_light_15 (by decide) ?_
    refine lv_bipush (v := 9) hx hb dX10_light_16 (by decide) ?_
    obtain ⟨r5, X6, h7, hf⟩ := b2_in hf
    refine r_cSi (rest := [.ref (ad 43 0)]) C hP hS hl.1 (s_X10_in hW hD0  h7) ix_X10_in is_X10_in ls_X10_129 ⟨rfl, rfl, Nat.le_of_ble_eq_true rfl, Nat.le_of_ble_eq_true rfl⟩ rfl rfl (Nat.le_of_ble_eq_true rfl) ⟨Nat.zero_le _, Nat.zero_le _⟩ dX10_light_18 (fun H locs hP hS => ?_)
    refine lv_if_eq (tgt := 34) hx hb dX10_light_21 (by decide) (fun c8 => ?_) (fun c8 => ?_)
    · have hf := g_ip c8 hf
      exact s_X10_light_J34 C hW hD0 p1 p2 p3 X6 _ _ _ hP hS (lv_sub hl [0, 1, 2, 3] rfl) ha_l0 ha_l0 hf
    · have hf := g_in c8 hf
      refine lv_iload_n hx hb dX10_light_24 rfl (lv_at hl 3 rfl) ?_
      refine lv_iconst (v := 0) hx hb dX10_light_25 (by decide) ?_
      refine lv_bipush (v := 9) hx hb dX10_light_26 (by decide) ?_
      obtain ⟨r9, X10, h11, hf⟩ := b2_in hf
      refine r_cSi (rest := [.ref (ad 43 0)]) C hP hS hl.1 (s_X10_in hW hD0  h11) ix_X10_in is_X10_in ls_X10_129 ⟨rfl, rfl, Nat.le_of_ble_eq_true rfl, Nat.le_of_ble_eq_true rfl⟩ rfl rfl (Nat.le_of_ble_eq_true rfl) ⟨Nat.zero_le _, Nat.zero_le _⟩ dX10_light_28 (fun H locs hP hS => ?_)
      refine lv_if_ne (tgt := 38) hx hb dX10_light_31 (by decide) (fun c12 => ?_) (fun c12 => ?_)
      · have hf := g_in c12 hf
        refine lv_iconst (v := 0) hx hb dX10_light_38 (by decide) ?_
        exact s_X10_light_J39 C hW hD0 p1 p2 p3 (0 : Int32) X10 _ _ _ hP hS (lv_sub hl [0, 1, 2, 3] rfl) ha_l0 ha_l0 hf
      · have hf := g_ip c12 hf
        exact s_X10_light_J34 C hW hD0 p1 p2 p3 X10 _ _ _ hP hS (lv_sub hl [0, 1, 2, 3] rfl) ha_l0 ha_l0 hf
  · have hf := g_ip c4 hf
    refine lv_iconst (v := 1) hx hb dX10_light_10 (by decide) ?_
    refine lv_goto (tgt := 39) hx hb dX10_light_11 (by decide) ?_
    exact s_X10_light_J39 C hW hD0 p1 p2 p3 (1 : Int32) X2 _ _ _ hP hS (lv_sub hl [0, 1, 2, 3] rfl) ha_l0 ha_l0 hf

theorem s_X10_light {l : Launch} {D : va_G} {cA : Nat → ClassId} {ad : Nat → Nat → Nat} {NL : List (Nat × Nat)} {N : Nat} {p1 : Int32} {p2 : Int32} {p3 : Int32} {X : gM} {rr : Int32} {XX : gM} (hW : gWf NL) (hD0 : gD (fun _ => True) ad NL) (ha_l0 : (43, 0) ∈ NL) (hf : X10_light (gal NL) N p1 p2 p3 X = some (rr, XX)) : gC l yX10_light cX10_light 4 none rm_X10_light D cA ad NL [.ref (ad 43 0), .int p1, .int p2, .int p3] X none XX :=
  g_ofW (by decide) hD0 (Nat.le_of_ble_eq_true rfl) rfl (fun p e s m below meth c ls C hP hS hl => w_X10_light C hW hD0 ha_l0 X _ _ ls hP hS hl hf)
def rm_X10_unmixes : Room := { frames := 0, cells := 0, slots := 0, locals := 0 }
set_option maxRecDepth 100000 in
set_option maxHeartbeats 4000000 in
theorem s_X10_unmixes_J129 {p : Program} {l : Launch} {e : Env} {s : State} {m : MethodId} {args : Array Value} {below : List Frame} {meth : Method} {c : Code} {D : va_G} {cA : Nat → ClassId} {ad : Nat → Nat → Nat} {NL : List (Nat × Nat)} {A : Nat → Prop} {rr : Int32} {XX : gM} {N : Nat} (C : gCx p c meth m s args cX10_unmixes 7 (some .boolean) RX10 D cA ad NL A) (hW : gWf NL) (hD0 : gD (fun _ => True) ad NL) : ∀ (s0 : Int32) (X : gM) (H : Heap) (locs : List Loc) (ls : Array Slot), gH D cA ad NL X H → va_S A s.heap H locs → lv_has ls 7 [] → X10_unmixes_J129 (gal NL) N s0 X = some (rr, XX) → W p l e rm_X10_unmixes s m args below meth c H locs 0 0 (MQ below (gQ D cA ad NL (some (.int rr)) XX A) args s 0 0 A) (F0 m 129 ls [.int s0]) := by
  have hx := C.1
  have hb := C.2.1
  intro s0 X H locs ls hP hS hl hf
  rw [X10_unmixes_J129] at hf
  obtain ⟨h1, hf⟩ := bz_in hf
  obtain ⟨rfl, rfl⟩ := g_s1 hf
  exact r_zret C hP hS h1 dX10_unmixes_129

set_option maxRecDepth 100000 in
set_option maxHeartbeats 4000000 in
theorem s_X10_unmixes_J119 {p : Program} {l : Launch} {e : Env} {s : State} {m : MethodId} {args : Array Value} {below : List Frame} {meth : Method} {c : Code} {D : va_G} {cA : Nat → ClassId} {ad : Nat → Nat → Nat} {NL : List (Nat × Nat)} {A : Nat → Prop} {rr : Int32} {XX : gM} {N : Nat} (C : gCx p c meth m s args cX10_unmixes 7 (some .boolean) RX10 D cA ad NL A) (hW : gWf NL) (hD0 : gD (fun _ => True) ad NL) : ∀ (p2 : Int32) (X : gM) (H : Heap) (locs : List Loc) (ls : Array Slot), gH D cA ad NL X H → va_S A s.heap H locs → lv_has ls 7 [(2, .int p2)] → X10_unmixes_J119 (gal NL) N p2 X = some (rr, XX) → W p l e rm_X10_unmixes s m args below meth c H locs 0 0 (MQ below (gQ D cA ad NL (some (.int rr)) XX A) args s 0 0 A) (F0 m 119 ls []) := by
  have hx := C.1
  have hb := C.2.1
  intro p2 X H locs ls hP hS hl hf
  rw [X10_unmixes_J119] at hf
  refine lv_iload_n hx hb dX10_unmixes_119 rfl (lv_at hl 0 rfl) ?_
  refine lv_iconst (v := 1) hx hb dX10_unmixes_120 (by decide) ?_
  refine lv_icmp_ne (tgt := 128) hx hb dX10_unmixes_121 (by decide) (fun c1 => ?_) (fun c1 => ?_)
  · have hf := g_in c1 hf
    refine lv_iconst (v := 0) hx hb dX10_unmixes_128 (by decide) ?_
    exact s_X10_unmixes_J129 C hW hD0 (0 : Int32) X _ _ _ hP hS (lv_sub hl [] rfl) hf
  · have hf := g_ip c1 hf
    refine lv_iconst (v := 1) hx hb dX10_unmixes_124 (by decide) ?_
    refine lv_goto (tgt := 129) hx hb dX10_unmixes_125 (by decide) ?_
    exact s_X10_unmixes_J129 C hW hD0 (1 : Int32) X _ _ _ hP hS (lv_sub hl [] rfl) hf

set_option maxRecDepth 100000 in
set_option maxHeartbeats 4000000 in
theorem s_X10_unmixes_J113 {p : Program} {l : Launch} {e : Env} {s : State} {m : MethodId} {args : Array Value} {below : List Frame} {meth : Method} {c : Code} {D : va_G} {cA : Nat → ClassId} {ad : Nat → Nat → Nat} {NL : List (Nat × Nat)} {A : Nat → Prop} {rr : Int32} {XX : gM} {N : Nat} {kk : Int32 → Int32 → Int32 → gM → Option (Int32 × gM)} {k119 : Int32 → gM → Option (Int32 × gM)} (C : gCx p c meth m s args cX10_unmixes 7 (some .boolean) RX10 D cA ad NL A) (hW : gWf NL) (hD0 : gD (fun _ => True) ad NL) (hkk : ∀ (p1 : Int32) (p2 : Int32) (p3 : Int32) (Y : gM) (H : Heap) (locs : List Loc) (ls : Array Slot), gH D cA ad NL Y H → va_S A s.heap H locs → lv_has ls 7 [(0, .ref (ad 43 0)), (1, .int p1), (2, .int p2), (3, .int p3)] → (43, 0) ∈ NL → kk p1 p2 p3 Y = some (rr, XX) → W p l e rm_X10_unmixes s m args below meth c H locs 0 0 (MQ below (gQ D cA ad NL (some (.int rr)) XX A) args s 0 0 A) (F0 m 4 ls [])) (hk119 : ∀ (p2 : Int32) (Y : gM) (H : Heap) (locs : List Loc) (ls : Array Slot), gH D cA ad NL Y H → va_S A s.heap H locs → lv_has ls 7 [(2, .int p2)] → k119 p2 Y = some (rr, XX) → W p l e rm_X10_unmixes s m args below meth c H locs 0 0 (MQ below (gQ D cA ad NL (some (.int rr)) XX A) args s 0 0 A) (F0 m 119 ls [])) : ∀ (p1 : Int32) (p2 : Int32) (p3 : Int32) (X : gM) (H : Heap) (locs : List Loc) (ls : Array Slot), gH D cA ad NL X H → va_S A s.heap H locs → lv_has ls 7 [(0, .ref (ad 43 0)), (1, .int p1), (2, .int p2), (3, .int p3)] → (43, 0) ∈ NL → X10_unmixes_J113 (gal NL) N kk k119 p1 p2 p3 X = some (rr, XX) → W p l e rm_X10_unmixes s m args below meth c H locs 0 0 (MQ below (gQ D cA ad NL (some (.int rr)) XX A) args s 0 0 A) (F0 m 113 ls []) := by
  have hx := C.1
  have hb := C.2.1
  intro p1 p2 p3 X H locs ls hP hS hl ha_l0 hf
  rw [X10_unmixes_J113] at hf
  obtain ⟨v1, e2, hf⟩ := gl_in hf
  refine lv_iinc (v := v1) (lv' := [(3, .int v1), (0, .ref (ad 43 0)), (1, .int p1), (2, .int p2)]) hx hb dX10_unmixes_113 hl (k := 3) rfl (by rw [e2]; rfl) (Nat.le_of_ble_eq_true rfl) rfl (fun ls hl => ?_)
  refine lv_goto (tgt := 4) hx hb dX10_unmixes_116 (by decide) ?_
  exact hkk p1 p2 v1 X _ _ _ hP hS (lv_sub hl [1, 2, 3, 0] rfl) ha_l0 hf

set_option maxRecDepth 100000 in
set_option maxHeartbeats 4000000 in
theorem s_X10_unmixes_J89 {p : Program} {l : Launch} {e : Env} {s : State} {m : MethodId} {args : Array Value} {below : List Frame} {meth : Method} {c : Code} {D : va_G} {cA : Nat → ClassId} {ad : Nat → Nat → Nat} {NL : List (Nat × Nat)} {A : Nat → Prop} {rr : Int32} {XX : gM} {N : Nat} {kk : Int32 → Int32 → Int32 → gM → Option (Int32 × gM)} {k119 : Int32 → gM → Option (Int32 × gM)} (C : gCx p c meth m s args cX10_unmixes 7 (some .boolean) RX10 D cA ad NL A) (hW : gWf NL) (hD0 : gD (fun _ => True) ad NL) (hkk : ∀ (p1 : Int32) (p2 : Int32) (p3 : Int32) (Y : gM) (H : Heap) (locs : List Loc) (ls : Array Slot), gH D cA ad NL Y H → va_S A s.heap H locs → lv_has ls 7 [(0, .ref (ad 43 0)), (1, .int p1), (2, .int p2), (3, .int p3)] → (43, 0) ∈ NL → kk p1 p2 p3 Y = some (rr, XX) → W p l e rm_X10_unmixes s m args below meth c H locs 0 0 (MQ below (gQ D cA ad NL (some (.int rr)) XX A) args s 0 0 A) (F0 m 4 ls [])) (hk119 : ∀ (p2 : Int32) (Y : gM) (H : Heap) (locs : List Loc) (ls : Array Slot), gH D cA ad NL Y H → va_S A s.heap H locs → lv_has ls 7 [(2, .int p2)] → k119 p2 Y = some (rr, XX) → W p l e rm_X10_unmixes s m args below meth c H locs 0 0 (MQ below (gQ D cA ad NL (some (.int rr)) XX A) args s 0 0 A) (F0 m 119 ls [])) : ∀ (p1 : Int32) (p2 : Int32) (p3 : Int32) (p4 : Int32) (X : gM) (H : Heap) (locs : List Loc) (ls : Array Slot), gH D cA ad NL X H → va_S A s.heap H locs → lv_has ls 7 [(0, .ref (ad 43 0)), (1, .int p1), (2, .int p2), (3, .int p3), (4, .int p4)] → (43, 0) ∈ NL → X10_unmixes_J89 (gal NL) N kk k119 p1 p2 p3 p4 X = some (rr, XX) → W p l e rm_X10_unmixes s m args below meth c H locs 0 0 (MQ below (gQ D cA ad NL (some (.int rr)) XX A) args s 0 0 A) (F0 m 89 ls []) := by
  have hx := C.1
  have hb := C.2.1
  intro p1 p2 p3 p4 X H locs ls hP hS hl ha_l0 hf
  rw [X10_unmixes_J89] at hf
  refine lv_iload hx hb dX10_unmixes_89 (lv_at hl 4 rfl) ?_
  refine lv_if_eq (tgt := 113) hx hb dX10_unmixes_91 (by decide) (fun c1 => ?_) (fun c1 => ?_)
  · have hf := g_ip c1 hf
    exact s_X10_unmixes_J113 C hW hD0 hkk hk119 p1 p2 p3 X _ _ _ hP hS (lv_sub hl [0, 1, 2, 3] rfl) ha_l0 hf
  · have hf := g_in c1 hf
    obtain ⟨v2, e3, hf⟩ := gl_in hf
    refine lv_iinc (v := v2) (lv' := [(2, .int v2), (0, .ref (ad 43 0)), (1, .int p1), (3, .int p3), (4, .int p4)]) hx hb dX10_unmixes_94 hl (k := 2) rfl (by rw [e3]; rfl) (Nat.le_of_ble_eq_true rfl) rfl (fun ls hl => ?_)
    refine lv_aload_n hx hb dX10_unmixes_97 rfl (lv_at hl 1 rfl) ?_
    refine lv_iload_n hx hb dX10_unmixes_98 rfl (lv_at hl 3 rfl) ?_
    refine lv_bipush (v := 10) hx hb dX10_unmixes_99 (by decide) ?_
    refine lv_idiv hx hb dX10_unmixes_101 (by decide) ?_
    refine r_put C hP hS (p3 / (10 : Int32)) ha_l0 (ct_43 _ _ _ _) px_X10_141 (fp_43_29 _ _ _ _ _) (Nat.le_of_ble_eq_true rfl) rfl rfl dX10_unmixes_102 (fun H locs hP hS => ?_)
    obtain ⟨X4, e5, hf⟩ := gl_in hf
    rw [← e5] at hP
    refine lv_aload_n hx hb dX10_unmixes_105 rfl (lv_at hl 1 rfl) ?_
    refine lv_iload_n hx hb dX10_unmixes_106 rfl (lv_at hl 3 rfl) ?_
    refine lv_bipush (v := 10) hx hb dX10_unmixes_107 (by decide) ?_
    refine lv_irem hx hb dX10_unmixes_109 (by decide) ?_
    refine r_put C hP hS (p3 - p3 / (10 : Int32) * (10 : Int32)) ha_l0 (ct_43 _ _ _ _) px_X10_144 (fp_43_30 _ _ _ _ _) (Nat.le_of_ble_eq_true rfl) rfl rfl dX10_unmixes_110 (fun H locs hP hS => ?_)
    obtain ⟨X6, e7, hf⟩ := gl_in hf
    rw [← e7] at hP
    exact s_X10_unmixes_J113 C hW hD0 hkk hk119 p1 v2 p3 X6 _ _ _ hP hS (lv_sub hl [1, 2, 0, 3] rfl) ha_l0 hf

set_option maxRecDepth 100000 in
set_option maxHeartbeats 4000000 in
theorem s_X10_unmixes_J81 {p : Program} {l : Launch} {e : Env} {s : State} {m : MethodId} {args : Array Value} {below : List Frame} {meth : Method} {c : Code} {D : va_G} {cA : Nat → ClassId} {ad : Nat → Nat → Nat} {NL : List (Nat × Nat)} {A : Nat → Prop} {rr : Int32} {XX : gM} {N : Nat} {kk : Int32 → Int32 → Int32 → Int32 → Int32 → gM → Option (Int32 × gM)} {k89 : Int32 → Int32 → Int32 → Int32 → gM → Option (Int32 × gM)} (C : gCx p c meth m s args cX10_unmixes 7 (some .boolean) RX10 D cA ad NL A) (hW : gWf NL) (hD0 : gD (fun _ => True) ad NL) (hkk : ∀ (p1 : Int32) (p2 : Int32) (p3 : Int32) (p4 : Int32) (p5 : Int32) (Y : gM) (H : Heap) (locs : List Loc) (ls : Array Slot), gH D cA ad NL Y H → va_S A s.heap H locs → lv_has ls 7 [(0, .ref (ad 43 0)), (1, .int p1), (2, .int p2), (3, .int p3), (4, .int p4), (5, .int p5)] → (43, 0) ∈ NL → kk p1 p2 p3 p4 p5 Y = some (rr, XX) → W p l e rm_X10_unmixes s m args below meth c H locs 0 0 (MQ below (gQ D cA ad NL (some (.int rr)) XX A) args s 0 0 A) (F0 m 16 ls [])) (hk89 : ∀ (p1 : Int32) (p2 : Int32) (p3 : Int32) (p4 : Int32) (Y : gM) (H : Heap) (locs : List Loc) (ls : Array Slot), gH D cA ad NL Y H → va_S A s.heap H locs → lv_has ls 7 [(0, .ref (ad 43 0)), (1, .int p1), (2, .int p2), (3, .int p3), (4, .int p4)] → (43, 0) ∈ NL → k89 p1 p2 p3 p4 Y = some (rr, XX) → W p l e rm_X10_unmixes s m args below meth c H locs 0 0 (MQ below (gQ D cA ad NL (some (.int rr)) XX A) args s 0 0 A) (F0 m 89 ls [])) : ∀ (p1 : Int32) (p2 : Int32) (p3 : Int32) (p5 : Int32) (s0 : Int32) (X : gM) (H : Heap) (locs : List Loc) (ls : Array Slot), gH D cA ad NL X H → va_S A s.heap H locs → lv_has ls 7 [(0, .ref (ad 43 0)), (1, .int p1), (2, .int p2), (3, .int p3), (5, .int p5)] → (43, 0) ∈ NL → X10_unmixes_J81 (gal NL) N kk k89 p1 p2 p3 p5 s0 X = some (rr, XX) → W p l e rm_X10_unmixes s m args below meth c H locs 0 0 (MQ below (gQ D cA ad NL (some (.int rr)) XX A) args s 0 0 A) (F0 m 81 ls [.int s0]) := by
  have hx := C.1
  have hb := C.2.1
  intro p1 p2 p3 p5 s0 X H locs ls hP hS hl ha_l0 hf
  rw [X10_unmixes_J81] at hf
  refine lv_istore (i := 4) (lv' := [(4, .int s0), (0, .ref (ad 43 0)), (1, .int p1), (2, .int p2), (3, .int p3), (5, .int p5)]) hx hb dX10_unmixes_81 hl (Nat.le_of_ble_eq_true rfl) rfl (fun ls hl => ?_)
  obtain ⟨v1, e2, hf⟩ := gl_in hf
  refine lv_iinc (v := v1) (lv' := [(5, .int v1), (4, .int s0), (0, .ref (ad 43 0)), (1, .int p1), (2, .int p2), (3, .int p3)]) hx hb dX10_unmixes_83 hl (k := 5) rfl (by rw [e2]; rfl) (Nat.le_of_ble_eq_true rfl) rfl (fun ls hl => ?_)
  refine lv_goto (tgt := 16) hx hb dX10_unmixes_86 (by decide) ?_
  exact hkk p1 p2 p3 s0 v1 X _ _ _ hP hS (lv_sub hl [2, 3, 4, 5, 1, 0] rfl) ha_l0 hf

set_option maxRecDepth 100000 in
set_option maxHeartbeats 4000000 in
theorem s_X10_unmixes_J80 {p : Program} {l : Launch} {e : Env} {s : State} {m : MethodId} {args : Array Value} {below : List Frame} {meth : Method} {c : Code} {D : va_G} {cA : Nat → ClassId} {ad : Nat → Nat → Nat} {NL : List (Nat × Nat)} {A : Nat → Prop} {rr : Int32} {XX : gM} {N : Nat} {kk : Int32 → Int32 → Int32 → Int32 → Int32 → gM → Option (Int32 × gM)} {k89 : Int32 → Int32 → Int32 → Int32 → gM → Option (Int32 × gM)} (C : gCx p c meth m s args cX10_unmixes 7 (some .boolean) RX10 D cA ad NL A) (hW : gWf NL) (hD0 : gD (fun _ => True) ad NL) (hkk : ∀ (p1 : Int32) (p2 : Int32) (p3 : Int32) (p4 : Int32) (p5 : Int32) (Y : gM) (H : Heap) (locs : List Loc) (ls : Array Slot), gH D cA ad NL Y H → va_S A s.heap H locs → lv_has ls 7 [(0, .ref (ad 43 0)), (1, .int p1), (2, .int p2), (3, .int p3), (4, .int p4), (5, .int p5)] → (43, 0) ∈ NL → kk p1 p2 p3 p4 p5 Y = some (rr, XX) → W p l e rm_X10_unmixes s m args below meth c H locs 0 0 (MQ below (gQ D cA ad NL (some (.int rr)) XX A) args s 0 0 A) (F0 m 16 ls [])) (hk89 : ∀ (p1 : Int32) (p2 : Int32) (p3 : Int32) (p4 : Int32) (Y : gM) (H : Heap) (locs : List Loc) (ls : Array Slot), gH D cA ad NL Y H → va_S A s.heap H locs → lv_has ls 7 [(0, .ref (ad 43 0)), (1, .int p1), (2, .int p2), (3, .int p3), (4, .int p4)] → (43, 0) ∈ NL → k89 p1 p2 p3 p4 Y = some (rr, XX) → W p l e rm_X10_unmixes s m args below meth c H locs 0 0 (MQ below (gQ D cA ad NL (some (.int rr)) XX A) args s 0 0 A) (F0 m 89 ls [])) : ∀ (p1 : Int32) (p2 : Int32) (p3 : Int32) (p5 : Int32) (X : gM) (H : Heap) (locs : List Loc) (ls : Array Slot), gH D cA ad NL X H → va_S A s.heap H locs → lv_has ls 7 [(0, .ref (ad 43 0)), (1, .int p1), (2, .int p2), (3, .int p3), (5, .int p5)] → (43, 0) ∈ NL → X10_unmixes_J80 (gal NL) N kk k89 p1 p2 p3 p5 X = some (rr, XX) → W p l e rm_X10_unmixes s m args below meth c H locs 0 0 (MQ below (gQ D cA ad NL (some (.int rr)) XX A) args s 0 0 A) (F0 m 80 ls []) := by
  have hx := C.1
  have hb := C.2.1
  intro p1 p2 p3 p5 X H locs ls hP hS hl ha_l0 hf
  rw [X10_unmixes_J80] at hf
  refine lv_iconst (v := 0) hx hb dX10_unmixes_80 (by decide) ?_
  exact s_X10_unmixes_J81 C hW hD0 hkk hk89 p1 p2 p3 p5 (0 : Int32) X _ _ _ hP hS (lv_sub hl [0, 1, 2, 3, 4] rfl) ha_l0 hf

set_option maxRecDepth 100000 in
set_option maxHeartbeats 4000000 in
theorem s_X10_unmixes_J76 {p : Program} {l : Launch} {e : Env} {s : State} {m : MethodId} {args : Array Value} {below : List Frame} {meth : Method} {c : Code} {D : va_G} {cA : Nat → ClassId} {ad : Nat → Nat → Nat} {NL : List (Nat × Nat)} {A : Nat → Prop} {rr : Int32} {XX : gM} {N : Nat} {kk : Int32 → Int32 → Int32 → Int32 → Int32 → gM → Option (Int32 × gM)} {k89 : Int32 → Int32 → Int32 → Int32 → gM → Option (Int32 × gM)} (C : gCx p c meth m s args cX10_unmixes 7 (some .boolean) RX10 D cA ad NL A) (hW : gWf NL) (hD0 : gD (fun _ => True) ad NL) (hkk : ∀ (p1 : Int32) (p2 : Int32) (p3 : Int32) (p4 : Int32) (p5 : Int32) (Y : gM) (H : Heap) (locs : List Loc) (ls : Array Slot), gH D cA ad NL Y H → va_S A s.heap H locs → lv_has ls 7 [(0, .ref (ad 43 0)), (1, .int p1), (2, .int p2), (3, .int p3), (4, .int p4), (5, .int p5)] → (43, 0) ∈ NL → kk p1 p2 p3 p4 p5 Y = some (rr, XX) → W p l e rm_X10_unmixes s m args below meth c H locs 0 0 (MQ below (gQ D cA ad NL (some (.int rr)) XX A) args s 0 0 A) (F0 m 16 ls [])) (hk89 : ∀ (p1 : Int32) (p2 : Int32) (p3 : Int32) (p4 : Int32) (Y : gM) (H : Heap) (locs : List Loc) (ls : Array Slot), gH D cA ad NL Y H → va_S A s.heap H locs → lv_has ls 7 [(0, .ref (ad 43 0)), (1, .int p1), (2, .int p2), (3, .int p3), (4, .int p4)] → (43, 0) ∈ NL → k89 p1 p2 p3 p4 Y = some (rr, XX) → W p l e rm_X10_unmixes s m args below meth c H locs 0 0 (MQ below (gQ D cA ad NL (some (.int rr)) XX A) args s 0 0 A) (F0 m 89 ls [])) : ∀ (p1 : Int32) (p2 : Int32) (p3 : Int32) (p5 : Int32) (X : gM) (H : Heap) (locs : List Loc) (ls : Array Slot), gH D cA ad NL X H → va_S A s.heap H locs → lv_has ls 7 [(0, .ref (ad 43 0)), (1, .int p1), (2, .int p2), (3, .int p3), (5, .int p5)] → (43, 0) ∈ NL → X10_unmixes_J76 (gal NL) N kk k89 p1 p2 p3 p5 X = some (rr, XX) → W p l e rm_X10_unmixes s m args below meth c H locs 0 0 (MQ below (gQ D cA ad NL (some (.int rr)) XX A) args s 0 0 A) (F0 m 76 ls []) := by
  have hx := C.1
  have hb := C.2.1
  intro p1 p2 p3 p5 X H locs ls hP hS hl ha_l0 hf
  rw [X10_unmixes_J76] at hf
  refine lv_iconst (v := 1) hx hb dX10_unmixes_76 (by decide) ?_
  refine lv_goto (tgt := 81) hx hb dX10_unmixes_77 (by decide) ?_
  exact s_X10_unmixes_J81 C hW hD0 hkk hk89 p1 p2 p3 p5 (1 : Int32) X _ _ _ hP hS (lv_sub hl [0, 1, 2, 3, 4] rfl) ha_l0 hf

set_option maxRecDepth 100000 in
set_option maxHeartbeats 4000000 in
theorem s_X10_unmixes_L16 {p : Program} {l : Launch} {e : Env} {s : State} {m : MethodId} {args : Array Value} {below : List Frame} {meth : Method} {c : Code} {D : va_G} {cA : Nat → ClassId} {ad : Nat → Nat → Nat} {NL : List (Nat × Nat)} {A : Nat → Prop} {rr : Int32} {XX : gM} {N : Nat} {k89 : Int32 → Int32 → Int32 → Int32 → gM → Option (Int32 × gM)} (C : gCx p c meth m s args cX10_unmixes 7 (some .boolean) RX10 D cA ad NL A) (hW : gWf NL) (hD0 : gD (fun _ => True) ad NL) (hk89 : ∀ (p1 : Int32) (p2 : Int32) (p3 : Int32) (p4 : Int32) (Y : gM) (H : Heap) (locs : List Loc) (ls : Array Slot), gH D cA ad NL Y H → va_S A s.heap H locs → lv_has ls 7 [(0, .ref (ad 43 0)), (1, .int p1), (2, .int p2), (3, .int p3), (4, .int p4)] → (43, 0) ∈ NL → k89 p1 p2 p3 p4 Y = some (rr, XX) → W p l e rm_X10_unmixes s m args below meth c H locs 0 0 (MQ below (gQ D cA ad NL (some (.int rr)) XX A) args s 0 0 A) (F0 m 89 ls [])) : ∀ (n : Nat) (p1 : Int32) (p2 : Int32) (p3 : Int32) (p4 : Int32) (p5 : Int32) (X : gM) (H : Heap) (locs : List Loc) (ls : Array Slot), gH D cA ad NL X H → va_S A s.heap H locs → lv_has ls 7 [(0, .ref (ad 43 0)), (1, .int p1), (2, .int p2), (3, .int p3), (4, .int p4), (5, .int p5)] → (43, 0) ∈ NL → X10_unmixes_L16 (gal NL) N k89 n p1 p2 p3 p4 p5 X = some (rr, XX) → W p l e rm_X10_unmixes s m args below meth c H locs 0 0 (MQ below (gQ D cA ad NL (some (.int rr)) XX A) args s 0 0 A) (F0 m 16 ls []) := by
  have hx := C.1
  have hb := C.2.1
  intro n
  induction n with
  | zero =>
    intro p1 p2 p3 p4 p5 X H locs ls hP hS hl ha_l0 hf
    rw [X10_unmixes_L16] at hf
    cases hf
  | succ n ih =>
    intro p1 p2 p3 p4 p5 X H locs ls hP hS hl ha_l0 hf
    rw [X10_unmixes_L16] at hf
    refine lv_iload hx hb dX10_unmixes_16 (lv_at hl 5 rfl) ?_
    refine lv_iconst (v := 3) hx hb dX10_unmixes_18 (by decide) ?_
    refine lv_icmp_ge (tgt := 89) hx hb dX10_unmixes_19 (by decide) (fun c1 => ?_) (fun c1 => ?_)
    · have hf := g_ip c1 hf
      exact hk89 p1 p2 p3 p4 X _ _ _ hP hS (lv_sub hl [0, 1, 2, 3, 4] rfl) ha_l0 hf
    · have hf := g_in c1 hf
      refine lv_aload_n hx hb dX10_unmixes_22 rfl (lv_at hl 0 rfl) ?_
      refine r_get C hP ha_l0 (ct_43 _ _ _ _) fx_X10_46 (fg_43_13 _ _ _) dX10_unmixes_23 ?_
      refine lv_iconst (v := 3) hx hb dX10_unmixes_26 (by decide) ?_
      refine lv_iload_n hx hb dX10_unmixes_27 rfl (lv_at hl 1 rfl) ?_
      refine lv_imul hx hb dX10_unmixes_28 ?_
      refine lv_iload hx hb dX10_unmixes_29 (lv_at hl 5 rfl) ?_
      refine lv_iadd hx hb dX10_unmixes_31 ?_
      obtain ⟨j2, h3, hf⟩ := rd_in hf
      refine r_iald C hP (gs_43_13 hW ha_l0) (ct_56 _ _ _ _) h3 dX10_unmixes_32 ?_
      refine g_top hf (fun v4 e5 hf => ?_)
      refine lv_istore (i := 6) (lv' := [(6, .int v4), (0, .ref (ad 43 0)), (1, .int p1), (2, .int p2), (3, .int p3), (4, .int p4), (5, .int p5)]) hx hb dX10_unmixes_33 hl (Nat.le_of_ble_eq_true rfl) rfl (fun ls hl => ?_)
      refine lv_iload hx hb dX10_unmixes_35 (lv_at hl 5 rfl) ?_
      refine lv_if_eq (tgt := 80) hx hb dX10_unmixes_37 (by decide) (fun c6 => ?_) (fun c6 => ?_)
      · have hf := g_ip c6 hf
        exact s_X10_unmixes_J80 C hW hD0 ih hk89 p1 p2 p3 p5 X _ _ _ hP hS (lv_sub hl [1, 2, 3, 4, 6] rfl) ha_l0 hf
      · have hf := g_in c6 hf
        refine lv_iload hx hb dX10_unmixes_40 (lv_at hl 0 rfl) ?_
        refine lv_iconst (v := -1) hx hb dX10_unmixes_42 (by decide) ?_
        refine lv_icmp_eq (tgt := 76) hx hb dX10_unmixes_43 (by decide) (fun c7 => ?_) (fun c7 => ?_)
        · have hf := g_ip c7 hf
          exact s_X10_unmixes_J76 C hW hD0 ih hk89 p1 p2 p3 p5 X _ _ _ hP hS (lv_sub hl [1, 2, 3, 4, 6] rfl) ha_l0 hf
        · have hf := g_in c7 hf
          refine lv_iload hx hb dX10_unmixes_46 (lv_at hl 0 rfl) ?_
          refine lv_aload_n hx hb dX10_unmixes_48 rfl (lv_at hl 1 rfl) ?_
          refine r_get C hP ha_l0 (ct_43 _ _ _ _) fx_X10_40 (fg_43_11 _ _ _) dX10_unmixes_49 ?_
          refine lv_iload hx hb dX10_unmixes_52 (lv_at hl 6 rfl) ?_
          obtain ⟨j8, h9, hf⟩ := rd_in hf
          refine r_iald C hP (gs_43_11 hW ha_l0) (ct_54 _ _ _ _) h9 dX10_unmixes_54 ?_
          refine lv_iload_n hx hb dX10_unmixes_55 rfl (lv_at hl 4 rfl) ?_
          refine lv_bipush (v := 10) hx hb dX10_unmixes_56 (by decide) ?_
          refine lv_idiv hx hb dX10_unmixes_58 (by decide) ?_
          refine lv_imul hx hb dX10_unmixes_59 ?_
          refine lv_aload_n hx hb dX10_unmixes_60 rfl (lv_at hl 1 rfl) ?_
          refine r_get C hP ha_l0 (ct_43 _ _ _ _) fx_X10_43 (fg_43_12 _ _ _) dX10_unmixes_61 ?_
          refine lv_iload hx hb dX10_unmixes_64 (lv_at hl 6 rfl) ?_
          obtain ⟨j10, h11, hf⟩ := rd_in hf
          refine r_iald C hP (gs_43_12 hW ha_l0) (ct_55 _ _ _ _) h11 dX10_unmixes_66 ?_
          refine lv_iload_n hx hb dX10_unmixes_67 rfl (lv_at hl 4 rfl) ?_
          refine lv_bipush (v := 10) hx hb dX10_unmixes_68 (by decide) ?_
          refine lv_irem hx hb dX10_unmixes_70 (by decide) ?_
          refine lv_imul hx hb dX10_unmixes_71 ?_
          refine lv_iadd hx hb dX10_unmixes_72 ?_
          refine lv_icmp_ne (tgt := 80) hx hb dX10_unmixes_73 (by decide) (fun c12 => ?_) (fun c12 => ?_)
          · have hf := g_in c12 hf
            exact s_X10_unmixes_J80 C hW hD0 ih hk89 p1 p2 p3 p5 X _ _ _ hP hS (lv_sub hl [1, 2, 3, 4, 6] rfl) ha_l0 hf
          · have hf := g_ip c12 hf
            exact s_X10_unmixes_J76 C hW hD0 ih hk89 p1 p2 p3 p5 X _ _ _ hP hS (lv_sub hl [1, 2, 3, 4, 6] rfl) ha_l0 hf

set_option maxRecDepth 100000 in
set_option maxHeartbeats 4000000 in
theorem s_X10_unmixes_L4 {p : Program} {l : Launch} {e : Env} {s : State} {m : MethodId} {args : Array Value} {below : List Frame} {meth : Method} {c : Code} {D : va_G} {cA : Nat → ClassId} {ad : Nat → Nat → Nat} {NL : List (Nat × Nat)} {A : Nat → Prop} {rr : Int32} {XX : gM} {N : Nat} {k119 : Int32 → gM → Option (Int32 × gM)} (C : gCx p c meth m s args cX10_unmixes 7 (some .boolean) RX10 D cA ad NL A) (hW : gWf NL) (hD0 : gD (fun _ => True) ad NL) (hk119 : ∀ (p2 : Int32) (Y : gM) (H : Heap) (locs : List Loc) (ls : Array Slot), gH D cA ad NL Y H → va_S A s.heap H locs → lv_has ls 7 [(2, .int p2)] → k119 p2 Y = some (rr, XX) → W p l e rm_X10_unmixes s m args below meth c H locs 0 0 (MQ below (gQ D cA ad NL (some (.int rr)) XX A) args s 0 0 A) (F0 m 119 ls [])) : ∀ (n : Nat) (p1 : Int32) (p2 : Int32) (p3 : Int32) (X : gM) (H : Heap) (locs : List Loc) (ls : Array Slot), gH D cA ad NL X H → va_S A s.heap H locs → lv_has ls 7 [(0, .ref (ad 43 0)), (1, .int p1), (2, .int p2), (3, .int p3)] → (43, 0) ∈ NL → X10_unmixes_L4 (gal NL) N k119 n p1 p2 p3 X = some (rr, XX) → W p l e rm_X10_unmixes s m args below meth c H locs 0 0 (MQ below (gQ D cA ad NL (some (.int rr)) XX A) args s 0 0 A) (F0 m 4 ls []) := by
  have hx := C.1
  have hb := C.2.1
  intro n
  induction n with
  | zero =>
    intro p1 p2 p3 X H locs ls hP hS hl ha_l0 hf
    rw [X10_unmixes_L4] at hf
    cases hf
  | succ n ih =>
    intro p1 p2 p3 X H locs ls hP hS hl ha_l0 hf
    rw [X10_unmixes_L4] at hf
    refine lv_iload_n hx hb dX10_unmixes_4 rfl (lv_at hl 3 rfl) ?_
    refine lv_bipush (v := 100) hx hb dX10_unmixes_5 (by decide) ?_
    refine lv_icmp_ge (tgt := 119) hx hb dX10_unmixes_7 (by decide) (fun c1 => ?_) (fun c1 => ?_)
    · have hf := g_ip c1 hf
      exact hk119 p2 X _ _ _ hP hS (lv_sub hl [2] rfl) hf
    · have hf := g_in c1 hf
      refine lv_iconst (v := 1) hx hb dX10_unmixes_10 (by decide) ?_
      refine lv_istore (i := 4) (lv' := [(4, .int (1 : Int32)), (0, .ref (ad 43 0)), (1, .int p1), (2, .int p2), (3, .int p3)]) hx hb dX10_unmixes_11 hl (Nat.le_of_ble_eq_true rfl) rfl (fun ls hl => ?_)
      refine lv_iconst (v := 0) hx hb dX10_unmixes_13 (by decide) ?_
      refine lv_istore (i := 5) (lv' := [(5, .int (0 : Int32)), (4, .int (1 : Int32)), (0, .ref (ad 43 0)), (1, .int p1), (2, .int p2), (3, .int p3)]) hx hb dX10_unmixes_14 hl (Nat.le_of_ble_eq_true rfl) rfl (fun ls hl => ?_)
      exact s_X10_unmixes_L16 C hW hD0 (fun p1 p2 p3 p4 Y H locs ls hP hS hl ha_l0 hf => s_X10_unmixes_J89 C hW hD0 ih hk119 p1 p2 p3 p4 Y _ _ _ hP hS hl ha_l0 hf) N p1 p2 p3 (1 : Int32) (0 : Int32) X _ _ _ hP hS (lv_sub hl [2, 3, 4, 5, 1, 0] rfl) ha_l0 hf

set_option maxRecDepth 100000 in
set_option maxHeartbeats 4000000 in
theorem w_X10_unmixes {p : Program} {l : Launch} {e : Env} {s : State} {m : MethodId} {args : Array Value} {below : List Frame} {meth : Method} {c : Code} {D : va_G} {cA : Nat → ClassId} {ad : Nat → Nat → Nat} {NL : List (Nat × Nat)} {A : Nat → Prop} {rr : Int32} {XX : gM} {N : Nat} (C : gCx p c meth m s args cX10_unmixes 7 (some .boolean) RX10 D cA ad NL A) (hW : gWf NL) (hD0 : gD (fun _ => True) ad NL) {p1 : Int32} (ha_l0 : (43, 0) ∈ NL) : ∀ (X : gM) (H : Heap) (locs : List Loc) (ls : Array Slot), gH D cA ad NL X H → va_S A s.heap H locs → lv_has ls 7 [(0, .ref (ad 43 0)), (1, .int p1)] → X10_unmixes (gal NL) N p1 X = some (rr, XX) → W p l e rm_X10_unmixes s m args below meth c H locs 0 0 (MQ below (gQ D cA ad NL (some (.int rr)) XX A) args s 0 0 A) (F0 m 0 ls []) := by
  have hx := C.1
  have hb := C.2.1
  intro X H locs ls hP hS hl hf
  rw [X10_unmixes] at hf
  refine lv_iconst (v := 0) hx hb dX10_unmixes_0 (by decide) ?_
  refine lv_istore_n (i := 2) (lv' := [(2, .int (0 : Int32)), (0, .ref (ad 43 0)), (1, .int p1)]) hx hb dX10_unmixes_1 rfl hl (Nat.le_of_ble_eq_true rfl) rfl (fun ls hl => ?_)
  refine lv_iconst (v := 0) hx hb dX10_unmixes_2 (by decide) ?_
  refine lv_istore_n (i := 3) (lv' := [(3, .int (0 : Int32)), (2, .int (0 : Int32)), (0, .ref (ad 43 0)), (1, .int p1)]) hx hb dX10_unmixes_3 rfl hl (Nat.le_of_ble_eq_true rfl) rfl (fun ls hl => ?_)
  exact s_X10_unmixes_L4 C hW hD0 (fun p2 Y H locs ls hP hS hl hf => s_X10_unmixes_J119 C hW hD0 p2 Y _ _ _ hP hS hl hf) N p1 (0 : Int32) (0 : Int32) X _ _ _ hP hS (lv_sub hl [2, 3, 1, 0] rfl) ha_l0 hf

theorem s_X10_unmixes {l : Launch} {D : va_G} {cA : Nat → ClassId} {ad : Nat → Nat → Nat} {NL : List (Nat × Nat)} {N : Nat} {p1 : Int32} {X : gM} {rr : Int32} {XX : gM} (hW : gWf NL) (hD0 : gD (fun _ => True) ad NL) (ha_l0 : (43, 0) ∈ NL) (hf : X10_unmixes (gal NL) N p1 X = some (rr, XX)) : gC l yX10_unmixes cX10_unmixes 7 (some .boolean) rm_X10_unmixes D cA ad NL [.ref (ad 43 0), .int p1] X (some (.int rr)) XX :=
  g_ofW (by decide) hD0 (Nat.le_of_ble_eq_true rfl) rfl (fun p e s m below meth c ls C hP hS hl => w_X10_unmixes C hW hD0 ha_l0 X _ _ ls hP hS hl hf)
def rm_X10_isBlankCell : Room := { frames := 1, cells := 0, slots := 0, locals := 26 }
set_option maxRecDepth 100000 in
set_option maxHeartbeats 4000000 in
theorem s_X10_isBlankCell_J20 {p : Program} {l : Launch} {e : Env} {s : State} {m : MethodId} {args : Array Value} {below : List Frame} {meth : Method} {c : Code} {D : va_G} {cA : Nat → ClassId} {ad : Nat → Nat → Nat} {NL : List (Nat × Nat)} {A : Nat → Prop} {rr : Int32} {XX : gM} {N : Nat} (C : gCx p c meth m s args cX10_isBlankCell 2 (some .boolean) RX10 D cA ad NL A) (hW : gWf NL) (hD0 : gD (fun _ => True) ad NL) : ∀ (s0 : Int32) (X : gM) (H : Heap) (locs : List Loc) (ls : Array Slot), gH D cA ad NL X H → va_S A s.heap H locs → lv_has ls 2 [] → X10_isBlankCell_J20 (gal NL) N s0 X = some (rr, XX) → W p l e rm_X10_isBlankCell s m args below meth c H locs 0 0 (MQ below (gQ D cA ad NL (some (.int rr)) XX A) args s 0 0 A) (F0 m 20 ls [.int s0]) := by
  have hx := C.1
  have hb := C.2.1
  intro s0 X H locs ls hP hS hl hf
  rw [X10_isBlankCell_J20] at hf
  obtain ⟨h1, hf⟩ := bz_in hf
  obtain ⟨rfl, rfl⟩ := g_s1 hf
  exact r_zret C hP hS h1 dX10_isBlankCell_20

set_option maxRecDepth 100000 in
set_option maxHeartbeats 4000000 in
theorem s_X10_isBlankCell_J19 {p : Program} {l : Launch} {e : Env} {s : State} {m : MethodId} {args : Array Value} {below : List Frame} {meth : Method} {c : Code} {D : va_G} {cA : Nat → ClassId} {ad : Nat → Nat → Nat} {NL : List (Nat × Nat)} {A : Nat → Prop} {rr : Int32} {XX : gM} {N : Nat} (C : gCx p c meth m s args cX10_isBlankCell 2 (some .boolean) RX10 D cA ad NL A) (hW : gWf NL) (hD0 : gD (fun _ => True) ad NL) : ∀ (X : gM) (H : Heap) (locs : List Loc) (ls : Array Slot), gH D cA ad NL X H → va_S A s.heap H locs → lv_has ls 2 [] → X10_isBlankCell_J19 (gal NL) N X = some (rr, XX) → W p l e rm_X10_isBlankCell s m args below meth c H locs 0 0 (MQ below (gQ D cA ad NL (some (.int rr)) XX A) args s 0 0 A) (F0 m 19 ls []) := by
  have hx := C.1
  have hb := C.2.1
  intro X H locs ls hP hS hl hf
  rw [X10_isBlankCell_J19] at hf
  refine lv_iconst (v := 0) hx hb dX10_isBlankCell_19 (by decide) ?_
  exact s_X10_isBlankCell_J20 C hW hD0 (0 : Int32) X _ _ _ hP hS (lv_sub hl [] rfl) hf

set_option maxRecDepth 100000 in
set_option maxHeartbeats 4000000 in
theorem w_X10_isBlankCell {p : Program} {l : Launch} {e : Env} {s : State} {m : MethodId} {args : Array Value} {below : List Frame} {meth : Method} {c : Code} {D : va_G} {cA : Nat → ClassId} {ad : Nat → Nat → Nat} {NL : List (Nat × Nat)} {A : Nat → Prop} {rr : Int32} {XX : gM} {N : Nat} (C : gCx p c meth m s args cX10_isBlankCell 2 (some .boolean) RX10 D cA ad NL A) (hW : gWf NL) (hD0 : gD (fun _ => True) ad NL) {p1 : Int32} (ha_l0 : (43, 0) ∈ NL) : ∀ (X : gM) (H : Heap) (locs : List Loc) (ls : Array Slot), gH D cA ad NL X H → va_S A s.heap H locs → lv_has ls 2 [(0, .ref (ad 43 0)), (1, .int p1)] → X10_isBlankCell (gal NL) N p1 X = some (rr, XX) → W p l e rm_X10_isBlankCell s m args below meth c H locs 0 0 (MQ below (gQ D cA ad NL (some (.int rr)) XX A) args s 0 0 A) (F0 m 0 ls []) := by
  have hx := C.1
  have hb := C.2.1
  intro X H locs ls hP hS hl hf
  rw [X10_isBlankCell] at hf
  refine lv_aload_n hx hb dX10_isBlankCell_0 rfl (lv_at hl 0 rfl) ?_
  refine lv_iload_n hx hb dX10_isBlankCell_1 rfl (lv_at hl 1 rfl) ?_
  obtain ⟨r1, X2, h3, hf⟩ := b2_in hf
  refine r_cVi (rest := []) C hP hS hl.1 (s_X10_unmixes hW hD0 ha_l0 h3) ix_X10_unmixes iv_X10_unmixes lk_X10_147 ⟨rfl, rfl, Nat.le_of_ble_eq_true rfl, Nat.le_of_ble_eq_true rfl⟩ ha_l0 (ct_43 _ _ _ _) rfl rfl rfl rfl (Nat.le_of_ble_eq_true rfl) ⟨Nat.zero_le _, Nat.zero_le _⟩ dX10_isBlankCell_2 (fun H locs hP hS => ?_)
  refine lv_if_eq (tgt := 19) hx hb dX10_isBlankCell_5 (by decide) (fun c4 => ?_) (fun c4 => ?_)
  · have hf := g_ip c4 hf
    exact s_X10_isBlankCell_J19 C hW hD0 X2 _ _ _ hP hS (lv_sub hl [] rfl) hf
  · have hf := g_in c4 hf
    refine lv_aload_n hx hb dX10_isBlankCell_8 rfl (lv_at hl 0 rfl) ?_
    refine r_get C hP ha_l0 (ct_43 _ _ _ _) fx_X10_144 (fg_43_30 _ _ _) dX10_isBlankCell_9 ?_
    refine lv_if_ne (tgt := 19) hx hb dX10_isBlankCell_12 (by decide) (fun c5 => ?_) (fun c5 => ?_)
    · have hf := g_in c5 hf
      exact s_X10_isBlankCell_J19 C hW hD0 X2 _ _ _ hP hS (lv_sub hl [] rfl) hf
    · have hf := g_ip c5 hf
      refine lv_iconst (v := 1) hx hb dX10_isBlankCell_15 (by decide) ?_
      refine lv_goto (tgt := 20) hx hb dX10_isBlankCell_16 (by decide) ?_
      exact s_X10_isBlankCell_J20 C hW hD0 (1 : Int32) X2 _ _ _ hP hS (lv_sub hl [] rfl) hf

theorem s_X10_isBlankCell {l : Launch} {D : va_G} {cA : Nat → ClassId} {ad : Nat → Nat → Nat} {NL : List (Nat × Nat)} {N : Nat} {p1 : Int32} {X : gM} {rr : Int32} {XX : gM} (hW : gWf NL) (hD0 : gD (fun _ => True) ad NL) (ha_l0 : (43, 0) ∈ NL) (hf : X10_isBlankCell (gal NL) N p1 X = some (rr, XX)) : gC l yX10_isBlankCell cX10_isBlankCell 2 (some .boolean) rm_X10_isBlankCell D cA ad NL [.ref (ad 43 0), .int p1] X (some (.int rr)) XX :=
  g_ofW (by decide) hD0 (Nat.le_of_ble_eq_true rfl) rfl (fun p e s m below meth c ls C hP hS hl => w_X10_isBlankCell C hW hD0 ha_l0 X _ _ ls hP hS hl hf)
def rm_X10_image : Room := { frames := 3, cells := 0, slots := 0, locals := 66 }
set_option maxRecDepth 100000 in
set_option maxHeartbeats 4000000 in
theorem s_X10_image_J93 {p : Program} {l : Launch} {e : Env} {s : State} {m : MethodId} {args : Array Value} {below : List Frame} {meth : Method} {c : Code} {D : va_G} {cA : Nat → ClassId} {ad : Nat → Nat → Nat} {NL : List (Nat × Nat)} {A : Nat → Prop} {rr : Int32} {XX : gM} {N : Nat} (C : gCx p c meth m s args cX10_image 7 (some .int) RX10 D cA ad NL A) (hW : gWf NL) (hD0 : gD (fun _ => True) ad NL) : ∀ (s0 : Int32) (X : gM) (H : Heap) (locs : List Loc) (ls : Array Slot), gH D cA ad NL X H → va_S A s.heap H locs → lv_has ls 7 [] → X10_image_J93 (gal NL) N s0 X = some (rr, XX) → W p l e rm_X10_image s m args below meth c H locs 0 0 (MQ below (gQ D cA ad NL (some (.int rr)) XX A) args s 0 0 A) (F0 m 93 ls [.int s0]) := by
  have hx := C.1
  have hb := C.2.1
  intro s0 X H locs ls hP hS hl hf
  rw [X10_image_J93] at hf
  obtain ⟨rfl, rfl⟩ := g_s1 hf
  exact r_iret C hP hS dX10_image_93

set_option maxRecDepth 100000 in
set_option maxHeartbeats 4000000 in
theorem s_X10_image_J42 {p : Program} {l : Launch} {e : Env} {s : State} {m : MethodId} {args : Array Value} {below : List Frame} {meth : Method} {c : Code} {D : va_G} {cA : Nat → ClassId} {ad : Nat → Nat → Nat} {NL : List (Nat × Nat)} {A : Nat → Prop} {rr : Int32} {XX : gM} {N : Nat} (C : gCx p c meth m s args cX10_image 7 (some .int) RX10 D cA ad NL A) (hW : gWf NL) (hD0 : gD (fun _ => True) ad NL) : ∀ (p1 : Int32) (p2 : Int32) (p3 : Int32) (p4 : Int32) (p5 : Int32) (s1 : Int32) (X : gM) (H : Heap) (locs : List Loc) (ls : Array Slot), gH D cA ad NL X H → va_S A s.heap H locs → lv_has ls 7 [(0, .ref (ad 43 0)), (1, .int p1), (2, .int p2), (3, .int p3), (4, .int p4), (5, .int p5)] → (43, 0) ∈ NL → (43, 0) ∈ NL → X10_image_J42 (gal NL) N p1 p2 p3 p4 p5 s1 X = some (rr, XX) → W p l e rm_X10_image s m args below meth c H locs 0 0 (MQ below (gQ D cA ad NL (some (.int rr)) XX A) args s 0 0 A) (F0 m 42 ls [.int s1, .ref (ad 43 0)]) := by
  have hx := C.1
  have hb := C.2.1
  intro p1 p2 p3 p4 p5 s1 X H locs ls hP hS hl ha_l0 ha_s0 hf
  rw [X10_image_J42] at hf
  refine r_put C hP hS s1 ha_s0 (ct_43 _ _ _ _) px_X10_122 (fp_43_46 _ _ _ _ _) (Nat.le_of_ble_eq_true rfl) rfl rfl dX10_image_42 (fun H locs hP hS => ?_)
  obtain ⟨X1, e2, hf⟩ := gl_in hf
  rw [← e2] at hP
  refine lv_aload_n hx hb dX10_image_45 rfl (lv_at hl 0 rfl) ?_
  refine r_get C hP ha_l0 (ct_43 _ _ _ _) fx_X10_122 (fg_43_46 _ _ _) dX10_image_46 ?_
  refine lv_if_le (tgt := 54) hx hb dX10_image_49 (by decide) (fun c3 => ?_) (fun c3 => ?_)
  · have hf := g_ip c3 hf
    refine lv_iload_n hx hb dX10_image_54 rfl (lv_at hl 1 rfl) ?_
    refine lv_iload_n hx hb dX10_image_55 rfl (lv_at hl 2 rfl) ?_
    refine lv_iload_n hx hb dX10_image_56 rfl (lv_at hl 3 rfl) ?_
    obtain ⟨r4, X5, h6, hf⟩ := b2_in hf
    refine r_cSi (rest := []) C hP hS hl.1 (s_X10_cellAt hW hD0  h6) ix_X10_cellAt is_X10_cellAt ls_X10_153 ⟨rfl, rfl, Nat.le_of_ble_eq_true rfl, Nat.le_of_ble_eq_true rfl⟩ rfl rfl (Nat.le_of_ble_eq_true rfl) ⟨Nat.zero_le _, Nat.zero_le _⟩ dX10_image_57 (fun H locs hP hS => ?_)
    refine lv_istore (i := 6) (lv' := [(6, .int r4), (0, .ref (ad 43 0)), (1, .int p1), (2, .int p2), (3, .int p3), (4, .int p4), (5, .int p5)]) hx hb dX10_image_60 hl (Nat.le_of_ble_eq_true rfl) rfl (fun ls hl => ?_)
    refine lv_aload_n hx hb dX10_image_62 rfl (lv_at hl 1 rfl) ?_
    refine r_get C hP ha_l0 (ct_43 _ _ _ _) fx_X10_46 (fg_43_13 _ _ _) dX10_image_63 ?_
    refine lv_iconst (v := 3) hx hb dX10_image_66 (by decide) ?_
    refine lv_iload hx hb dX10_image_67 (lv_at hl 0 rfl) ?_
    refine lv_imul hx hb dX10_image_69 ?_
    refine lv_iload hx hb dX10_image_70 (lv_at hl 5 rfl) ?_
    refine lv_iadd hx hb dX10_image_72 ?_
    refine lv_iload hx hb dX10_image_73 (lv_at hl 6 rfl) ?_
    obtain ⟨j7, h8, hf⟩ := rd_in hf
    refine r_iast C hP hS (gs_43_13 hW ha_l0) (fun _ => ct_56 _ _ _ _) h8 dX10_image_75 (fun H locs hP hS => ?_)
    obtain ⟨X9, e10, hf⟩ := gl_in hf
    rw [← e10] at hP
    refine lv_aload_n hx hb dX10_image_76 rfl (lv_at hl 1 rfl) ?_
    refine lv_iload hx hb dX10_image_77 (lv_at hl 0 rfl) ?_
    obtain ⟨r11, X12, h13, hf⟩ := b2_in hf
    refine r_cVi (rest := []) C hP hS hl.1 (s_X10_unmixes hW hD0 ha_l0 h13) ix_X10_unmixes iv_X10_unmixes lk_X10_147 ⟨rfl, rfl, Nat.le_of_ble_eq_true rfl, Nat.le_of_ble_eq_true rfl⟩ ha_l0 (ct_43 _ _ _ _) rfl rfl rfl rfl (Nat.le_of_ble_eq_true rfl) ⟨Nat.zero_le _, Nat.zero_le _⟩ dX10_image_79 (fun H locs hP hS => ?_)
    refine lv_if_eq (tgt := 92) hx hb dX10_image_82 (by decide) (fun c14 => ?_) (fun c14 => ?_)
    · have hf := g_ip c14 hf
      refine lv_iconst (v := -1) hx hb dX10_image_92 (by decide) ?_
      exact s_X10_image_J93 C hW hD0 (-1 : Int32) X12 _ _ _ hP hS (lv_sub hl [] rfl) hf
    · have hf := g_in c14 hf
      refine lv_aload_n hx hb dX10_image_85 rfl (lv_at hl 1 rfl) ?_
      refine r_get C hP ha_l0 (ct_43 _ _ _ _) fx_X10_144 (fg_43_30 _ _ _) dX10_image_86 ?_
      refine lv_goto (tgt := 93) hx hb dX10_image_89 (by decide) ?_
      exact s_X10_image_J93 C hW hD0 ((X12 43 0 30)) X12 _ _ _ hP hS (lv_sub hl [] rfl) hf
  · have hf := g_in c3 hf
    refine lv_iconst (v := 0) hx hb dX10_image_52 (by decide) ?_
    obtain ⟨rfl, rfl⟩ := g_s1 hf
    exact r_iret C hP hS dX10_image_53

set_option maxRecDepth 100000 in
set_option maxHeartbeats 4000000 in
theorem s_X10_image_J21 {p : Program} {l : Launch} {e : Env} {s : State} {m : MethodId} {args : Array Value} {below : List Frame} {meth : Method} {c : Code} {D : va_G} {cA : Nat → ClassId} {ad : Nat → Nat → Nat} {NL : List (Nat × Nat)} {A : Nat → Prop} {rr : Int32} {XX : gM} {N : Nat} (C : gCx p c meth m s args cX10_image 7 (some .int) RX10 D cA ad NL A) (hW : gWf NL) (hD0 : gD (fun _ => True) ad NL) : ∀ (p1 : Int32) (p2 : Int32) (p3 : Int32) (p4 : Int32) (p5 : Int32) (X : gM) (H : Heap) (locs : List Loc) (ls : Array Slot), gH D cA ad NL X H → va_S A s.heap H locs → lv_has ls 7 [(0, .ref (ad 43 0)), (1, .int p1), (2, .int p2), (3, .int p3), (4, .int p4), (5, .int p5)] → (43, 0) ∈ NL → (43, 0) ∈ NL → X10_image_J21 (gal NL) N p1 p2 p3 p4 p5 X = some (rr, XX) → W p l e rm_X10_image s m args below meth c H locs 0 0 (MQ below (gQ D cA ad NL (some (.int rr)) XX A) args s 0 0 A) (F0 m 21 ls [.ref (ad 43 0)]) := by
  have hx := C.1
  have hb := C.2.1
  intro p1 p2 p3 p4 p5 X H locs ls hP hS hl ha_l0 ha_s0 hf
  rw [X10_image_J21] at hf
  refine lv_iconst (v := 1) hx hb dX10_image_21 (by decide) ?_
  refine lv_goto (tgt := 42) hx hb dX10_image_22 (by decide) ?_
  exact s_X10_image_J42 C hW hD0 p1 p2 p3 p4 p5 (1 : Int32) X _ _ _ hP hS (lv_sub hl [0, 1, 2, 3, 4, 5] rfl) ha_l0 ha_s0 hf

set_option maxRecDepth 100000 in
set_option maxHeartbeats 4000000 in
theorem w_X10_image {p : Program} {l : Launch} {e : Env} {s : State} {m : MethodId} {args : Array Value} {below : List Frame} {meth : Method} {c : Code} {D : va_G} {cA : Nat → ClassId} {ad : Nat → Nat → Nat} {NL : List (Nat × Nat)} {A : Nat → Prop} {rr : Int32} {XX : gM} {N : Nat} (C : gCx p c meth m s args cX10_image 7 (some .int) RX10 D cA ad NL A) (hW : gWf NL) (hD0 : gD (fun _ => True) ad NL) {p1 : Int32} {p2 : Int32} {p3 : Int32} {p4 : Int32} {p5 : Int32} (ha_l0 : (43, 0) ∈ NL) : ∀ (X : gM) (H : Heap) (locs : List Loc) (ls : Array Slot), gH D cA ad NL X H → va_S A s.heap H locs → lv_has ls 7 [(0, .ref (ad 43 0)), (1, .int p1), (2, .int p2), (3, .int p3), (4, .int p4), (5, .int p5)] → X10_image (gal NL) N p1 p2 p3 p4 p5 X = some (rr, XX) → W p l e rm_X10_image s m args below meth c H locs 0 0 (MQ below (gQ D cA ad NL (some (.int rr)) XX A) args s 0 0 A) (F0 m 0 ls []) := by
  have hx := C.1
  have hb := C.2.1
  intro X H locs ls hP hS hl hf
  rw [X10_image] at hf
  refine lv_aload_n hx hb dX10_image_0 rfl (lv_at hl 0 rfl) ?_
  refine lv_aload_n hx hb dX10_image_1 rfl (lv_at hl 0 rfl) ?_
  refine lv_iload_n hx hb dX10_image_2 rfl (lv_at hl 1 rfl) ?_
  refine lv_iload_n hx hb dX10_image_3 rfl (lv_at hl 2 rfl) ?_
  refine lv_iload_n hx hb dX10_image_4 rfl (lv_at hl 3 rfl) ?_
  obtain ⟨r1, X2, h3, hf⟩ := b2_in hf
  refine r_cVi (rest := [.ref (ad 43 0)]) C hP hS hl.1 (s_X10_isCell hW hD0 ha_l0 h3) ix_X10_isCell iv_X10_isCell lk_X10_150 ⟨rfl, rfl, Nat.le_of_ble_eq_true rfl, Nat.le_of_ble_eq_true rfl⟩ ha_l0 (ct_43 _ _ _ _) rfl rfl rfl rfl (Nat.le_of_ble_eq_true rfl) ⟨Nat.zero_le _, Nat.zero_le _⟩ dX10_image_5 (fun H locs hP hS => ?_)
  refine lv_if_eq (tgt := 21) hx hb dX10_image_8 (by decide) (fun c4 => ?_) (fun c4 => ?_)
  · have hf := g_ip c4 hf
    exact s_X10_image_J21 C hW hD0 p1 p2 p3 p4 p5 X2 _ _ _ hP hS (lv_sub hl [0, 1, 2, 3, 4, 5] rfl) ha_l0 ha_l0 hf
  · have hf := g_in c4 hf
    refine lv_iload hx hb dX10_image_11 (lv_at hl 4 rfl) ?_
    refine lv_iconst (v := 0) hx hb dX10_image_13 (by decide) ?_
    refine lv_iconst (v := 2) hx hb dX10_image_14 (by decide) ?_
    obtain ⟨r5, X6, h7, hf⟩ := b2_in hf
    refine r_cSi (rest := [.ref (ad 43 0)]) C hP hS hl.1 (s_X10_in hW hD0  h7) ix_X10_in is_X10_in ls_X10_129 ⟨rfl, rfl, Nat.le_of_ble_eq_true rfl, Nat.le_of_ble_eq_true rfl⟩ rfl rfl (Nat.le_of_ble_eq_true rfl) ⟨Nat.zero_le _, Nat.zero_le _⟩ dX10_image_15 (fun H locs hP hS => ?_)
    refine lv_if_ne (tgt := 25) hx hb dX10_image_18 (by decide) (fun c8 => ?_) (fun c8 => ?_)
    · have hf := g_in c8 hf
      refine lv_iload hx hb dX10_image_25 (lv_at hl 5 rfl) ?_
      refine lv_iconst (v := -1) hx hb dX10_image_27 (by decide) ?_
      refine lv_sipush (v := 162) hx hb dX10_image_28 (by decide) ?_
      obtain ⟨r9, X10, h11, hf⟩ := b2_in hf
      refine r_cSi (rest := [.ref (ad 43 0)]) C hP hS hl.1 (s_X10_in hW hD0  h11) ix_X10_in is_X10_in ls_X10_129 ⟨rfl, rfl, Nat.le_of_ble_eq_true rfl, Nat.le_of_ble_eq_true rfl⟩ rfl rfl (Nat.le_of_ble_eq_true rfl) ⟨Nat.zero_le _, Nat.zero_le _⟩ dX10_image_31 (fun H locs hP hS => ?_)
      refine lv_if_ne (tgt := 41) hx hb dX10_image_34 (by decide) (fun c12 => ?_) (fun c12 => ?_)
      · have hf := g_in c12 hf
        refine lv_iconst (v := 0) hx hb dX10_image_41 (by decide) ?_
        exact s_X10_image_J42 C hW hD0 p1 p2 p3 p4 p5 (0 : Int32) X10 _ _ _ hP hS (lv_sub hl [0, 1, 2, 3, 4, 5] rfl) ha_l0 ha_l0 hf
      · have hf := g_ip c12 hf
        refine lv_iconst (v := 2) hx hb dX10_image_37 (by decide) ?_
        refine lv_goto (tgt := 42) hx hb dX10_image_38 (by decide) ?_
        exact s_X10_image_J42 C hW hD0 p1 p2 p3 p4 p5 (2 : Int32) X10 _ _ _ hP hS (lv_sub hl [0, 1, 2, 3, 4, 5] rfl) ha_l0 ha_l0 hf
    · have hf := g_ip c8 hf
      exact s_X10_image_J21 C hW hD0 p1 p2 p3 p4 p5 X6 _ _ _ hP hS (lv_sub hl [0, 1, 2, 3, 4, 5] rfl) ha_l0 ha_l0 hf

theorem s_X10_image {l : Launch} {D : va_G} {cA : Nat → ClassId} {ad : Nat → Nat → Nat} {NL : List (Nat × Nat)} {N : Nat} {p1 : Int32} {p2 : Int32} {p3 : Int32} {p4 : Int32} {p5 : Int32} {X : gM} {rr : Int32} {XX : gM} (hW : gWf NL) (hD0 : gD (fun _ => True) ad NL) (ha_l0 : (43, 0) ∈ NL) (hf : X10_image (gal NL) N p1 p2 p3 p4 p5 X = some (rr, XX)) : gC l yX10_image cX10_image 7 (some .int) rm_X10_image D cA ad NL [.ref (ad 43 0), .int p1, .int p2, .int p3, .int p4, .int p5] X (some (.int rr)) XX :=
  g_ofW (by decide) hD0 (Nat.le_of_ble_eq_true rfl) rfl (fun p e s m below meth c ls C hP hS hl => w_X10_image C hW hD0 ha_l0 X _ _ ls hP hS hl hf)
def rm_X10_unmix : Room := { frames := 3, cells := 0, slots := 0, locals := 66 }
set_option maxRecDepth 100000 in
set_option maxHeartbeats 4000000 in
theorem s_X10_unmix_J61 {p : Program} {l : Launch} {e : Env} {s : State} {m : MethodId} {args : Array Value} {below : List Frame} {meth : Method} {c : Code} {D : va_G} {cA : Nat → ClassId} {ad : Nat → Nat → Nat} {NL : List (Nat × Nat)} {A : Nat → Prop} {rr : Int32} {XX : gM} {N : Nat} (C : gCx p c meth m s args cX10_unmix 5 (some .int) RX10 D cA ad NL A) (hW : gWf NL) (hD0 : gD (fun _ => True) ad NL) : ∀ (s0 : Int32) (X : gM) (H : Heap) (locs : List Loc) (ls : Array Slot), gH D cA ad NL X H → va_S A s.heap H locs → lv_has ls 5 [] → X10_unmix_J61 (gal NL) N s0 X = some (rr, XX) → W p l e rm_X10_unmix s m args below meth c H locs 0 0 (MQ below (gQ D cA ad NL (some (.int rr)) XX A) args s 0 0 A) (F0 m 61 ls [.int s0]) := by
  have hx := C.1
  have hb := C.2.1
  intro s0 X H locs ls hP hS hl hf
  rw [X10_unmix_J61] at hf
  obtain ⟨rfl, rfl⟩ := g_s1 hf
  exact r_iret C hP hS dX10_unmix_61

set_option maxRecDepth 100000 in
set_option maxHeartbeats 4000000 in
theorem s_X10_unmix_J16 {p : Program} {l : Launch} {e : Env} {s : State} {m : MethodId} {args : Array Value} {below : List Frame} {meth : Method} {c : Code} {D : va_G} {cA : Nat → ClassId} {ad : Nat → Nat → Nat} {NL : List (Nat × Nat)} {A : Nat → Prop} {rr : Int32} {XX : gM} {N : Nat} (C : gCx p c meth m s args cX10_unmix 5 (some .int) RX10 D cA ad NL A) (hW : gWf NL) (hD0 : gD (fun _ => True) ad NL) : ∀ (p1 : Int32) (p2 : Int32) (p3 : Int32) (p4 : Int32) (s1 : Int32) (X : gM) (H : Heap) (locs : List Loc) (ls : Array Slot), gH D cA ad NL X H → va_S A s.heap H locs → lv_has ls 5 [(0, .ref (ad 43 0)), (1, .int p1), (2, .int p2), (3, .int p3), (4, .int p4)] → (43, 0) ∈ NL → (43, 0) ∈ NL → X10_unmix_J16 (gal NL) N p1 p2 p3 p4 s1 X = some (rr, XX) → W p l e rm_X10_unmix s m args below meth c H locs 0 0 (MQ below (gQ D cA ad NL (some (.int rr)) XX A) args s 0 0 A) (F0 m 16 ls [.int s1, .ref (ad 43 0)]) := by
  have hx := C.1
  have hb := C.2.1
  intro p1 p2 p3 p4 s1 X H locs ls hP hS hl ha_l0 ha_s0 hf
  rw [X10_unmix_J16] at hf
  refine r_put C hP hS s1 ha_s0 (ct_43 _ _ _ _) px_X10_122 (fp_43_46 _ _ _ _ _) (Nat.le_of_ble_eq_true rfl) rfl rfl dX10_unmix_16 (fun H locs hP hS => ?_)
  obtain ⟨X1, e2, hf⟩ := gl_in hf
  rw [← e2] at hP
  refine lv_aload_n hx hb dX10_unmix_19 rfl (lv_at hl 0 rfl) ?_
  refine r_get C hP ha_l0 (ct_43 _ _ _ _) fx_X10_122 (fg_43_46 _ _ _) dX10_unmix_20 ?_
  refine lv_if_le (tgt := 28) hx hb dX10_unmix_23 (by decide) (fun c3 => ?_) (fun c3 => ?_)
  · have hf := g_ip c3 hf
    refine lv_aload_n hx hb dX10_unmix_28 rfl (lv_at hl 0 rfl) ?_
    refine lv_iload_n hx hb dX10_unmix_29 rfl (lv_at hl 1 rfl) ?_
    refine lv_iload_n hx hb dX10_unmix_30 rfl (lv_at hl 2 rfl) ?_
    refine lv_iload_n hx hb dX10_unmix_31 rfl (lv_at hl 3 rfl) ?_
    obtain ⟨r4, X5, h6, hf⟩ := b2_in hf
    refine r_cSi (rest := [.ref (ad 43 0)]) C hP hS hl.1 (s_X10_cellAt hW hD0  h6) ix_X10_cellAt is_X10_cellAt ls_X10_153 ⟨rfl, rfl, Nat.le_of_ble_eq_true rfl, Nat.le_of_ble_eq_true rfl⟩ rfl rfl (Nat.le_of_ble_eq_true rfl) ⟨Nat.zero_le _, Nat.zero_le _⟩ dX10_unmix_32 (fun H locs hP hS => ?_)
    obtain ⟨r7, X8, h9, hf⟩ := b2_in hf
    refine r_cVi (rest := []) C hP hS hl.1 (s_X10_unmixes hW hD0 ha_l0 h9) ix_X10_unmixes iv_X10_unmixes lk_X10_147 ⟨rfl, rfl, Nat.le_of_ble_eq_true rfl, Nat.le_of_ble_eq_true rfl⟩ ha_l0 (ct_43 _ _ _ _) rfl rfl rfl rfl (Nat.le_of_ble_eq_true rfl) ⟨Nat.zero_le _, Nat.zero_le _⟩ dX10_unmix_35 (fun H locs hP hS => ?_)
    refine lv_if_ne (tgt := 45) hx hb dX10_unmix_38 (by decide) (fun c10 => ?_) (fun c10 => ?_)
    · have hf := g_in c10 hf
      refine lv_iload hx hb dX10_unmix_45 (lv_at hl 4 rfl) ?_
      refine lv_if_eq (tgt := 57) hx hb dX10_unmix_47 (by decide) (fun c11 => ?_) (fun c11 => ?_)
      · have hf := g_ip c11 hf
        refine lv_aload_n hx hb dX10_unmix_57 rfl (lv_at hl 0 rfl) ?_
        refine r_get C hP ha_l0 (ct_43 _ _ _ _) fx_X10_141 (fg_43_29 _ _ _) dX10_unmix_58 ?_
        exact s_X10_unmix_J61 C hW hD0 ((X8 43 0 29)) X8 _ _ _ hP hS (lv_sub hl [] rfl) hf
      · have hf := g_in c11 hf
        refine lv_aload_n hx hb dX10_unmix_50 rfl (lv_at hl 0 rfl) ?_
        refine r_get C hP ha_l0 (ct_43 _ _ _ _) fx_X10_144 (fg_43_30 _ _ _) dX10_unmix_51 ?_
        refine lv_goto (tgt := 61) hx hb dX10_unmix_54 (by decide) ?_
        exact s_X10_unmix_J61 C hW hD0 ((X8 43 0 30)) X8 _ _ _ hP hS (lv_sub hl [] rfl) hf
    · have hf := g_ip c10 hf
      refine lv_iconst (v := -1) hx hb dX10_unmix_41 (by decide) ?_
      refine lv_goto (tgt := 61) hx hb dX10_unmix_42 (by decide) ?_
      exact s_X10_unmix_J61 C hW hD0 (-1 : Int32) X8 _ _ _ hP hS (lv_sub hl [] rfl) hf
  · have hf := g_in c3 hf
    refine lv_iconst (v := 0) hx hb dX10_unmix_26 (by decide) ?_
    obtain ⟨rfl, rfl⟩ := g_s1 hf
    exact r_iret C hP hS dX10_unmix_27

set_option maxRecDepth 100000 in
set_option maxHeartbeats 4000000 in
theorem w_X10_unmix {p : Program} {l : Launch} {e : Env} {s : State} {m : MethodId} {args : Array Value} {below : List Frame} {meth : Method} {c : Code} {D : va_G} {cA : Nat → ClassId} {ad : Nat → Nat → Nat} {NL : List (Nat × Nat)} {A : Nat → Prop} {rr : Int32} {XX : gM} {N : Nat} (C : gCx p c meth m s args cX10_unmix 5 (some .int) RX10 D cA ad NL A) (hW : gWf NL) (hD0 : gD (fun _ => True) ad NL) {p1 : Int32} {p2 : Int32} {p3 : Int32} {p4 : Int32} (ha_l0 : (43, 0) ∈ NL) : ∀ (X : gM) (H : Heap) (locs : List Loc) (ls : Array Slot), gH D cA ad NL X H → va_S A s.heap H locs → lv_has ls 5 [(0, .ref (ad 43 0)), (1, .int p1), (2, .int p2), (3, .int p3), (4, .int p4)] → X10_unmix (gal NL) N p1 p2 p3 p4 X = some (rr, XX) → W p l e rm_X10_unmix s m args below meth c H locs 0 0 (MQ below (gQ D cA ad NL (some (.int rr)) XX A) args s 0 0 A) (F0 m 0 ls []) := by
  have hx := C.1
  have hb := C.2.1
  intro X H locs ls hP hS hl hf
  rw [X10_unmix] at hf
  refine lv_aload_n hx hb dX10_unmix_0 rfl (lv_at hl 0 rfl) ?_
  refine lv_aload_n hx hb dX10_unmix_1 rfl (lv_at hl 0 rfl) ?_
  refine lv_iload_n hx hb dX10_unmix_2 rfl (lv_at hl 1 rfl) ?_
  refine lv_iload_n hx hb dX10_unmix_3 rfl (lv_at hl 2 rfl) ?_
  refine lv_iload_n hx hb dX10_unmix_4 rfl (lv_at hl 3 rfl) ?_
  obtain ⟨r1, X2, h3, hf⟩ := b2_in hf
  refine r_cVi (rest := [.ref (ad 43 0)]) C hP hS hl.1 (s_X10_isCell hW hD0 ha_l0 h3) ix_X10_isCell iv_X10_isCell lk_X10_150 ⟨rfl, rfl, Nat.le_of_ble_eq_true rfl, Nat.le_of_ble_eq_true rfl⟩ ha_l0 (ct_43 _ _ _ _) rfl rfl rfl rfl (Nat.le_of_ble_eq_true rfl) ⟨Nat.zero_le _, Nat.zero_le _⟩ dX10_unmix_5 (fun H locs hP hS => ?_)
  refine lv_if_eq (tgt := 15) hx hb dX10_unmix_8 (by decide) (fun c4 => ?_) (fun c4 => ?_)
  · have hf := g_ip c4 hf
    refine lv_iconst (v := 1) hx hb dX10_unmix_15 (by decide) ?_
    exact s_X10_unmix_J16 C hW hD0 p1 p2 p3 p4 (1 : Int32) X2 _ _ _ hP hS (lv_sub hl [0, 1, 2, 3, 4] rfl) ha_l0 ha_l0 hf
  · have hf := g_in c4 hf
    refine lv_iconst (v := 0) hx hb dX10_unmix_11 (by decide) ?_
    refine lv_goto (tgt := 16) hx hb dX10_unmix_12 (by decide) ?_
    exact s_X10_unmix_J16 C hW hD0 p1 p2 p3 p4 (0 : Int32) X2 _ _ _ hP hS (lv_sub hl [0, 1, 2, 3, 4] rfl) ha_l0 ha_l0 hf

theorem s_X10_unmix {l : Launch} {D : va_G} {cA : Nat → ClassId} {ad : Nat → Nat → Nat} {NL : List (Nat × Nat)} {N : Nat} {p1 : Int32} {p2 : Int32} {p3 : Int32} {p4 : Int32} {X : gM} {rr : Int32} {XX : gM} (hW : gWf NL) (hD0 : gD (fun _ => True) ad NL) (ha_l0 : (43, 0) ∈ NL) (hf : X10_unmix (gal NL) N p1 p2 p3 p4 X = some (rr, XX)) : gC l yX10_unmix cX10_unmix 5 (some .int) rm_X10_unmix D cA ad NL [.ref (ad 43 0), .int p1, .int p2, .int p3, .int p4] X (some (.int rr)) XX :=
  g_ofW (by decide) hD0 (Nat.le_of_ble_eq_true rfl) rfl (fun p e s m below meth c ls C hP hS hl => w_X10_unmix C hW hD0 ha_l0 X _ _ ls hP hS hl hf)
def rm_X10_give : Room := { frames := 3, cells := 0, slots := 0, locals := 66 }
set_option maxRecDepth 100000 in
set_option maxHeartbeats 4000000 in
theorem s_X10_give_J231 {p : Program} {l : Launch} {e : Env} {s : State} {m : MethodId} {args : Array Value} {below : List Frame} {meth : Method} {c : Code} {D : va_G} {cA : Nat → ClassId} {ad : Nat → Nat → Nat} {NL : List (Nat × Nat)} {A : Nat → Prop} {rr : Int32} {XX : gM} {N : Nat} (C : gCx p c meth m s args cX10_give 11 (some .int) RX10 D cA ad NL A) (hW : gWf NL) (hD0 : gD (fun _ => True) ad NL) : ∀ (s0 : Int32) (s1 : Int32) (X : gM) (H : Heap) (locs : List Loc) (ls : Array Slot), gH D cA ad NL X H → va_S A s.heap H locs → lv_has ls 11 [] → X10_give_J231 (gal NL) N s0 s1 X = some (rr, XX) → W p l e rm_X10_give s m args below meth c H locs 0 0 (MQ below (gQ D cA ad NL (some (.int rr)) XX A) args s 0 0 A) (F0 m 231 ls [.int s1, .int s0]) := by
  have hx := C.1
  have hb := C.2.1
  intro s0 s1 X H locs ls hP hS hl hf
  rw [X10_give_J231] at hf
  refine lv_isub hx hb dX10_give_231 ?_
  obtain ⟨rfl, rfl⟩ := g_s1 hf
  exact r_iret C hP hS dX10_give_232

set_option maxRecDepth 100000 in
set_option maxHeartbeats 4000000 in
theorem s_X10_give_J230 {p : Program} {l : Launch} {e : Env} {s : State} {m : MethodId} {args : Array Value} {below : List Frame} {meth : Method} {c : Code} {D : va_G} {cA : Nat → ClassId} {ad : Nat → Nat → Nat} {NL : List (Nat × Nat)} {A : Nat → Prop} {rr : Int32} {XX : gM} {N : Nat} (C : gCx p c meth m s args cX10_give 11 (some .int) RX10 D cA ad NL A) (hW : gWf NL) (hD0 : gD (fun _ => True) ad NL) : ∀ (s0 : Int32) (X : gM) (H : Heap) (locs : List Loc) (ls : Array Slot), gH D cA ad NL X H → va_S A s.heap H locs → lv_has ls 11 [] → X10_give_J230 (gal NL) N s0 X = some (rr, XX) → W p l e rm_X10_give s m args below meth c H locs 0 0 (MQ below (gQ D cA ad NL (some (.int rr)) XX A) args s 0 0 A) (F0 m 230 ls [.int s0]) := by
  have hx := C.1
  have hb := C.2.1
  intro s0 X H locs ls hP hS hl hf
  rw [X10_give_J230] at hf
  refine lv_iconst (v := 0) hx hb dX10_give_230 (by decide) ?_
  exact s_X10_give_J231 C hW hD0 s0 (0 : Int32) X _ _ _ hP hS (lv_sub hl [] rfl) hf

set_option maxRecDepth 100000 in
set_option maxHeartbeats 4000000 in
theorem s_X10_give_J215 {p : Program} {l : Launch} {e : Env} {s : State} {m : MethodId} {args : Array Value} {below : List Frame} {meth : Method} {c : Code} {D : va_G} {cA : Nat → ClassId} {ad : Nat → Nat → Nat} {NL : List (Nat × Nat)} {A : Nat → Prop} {rr : Int32} {XX : gM} {N : Nat} (C : gCx p c meth m s args cX10_give 11 (some .int) RX10 D cA ad NL A) (hW : gWf NL) (hD0 : gD (fun _ => True) ad NL) : ∀ (p6 : Int32) (p10 : Int32) (s0 : Int32) (s1 : Int32) (X : gM) (H : Heap) (locs : List Loc) (ls : Array Slot), gH D cA ad NL X H → va_S A s.heap H locs → lv_has ls 11 [(6, .int p6), (10, .int p10)] → X10_give_J215 (gal NL) N p6 p10 s0 s1 X = some (rr, XX) → W p l e rm_X10_give s m args below meth c H locs 0 0 (MQ below (gQ D cA ad NL (some (.int rr)) XX A) args s 0 0 A) (F0 m 215 ls [.int s1, .int s0]) := by
  have hx := C.1
  have hb := C.2.1
  intro p6 p10 s0 s1 X H locs ls hP hS hl hf
  rw [X10_give_J215] at hf
  refine lv_iadd hx hb dX10_give_215 ?_
  refine lv_iload hx hb dX10_give_216 (lv_at hl 0 rfl) ?_
  refine lv_if_ne (tgt := 230) hx hb dX10_give_218 (by decide) (fun c1 => ?_) (fun c1 => ?_)
  · have hf := g_in c1 hf
    exact s_X10_give_J230 C hW hD0 ((s0 + s1)) X _ _ _ hP hS (lv_sub hl [] rfl) hf
  · have hf := g_ip c1 hf
    refine lv_iload hx hb dX10_give_221 (lv_at hl 1 rfl) ?_
    refine lv_if_eq (tgt := 230) hx hb dX10_give_223 (by decide) (fun c2 => ?_) (fun c2 => ?_)
    · have hf := g_ip c2 hf
      exact s_X10_give_J230 C hW hD0 ((s0 + s1)) X _ _ _ hP hS (lv_sub hl [] rfl) hf
    · have hf := g_in c2 hf
      refine lv_iconst (v := 1) hx hb dX10_give_226 (by decide) ?_
      refine lv_goto (tgt := 231) hx hb dX10_give_227 (by decide) ?_
      exact s_X10_give_J231 C hW hD0 ((s0 + s1)) (1 : Int32) X _ _ _ hP hS (lv_sub hl [] rfl) hf

set_option maxRecDepth 100000 in
set_option maxHeartbeats 4000000 in
theorem s_X10_give_J214 {p : Program} {l : Launch} {e : Env} {s : State} {m : MethodId} {args : Array Value} {below : List Frame} {meth : Method} {c : Code} {D : va_G} {cA : Nat → ClassId} {ad : Nat → Nat → Nat} {NL : List (Nat × Nat)} {A : Nat → Prop} {rr : Int32} {XX : gM} {N : Nat} (C : gCx p c meth m s args cX10_give 11 (some .int) RX10 D cA ad NL A) (hW : gWf NL) (hD0 : gD (fun _ => True) ad NL) : ∀ (p6 : Int32) (p10 : Int32) (s0 : Int32) (X : gM) (H : Heap) (locs : List Loc) (ls : Array Slot), gH D cA ad NL X H → va_S A s.heap H locs → lv_has ls 11 [(6, .int p6), (10, .int p10)] → X10_give_J214 (gal NL) N p6 p10 s0 X = some (rr, XX) → W p l e rm_X10_give s m args below meth c H locs 0 0 (MQ below (gQ D cA ad NL (some (.int rr)) XX A) args s 0 0 A) (F0 m 214 ls [.int s0]) := by
  have hx := C.1
  have hb := C.2.1
  intro p6 p10 s0 X H locs ls hP hS hl hf
  rw [X10_give_J214] at hf
  refine lv_iconst (v := 0) hx hb dX10_give_214 (by decide) ?_
  exact s_X10_give_J215 C hW hD0 p6 p10 s0 (0 : Int32) X _ _ _ hP hS (lv_sub hl [0, 1] rfl) hf

set_option maxRecDepth 100000 in
set_option maxHeartbeats 4000000 in
theorem s_X10_give_J174 {p : Program} {l : Launch} {e : Env} {s : State} {m : MethodId} {args : Array Value} {below : List Frame} {meth : Method} {c : Code} {D : va_G} {cA : Nat → ClassId} {ad : Nat → Nat → Nat} {NL : List (Nat × Nat)} {A : Nat → Prop} {rr : Int32} {XX : gM} {N : Nat} (C : gCx p c meth m s args cX10_give 11 (some .int) RX10 D cA ad NL A) (hW : gWf NL) (hD0 : gD (fun _ => True) ad NL) : ∀ (p5 : Int32) (p6 : Int32) (p8 : Int32) (p9 : Int32) (p10 : Int32) (s1 : Int32) (X : gM) (H : Heap) (locs : List Loc) (ls : Array Slot), gH D cA ad NL X H → va_S A s.heap H locs → lv_has ls 11 [(0, .ref (ad 43 0)), (5, .int p5), (6, .int p6), (8, .int p8), (9, .int p9), (10, .int p10)] → (43, 0) ∈ NL → (43, 0) ∈ NL → X10_give_J174 (gal NL) N p5 p6 p8 p9 p10 s1 X = some (rr, XX) → W p l e rm_X10_give s m args below meth c H locs 0 0 (MQ below (gQ D cA ad NL (some (.int rr)) XX A) args s 0 0 A) (F0 m 174 ls [.int s1, .ref (ad 43 0)]) := by
  have hx := C.1
  have hb := C.2.1
  intro p5 p6 p8 p9 p10 s1 X H locs ls hP hS hl ha_l0 ha_s0 hf
  rw [X10_give_J174] at hf
  refine r_put C hP hS s1 ha_s0 (ct_43 _ _ _ _) px_X10_122 (fp_43_46 _ _ _ _ _) (Nat.le_of_ble_eq_true rfl) rfl rfl dX10_give_174 (fun H locs hP hS => ?_)
  obtain ⟨X1, e2, hf⟩ := gl_in hf
  rw [← e2] at hP
  refine lv_aload_n hx hb dX10_give_177 rfl (lv_at hl 0 rfl) ?_
  refine r_get C hP ha_l0 (ct_43 _ _ _ _) fx_X10_122 (fg_43_46 _ _ _) dX10_give_178 ?_
  refine lv_if_le (tgt := 186) hx hb dX10_give_181 (by decide) (fun c3 => ?_) (fun c3 => ?_)
  · have hf := g_ip c3 hf
    refine lv_aload_n hx hb dX10_give_186 rfl (lv_at hl 0 rfl) ?_
    refine r_get C hP ha_l0 (ct_43 _ _ _ _) fx_X10_49 (fg_43_14 _ _ _) dX10_give_187 ?_
    refine lv_iload hx hb dX10_give_190 (lv_at hl 3 rfl) ?_
    refine lv_iload hx hb dX10_give_192 (lv_at hl 1 rfl) ?_
    refine lv_iadd hx hb dX10_give_194 ?_
    refine lv_iload hx hb dX10_give_195 (lv_at hl 2 rfl) ?_
    obtain ⟨j4, h5, hf⟩ := rd_in hf
    refine r_iast C hP hS (gs_43_14 hW ha_l0) (fun _ => ct_57 _ _ _ _) h5 dX10_give_197 (fun H locs hP hS => ?_)
    obtain ⟨X6, e7, hf⟩ := gl_in hf
    rw [← e7] at hP
    refine lv_iload hx hb dX10_give_198 (lv_at hl 4 rfl) ?_
    refine lv_iload hx hb dX10_give_200 (lv_at hl 2 rfl) ?_
    refine lv_if_le (tgt := 214) hx hb dX10_give_202 (by decide) (fun c8 => ?_) (fun c8 => ?_)
    · have hf := g_ip c8 hf
      exact s_X10_give_J214 C hW hD0 p6 p10 p9 X6 _ _ _ hP hS (lv_sub hl [2, 5] rfl) hf
    · have hf := g_in c8 hf
      refine lv_iload hx hb dX10_give_205 (lv_at hl 5 rfl) ?_
      refine lv_if_ne (tgt := 214) hx hb dX10_give_207 (by decide) (fun c9 => ?_) (fun c9 => ?_)
      · have hf := g_in c9 hf
        exact s_X10_give_J214 C hW hD0 p6 p10 p9 X6 _ _ _ hP hS (lv_sub hl [2, 5] rfl) hf
      · have hf := g_ip c9 hf
        refine lv_iconst (v := 1) hx hb dX10_give_210 (by decide) ?_
        refine lv_goto (tgt := 215) hx hb dX10_give_211 (by decide) ?_
        exact s_X10_give_J215 C hW hD0 p6 p10 p9 (1 : Int32) X6 _ _ _ hP hS (lv_sub hl [2, 5] rfl) hf
  · have hf := g_in c3 hf
    refine lv_iconst (v := 0) hx hb dX10_give_184 (by decide) ?_
    obtain ⟨rfl, rfl⟩ := g_s1 hf
    exact r_iret C hP hS dX10_give_185

set_option maxRecDepth 100000 in
set_option maxHeartbeats 4000000 in
theorem s_X10_give_J173 {p : Program} {l : Launch} {e : Env} {s : State} {m : MethodId} {args : Array Value} {below : List Frame} {meth : Method} {c : Code} {D : va_G} {cA : Nat → ClassId} {ad : Nat → Nat → Nat} {NL : List (Nat × Nat)} {A : Nat → Prop} {rr : Int32} {XX : gM} {N : Nat} (C : gCx p c meth m s args cX10_give 11 (some .int) RX10 D cA ad NL A) (hW : gWf NL) (hD0 : gD (fun _ => True) ad NL) : ∀ (p5 : Int32) (p6 : Int32) (p8 : Int32) (p9 : Int32) (p10 : Int32) (X : gM) (H : Heap) (locs : List Loc) (ls : Array Slot), gH D cA ad NL X H → va_S A s.heap H locs → lv_has ls 11 [(0, .ref (ad 43 0)), (5, .int p5), (6, .int p6), (8, .int p8), (9, .int p9), (10, .int p10)] → (43, 0) ∈ NL → (43, 0) ∈ NL → X10_give_J173 (gal NL) N p5 p6 p8 p9 p10 X = some (rr, XX) → W p l e rm_X10_give s m args below meth c H locs 0 0 (MQ below (gQ D cA ad NL (some (.int rr)) XX A) args s 0 0 A) (F0 m 173 ls [.ref (ad 43 0)]) := by
  have hx := C.1
  have hb := C.2.1
  intro p5 p6 p8 p9 p10 X H locs ls hP hS hl ha_l0 ha_s0 hf
  rw [X10_give_J173] at hf
  refine lv_iconst (v := 0) hx hb dX10_give_173 (by decide) ?_
  exact s_X10_give_J174 C hW hD0 p5 p6 p8 p9 p10 (0 : Int32) X _ _ _ hP hS (lv_sub hl [0, 1, 2, 3, 4, 5] rfl) ha_l0 ha_s0 hf

set_option maxRecDepth 100000 in
set_option maxHeartbeats 4000000 in
theorem s_X10_give_J169 {p : Program} {l : Launch} {e : Env} {s : State} {m : MethodId} {args : Array Value} {below : List Frame} {meth : Method} {c : Code} {D : va_G} {cA : Nat → ClassId} {ad : Nat → Nat → Nat} {NL : List (Nat × Nat)} {A : Nat → Prop} {rr : Int32} {XX : gM} {N : Nat} (C : gCx p c meth m s args cX10_give 11 (some .int) RX10 D cA ad NL A) (hW : gWf NL) (hD0 : gD (fun _ => True) ad NL) : ∀ (p5 : Int32) (p6 : Int32) (p8 : Int32) (p9 : Int32) (p10 : Int32) (X : gM) (H : Heap) (locs : List Loc) (ls : Array Slot), gH D cA ad NL X H → va_S A s.heap H locs → lv_has ls 11 [(0, .ref (ad 43 0)), (5, .int p5), (6, .int p6), (8, .int p8), (9, .int p9), (10, .int p10)] → (43, 0) ∈ NL → (43, 0) ∈ NL → X10_give_J169 (gal NL) N p5 p6 p8 p9 p10 X = some (rr, XX) → W p l e rm_X10_give s m args below meth c H locs 0 0 (MQ below (gQ D cA ad NL (some (.int rr)) XX A) args s 0 0 A) (F0 m 169 ls [.ref (ad 43 0)]) := by
  have hx := C.1
  have hb := C.2.1
  intro p5 p6 p8 p9 p10 X H locs ls hP hS hl ha_l0 ha_s0 hf
  rw [X10_give_J169] at hf
  refine lv_iconst (v := 3) hx hb dX10_give_169 (by decide) ?_
  refine lv_goto (tgt := 174) hx hb dX10_give_170 (by decide) ?_
  exact s_X10_give_J174 C hW hD0 p5 p6 p8 p9 p10 (3 : Int32) X _ _ _ hP hS (lv_sub hl [0, 1, 2, 3, 4, 5] rfl) ha_l0 ha_s0 hf

set_option maxRecDepth 100000 in
set_option maxHeartbeats 4000000 in
theorem s_X10_give_J146 {p : Program} {l : Launch} {e : Env} {s : State} {m : MethodId} {args : Array Value} {below : List Frame} {meth : Method} {c : Code} {D : va_G} {cA : Nat → ClassId} {ad : Nat → Nat → Nat} {NL : List (Nat × Nat)} {A : Nat → Prop} {rr : Int32} {XX : gM} {N : Nat} (C : gCx p c meth m s args cX10_give 11 (some .int) RX10 D cA ad NL A) (hW : gWf NL) (hD0 : gD (fun _ => True) ad NL) : ∀ (p5 : Int32) (p6 : Int32) (p7 : Int32) (p8 : Int32) (p9 : Int32) (s0 : Int32) (X : gM) (H : Heap) (locs : List Loc) (ls : Array Slot), gH D cA ad NL X H → va_S A s.heap H locs → lv_has ls 11 [(0, .ref (ad 43 0)), (5, .int p5), (6, .int p6), (7, .int p7), (8, .int p8), (9, .int p9)] → (43, 0) ∈ NL → X10_give_J146 (gal NL) N p5 p6 p7 p8 p9 s0 X = some (rr, XX) → W p l e rm_X10_give s m args below meth c H locs 0 0 (MQ below (gQ D cA ad NL (some (.int rr)) XX A) args s 0 0 A) (F0 m 146 ls [.int s0]) := by
  have hx := C.1
  have hb := C.2.1
  intro p5 p6 p7 p8 p9 s0 X H locs ls hP hS hl ha_l0 hf
  rw [X10_give_J146] at hf
  refine lv_istore (i := 10) (lv' := [(10, .int s0), (0, .ref (ad 43 0)), (5, .int p5), (6, .int p6), (7, .int p7), (8, .int p8), (9, .int p9)]) hx hb dX10_give_146 hl (Nat.le_of_ble_eq_true rfl) rfl (fun ls hl => ?_)
  refine lv_aload_n hx hb dX10_give_148 rfl (lv_at hl 1 rfl) ?_
  refine lv_aload_n hx hb dX10_give_149 rfl (lv_at hl 1 rfl) ?_
  refine lv_iload hx hb dX10_give_150 (lv_at hl 4 rfl) ?_
  obtain ⟨r1, X2, h3, hf⟩ := b2_in hf
  refine r_cVi (rest := [.ref (ad 43 0)]) C hP hS hl.1 (s_X10_isBlankCell hW hD0 ha_l0 h3) ix_X10_isBlankCell iv_X10_isBlankCell lk_X10_157 ⟨rfl, rfl, Nat.le_of_ble_eq_true rfl, Nat.le_of_ble_eq_true rfl⟩ ha_l0 (ct_43 _ _ _ _) rfl rfl rfl rfl (Nat.le_of_ble_eq_true rfl) ⟨Nat.zero_le _, Nat.zero_le _⟩ dX10_give_152 (fun H locs hP hS => ?_)
  refine lv_if_ne (tgt := 169) hx hb dX10_give_155 (by decide) (fun c4 => ?_) (fun c4 => ?_)
  · have hf := g_in c4 hf
    exact s_X10_give_J169 C hW hD0 p5 p6 p8 p9 s0 X2 _ _ _ hP hS (lv_sub hl [1, 2, 3, 5, 6, 0] rfl) ha_l0 ha_l0 hf
  · have hf := g_ip c4 hf
    refine lv_iload hx hb dX10_give_158 (lv_at hl 0 rfl) ?_
    refine lv_if_ne (tgt := 173) hx hb dX10_give_160 (by decide) (fun c5 => ?_) (fun c5 => ?_)
    · have hf := g_in c5 hf
      exact s_X10_give_J173 C hW hD0 p5 p6 p8 p9 s0 X2 _ _ _ hP hS (lv_sub hl [1, 2, 3, 5, 6, 0] rfl) ha_l0 ha_l0 hf
    · have hf := g_ip c5 hf
      refine lv_iload hx hb dX10_give_163 (lv_at hl 6 rfl) ?_
      refine lv_iconst (v := 3) hx hb dX10_give_165 (by decide) ?_
      refine lv_icmp_ne (tgt := 173) hx hb dX10_give_166 (by decide) (fun c6 => ?_) (fun c6 => ?_)
      · have hf := g_in c6 hf
        exact s_X10_give_J173 C hW hD0 p5 p6 p8 p9 s0 X2 _ _ _ hP hS (lv_sub hl [1, 2, 3, 5, 6, 0] rfl) ha_l0 ha_l0 hf
      · have hf := g_ip c6 hf
        exact s_X10_give_J169 C hW hD0 p5 p6 p8 p9 s0 X2 _ _ _ hP hS (lv_sub hl [1, 2, 3, 5, 6, 0] rfl) ha_l0 ha_l0 hf

set_option maxRecDepth 100000 in
set_option maxHeartbeats 4000000 in
theorem s_X10_give_J128 {p : Program} {l : Launch} {e : Env} {s : State} {m : MethodId} {args : Array Value} {below : List Frame} {meth : Method} {c : Code} {D : va_G} {cA : Nat → ClassId} {ad : Nat → Nat → Nat} {NL : List (Nat × Nat)} {A : Nat → Prop} {rr : Int32} {XX : gM} {N : Nat} (C : gCx p c meth m s args cX10_give 11 (some .int) RX10 D cA ad NL A) (hW : gWf NL) (hD0 : gD (fun _ => True) ad NL) : ∀ (p5 : Int32) (p6 : Int32) (p7 : Int32) (p8 : Int32) (p9 : Int32) (X : gM) (H : Heap) (locs : List Loc) (ls : Array Slot), gH D cA ad NL X H → va_S A s.heap H locs → lv_has ls 11 [(0, .ref (ad 43 0)), (5, .int p5), (6, .int p6), (7, .int p7), (8, .int p8), (9, .int p9)] → (43, 0) ∈ NL → X10_give_J128 (gal NL) N p5 p6 p7 p8 p9 X = some (rr, XX) → W p l e rm_X10_give s m args below meth c H locs 0 0 (MQ below (gQ D cA ad NL (some (.int rr)) XX A) args s 0 0 A) (F0 m 128 ls []) := by
  have hx := C.1
  have hb := C.2.1
  intro p5 p6 p7 p8 p9 X H locs ls hP hS hl ha_l0 hf
  rw [X10_give_J128] at hf
  refine lv_aload_n hx hb dX10_give_128 rfl (lv_at hl 0 rfl) ?_
  refine r_get C hP ha_l0 (ct_43 _ _ _ _) fx_X10_49 (fg_43_14 _ _ _) dX10_give_129 ?_
  refine lv_iload hx hb dX10_give_132 (lv_at hl 4 rfl) ?_
  refine lv_iload hx hb dX10_give_134 (lv_at hl 1 rfl) ?_
  refine lv_iadd hx hb dX10_give_136 ?_
  obtain ⟨j1, h2, hf⟩ := rd_in hf
  refine r_iald C hP (gs_43_14 hW ha_l0) (ct_57 _ _ _ _) h2 dX10_give_137 ?_
  refine lv_if_le (tgt := 145) hx hb dX10_give_138 (by decide) (fun c3 => ?_) (fun c3 => ?_)
  · have hf := g_ip c3 hf
    refine lv_iconst (v := 0) hx hb dX10_give_145 (by decide) ?_
    exact s_X10_give_J146 C hW hD0 p5 p6 p7 p8 p9 (0 : Int32) X _ _ _ hP hS (lv_sub hl [0, 1, 2, 3, 4, 5] rfl) ha_l0 hf
  · have hf := g_in c3 hf
    refine lv_iconst (v := 1) hx hb dX10_give_141 (by decide) ?_
    refine lv_goto (tgt := 146) hx hb dX10_give_142 (by decide) ?_
    exact s_X10_give_J146 C hW hD0 p5 p6 p7 p8 p9 (1 : Int32) X _ _ _ hP hS (lv_sub hl [0, 1, 2, 3, 4, 5] rfl) ha_l0 hf

set_option maxRecDepth 100000 in
set_option maxHeartbeats 4000000 in
theorem s_X10_give_J119 {p : Program} {l : Launch} {e : Env} {s : State} {m : MethodId} {args : Array Value} {below : List Frame} {meth : Method} {c : Code} {D : va_G} {cA : Nat → ClassId} {ad : Nat → Nat → Nat} {NL : List (Nat × Nat)} {A : Nat → Prop} {rr : Int32} {XX : gM} {N : Nat} {kk : Int32 → Int32 → Int32 → Int32 → Int32 → Int32 → gM → Option (Int32 × gM)} {k128 : Int32 → Int32 → Int32 → Int32 → Int32 → gM → Option (Int32 × gM)} (C : gCx p c meth m s args cX10_give 11 (some .int) RX10 D cA ad NL A) (hW : gWf NL) (hD0 : gD (fun _ => True) ad NL) (hkk : ∀ (p5 : Int32) (p6 : Int32) (p7 : Int32) (p8 : Int32) (p9 : Int32) (p10 : Int32) (Y : gM) (H : Heap) (locs : List Loc) (ls : Array Slot), gH D cA ad NL Y H → va_S A s.heap H locs → lv_has ls 11 [(0, .ref (ad 43 0)), (5, .int p5), (6, .int p6), (7, .int p7), (8, .int p8), (9, .int p9), (10, .int p10)] → (43, 0) ∈ NL → kk p5 p6 p7 p8 p9 p10 Y = some (rr, XX) → W p l e rm_X10_give s m args below meth c H locs 0 0 (MQ below (gQ D cA ad NL (some (.int rr)) XX A) args s 0 0 A) (F0 m 92 ls [])) (hk128 : ∀ (p5 : Int32) (p6 : Int32) (p7 : Int32) (p8 : Int32) (p9 : Int32) (Y : gM) (H : Heap) (locs : List Loc) (ls : Array Slot), gH D cA ad NL Y H → va_S A s.heap H locs → lv_has ls 11 [(0, .ref (ad 43 0)), (5, .int p5), (6, .int p6), (7, .int p7), (8, .int p8), (9, .int p9)] → (43, 0) ∈ NL → k128 p5 p6 p7 p8 p9 Y = some (rr, XX) → W p l e rm_X10_give s m args below meth c H locs 0 0 (MQ below (gQ D cA ad NL (some (.int rr)) XX A) args s 0 0 A) (F0 m 128 ls [])) : ∀ (p5 : Int32) (p6 : Int32) (p7 : Int32) (p8 : Int32) (p10 : Int32) (s0 : Int32) (s1 : Int32) (X : gM) (H : Heap) (locs : List Loc) (ls : Array Slot), gH D cA ad NL X H → va_S A s.heap H locs → lv_has ls 11 [(0, .ref (ad 43 0)), (5, .int p5), (6, .int p6), (7, .int p7), (8, .int p8), (10, .int p10)] → (43, 0) ∈ NL → X10_give_J119 (gal NL) N kk k128 p5 p6 p7 p8 p10 s0 s1 X = some (rr, XX) → W p l e rm_X10_give s m args below meth c H locs 0 0 (MQ below (gQ D cA ad NL (some (.int rr)) XX A) args s 0 0 A) (F0 m 119 ls [.int s1, .int s0]) := by
  have hx := C.1
  have hb := C.2.1
  intro p5 p6 p7 p8 p10 s0 s1 X H locs ls hP hS hl ha_l0 hf
  rw [X10_give_J119] at hf
  refine lv_iadd hx hb dX10_give_119 ?_
  refine g_top hf (fun v1 e2 hf => ?_)
  refine lv_istore (i := 9) (lv' := [(9, .int v1), (0, .ref (ad 43 0)), (5, .int p5), (6, .int p6), (7, .int p7), (8, .int p8), (10, .int p10)]) hx hb dX10_give_120 hl (Nat.le_of_ble_eq_true rfl) rfl (fun ls hl => ?_)
  obtain ⟨v3, e4, hf⟩ := gl_in hf
  refine lv_iinc (v := v3) (lv' := [(10, .int v3), (9, .int v1), (0, .ref (ad 43 0)), (5, .int p5), (6, .int p6), (7, .int p7), (8, .int p8)]) hx hb dX10_give_122 hl (k := 6) rfl (by rw [e4]; rfl) (Nat.le_of_ble_eq_true rfl) rfl (fun ls hl => ?_)
  refine lv_goto (tgt := 92) hx hb dX10_give_125 (by decide) ?_
  exact hkk p5 p6 p7 p8 v1 v3 X _ _ _ hP hS (lv_sub hl [2, 3, 4, 5, 6, 1, 0] rfl) ha_l0 hf

set_option maxRecDepth 100000 in
set_option maxHeartbeats 4000000 in
theorem s_X10_give_L92 {p : Program} {l : Launch} {e : Env} {s : State} {m : MethodId} {args : Array Value} {below : List Frame} {meth : Method} {c : Code} {D : va_G} {cA : Nat → ClassId} {ad : Nat → Nat → Nat} {NL : List (Nat × Nat)} {A : Nat → Prop} {rr : Int32} {XX : gM} {N : Nat} {k128 : Int32 → Int32 → Int32 → Int32 → Int32 → gM → Option (Int32 × gM)} (C : gCx p c meth m s args cX10_give 11 (some .int) RX10 D cA ad NL A) (hW : gWf NL) (hD0 : gD (fun _ => True) ad NL) (hk128 : ∀ (p5 : Int32) (p6 : Int32) (p7 : Int32) (p8 : Int32) (p9 : Int32) (Y : gM) (H : Heap) (locs : List Loc) (ls : Array Slot), gH D cA ad NL Y H → va_S A s.heap H locs → lv_has ls 11 [(0, .ref (ad 43 0)), (5, .int p5), (6, .int p6), (7, .int p7), (8, .int p8), (9, .int p9)] → (43, 0) ∈ NL → k128 p5 p6 p7 p8 p9 Y = some (rr, XX) → W p l e rm_X10_give s m args below meth c H locs 0 0 (MQ below (gQ D cA ad NL (some (.int rr)) XX A) args s 0 0 A) (F0 m 128 ls [])) : ∀ (n : Nat) (p5 : Int32) (p6 : Int32) (p7 : Int32) (p8 : Int32) (p9 : Int32) (p10 : Int32) (X : gM) (H : Heap) (locs : List Loc) (ls : Array Slot), gH D cA ad NL X H → va_S A s.heap H locs → lv_has ls 11 [(0, .ref (ad 43 0)), (5, .int p5), (6, .int p6), (7, .int p7), (8, .int p8), (9, .int p9), (10, .int p10)] → (43, 0) ∈ NL → X10_give_L92 (gal NL) N k128 n p5 p6 p7 p8 p9 p10 X = some (rr, XX) → W p l e rm_X10_give s m args below meth c H locs 0 0 (MQ below (gQ D cA ad NL (some (.int rr)) XX A) args s 0 0 A) (F0 m 92 ls []) := by
  have hx := C.1
  have hb := C.2.1
  intro n
  induction n with
  | zero =>
    intro p5 p6 p7 p8 p9 p10 X H locs ls hP hS hl ha_l0 hf
    rw [X10_give_L92] at hf
    cases hf
  | succ n ih =>
    intro p5 p6 p7 p8 p9 p10 X H locs ls hP hS hl ha_l0 hf
    rw [X10_give_L92] at hf
    refine lv_iload hx hb dX10_give_92 (lv_at hl 6 rfl) ?_
    refine lv_bipush (v := 26) hx hb dX10_give_94 (by decide) ?_
    refine lv_icmp_ge (tgt := 128) hx hb dX10_give_96 (by decide) (fun c1 => ?_) (fun c1 => ?_)
    · have hf := g_ip c1 hf
      exact hk128 p5 p6 p7 p8 p9 X _ _ _ hP hS (lv_sub hl [0, 1, 2, 3, 4, 5] rfl) ha_l0 hf
    · have hf := g_in c1 hf
      refine lv_iload hx hb dX10_give_99 (lv_at hl 5 rfl) ?_
      refine lv_aload_n hx hb dX10_give_101 rfl (lv_at hl 0 rfl) ?_
      refine r_get C hP ha_l0 (ct_43 _ _ _ _) fx_X10_49 (fg_43_14 _ _ _) dX10_give_102 ?_
      refine lv_iload hx hb dX10_give_105 (lv_at hl 4 rfl) ?_
      refine lv_iload hx hb dX10_give_107 (lv_at hl 6 rfl) ?_
      refine lv_iadd hx hb dX10_give_109 ?_
      obtain ⟨j2, h3, hf⟩ := rd_in hf
      refine r_iald C hP (gs_43_14 hW ha_l0) (ct_57 _ _ _ _) h3 dX10_give_110 ?_
      refine lv_if_le (tgt := 118) hx hb dX10_give_111 (by decide) (fun c4 => ?_) (fun c4 => ?_)
      · have hf := g_ip c4 hf
        refine lv_iconst (v := 0) hx hb dX10_give_118 (by decide) ?_
        exact s_X10_give_J119 C hW hD0 ih hk128 p5 p6 p7 p8 p10 p9 (0 : Int32) X _ _ _ hP hS (lv_sub hl [0, 1, 2, 3, 4, 6] rfl) ha_l0 hf
      · have hf := g_in c4 hf
        refine lv_iconst (v := 1) hx hb dX10_give_114 (by decide) ?_
        refine lv_goto (tgt := 119) hx hb dX10_give_115 (by decide) ?_
        exact s_X10_give_J119 C hW hD0 ih hk128 p5 p6 p7 p8 p10 p9 (1 : Int32) X _ _ _ hP hS (lv_sub hl [0, 1, 2, 3, 4, 6] rfl) ha_l0 hf

set_option maxRecDepth 100000 in
set_option maxHeartbeats 4000000 in
theorem s_X10_give_J52 {p : Program} {l : Launch} {e : Env} {s : State} {m : MethodId} {args : Array Value} {below : List Frame} {meth : Method} {c : Code} {D : va_G} {cA : Nat → ClassId} {ad : Nat → Nat → Nat} {NL : List (Nat × Nat)} {A : Nat → Prop} {rr : Int32} {XX : gM} {N : Nat} (C : gCx p c meth m s args cX10_give 11 (some .int) RX10 D cA ad NL A) (hW : gWf NL) (hD0 : gD (fun _ => True) ad NL) : ∀ (p1 : Int32) (p2 : Int32) (p3 : Int32) (p4 : Int32) (p5 : Int32) (p6 : Int32) (s1 : Int32) (X : gM) (H : Heap) (locs : List Loc) (ls : Array Slot), gH D cA ad NL X H → va_S A s.heap H locs → lv_has ls 11 [(0, .ref (ad 43 0)), (1, .int p1), (2, .int p2), (3, .int p3), (4, .int p4), (5, .int p5), (6, .int p6)] → (43, 0) ∈ NL → (43, 0) ∈ NL → X10_give_J52 (gal NL) N p1 p2 p3 p4 p5 p6 s1 X = some (rr, XX) → W p l e rm_X10_give s m args below meth c H locs 0 0 (MQ below (gQ D cA ad NL (some (.int rr)) XX A) args s 0 0 A) (F0 m 52 ls [.int s1, .ref (ad 43 0)]) := by
  have hx := C.1
  have hb := C.2.1
  intro p1 p2 p3 p4 p5 p6 s1 X H locs ls hP hS hl ha_l0 ha_s0 hf
  rw [X10_give_J52] at hf
  refine r_put C hP hS s1 ha_s0 (ct_43 _ _ _ _) px_X10_122 (fp_43_46 _ _ _ _ _) (Nat.le_of_ble_eq_true rfl) rfl rfl dX10_give_52 (fun H locs hP hS => ?_)
  obtain ⟨X1, e2, hf⟩ := gl_in hf
  rw [← e2] at hP
  refine lv_aload_n hx hb dX10_give_55 rfl (lv_at hl 0 rfl) ?_
  refine r_get C hP ha_l0 (ct_43 _ _ _ _) fx_X10_122 (fg_43_46 _ _ _) dX10_give_56 ?_
  refine lv_if_le (tgt := 64) hx hb dX10_give_59 (by decide) (fun c3 => ?_) (fun c3 => ?_)
  · have hf := g_ip c3 hf
    refine lv_iload_n hx hb dX10_give_64 rfl (lv_at hl 2 rfl) ?_
    refine lv_iload_n hx hb dX10_give_65 rfl (lv_at hl 3 rfl) ?_
    refine lv_iload hx hb dX10_give_66 (lv_at hl 4 rfl) ?_
    obtain ⟨r4, X5, h6, hf⟩ := b2_in hf
    refine r_cSi (rest := []) C hP hS hl.1 (s_X10_cellAt hW hD0  h6) ix_X10_cellAt is_X10_cellAt ls_X10_153 ⟨rfl, rfl, Nat.le_of_ble_eq_true rfl, Nat.le_of_ble_eq_true rfl⟩ rfl rfl (Nat.le_of_ble_eq_true rfl) ⟨Nat.zero_le _, Nat.zero_le _⟩ dX10_give_68 (fun H locs hP hS => ?_)
    refine lv_istore (i := 7) (lv' := [(7, .int r4), (0, .ref (ad 43 0)), (1, .int p1), (2, .int p2), (3, .int p3), (4, .int p4), (5, .int p5), (6, .int p6)]) hx hb dX10_give_71 hl (Nat.le_of_ble_eq_true rfl) rfl (fun ls hl => ?_)
    refine lv_bipush (v := 26) hx hb dX10_give_73 (by decide) ?_
    refine lv_sipush (v := 320) hx hb dX10_give_75 (by decide) ?_
    refine lv_iload_n hx hb dX10_give_78 rfl (lv_at hl 2 rfl) ?_
    refine lv_imul hx hb dX10_give_79 ?_
    refine lv_iload hx hb dX10_give_80 (lv_at hl 0 rfl) ?_
    refine lv_iadd hx hb dX10_give_82 ?_
    refine lv_imul hx hb dX10_give_83 ?_
    refine g_top hf (fun v7 e8 hf => ?_)
    refine lv_istore (i := 8) (lv' := [(8, .int v7), (7, .int r4), (0, .ref (ad 43 0)), (1, .int p1), (2, .int p2), (3, .int p3), (4, .int p4), (5, .int p5), (6, .int p6)]) hx hb dX10_give_84 hl (Nat.le_of_ble_eq_true rfl) rfl (fun ls hl => ?_)
    refine lv_iconst (v := 0) hx hb dX10_give_86 (by decide) ?_
    refine lv_istore (i := 9) (lv' := [(9, .int (0 : Int32)), (8, .int v7), (7, .int r4), (0, .ref (ad 43 0)), (1, .int p1), (2, .int p2), (3, .int p3), (4, .int p4), (5, .int p5), (6, .int p6)]) hx hb dX10_give_87 hl (Nat.le_of_ble_eq_true rfl) rfl (fun ls hl => ?_)
    refine lv_iconst (v := 0) hx hb dX10_give_89 (by decide) ?_
    refine lv_istore (i := 10) (lv' := [(10, .int (0 : Int32)), (9, .int (0 : Int32)), (8, .int v7), (7, .int r4), (0, .ref (ad 43 0)), (1, .int p1), (2, .int p2), (3, .int p3), (4, .int p4), (5, .int p5), (6, .int p6)]) hx hb dX10_give_90 hl (Nat.le_of_ble_eq_true rfl) rfl (fun ls hl => ?_)
    exact s_X10_give_L92 C hW hD0 (fun p5 p6 p7 p8 p9 Y H locs ls hP hS hl ha_l0 hf => s_X10_give_J128 C hW hD0 p5 p6 p7 p8 p9 Y _ _ _ hP hS hl ha_l0 hf) N p5 p6 r4 v7 (0 : Int32) (0 : Int32) X5 _ _ _ hP hS (lv_sub hl [4, 9, 10, 3, 2, 1, 0] rfl) ha_l0 hf
  · have hf := g_in c3 hf
    refine lv_iconst (v := 0) hx hb dX10_give_62 (by decide) ?_
    obtain ⟨rfl, rfl⟩ := g_s1 hf
    exact r_iret C hP hS dX10_give_63

set_option maxRecDepth 100000 in
set_option maxHeartbeats 4000000 in
theorem s_X10_give_J47 {p : Program} {l : Launch} {e : Env} {s : State} {m : MethodId} {args : Array Value} {below : List Frame} {meth : Method} {c : Code} {D : va_G} {cA : Nat → ClassId} {ad : Nat → Nat → Nat} {NL : List (Nat × Nat)} {A : Nat → Prop} {rr : Int32} {XX : gM} {N : Nat} (C : gCx p c meth m s args cX10_give 11 (some .int) RX10 D cA ad NL A) (hW : gWf NL) (hD0 : gD (fun _ => True) ad NL) : ∀ (p1 : Int32) (p2 : Int32) (p3 : Int32) (p4 : Int32) (p5 : Int32) (p6 : Int32) (X : gM) (H : Heap) (locs : List Loc) (ls : Array Slot), gH D cA ad NL X H → va_S A s.heap H locs → lv_has ls 11 [(0, .ref (ad 43 0)), (1, .int p1), (2, .int p2), (3, .int p3), (4, .int p4), (5, .int p5), (6, .int p6)] → (43, 0) ∈ NL → (43, 0) ∈ NL → X10_give_J47 (gal NL) N p1 p2 p3 p4 p5 p6 X = some (rr, XX) → W p l e rm_X10_give s m args below meth c H locs 0 0 (MQ below (gQ D cA ad NL (some (.int rr)) XX A) args s 0 0 A) (F0 m 47 ls [.ref (ad 43 0)]) := by
  have hx := C.1
  have hb := C.2.1
  intro p1 p2 p3 p4 p5 p6 X H locs ls hP hS hl ha_l0 ha_s0 hf
  rw [X10_give_J47] at hf
  refine lv_iconst (v := 2) hx hb dX10_give_47 (by decide) ?_
  refine lv_goto (tgt := 52) hx hb dX10_give_48 (by decide) ?_
  exact s_X10_give_J52 C hW hD0 p1 p2 p3 p4 p5 p6 (2 : Int32) X _ _ _ hP hS (lv_sub hl [0, 1, 2, 3, 4, 5, 6] rfl) ha_l0 ha_s0 hf

set_option maxRecDepth 100000 in
set_option maxHeartbeats 4000000 in
theorem s_X10_give_J21 {p : Program} {l : Launch} {e : Env} {s : State} {m : MethodId} {args : Array Value} {below : List Frame} {meth : Method} {c : Code} {D : va_G} {cA : Nat → ClassId} {ad : Nat → Nat → Nat} {NL : List (Nat × Nat)} {A : Nat → Prop} {rr : Int32} {XX : gM} {N : Nat} (C : gCx p c meth m s args cX10_give 11 (some .int) RX10 D cA ad NL A) (hW : gWf NL) (hD0 : gD (fun _ => True) ad NL) : ∀ (p1 : Int32) (p2 : Int32) (p3 : Int32) (p4 : Int32) (p5 : Int32) (p6 : Int32) (X : gM) (H : Heap) (locs : List Loc) (ls : Array Slot), gH D cA ad NL X H → va_S A s.heap H locs → lv_has ls 11 [(0, .ref (ad 43 0)), (1, .int p1), (2, .int p2), (3, .int p3), (4, .int p4), (5, .int p5), (6, .int p6)] → (43, 0) ∈ NL → (43, 0) ∈ NL → X10_give_J21 (gal NL) N p1 p2 p3 p4 p5 p6 X = some (rr, XX) → W p l e rm_X10_give s m args below meth c H locs 0 0 (MQ below (gQ D cA ad NL (some (.int rr)) XX A) args s 0 0 A) (F0 m 21 ls [.ref (ad 43 0)]) := by
  have hx := C.1
  have hb := C.2.1
  intro p1 p2 p3 p4 p5 p6 X H locs ls hP hS hl ha_l0 ha_s0 hf
  rw [X10_give_J21] at hf
  refine lv_iconst (v := 1) hx hb dX10_give_21 (by decide) ?_
  refine lv_goto (tgt := 52) hx hb dX10_give_22 (by decide) ?_
  exact s_X10_give_J52 C hW hD0 p1 p2 p3 p4 p5 p6 (1 : Int32) X _ _ _ hP hS (lv_sub hl [0, 1, 2, 3, 4, 5, 6] rfl) ha_l0 ha_s0 hf

set_option maxRecDepth 100000 in
set_option maxHeartbeats 4000000 in
theorem w_X10_give {p : Program} {l : Launch} {e : Env} {s : State} {m : MethodId} {args : Array Value} {below : List Frame} {meth : Method} {c : Code} {D : va_G} {cA : Nat → ClassId} {ad : Nat → Nat → Nat} {NL : List (Nat × Nat)} {A : Nat → Prop} {rr : Int32} {XX : gM} {N : Nat} (C : gCx p c meth m s args cX10_give 11 (some .int) RX10 D cA ad NL A) (hW : gWf NL) (hD0 : gD (fun _ => True) ad NL) {p1 : Int32} {p2 : Int32} {p3 : Int32} {p4 : Int32} {p5 : Int32} {p6 : Int32} (ha_l0 : (43, 0) ∈ NL) : ∀ (X : gM) (H : Heap) (locs : List Loc) (ls : Array Slot), gH D cA ad NL X H → va_S A s.heap H locs → lv_has ls 11 [(0, .ref (ad 43 0)), (1, .int p1), (2, .int p2), (3, .int p3), (4, .int p4), (5, .int p5), (6, .int p6)] → X10_give (gal NL) N p1 p2 p3 p4 p5 p6 X = some (rr, XX) → W p l e rm_X10_give s m args below meth c H locs 0 0 (MQ below (gQ D cA ad NL (some (.int rr)) XX A) args s 0 0 A) (F0 m 0 ls []) := by
  have hx := C.1
  have hb := C.2.1
  intro X H locs ls hP hS hl hf
  rw [X10_give] at hf
  refine lv_aload_n hx hb dX10_give_0 rfl (lv_at hl 0 rfl) ?_
  refine lv_iload_n hx hb dX10_give_1 rfl (lv_at hl 1 rfl) ?_
  refine lv_iconst (v := 0) hx hb dX10_give_2 (by decide) ?_
  refine lv_iconst (v := 2) hx hb dX10_give_3 (by decide) ?_
  obtain ⟨r1, X2, h3, hf⟩ := b2_in hf
  refine r_cSi (rest := [.ref (ad 43 0)]) C hP hS hl.1 (s_X10_in hW hD0  h3) ix_X10_in is_X10_in ls_X10_129 ⟨rfl, rfl, Nat.le_of_ble_eq_true rfl, Nat.le_of_ble_eq_true rfl⟩ rfl rfl (Nat.le_of_ble_eq_true rfl) ⟨Nat.zero_le _, Nat.zero_le _⟩ dX10_give_4 (fun H locs hP hS => ?_)
  refine lv_if_eq (tgt := 21) hx hb dX10_give_7 (by decide) (fun c4 => ?_) (fun c4 => ?_)
  · have hf := g_ip c4 hf
    exact s_X10_give_J21 C hW hD0 p1 p2 p3 p4 p5 p6 X2 _ _ _ hP hS (lv_sub hl [0, 1, 2, 3, 4, 5, 6] rfl) ha_l0 ha_l0 hf
  · have hf := g_in c4 hf
    refine lv_aload_n hx hb dX10_give_10 rfl (lv_at hl 0 rfl) ?_
    refine lv_iload_n hx hb dX10_give_11 rfl (lv_at hl 2 rfl) ?_
    refine lv_iload_n hx hb dX10_give_12 rfl (lv_at hl 3 rfl) ?_
    refine lv_iload hx hb dX10_give_13 (lv_at hl 4 rfl) ?_
    obtain ⟨r5, X6, h7, hf⟩ := b2_in hf
    refine r_cVi (rest := [.ref (ad 43 0)]) C hP hS hl.1 (s_X10_isCell hW hD0 ha_l0 h7) ix_X10_isCell iv_X10_isCell lk_X10_150 ⟨rfl, rfl, Nat.le_of_ble_eq_true rfl, Nat.le_of_ble_eq_true rfl⟩ ha_l0 (ct_43 _ _ _ _) rfl rfl rfl rfl (Nat.le_of_ble_eq_true rfl) ⟨Nat.zero_le _, Nat.zero_le _⟩ dX10_give_15 (fun H locs hP hS => ?_)
    refine lv_if_ne (tgt := 25) hx hb dX10_give_18 (by decide) (fun c8 => ?_) (fun c8 => ?_)
    · have hf := g_in c8 hf
      refine lv_iload hx hb dX10_give_25 (lv_at hl 5 rfl) ?_
      refine lv_iconst (v := 0) hx hb dX10_give_27 (by decide) ?_
      refine lv_bipush (v := 25) hx hb dX10_give_28 (by decide) ?_
      obtain ⟨r9, X10, h11, hf⟩ := b2_in hf
      refine r_cSi (rest := [.ref (ad 43 0)]) C hP hS hl.1 (s_X10_in hW hD0  h11) ix_X10_in is_X10_in ls_X10_129 ⟨rfl, rfl, Nat.le_of_ble_eq_true rfl, Nat.le_of_ble_eq_true rfl⟩ rfl rfl (Nat.le_of_ble_eq_true rfl) ⟨Nat.zero_le _, Nat.zero_le _⟩ dX10_give_30 (fun H locs hP hS => ?_)
      refine lv_if_eq (tgt := 47) hx hb dX10_give_33 (by decide) (fun c12 => ?_) (fun c12 => ?_)
      · have hf := g_ip c12 hf
        exact s_X10_give_J47 C hW hD0 p1 p2 p3 p4 p5 p6 X10 _ _ _ hP hS (lv_sub hl [0, 1, 2, 3, 4, 5, 6] rfl) ha_l0 ha_l0 hf
      · have hf := g_in c12 hf
        refine lv_iload hx hb dX10_give_36 (lv_at hl 6 rfl) ?_
        refine lv_iconst (v := 0) hx hb dX10_give_38 (by decide) ?_
        refine lv_bipush (v := 9) hx hb dX10_give_39 (by decide) ?_
        obtain ⟨r13, X14, h15, hf⟩ := b2_in hf
        refine r_cSi (rest := [.ref (ad 43 0)]) C hP hS hl.1 (s_X10_in hW hD0  h15) ix_X10_in is_X10_in ls_X10_129 ⟨rfl, rfl, Nat.le_of_ble_eq_true rfl, Nat.le_of_ble_eq_true rfl⟩ rfl rfl (Nat.le_of_ble_eq_true rfl) ⟨Nat.zero_le _, Nat.zero_le _⟩ dX10_give_41 (fun H locs hP hS => ?_)
        refine lv_if_ne (tgt := 51) hx hb dX10_give_44 (by decide) (fun c16 => ?_) (fun c16 => ?_)
        · have hf := g_in c16 hf
          refine lv_iconst (v := 0) hx hb dX10_give_51 (by decide) ?_
          exact s_X10_give_J52 C hW hD0 p1 p2 p3 p4 p5 p6 (0 : Int32) X14 _ _ _ hP hS (lv_sub hl [0, 1, 2, 3, 4, 5, 6] rfl) ha_l0 ha_l0 hf
        · have hf := g_ip c16 hf
          exact s_X10_give_J47 C hW hD0 p1 p2 p3 p4 p5 p6 X14 _ _ _ hP hS (lv_sub hl [0, 1, 2, 3, 4, 5, 6] rfl) ha_l0 ha_l0 hf
    · have hf := g_ip c8 hf
      exact s_X10_give_J21 C hW hD0 p1 p2 p3 p4 p5 p6 X6 _ _ _ hP hS (lv_sub hl [0, 1, 2, 3, 4, 5, 6] rfl) ha_l0 ha_l0 hf

theorem s_X10_give {l : Launch} {D : va_G} {cA : Nat → ClassId} {ad : Nat → Nat → Nat} {NL : List (Nat × Nat)} {N : Nat} {p1 : Int32} {p2 : Int32} {p3 : Int32} {p4 : Int32} {p5 : Int32} {p6 : Int32} {X : gM} {rr : Int32} {XX : gM} (hW : gWf NL) (hD0 : gD (fun _ => True) ad NL) (ha_l0 : (43, 0) ∈ NL) (hf : X10_give (gal NL) N p1 p2 p3 p4 p5 p6 X = some (rr, XX)) : gC l yX10_give cX10_give 11 (some .int) rm_X10_give D cA ad NL [.ref (ad 43 0), .int p1, .int p2, .int p3, .int p4, .int p5, .int p6] X (some (.int rr)) XX :=
  g_ofW (by decide) hD0 (Nat.le_of_ble_eq_true rfl) rfl (fun p e s m below meth c ls C hP hS hl => w_X10_give C hW hD0 ha_l0 X _ _ ls hP hS hl hf)
def rm_X10_type : Room := { frames := 1, cells := 0, slots := 0, locals := 22 }
set_option maxRecDepth 100000 in
set_option maxHeartbeats 4000000 in
theorem s_X10_type_J29 {p : Program} {l : Launch} {e : Env} {s : State} {m : MethodId} {args : Array Value} {below : List Frame} {meth : Method} {c : Code} {D : va_G} {cA : Nat → ClassId} {ad : Nat → Nat → Nat} {NL : List (Nat × Nat)} {A : Nat → Prop} {rr : Int32} {XX : gM} {N : Nat} (C : gCx p c meth m s args cX10_type 2 (some .int) RX10 D cA ad NL A) (hW : gWf NL) (hD0 : gD (fun _ => True) ad NL) : ∀ (p1 : Int32) (s1 : Int32) (X : gM) (H : Heap) (locs : List Loc) (ls : Array Slot), gH D cA ad NL X H → va_S A s.heap H locs → lv_has ls 2 [(0, .ref (ad 43 0)), (1, .int p1)] → (43, 0) ∈ NL → (43, 0) ∈ NL → X10_type_J29 (gal NL) N p1 s1 X = some (rr, XX) → W p l e rm_X10_type s m args below meth c H locs 0 0 (MQ below (gQ D cA ad NL (some (.int rr)) XX A) args s 0 0 A) (F0 m 29 ls [.int s1, .ref (ad 43 0)]) := by
  have hx := C.1
  have hb := C.2.1
  intro p1 s1 X H locs ls hP hS hl ha_l0 ha_s0 hf
  rw [X10_type_J29] at hf
  refine r_put C hP hS s1 ha_s0 (ct_43 _ _ _ _) px_X10_122 (fp_43_46 _ _ _ _ _) (Nat.le_of_ble_eq_true rfl) rfl rfl dX10_type_29 (fun H locs hP hS => ?_)
  obtain ⟨X1, e2, hf⟩ := gl_in hf
  rw [← e2] at hP
  refine lv_aload_n hx hb dX10_type_32 rfl (lv_at hl 0 rfl) ?_
  refine r_get C hP ha_l0 (ct_43 _ _ _ _) fx_X10_122 (fg_43_46 _ _ _) dX10_type_33 ?_
  refine lv_if_le (tgt := 41) hx hb dX10_type_36 (by decide) (fun c3 => ?_) (fun c3 => ?_)
  · have hf := g_ip c3 hf
    refine lv_aload_n hx hb dX10_type_41 rfl (lv_at hl 0 rfl) ?_
    refine r_get C hP ha_l0 (ct_43 _ _ _ _) fx_X10_52 (fg_43_16 _ _ _) dX10_type_42 ?_
    refine lv_aload_n hx hb dX10_type_45 rfl (lv_at hl 0 rfl) ?_
    refine r_get C hP ha_l0 (ct_43 _ _ _ _) fx_X10_160 (fg_43_15 _ _ _) dX10_type_46 ?_
    refine lv_iload_n hx hb dX10_type_49 rfl (lv_at hl 1 rfl) ?_
    obtain ⟨j4, h5, hf⟩ := rd_in hf
    refine r_iast C hP hS (gs_43_16 hW ha_l0) (fun _ => ct_58 _ _ _ _) h5 dX10_type_50 (fun H locs hP hS => ?_)
    obtain ⟨X6, e7, hf⟩ := gl_in hf
    rw [← e7] at hP
    refine lv_aload_n hx hb dX10_type_51 rfl (lv_at hl 0 rfl) ?_
    refine lv_dup hx hb dX10_type_52 rfl ?_
    refine r_get C hP ha_l0 (ct_43 _ _ _ _) fx_X10_160 (fg_43_15 _ _ _) dX10_type_53 ?_
    refine lv_iconst (v := 1) hx hb dX10_type_56 (by decide) ?_
    refine lv_iadd hx hb dX10_type_57 ?_
    refine r_put C hP hS ((X6 43 0 15) + (1 : Int32)) ha_l0 (ct_43 _ _ _ _) px_X10_160 (fp_43_15 _ _ _ _ _) (Nat.le_of_ble_eq_true rfl) rfl rfl dX10_type_58 (fun H locs hP hS => ?_)
    obtain ⟨X8, e9, hf⟩ := gl_in hf
    rw [← e9] at hP
    refine lv_aload_n hx hb dX10_type_61 rfl (lv_at hl 0 rfl) ?_
    refine r_get C hP ha_l0 (ct_43 _ _ _ _) fx_X10_160 (fg_43_15 _ _ _) dX10_type_62 ?_
    obtain ⟨rfl, rfl⟩ := g_s1 hf
    exact r_iret C hP hS dX10_type_65
  · have hf := g_in c3 hf
    refine lv_iconst (v := 0) hx hb dX10_type_39 (by decide) ?_
    obtain ⟨rfl, rfl⟩ := g_s1 hf
    exact r_iret C hP hS dX10_type_40

set_option maxRecDepth 100000 in
set_option maxHeartbeats 4000000 in
theorem w_X10_type {p : Program} {l : Launch} {e : Env} {s : State} {m : MethodId} {args : Array Value} {below : List Frame} {meth : Method} {c : Code} {D : va_G} {cA : Nat → ClassId} {ad : Nat → Nat → Nat} {NL : List (Nat × Nat)} {A : Nat → Prop} {rr : Int32} {XX : gM} {N : Nat} (C : gCx p c meth m s args cX10_type 2 (some .int) RX10 D cA ad NL A) (hW : gWf NL) (hD0 : gD (fun _ => True) ad NL) {p1 : Int32} (ha_l0 : (43, 0) ∈ NL) : ∀ (X : gM) (H : Heap) (locs : List Loc) (ls : Array Slot), gH D cA ad NL X H → va_S A s.heap H locs → lv_has ls 2 [(0, .ref (ad 43 0)), (1, .int p1)] → X10_type (gal NL) N p1 X = some (rr, XX) → W p l e rm_X10_type s m args below meth c H locs 0 0 (MQ below (gQ D cA ad NL (some (.int rr)) XX A) args s 0 0 A) (F0 m 0 ls []) := by
  have hx := C.1
  have hb := C.2.1
  intro X H locs ls hP hS hl hf
  rw [X10_type] at hf
  refine lv_aload_n hx hb dX10_type_0 rfl (lv_at hl 0 rfl) ?_
  refine lv_iload_n hx hb dX10_type_1 rfl (lv_at hl 1 rfl) ?_
  refine lv_iconst (v := 0) hx hb dX10_type_2 (by decide) ?_
  refine lv_bipush (v := 25) hx hb dX10_type_3 (by decide) ?_
  obtain ⟨r1, X2, h3, hf⟩ := b2_in hf
  refine r_cSi (rest := [.ref (ad 43 0)]) C hP hS hl.1 (s_X10_in hW hD0  h3) ix_X10_in is_X10_in ls_X10_129 ⟨rfl, rfl, Nat.le_of_ble_eq_true rfl, Nat.le_of_ble_eq_true rfl⟩ rfl rfl (Nat.le_of_ble_eq_true rfl) ⟨Nat.zero_le _, Nat.zero_le _⟩ dX10_type_5 (fun H locs hP hS => ?_)
  refine lv_if_ne (tgt := 15) hx hb dX10_type_8 (by decide) (fun c4 => ?_) (fun c4 => ?_)
  · have hf := g_in c4 hf
    refine lv_aload_n hx hb dX10_type_15 rfl (lv_at hl 0 rfl) ?_
    refine r_get C hP ha_l0 (ct_43 _ _ _ _) fx_X10_160 (fg_43_15 _ _ _) dX10_type_16 ?_
    refine lv_bipush (v := 40) hx hb dX10_type_19 (by decide) ?_
    refine lv_icmp_ne (tgt := 28) hx hb dX10_type_21 (by decide) (fun c5 => ?_) (fun c5 => ?_)
    · have hf := g_in c5 hf
      refine lv_iconst (v := 0) hx hb dX10_type_28 (by decide) ?_
      exact s_X10_type_J29 C hW hD0 p1 (0 : Int32) X2 _ _ _ hP hS (lv_sub hl [0, 1] rfl) ha_l0 ha_l0 hf
    · have hf := g_ip c5 hf
      refine lv_iconst (v := 2) hx hb dX10_type_24 (by decide) ?_
      refine lv_goto (tgt := 29) hx hb dX10_type_25 (by decide) ?_
      exact s_X10_type_J29 C hW hD0 p1 (2 : Int32) X2 _ _ _ hP hS (lv_sub hl [0, 1] rfl) ha_l0 ha_l0 hf
  · have hf := g_ip c4 hf
    refine lv_iconst (v := 1) hx hb dX10_type_11 (by decide) ?_
    refine lv_goto (tgt := 29) hx hb dX10_type_12 (by decide) ?_
    exact s_X10_type_J29 C hW hD0 p1 (1 : Int32) X2 _ _ _ hP hS (lv_sub hl [0, 1] rfl) ha_l0 ha_l0 hf

theorem s_X10_type {l : Launch} {D : va_G} {cA : Nat → ClassId} {ad : Nat → Nat → Nat} {NL : List (Nat × Nat)} {N : Nat} {p1 : Int32} {X : gM} {rr : Int32} {XX : gM} (hW : gWf NL) (hD0 : gD (fun _ => True) ad NL) (ha_l0 : (43, 0) ∈ NL) (hf : X10_type (gal NL) N p1 X = some (rr, XX)) : gC l yX10_type cX10_type 2 (some .int) rm_X10_type D cA ad NL [.ref (ad 43 0), .int p1] X (some (.int rr)) XX :=
  g_ofW (by decide) hD0 (Nat.le_of_ble_eq_true rfl) rfl (fun p e s m below meth c ls C hP hS hl => w_X10_type C hW hD0 ha_l0 X _ _ ls hP hS hl hf)
