def rm_X0_isUnmixed : Room := { frames := 0, cells := 0, slots := 0, locals := 0 }
set_option maxRecDepth 100000 in
set_option maxHeartbeats 4000000 in
theorem s_X0_isUnmixed_J13 {p : Program} {l : Launch} {e : Env} {s : State} {m : MethodId} {args : Array Value} {below : List Frame} {meth : Method} {c : Code} {D : va_G} {cA : Nat → ClassId} {ad : Nat → Nat → Nat} {NL : List (Nat × Nat)} {A : Nat → Prop} {rr : Int32} {XX : gM} {N : Nat} (C : gCx p c meth m s args cX0_isUnmixed 1 (some .boolean) RX0 D cA ad NL A) (hW : gWf NL) (hD0 : gD (fun _ => True) ad NL) : ∀ (s0 : Int32) (X : gM) (H : Heap) (locs : List Loc) (ls : Array Slot), gH D cA ad NL X H → va_S A s.heap H locs → lv_has ls 1 [] → X0_isUnmixed_J13 (gal NL) N s0 X = some (rr, XX) → W p l e rm_X0_isUnmixed s m args below meth c H locs 0 0 (MQ below (gQ D cA ad NL (some (.int rr)) XX A) args s 0 0 A) (F0 m 13 ls [.int s0]) := by
  have hx := C.1
  have hb := C.2.1
  intro s0 X H locs ls hP hS hl hf
  rw [X0_isUnmixed_J13] at hf
  obtain ⟨h1, hf⟩ := bz_in hf
  obtain ⟨rfl, rfl⟩ := g_s1 hf
  exact r_zret C hP hS h1 dX0_isUnmixed_13

set_option maxRecDepth 100000 in
set_option maxHeartbeats 4000000 in
theorem w_X0_isUnmixed {p : Program} {l : Launch} {e : Env} {s : State} {m : MethodId} {args : Array Value} {below : List Frame} {meth : Method} {c : Code} {D : va_G} {cA : Nat → ClassId} {ad : Nat → Nat → Nat} {NL : List (Nat × Nat)} {A : Nat → Prop} {rr : Int32} {XX : gM} {N : Nat} (C : gCx p c meth m s args cX0_isUnmixed 1 (some .boolean) RX0 D cA ad NL A) (hW : gWf NL) (hD0 : gD (fun _ => True) ad NL) {p0 : Nat} (ha_l0 : (7, p0) ∈ NL) : ∀ (X : gM) (H : Heap) (locs : List Loc) (ls : Array Slot), gH D cA ad NL X H → va_S A s.heap H locs → lv_has ls 1 [(0, .ref (ad 7 p0))] → X0_isUnmixed (gal NL) N p0 X = some (rr, XX) → W p l e rm_X0_isUnmixed s m args below meth c H locs 0 0 (MQ below (gQ D cA ad NL (some (.int rr)) XX A) args s 0 0 A) (F0 m 0 ls []) := by
  have hx := C.1
  have hb := C.2.1
  intro X H locs ls hP hS hl hf
  rw [X0_isUnmixed] at hf
  refine lv_aload_n hx hb dX0_isUnmixed_0 rfl (lv_at hl 0 rfl) ?_
  refine r_get C hP ha_l0 (ct_7 _ _ _ _) fx_X0_25 (fg_7_4 _ _ _) dX0_isUnmixed_1 ?_
  refine lv_iconst (v := -1) hx hb dX0_isUnmixed_4 (by decide) ?_
  refine lv_icmp_eq (tgt := 12) hx hb dX0_isUnmixed_5 (by decide) (fun c1 => ?_) (fun c1 => ?_)
  · have hf := g_ip c1 hf
    refine lv_iconst (v := 0) hx hb dX0_isUnmixed_12 (by decide) ?_
    exact s_X0_isUnmixed_J13 C hW hD0 (0 : Int32) X _ _ _ hP hS (lv_sub hl [] rfl) hf
  · have hf := g_in c1 hf
    refine lv_iconst (v := 1) hx hb dX0_isUnmixed_8 (by decide) ?_
    refine lv_goto (tgt := 13) hx hb dX0_isUnmixed_9 (by decide) ?_
    exact s_X0_isUnmixed_J13 C hW hD0 (1 : Int32) X _ _ _ hP hS (lv_sub hl [] rfl) hf

theorem s_X0_isUnmixed {l : Launch} {D : va_G} {cA : Nat → ClassId} {ad : Nat → Nat → Nat} {NL : List (Nat × Nat)} {N : Nat} {p0 : Nat} {X : gM} {rr : Int32} {XX : gM} (hW : gWf NL) (hD0 : gD (fun _ => True) ad NL) (ha_l0 : (7, p0) ∈ NL) (hf : X0_isUnmixed (gal NL) N p0 X = some (rr, XX)) : gC l yX0_isUnmixed cX0_isUnmixed 1 (some .boolean) rm_X0_isUnmixed D cA ad NL [.ref (ad 7 p0)] X (some (.int rr)) XX :=
  g_ofW (by decide) hD0 (Nat.le_of_ble_eq_true rfl) rfl (fun p e s m below meth c ls C hP hS hl => w_X0_isUnmixed C hW hD0 ha_l0 X _ _ ls hP hS hl hf)
def rm_X0_isBlank : Room := { frames := 0, cells := 0, slots := 0, locals := 0 }
set_option maxRecDepth 100000 in
set_option maxHeartbeats 4000000 in
theorem s_X0_isBlank_J12 {p : Program} {l : Launch} {e : Env} {s : State} {m : MethodId} {args : Array Value} {below : List Frame} {meth : Method} {c : Code} {D : va_G} {cA : Nat → ClassId} {ad : Nat → Nat → Nat} {NL : List (Nat × Nat)} {A : Nat → Prop} {rr : Int32} {XX : gM} {N : Nat} (C : gCx p c meth m s args cX0_isBlank 1 (some .boolean) RX0 D cA ad NL A) (hW : gWf NL) (hD0 : gD (fun _ => True) ad NL) : ∀ (s0 : Int32) (X : gM) (H : Heap) (locs : List Loc) (ls : Array Slot), gH D cA ad NL X H → va_S A s.heap H locs → lv_has ls 1 [] → X0_isBlank_J12 (gal NL) N s0 X = some (rr, XX) → W p l e rm_X0_isBlank s m args below meth c H locs 0 0 (MQ below (gQ D cA ad NL (some (.int rr)) XX A) args s 0 0 A) (F0 m 12 ls [.int s0]) := by
  have hx := C.1
  have hb := C.2.1
  intro s0 X H locs ls hP hS hl hf
  rw [X0_isBlank_J12] at hf
  obtain ⟨h1, hf⟩ := bz_in hf
  obtain ⟨rfl, rfl⟩ := g_s1 hf
  exact r_zret C hP hS h1 dX0_isBlank_12

set_option maxRecDepth 100000 in
set_option maxHeartbeats 4000000 in
theorem w_X0_isBlank {p : Program} {l : Launch} {e : Env} {s : State} {m : MethodId} {args : Array Value} {below : List Frame} {meth : Method} {c : Code} {D : va_G} {cA : Nat → ClassId} {ad : Nat → Nat → Nat} {NL : List (Nat × Nat)} {A : Nat → Prop} {rr : Int32} {XX : gM} {N : Nat} (C : gCx p c meth m s args cX0_isBlank 1 (some .boolean) RX0 D cA ad NL A) (hW : gWf NL) (hD0 : gD (fun _ => True) ad NL) {p0 : Nat} (ha_l0 : (7, p0) ∈ NL) : ∀ (X : gM) (H : Heap) (locs : List Loc) (ls : Array Slot), gH D cA ad NL X H → va_S A s.heap H locs → lv_has ls 1 [(0, .ref (ad 7 p0))] → X0_isBlank (gal NL) N p0 X = some (rr, XX) → W p l e rm_X0_isBlank s m args below meth c H locs 0 0 (MQ below (gQ D cA ad NL (some (.int rr)) XX A) args s 0 0 A) (F0 m 0 ls []) := by
  have hx := C.1
  have hb := C.2.1
  intro X H locs ls hP hS hl hf
  rw [X0_isBlank] at hf
  refine lv_aload_n hx hb dX0_isBlank_0 rfl (lv_at hl 0 rfl) ?_
  refine r_get C hP ha_l0 (ct_7 _ _ _ _) fx_X0_25 (fg_7_4 _ _ _) dX0_isBlank_1 ?_
  refine lv_if_ne (tgt := 11) hx hb dX0_isBlank_4 (by decide) (fun c1 => ?_) (fun c1 => ?_)
  · have hf := g_in c1 hf
    refine lv_iconst (v := 0) hx hb dX0_isBlank_11 (by decide) ?_
    exact s_X0_isBlank_J12 C hW hD0 (0 : Int32) X _ _ _ hP hS (lv_sub hl [] rfl) hf
  · have hf := g_ip c1 hf
    refine lv_iconst (v := 1) hx hb dX0_isBlank_7 (by decide) ?_
    refine lv_goto (tgt := 12) hx hb dX0_isBlank_8 (by decide) ?_
    exact s_X0_isBlank_J12 C hW hD0 (1 : Int32) X _ _ _ hP hS (lv_sub hl [] rfl) hf

theorem s_X0_isBlank {l : Launch} {D : va_G} {cA : Nat → ClassId} {ad : Nat → Nat → Nat} {NL : List (Nat × Nat)} {N : Nat} {p0 : Nat} {X : gM} {rr : Int32} {XX : gM} (hW : gWf NL) (hD0 : gD (fun _ => True) ad NL) (ha_l0 : (7, p0) ∈ NL) (hf : X0_isBlank (gal NL) N p0 X = some (rr, XX)) : gC l yX0_isBlank cX0_isBlank 1 (some .boolean) rm_X0_isBlank D cA ad NL [.ref (ad 7 p0)] X (some (.int rr)) XX :=
  g_ofW (by decide) hD0 (Nat.le_of_ble_eq_true rfl) rfl (fun p e s m below meth c ls C hP hS hl => w_X0_isBlank C hW hD0 ha_l0 X _ _ ls hP hS hl hf)
def rm_X0_isImaged : Room := { frames := 0, cells := 0, slots := 0, locals := 0 }
set_option maxRecDepth 100000 in
set_option maxHeartbeats 4000000 in
theorem s_X0_isImaged_J34 {p : Program} {l : Launch} {e : Env} {s : State} {m : MethodId} {args : Array Value} {below : List Frame} {meth : Method} {c : Code} {D : va_G} {cA : Nat → ClassId} {ad : Nat → Nat → Nat} {NL : List (Nat × Nat)} {A : Nat → Prop} {rr : Int32} {XX : gM} {N : Nat} (C : gCx p c meth m s args cX0_isImaged 5 (some .boolean) RX0 D cA ad NL A) (hW : gWf NL) (hD0 : gD (fun _ => True) ad NL) : ∀ (X : gM) (H : Heap) (locs : List Loc) (ls : Array Slot), gH D cA ad NL X H → va_S A s.heap H locs → lv_has ls 5 [] → X0_isImaged_J34 (gal NL) N X = some (rr, XX) → W p l e rm_X0_isImaged s m args below meth c H locs 0 0 (MQ below (gQ D cA ad NL (some (.int rr)) XX A) args s 0 0 A) (F0 m 34 ls []) := by
  have hx := C.1
  have hb := C.2.1
  intro X H locs ls hP hS hl hf
  rw [X0_isImaged_J34] at hf
  refine lv_iconst (v := 0) hx hb dX0_isImaged_34 (by decide) ?_
  obtain ⟨rfl, rfl⟩ := g_s1 hf
  exact r_zret C hP hS (by decide) dX0_isImaged_35

set_option maxRecDepth 100000 in
set_option maxHeartbeats 4000000 in
theorem s_X0_isImaged_J26 {p : Program} {l : Launch} {e : Env} {s : State} {m : MethodId} {args : Array Value} {below : List Frame} {meth : Method} {c : Code} {D : va_G} {cA : Nat → ClassId} {ad : Nat → Nat → Nat} {NL : List (Nat × Nat)} {A : Nat → Prop} {rr : Int32} {XX : gM} {N : Nat} (C : gCx p c meth m s args cX0_isImaged 5 (some .boolean) RX0 D cA ad NL A) (hW : gWf NL) (hD0 : gD (fun _ => True) ad NL) : ∀ (X : gM) (H : Heap) (locs : List Loc) (ls : Array Slot), gH D cA ad NL X H → va_S A s.heap H locs → lv_has ls 5 [] → X0_isImaged_J26 (gal NL) N X = some (rr, XX) → W p l e rm_X0_isImaged s m args below meth c H locs 0 0 (MQ below (gQ D cA ad NL (some (.int rr)) XX A) args s 0 0 A) (F0 m 26 ls []) := by
  have hx := C.1
  have hb := C.2.1
  intro X H locs ls hP hS hl hf
  rw [X0_isImaged_J26] at hf
  refine lv_iconst (v := 1) hx hb dX0_isImaged_26 (by decide) ?_
  obtain ⟨rfl, rfl⟩ := g_s1 hf
  exact r_zret C hP hS (by decide) dX0_isImaged_27

set_option maxRecDepth 100000 in
set_option maxHeartbeats 4000000 in
theorem s_X0_isImaged_L10 {p : Program} {l : Launch} {e : Env} {s : State} {m : MethodId} {args : Array Value} {below : List Frame} {meth : Method} {c : Code} {D : va_G} {cA : Nat → ClassId} {ad : Nat → Nat → Nat} {NL : List (Nat × Nat)} {A : Nat → Prop} {rr : Int32} {XX : gM} {N : Nat} {k26 : gM → Option (Int32 × gM)} {k34 : gM → Option (Int32 × gM)} (C : gCx p c meth m s args cX0_isImaged 5 (some .boolean) RX0 D cA ad NL A) (hW : gWf NL) (hD0 : gD (fun _ => True) ad NL) (hk26 : ∀ (Y : gM) (H : Heap) (locs : List Loc) (ls : Array Slot), gH D cA ad NL Y H → va_S A s.heap H locs → lv_has ls 5 [] → k26 Y = some (rr, XX) → W p l e rm_X0_isImaged s m args below meth c H locs 0 0 (MQ below (gQ D cA ad NL (some (.int rr)) XX A) args s 0 0 A) (F0 m 26 ls [])) (hk34 : ∀ (Y : gM) (H : Heap) (locs : List Loc) (ls : Array Slot), gH D cA ad NL Y H → va_S A s.heap H locs → lv_has ls 5 [] → k34 Y = some (rr, XX) → W p l e rm_X0_isImaged s m args below meth c H locs 0 0 (MQ below (gQ D cA ad NL (some (.int rr)) XX A) args s 0 0 A) (F0 m 34 ls [])) : ∀ (n : Nat) (p1 : Nat) (p2 : Int32) (p3 : Int32) (X : gM) (H : Heap) (locs : List Loc) (ls : Array Slot), gH D cA ad NL X H → va_S A s.heap H locs → lv_has ls 5 [(1, .ref (ad 8 p1)), (2, .int p2), (3, .int p3)] → (8, p1) ∈ NL → X0_isImaged_L10 (gal NL) N k26 k34 n p1 p2 p3 X = some (rr, XX) → W p l e rm_X0_isImaged s m args below meth c H locs 0 0 (MQ below (gQ D cA ad NL (some (.int rr)) XX A) args s 0 0 A) (F0 m 10 ls []) := by
  have hx := C.1
  have hb := C.2.1
  intro n
  induction n with
  | zero =>
    intro p1 p2 p3 X H locs ls hP hS hl ha_l1 hf
    rw [X0_isImaged_L10] at hf
    cases hf
  | succ n ih =>
    intro p1 p2 p3 X H locs ls hP hS hl ha_l1 hf
    rw [X0_isImaged_L10] at hf
    refine lv_iload_n hx hb dX0_isImaged_10 rfl (lv_at hl 2 rfl) ?_
    refine lv_iload_n hx hb dX0_isImaged_11 rfl (lv_at hl 1 rfl) ?_
    refine lv_icmp_ge (tgt := 34) hx hb dX0_isImaged_12 (by decide) (fun c1 => ?_) (fun c1 => ?_)
    · have hf := g_ip c1 hf
      exact hk34 X _ _ _ hP hS (lv_sub hl [] rfl) hf
    · have hf := g_in c1 hf
      refine lv_aload_n hx hb dX0_isImaged_15 rfl (lv_at hl 0 rfl) ?_
      refine lv_iload_n hx hb dX0_isImaged_16 rfl (lv_at hl 2 rfl) ?_
      obtain ⟨j2, h3, hf⟩ := rd_in hf
      refine r_iald C hP ha_l1 (ct_8 _ _ _ _) h3 dX0_isImaged_17 ?_
      refine g_top hf (fun v4 e5 hf => ?_)
      refine lv_istore (i := 4) (lv' := [(4, .int v4), (1, .ref (ad 8 p1)), (2, .int p2), (3, .int p3)]) hx hb dX0_isImaged_18 hl (Nat.le_of_ble_eq_true rfl) rfl (fun ls hl => ?_)
      refine lv_iload hx hb dX0_isImaged_20 (lv_at hl 0 rfl) ?_
      refine lv_iconst (v := -1) hx hb dX0_isImaged_22 (by decide) ?_
      refine lv_icmp_eq (tgt := 28) hx hb dX0_isImaged_23 (by decide) (fun c6 => ?_) (fun c6 => ?_)
      · have hf := g_ip c6 hf
        obtain ⟨v7, e8, hf⟩ := gl_in hf
        refine lv_iinc (v := v7) (lv' := [(3, .int v7), (4, .int v4), (1, .ref (ad 8 p1)), (2, .int p2)]) hx hb dX0_isImaged_28 hl (k := 3) rfl (by rw [e8]; rfl) (Nat.le_of_ble_eq_true rfl) rfl (fun ls hl => ?_)
        refine lv_goto (tgt := 10) hx hb dX0_isImaged_31 (by decide) ?_
        exact ih p1 p2 v7 X _ _ _ hP hS (lv_sub hl [2, 3, 0] rfl) ha_l1 hf
      · have hf := g_in c6 hf
        exact hk26 X _ _ _ hP hS (lv_sub hl [] rfl) hf

set_option maxRecDepth 100000 in
set_option maxHeartbeats 4000000 in
theorem w_X0_isImaged {p : Program} {l : Launch} {e : Env} {s : State} {m : MethodId} {args : Array Value} {below : List Frame} {meth : Method} {c : Code} {D : va_G} {cA : Nat → ClassId} {ad : Nat → Nat → Nat} {NL : List (Nat × Nat)} {A : Nat → Prop} {rr : Int32} {XX : gM} {N : Nat} (C : gCx p c meth m s args cX0_isImaged 5 (some .boolean) RX0 D cA ad NL A) (hW : gWf NL) (hD0 : gD (fun _ => True) ad NL) {p0 : Nat} (ha_l0 : (7, p0) ∈ NL) : ∀ (X : gM) (H : Heap) (locs : List Loc) (ls : Array Slot), gH D cA ad NL X H → va_S A s.heap H locs → lv_has ls 5 [(0, .ref (ad 7 p0))] → X0_isImaged (gal NL) N p0 X = some (rr, XX) → W p l e rm_X0_isImaged s m args below meth c H locs 0 0 (MQ below (gQ D cA ad NL (some (.int rr)) XX A) args s 0 0 A) (F0 m 0 ls []) := by
  have hx := C.1
  have hb := C.2.1
  intro X H locs ls hP hS hl hf
  rw [X0_isImaged] at hf
  refine lv_aload_n hx hb dX0_isImaged_0 rfl (lv_at hl 0 rfl) ?_
  refine r_get C hP ha_l0 (ct_7 _ _ _ _) fx_X0_9 (fg_7_0 _ _ _) dX0_isImaged_1 ?_
  refine lv_astore_n (i := 1) (lv' := [(1, .ref (ad 8 p0)), (0, .ref (ad 7 p0))]) hx hb dX0_isImaged_4 rfl hl (Nat.le_of_ble_eq_true rfl) rfl (fun ls hl => ?_)
  refine lv_aload_n hx hb dX0_isImaged_5 rfl (lv_at hl 0 rfl) ?_
  refine r_alen C hP 3 (gs_7_0 hW ha_l0) (ct_8 _ _ _ _) rfl rfl dX0_isImaged_6 ?_
  refine lv_istore_n (i := 2) (lv' := [(2, .int (3 : Int32)), (1, .ref (ad 8 p0)), (0, .ref (ad 7 p0))]) hx hb dX0_isImaged_7 rfl hl (Nat.le_of_ble_eq_true rfl) rfl (fun ls hl => ?_)
  refine lv_iconst (v := 0) hx hb dX0_isImaged_8 (by decide) ?_
  refine lv_istore_n (i := 3) (lv' := [(3, .int (0 : Int32)), (2, .int (3 : Int32)), (1, .ref (ad 8 p0)), (0, .ref (ad 7 p0))]) hx hb dX0_isImaged_9 rfl hl (Nat.le_of_ble_eq_true rfl) rfl (fun ls hl => ?_)
  exact s_X0_isImaged_L10 C hW hD0 (fun Y H locs ls hP hS hl hf => s_X0_isImaged_J26 C hW hD0 Y _ _ _ hP hS hl hf) (fun Y H locs ls hP hS hl hf => s_X0_isImaged_J34 C hW hD0 Y _ _ _ hP hS hl hf) N p0 (3 : Int32) (0 : Int32) X _ _ _ hP hS (lv_sub hl [2, 1, 0] rfl) (gs_7_0 hW ha_l0) hf

theorem s_X0_isImaged {l : Launch} {D : va_G} {cA : Nat → ClassId} {ad : Nat → Nat → Nat} {NL : List (Nat × Nat)} {N : Nat} {p0 : Nat} {X : gM} {rr : Int32} {XX : gM} (hW : gWf NL) (hD0 : gD (fun _ => True) ad NL) (ha_l0 : (7, p0) ∈ NL) (hf : X0_isImaged (gal NL) N p0 X = some (rr, XX)) : gC l yX0_isImaged cX0_isImaged 5 (some .boolean) rm_X0_isImaged D cA ad NL [.ref (ad 7 p0)] X (some (.int rr)) XX :=
  g_ofW (by decide) hD0 (Nat.le_of_ble_eq_true rfl) rfl (fun p e s m below meth c ls C hP hS hl => w_X0_isImaged C hW hD0 ha_l0 X _ _ ls hP hS hl hf)
def rm_X0_comesOf : Room := { frames := 0, cells := 0, slots := 0, locals := 0 }
set_option maxRecDepth 100000 in
set_option maxHeartbeats 4000000 in
theorem s_X0_comesOf_J57 {p : Program} {l : Launch} {e : Env} {s : State} {m : MethodId} {args : Array Value} {below : List Frame} {meth : Method} {c : Code} {D : va_G} {cA : Nat → ClassId} {ad : Nat → Nat → Nat} {NL : List (Nat × Nat)} {A : Nat → Prop} {rr : Int32} {XX : gM} {N : Nat} (C : gCx p c meth m s args cX0_comesOf 5 (some .boolean) RX0 D cA ad NL A) (hW : gWf NL) (hD0 : gD (fun _ => True) ad NL) : ∀ (X : gM) (H : Heap) (locs : List Loc) (ls : Array Slot), gH D cA ad NL X H → va_S A s.heap H locs → lv_has ls 5 [] → X0_comesOf_J57 (gal NL) N X = some (rr, XX) → W p l e rm_X0_comesOf s m args below meth c H locs 0 0 (MQ below (gQ D cA ad NL (some (.int rr)) XX A) args s 0 0 A) (F0 m 57 ls []) := by
  have hx := C.1
  have hb := C.2.1
  intro X H locs ls hP hS hl hf
  rw [X0_comesOf_J57] at hf
  refine lv_iconst (v := 1) hx hb dX0_comesOf_57 (by decide) ?_
  obtain ⟨rfl, rfl⟩ := g_s1 hf
  exact r_zret C hP hS (by decide) dX0_comesOf_58

set_option maxRecDepth 100000 in
set_option maxHeartbeats 4000000 in
theorem s_X0_comesOf_J51 {p : Program} {l : Launch} {e : Env} {s : State} {m : MethodId} {args : Array Value} {below : List Frame} {meth : Method} {c : Code} {D : va_G} {cA : Nat → ClassId} {ad : Nat → Nat → Nat} {NL : List (Nat × Nat)} {A : Nat → Prop} {rr : Int32} {XX : gM} {N : Nat} {kk : Nat → Int32 → Int32 → Int32 → gM → Option (Int32 × gM)} {k49 : gM → Option (Int32 × gM)} {k57 : gM → Option (Int32 × gM)} (C : gCx p c meth m s args cX0_comesOf 5 (some .boolean) RX0 D cA ad NL A) (hW : gWf NL) (hD0 : gD (fun _ => True) ad NL) (hkk : ∀ (p0 : Nat) (p2 : Int32) (p3 : Int32) (p4 : Int32) (Y : gM) (H : Heap) (locs : List Loc) (ls : Array Slot), gH D cA ad NL Y H → va_S A s.heap H locs → lv_has ls 5 [(0, .ref (ad 7 p0)), (1, .ref (ad 1 0)), (2, .int p2), (3, .int p3), (4, .int p4)] → (7, p0) ∈ NL → (1, 0) ∈ NL → kk p0 p2 p3 p4 Y = some (rr, XX) → W p l e rm_X0_comesOf s m args below meth c H locs 0 0 (MQ below (gQ D cA ad NL (some (.int rr)) XX A) args s 0 0 A) (F0 m 3 ls [])) (hk49 : ∀ (Y : gM) (H : Heap) (locs : List Loc) (ls : Array Slot), gH D cA ad NL Y H → va_S A s.heap H locs → lv_has ls 5 [] → k49 Y = some (rr, XX) → W p l e rm_X0_comesOf s m args below meth c H locs 0 0 (MQ below (gQ D cA ad NL (some (.int rr)) XX A) args s 0 0 A) (F0 m 49 ls [])) (hk57 : ∀ (Y : gM) (H : Heap) (locs : List Loc) (ls : Array Slot), gH D cA ad NL Y H → va_S A s.heap H locs → lv_has ls 5 [] → k57 Y = some (rr, XX) → W p l e rm_X0_comesOf s m args below meth c H locs 0 0 (MQ below (gQ D cA ad NL (some (.int rr)) XX A) args s 0 0 A) (F0 m 57 ls [])) : ∀ (p0 : Nat) (p2 : Int32) (p3 : Int32) (p4 : Int32) (X : gM) (H : Heap) (locs : List Loc) (ls : Array Slot), gH D cA ad NL X H → va_S A s.heap H locs → lv_has ls 5 [(0, .ref (ad 7 p0)), (1, .ref (ad 1 0)), (2, .int p2), (3, .int p3), (4, .int p4)] → (7, p0) ∈ NL → (1, 0) ∈ NL → X0_comesOf_J51 (gal NL) N kk k49 k57 p0 p2 p3 p4 X = some (rr, XX) → W p l e rm_X0_comesOf s m args below meth c H locs 0 0 (MQ below (gQ D cA ad NL (some (.int rr)) XX A) args s 0 0 A) (F0 m 51 ls []) := by
  have hx := C.1
  have hb := C.2.1
  intro p0 p2 p3 p4 X H locs ls hP hS hl ha_l0 ha_l1 hf
  rw [X0_comesOf_J51] at hf
  obtain ⟨v1, e2, hf⟩ := gl_in hf
  refine lv_iinc (v := v1) (lv' := [(4, .int v1), (0, .ref (ad 7 p0)), (1, .ref (ad 1 0)), (2, .int p2), (3, .int p3)]) hx hb dX0_comesOf_51 hl (k := 4) rfl (by rw [e2]; rfl) (Nat.le_of_ble_eq_true rfl) rfl (fun ls hl => ?_)
  refine lv_goto (tgt := 3) hx hb dX0_comesOf_54 (by decide) ?_
  exact hkk p0 p2 p3 v1 X _ _ _ hP hS (lv_sub hl [1, 2, 3, 4, 0] rfl) ha_l0 ha_l1 hf

set_option maxRecDepth 100000 in
set_option maxHeartbeats 4000000 in
theorem s_X0_comesOf_J49 {p : Program} {l : Launch} {e : Env} {s : State} {m : MethodId} {args : Array Value} {below : List Frame} {meth : Method} {c : Code} {D : va_G} {cA : Nat → ClassId} {ad : Nat → Nat → Nat} {NL : List (Nat × Nat)} {A : Nat → Prop} {rr : Int32} {XX : gM} {N : Nat} (C : gCx p c meth m s args cX0_comesOf 5 (some .boolean) RX0 D cA ad NL A) (hW : gWf NL) (hD0 : gD (fun _ => True) ad NL) : ∀ (X : gM) (H : Heap) (locs : List Loc) (ls : Array Slot), gH D cA ad NL X H → va_S A s.heap H locs → lv_has ls 5 [] → X0_comesOf_J49 (gal NL) N X = some (rr, XX) → W p l e rm_X0_comesOf s m args below meth c H locs 0 0 (MQ below (gQ D cA ad NL (some (.int rr)) XX A) args s 0 0 A) (F0 m 49 ls []) := by
  have hx := C.1
  have hb := C.2.1
  intro X H locs ls hP hS hl hf
  rw [X0_comesOf_J49] at hf
  refine lv_iconst (v := 0) hx hb dX0_comesOf_49 (by decide) ?_
  obtain ⟨rfl, rfl⟩ := g_s1 hf
  exact r_zret C hP hS (by decide) dX0_comesOf_50

set_option maxRecDepth 100000 in
set_option maxHeartbeats 4000000 in
theorem s_X0_comesOf_L3 {p : Program} {l : Launch} {e : Env} {s : State} {m : MethodId} {args : Array Value} {below : List Frame} {meth : Method} {c : Code} {D : va_G} {cA : Nat → ClassId} {ad : Nat → Nat → Nat} {NL : List (Nat × Nat)} {A : Nat → Prop} {rr : Int32} {XX : gM} {N : Nat} {k49 : gM → Option (Int32 × gM)} {k57 : gM → Option (Int32 × gM)} (C : gCx p c meth m s args cX0_comesOf 5 (some .boolean) RX0 D cA ad NL A) (hW : gWf NL) (hD0 : gD (fun _ => True) ad NL) (hk49 : ∀ (Y : gM) (H : Heap) (locs : List Loc) (ls : Array Slot), gH D cA ad NL Y H → va_S A s.heap H locs → lv_has ls 5 [] → k49 Y = some (rr, XX) → W p l e rm_X0_comesOf s m args below meth c H locs 0 0 (MQ below (gQ D cA ad NL (some (.int rr)) XX A) args s 0 0 A) (F0 m 49 ls [])) (hk57 : ∀ (Y : gM) (H : Heap) (locs : List Loc) (ls : Array Slot), gH D cA ad NL Y H → va_S A s.heap H locs → lv_has ls 5 [] → k57 Y = some (rr, XX) → W p l e rm_X0_comesOf s m args below meth c H locs 0 0 (MQ below (gQ D cA ad NL (some (.int rr)) XX A) args s 0 0 A) (F0 m 57 ls [])) : ∀ (n : Nat) (p0 : Nat) (p2 : Int32) (p3 : Int32) (p4 : Int32) (X : gM) (H : Heap) (locs : List Loc) (ls : Array Slot), gH D cA ad NL X H → va_S A s.heap H locs → lv_has ls 5 [(0, .ref (ad 7 p0)), (1, .ref (ad 1 0)), (2, .int p2), (3, .int p3), (4, .int p4)] → (7, p0) ∈ NL → (1, 0) ∈ NL → X0_comesOf_L3 (gal NL) N k49 k57 n p0 p2 p3 p4 X = some (rr, XX) → W p l e rm_X0_comesOf s m args below meth c H locs 0 0 (MQ below (gQ D cA ad NL (some (.int rr)) XX A) args s 0 0 A) (F0 m 3 ls []) := by
  have hx := C.1
  have hb := C.2.1
  intro n
  induction n with
  | zero =>
    intro p0 p2 p3 p4 X H locs ls hP hS hl ha_l0 ha_l1 hf
    rw [X0_comesOf_L3] at hf
    cases hf
  | succ n ih =>
    intro p0 p2 p3 p4 X H locs ls hP hS hl ha_l0 ha_l1 hf
    rw [X0_comesOf_L3] at hf
    refine lv_iload hx hb dX0_comesOf_3 (lv_at hl 4 rfl) ?_
    refine lv_iconst (v := 3) hx hb dX0_comesOf_5 (by decide) ?_
    refine lv_icmp_ge (tgt := 57) hx hb dX0_comesOf_6 (by decide) (fun c1 => ?_) (fun c1 => ?_)
    · have hf := g_ip c1 hf
      exact hk57 X _ _ _ hP hS (lv_sub hl [] rfl) hf
    · have hf := g_in c1 hf
      refine lv_aload_n hx hb dX0_comesOf_9 rfl (lv_at hl 0 rfl) ?_
      refine r_get C hP ha_l0 (ct_7 _ _ _ _) fx_X0_9 (fg_7_0 _ _ _) dX0_comesOf_10 ?_
      refine lv_iload hx hb dX0_comesOf_13 (lv_at hl 4 rfl) ?_
      obtain ⟨j2, h3, hf⟩ := rd_in hf
      refine r_iald C hP (gs_7_0 hW ha_l0) (ct_8 _ _ _ _) h3 dX0_comesOf_15 ?_
      refine lv_iconst (v := -1) hx hb dX0_comesOf_16 (by decide) ?_
      refine lv_icmp_eq (tgt := 51) hx hb dX0_comesOf_17 (by decide) (fun c4 => ?_) (fun c4 => ?_)
      · have hf := g_ip c4 hf
        exact s_X0_comesOf_J51 C hW hD0 ih hk49 hk57 p0 p2 p3 p4 X _ _ _ hP hS (lv_sub hl [0, 1, 2, 3, 4] rfl) ha_l0 ha_l1 hf
      · have hf := g_in c4 hf
        refine lv_aload_n hx hb dX0_comesOf_20 rfl (lv_at hl 0 rfl) ?_
        refine r_get C hP ha_l0 (ct_7 _ _ _ _) fx_X0_9 (fg_7_0 _ _ _) dX0_comesOf_21 ?_
        refine lv_iload hx hb dX0_comesOf_24 (lv_at hl 4 rfl) ?_
        obtain ⟨j5, h6, hf⟩ := rd_in hf
        refine r_iald C hP (gs_7_0 hW ha_l0) (ct_8 _ _ _ _) h6 dX0_comesOf_26 ?_
        refine lv_aload_n hx hb dX0_comesOf_27 rfl (lv_at hl 1 rfl) ?_
        refine r_get C hP ha_l1 (ct_1 _ _ _ _) fx_X0_36 (fg_1_0 _ _ _) dX0_comesOf_28 ?_
        refine lv_iload hx hb dX0_comesOf_31 (lv_at hl 4 rfl) ?_
        obtain ⟨j7, h8, hf⟩ := rd_in hf
        refine r_iald C hP (gs_1_0 hW ha_l1) (ct_2 _ _ _ _) h8 dX0_comesOf_33 ?_
        refine lv_iload_n hx hb dX0_comesOf_34 rfl (lv_at hl 2 rfl) ?_
        refine lv_imul hx hb dX0_comesOf_35 ?_
        refine lv_aload_n hx hb dX0_comesOf_36 rfl (lv_at hl 1 rfl) ?_
        refine r_get C hP ha_l1 (ct_1 _ _ _ _) fx_X0_40 (fg_1_1 _ _ _) dX0_comesOf_37 ?_
        refine lv_iload hx hb dX0_comesOf_40 (lv_at hl 4 rfl) ?_
        obtain ⟨j9, h10, hf⟩ := rd_in hf
        refine r_iald C hP (gs_1_1 hW ha_l1) (ct_3 _ _ _ _) h10 dX0_comesOf_42 ?_
        refine lv_iload_n hx hb dX0_comesOf_43 rfl (lv_at hl 3 rfl) ?_
        refine lv_imul hx hb dX0_comesOf_44 ?_
        refine lv_iadd hx hb dX0_comesOf_45 ?_
        refine lv_icmp_eq (tgt := 51) hx hb dX0_comesOf_46 (by decide) (fun c11 => ?_) (fun c11 => ?_)
        · have hf := g_ip c11 hf
          exact s_X0_comesOf_J51 C hW hD0 ih hk49 hk57 p0 p2 p3 p4 X _ _ _ hP hS (lv_sub hl [0, 1, 2, 3, 4] rfl) ha_l0 ha_l1 hf
        · have hf := g_in c11 hf
          exact hk49 X _ _ _ hP hS (lv_sub hl [] rfl) hf

set_option maxRecDepth 100000 in
set_option maxHeartbeats 4000000 in
theorem w_X0_comesOf {p : Program} {l : Launch} {e : Env} {s : State} {m : MethodId} {args : Array Value} {below : List Frame} {meth : Method} {c : Code} {D : va_G} {cA : Nat → ClassId} {ad : Nat → Nat → Nat} {NL : List (Nat × Nat)} {A : Nat → Prop} {rr : Int32} {XX : gM} {N : Nat} (C : gCx p c meth m s args cX0_comesOf 5 (some .boolean) RX0 D cA ad NL A) (hW : gWf NL) (hD0 : gD (fun _ => True) ad NL) {p0 : Nat} {p2 : Int32} {p3 : Int32} (ha_l0 : (7, p0) ∈ NL) (ha_l1 : (1, 0) ∈ NL) : ∀ (X : gM) (H : Heap) (locs : List Loc) (ls : Array Slot), gH D cA ad NL X H → va_S A s.heap H locs → lv_has ls 5 [(0, .ref (ad 7 p0)), (1, .ref (ad 1 0)), (2, .int p2), (3, .int p3)] → X0_comesOf (gal NL) N p0 p2 p3 X = some (rr, XX) → W p l e rm_X0_comesOf s m args below meth c H locs 0 0 (MQ below (gQ D cA ad NL (some (.int rr)) XX A) args s 0 0 A) (F0 m 0 ls []) := by
  have hx := C.1
  have hb := C.2.1
  intro X H locs ls hP hS hl hf
  rw [X0_comesOf] at hf
  refine lv_iconst (v := 0) hx hb dX0_comesOf_0 (by decide) ?_
  refine lv_istore (i := 4) (lv' := [(4, .int (0 : Int32)), (0, .ref (ad 7 p0)), (1, .ref (ad 1 0)), (2, .int p2), (3, .int p3)]) hx hb dX0_comesOf_1 hl (Nat.le_of_ble_eq_true rfl) rfl (fun ls hl => ?_)
  exact s_X0_comesOf_L3 C hW hD0 (fun Y H locs ls hP hS hl hf => s_X0_comesOf_J49 C hW hD0 Y _ _ _ hP hS hl hf) (fun Y H locs ls hP hS hl hf => s_X0_comesOf_J57 C hW hD0 Y _ _ _ hP hS hl hf) N p0 p2 p3 (0 : Int32) X _ _ _ hP hS (lv_sub hl [1, 2, 3, 4, 0] rfl) ha_l0 ha_l1 hf

theorem s_X0_comesOf {l : Launch} {D : va_G} {cA : Nat → ClassId} {ad : Nat → Nat → Nat} {NL : List (Nat × Nat)} {N : Nat} {p0 : Nat} {p2 : Int32} {p3 : Int32} {X : gM} {rr : Int32} {XX : gM} (hW : gWf NL) (hD0 : gD (fun _ => True) ad NL) (ha_l0 : (7, p0) ∈ NL) (ha_l1 : (1, 0) ∈ NL) (hf : X0_comesOf (gal NL) N p0 p2 p3 X = some (rr, XX)) : gC l yX0_comesOf cX0_comesOf 5 (some .boolean) rm_X0_comesOf D cA ad NL [.ref (ad 7 p0), .ref (ad 1 0), .int p2, .int p3] X (some (.int rr)) XX :=
  g_ofW (by decide) hD0 (Nat.le_of_ble_eq_true rfl) rfl (fun p e s m below meth c ls C hP hS hl => w_X0_comesOf C hW hD0 ha_l0 ha_l1 X _ _ ls hP hS hl hf)
def rm_X0_measure : Room := { frames := 1, cells := 0, slots := 0, locals := 24 }
set_option maxRecDepth 100000 in
set_option maxHeartbeats 4000000 in
theorem s_X0_measure_J93 {p : Program} {l : Launch} {e : Env} {s : State} {m : MethodId} {args : Array Value} {below : List Frame} {meth : Method} {c : Code} {D : va_G} {cA : Nat → ClassId} {ad : Nat → Nat → Nat} {NL : List (Nat × Nat)} {A : Nat → Prop} {rr : Int32} {XX : gM} {N : Nat} (C : gCx p c meth m s args cX0_measure 5 none RX0 D cA ad NL A) (hW : gWf NL) (hD0 : gD (fun _ => True) ad NL) : ∀ (X : gM) (H : Heap) (locs : List Loc) (ls : Array Slot), gH D cA ad NL X H → va_S A s.heap H locs → lv_has ls 5 [] → X0_measure_J93 (gal NL) N X = some (rr, XX) → W p l e rm_X0_measure s m args below meth c H locs 0 0 (MQ below (gQ D cA ad NL none XX A) args s 0 0 A) (F0 m 93 ls []) := by
  have hx := C.1
  have hb := C.2.1
  intro X H locs ls hP hS hl hf
  rw [X0_measure_J93] at hf
  obtain ⟨rfl, rfl⟩ := g_s1 hf
  exact r_vret C hP hS dX0_measure_93

set_option maxRecDepth 100000 in
set_option maxHeartbeats 4000000 in
theorem s_X0_measure_J78 {p : Program} {l : Launch} {e : Env} {s : State} {m : MethodId} {args : Array Value} {below : List Frame} {meth : Method} {c : Code} {D : va_G} {cA : Nat → ClassId} {ad : Nat → Nat → Nat} {NL : List (Nat × Nat)} {A : Nat → Prop} {rr : Int32} {XX : gM} {N : Nat} (C : gCx p c meth m s args cX0_measure 5 none RX0 D cA ad NL A) (hW : gWf NL) (hD0 : gD (fun _ => True) ad NL) : ∀ (p0 : Nat) (p2 : Int32) (X : gM) (H : Heap) (locs : List Loc) (ls : Array Slot), gH D cA ad NL X H → va_S A s.heap H locs → lv_has ls 5 [(0, .ref (ad 7 p0)), (2, .int p2)] → (7, p0) ∈ NL → X0_measure_J78 (gal NL) N p0 p2 X = some (rr, XX) → W p l e rm_X0_measure s m args below meth c H locs 0 0 (MQ below (gQ D cA ad NL none XX A) args s 0 0 A) (F0 m 78 ls []) := by
  have hx := C.1
  have hb := C.2.1
  intro p0 p2 X H locs ls hP hS hl ha_l0 hf
  rw [X0_measure_J78] at hf
  refine lv_iload_n hx hb dX0_measure_78 rfl (lv_at hl 1 rfl) ?_
  refine lv_iconst (v := 1) hx hb dX0_measure_79 (by decide) ?_
  refine lv_icmp_eq (tgt := 93) hx hb dX0_measure_80 (by decide) (fun c1 => ?_) (fun c1 => ?_)
  · have hf := g_ip c1 hf
    exact s_X0_measure_J93 C hW hD0 X _ _ _ hP hS (lv_sub hl [] rfl) hf
  · have hf := g_in c1 hf
    refine lv_aload_n hx hb dX0_measure_83 rfl (lv_at hl 0 rfl) ?_
    refine lv_iconst (v := -1) hx hb dX0_measure_84 (by decide) ?_
    refine r_put C hP hS (-1 : Int32) ha_l0 (ct_7 _ _ _ _) px_X0_21 (fp_7_3 _ _ _ _ _) (Nat.le_of_ble_eq_true rfl) rfl rfl dX0_measure_85 (fun H locs hP hS => ?_)
    obtain ⟨X2, e3, hf⟩ := gl_in hf
    rw [← e3] at hP
    refine lv_aload_n hx hb dX0_measure_88 rfl (lv_at hl 0 rfl) ?_
    refine lv_iconst (v := -1) hx hb dX0_measure_89 (by decide) ?_
    refine r_put C hP hS (-1 : Int32) ha_l0 (ct_7 _ _ _ _) px_X0_25 (fp_7_4 _ _ _ _ _) (Nat.le_of_ble_eq_true rfl) rfl rfl dX0_measure_90 (fun H locs hP hS => ?_)
    obtain ⟨X4, e5, hf⟩ := gl_in hf
    rw [← e5] at hP
    exact s_X0_measure_J93 C hW hD0 X4 _ _ _ hP hS (lv_sub hl [] rfl) hf

set_option maxRecDepth 100000 in
set_option maxHeartbeats 4000000 in
theorem s_X0_measure_J72 {p : Program} {l : Launch} {e : Env} {s : State} {m : MethodId} {args : Array Value} {below : List Frame} {meth : Method} {c : Code} {D : va_G} {cA : Nat → ClassId} {ad : Nat → Nat → Nat} {NL : List (Nat × Nat)} {A : Nat → Prop} {rr : Int32} {XX : gM} {N : Nat} {kk : Nat → Int32 → Int32 → gM → Option (Int32 × gM)} {k78 : Nat → Int32 → gM → Option (Int32 × gM)} (C : gCx p c meth m s args cX0_measure 5 none RX0 D cA ad NL A) (hW : gWf NL) (hD0 : gD (fun _ => True) ad NL) (hkk : ∀ (p0 : Nat) (p2 : Int32) (p3 : Int32) (Y : gM) (H : Heap) (locs : List Loc) (ls : Array Slot), gH D cA ad NL Y H → va_S A s.heap H locs → lv_has ls 5 [(0, .ref (ad 7 p0)), (1, .ref (ad 1 0)), (2, .int p2), (3, .int p3)] → (7, p0) ∈ NL → (1, 0) ∈ NL → kk p0 p2 p3 Y = some (rr, XX) → W p l e rm_X0_measure s m args below meth c H locs 0 0 (MQ below (gQ D cA ad NL none XX A) args s 0 0 A) (F0 m 22 ls [])) (hk78 : ∀ (p0 : Nat) (p2 : Int32) (Y : gM) (H : Heap) (locs : List Loc) (ls : Array Slot), gH D cA ad NL Y H → va_S A s.heap H locs → lv_has ls 5 [(0, .ref (ad 7 p0)), (2, .int p2)] → (7, p0) ∈ NL → k78 p0 p2 Y = some (rr, XX) → W p l e rm_X0_measure s m args below meth c H locs 0 0 (MQ below (gQ D cA ad NL none XX A) args s 0 0 A) (F0 m 78 ls [])) : ∀ (p0 : Nat) (p2 : Int32) (p3 : Int32) (X : gM) (H : Heap) (locs : List Loc) (ls : Array Slot), gH D cA ad NL X H → va_S A s.heap H locs → lv_has ls 5 [(0, .ref (ad 7 p0)), (1, .ref (ad 1 0)), (2, .int p2), (3, .int p3)] → (7, p0) ∈ NL → (1, 0) ∈ NL → X0_measure_J72 (gal NL) N kk k78 p0 p2 p3 X = some (rr, XX) → W p l e rm_X0_measure s m args below meth c H locs 0 0 (MQ below (gQ D cA ad NL none XX A) args s 0 0 A) (F0 m 72 ls []) := by
  have hx := C.1
  have hb := C.2.1
  intro p0 p2 p3 X H locs ls hP hS hl ha_l0 ha_l1 hf
  rw [X0_measure_J72] at hf
  obtain ⟨v1, e2, hf⟩ := gl_in hf
  refine lv_iinc (v := v1) (lv' := [(3, .int v1), (0, .ref (ad 7 p0)), (1, .ref (ad 1 0)), (2, .int p2)]) hx hb dX0_measure_72 hl (k := 3) rfl (by rw [e2]; rfl) (Nat.le_of_ble_eq_true rfl) rfl (fun ls hl => ?_)
  refine lv_goto (tgt := 22) hx hb dX0_measure_75 (by decide) ?_
  exact hkk p0 p2 v1 X _ _ _ hP hS (lv_sub hl [1, 2, 3, 0] rfl) ha_l0 ha_l1 hf

set_option maxRecDepth 100000 in
set_option maxHeartbeats 4000000 in
theorem s_X0_measure_J66 {p : Program} {l : Launch} {e : Env} {s : State} {m : MethodId} {args : Array Value} {below : List Frame} {meth : Method} {c : Code} {D : va_G} {cA : Nat → ClassId} {ad : Nat → Nat → Nat} {NL : List (Nat × Nat)} {A : Nat → Prop} {rr : Int32} {XX : gM} {N : Nat} {kk : Nat → Int32 → Int32 → Int32 → gM → Option (Int32 × gM)} {k72 : Nat → Int32 → Int32 → gM → Option (Int32 × gM)} (C : gCx p c meth m s args cX0_measure 5 none RX0 D cA ad NL A) (hW : gWf NL) (hD0 : gD (fun _ => True) ad NL) (hkk : ∀ (p0 : Nat) (p2 : Int32) (p3 : Int32) (p4 : Int32) (Y : gM) (H : Heap) (locs : List Loc) (ls : Array Slot), gH D cA ad NL Y H → va_S A s.heap H locs → lv_has ls 5 [(0, .ref (ad 7 p0)), (1, .ref (ad 1 0)), (2, .int p2), (3, .int p3), (4, .int p4)] → (7, p0) ∈ NL → (1, 0) ∈ NL → kk p0 p2 p3 p4 Y = some (rr, XX) → W p l e rm_X0_measure s m args below meth c H locs 0 0 (MQ below (gQ D cA ad NL none XX A) args s 0 0 A) (F0 m 31 ls [])) (hk72 : ∀ (p0 : Nat) (p2 : Int32) (p3 : Int32) (Y : gM) (H : Heap) (locs : List Loc) (ls : Array Slot), gH D cA ad NL Y H → va_S A s.heap H locs → lv_has ls 5 [(0, .ref (ad 7 p0)), (1, .ref (ad 1 0)), (2, .int p2), (3, .int p3)] → (7, p0) ∈ NL → (1, 0) ∈ NL → k72 p0 p2 p3 Y = some (rr, XX) → W p l e rm_X0_measure s m args below meth c H locs 0 0 (MQ below (gQ D cA ad NL none XX A) args s 0 0 A) (F0 m 72 ls [])) : ∀ (p0 : Nat) (p2 : Int32) (p3 : Int32) (p4 : Int32) (X : gM) (H : Heap) (locs : List Loc) (ls : Array Slot), gH D cA ad NL X H → va_S A s.heap H locs → lv_has ls 5 [(0, .ref (ad 7 p0)), (1, .ref (ad 1 0)), (2, .int p2), (3, .int p3), (4, .int p4)] → (7, p0) ∈ NL → (1, 0) ∈ NL → X0_measure_J66 (gal NL) N kk k72 p0 p2 p3 p4 X = some (rr, XX) → W p l e rm_X0_measure s m args below meth c H locs 0 0 (MQ below (gQ D cA ad NL none XX A) args s 0 0 A) (F0 m 66 ls []) := by
  have hx := C.1
  have hb := C.2.1
  intro p0 p2 p3 p4 X H locs ls hP hS hl ha_l0 ha_l1 hf
  rw [X0_measure_J66] at hf
  obtain ⟨v1, e2, hf⟩ := gl_in hf
  refine lv_iinc (v := v1) (lv' := [(4, .int v1), (0, .ref (ad 7 p0)), (1, .ref (ad 1 0)), (2, .int p2), (3, .int p3)]) hx hb dX0_measure_66 hl (k := 4) rfl (by rw [e2]; rfl) (Nat.le_of_ble_eq_true rfl) rfl (fun ls hl => ?_)
  refine lv_goto (tgt := 31) hx hb dX0_measure_69 (by decide) ?_
  exact hkk p0 p2 p3 v1 X _ _ _ hP hS (lv_sub hl [1, 2, 3, 4, 0] rfl) ha_l0 ha_l1 hf

set_option maxRecDepth 100000 in
set_option maxHeartbeats 4000000 in
theorem s_X0_measure_L31 {p : Program} {l : Launch} {e : Env} {s : State} {m : MethodId} {args : Array Value} {below : List Frame} {meth : Method} {c : Code} {D : va_G} {cA : Nat → ClassId} {ad : Nat → Nat → Nat} {NL : List (Nat × Nat)} {A : Nat → Prop} {rr : Int32} {XX : gM} {N : Nat} {k72 : Nat → Int32 → Int32 → gM → Option (Int32 × gM)} (C : gCx p c meth m s args cX0_measure 5 none RX0 D cA ad NL A) (hW : gWf NL) (hD0 : gD (fun _ => True) ad NL) (hk72 : ∀ (p0 : Nat) (p2 : Int32) (p3 : Int32) (Y : gM) (H : Heap) (locs : List Loc) (ls : Array Slot), gH D cA ad NL Y H → va_S A s.heap H locs → lv_has ls 5 [(0, .ref (ad 7 p0)), (1, .ref (ad 1 0)), (2, .int p2), (3, .int p3)] → (7, p0) ∈ NL → (1, 0) ∈ NL → k72 p0 p2 p3 Y = some (rr, XX) → W p l e rm_X0_measure s m args below meth c H locs 0 0 (MQ below (gQ D cA ad NL none XX A) args s 0 0 A) (F0 m 72 ls [])) : ∀ (n : Nat) (p0 : Nat) (p2 : Int32) (p3 : Int32) (p4 : Int32) (X : gM) (H : Heap) (locs : List Loc) (ls : Array Slot), gH D cA ad NL X H → va_S A s.heap H locs → lv_has ls 5 [(0, .ref (ad 7 p0)), (1, .ref (ad 1 0)), (2, .int p2), (3, .int p3), (4, .int p4)] → (7, p0) ∈ NL → (1, 0) ∈ NL → X0_measure_L31 (gal NL) N k72 n p0 p2 p3 p4 X = some (rr, XX) → W p l e rm_X0_measure s m args below meth c H locs 0 0 (MQ below (gQ D cA ad NL none XX A) args s 0 0 A) (F0 m 31 ls []) := by
  have hx := C.1
  have hb := C.2.1
  intro n
  induction n with
  | zero =>
    intro p0 p2 p3 p4 X H locs ls hP hS hl ha_l0 ha_l1 hf
    rw [X0_measure_L31] at hf
    cases hf
  | succ n ih =>
    intro p0 p2 p3 p4 X H locs ls hP hS hl ha_l0 ha_l1 hf
    rw [X0_measure_L31] at hf
    refine lv_iload hx hb dX0_measure_31 (lv_at hl 4 rfl) ?_
    refine lv_bipush (v := 9) hx hb dX0_measure_33 (by decide) ?_
    refine lv_icmp_gt (tgt := 72) hx hb dX0_measure_35 (by decide) (fun c1 => ?_) (fun c1 => ?_)
    · have hf := g_ip c1 hf
      exact hk72 p0 p2 p3 X _ _ _ hP hS (lv_sub hl [0, 1, 2, 3] rfl) ha_l0 ha_l1 hf
    · have hf := g_in c1 hf
      refine lv_aload_n hx hb dX0_measure_38 rfl (lv_at hl 0 rfl) ?_
      refine lv_aload_n hx hb dX0_measure_39 rfl (lv_at hl 1 rfl) ?_
      refine lv_iload_n hx hb dX0_measure_40 rfl (lv_at hl 3 rfl) ?_
      refine lv_iload hx hb dX0_measure_41 (lv_at hl 4 rfl) ?_
      obtain ⟨r2, X3, h4, hf⟩ := b2_in hf
      refine r_cVi (rest := []) C hP hS hl.1 (s_X0_comesOf hW hD0 ha_l0 ha_l1 h4) ix_X0_comesOf iv_X0_comesOf lk_X0_32 ⟨rfl, rfl, Nat.le_of_ble_eq_true rfl, Nat.le_of_ble_eq_true rfl⟩ ha_l0 (ct_7 _ _ _ _) rfl rfl rfl rfl (Nat.le_of_ble_eq_true rfl) ⟨Nat.zero_le _, Nat.zero_le _⟩ dX0_measure_43 (fun H locs hP hS => ?_)
      refine lv_if_ne (tgt := 52) hx hb dX0_measure_46 (by decide) (fun c5 => ?_) (fun c5 => ?_)
      · have hf := g_in c5 hf
        obtain ⟨v6, e7, hf⟩ := gl_in hf
        refine lv_iinc (v := v6) (lv' := [(2, .int v6), (0, .ref (ad 7 p0)), (1, .ref (ad 1 0)), (3, .int p3), (4, .int p4)]) hx hb dX0_measure_52 hl (k := 2) rfl (by rw [e7]; rfl) (Nat.le_of_ble_eq_true rfl) rfl (fun ls hl => ?_)
        refine lv_aload_n hx hb dX0_measure_55 rfl (lv_at hl 1 rfl) ?_
        refine lv_iload_n hx hb dX0_measure_56 rfl (lv_at hl 3 rfl) ?_
        refine r_put C hP hS p3 ha_l0 (ct_7 _ _ _ _) px_X0_21 (fp_7_3 _ _ _ _ _) (Nat.le_of_ble_eq_true rfl) rfl rfl dX0_measure_57 (fun H locs hP hS => ?_)
        obtain ⟨X8, e9, hf⟩ := gl_in hf
        rw [← e9] at hP
        refine lv_aload_n hx hb dX0_measure_60 rfl (lv_at hl 1 rfl) ?_
        refine lv_iload hx hb dX0_measure_61 (lv_at hl 4 rfl) ?_
        refine r_put C hP hS p4 ha_l0 (ct_7 _ _ _ _) px_X0_25 (fp_7_4 _ _ _ _ _) (Nat.le_of_ble_eq_true rfl) rfl rfl dX0_measure_63 (fun H locs hP hS => ?_)
        obtain ⟨X10, e11, hf⟩ := gl_in hf
        rw [← e11] at hP
        exact s_X0_measure_J66 C hW hD0 ih hk72 p0 v6 p3 p4 X10 _ _ _ hP hS (lv_sub hl [1, 2, 0, 3, 4] rfl) ha_l0 ha_l1 hf
      · have hf := g_ip c5 hf
        refine lv_goto (tgt := 66) hx hb dX0_measure_49 (by decide) ?_
        exact s_X0_measure_J66 C hW hD0 ih hk72 p0 p2 p3 p4 X3 _ _ _ hP hS (lv_sub hl [0, 1, 2, 3, 4] rfl) ha_l0 ha_l1 hf

set_option maxRecDepth 100000 in
set_option maxHeartbeats 4000000 in
theorem s_X0_measure_L22 {p : Program} {l : Launch} {e : Env} {s : State} {m : MethodId} {args : Array Value} {below : List Frame} {meth : Method} {c : Code} {D : va_G} {cA : Nat → ClassId} {ad : Nat → Nat → Nat} {NL : List (Nat × Nat)} {A : Nat → Prop} {rr : Int32} {XX : gM} {N : Nat} {k78 : Nat → Int32 → gM → Option (Int32 × gM)} (C : gCx p c meth m s args cX0_measure 5 none RX0 D cA ad NL A) (hW : gWf NL) (hD0 : gD (fun _ => True) ad NL) (hk78 : ∀ (p0 : Nat) (p2 : Int32) (Y : gM) (H : Heap) (locs : List Loc) (ls : Array Slot), gH D cA ad NL Y H → va_S A s.heap H locs → lv_has ls 5 [(0, .ref (ad 7 p0)), (2, .int p2)] → (7, p0) ∈ NL → k78 p0 p2 Y = some (rr, XX) → W p l e rm_X0_measure s m args below meth c H locs 0 0 (MQ below (gQ D cA ad NL none XX A) args s 0 0 A) (F0 m 78 ls [])) : ∀ (n : Nat) (p0 : Nat) (p2 : Int32) (p3 : Int32) (X : gM) (H : Heap) (locs : List Loc) (ls : Array Slot), gH D cA ad NL X H → va_S A s.heap H locs → lv_has ls 5 [(0, .ref (ad 7 p0)), (1, .ref (ad 1 0)), (2, .int p2), (3, .int p3)] → (7, p0) ∈ NL → (1, 0) ∈ NL → X0_measure_L22 (gal NL) N k78 n p0 p2 p3 X = some (rr, XX) → W p l e rm_X0_measure s m args below meth c H locs 0 0 (MQ below (gQ D cA ad NL none XX A) args s 0 0 A) (F0 m 22 ls []) := by
  have hx := C.1
  have hb := C.2.1
  intro n
  induction n with
  | zero =>
    intro p0 p2 p3 X H locs ls hP hS hl ha_l0 ha_l1 hf
    rw [X0_measure_L22] at hf
    cases hf
  | succ n ih =>
    intro p0 p2 p3 X H locs ls hP hS hl ha_l0 ha_l1 hf
    rw [X0_measure_L22] at hf
    refine lv_iload_n hx hb dX0_measure_22 rfl (lv_at hl 3 rfl) ?_
    refine lv_bipush (v := 9) hx hb dX0_measure_23 (by decide) ?_
    refine lv_icmp_gt (tgt := 78) hx hb dX0_measure_25 (by decide) (fun c1 => ?_) (fun c1 => ?_)
    · have hf := g_ip c1 hf
      exact hk78 p0 p2 X _ _ _ hP hS (lv_sub hl [0, 2] rfl) ha_l0 hf
    · have hf := g_in c1 hf
      refine lv_iconst (v := 0) hx hb dX0_measure_28 (by decide) ?_
      refine lv_istore (i := 4) (lv' := [(4, .int (0 : Int32)), (0, .ref (ad 7 p0)), (1, .ref (ad 1 0)), (2, .int p2), (3, .int p3)]) hx hb dX0_measure_29 hl (Nat.le_of_ble_eq_true rfl) rfl (fun ls hl => ?_)
      exact s_X0_measure_L31 C hW hD0 (fun p0 p2 p3 Y H locs ls hP hS hl ha_l0 ha_l1 hf => s_X0_measure_J72 C hW hD0 ih hk78 p0 p2 p3 Y _ _ _ hP hS hl ha_l0 ha_l1 hf) N p0 p2 p3 (0 : Int32) X _ _ _ hP hS (lv_sub hl [1, 2, 3, 4, 0] rfl) ha_l0 ha_l1 hf

set_option maxRecDepth 100000 in
set_option maxHeartbeats 4000000 in
theorem w_X0_measure {p : Program} {l : Launch} {e : Env} {s : State} {m : MethodId} {args : Array Value} {below : List Frame} {meth : Method} {c : Code} {D : va_G} {cA : Nat → ClassId} {ad : Nat → Nat → Nat} {NL : List (Nat × Nat)} {A : Nat → Prop} {rr : Int32} {XX : gM} {N : Nat} (C : gCx p c meth m s args cX0_measure 5 none RX0 D cA ad NL A) (hW : gWf NL) (hD0 : gD (fun _ => True) ad NL) {p0 : Nat} (ha_l0 : (7, p0) ∈ NL) (ha_l1 : (1, 0) ∈ NL) : ∀ (X : gM) (H : Heap) (locs : List Loc) (ls : Array Slot), gH D cA ad NL X H → va_S A s.heap H locs → lv_has ls 5 [(0, .ref (ad 7 p0)), (1, .ref (ad 1 0))] → X0_measure (gal NL) N p0 X = some (rr, XX) → W p l e rm_X0_measure s m args below meth c H locs 0 0 (MQ below (gQ D cA ad NL none XX A) args s 0 0 A) (F0 m 0 ls []) := by
  have hx := C.1
  have hb := C.2.1
  intro X H locs ls hP hS hl hf
  rw [X0_measure] at hf
  refine lv_aload_n hx hb dX0_measure_0 rfl (lv_at hl 0 rfl) ?_
  refine lv_iconst (v := -1) hx hb dX0_measure_1 (by decide) ?_
  refine r_put C hP hS (-1 : Int32) ha_l0 (ct_7 _ _ _ _) px_X0_21 (fp_7_3 _ _ _ _ _) (Nat.le_of_ble_eq_true rfl) rfl rfl dX0_measure_2 (fun H locs hP hS => ?_)
  obtain ⟨X1, e2, hf⟩ := gl_in hf
  rw [← e2] at hP
  refine lv_aload_n hx hb dX0_measure_5 rfl (lv_at hl 0 rfl) ?_
  refine lv_iconst (v := -1) hx hb dX0_measure_6 (by decide) ?_
  refine r_put C hP hS (-1 : Int32) ha_l0 (ct_7 _ _ _ _) px_X0_25 (fp_7_4 _ _ _ _ _) (Nat.le_of_ble_eq_true rfl) rfl rfl dX0_measure_7 (fun H locs hP hS => ?_)
  obtain ⟨X3, e4, hf⟩ := gl_in hf
  rw [← e4] at hP
  refine lv_aload_n hx hb dX0_measure_10 rfl (lv_at hl 0 rfl) ?_
  obtain ⟨r5, X6, h7, hf⟩ := b2_in hf
  refine r_cVi (rest := []) C hP hS hl.1 (s_X0_isImaged hW hD0 ha_l0 h7) ix_X0_isImaged iv_X0_isImaged lk_X0_28 ⟨rfl, rfl, Nat.le_of_ble_eq_true rfl, Nat.le_of_ble_eq_true rfl⟩ ha_l0 (ct_7 _ _ _ _) rfl rfl rfl rfl (Nat.le_of_ble_eq_true rfl) ⟨Nat.zero_le _, Nat.zero_le _⟩ dX0_measure_11 (fun H locs hP hS => ?_)
  refine lv_if_ne (tgt := 18) hx hb dX0_measure_14 (by decide) (fun c8 => ?_) (fun c8 => ?_)
  · have hf := g_in c8 hf
    refine lv_iconst (v := 0) hx hb dX0_measure_18 (by decide) ?_
    refine lv_istore_n (i := 2) (lv' := [(2, .int (0 : Int32)), (0, .ref (ad 7 p0)), (1, .ref (ad 1 0))]) hx hb dX0_measure_19 rfl hl (Nat.le_of_ble_eq_true rfl) rfl (fun ls hl => ?_)
    refine lv_iconst (v := 0) hx hb dX0_measure_20 (by decide) ?_
    refine lv_istore_n (i := 3) (lv' := [(3, .int (0 : Int32)), (2, .int (0 : Int32)), (0, .ref (ad 7 p0)), (1, .ref (ad 1 0))]) hx hb dX0_measure_21 rfl hl (Nat.le_of_ble_eq_true rfl) rfl (fun ls hl => ?_)
    exact s_X0_measure_L22 C hW hD0 (fun p0 p2 Y H locs ls hP hS hl ha_l0 hf => s_X0_measure_J78 C hW hD0 p0 p2 Y _ _ _ hP hS hl ha_l0 hf) N p0 (0 : Int32) (0 : Int32) X6 _ _ _ hP hS (lv_sub hl [2, 3, 1, 0] rfl) ha_l0 ha_l1 hf
  · have hf := g_ip c8 hf
    obtain ⟨rfl, rfl⟩ := g_s1 hf
    exact r_vret C hP hS dX0_measure_17

theorem s_X0_measure {l : Launch} {D : va_G} {cA : Nat → ClassId} {ad : Nat → Nat → Nat} {NL : List (Nat × Nat)} {N : Nat} {p0 : Nat} {X : gM} {rr : Int32} {XX : gM} (hW : gWf NL) (hD0 : gD (fun _ => True) ad NL) (ha_l0 : (7, p0) ∈ NL) (ha_l1 : (1, 0) ∈ NL) (hf : X0_measure (gal NL) N p0 X = some (rr, XX)) : gC l yX0_measure cX0_measure 5 none rm_X0_measure D cA ad NL [.ref (ad 7 p0), .ref (ad 1 0)] X none XX :=
  g_ofW (by decide) hD0 (Nat.le_of_ble_eq_true rfl) rfl (fun p e s m below meth c ls C hP hS hl => w_X0_measure C hW hD0 ha_l0 ha_l1 X _ _ ls hP hS hl hf)
def rm_X0_slotFor : Room := { frames := 0, cells := 0, slots := 0, locals := 0 }
set_option maxRecDepth 100000 in
set_option maxHeartbeats 4000000 in
theorem s_X0_slotFor_J55 {p : Program} {l : Launch} {e : Env} {s : State} {m : MethodId} {args : Array Value} {below : List Frame} {meth : Method} {c : Code} {D : va_G} {cA : Nat → ClassId} {ad : Nat → Nat → Nat} {NL : List (Nat × Nat)} {A : Nat → Prop} {rr : Int32} {XX : gM} {N : Nat} (C : gCx p c meth m s args cX0_slotFor 6 (some .int) RX0 D cA ad NL A) (hW : gWf NL) (hD0 : gD (fun _ => True) ad NL) : ∀ (p3 : Int32) (X : gM) (H : Heap) (locs : List Loc) (ls : Array Slot), gH D cA ad NL X H → va_S A s.heap H locs → lv_has ls 6 [(3, .int p3)] → X0_slotFor_J55 (gal NL) N p3 X = some (rr, XX) → W p l e rm_X0_slotFor s m args below meth c H locs 0 0 (MQ below (gQ D cA ad NL (some (.int rr)) XX A) args s 0 0 A) (F0 m 55 ls []) := by
  have hx := C.1
  have hb := C.2.1
  intro p3 X H locs ls hP hS hl hf
  rw [X0_slotFor_J55] at hf
  refine lv_iload_n hx hb dX0_slotFor_55 rfl (lv_at hl 0 rfl) ?_
  obtain ⟨rfl, rfl⟩ := g_s1 hf
  exact r_iret C hP hS dX0_slotFor_56

set_option maxRecDepth 100000 in
set_option maxHeartbeats 4000000 in
theorem s_X0_slotFor_J49 {p : Program} {l : Launch} {e : Env} {s : State} {m : MethodId} {args : Array Value} {below : List Frame} {meth : Method} {c : Code} {D : va_G} {cA : Nat → ClassId} {ad : Nat → Nat → Nat} {NL : List (Nat × Nat)} {A : Nat → Prop} {rr : Int32} {XX : gM} {N : Nat} {kk : Nat → Int32 → Int32 → Int32 → Int32 → gM → Option (Int32 × gM)} {k46 : Int32 → gM → Option (Int32 × gM)} {k55 : Int32 → gM → Option (Int32 × gM)} (C : gCx p c meth m s args cX0_slotFor 6 (some .int) RX0 D cA ad NL A) (hW : gWf NL) (hD0 : gD (fun _ => True) ad NL) (hkk : ∀ (p0 : Nat) (p1 : Int32) (p2 : Int32) (p3 : Int32) (p4 : Int32) (Y : gM) (H : Heap) (locs : List Loc) (ls : Array Slot), gH D cA ad NL Y H → va_S A s.heap H locs → lv_has ls 6 [(0, .ref (ad 7 p0)), (1, .int p1), (2, .int p2), (3, .int p3), (4, .int p4)] → (7, p0) ∈ NL → kk p0 p1 p2 p3 p4 Y = some (rr, XX) → W p l e rm_X0_slotFor s m args below meth c H locs 0 0 (MQ below (gQ D cA ad NL (some (.int rr)) XX A) args s 0 0 A) (F0 m 5 ls [])) (hk46 : ∀ (p5 : Int32) (Y : gM) (H : Heap) (locs : List Loc) (ls : Array Slot), gH D cA ad NL Y H → va_S A s.heap H locs → lv_has ls 6 [(5, .int p5)] → k46 p5 Y = some (rr, XX) → W p l e rm_X0_slotFor s m args below meth c H locs 0 0 (MQ below (gQ D cA ad NL (some (.int rr)) XX A) args s 0 0 A) (F0 m 46 ls [])) (hk55 : ∀ (p3 : Int32) (Y : gM) (H : Heap) (locs : List Loc) (ls : Array Slot), gH D cA ad NL Y H → va_S A s.heap H locs → lv_has ls 6 [(3, .int p3)] → k55 p3 Y = some (rr, XX) → W p l e rm_X0_slotFor s m args below meth c H locs 0 0 (MQ below (gQ D cA ad NL (some (.int rr)) XX A) args s 0 0 A) (F0 m 55 ls [])) : ∀ (p0 : Nat) (p1 : Int32) (p2 : Int32) (p3 : Int32) (p4 : Int32) (X : gM) (H : Heap) (locs : List Loc) (ls : Array Slot), gH D cA ad NL X H → va_S A s.heap H locs → lv_has ls 6 [(0, .ref (ad 7 p0)), (1, .int p1), (2, .int p2), (3, .int p3), (4, .int p4)] → (7, p0) ∈ NL → X0_slotFor_J49 (gal NL) N kk k46 k55 p0 p1 p2 p3 p4 X = some (rr, XX) → W p l e rm_X0_slotFor s m args below meth c H locs 0 0 (MQ below (gQ D cA ad NL (some (.int rr)) XX A) args s 0 0 A) (F0 m 49 ls []) := by
  have hx := C.1
  have hb := C.2.1
  intro p0 p1 p2 p3 p4 X H locs ls hP hS hl ha_l0 hf
  rw [X0_slotFor_J49] at hf
  obtain ⟨v1, e2, hf⟩ := gl_in hf
  refine lv_iinc (v := v1) (lv' := [(4, .int v1), (0, .ref (ad 7 p0)), (1, .int p1), (2, .int p2), (3, .int p3)]) hx hb dX0_slotFor_49 hl (k := 4) rfl (by rw [e2]; rfl) (Nat.le_of_ble_eq_true rfl) rfl (fun ls hl => ?_)
  refine lv_goto (tgt := 5) hx hb dX0_slotFor_52 (by decide) ?_
  exact hkk p0 p1 p2 p3 v1 X _ _ _ hP hS (lv_sub hl [1, 2, 3, 4, 0] rfl) ha_l0 hf

set_option maxRecDepth 100000 in
set_option maxHeartbeats 4000000 in
theorem s_X0_slotFor_J46 {p : Program} {l : Launch} {e : Env} {s : State} {m : MethodId} {args : Array Value} {below : List Frame} {meth : Method} {c : Code} {D : va_G} {cA : Nat → ClassId} {ad : Nat → Nat → Nat} {NL : List (Nat × Nat)} {A : Nat → Prop} {rr : Int32} {XX : gM} {N : Nat} (C : gCx p c meth m s args cX0_slotFor 6 (some .int) RX0 D cA ad NL A) (hW : gWf NL) (hD0 : gD (fun _ => True) ad NL) : ∀ (p5 : Int32) (X : gM) (H : Heap) (locs : List Loc) (ls : Array Slot), gH D cA ad NL X H → va_S A s.heap H locs → lv_has ls 6 [(5, .int p5)] → X0_slotFor_J46 (gal NL) N p5 X = some (rr, XX) → W p l e rm_X0_slotFor s m args below meth c H locs 0 0 (MQ below (gQ D cA ad NL (some (.int rr)) XX A) args s 0 0 A) (F0 m 46 ls []) := by
  have hx := C.1
  have hb := C.2.1
  intro p5 X H locs ls hP hS hl hf
  rw [X0_slotFor_J46] at hf
  refine lv_iload hx hb dX0_slotFor_46 (lv_at hl 0 rfl) ?_
  obtain ⟨rfl, rfl⟩ := g_s1 hf
  exact r_iret C hP hS dX0_slotFor_48

set_option maxRecDepth 100000 in
set_option maxHeartbeats 4000000 in
theorem s_X0_slotFor_L5 {p : Program} {l : Launch} {e : Env} {s : State} {m : MethodId} {args : Array Value} {below : List Frame} {meth : Method} {c : Code} {D : va_G} {cA : Nat → ClassId} {ad : Nat → Nat → Nat} {NL : List (Nat × Nat)} {A : Nat → Prop} {rr : Int32} {XX : gM} {N : Nat} {k46 : Int32 → gM → Option (Int32 × gM)} {k55 : Int32 → gM → Option (Int32 × gM)} (C : gCx p c meth m s args cX0_slotFor 6 (some .int) RX0 D cA ad NL A) (hW : gWf NL) (hD0 : gD (fun _ => True) ad NL) (hk46 : ∀ (p5 : Int32) (Y : gM) (H : Heap) (locs : List Loc) (ls : Array Slot), gH D cA ad NL Y H → va_S A s.heap H locs → lv_has ls 6 [(5, .int p5)] → k46 p5 Y = some (rr, XX) → W p l e rm_X0_slotFor s m args below meth c H locs 0 0 (MQ below (gQ D cA ad NL (some (.int rr)) XX A) args s 0 0 A) (F0 m 46 ls [])) (hk55 : ∀ (p3 : Int32) (Y : gM) (H : Heap) (locs : List Loc) (ls : Array Slot), gH D cA ad NL Y H → va_S A s.heap H locs → lv_has ls 6 [(3, .int p3)] → k55 p3 Y = some (rr, XX) → W p l e rm_X0_slotFor s m args below meth c H locs 0 0 (MQ below (gQ D cA ad NL (some (.int rr)) XX A) args s 0 0 A) (F0 m 55 ls [])) : ∀ (n : Nat) (p0 : Nat) (p1 : Int32) (p2 : Int32) (p3 : Int32) (p4 : Int32) (X : gM) (H : Heap) (locs : List Loc) (ls : Array Slot), gH D cA ad NL X H → va_S A s.heap H locs → lv_has ls 6 [(0, .ref (ad 7 p0)), (1, .int p1), (2, .int p2), (3, .int p3), (4, .int p4)] → (7, p0) ∈ NL → X0_slotFor_L5 (gal NL) N k46 k55 n p0 p1 p2 p3 p4 X = some (rr, XX) → W p l e rm_X0_slotFor s m args below meth c H locs 0 0 (MQ below (gQ D cA ad NL (some (.int rr)) XX A) args s 0 0 A) (F0 m 5 ls []) := by
  have hx := C.1
  have hb := C.2.1
  intro n
  induction n with
  | zero =>
    intro p0 p1 p2 p3 p4 X H locs ls hP hS hl ha_l0 hf
    rw [X0_slotFor_L5] at hf
    cases hf
  | succ n ih =>
    intro p0 p1 p2 p3 p4 X H locs ls hP hS hl ha_l0 hf
    rw [X0_slotFor_L5] at hf
    refine lv_iload hx hb dX0_slotFor_5 (lv_at hl 4 rfl) ?_
    refine lv_iconst (v := 3) hx hb dX0_slotFor_7 (by decide) ?_
    refine lv_icmp_ge (tgt := 55) hx hb dX0_slotFor_8 (by decide) (fun c1 => ?_) (fun c1 => ?_)
    · have hf := g_ip c1 hf
      exact hk55 p3 X _ _ _ hP hS (lv_sub hl [3] rfl) hf
    · have hf := g_in c1 hf
      refine lv_iload_n hx hb dX0_slotFor_11 rfl (lv_at hl 1 rfl) ?_
      refine lv_iconst (v := 3) hx hb dX0_slotFor_12 (by decide) ?_
      refine lv_imul hx hb dX0_slotFor_13 ?_
      refine lv_iload hx hb dX0_slotFor_14 (lv_at hl 4 rfl) ?_
      refine lv_iadd hx hb dX0_slotFor_16 ?_
      refine g_top hf (fun v2 e3 hf => ?_)
      refine lv_istore (i := 5) (lv' := [(5, .int v2), (0, .ref (ad 7 p0)), (1, .int p1), (2, .int p2), (3, .int p3), (4, .int p4)]) hx hb dX0_slotFor_17 hl (Nat.le_of_ble_eq_true rfl) rfl (fun ls hl => ?_)
      refine lv_aload_n hx hb dX0_slotFor_19 rfl (lv_at hl 1 rfl) ?_
      refine r_get C hP ha_l0 (ct_7 _ _ _ _) fx_X0_18 (fg_7_2 _ _ _) dX0_slotFor_20 ?_
      refine lv_iload hx hb dX0_slotFor_23 (lv_at hl 0 rfl) ?_
      obtain ⟨j4, h5, hf⟩ := rd_in hf
      refine r_iald C hP (gs_7_2 hW ha_l0) (ct_10 _ _ _ _) h5 dX0_slotFor_25 ?_
      refine lv_if_ne (tgt := 35) hx hb dX0_slotFor_26 (by decide) (fun c6 => ?_) (fun c6 => ?_)
      · have hf := g_in c6 hf
        refine lv_aload_n hx hb dX0_slotFor_35 rfl (lv_at hl 1 rfl) ?_
        refine r_get C hP ha_l0 (ct_7 _ _ _ _) fx_X0_15 (fg_7_1 _ _ _) dX0_slotFor_36 ?_
        refine lv_iload hx hb dX0_slotFor_39 (lv_at hl 0 rfl) ?_
        obtain ⟨j7, h8, hf⟩ := rd_in hf
        refine r_iald C hP (gs_7_1 hW ha_l0) (ct_9 _ _ _ _) h8 dX0_slotFor_41 ?_
        refine lv_iload_n hx hb dX0_slotFor_42 rfl (lv_at hl 3 rfl) ?_
        refine lv_icmp_ne (tgt := 49) hx hb dX0_slotFor_43 (by decide) (fun c9 => ?_) (fun c9 => ?_)
        · have hf := g_in c9 hf
          exact s_X0_slotFor_J49 C hW hD0 ih hk46 hk55 p0 p1 p2 p3 p4 X _ _ _ hP hS (lv_sub hl [1, 2, 3, 4, 5] rfl) ha_l0 hf
        · have hf := g_ip c9 hf
          exact hk46 v2 X _ _ _ hP hS (lv_sub hl [0] rfl) hf
      · have hf := g_ip c6 hf
        refine lv_iload hx hb dX0_slotFor_29 (lv_at hl 0 rfl) ?_
        refine lv_istore_n (i := 3) (lv' := [(3, .int v2), (5, .int v2), (0, .ref (ad 7 p0)), (1, .int p1), (2, .int p2), (4, .int p4)]) hx hb dX0_slotFor_31 rfl hl (Nat.le_of_ble_eq_true rfl) rfl (fun ls hl => ?_)
        refine lv_goto (tgt := 49) hx hb dX0_slotFor_32 (by decide) ?_
        exact s_X0_slotFor_J49 C hW hD0 ih hk46 hk55 p0 p1 p2 v2 p4 X _ _ _ hP hS (lv_sub hl [2, 3, 4, 0, 5] rfl) ha_l0 hf

set_option maxRecDepth 100000 in
set_option maxHeartbeats 4000000 in
theorem w_X0_slotFor {p : Program} {l : Launch} {e : Env} {s : State} {m : MethodId} {args : Array Value} {below : List Frame} {meth : Method} {c : Code} {D : va_G} {cA : Nat → ClassId} {ad : Nat → Nat → Nat} {NL : List (Nat × Nat)} {A : Nat → Prop} {rr : Int32} {XX : gM} {N : Nat} (C : gCx p c meth m s args cX0_slotFor 6 (some .int) RX0 D cA ad NL A) (hW : gWf NL) (hD0 : gD (fun _ => True) ad NL) {p0 : Nat} {p1 : Int32} {p2 : Int32} (ha_l0 : (7, p0) ∈ NL) : ∀ (X : gM) (H : Heap) (locs : List Loc) (ls : Array Slot), gH D cA ad NL X H → va_S A s.heap H locs → lv_has ls 6 [(0, .ref (ad 7 p0)), (1, .int p1), (2, .int p2)] → X0_slotFor (gal NL) N p0 p1 p2 X = some (rr, XX) → W p l e rm_X0_slotFor s m args below meth c H locs 0 0 (MQ below (gQ D cA ad NL (some (.int rr)) XX A) args s 0 0 A) (F0 m 0 ls []) := by
  have hx := C.1
  have hb := C.2.1
  intro X H locs ls hP hS hl hf
  rw [X0_slotFor] at hf
  refine lv_iconst (v := -1) hx hb dX0_slotFor_0 (by decide) ?_
  refine lv_istore_n (i := 3) (lv' := [(3, .int (-1 : Int32)), (0, .ref (ad 7 p0)), (1, .int p1), (2, .int p2)]) hx hb dX0_slotFor_1 rfl hl (Nat.le_of_ble_eq_true rfl) rfl (fun ls hl => ?_)
  refine lv_iconst (v := 0) hx hb dX0_slotFor_2 (by decide) ?_
  refine lv_istore (i := 4) (lv' := [(4, .int (0 : Int32)), (3, .int (-1 : Int32)), (0, .ref (ad 7 p0)), (1, .int p1), (2, .int p2)]) hx hb dX0_slotFor_3 hl (Nat.le_of_ble_eq_true rfl) rfl (fun ls hl => ?_)
  exact s_X0_slotFor_L5 C hW hD0 (fun p5 Y H locs ls hP hS hl hf => s_X0_slotFor_J46 C hW hD0 p5 Y _ _ _ hP hS hl hf) (fun p3 Y H locs ls hP hS hl hf => s_X0_slotFor_J55 C hW hD0 p3 Y _ _ _ hP hS hl hf) N p0 p1 p2 (-1 : Int32) (0 : Int32) X _ _ _ hP hS (lv_sub hl [2, 3, 4, 1, 0] rfl) ha_l0 hf

theorem s_X0_slotFor {l : Launch} {D : va_G} {cA : Nat → ClassId} {ad : Nat → Nat → Nat} {NL : List (Nat × Nat)} {N : Nat} {p0 : Nat} {p1 : Int32} {p2 : Int32} {X : gM} {rr : Int32} {XX : gM} (hW : gWf NL) (hD0 : gD (fun _ => True) ad NL) (ha_l0 : (7, p0) ∈ NL) (hf : X0_slotFor (gal NL) N p0 p1 p2 X = some (rr, XX)) : gC l yX0_slotFor cX0_slotFor 6 (some .int) rm_X0_slotFor D cA ad NL [.ref (ad 7 p0), .int p1, .int p2] X (some (.int rr)) XX :=
  g_ofW (by decide) hD0 (Nat.le_of_ble_eq_true rfl) rfl (fun p e s m below meth c ls C hP hS hl => w_X0_slotFor C hW hD0 ha_l0 X _ _ ls hP hS hl hf)
def rm_X0_put : Room := { frames := 0, cells := 0, slots := 0, locals := 0 }
set_option maxRecDepth 100000 in
set_option maxHeartbeats 4000000 in
theorem w_X0_put {p : Program} {l : Launch} {e : Env} {s : State} {m : MethodId} {args : Array Value} {below : List Frame} {meth : Method} {c : Code} {D : va_G} {cA : Nat → ClassId} {ad : Nat → Nat → Nat} {NL : List (Nat × Nat)} {A : Nat → Prop} {rr : Int32} {XX : gM} {N : Nat} (C : gCx p c meth m s args cX0_put 4 none RX0 D cA ad NL A) (hW : gWf NL) (hD0 : gD (fun _ => True) ad NL) {p0 : Nat} {p1 : Int32} {p2 : Int32} {p3 : Int32} (ha_l0 : (7, p0) ∈ NL) : ∀ (X : gM) (H : Heap) (locs : List Loc) (ls : Array Slot), gH D cA ad NL X H → va_S A s.heap H locs → lv_has ls 4 [(0, .ref (ad 7 p0)), (1, .int p1), (2, .int p2), (3, .int p3)] → X0_put (gal NL) N p0 p1 p2 p3 X = some (rr, XX) → W p l e rm_X0_put s m args below meth c H locs 0 0 (MQ below (gQ D cA ad NL none XX A) args s 0 0 A) (F0 m 0 ls []) := by
  have hx := C.1
  have hb := C.2.1
  intro X H locs ls hP hS hl hf
  rw [X0_put] at hf
  refine lv_aload_n hx hb dX0_put_0 rfl (lv_at hl 0 rfl) ?_
  refine r_get C hP ha_l0 (ct_7 _ _ _ _) fx_X0_15 (fg_7_1 _ _ _) dX0_put_1 ?_
  refine lv_iload_n hx hb dX0_put_4 rfl (lv_at hl 1 rfl) ?_
  refine lv_iload_n hx hb dX0_put_5 rfl (lv_at hl 2 rfl) ?_
  obtain ⟨j1, h2, hf⟩ := rd_in hf
  refine r_iast C hP hS (gs_7_1 hW ha_l0) (fun _ => ct_9 _ _ _ _) h2 dX0_put_6 (fun H locs hP hS => ?_)
  obtain ⟨X3, e4, hf⟩ := gl_in hf
  rw [← e4] at hP
  refine lv_aload_n hx hb dX0_put_7 rfl (lv_at hl 0 rfl) ?_
  refine r_get C hP ha_l0 (ct_7 _ _ _ _) fx_X0_18 (fg_7_2 _ _ _) dX0_put_8 ?_
  refine lv_iload_n hx hb dX0_put_11 rfl (lv_at hl 1 rfl) ?_
  refine lv_iload_n hx hb dX0_put_12 rfl (lv_at hl 3 rfl) ?_
  obtain ⟨j5, h6, hf⟩ := rd_in hf
  refine r_iast C hP hS (gs_7_2 hW ha_l0) (fun _ => ct_10 _ _ _ _) h6 dX0_put_13 (fun H locs hP hS => ?_)
  obtain ⟨X7, e8, hf⟩ := gl_in hf
  rw [← e8] at hP
  obtain ⟨rfl, rfl⟩ := g_s1 hf
  exact r_vret C hP hS dX0_put_14

theorem s_X0_put {l : Launch} {D : va_G} {cA : Nat → ClassId} {ad : Nat → Nat → Nat} {NL : List (Nat × Nat)} {N : Nat} {p0 : Nat} {p1 : Int32} {p2 : Int32} {p3 : Int32} {X : gM} {rr : Int32} {XX : gM} (hW : gWf NL) (hD0 : gD (fun _ => True) ad NL) (ha_l0 : (7, p0) ∈ NL) (hf : X0_put (gal NL) N p0 p1 p2 p3 X = some (rr, XX)) : gC l yX0_put cX0_put 4 none rm_X0_put D cA ad NL [.ref (ad 7 p0), .int p1, .int p2, .int p3] X none XX :=
  g_ofW (by decide) hD0 (Nat.le_of_ble_eq_true rfl) rfl (fun p e s m below meth c ls C hP hS hl => w_X0_put C hW hD0 ha_l0 X _ _ ls hP hS hl hf)
def rm_X0_countOf : Room := { frames := 0, cells := 0, slots := 0, locals := 0 }
set_option maxRecDepth 100000 in
set_option maxHeartbeats 4000000 in
theorem s_X0_countOf_J31 {p : Program} {l : Launch} {e : Env} {s : State} {m : MethodId} {args : Array Value} {below : List Frame} {meth : Method} {c : Code} {D : va_G} {cA : Nat → ClassId} {ad : Nat → Nat → Nat} {NL : List (Nat × Nat)} {A : Nat → Prop} {rr : Int32} {XX : gM} {N : Nat} (C : gCx p c meth m s args cX0_countOf 4 (some .int) RX0 D cA ad NL A) (hW : gWf NL) (hD0 : gD (fun _ => True) ad NL) : ∀ (p2 : Int32) (X : gM) (H : Heap) (locs : List Loc) (ls : Array Slot), gH D cA ad NL X H → va_S A s.heap H locs → lv_has ls 4 [(2, .int p2)] → X0_countOf_J31 (gal NL) N p2 X = some (rr, XX) → W p l e rm_X0_countOf s m args below meth c H locs 0 0 (MQ below (gQ D cA ad NL (some (.int rr)) XX A) args s 0 0 A) (F0 m 31 ls []) := by
  have hx := C.1
  have hb := C.2.1
  intro p2 X H locs ls hP hS hl hf
  rw [X0_countOf_J31] at hf
  refine lv_iload_n hx hb dX0_countOf_31 rfl (lv_at hl 0 rfl) ?_
  obtain ⟨rfl, rfl⟩ := g_s1 hf
  exact r_iret C hP hS dX0_countOf_32

set_option maxRecDepth 100000 in
set_option maxHeartbeats 4000000 in
theorem s_X0_countOf_J25 {p : Program} {l : Launch} {e : Env} {s : State} {m : MethodId} {args : Array Value} {below : List Frame} {meth : Method} {c : Code} {D : va_G} {cA : Nat → ClassId} {ad : Nat → Nat → Nat} {NL : List (Nat × Nat)} {A : Nat → Prop} {rr : Int32} {XX : gM} {N : Nat} {kk : Nat → Int32 → Int32 → Int32 → gM → Option (Int32 × gM)} {k31 : Int32 → gM → Option (Int32 × gM)} (C : gCx p c meth m s args cX0_countOf 4 (some .int) RX0 D cA ad NL A) (hW : gWf NL) (hD0 : gD (fun _ => True) ad NL) (hkk : ∀ (p0 : Nat) (p1 : Int32) (p2 : Int32) (p3 : Int32) (Y : gM) (H : Heap) (locs : List Loc) (ls : Array Slot), gH D cA ad NL Y H → va_S A s.heap H locs → lv_has ls 4 [(0, .ref (ad 7 p0)), (1, .int p1), (2, .int p2), (3, .int p3)] → (7, p0) ∈ NL → kk p0 p1 p2 p3 Y = some (rr, XX) → W p l e rm_X0_countOf s m args below meth c H locs 0 0 (MQ below (gQ D cA ad NL (some (.int rr)) XX A) args s 0 0 A) (F0 m 4 ls [])) (hk31 : ∀ (p2 : Int32) (Y : gM) (H : Heap) (locs : List Loc) (ls : Array Slot), gH D cA ad NL Y H → va_S A s.heap H locs → lv_has ls 4 [(2, .int p2)] → k31 p2 Y = some (rr, XX) → W p l e rm_X0_countOf s m args below meth c H locs 0 0 (MQ below (gQ D cA ad NL (some (.int rr)) XX A) args s 0 0 A) (F0 m 31 ls [])) : ∀ (p0 : Nat) (p1 : Int32) (p2 : Int32) (p3 : Int32) (X : gM) (H : Heap) (locs : List Loc) (ls : Array Slot), gH D cA ad NL X H → va_S A s.heap H locs → lv_has ls 4 [(0, .ref (ad 7 p0)), (1, .int p1), (2, .int p2), (3, .int p3)] → (7, p0) ∈ NL → X0_countOf_J25 (gal NL) N kk k31 p0 p1 p2 p3 X = some (rr, XX) → W p l e rm_X0_countOf s m args below meth c H locs 0 0 (MQ below (gQ D cA ad NL (some (.int rr)) XX A) args s 0 0 A) (F0 m 25 ls []) := by
  have hx := C.1
  have hb := C.2.1
  intro p0 p1 p2 p3 X H locs ls hP hS hl ha_l0 hf
  rw [X0_countOf_J25] at hf
  obtain ⟨v1, e2, hf⟩ := gl_in hf
  refine lv_iinc (v := v1) (lv' := [(3, .int v1), (0, .ref (ad 7 p0)), (1, .int p1), (2, .int p2)]) hx hb dX0_countOf_25 hl (k := 3) rfl (by rw [e2]; rfl) (Nat.le_of_ble_eq_true rfl) rfl (fun ls hl => ?_)
  refine lv_goto (tgt := 4) hx hb dX0_countOf_28 (by decide) ?_
  exact hkk p0 p1 p2 v1 X _ _ _ hP hS (lv_sub hl [1, 2, 3, 0] rfl) ha_l0 hf

set_option maxRecDepth 100000 in
set_option maxHeartbeats 4000000 in
theorem s_X0_countOf_L4 {p : Program} {l : Launch} {e : Env} {s : State} {m : MethodId} {args : Array Value} {below : List Frame} {meth : Method} {c : Code} {D : va_G} {cA : Nat → ClassId} {ad : Nat → Nat → Nat} {NL : List (Nat × Nat)} {A : Nat → Prop} {rr : Int32} {XX : gM} {N : Nat} {k31 : Int32 → gM → Option (Int32 × gM)} (C : gCx p c meth m s args cX0_countOf 4 (some .int) RX0 D cA ad NL A) (hW : gWf NL) (hD0 : gD (fun _ => True) ad NL) (hk31 : ∀ (p2 : Int32) (Y : gM) (H : Heap) (locs : List Loc) (ls : Array Slot), gH D cA ad NL Y H → va_S A s.heap H locs → lv_has ls 4 [(2, .int p2)] → k31 p2 Y = some (rr, XX) → W p l e rm_X0_countOf s m args below meth c H locs 0 0 (MQ below (gQ D cA ad NL (some (.int rr)) XX A) args s 0 0 A) (F0 m 31 ls [])) : ∀ (n : Nat) (p0 : Nat) (p1 : Int32) (p2 : Int32) (p3 : Int32) (X : gM) (H : Heap) (locs : List Loc) (ls : Array Slot), gH D cA ad NL X H → va_S A s.heap H locs → lv_has ls 4 [(0, .ref (ad 7 p0)), (1, .int p1), (2, .int p2), (3, .int p3)] → (7, p0) ∈ NL → X0_countOf_L4 (gal NL) N k31 n p0 p1 p2 p3 X = some (rr, XX) → W p l e rm_X0_countOf s m args below meth c H locs 0 0 (MQ below (gQ D cA ad NL (some (.int rr)) XX A) args s 0 0 A) (F0 m 4 ls []) := by
  have hx := C.1
  have hb := C.2.1
  intro n
  induction n with
  | zero =>
    intro p0 p1 p2 p3 X H locs ls hP hS hl ha_l0 hf
    rw [X0_countOf_L4] at hf
    cases hf
  | succ n ih =>
    intro p0 p1 p2 p3 X H locs ls hP hS hl ha_l0 hf
    rw [X0_countOf_L4] at hf
    refine lv_iload_n hx hb dX0_countOf_4 rfl (lv_at hl 3 rfl) ?_
    refine lv_iconst (v := 3) hx hb dX0_countOf_5 (by decide) ?_
    refine lv_icmp_ge (tgt := 31) hx hb dX0_countOf_6 (by decide) (fun c1 => ?_) (fun c1 => ?_)
    · have hf := g_ip c1 hf
      exact hk31 p2 X _ _ _ hP hS (lv_sub hl [2] rfl) hf
    · have hf := g_in c1 hf
      refine lv_aload_n hx hb dX0_countOf_9 rfl (lv_at hl 0 rfl) ?_
      refine r_get C hP ha_l0 (ct_7 _ _ _ _) fx_X0_18 (fg_7_2 _ _ _) dX0_countOf_10 ?_
      refine lv_iload_n hx hb dX0_countOf_13 rfl (lv_at hl 1 rfl) ?_
      refine lv_iconst (v := 3) hx hb dX0_countOf_14 (by decide) ?_
      refine lv_imul hx hb dX0_countOf_15 ?_
      refine lv_iload_n hx hb dX0_countOf_16 rfl (lv_at hl 3 rfl) ?_
      refine lv_iadd hx hb dX0_countOf_17 ?_
      obtain ⟨j2, h3, hf⟩ := rd_in hf
      refine r_iald C hP (gs_7_2 hW ha_l0) (ct_10 _ _ _ _) h3 dX0_countOf_18 ?_
      refine lv_if_eq (tgt := 25) hx hb dX0_countOf_19 (by decide) (fun c4 => ?_) (fun c4 => ?_)
      · have hf := g_ip c4 hf
        exact s_X0_countOf_J25 C hW hD0 ih hk31 p0 p1 p2 p3 X _ _ _ hP hS (lv_sub hl [0, 1, 2, 3] rfl) ha_l0 hf
      · have hf := g_in c4 hf
        obtain ⟨v5, e6, hf⟩ := gl_in hf
        refine lv_iinc (v := v5) (lv' := [(2, .int v5), (0, .ref (ad 7 p0)), (1, .int p1), (3, .int p3)]) hx hb dX0_countOf_22 hl (k := 2) rfl (by rw [e6]; rfl) (Nat.le_of_ble_eq_true rfl) rfl (fun ls hl => ?_)
        exact s_X0_countOf_J25 C hW hD0 ih hk31 p0 p1 v5 p3 X _ _ _ hP hS (lv_sub hl [1, 2, 0, 3] rfl) ha_l0 hf

set_option maxRecDepth 100000 in
set_option maxHeartbeats 4000000 in
theorem w_X0_countOf {p : Program} {l : Launch} {e : Env} {s : State} {m : MethodId} {args : Array Value} {below : List Frame} {meth : Method} {c : Code} {D : va_G} {cA : Nat → ClassId} {ad : Nat → Nat → Nat} {NL : List (Nat × Nat)} {A : Nat → Prop} {rr : Int32} {XX : gM} {N : Nat} (C : gCx p c meth m s args cX0_countOf 4 (some .int) RX0 D cA ad NL A) (hW : gWf NL) (hD0 : gD (fun _ => True) ad NL) {p0 : Nat} {p1 : Int32} (ha_l0 : (7, p0) ∈ NL) : ∀ (X : gM) (H : Heap) (locs : List Loc) (ls : Array Slot), gH D cA ad NL X H → va_S A s.heap H locs → lv_has ls 4 [(0, .ref (ad 7 p0)), (1, .int p1)] → X0_countOf (gal NL) N p0 p1 X = some (rr, XX) → W p l e rm_X0_countOf s m args below meth c H locs 0 0 (MQ below (gQ D cA ad NL (some (.int rr)) XX A) args s 0 0 A) (F0 m 0 ls []) := by
  have hx := C.1
  have hb := C.2.1
  intro X H locs ls hP hS hl hf
  rw [X0_countOf] at hf
  refine lv_iconst (v := 0) hx hb dX0_countOf_0 (by decide) ?_
  refine lv_istore_n (i := 2) (lv' := [(2, .int (0 : Int32)), (0, .ref (ad 7 p0)), (1, .int p1)]) hx hb dX0_countOf_1 rfl hl (Nat.le_of_ble_eq_true rfl) rfl (fun ls hl => ?_)
  refine lv_iconst (v := 0) hx hb dX0_countOf_2 (by decide) ?_
  refine lv_istore_n (i := 3) (lv' := [(3, .int (0 : Int32)), (2, .int (0 : Int32)), (0, .ref (ad 7 p0)), (1, .int p1)]) hx hb dX0_countOf_3 rfl hl (Nat.le_of_ble_eq_true rfl) rfl (fun ls hl => ?_)
  exact s_X0_countOf_L4 C hW hD0 (fun p2 Y H locs ls hP hS hl hf => s_X0_countOf_J31 C hW hD0 p2 Y _ _ _ hP hS hl hf) N p0 p1 (0 : Int32) (0 : Int32) X _ _ _ hP hS (lv_sub hl [2, 3, 1, 0] rfl) ha_l0 hf

theorem s_X0_countOf {l : Launch} {D : va_G} {cA : Nat → ClassId} {ad : Nat → Nat → Nat} {NL : List (Nat × Nat)} {N : Nat} {p0 : Nat} {p1 : Int32} {X : gM} {rr : Int32} {XX : gM} (hW : gWf NL) (hD0 : gD (fun _ => True) ad NL) (ha_l0 : (7, p0) ∈ NL) (hf : X0_countOf (gal NL) N p0 p1 X = some (rr, XX)) : gC l yX0_countOf cX0_countOf 4 (some .int) rm_X0_countOf D cA ad NL [.ref (ad 7 p0), .int p1] X (some (.int rr)) XX :=
  g_ofW (by decide) hD0 (Nat.le_of_ble_eq_true rfl) rfl (fun p e s m below meth c ls C hP hS hl => w_X0_countOf C hW hD0 ha_l0 X _ _ ls hP hS hl hf)
def rm_X0_addTo : Room := { frames := 0, cells := 0, slots := 0, locals := 0 }
set_option maxRecDepth 100000 in
set_option maxHeartbeats 4000000 in
theorem s_X0_addTo_J54 {p : Program} {l : Launch} {e : Env} {s : State} {m : MethodId} {args : Array Value} {below : List Frame} {meth : Method} {c : Code} {D : va_G} {cA : Nat → ClassId} {ad : Nat → Nat → Nat} {NL : List (Nat × Nat)} {A : Nat → Prop} {rr : Int32} {XX : gM} {N : Nat} (C : gCx p c meth m s args cX0_addTo 6 none RX0 D cA ad NL A) (hW : gWf NL) (hD0 : gD (fun _ => True) ad NL) : ∀ (X : gM) (H : Heap) (locs : List Loc) (ls : Array Slot), gH D cA ad NL X H → va_S A s.heap H locs → lv_has ls 6 [] → X0_addTo_J54 (gal NL) N X = some (rr, XX) → W p l e rm_X0_addTo s m args below meth c H locs 0 0 (MQ below (gQ D cA ad NL none XX A) args s 0 0 A) (F0 m 54 ls []) := by
  have hx := C.1
  have hb := C.2.1
  intro X H locs ls hP hS hl hf
  rw [X0_addTo_J54] at hf
  obtain ⟨rfl, rfl⟩ := g_s1 hf
  exact r_vret C hP hS dX0_addTo_54

set_option maxRecDepth 100000 in
set_option maxHeartbeats 4000000 in
theorem s_X0_addTo_J48 {p : Program} {l : Launch} {e : Env} {s : State} {m : MethodId} {args : Array Value} {below : List Frame} {meth : Method} {c : Code} {D : va_G} {cA : Nat → ClassId} {ad : Nat → Nat → Nat} {NL : List (Nat × Nat)} {A : Nat → Prop} {rr : Int32} {XX : gM} {N : Nat} {kk : Nat → Int32 → Int32 → Int32 → gM → Option (Int32 × gM)} {k54 : gM → Option (Int32 × gM)} (C : gCx p c meth m s args cX0_addTo 6 none RX0 D cA ad NL A) (hW : gWf NL) (hD0 : gD (fun _ => True) ad NL) (hkk : ∀ (p0 : Nat) (p2 : Int32) (p3 : Int32) (p4 : Int32) (Y : gM) (H : Heap) (locs : List Loc) (ls : Array Slot), gH D cA ad NL Y H → va_S A s.heap H locs → lv_has ls 6 [(0, .ref (ad 7 p0)), (1, .ref (ad 32 0)), (2, .int p2), (3, .int p3), (4, .int p4)] → (7, p0) ∈ NL → (32, 0) ∈ NL → kk p0 p2 p3 p4 Y = some (rr, XX) → W p l e rm_X0_addTo s m args below meth c H locs 0 0 (MQ below (gQ D cA ad NL none XX A) args s 0 0 A) (F0 m 3 ls [])) (hk54 : ∀ (Y : gM) (H : Heap) (locs : List Loc) (ls : Array Slot), gH D cA ad NL Y H → va_S A s.heap H locs → lv_has ls 6 [] → k54 Y = some (rr, XX) → W p l e rm_X0_addTo s m args below meth c H locs 0 0 (MQ below (gQ D cA ad NL none XX A) args s 0 0 A) (F0 m 54 ls [])) : ∀ (p0 : Nat) (p2 : Int32) (p3 : Int32) (p4 : Int32) (X : gM) (H : Heap) (locs : List Loc) (ls : Array Slot), gH D cA ad NL X H → va_S A s.heap H locs → lv_has ls 6 [(0, .ref (ad 7 p0)), (1, .ref (ad 32 0)), (2, .int p2), (3, .int p3), (4, .int p4)] → (7, p0) ∈ NL → (32, 0) ∈ NL → X0_addTo_J48 (gal NL) N kk k54 p0 p2 p3 p4 X = some (rr, XX) → W p l e rm_X0_addTo s m args below meth c H locs 0 0 (MQ below (gQ D cA ad NL none XX A) args s 0 0 A) (F0 m 48 ls []) := by
  have hx := C.1
  have hb := C.2.1
  intro p0 p2 p3 p4 X H locs ls hP hS hl ha_l0 ha_l1 hf
  rw [X0_addTo_J48] at hf
  obtain ⟨v1, e2, hf⟩ := gl_in hf
  refine lv_iinc (v := v1) (lv' := [(4, .int v1), (0, .ref (ad 7 p0)), (1, .ref (ad 32 0)), (2, .int p2), (3, .int p3)]) hx hb dX0_addTo_48 hl (k := 4) rfl (by rw [e2]; rfl) (Nat.le_of_ble_eq_true rfl) rfl (fun ls hl => ?_)
  refine lv_goto (tgt := 3) hx hb dX0_addTo_51 (by decide) ?_
  exact hkk p0 p2 p3 v1 X _ _ _ hP hS (lv_sub hl [1, 2, 3, 4, 0] rfl) ha_l0 ha_l1 hf

set_option maxRecDepth 100000 in
set_option maxHeartbeats 4000000 in
theorem s_X0_addTo_L3 {p : Program} {l : Launch} {e : Env} {s : State} {m : MethodId} {args : Array Value} {below : List Frame} {meth : Method} {c : Code} {D : va_G} {cA : Nat → ClassId} {ad : Nat → Nat → Nat} {NL : List (Nat × Nat)} {A : Nat → Prop} {rr : Int32} {XX : gM} {N : Nat} {k54 : gM → Option (Int32 × gM)} (C : gCx p c meth m s args cX0_addTo 6 none RX0 D cA ad NL A) (hW : gWf NL) (hD0 : gD (fun _ => True) ad NL) (hk54 : ∀ (Y : gM) (H : Heap) (locs : List Loc) (ls : Array Slot), gH D cA ad NL Y H → va_S A s.heap H locs → lv_has ls 6 [] → k54 Y = some (rr, XX) → W p l e rm_X0_addTo s m args below meth c H locs 0 0 (MQ below (gQ D cA ad NL none XX A) args s 0 0 A) (F0 m 54 ls [])) : ∀ (n : Nat) (p0 : Nat) (p2 : Int32) (p3 : Int32) (p4 : Int32) (X : gM) (H : Heap) (locs : List Loc) (ls : Array Slot), gH D cA ad NL X H → va_S A s.heap H locs → lv_has ls 6 [(0, .ref (ad 7 p0)), (1, .ref (ad 32 0)), (2, .int p2), (3, .int p3), (4, .int p4)] → (7, p0) ∈ NL → (32, 0) ∈ NL → X0_addTo_L3 (gal NL) N k54 n p0 p2 p3 p4 X = some (rr, XX) → W p l e rm_X0_addTo s m args below meth c H locs 0 0 (MQ below (gQ D cA ad NL none XX A) args s 0 0 A) (F0 m 3 ls []) := by
  have hx := C.1
  have hb := C.2.1
  intro n
  induction n with
  | zero =>
    intro p0 p2 p3 p4 X H locs ls hP hS hl ha_l0 ha_l1 hf
    rw [X0_addTo_L3] at hf
    cases hf
  | succ n ih =>
    intro p0 p2 p3 p4 X H locs ls hP hS hl ha_l0 ha_l1 hf
    rw [X0_addTo_L3] at hf
    refine lv_iload hx hb dX0_addTo_3 (lv_at hl 4 rfl) ?_
    refine lv_iconst (v := 3) hx hb dX0_addTo_5 (by decide) ?_
    refine lv_icmp_ge (tgt := 54) hx hb dX0_addTo_6 (by decide) (fun c1 => ?_) (fun c1 => ?_)
    · have hf := g_ip c1 hf
      exact hk54 X _ _ _ hP hS (lv_sub hl [] rfl) hf
    · have hf := g_in c1 hf
      refine lv_iload_n hx hb dX0_addTo_9 rfl (lv_at hl 3 rfl) ?_
      refine lv_iconst (v := 3) hx hb dX0_addTo_10 (by decide) ?_
      refine lv_imul hx hb dX0_addTo_11 ?_
      refine lv_iload hx hb dX0_addTo_12 (lv_at hl 4 rfl) ?_
      refine lv_iadd hx hb dX0_addTo_14 ?_
      refine g_top hf (fun v2 e3 hf => ?_)
      refine lv_istore (i := 5) (lv' := [(5, .int v2), (0, .ref (ad 7 p0)), (1, .ref (ad 32 0)), (2, .int p2), (3, .int p3), (4, .int p4)]) hx hb dX0_addTo_15 hl (Nat.le_of_ble_eq_true rfl) rfl (fun ls hl => ?_)
      refine lv_aload_n hx hb dX0_addTo_17 rfl (lv_at hl 1 rfl) ?_
      refine r_get C hP ha_l0 (ct_7 _ _ _ _) fx_X0_18 (fg_7_2 _ _ _) dX0_addTo_18 ?_
      refine lv_iload hx hb dX0_addTo_21 (lv_at hl 0 rfl) ?_
      obtain ⟨j4, h5, hf⟩ := rd_in hf
      refine r_iald C hP (gs_7_2 hW ha_l0) (ct_10 _ _ _ _) h5 dX0_addTo_23 ?_
      refine lv_if_eq (tgt := 48) hx hb dX0_addTo_24 (by decide) (fun c6 => ?_) (fun c6 => ?_)
      · have hf := g_ip c6 hf
        exact s_X0_addTo_J48 C hW hD0 ih hk54 p0 p2 p3 p4 X _ _ _ hP hS (lv_sub hl [1, 2, 3, 4, 5] rfl) ha_l0 ha_l1 hf
      · have hf := g_in c6 hf
        refine lv_aload_n hx hb dX0_addTo_27 rfl (lv_at hl 2 rfl) ?_
        refine lv_iload_n hx hb dX0_addTo_28 rfl (lv_at hl 3 rfl) ?_
        refine lv_aload_n hx hb dX0_addTo_29 rfl (lv_at hl 1 rfl) ?_
        refine r_get C hP ha_l0 (ct_7 _ _ _ _) fx_X0_15 (fg_7_1 _ _ _) dX0_addTo_30 ?_
        refine lv_iload hx hb dX0_addTo_33 (lv_at hl 0 rfl) ?_
        obtain ⟨j7, h8, hf⟩ := rd_in hf
        refine r_iald C hP (gs_7_1 hW ha_l0) (ct_9 _ _ _ _) h8 dX0_addTo_35 ?_
        refine lv_iadd hx hb dX0_addTo_36 ?_
        refine lv_dup2_11 hx hb dX0_addTo_37 rfl rfl ?_
        obtain ⟨j9, h10, hf⟩ := rd_in hf
        refine r_iald C hP ha_l1 (ct_32 _ _ _ _) h10 dX0_addTo_38 ?_
        refine lv_aload_n hx hb dX0_addTo_39 rfl (lv_at hl 1 rfl) ?_
        refine r_get C hP ha_l0 (ct_7 _ _ _ _) fx_X0_18 (fg_7_2 _ _ _) dX0_addTo_40 ?_
        refine lv_iload hx hb dX0_addTo_43 (lv_at hl 0 rfl) ?_
        obtain ⟨j11, h12, hf⟩ := rd_in hf
        refine r_iald C hP (gs_7_2 hW ha_l0) (ct_10 _ _ _ _) h12 dX0_addTo_45 ?_
        refine lv_iadd hx hb dX0_addTo_46 ?_
        obtain ⟨j13, h14, hf⟩ := rd_in hf
        refine r_iast C hP hS ha_l1 (fun _ => ct_32 _ _ _ _) h14 dX0_addTo_47 (fun H locs hP hS => ?_)
        obtain ⟨X15, e16, hf⟩ := gl_in hf
        rw [← e16] at hP
        exact s_X0_addTo_J48 C hW hD0 ih hk54 p0 p2 p3 p4 X15 _ _ _ hP hS (lv_sub hl [1, 2, 3, 4, 5] rfl) ha_l0 ha_l1 hf

set_option maxRecDepth 100000 in
set_option maxHeartbeats 4000000 in
theorem w_X0_addTo {p : Program} {l : Launch} {e : Env} {s : State} {m : MethodId} {args : Array Value} {below : List Frame} {meth : Method} {c : Code} {D : va_G} {cA : Nat → ClassId} {ad : Nat → Nat → Nat} {NL : List (Nat × Nat)} {A : Nat → Prop} {rr : Int32} {XX : gM} {N : Nat} (C : gCx p c meth m s args cX0_addTo 6 none RX0 D cA ad NL A) (hW : gWf NL) (hD0 : gD (fun _ => True) ad NL) {p0 : Nat} {p2 : Int32} {p3 : Int32} (ha_l0 : (7, p0) ∈ NL) (ha_l1 : (32, 0) ∈ NL) : ∀ (X : gM) (H : Heap) (locs : List Loc) (ls : Array Slot), gH D cA ad NL X H → va_S A s.heap H locs → lv_has ls 6 [(0, .ref (ad 7 p0)), (1, .ref (ad 32 0)), (2, .int p2), (3, .int p3)] → X0_addTo (gal NL) N p0 p2 p3 X = some (rr, XX) → W p l e rm_X0_addTo s m args below meth c H locs 0 0 (MQ below (gQ D cA ad NL none XX A) args s 0 0 A) (F0 m 0 ls []) := by
  have hx := C.1
  have hb := C.2.1
  intro X H locs ls hP hS hl hf
  rw [X0_addTo] at hf
  refine lv_iconst (v := 0) hx hb dX0_addTo_0 (by decide) ?_
  refine lv_istore (i := 4) (lv' := [(4, .int (0 : Int32)), (0, .ref (ad 7 p0)), (1, .ref (ad 32 0)), (2, .int p2), (3, .int p3)]) hx hb dX0_addTo_1 hl (Nat.le_of_ble_eq_true rfl) rfl (fun ls hl => ?_)
  exact s_X0_addTo_L3 C hW hD0 (fun Y H locs ls hP hS hl hf => s_X0_addTo_J54 C hW hD0 Y _ _ _ hP hS hl hf) N p0 p2 p3 (0 : Int32) X _ _ _ hP hS (lv_sub hl [1, 2, 3, 4, 0] rfl) ha_l0 ha_l1 hf

theorem s_X0_addTo {l : Launch} {D : va_G} {cA : Nat → ClassId} {ad : Nat → Nat → Nat} {NL : List (Nat × Nat)} {N : Nat} {p0 : Nat} {p2 : Int32} {p3 : Int32} {X : gM} {rr : Int32} {XX : gM} (hW : gWf NL) (hD0 : gD (fun _ => True) ad NL) (ha_l0 : (7, p0) ∈ NL) (ha_l1 : (32, 0) ∈ NL) (hf : X0_addTo (gal NL) N p0 p2 p3 X = some (rr, XX)) : gC l yX0_addTo cX0_addTo 6 none rm_X0_addTo D cA ad NL [.ref (ad 7 p0), .ref (ad 32 0), .int p2, .int p3] X none XX :=
  g_ofW (by decide) hD0 (Nat.le_of_ble_eq_true rfl) rfl (fun p e s m below meth c ls C hP hS hl => w_X0_addTo C hW hD0 ha_l0 ha_l1 X _ _ ls hP hS hl hf)
def rm_X1_isOf : Room := { frames := 0, cells := 0, slots := 0, locals := 0 }
set_option maxRecDepth 100000 in
set_option maxHeartbeats 4000000 in
theorem s_X1_isOf_J29 {p : Program} {l : Launch} {e : Env} {s : State} {m : MethodId} {args : Array Value} {below : List Frame} {meth : Method} {c : Code} {D : va_G} {cA : Nat → ClassId} {ad : Nat → Nat → Nat} {NL : List (Nat × Nat)} {A : Nat → Prop} {rr : Int32} {XX : gM} {N : Nat} (C : gCx p c meth m s args cX1_isOf 2 (some .boolean) RX1 D cA ad NL A) (hW : gWf NL) (hD0 : gD (fun _ => True) ad NL) : ∀ (s0 : Int32) (X : gM) (H : Heap) (locs : List Loc) (ls : Array Slot), gH D cA ad NL X H → va_S A s.heap H locs → lv_has ls 2 [] → X1_isOf_J29 (gal NL) N s0 X = some (rr, XX) → W p l e rm_X1_isOf s m args below meth c H locs 0 0 (MQ below (gQ D cA ad NL (some (.int rr)) XX A) args s 0 0 A) (F0 m 29 ls [.int s0]) := by
  have hx := C.1
  have hb := C.2.1
  intro s0 X H locs ls hP hS hl hf
  rw [X1_isOf_J29] at hf
  obtain ⟨h1, hf⟩ := bz_in hf
  obtain ⟨rfl, rfl⟩ := g_s1 hf
  exact r_zret C hP hS h1 dX1_isOf_29

set_option maxRecDepth 100000 in
set_option maxHeartbeats 4000000 in
theorem s_X1_isOf_J28 {p : Program} {l : Launch} {e : Env} {s : State} {m : MethodId} {args : Array Value} {below : List Frame} {meth : Method} {c : Code} {D : va_G} {cA : Nat → ClassId} {ad : Nat → Nat → Nat} {NL : List (Nat × Nat)} {A : Nat → Prop} {rr : Int32} {XX : gM} {N : Nat} (C : gCx p c meth m s args cX1_isOf 2 (some .boolean) RX1 D cA ad NL A) (hW : gWf NL) (hD0 : gD (fun _ => True) ad NL) : ∀ (X : gM) (H : Heap) (locs : List Loc) (ls : Array Slot), gH D cA ad NL X H → va_S A s.heap H locs → lv_has ls 2 [] → X1_isOf_J28 (gal NL) N X = some (rr, XX) → W p l e rm_X1_isOf s m args below meth c H locs 0 0 (MQ below (gQ D cA ad NL (some (.int rr)) XX A) args s 0 0 A) (F0 m 28 ls []) := by
  have hx := C.1
  have hb := C.2.1
  intro X H locs ls hP hS hl hf
  rw [X1_isOf_J28] at hf
  refine lv_iconst (v := 0) hx hb dX1_isOf_28 (by decide) ?_
  exact s_X1_isOf_J29 C hW hD0 (0 : Int32) X _ _ _ hP hS (lv_sub hl [] rfl) hf

set_option maxRecDepth 100000 in
set_option maxHeartbeats 4000000 in
theorem s_X1_isOf_J24 {p : Program} {l : Launch} {e : Env} {s : State} {m : MethodId} {args : Array Value} {below : List Frame} {meth : Method} {c : Code} {D : va_G} {cA : Nat → ClassId} {ad : Nat → Nat → Nat} {NL : List (Nat × Nat)} {A : Nat → Prop} {rr : Int32} {XX : gM} {N : Nat} (C : gCx p c meth m s args cX1_isOf 2 (some .boolean) RX1 D cA ad NL A) (hW : gWf NL) (hD0 : gD (fun _ => True) ad NL) : ∀ (X : gM) (H : Heap) (locs : List Loc) (ls : Array Slot), gH D cA ad NL X H → va_S A s.heap H locs → lv_has ls 2 [] → X1_isOf_J24 (gal NL) N X = some (rr, XX) → W p l e rm_X1_isOf s m args below meth c H locs 0 0 (MQ below (gQ D cA ad NL (some (.int rr)) XX A) args s 0 0 A) (F0 m 24 ls []) := by
  have hx := C.1
  have hb := C.2.1
  intro X H locs ls hP hS hl hf
  rw [X1_isOf_J24] at hf
  refine lv_iconst (v := 1) hx hb dX1_isOf_24 (by decide) ?_
  refine lv_goto (tgt := 29) hx hb dX1_isOf_25 (by decide) ?_
  exact s_X1_isOf_J29 C hW hD0 (1 : Int32) X _ _ _ hP hS (lv_sub hl [] rfl) hf

set_option maxRecDepth 100000 in
set_option maxHeartbeats 4000000 in
theorem w_X1_isOf {p : Program} {l : Launch} {e : Env} {s : State} {m : MethodId} {args : Array Value} {below : List Frame} {meth : Method} {c : Code} {D : va_G} {cA : Nat → ClassId} {ad : Nat → Nat → Nat} {NL : List (Nat × Nat)} {A : Nat → Prop} {rr : Int32} {XX : gM} {N : Nat} (C : gCx p c meth m s args cX1_isOf 2 (some .boolean) RX1 D cA ad NL A) (hW : gWf NL) (hD0 : gD (fun _ => True) ad NL) {p0 : Nat} {p1 : Int32} (ha_l0 : (23, p0) ∈ NL) : ∀ (X : gM) (H : Heap) (locs : List Loc) (ls : Array Slot), gH D cA ad NL X H → va_S A s.heap H locs → lv_has ls 2 [(0, .ref (ad 23 p0)), (1, .int p1)] → X1_isOf (gal NL) N p0 p1 X = some (rr, XX) → W p l e rm_X1_isOf s m args below meth c H locs 0 0 (MQ below (gQ D cA ad NL (some (.int rr)) XX A) args s 0 0 A) (F0 m 0 ls []) := by
  have hx := C.1
  have hb := C.2.1
  intro X H locs ls hP hS hl hf
  rw [X1_isOf] at hf
  refine lv_aload_n hx hb dX1_isOf_0 rfl (lv_at hl 0 rfl) ?_
  refine r_get C hP ha_l0 (ct_23 _ _ _ _) fx_X1_26 (fg_23_3 _ _ _) dX1_isOf_1 ?_
  refine lv_iload_n hx hb dX1_isOf_4 rfl (lv_at hl 1 rfl) ?_
  refine lv_icmp_eq (tgt := 24) hx hb dX1_isOf_5 (by decide) (fun c1 => ?_) (fun c1 => ?_)
  · have hf := g_ip c1 hf
    exact s_X1_isOf_J24 C hW hD0 X _ _ _ hP hS (lv_sub hl [] rfl) hf
  · have hf := g_in c1 hf
    refine lv_aload_n hx hb dX1_isOf_8 rfl (lv_at hl 0 rfl) ?_
    refine r_get C hP ha_l0 (ct_23 _ _ _ _) fx_X1_23 (fg_23_2 _ _ _) dX1_isOf_9 ?_
    refine lv_iconst (v := 3) hx hb dX1_isOf_12 (by decide) ?_
    refine lv_icmp_eq (tgt := 28) hx hb dX1_isOf_13 (by decide) (fun c2 => ?_) (fun c2 => ?_)
    · have hf := g_ip c2 hf
      exact s_X1_isOf_J28 C hW hD0 X _ _ _ hP hS (lv_sub hl [] rfl) hf
    · have hf := g_in c2 hf
      refine lv_aload_n hx hb dX1_isOf_16 rfl (lv_at hl 0 rfl) ?_
      refine r_get C hP ha_l0 (ct_23 _ _ _ _) fx_X1_29 (fg_23_4 _ _ _) dX1_isOf_17 ?_
      refine lv_iload_n hx hb dX1_isOf_20 rfl (lv_at hl 1 rfl) ?_
      refine lv_icmp_ne (tgt := 28) hx hb dX1_isOf_21 (by decide) (fun c3 => ?_) (fun c3 => ?_)
      · have hf := g_in c3 hf
        exact s_X1_isOf_J28 C hW hD0 X _ _ _ hP hS (lv_sub hl [] rfl) hf
      · have hf := g_ip c3 hf
        exact s_X1_isOf_J24 C hW hD0 X _ _ _ hP hS (lv_sub hl [] rfl) hf

theorem s_X1_isOf {l : Launch} {D : va_G} {cA : Nat → ClassId} {ad : Nat → Nat → Nat} {NL : List (Nat × Nat)} {N : Nat} {p0 : Nat} {p1 : Int32} {X : gM} {rr : Int32} {XX : gM} (hW : gWf NL) (hD0 : gD (fun _ => True) ad NL) (ha_l0 : (23, p0) ∈ NL) (hf : X1_isOf (gal NL) N p0 p1 X = some (rr, XX)) : gC l yX1_isOf cX1_isOf 2 (some .boolean) rm_X1_isOf D cA ad NL [.ref (ad 23 p0), .int p1] X (some (.int rr)) XX :=
  g_ofW (by decide) hD0 (Nat.le_of_ble_eq_true rfl) rfl (fun p e s m below meth c ls C hP hS hl => w_X1_isOf C hW hD0 ha_l0 X _ _ ls hP hS hl hf)
def rm_X2_hasLine : Room := { frames := 0, cells := 0, slots := 0, locals := 0 }
set_option maxRecDepth 100000 in
set_option maxHeartbeats 4000000 in
theorem s_X2_hasLine_J17 {p : Program} {l : Launch} {e : Env} {s : State} {m : MethodId} {args : Array Value} {below : List Frame} {meth : Method} {c : Code} {D : va_G} {cA : Nat → ClassId} {ad : Nat → Nat → Nat} {NL : List (Nat × Nat)} {A : Nat → Prop} {rr : Int32} {XX : gM} {N : Nat} (C : gCx p c meth m s args cX2_hasLine 2 (some .boolean) RX2 D cA ad NL A) (hW : gWf NL) (hD0 : gD (fun _ => True) ad NL) : ∀ (s0 : Int32) (X : gM) (H : Heap) (locs : List Loc) (ls : Array Slot), gH D cA ad NL X H → va_S A s.heap H locs → lv_has ls 2 [] → X2_hasLine_J17 (gal NL) N s0 X = some (rr, XX) → W p l e rm_X2_hasLine s m args below meth c H locs 0 0 (MQ below (gQ D cA ad NL (some (.int rr)) XX A) args s 0 0 A) (F0 m 17 ls [.int s0]) := by
  have hx := C.1
  have hb := C.2.1
  intro s0 X H locs ls hP hS hl hf
  rw [X2_hasLine_J17] at hf
  obtain ⟨h1, hf⟩ := bz_in hf
  obtain ⟨rfl, rfl⟩ := g_s1 hf
  exact r_zret C hP hS h1 dX2_hasLine_17

set_option maxRecDepth 100000 in
set_option maxHeartbeats 4000000 in
theorem s_X2_hasLine_J16 {p : Program} {l : Launch} {e : Env} {s : State} {m : MethodId} {args : Array Value} {below : List Frame} {meth : Method} {c : Code} {D : va_G} {cA : Nat → ClassId} {ad : Nat → Nat → Nat} {NL : List (Nat × Nat)} {A : Nat → Prop} {rr : Int32} {XX : gM} {N : Nat} (C : gCx p c meth m s args cX2_hasLine 2 (some .boolean) RX2 D cA ad NL A) (hW : gWf NL) (hD0 : gD (fun _ => True) ad NL) : ∀ (X : gM) (H : Heap) (locs : List Loc) (ls : Array Slot), gH D cA ad NL X H → va_S A s.heap H locs → lv_has ls 2 [] → X2_hasLine_J16 (gal NL) N X = some (rr, XX) → W p l e rm_X2_hasLine s m args below meth c H locs 0 0 (MQ below (gQ D cA ad NL (some (.int rr)) XX A) args s 0 0 A) (F0 m 16 ls []) := by
  have hx := C.1
  have hb := C.2.1
  intro X H locs ls hP hS hl hf
  rw [X2_hasLine_J16] at hf
  refine lv_iconst (v := 0) hx hb dX2_hasLine_16 (by decide) ?_
  exact s_X2_hasLine_J17 C hW hD0 (0 : Int32) X _ _ _ hP hS (lv_sub hl [] rfl) hf

set_option maxRecDepth 100000 in
set_option maxHeartbeats 4000000 in
theorem w_X2_hasLine {p : Program} {l : Launch} {e : Env} {s : State} {m : MethodId} {args : Array Value} {below : List Frame} {meth : Method} {c : Code} {D : va_G} {cA : Nat → ClassId} {ad : Nat → Nat → Nat} {NL : List (Nat × Nat)} {A : Nat → Prop} {rr : Int32} {XX : gM} {N : Nat} (C : gCx p c meth m s args cX2_hasLine 2 (some .boolean) RX2 D cA ad NL A) (hW : gWf NL) (hD0 : gD (fun _ => True) ad NL) {p0 : Nat} {p1 : Int32} (ha_l0 : (5, p0) ∈ NL) : ∀ (X : gM) (H : Heap) (locs : List Loc) (ls : Array Slot), gH D cA ad NL X H → va_S A s.heap H locs → lv_has ls 2 [(0, .ref (ad 5 p0)), (1, .int p1)] → X2_hasLine (gal NL) N p0 p1 X = some (rr, XX) → W p l e rm_X2_hasLine s m args below meth c H locs 0 0 (MQ below (gQ D cA ad NL (some (.int rr)) XX A) args s 0 0 A) (F0 m 0 ls []) := by
  have hx := C.1
  have hb := C.2.1
  intro X H locs ls hP hS hl hf
  rw [X2_hasLine] at hf
  refine lv_iload_n hx hb dX2_hasLine_0 rfl (lv_at hl 1 rfl) ?_
  refine lv_if_lt (tgt := 16) hx hb dX2_hasLine_1 (by decide) (fun c1 => ?_) (fun c1 => ?_)
  · have hf := g_ip c1 hf
    exact s_X2_hasLine_J16 C hW hD0 X _ _ _ hP hS (lv_sub hl [] rfl) hf
  · have hf := g_in c1 hf
    refine lv_iload_n hx hb dX2_hasLine_4 rfl (lv_at hl 1 rfl) ?_
    refine lv_aload_n hx hb dX2_hasLine_5 rfl (lv_at hl 0 rfl) ?_
    refine r_get C hP ha_l0 (ct_5 _ _ _ _) fx_X2_43 (fg_5_2 _ _ _) dX2_hasLine_6 ?_
    refine lv_icmp_ge (tgt := 16) hx hb dX2_hasLine_9 (by decide) (fun c2 => ?_) (fun c2 => ?_)
    · have hf := g_ip c2 hf
      exact s_X2_hasLine_J16 C hW hD0 X _ _ _ hP hS (lv_sub hl [] rfl) hf
    · have hf := g_in c2 hf
      refine lv_iconst (v := 1) hx hb dX2_hasLine_12 (by decide) ?_
      refine lv_goto (tgt := 17) hx hb dX2_hasLine_13 (by decide) ?_
      exact s_X2_hasLine_J17 C hW hD0 (1 : Int32) X _ _ _ hP hS (lv_sub hl [] rfl) hf

theorem s_X2_hasLine {l : Launch} {D : va_G} {cA : Nat → ClassId} {ad : Nat → Nat → Nat} {NL : List (Nat × Nat)} {N : Nat} {p0 : Nat} {p1 : Int32} {X : gM} {rr : Int32} {XX : gM} (hW : gWf NL) (hD0 : gD (fun _ => True) ad NL) (ha_l0 : (5, p0) ∈ NL) (hf : X2_hasLine (gal NL) N p0 p1 X = some (rr, XX)) : gC l yX2_hasLine cX2_hasLine 2 (some .boolean) rm_X2_hasLine D cA ad NL [.ref (ad 5 p0), .int p1] X (some (.int rr)) XX :=
  g_ofW (by decide) hD0 (Nat.le_of_ble_eq_true rfl) rfl (fun p e s m below meth c ls C hP hS hl => w_X2_hasLine C hW hD0 ha_l0 X _ _ ls hP hS hl hf)
def rm_X2_cellAt : Room := { frames := 1, cells := 0, slots := 0, locals := 21 }
set_option maxRecDepth 100000 in
set_option maxHeartbeats 4000000 in
theorem s_X2_cellAt_J20 {p : Program} {l : Launch} {e : Env} {s : State} {m : MethodId} {args : Array Value} {below : List Frame} {meth : Method} {c : Code} {D : va_G} {cA : Nat → ClassId} {ad : Nat → Nat → Nat} {NL : List (Nat × Nat)} {A : Nat → Prop} {rr : Int32} {XX : gM} {N : Nat} (C : gCx p c meth m s args cX2_cellAt 3 (some (.object "Undertext$Cell")) RX2 D cA ad NL A) (hW : gWf NL) (hD0 : gD (fun _ => True) ad NL) : ∀ (X : gM) (H : Heap) (locs : List Loc) (ls : Array Slot), gH D cA ad NL X H → va_S A s.heap H locs → lv_has ls 3 [] → X2_cellAt_J20 (gal NL) N X = some (rr, XX) → W p l e rm_X2_cellAt s m args below meth c H locs 0 0 (MQ below (gQ D cA ad NL (some (va_rf (ro ad 7 rr))) XX A) args s 0 0 A) (F0 m 20 ls []) := by
  have hx := C.1
  have hb := C.2.1
  intro X H locs ls hP hS hl hf
  rw [X2_cellAt_J20] at hf
  refine lv_null hx hb dX2_cellAt_20 ?_
  obtain ⟨rfl, rfl⟩ := g_s1 hf
  exact r_aret (r := ro ad 7 (-1)) C hP hS dX2_cellAt_21

set_option maxRecDepth 100000 in
set_option maxHeartbeats 4000000 in
theorem w_X2_cellAt {p : Program} {l : Launch} {e : Env} {s : State} {m : MethodId} {args : Array Value} {below : List Frame} {meth : Method} {c : Code} {D : va_G} {cA : Nat → ClassId} {ad : Nat → Nat → Nat} {NL : List (Nat × Nat)} {A : Nat → Prop} {rr : Int32} {XX : gM} {N : Nat} (C : gCx p c meth m s args cX2_cellAt 3 (some (.object "Undertext$Cell")) RX2 D cA ad NL A) (hW : gWf NL) (hD0 : gD (fun _ => True) ad NL) {p0 : Nat} {p1 : Int32} {p2 : Int32} (ha_l0 : (5, p0) ∈ NL) : ∀ (X : gM) (H : Heap) (locs : List Loc) (ls : Array Slot), gH D cA ad NL X H → va_S A s.heap H locs → lv_has ls 3 [(0, .ref (ad 5 p0)), (1, .int p1), (2, .int p2)] → X2_cellAt (gal NL) N p0 p1 p2 X = some (rr, XX) → W p l e rm_X2_cellAt s m args below meth c H locs 0 0 (MQ below (gQ D cA ad NL (some (va_rf (ro ad 7 rr))) XX A) args s 0 0 A) (F0 m 0 ls []) := by
  have hx := C.1
  have hb := C.2.1
  intro X H locs ls hP hS hl hf
  rw [X2_cellAt] at hf
  refine lv_aload_n hx hb dX2_cellAt_0 rfl (lv_at hl 0 rfl) ?_
  refine lv_iload_n hx hb dX2_cellAt_1 rfl (lv_at hl 1 rfl) ?_
  obtain ⟨r1, X2, h3, hf⟩ := b2_in hf
  refine r_cVi (rest := []) C hP hS hl.1 (s_X2_hasLine hW hD0 ha_l0 h3) ix_X2_hasLine iv_X2_hasLine lk_X2_56 ⟨rfl, rfl, Nat.le_of_ble_eq_true rfl, Nat.le_of_ble_eq_true rfl⟩ ha_l0 (ct_5 _ _ _ _) rfl rfl rfl rfl (Nat.le_of_ble_eq_true rfl) ⟨Nat.zero_le _, Nat.zero_le _⟩ dX2_cellAt_2 (fun H locs hP hS => ?_)
  refine lv_if_eq (tgt := 20) hx hb dX2_cellAt_5 (by decide) (fun c4 => ?_) (fun c4 => ?_)
  · have hf := g_ip c4 hf
    exact s_X2_cellAt_J20 C hW hD0 X2 _ _ _ hP hS (lv_sub hl [] rfl) hf
  · have hf := g_in c4 hf
    refine lv_iload_n hx hb dX2_cellAt_8 rfl (lv_at hl 2 rfl) ?_
    refine lv_if_lt (tgt := 20) hx hb dX2_cellAt_9 (by decide) (fun c5 => ?_) (fun c5 => ?_)
    · have hf := g_ip c5 hf
      exact s_X2_cellAt_J20 C hW hD0 X2 _ _ _ hP hS (lv_sub hl [] rfl) hf
    · have hf := g_in c5 hf
      refine lv_iload_n hx hb dX2_cellAt_12 rfl (lv_at hl 2 rfl) ?_
      refine lv_aload_n hx hb dX2_cellAt_13 rfl (lv_at hl 0 rfl) ?_
      refine r_get C hP ha_l0 (ct_5 _ _ _ _) fx_X2_46 (fg_5_3 _ _ _) dX2_cellAt_14 ?_
      refine lv_icmp_lt (tgt := 22) hx hb dX2_cellAt_17 (by decide) (fun c6 => ?_) (fun c6 => ?_)
      · have hf := g_ip c6 hf
        refine lv_aload_n hx hb dX2_cellAt_22 rfl (lv_at hl 0 rfl) ?_
        refine r_get C hP ha_l0 (ct_5 _ _ _ _) fx_X2_51 (fg_5_4 _ _ _) dX2_cellAt_23 ?_
        refine lv_iload_n hx hb dX2_cellAt_26 rfl (lv_at hl 1 rfl) ?_
        refine lv_aload_n hx hb dX2_cellAt_27 rfl (lv_at hl 0 rfl) ?_
        refine r_get C hP ha_l0 (ct_5 _ _ _ _) fx_X2_46 (fg_5_3 _ _ _) dX2_cellAt_28 ?_
        refine lv_imul hx hb dX2_cellAt_31 ?_
        refine lv_iload_n hx hb dX2_cellAt_32 rfl (lv_at hl 2 rfl) ?_
        refine lv_iadd hx hb dX2_cellAt_33 ?_
        obtain ⟨j7, h8, hf⟩ := rd_in hf
        refine r_aldq C hP (gs_5_4 hW ha_l0) (ct_6 _ _ _ _) rfl h8 dX2_cellAt_34 ?_
        obtain ⟨rfl, rfl⟩ := g_s1 hf
        exact r_aret C hP hS dX2_cellAt_35
      · have hf := g_in c6 hf
        exact s_X2_cellAt_J20 C hW hD0 X2 _ _ _ hP hS (lv_sub hl [] rfl) hf

theorem s_X2_cellAt {l : Launch} {D : va_G} {cA : Nat → ClassId} {ad : Nat → Nat → Nat} {NL : List (Nat × Nat)} {N : Nat} {p0 : Nat} {p1 : Int32} {p2 : Int32} {X : gM} {rr : Int32} {XX : gM} (hW : gWf NL) (hD0 : gD (fun _ => True) ad NL) (ha_l0 : (5, p0) ∈ NL) (hf : X2_cellAt (gal NL) N p0 p1 p2 X = some (rr, XX)) : gC l yX2_cellAt cX2_cellAt 3 (some (.object "Undertext$Cell")) rm_X2_cellAt D cA ad NL [.ref (ad 5 p0), .int p1, .int p2] X (some (va_rf (ro ad 7 rr))) XX :=
  g_ofW (by decide) hD0 (Nat.le_of_ble_eq_true rfl) rfl (fun p e s m below meth c ls C hP hS hl => w_X2_cellAt C hW hD0 ha_l0 X _ _ ls hP hS hl hf)
def rm_X2_measureAll : Room := { frames := 2, cells := 0, slots := 0, locals := 48 }
set_option maxRecDepth 100000 in
set_option maxHeartbeats 4000000 in
theorem s_X2_measureAll_J40 {p : Program} {l : Launch} {e : Env} {s : State} {m : MethodId} {args : Array Value} {below : List Frame} {meth : Method} {c : Code} {D : va_G} {cA : Nat → ClassId} {ad : Nat → Nat → Nat} {NL : List (Nat × Nat)} {A : Nat → Prop} {rr : Int32} {XX : gM} {N : Nat} (C : gCx p c meth m s args cX2_measureAll 6 none RX2 D cA ad NL A) (hW : gWf NL) (hD0 : gD (fun _ => True) ad NL) : ∀ (X : gM) (H : Heap) (locs : List Loc) (ls : Array Slot), gH D cA ad NL X H → va_S A s.heap H locs → lv_has ls 6 [] → X2_measureAll_J40 (gal NL) N X = some (rr, XX) → W p l e rm_X2_measureAll s m args below meth c H locs 0 0 (MQ below (gQ D cA ad NL none XX A) args s 0 0 A) (F0 m 40 ls []) := by
  have hx := C.1
  have hb := C.2.1
  intro X H locs ls hP hS hl hf
  rw [X2_measureAll_J40] at hf
  obtain ⟨rfl, rfl⟩ := g_s1 hf
  exact r_vret C hP hS dX2_measureAll_40

set_option maxRecDepth 100000 in
set_option maxHeartbeats 4000000 in
theorem s_X2_measureAll_J34 {p : Program} {l : Launch} {e : Env} {s : State} {m : MethodId} {args : Array Value} {below : List Frame} {meth : Method} {c : Code} {D : va_G} {cA : Nat → ClassId} {ad : Nat → Nat → Nat} {NL : List (Nat × Nat)} {A : Nat → Prop} {rr : Int32} {XX : gM} {N : Nat} {kk : Nat → Int32 → Int32 → gM → Option (Int32 × gM)} {k40 : gM → Option (Int32 × gM)} (C : gCx p c meth m s args cX2_measureAll 6 none RX2 D cA ad NL A) (hW : gWf NL) (hD0 : gD (fun _ => True) ad NL) (hkk : ∀ (p2 : Nat) (p3 : Int32) (p4 : Int32) (Y : gM) (H : Heap) (locs : List Loc) (ls : Array Slot), gH D cA ad NL Y H → va_S A s.heap H locs → lv_has ls 6 [(1, .ref (ad 1 0)), (2, .ref (ad 6 p2)), (3, .int p3), (4, .int p4)] → (1, 0) ∈ NL → (6, p2) ∈ NL → kk p2 p3 p4 Y = some (rr, XX) → W p l e rm_X2_measureAll s m args below meth c H locs 0 0 (MQ below (gQ D cA ad NL none XX A) args s 0 0 A) (F0 m 11 ls [])) (hk40 : ∀ (Y : gM) (H : Heap) (locs : List Loc) (ls : Array Slot), gH D cA ad NL Y H → va_S A s.heap H locs → lv_has ls 6 [] → k40 Y = some (rr, XX) → W p l e rm_X2_measureAll s m args below meth c H locs 0 0 (MQ below (gQ D cA ad NL none XX A) args s 0 0 A) (F0 m 40 ls [])) : ∀ (p2 : Nat) (p3 : Int32) (p4 : Int32) (X : gM) (H : Heap) (locs : List Loc) (ls : Array Slot), gH D cA ad NL X H → va_S A s.heap H locs → lv_has ls 6 [(1, .ref (ad 1 0)), (2, .ref (ad 6 p2)), (3, .int p3), (4, .int p4)] → (1, 0) ∈ NL → (6, p2) ∈ NL → X2_measureAll_J34 (gal NL) N kk k40 p2 p3 p4 X = some (rr, XX) → W p l e rm_X2_measureAll s m args below meth c H locs 0 0 (MQ below (gQ D cA ad NL none XX A) args s 0 0 A) (F0 m 34 ls []) := by
  have hx := C.1
  have hb := C.2.1
  intro p2 p3 p4 X H locs ls hP hS hl ha_l1 ha_l2 hf
  rw [X2_measureAll_J34] at hf
  obtain ⟨v1, e2, hf⟩ := gl_in hf
  refine lv_iinc (v := v1) (lv' := [(4, .int v1), (1, .ref (ad 1 0)), (2, .ref (ad 6 p2)), (3, .int p3)]) hx hb dX2_measureAll_34 hl (k := 3) rfl (by rw [e2]; rfl) (Nat.le_of_ble_eq_true rfl) rfl (fun ls hl => ?_)
  refine lv_goto (tgt := 11) hx hb dX2_measureAll_37 (by decide) ?_
  exact hkk p2 p3 v1 X _ _ _ hP hS (lv_sub hl [1, 2, 3, 0] rfl) ha_l1 ha_l2 hf

set_option maxRecDepth 100000 in
set_option maxHeartbeats 4000000 in
theorem s_X2_measureAll_L11 {p : Program} {l : Launch} {e : Env} {s : State} {m : MethodId} {args : Array Value} {below : List Frame} {meth : Method} {c : Code} {D : va_G} {cA : Nat → ClassId} {ad : Nat → Nat → Nat} {NL : List (Nat × Nat)} {A : Nat → Prop} {rr : Int32} {XX : gM} {N : Nat} {k40 : gM → Option (Int32 × gM)} (C : gCx p c meth m s args cX2_measureAll 6 none RX2 D cA ad NL A) (hW : gWf NL) (hD0 : gD (fun _ => True) ad NL) (hk40 : ∀ (Y : gM) (H : Heap) (locs : List Loc) (ls : Array Slot), gH D cA ad NL Y H → va_S A s.heap H locs → lv_has ls 6 [] → k40 Y = some (rr, XX) → W p l e rm_X2_measureAll s m args below meth c H locs 0 0 (MQ below (gQ D cA ad NL none XX A) args s 0 0 A) (F0 m 40 ls [])) : ∀ (n : Nat) (p2 : Nat) (p3 : Int32) (p4 : Int32) (X : gM) (H : Heap) (locs : List Loc) (ls : Array Slot), gH D cA ad NL X H → va_S A s.heap H locs → lv_has ls 6 [(1, .ref (ad 1 0)), (2, .ref (ad 6 p2)), (3, .int p3), (4, .int p4)] → (1, 0) ∈ NL → (6, p2) ∈ NL → X2_measureAll_L11 (gal NL) N k40 n p2 p3 p4 X = some (rr, XX) → W p l e rm_X2_measureAll s m args below meth c H locs 0 0 (MQ below (gQ D cA ad NL none XX A) args s 0 0 A) (F0 m 11 ls []) := by
  have hx := C.1
  have hb := C.2.1
  intro n
  induction n with
  | zero =>
    intro p2 p3 p4 X H locs ls hP hS hl ha_l1 ha_l2 hf
    rw [X2_measureAll_L11] at hf
    cases hf
  | succ n ih =>
    intro p2 p3 p4 X H locs ls hP hS hl ha_l1 ha_l2 hf
    rw [X2_measureAll_L11] at hf
    refine lv_iload hx hb dX2_measureAll_11 (lv_at hl 3 rfl) ?_
    refine lv_iload_n hx hb dX2_measureAll_13 rfl (lv_at hl 2 rfl) ?_
    refine lv_icmp_ge (tgt := 40) hx hb dX2_measureAll_14 (by decide) (fun c1 => ?_) (fun c1 => ?_)
    · have hf := g_ip c1 hf
      exact hk40 X _ _ _ hP hS (lv_sub hl [] rfl) hf
    · have hf := g_in c1 hf
      refine lv_aload_n hx hb dX2_measureAll_17 rfl (lv_at hl 1 rfl) ?_
      refine lv_iload hx hb dX2_measureAll_18 (lv_at hl 3 rfl) ?_
      obtain ⟨j2, h3, hf⟩ := rd_in hf
      refine r_aldq C hP ha_l2 (ct_6 _ _ _ _) rfl h3 dX2_measureAll_20 ?_
      refine r_astore (i := 5) (lv' := [(5, va_rf (ro ad 7 (X 6 p2 j2))), (1, .ref (ad 1 0)), (2, .ref (ad 6 p2)), (3, .int p3), (4, .int p4)]) C dX2_measureAll_21 hl (Nat.le_of_ble_eq_true rfl) rfl (fun ls hl => ?_)
      refine r_aload C dX2_measureAll_23 (lv_at hl 0 rfl) ?_
      refine r_ifnull (tgt := 34) C dX2_measureAll_25 (by decide) (fun c4 => ?_) (fun c4 => ?_)
      · have hf := g_ip c4 hf
        exact s_X2_measureAll_J34 C hW hD0 ih hk40 p2 p3 p4 X _ _ _ hP hS (lv_sub hl [1, 2, 3, 4] rfl) ha_l1 ha_l2 hf
      · have hf := g_in c4 hf
        refine r_aload C dX2_measureAll_28 (lv_at hl 0 rfl) ?_
        refine lv_aload_n hx hb dX2_measureAll_30 rfl (lv_at hl 1 rfl) ?_
        obtain ⟨j5, h6, hf⟩ := dr_in hf
        rw [gref h6]
        obtain ⟨r7, X8, h9, hf⟩ := b2_in hf
        refine r_cVv (rest := []) C hP hS hl.1 (s_X0_measure hW hD0 h6.2.2 ha_l1 h9) ix_X0_measure iv_X0_measure lk_X2_60 ⟨rfl, rfl, Nat.le_of_ble_eq_true rfl, Nat.le_of_ble_eq_true rfl⟩ h6.2.2 (ct_7 _ _ _ _) rfl rfl rfl rfl (Nat.le_of_ble_eq_true rfl) ⟨Nat.zero_le _, Nat.zero_le _⟩ dX2_measureAll_31 (fun H locs hP hS => ?_)
        exact s_X2_measureAll_J34 C hW hD0 ih hk40 p2 p3 p4 X8 _ _ _ hP hS (lv_sub hl [1, 2, 3, 4] rfl) ha_l1 ha_l2 hf

set_option maxRecDepth 100000 in
set_option maxHeartbeats 4000000 in
theorem w_X2_measureAll {p : Program} {l : Launch} {e : Env} {s : State} {m : MethodId} {args : Array Value} {below : List Frame} {meth : Method} {c : Code} {D : va_G} {cA : Nat → ClassId} {ad : Nat → Nat → Nat} {NL : List (Nat × Nat)} {A : Nat → Prop} {rr : Int32} {XX : gM} {N : Nat} (C : gCx p c meth m s args cX2_measureAll 6 none RX2 D cA ad NL A) (hW : gWf NL) (hD0 : gD (fun _ => True) ad NL) {p0 : Nat} (ha_l0 : (5, p0) ∈ NL) (ha_l1 : (1, 0) ∈ NL) : ∀ (X : gM) (H : Heap) (locs : List Loc) (ls : Array Slot), gH D cA ad NL X H → va_S A s.heap H locs → lv_has ls 6 [(0, .ref (ad 5 p0)), (1, .ref (ad 1 0))] → X2_measureAll (gal NL) N p0 X = some (rr, XX) → W p l e rm_X2_measureAll s m args below meth c H locs 0 0 (MQ below (gQ D cA ad NL none XX A) args s 0 0 A) (F0 m 0 ls []) := by
  have hx := C.1
  have hb := C.2.1
  intro X H locs ls hP hS hl hf
  rw [X2_measureAll] at hf
  refine lv_aload_n hx hb dX2_measureAll_0 rfl (lv_at hl 0 rfl) ?_
  refine r_get C hP ha_l0 (ct_5 _ _ _ _) fx_X2_51 (fg_5_4 _ _ _) dX2_measureAll_1 ?_
  refine lv_astore_n (i := 2) (lv' := [(2, .ref (ad 6 p0)), (0, .ref (ad 5 p0)), (1, .ref (ad 1 0))]) hx hb dX2_measureAll_4 rfl hl (Nat.le_of_ble_eq_true rfl) rfl (fun ls hl => ?_)
  refine lv_aload_n hx hb dX2_measureAll_5 rfl (lv_at hl 0 rfl) ?_
  refine r_alen C hP 32 (gs_5_4 hW ha_l0) (ct_6 _ _ _ _) rfl rfl dX2_measureAll_6 ?_
  refine lv_istore_n (i := 3) (lv' := [(3, .int (32 : Int32)), (2, .ref (ad 6 p0)), (0, .ref (ad 5 p0)), (1, .ref (ad 1 0))]) hx hb dX2_measureAll_7 rfl hl (Nat.le_of_ble_eq_true rfl) rfl (fun ls hl => ?_)
  refine lv_iconst (v := 0) hx hb dX2_measureAll_8 (by decide) ?_
  refine lv_istore (i := 4) (lv' := [(4, .int (0 : Int32)), (3, .int (32 : Int32)), (2, .ref (ad 6 p0)), (0, .ref (ad 5 p0)), (1, .ref (ad 1 0))]) hx hb dX2_measureAll_9 hl (Nat.le_of_ble_eq_true rfl) rfl (fun ls hl => ?_)
  exact s_X2_measureAll_L11 C hW hD0 (fun Y H locs ls hP hS hl hf => s_X2_measureAll_J40 C hW hD0 Y _ _ _ hP hS hl hf) N p0 (32 : Int32) (0 : Int32) X _ _ _ hP hS (lv_sub hl [4, 2, 1, 0] rfl) ha_l1 (gs_5_4 hW ha_l0) hf

theorem s_X2_measureAll {l : Launch} {D : va_G} {cA : Nat → ClassId} {ad : Nat → Nat → Nat} {NL : List (Nat × Nat)} {N : Nat} {p0 : Nat} {X : gM} {rr : Int32} {XX : gM} (hW : gWf NL) (hD0 : gD (fun _ => True) ad NL) (ha_l0 : (5, p0) ∈ NL) (ha_l1 : (1, 0) ∈ NL) (hf : X2_measureAll (gal NL) N p0 X = some (rr, XX)) : gC l yX2_measureAll cX2_measureAll 6 none rm_X2_measureAll D cA ad NL [.ref (ad 5 p0), .ref (ad 1 0)] X none XX :=
  g_ofW (by decide) hD0 (Nat.le_of_ble_eq_true rfl) rfl (fun p e s m below meth c ls C hP hS hl => w_X2_measureAll C hW hD0 ha_l0 ha_l1 X _ _ ls hP hS hl hf)
def rm_X2_mixedCells : Room := { frames := 1, cells := 0, slots := 0, locals := 20 }
set_option maxRecDepth 100000 in
set_option maxHeartbeats 4000000 in
theorem s_X2_mixedCells_J47 {p : Program} {l : Launch} {e : Env} {s : State} {m : MethodId} {args : Array Value} {below : List Frame} {meth : Method} {c : Code} {D : va_G} {cA : Nat → ClassId} {ad : Nat → Nat → Nat} {NL : List (Nat × Nat)} {A : Nat → Prop} {rr : Int32} {XX : gM} {N : Nat} (C : gCx p c meth m s args cX2_mixedCells 6 (some .int) RX2 D cA ad NL A) (hW : gWf NL) (hD0 : gD (fun _ => True) ad NL) : ∀ (p1 : Int32) (X : gM) (H : Heap) (locs : List Loc) (ls : Array Slot), gH D cA ad NL X H → va_S A s.heap H locs → lv_has ls 6 [(1, .int p1)] → X2_mixedCells_J47 (gal NL) N p1 X = some (rr, XX) → W p l e rm_X2_mixedCells s m args below meth c H locs 0 0 (MQ below (gQ D cA ad NL (some (.int rr)) XX A) args s 0 0 A) (F0 m 47 ls []) := by
  have hx := C.1
  have hb := C.2.1
  intro p1 X H locs ls hP hS hl hf
  rw [X2_mixedCells_J47] at hf
  refine lv_iload_n hx hb dX2_mixedCells_47 rfl (lv_at hl 0 rfl) ?_
  obtain ⟨rfl, rfl⟩ := g_s1 hf
  exact r_iret C hP hS dX2_mixedCells_48

set_option maxRecDepth 100000 in
set_option maxHeartbeats 4000000 in
theorem s_X2_mixedCells_J41 {p : Program} {l : Launch} {e : Env} {s : State} {m : MethodId} {args : Array Value} {below : List Frame} {meth : Method} {c : Code} {D : va_G} {cA : Nat → ClassId} {ad : Nat → Nat → Nat} {NL : List (Nat × Nat)} {A : Nat → Prop} {rr : Int32} {XX : gM} {N : Nat} {kk : Int32 → Nat → Int32 → Int32 → gM → Option (Int32 × gM)} {k47 : Int32 → gM → Option (Int32 × gM)} (C : gCx p c meth m s args cX2_mixedCells 6 (some .int) RX2 D cA ad NL A) (hW : gWf NL) (hD0 : gD (fun _ => True) ad NL) (hkk : ∀ (p1 : Int32) (p2 : Nat) (p3 : Int32) (p4 : Int32) (Y : gM) (H : Heap) (locs : List Loc) (ls : Array Slot), gH D cA ad NL Y H → va_S A s.heap H locs → lv_has ls 6 [(1, .int p1), (2, .ref (ad 6 p2)), (3, .int p3), (4, .int p4)] → (6, p2) ∈ NL → kk p1 p2 p3 p4 Y = some (rr, XX) → W p l e rm_X2_mixedCells s m args below meth c H locs 0 0 (MQ below (gQ D cA ad NL (some (.int rr)) XX A) args s 0 0 A) (F0 m 13 ls [])) (hk47 : ∀ (p1 : Int32) (Y : gM) (H : Heap) (locs : List Loc) (ls : Array Slot), gH D cA ad NL Y H → va_S A s.heap H locs → lv_has ls 6 [(1, .int p1)] → k47 p1 Y = some (rr, XX) → W p l e rm_X2_mixedCells s m args below meth c H locs 0 0 (MQ below (gQ D cA ad NL (some (.int rr)) XX A) args s 0 0 A) (F0 m 47 ls [])) : ∀ (p1 : Int32) (p2 : Nat) (p3 : Int32) (p4 : Int32) (X : gM) (H : Heap) (locs : List Loc) (ls : Array Slot), gH D cA ad NL X H → va_S A s.heap H locs → lv_has ls 6 [(1, .int p1), (2, .ref (ad 6 p2)), (3, .int p3), (4, .int p4)] → (6, p2) ∈ NL → X2_mixedCells_J41 (gal NL) N kk k47 p1 p2 p3 p4 X = some (rr, XX) → W p l e rm_X2_mixedCells s m args below meth c H locs 0 0 (MQ below (gQ D cA ad NL (some (.int rr)) XX A) args s 0 0 A) (F0 m 41 ls []) := by
  have hx := C.1
  have hb := C.2.1
  intro p1 p2 p3 p4 X H locs ls hP hS hl ha_l2 hf
  rw [X2_mixedCells_J41] at hf
  obtain ⟨v1, e2, hf⟩ := gl_in hf
  refine lv_iinc (v := v1) (lv' := [(4, .int v1), (1, .int p1), (2, .ref (ad 6 p2)), (3, .int p3)]) hx hb dX2_mixedCells_41 hl (k := 3) rfl (by rw [e2]; rfl) (Nat.le_of_ble_eq_true rfl) rfl (fun ls hl => ?_)
  refine lv_goto (tgt := 13) hx hb dX2_mixedCells_44 (by decide) ?_
  exact hkk p1 p2 p3 v1 X _ _ _ hP hS (lv_sub hl [1, 2, 3, 0] rfl) ha_l2 hf

set_option maxRecDepth 100000 in
set_option maxHeartbeats 4000000 in
theorem s_X2_mixedCells_L13 {p : Program} {l : Launch} {e : Env} {s : State} {m : MethodId} {args : Array Value} {below : List Frame} {meth : Method} {c : Code} {D : va_G} {cA : Nat → ClassId} {ad : Nat → Nat → Nat} {NL : List (Nat × Nat)} {A : Nat → Prop} {rr : Int32} {XX : gM} {N : Nat} {k47 : Int32 → gM → Option (Int32 × gM)} (C : gCx p c meth m s args cX2_mixedCells 6 (some .int) RX2 D cA ad NL A) (hW : gWf NL) (hD0 : gD (fun _ => True) ad NL) (hk47 : ∀ (p1 : Int32) (Y : gM) (H : Heap) (locs : List Loc) (ls : Array Slot), gH D cA ad NL Y H → va_S A s.heap H locs → lv_has ls 6 [(1, .int p1)] → k47 p1 Y = some (rr, XX) → W p l e rm_X2_mixedCells s m args below meth c H locs 0 0 (MQ below (gQ D cA ad NL (some (.int rr)) XX A) args s 0 0 A) (F0 m 47 ls [])) : ∀ (n : Nat) (p1 : Int32) (p2 : Nat) (p3 : Int32) (p4 : Int32) (X : gM) (H : Heap) (locs : List Loc) (ls : Array Slot), gH D cA ad NL X H → va_S A s.heap H locs → lv_has ls 6 [(1, .int p1), (2, .ref (ad 6 p2)), (3, .int p3), (4, .int p4)] → (6, p2) ∈ NL → X2_mixedCells_L13 (gal NL) N k47 n p1 p2 p3 p4 X = some (rr, XX) → W p l e rm_X2_mixedCells s m args below meth c H locs 0 0 (MQ below (gQ D cA ad NL (some (.int rr)) XX A) args s 0 0 A) (F0 m 13 ls []) := by
  have hx := C.1
  have hb := C.2.1
  intro n
  induction n with
  | zero =>
    intro p1 p2 p3 p4 X H locs ls hP hS hl ha_l2 hf
    rw [X2_mixedCells_L13] at hf
    cases hf
  | succ n ih =>
    intro p1 p2 p3 p4 X H locs ls hP hS hl ha_l2 hf
    rw [X2_mixedCells_L13] at hf
    refine lv_iload hx hb dX2_mixedCells_13 (lv_at hl 3 rfl) ?_
    refine lv_iload_n hx hb dX2_mixedCells_15 rfl (lv_at hl 2 rfl) ?_
    refine lv_icmp_ge (tgt := 47) hx hb dX2_mixedCells_16 (by decide) (fun c1 => ?_) (fun c1 => ?_)
    · have hf := g_ip c1 hf
      exact hk47 p1 X _ _ _ hP hS (lv_sub hl [0] rfl) hf
    · have hf := g_in c1 hf
      refine lv_aload_n hx hb dX2_mixedCells_19 rfl (lv_at hl 1 rfl) ?_
      refine lv_iload hx hb dX2_mixedCells_20 (lv_at hl 3 rfl) ?_
      obtain ⟨j2, h3, hf⟩ := rd_in hf
      refine r_aldq C hP ha_l2 (ct_6 _ _ _ _) rfl h3 dX2_mixedCells_22 ?_
      refine r_astore (i := 5) (lv' := [(5, va_rf (ro ad 7 (X 6 p2 j2))), (1, .int p1), (2, .ref (ad 6 p2)), (3, .int p3), (4, .int p4)]) C dX2_mixedCells_23 hl (Nat.le_of_ble_eq_true rfl) rfl (fun ls hl => ?_)
      refine r_aload C dX2_mixedCells_25 (lv_at hl 0 rfl) ?_
      refine r_ifnull (tgt := 41) C dX2_mixedCells_27 (by decide) (fun c4 => ?_) (fun c4 => ?_)
      · have hf := g_ip c4 hf
        exact s_X2_mixedCells_J41 C hW hD0 ih hk47 p1 p2 p3 p4 X _ _ _ hP hS (lv_sub hl [1, 2, 3, 4] rfl) ha_l2 hf
      · have hf := g_in c4 hf
        refine r_aload C dX2_mixedCells_30 (lv_at hl 0 rfl) ?_
        obtain ⟨j5, h6, hf⟩ := dr_in hf
        rw [gref h6]
        obtain ⟨r7, X8, h9, hf⟩ := b2_in hf
        refine r_cVi (rest := []) C hP hS hl.1 (s_X0_isUnmixed hW hD0 h6.2.2 h9) ix_X0_isUnmixed iv_X0_isUnmixed lk_X2_64 ⟨rfl, rfl, Nat.le_of_ble_eq_true rfl, Nat.le_of_ble_eq_true rfl⟩ h6.2.2 (ct_7 _ _ _ _) rfl rfl rfl rfl (Nat.le_of_ble_eq_true rfl) ⟨Nat.zero_le _, Nat.zero_le _⟩ dX2_mixedCells_32 (fun H locs hP hS => ?_)
        refine lv_if_ne (tgt := 41) hx hb dX2_mixedCells_35 (by decide) (fun c10 => ?_) (fun c10 => ?_)
        · have hf := g_in c10 hf
          exact s_X2_mixedCells_J41 C hW hD0 ih hk47 p1 p2 p3 p4 X8 _ _ _ hP hS (lv_sub hl [1, 2, 3, 4] rfl) ha_l2 hf
        · have hf := g_ip c10 hf
          obtain ⟨v11, e12, hf⟩ := gl_in hf
          refine lv_iinc (v := v11) (lv' := [(1, .int v11), (5, va_rf (ro ad 7 (X 6 p2 j2))), (2, .ref (ad 6 p2)), (3, .int p3), (4, .int p4)]) hx hb dX2_mixedCells_38 hl (k := 1) rfl (by rw [e12]; rfl) (Nat.le_of_ble_eq_true rfl) rfl (fun ls hl => ?_)
          exact s_X2_mixedCells_J41 C hW hD0 ih hk47 v11 p2 p3 p4 X8 _ _ _ hP hS (lv_sub hl [0, 2, 3, 4] rfl) ha_l2 hf

set_option maxRecDepth 100000 in
set_option maxHeartbeats 4000000 in
theorem w_X2_mixedCells {p : Program} {l : Launch} {e : Env} {s : State} {m : MethodId} {args : Array Value} {below : List Frame} {meth : Method} {c : Code} {D : va_G} {cA : Nat → ClassId} {ad : Nat → Nat → Nat} {NL : List (Nat × Nat)} {A : Nat → Prop} {rr : Int32} {XX : gM} {N : Nat} (C : gCx p c meth m s args cX2_mixedCells 6 (some .int) RX2 D cA ad NL A) (hW : gWf NL) (hD0 : gD (fun _ => True) ad NL) {p0 : Nat} (ha_l0 : (5, p0) ∈ NL) : ∀ (X : gM) (H : Heap) (locs : List Loc) (ls : Array Slot), gH D cA ad NL X H → va_S A s.heap H locs → lv_has ls 6 [(0, .ref (ad 5 p0))] → X2_mixedCells (gal NL) N p0 X = some (rr, XX) → W p l e rm_X2_mixedCells s m args below meth c H locs 0 0 (MQ below (gQ D cA ad NL (some (.int rr)) XX A) args s 0 0 A) (F0 m 0 ls []) := by
  have hx := C.1
  have hb := C.2.1
  intro X H locs ls hP hS hl hf
  rw [X2_mixedCells] at hf
  refine lv_iconst (v := 0) hx hb dX2_mixedCells_0 (by decide) ?_
  refine lv_istore_n (i := 1) (lv' := [(1, .int (0 : Int32)), (0, .ref (ad 5 p0))]) hx hb dX2_mixedCells_1 rfl hl (Nat.le_of_ble_eq_true rfl) rfl (fun ls hl => ?_)
  refine lv_aload_n hx hb dX2_mixedCells_2 rfl (lv_at hl 1 rfl) ?_
  refine r_get C hP ha_l0 (ct_5 _ _ _ _) fx_X2_51 (fg_5_4 _ _ _) dX2_mixedCells_3 ?_
  refine lv_astore_n (i := 2) (lv' := [(2, .ref (ad 6 p0)), (1, .int (0 : Int32)), (0, .ref (ad 5 p0))]) hx hb dX2_mixedCells_6 rfl hl (Nat.le_of_ble_eq_true rfl) rfl (fun ls hl => ?_)
  refine lv_aload_n hx hb dX2_mixedCells_7 rfl (lv_at hl 0 rfl) ?_
  refine r_alen C hP 32 (gs_5_4 hW ha_l0) (ct_6 _ _ _ _) rfl rfl dX2_mixedCells_8 ?_
  refine lv_istore_n (i := 3) (lv' := [(3, .int (32 : Int32)), (2, .ref (ad 6 p0)), (1, .int (0 : Int32)), (0, .ref (ad 5 p0))]) hx hb dX2_mixedCells_9 rfl hl (Nat.le_of_ble_eq_true rfl) rfl (fun ls hl => ?_)
  refine lv_iconst (v := 0) hx hb dX2_mixedCells_10 (by decide) ?_
  refine lv_istore (i := 4) (lv' := [(4, .int (0 : Int32)), (3, .int (32 : Int32)), (2, .ref (ad 6 p0)), (1, .int (0 : Int32)), (0, .ref (ad 5 p0))]) hx hb dX2_mixedCells_11 hl (Nat.le_of_ble_eq_true rfl) rfl (fun ls hl => ?_)
  exact s_X2_mixedCells_L13 C hW hD0 (fun p1 Y H locs ls hP hS hl hf => s_X2_mixedCells_J47 C hW hD0 p1 Y _ _ _ hP hS hl hf) N (0 : Int32) p0 (32 : Int32) (0 : Int32) X _ _ _ hP hS (lv_sub hl [3, 2, 1, 0] rfl) (gs_5_4 hW ha_l0) hf

theorem s_X2_mixedCells {l : Launch} {D : va_G} {cA : Nat → ClassId} {ad : Nat → Nat → Nat} {NL : List (Nat × Nat)} {N : Nat} {p0 : Nat} {X : gM} {rr : Int32} {XX : gM} (hW : gWf NL) (hD0 : gD (fun _ => True) ad NL) (ha_l0 : (5, p0) ∈ NL) (hf : X2_mixedCells (gal NL) N p0 X = some (rr, XX)) : gC l yX2_mixedCells cX2_mixedCells 6 (some .int) rm_X2_mixedCells D cA ad NL [.ref (ad 5 p0)] X (some (.int rr)) XX :=
  g_ofW (by decide) hD0 (Nat.le_of_ble_eq_true rfl) rfl (fun p e s m below meth c ls C hP hS hl => w_X2_mixedCells C hW hD0 ha_l0 X _ _ ls hP hS hl hf)
def rm_X2_isAlike : Room := { frames := 1, cells := 0, slots := 0, locals := 21 }
set_option maxRecDepth 100000 in
set_option maxHeartbeats 4000000 in
theorem s_X2_isAlike_J64 {p : Program} {l : Launch} {e : Env} {s : State} {m : MethodId} {args : Array Value} {below : List Frame} {meth : Method} {c : Code} {D : va_G} {cA : Nat → ClassId} {ad : Nat → Nat → Nat} {NL : List (Nat × Nat)} {A : Nat → Prop} {rr : Int32} {XX : gM} {N : Nat} (C : gCx p c meth m s args cX2_isAlike 3 (some .boolean) RX2 D cA ad NL A) (hW : gWf NL) (hD0 : gD (fun _ => True) ad NL) : ∀ (s0 : Int32) (X : gM) (H : Heap) (locs : List Loc) (ls : Array Slot), gH D cA ad NL X H → va_S A s.heap H locs → lv_has ls 3 [] → X2_isAlike_J64 (gal NL) N s0 X = some (rr, XX) → W p l e rm_X2_isAlike s m args below meth c H locs 0 0 (MQ below (gQ D cA ad NL (some (.int rr)) XX A) args s 0 0 A) (F0 m 64 ls [.int s0]) := by
  have hx := C.1
  have hb := C.2.1
  intro s0 X H locs ls hP hS hl hf
  rw [X2_isAlike_J64] at hf
  obtain ⟨h1, hf⟩ := bz_in hf
  obtain ⟨rfl, rfl⟩ := g_s1 hf
  exact r_zret C hP hS h1 dX2_isAlike_64

set_option maxRecDepth 100000 in
set_option maxHeartbeats 4000000 in
theorem w_X2_isAlike {p : Program} {l : Launch} {e : Env} {s : State} {m : MethodId} {args : Array Value} {below : List Frame} {meth : Method} {c : Code} {D : va_G} {cA : Nat → ClassId} {ad : Nat → Nat → Nat} {NL : List (Nat × Nat)} {A : Nat → Prop} {rr : Int32} {XX : gM} {N : Nat} (C : gCx p c meth m s args cX2_isAlike 3 (some .boolean) RX2 D cA ad NL A) (hW : gWf NL) (hD0 : gD (fun _ => True) ad NL) {p0 : Nat} {p1 : Nat} (ha_l0 : (5, p0) ∈ NL) (ha_l1 : (5, p1) ∈ NL) : ∀ (X : gM) (H : Heap) (locs : List Loc) (ls : Array Slot), gH D cA ad NL X H → va_S A s.heap H locs → lv_has ls 3 [(0, .ref (ad 5 p0)), (1, .ref (ad 5 p1))] → X2_isAlike (gal NL) N p0 p1 X = some (rr, XX) → W p l e rm_X2_isAlike s m args below meth c H locs 0 0 (MQ below (gQ D cA ad NL (some (.int rr)) XX A) args s 0 0 A) (F0 m 0 ls []) := by
  have hx := C.1
  have hb := C.2.1
  intro X H locs ls hP hS hl hf
  rw [X2_isAlike] at hf
  refine lv_aload_n hx hb dX2_isAlike_0 rfl (lv_at hl 0 rfl) ?_
  refine r_get C hP ha_l0 (ct_5 _ _ _ _) fx_X2_18 (fg_5_7 _ _ _) dX2_isAlike_1 ?_
  refine lv_aload_n hx hb dX2_isAlike_4 rfl (lv_at hl 1 rfl) ?_
  refine r_get C hP ha_l1 (ct_5 _ _ _ _) fx_X2_18 (fg_5_7 _ _ _) dX2_isAlike_5 ?_
  refine lv_isub hx hb dX2_isAlike_8 ?_
  refine r_mabs C hl.1 jm_X2_68 jx_abs.1 jx_abs.2.1 jx_abs.2.2 ⟨Nat.le_of_ble_eq_true rfl, Nat.le_of_ble_eq_true rfl, Nat.le_of_ble_eq_true rfl, Nat.le_of_ble_eq_true rfl⟩ dX2_isAlike_9 ?_
  refine g_top hf (fun v1 e2 hf => ?_)
  refine lv_aload_n hx hb dX2_isAlike_12 rfl (lv_at hl 0 rfl) ?_
  refine r_get C hP ha_l0 (ct_5 _ _ _ _) fx_X2_21 (fg_5_8 _ _ _) dX2_isAlike_13 ?_
  refine lv_aload_n hx hb dX2_isAlike_16 rfl (lv_at hl 1 rfl) ?_
  refine r_get C hP ha_l1 (ct_5 _ _ _ _) fx_X2_21 (fg_5_8 _ _ _) dX2_isAlike_17 ?_
  refine lv_isub hx hb dX2_isAlike_20 ?_
  refine r_mabs C hl.1 jm_X2_68 jx_abs.1 jx_abs.2.1 jx_abs.2.2 ⟨Nat.le_of_ble_eq_true rfl, Nat.le_of_ble_eq_true rfl, Nat.le_of_ble_eq_true rfl, Nat.le_of_ble_eq_true rfl⟩ dX2_isAlike_21 ?_
  refine g_top hf (fun v3 e4 hf => ?_)
  refine lv_iadd hx hb dX2_isAlike_24 ?_
  refine lv_aload_n hx hb dX2_isAlike_25 rfl (lv_at hl 0 rfl) ?_
  refine r_get C hP ha_l0 (ct_5 _ _ _ _) fx_X2_24 (fg_5_9 _ _ _) dX2_isAlike_26 ?_
  refine lv_aload_n hx hb dX2_isAlike_29 rfl (lv_at hl 1 rfl) ?_
  refine r_get C hP ha_l1 (ct_5 _ _ _ _) fx_X2_24 (fg_5_9 _ _ _) dX2_isAlike_30 ?_
  refine lv_isub hx hb dX2_isAlike_33 ?_
  refine r_mabs C hl.1 jm_X2_68 jx_abs.1 jx_abs.2.1 jx_abs.2.2 ⟨Nat.le_of_ble_eq_true rfl, Nat.le_of_ble_eq_true rfl, Nat.le_of_ble_eq_true rfl, Nat.le_of_ble_eq_true rfl⟩ dX2_isAlike_34 ?_
  refine g_top hf (fun v5 e6 hf => ?_)
  refine lv_iadd hx hb dX2_isAlike_37 ?_
  refine g_top hf (fun v7 e8 hf => ?_)
  refine lv_istore_n (i := 2) (lv' := [(2, .int v7), (0, .ref (ad 5 p0)), (1, .ref (ad 5 p1))]) hx hb dX2_isAlike_38 rfl hl (Nat.le_of_ble_eq_true rfl) rfl (fun ls hl => ?_)
  refine lv_iload_n hx hb dX2_isAlike_39 rfl (lv_at hl 0 rfl) ?_
  refine lv_bipush (v := 6) hx hb dX2_isAlike_40 (by decide) ?_
  refine lv_iconst (v := 2) hx hb dX2_isAlike_42 (by decide) ?_
  refine lv_aload_n hx hb dX2_isAlike_43 rfl (lv_at hl 1 rfl) ?_
  refine r_get C hP ha_l0 (ct_5 _ _ _ _) fx_X2_27 (fg_5_10 _ _ _) dX2_isAlike_44 ?_
  refine lv_imul hx hb dX2_isAlike_47 ?_
  refine lv_iadd hx hb dX2_isAlike_48 ?_
  refine lv_iconst (v := 2) hx hb dX2_isAlike_49 (by decide) ?_
  refine lv_aload_n hx hb dX2_isAlike_50 rfl (lv_at hl 2 rfl) ?_
  refine r_get C hP ha_l1 (ct_5 _ _ _ _) fx_X2_27 (fg_5_10 _ _ _) dX2_isAlike_51 ?_
  refine lv_imul hx hb dX2_isAlike_54 ?_
  refine lv_iadd hx hb dX2_isAlike_55 ?_
  refine lv_icmp_gt (tgt := 63) hx hb dX2_isAlike_56 (by decide) (fun c9 => ?_) (fun c9 => ?_)
  · have hf := g_ip c9 hf
    refine lv_iconst (v := 0) hx hb dX2_isAlike_63 (by decide) ?_
    exact s_X2_isAlike_J64 C hW hD0 (0 : Int32) X _ _ _ hP hS (lv_sub hl [] rfl) hf
  · have hf := g_in c9 hf
    refine lv_iconst (v := 1) hx hb dX2_isAlike_59 (by decide) ?_
    refine lv_goto (tgt := 64) hx hb dX2_isAlike_60 (by decide) ?_
    exact s_X2_isAlike_J64 C hW hD0 (1 : Int32) X _ _ _ hP hS (lv_sub hl [] rfl) hf

theorem s_X2_isAlike {l : Launch} {D : va_G} {cA : Nat → ClassId} {ad : Nat → Nat → Nat} {NL : List (Nat × Nat)} {N : Nat} {p0 : Nat} {p1 : Nat} {X : gM} {rr : Int32} {XX : gM} (hW : gWf NL) (hD0 : gD (fun _ => True) ad NL) (ha_l0 : (5, p0) ∈ NL) (ha_l1 : (5, p1) ∈ NL) (hf : X2_isAlike (gal NL) N p0 p1 X = some (rr, XX)) : gC l yX2_isAlike cX2_isAlike 3 (some .boolean) rm_X2_isAlike D cA ad NL [.ref (ad 5 p0), .ref (ad 5 p1)] X (some (.int rr)) XX :=
  g_ofW (by decide) hD0 (Nat.le_of_ble_eq_true rfl) rfl (fun p e s m below meth c ls C hP hS hl => w_X2_isAlike C hW hD0 ha_l0 ha_l1 X _ _ ls hP hS hl hf)
def rm_X2_isUnlikeFront : Room := { frames := 0, cells := 0, slots := 0, locals := 0 }
set_option maxRecDepth 100000 in
set_option maxHeartbeats 4000000 in
theorem s_X2_isUnlikeFront_J32 {p : Program} {l : Launch} {e : Env} {s : State} {m : MethodId} {args : Array Value} {below : List Frame} {meth : Method} {c : Code} {D : va_G} {cA : Nat → ClassId} {ad : Nat → Nat → Nat} {NL : List (Nat × Nat)} {A : Nat → Prop} {rr : Int32} {XX : gM} {N : Nat} (C : gCx p c meth m s args cX2_isUnlikeFront 2 (some .boolean) RX2 D cA ad NL A) (hW : gWf NL) (hD0 : gD (fun _ => True) ad NL) : ∀ (s0 : Int32) (X : gM) (H : Heap) (locs : List Loc) (ls : Array Slot), gH D cA ad NL X H → va_S A s.heap H locs → lv_has ls 2 [] → X2_isUnlikeFront_J32 (gal NL) N s0 X = some (rr, XX) → W p l e rm_X2_isUnlikeFront s m args below meth c H locs 0 0 (MQ below (gQ D cA ad NL (some (.int rr)) XX A) args s 0 0 A) (F0 m 32 ls [.int s0]) := by
  have hx := C.1
  have hb := C.2.1
  intro s0 X H locs ls hP hS hl hf
  rw [X2_isUnlikeFront_J32] at hf
  obtain ⟨h1, hf⟩ := bz_in hf
  obtain ⟨rfl, rfl⟩ := g_s1 hf
  exact r_zret C hP hS h1 dX2_isUnlikeFront_32

set_option maxRecDepth 100000 in
set_option maxHeartbeats 4000000 in
theorem s_X2_isUnlikeFront_J27 {p : Program} {l : Launch} {e : Env} {s : State} {m : MethodId} {args : Array Value} {below : List Frame} {meth : Method} {c : Code} {D : va_G} {cA : Nat → ClassId} {ad : Nat → Nat → Nat} {NL : List (Nat × Nat)} {A : Nat → Prop} {rr : Int32} {XX : gM} {N : Nat} (C : gCx p c meth m s args cX2_isUnlikeFront 2 (some .boolean) RX2 D cA ad NL A) (hW : gWf NL) (hD0 : gD (fun _ => True) ad NL) : ∀ (X : gM) (H : Heap) (locs : List Loc) (ls : Array Slot), gH D cA ad NL X H → va_S A s.heap H locs → lv_has ls 2 [] → X2_isUnlikeFront_J27 (gal NL) N X = some (rr, XX) → W p l e rm_X2_isUnlikeFront s m args below meth c H locs 0 0 (MQ below (gQ D cA ad NL (some (.int rr)) XX A) args s 0 0 A) (F0 m 27 ls []) := by
  have hx := C.1
  have hb := C.2.1
  intro X H locs ls hP hS hl hf
  rw [X2_isUnlikeFront_J27] at hf
  refine lv_iconst (v := 1) hx hb dX2_isUnlikeFront_27 (by decide) ?_
  refine lv_goto (tgt := 32) hx hb dX2_isUnlikeFront_28 (by decide) ?_
  exact s_X2_isUnlikeFront_J32 C hW hD0 (1 : Int32) X _ _ _ hP hS (lv_sub hl [] rfl) hf

set_option maxRecDepth 100000 in
set_option maxHeartbeats 4000000 in
theorem w_X2_isUnlikeFront {p : Program} {l : Launch} {e : Env} {s : State} {m : MethodId} {args : Array Value} {below : List Frame} {meth : Method} {c : Code} {D : va_G} {cA : Nat → ClassId} {ad : Nat → Nat → Nat} {NL : List (Nat × Nat)} {A : Nat → Prop} {rr : Int32} {XX : gM} {N : Nat} (C : gCx p c meth m s args cX2_isUnlikeFront 2 (some .boolean) RX2 D cA ad NL A) (hW : gWf NL) (hD0 : gD (fun _ => True) ad NL) {p0 : Nat} {p1 : Nat} (ha_l0 : (5, p0) ∈ NL) (ha_l1 : (5, p1) ∈ NL) : ∀ (X : gM) (H : Heap) (locs : List Loc) (ls : Array Slot), gH D cA ad NL X H → va_S A s.heap H locs → lv_has ls 2 [(0, .ref (ad 5 p0)), (1, .ref (ad 5 p1))] → X2_isUnlikeFront (gal NL) N p0 p1 X = some (rr, XX) → W p l e rm_X2_isUnlikeFront s m args below meth c H locs 0 0 (MQ below (gQ D cA ad NL (some (.int rr)) XX A) args s 0 0 A) (F0 m 0 ls []) := by
  have hx := C.1
  have hb := C.2.1
  intro X H locs ls hP hS hl hf
  rw [X2_isUnlikeFront] at hf
  refine lv_aload_n hx hb dX2_isUnlikeFront_0 rfl (lv_at hl 0 rfl) ?_
  refine r_get C hP ha_l0 (ct_5 _ _ _ _) fx_X2_9 (fg_5_5 _ _ _) dX2_isUnlikeFront_1 ?_
  refine lv_iconst (v := -1) hx hb dX2_isUnlikeFront_4 (by decide) ?_
  refine lv_icmp_eq (tgt := 27) hx hb dX2_isUnlikeFront_5 (by decide) (fun c1 => ?_) (fun c1 => ?_)
  · have hf := g_ip c1 hf
    exact s_X2_isUnlikeFront_J27 C hW hD0 X _ _ _ hP hS (lv_sub hl [] rfl) hf
  · have hf := g_in c1 hf
    refine lv_aload_n hx hb dX2_isUnlikeFront_8 rfl (lv_at hl 1 rfl) ?_
    refine r_get C hP ha_l1 (ct_5 _ _ _ _) fx_X2_9 (fg_5_5 _ _ _) dX2_isUnlikeFront_9 ?_
    refine lv_iconst (v := -1) hx hb dX2_isUnlikeFront_12 (by decide) ?_
    refine lv_icmp_eq (tgt := 27) hx hb dX2_isUnlikeFront_13 (by decide) (fun c2 => ?_) (fun c2 => ?_)
    · have hf := g_ip c2 hf
      exact s_X2_isUnlikeFront_J27 C hW hD0 X _ _ _ hP hS (lv_sub hl [] rfl) hf
    · have hf := g_in c2 hf
      refine lv_aload_n hx hb dX2_isUnlikeFront_16 rfl (lv_at hl 0 rfl) ?_
      refine r_get C hP ha_l0 (ct_5 _ _ _ _) fx_X2_9 (fg_5_5 _ _ _) dX2_isUnlikeFront_17 ?_
      refine lv_aload_n hx hb dX2_isUnlikeFront_20 rfl (lv_at hl 1 rfl) ?_
      refine r_get C hP ha_l1 (ct_5 _ _ _ _) fx_X2_9 (fg_5_5 _ _ _) dX2_isUnlikeFront_21 ?_
      refine lv_icmp_eq (tgt := 31) hx hb dX2_isUnlikeFront_24 (by decide) (fun c3 => ?_) (fun c3 => ?_)
      · have hf := g_ip c3 hf
        refine lv_iconst (v := 0) hx hb dX2_isUnlikeFront_31 (by decide) ?_
        exact s_X2_isUnlikeFront_J32 C hW hD0 (0 : Int32) X _ _ _ hP hS (lv_sub hl [] rfl) hf
      · have hf := g_in c3 hf
        exact s_X2_isUnlikeFront_J27 C hW hD0 X _ _ _ hP hS (lv_sub hl [] rfl) hf

theorem s_X2_isUnlikeFront {l : Launch} {D : va_G} {cA : Nat → ClassId} {ad : Nat → Nat → Nat} {NL : List (Nat × Nat)} {N : Nat} {p0 : Nat} {p1 : Nat} {X : gM} {rr : Int32} {XX : gM} (hW : gWf NL) (hD0 : gD (fun _ => True) ad NL) (ha_l0 : (5, p0) ∈ NL) (ha_l1 : (5, p1) ∈ NL) (hf : X2_isUnlikeFront (gal NL) N p0 p1 X = some (rr, XX)) : gC l yX2_isUnlikeFront cX2_isUnlikeFront 2 (some .boolean) rm_X2_isUnlikeFront D cA ad NL [.ref (ad 5 p0), .ref (ad 5 p1)] X (some (.int rr)) XX :=
  g_ofW (by decide) hD0 (Nat.le_of_ble_eq_true rfl) rfl (fun p e s m below meth c ls C hP hS hl => w_X2_isUnlikeFront C hW hD0 ha_l0 ha_l1 X _ _ ls hP hS hl hf)
def rm_X8_isSame : Room := { frames := 0, cells := 0, slots := 0, locals := 0 }
set_option maxRecDepth 100000 in
set_option maxHeartbeats 4000000 in
theorem s_X8_isSame_J46 {p : Program} {l : Launch} {e : Env} {s : State} {m : MethodId} {args : Array Value} {below : List Frame} {meth : Method} {c : Code} {D : va_G} {cA : Nat → ClassId} {ad : Nat → Nat → Nat} {NL : List (Nat × Nat)} {A : Nat → Prop} {rr : Int32} {XX : gM} {N : Nat} (C : gCx p c meth m s args cX8_isSame 4 (some .boolean) RX8 D cA ad NL A) (hW : gWf NL) (hD0 : gD (fun _ => True) ad NL) : ∀ (X : gM) (H : Heap) (locs : List Loc) (ls : Array Slot), gH D cA ad NL X H → va_S A s.heap H locs → lv_has ls 4 [] → X8_isSame_J46 (gal NL) N X = some (rr, XX) → W p l e rm_X8_isSame s m args below meth c H locs 0 0 (MQ below (gQ D cA ad NL (some (.int rr)) XX A) args s 0 0 A) (F0 m 46 ls []) := by
  have hx := C.1
  have hb := C.2.1
  intro X H locs ls hP hS hl hf
  rw [X8_isSame_J46] at hf
  refine lv_iconst (v := 1) hx hb dX8_isSame_46 (by decide) ?_
  obtain ⟨rfl, rfl⟩ := g_s1 hf
  exact r_zret C hP hS (by decide) dX8_isSame_47

set_option maxRecDepth 100000 in
set_option maxHeartbeats 4000000 in
theorem s_X8_isSame_J38 {p : Program} {l : Launch} {e : Env} {s : State} {m : MethodId} {args : Array Value} {below : List Frame} {meth : Method} {c : Code} {D : va_G} {cA : Nat → ClassId} {ad : Nat → Nat → Nat} {NL : List (Nat × Nat)} {A : Nat → Prop} {rr : Int32} {XX : gM} {N : Nat} (C : gCx p c meth m s args cX8_isSame 4 (some .boolean) RX8 D cA ad NL A) (hW : gWf NL) (hD0 : gD (fun _ => True) ad NL) : ∀ (X : gM) (H : Heap) (locs : List Loc) (ls : Array Slot), gH D cA ad NL X H → va_S A s.heap H locs → lv_has ls 4 [] → X8_isSame_J38 (gal NL) N X = some (rr, XX) → W p l e rm_X8_isSame s m args below meth c H locs 0 0 (MQ below (gQ D cA ad NL (some (.int rr)) XX A) args s 0 0 A) (F0 m 38 ls []) := by
  have hx := C.1
  have hb := C.2.1
  intro X H locs ls hP hS hl hf
  rw [X8_isSame_J38] at hf
  refine lv_iconst (v := 0) hx hb dX8_isSame_38 (by decide) ?_
  obtain ⟨rfl, rfl⟩ := g_s1 hf
  exact r_zret C hP hS (by decide) dX8_isSame_39

set_option maxRecDepth 100000 in
set_option maxHeartbeats 4000000 in
theorem s_X8_isSame_L18 {p : Program} {l : Launch} {e : Env} {s : State} {m : MethodId} {args : Array Value} {below : List Frame} {meth : Method} {c : Code} {D : va_G} {cA : Nat → ClassId} {ad : Nat → Nat → Nat} {NL : List (Nat × Nat)} {A : Nat → Prop} {rr : Int32} {XX : gM} {N : Nat} {k38 : gM → Option (Int32 × gM)} {k46 : gM → Option (Int32 × gM)} (C : gCx p c meth m s args cX8_isSame 4 (some .boolean) RX8 D cA ad NL A) (hW : gWf NL) (hD0 : gD (fun _ => True) ad NL) (hk38 : ∀ (Y : gM) (H : Heap) (locs : List Loc) (ls : Array Slot), gH D cA ad NL Y H → va_S A s.heap H locs → lv_has ls 4 [] → k38 Y = some (rr, XX) → W p l e rm_X8_isSame s m args below meth c H locs 0 0 (MQ below (gQ D cA ad NL (some (.int rr)) XX A) args s 0 0 A) (F0 m 38 ls [])) (hk46 : ∀ (Y : gM) (H : Heap) (locs : List Loc) (ls : Array Slot), gH D cA ad NL Y H → va_S A s.heap H locs → lv_has ls 4 [] → k46 Y = some (rr, XX) → W p l e rm_X8_isSame s m args below meth c H locs 0 0 (MQ below (gQ D cA ad NL (some (.int rr)) XX A) args s 0 0 A) (F0 m 46 ls [])) : ∀ (n : Nat) (p0 : Nat) (p3 : Int32) (X : gM) (H : Heap) (locs : List Loc) (ls : Array Slot), gH D cA ad NL X H → va_S A s.heap H locs → lv_has ls 4 [(0, .ref (ad 26 p0)), (1, .ref (ad 24 0)), (3, .int p3)] → (26, p0) ∈ NL → (24, 0) ∈ NL → X8_isSame_L18 (gal NL) N k38 k46 n p0 p3 X = some (rr, XX) → W p l e rm_X8_isSame s m args below meth c H locs 0 0 (MQ below (gQ D cA ad NL (some (.int rr)) XX A) args s 0 0 A) (F0 m 18 ls []) := by
  have hx := C.1
  have hb := C.2.1
  intro n
  induction n with
  | zero =>
    intro p0 p3 X H locs ls hP hS hl ha_l0 ha_l1 hf
    rw [X8_isSame_L18] at hf
    cases hf
  | succ n ih =>
    intro p0 p3 X H locs ls hP hS hl ha_l0 ha_l1 hf
    rw [X8_isSame_L18] at hf
    refine lv_iload_n hx hb dX8_isSame_18 rfl (lv_at hl 2 rfl) ?_
    refine lv_aload_n hx hb dX8_isSame_19 rfl (lv_at hl 0 rfl) ?_
    refine r_get C hP ha_l0 (ct_26 _ _ _ _) fx_X8_19 (fg_26_1 _ _ _) dX8_isSame_20 ?_
    refine lv_icmp_ge (tgt := 46) hx hb dX8_isSame_23 (by decide) (fun c1 => ?_) (fun c1 => ?_)
    · have hf := g_ip c1 hf
      exact hk46 X _ _ _ hP hS (lv_sub hl [] rfl) hf
    · have hf := g_in c1 hf
      refine lv_aload_n hx hb dX8_isSame_26 rfl (lv_at hl 0 rfl) ?_
      refine r_get C hP ha_l0 (ct_26 _ _ _ _) fx_X8_13 (fg_26_0 _ _ _) dX8_isSame_27 ?_
      refine lv_iload_n hx hb dX8_isSame_30 rfl (lv_at hl 2 rfl) ?_
      obtain ⟨j2, h3, hf⟩ := rd_in hf
      refine r_iald C hP (gs_26_0 hW ha_l0) (ct_27 _ _ _ _) h3 dX8_isSame_31 ?_
      refine lv_aload_n hx hb dX8_isSame_32 rfl (lv_at hl 1 rfl) ?_
      refine lv_iload_n hx hb dX8_isSame_33 rfl (lv_at hl 2 rfl) ?_
      obtain ⟨j4, h5, hf⟩ := rd_in hf
      refine r_iald C hP ha_l1 (ct_24 _ _ _ _) h5 dX8_isSame_34 ?_
      refine lv_icmp_eq (tgt := 40) hx hb dX8_isSame_35 (by decide) (fun c6 => ?_) (fun c6 => ?_)
      · have hf := g_ip c6 hf
        obtain ⟨v7, e8, hf⟩ := gl_in hf
        refine lv_iinc (v := v7) (lv' := [(3, .int v7), (0, .ref (ad 26 p0)), (1, .ref (ad 24 0))]) hx hb dX8_isSame_40 hl (k := 2) rfl (by rw [e8]; rfl) (Nat.le_of_ble_eq_true rfl) rfl (fun ls hl => ?_)
        refine lv_goto (tgt := 18) hx hb dX8_isSame_43 (by decide) ?_
        exact ih p0 v7 X _ _ _ hP hS (lv_sub hl [1, 2, 0] rfl) ha_l0 ha_l1 hf
      · have hf := g_in c6 hf
        exact hk38 X _ _ _ hP hS (lv_sub hl [] rfl) hf

set_option maxRecDepth 100000 in
set_option maxHeartbeats 4000000 in
theorem s_X8_isSame_J14 {p : Program} {l : Launch} {e : Env} {s : State} {m : MethodId} {args : Array Value} {below : List Frame} {meth : Method} {c : Code} {D : va_G} {cA : Nat → ClassId} {ad : Nat → Nat → Nat} {NL : List (Nat × Nat)} {A : Nat → Prop} {rr : Int32} {XX : gM} {N : Nat} (C : gCx p c meth m s args cX8_isSame 4 (some .boolean) RX8 D cA ad NL A) (hW : gWf NL) (hD0 : gD (fun _ => True) ad NL) : ∀ (X : gM) (H : Heap) (locs : List Loc) (ls : Array Slot), gH D cA ad NL X H → va_S A s.heap H locs → lv_has ls 4 [] → X8_isSame_J14 (gal NL) N X = some (rr, XX) → W p l e rm_X8_isSame s m args below meth c H locs 0 0 (MQ below (gQ D cA ad NL (some (.int rr)) XX A) args s 0 0 A) (F0 m 14 ls []) := by
  have hx := C.1
  have hb := C.2.1
  intro X H locs ls hP hS hl hf
  rw [X8_isSame_J14] at hf
  refine lv_iconst (v := 0) hx hb dX8_isSame_14 (by decide) ?_
  obtain ⟨rfl, rfl⟩ := g_s1 hf
  exact r_zret C hP hS (by decide) dX8_isSame_15

set_option maxRecDepth 100000 in
set_option maxHeartbeats 4000000 in
theorem w_X8_isSame {p : Program} {l : Launch} {e : Env} {s : State} {m : MethodId} {args : Array Value} {below : List Frame} {meth : Method} {c : Code} {D : va_G} {cA : Nat → ClassId} {ad : Nat → Nat → Nat} {NL : List (Nat × Nat)} {A : Nat → Prop} {rr : Int32} {XX : gM} {N : Nat} (C : gCx p c meth m s args cX8_isSame 4 (some .boolean) RX8 D cA ad NL A) (hW : gWf NL) (hD0 : gD (fun _ => True) ad NL) {p0 : Nat} {p2 : Int32} (ha_l0 : (26, p0) ∈ NL) (ha_l1 : (24, 0) ∈ NL) : ∀ (X : gM) (H : Heap) (locs : List Loc) (ls : Array Slot), gH D cA ad NL X H → va_S A s.heap H locs → lv_has ls 4 [(0, .ref (ad 26 p0)), (1, .ref (ad 24 0)), (2, .int p2)] → X8_isSame (gal NL) N p0 p2 X = some (rr, XX) → W p l e rm_X8_isSame s m args below meth c H locs 0 0 (MQ below (gQ D cA ad NL (some (.int rr)) XX A) args s 0 0 A) (F0 m 0 ls []) := by
  have hx := C.1
  have hb := C.2.1
  intro X H locs ls hP hS hl hf
  rw [X8_isSame] at hf
  refine lv_iload_n hx hb dX8_isSame_0 rfl (lv_at hl 2 rfl) ?_
  refine lv_aload_n hx hb dX8_isSame_1 rfl (lv_at hl 0 rfl) ?_
  refine r_get C hP ha_l0 (ct_26 _ _ _ _) fx_X8_19 (fg_26_1 _ _ _) dX8_isSame_2 ?_
  refine lv_icmp_ne (tgt := 14) hx hb dX8_isSame_5 (by decide) (fun c1 => ?_) (fun c1 => ?_)
  · have hf := g_in c1 hf
    exact s_X8_isSame_J14 C hW hD0 X _ _ _ hP hS (lv_sub hl [] rfl) hf
  · have hf := g_ip c1 hf
    refine lv_iload_n hx hb dX8_isSame_8 rfl (lv_at hl 2 rfl) ?_
    refine lv_aload_n hx hb dX8_isSame_9 rfl (lv_at hl 1 rfl) ?_
    refine r_alen C hP 40 ha_l1 (ct_24 _ _ _ _) rfl rfl dX8_isSame_10 ?_
    refine lv_icmp_le (tgt := 16) hx hb dX8_isSame_11 (by decide) (fun c2 => ?_) (fun c2 => ?_)
    · have hf := g_ip c2 hf
      refine lv_iconst (v := 0) hx hb dX8_isSame_16 (by decide) ?_
      refine lv_istore_n (i := 3) (lv' := [(3, .int (0 : Int32)), (0, .ref (ad 26 p0)), (1, .ref (ad 24 0)), (2, .int p2)]) hx hb dX8_isSame_17 rfl hl (Nat.le_of_ble_eq_true rfl) rfl (fun ls hl => ?_)
      exact s_X8_isSame_L18 C hW hD0 (fun Y H locs ls hP hS hl hf => s_X8_isSame_J38 C hW hD0 Y _ _ _ hP hS hl hf) (fun Y H locs ls hP hS hl hf => s_X8_isSame_J46 C hW hD0 Y _ _ _ hP hS hl hf) N p0 (0 : Int32) X _ _ _ hP hS (lv_sub hl [1, 2, 0] rfl) ha_l0 ha_l1 hf
    · have hf := g_in c2 hf
      exact s_X8_isSame_J14 C hW hD0 X _ _ _ hP hS (lv_sub hl [] rfl) hf

theorem s_X8_isSame {l : Launch} {D : va_G} {cA : Nat → ClassId} {ad : Nat → Nat → Nat} {NL : List (Nat × Nat)} {N : Nat} {p0 : Nat} {p2 : Int32} {X : gM} {rr : Int32} {XX : gM} (hW : gWf NL) (hD0 : gD (fun _ => True) ad NL) (ha_l0 : (26, p0) ∈ NL) (ha_l1 : (24, 0) ∈ NL) (hf : X8_isSame (gal NL) N p0 p2 X = some (rr, XX)) : gC l yX8_isSame cX8_isSame 4 (some .boolean) rm_X8_isSame D cA ad NL [.ref (ad 26 p0), .ref (ad 24 0), .int p2] X (some (.int rr)) XX :=
  g_ofW (by decide) hD0 (Nat.le_of_ble_eq_true rfl) rfl (fun p e s m below meth c ls C hP hS hl => w_X8_isSame C hW hD0 ha_l0 ha_l1 X _ _ ls hP hS hl hf)
