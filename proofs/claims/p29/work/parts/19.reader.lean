def rm_X6_bestWeight : Room := { frames := 0, cells := 0, slots := 0, locals := 0 }
set_option maxRecDepth 100000 in
set_option maxHeartbeats 4000000 in
theorem w_X6_bestWeight {p : Program} {l : Launch} {e : Env} {s : State} {m : MethodId} {args : Array Value} {below : List Frame} {meth : Method} {c : Code} {D : va_G} {cA : Nat → ClassId} {ad : Nat → Nat → Nat} {NL : List (Nat × Nat)} {A : Nat → Prop} {rr : Int32} {XX : gM} {N : Nat} (C : gCx p c meth m s args cX6_bestWeight 1 (some .int) RX6 D cA ad NL A) (hW : gWf NL) (hD0 : gD (fun _ => True) ad NL) (ha_l0 : (29, 0) ∈ NL) : ∀ (X : gM) (H : Heap) (locs : List Loc) (ls : Array Slot), gH D cA ad NL X H → va_S A s.heap H locs → lv_has ls 1 [(0, .ref (ad 29 0))] → X6_bestWeight (gal NL) N  X = some (rr, XX) → W p l e rm_X6_bestWeight s m args below meth c H locs 0 0 (MQ below (gQ D cA ad NL (some (.int rr)) XX A) args s 0 0 A) (F0 m 0 ls []) := by
  have hx := C.1
  have hb := C.2.1
  intro X H locs ls hP hS hl hf
  rw [X6_bestWeight] at hf
  refine lv_aload_n hx hb dX6_bestWeight_0 rfl (lv_at hl 0 rfl) ?_
  refine r_get C hP ha_l0 (ct_29 _ _ _ _) fx_X6_32 (fg_29_6 _ _ _) dX6_bestWeight_1 ?_
  refine lv_iconst (v := 0) hx hb dX6_bestWeight_4 (by decide) ?_
  obtain ⟨j1, h2, hf⟩ := rd_in hf
  refine r_iald C hP (gs_29_6 hW ha_l0) (ct_35 _ _ _ _) h2 dX6_bestWeight_5 ?_
  obtain ⟨rfl, rfl⟩ := g_s1 hf
  exact r_iret C hP hS dX6_bestWeight_6

theorem s_X6_bestWeight {l : Launch} {D : va_G} {cA : Nat → ClassId} {ad : Nat → Nat → Nat} {NL : List (Nat × Nat)} {N : Nat} {X : gM} {rr : Int32} {XX : gM} (hW : gWf NL) (hD0 : gD (fun _ => True) ad NL) (ha_l0 : (29, 0) ∈ NL) (hf : X6_bestWeight (gal NL) N  X = some (rr, XX)) : gC l yX6_bestWeight cX6_bestWeight 1 (some .int) rm_X6_bestWeight D cA ad NL [.ref (ad 29 0)] X (some (.int rr)) XX :=
  g_ofW (by decide) hD0 (Nat.le_of_ble_eq_true rfl) rfl (fun p e s m below meth c ls C hP hS hl => w_X6_bestWeight C hW hD0 ha_l0 X _ _ ls hP hS hl hf)
def rm_X6_bestCount : Room := { frames := 0, cells := 0, slots := 0, locals := 0 }
set_option maxRecDepth 100000 in
set_option maxHeartbeats 4000000 in
theorem w_X6_bestCount {p : Program} {l : Launch} {e : Env} {s : State} {m : MethodId} {args : Array Value} {below : List Frame} {meth : Method} {c : Code} {D : va_G} {cA : Nat → ClassId} {ad : Nat → Nat → Nat} {NL : List (Nat × Nat)} {A : Nat → Prop} {rr : Int32} {XX : gM} {N : Nat} (C : gCx p c meth m s args cX6_bestCount 1 (some .int) RX6 D cA ad NL A) (hW : gWf NL) (hD0 : gD (fun _ => True) ad NL) (ha_l0 : (29, 0) ∈ NL) : ∀ (X : gM) (H : Heap) (locs : List Loc) (ls : Array Slot), gH D cA ad NL X H → va_S A s.heap H locs → lv_has ls 1 [(0, .ref (ad 29 0))] → X6_bestCount (gal NL) N  X = some (rr, XX) → W p l e rm_X6_bestCount s m args below meth c H locs 0 0 (MQ below (gQ D cA ad NL (some (.int rr)) XX A) args s 0 0 A) (F0 m 0 ls []) := by
  have hx := C.1
  have hb := C.2.1
  intro X H locs ls hP hS hl hf
  rw [X6_bestCount] at hf
  refine lv_aload_n hx hb dX6_bestCount_0 rfl (lv_at hl 0 rfl) ?_
  refine r_get C hP ha_l0 (ct_29 _ _ _ _) fx_X6_35 (fg_29_7 _ _ _) dX6_bestCount_1 ?_
  refine lv_iconst (v := 0) hx hb dX6_bestCount_4 (by decide) ?_
  obtain ⟨j1, h2, hf⟩ := rd_in hf
  refine r_iald C hP (gs_29_7 hW ha_l0) (ct_36 _ _ _ _) h2 dX6_bestCount_5 ?_
  obtain ⟨rfl, rfl⟩ := g_s1 hf
  exact r_iret C hP hS dX6_bestCount_6

theorem s_X6_bestCount {l : Launch} {D : va_G} {cA : Nat → ClassId} {ad : Nat → Nat → Nat} {NL : List (Nat × Nat)} {N : Nat} {X : gM} {rr : Int32} {XX : gM} (hW : gWf NL) (hD0 : gD (fun _ => True) ad NL) (ha_l0 : (29, 0) ∈ NL) (hf : X6_bestCount (gal NL) N  X = some (rr, XX)) : gC l yX6_bestCount cX6_bestCount 1 (some .int) rm_X6_bestCount D cA ad NL [.ref (ad 29 0)] X (some (.int rr)) XX :=
  g_ofW (by decide) hD0 (Nat.le_of_ble_eq_true rfl) rfl (fun p e s m below meth c ls C hP hS hl => w_X6_bestCount C hW hD0 ha_l0 X _ _ ls hP hS hl hf)
def rm_X6_firstLetter : Room := { frames := 0, cells := 0, slots := 0, locals := 0 }
set_option maxRecDepth 100000 in
set_option maxHeartbeats 4000000 in
theorem s_X6_firstLetter_J22 {p : Program} {l : Launch} {e : Env} {s : State} {m : MethodId} {args : Array Value} {below : List Frame} {meth : Method} {c : Code} {D : va_G} {cA : Nat → ClassId} {ad : Nat → Nat → Nat} {NL : List (Nat × Nat)} {A : Nat → Prop} {rr : Int32} {XX : gM} {N : Nat} (C : gCx p c meth m s args cX6_firstLetter 2 (some .int) RX6 D cA ad NL A) (hW : gWf NL) (hD0 : gD (fun _ => True) ad NL) : ∀ (X : gM) (H : Heap) (locs : List Loc) (ls : Array Slot), gH D cA ad NL X H → va_S A s.heap H locs → lv_has ls 2 [] → X6_firstLetter_J22 (gal NL) N X = some (rr, XX) → W p l e rm_X6_firstLetter s m args below meth c H locs 0 0 (MQ below (gQ D cA ad NL (some (.int rr)) XX A) args s 0 0 A) (F0 m 22 ls []) := by
  have hx := C.1
  have hb := C.2.1
  intro X H locs ls hP hS hl hf
  rw [X6_firstLetter_J22] at hf
  refine lv_iconst (v := -1) hx hb dX6_firstLetter_22 (by decide) ?_
  obtain ⟨rfl, rfl⟩ := g_s1 hf
  exact r_iret C hP hS dX6_firstLetter_23

set_option maxRecDepth 100000 in
set_option maxHeartbeats 4000000 in
theorem w_X6_firstLetter {p : Program} {l : Launch} {e : Env} {s : State} {m : MethodId} {args : Array Value} {below : List Frame} {meth : Method} {c : Code} {D : va_G} {cA : Nat → ClassId} {ad : Nat → Nat → Nat} {NL : List (Nat × Nat)} {A : Nat → Prop} {rr : Int32} {XX : gM} {N : Nat} (C : gCx p c meth m s args cX6_firstLetter 2 (some .int) RX6 D cA ad NL A) (hW : gWf NL) (hD0 : gD (fun _ => True) ad NL) {p1 : Int32} (ha_l0 : (29, 0) ∈ NL) : ∀ (X : gM) (H : Heap) (locs : List Loc) (ls : Array Slot), gH D cA ad NL X H → va_S A s.heap H locs → lv_has ls 2 [(0, .ref (ad 29 0)), (1, .int p1)] → X6_firstLetter (gal NL) N p1 X = some (rr, XX) → W p l e rm_X6_firstLetter s m args below meth c H locs 0 0 (MQ below (gQ D cA ad NL (some (.int rr)) XX A) args s 0 0 A) (F0 m 0 ls []) := by
  have hx := C.1
  have hb := C.2.1
  intro X H locs ls hP hS hl hf
  rw [X6_firstLetter] at hf
  refine lv_iload_n hx hb dX6_firstLetter_0 rfl (lv_at hl 1 rfl) ?_
  refine lv_if_lt (tgt := 22) hx hb dX6_firstLetter_1 (by decide) (fun c1 => ?_) (fun c1 => ?_)
  · have hf := g_ip c1 hf
    exact s_X6_firstLetter_J22 C hW hD0 X _ _ _ hP hS (lv_sub hl [] rfl) hf
  · have hf := g_in c1 hf
    refine lv_iload_n hx hb dX6_firstLetter_4 rfl (lv_at hl 1 rfl) ?_
    refine lv_aload_n hx hb dX6_firstLetter_5 rfl (lv_at hl 0 rfl) ?_
    refine r_get C hP ha_l0 (ct_29 _ _ _ _) fx_X6_9 (fg_29_0 _ _ _) dX6_firstLetter_6 ?_
    refine lv_icmp_ge (tgt := 22) hx hb dX6_firstLetter_9 (by decide) (fun c2 => ?_) (fun c2 => ?_)
    · have hf := g_ip c2 hf
      exact s_X6_firstLetter_J22 C hW hD0 X _ _ _ hP hS (lv_sub hl [] rfl) hf
    · have hf := g_in c2 hf
      refine lv_aload_n hx hb dX6_firstLetter_12 rfl (lv_at hl 0 rfl) ?_
      refine r_get C hP ha_l0 (ct_29 _ _ _ _) fx_X6_32 (fg_29_6 _ _ _) dX6_firstLetter_13 ?_
      refine lv_iconst (v := 0) hx hb dX6_firstLetter_16 (by decide) ?_
      obtain ⟨j3, h4, hf⟩ := rd_in hf
      refine r_iald C hP (gs_29_6 hW ha_l0) (ct_35 _ _ _ _) h4 dX6_firstLetter_17 ?_
      refine lv_iconst (v := -1) hx hb dX6_firstLetter_18 (by decide) ?_
      refine lv_icmp_ne (tgt := 24) hx hb dX6_firstLetter_19 (by decide) (fun c5 => ?_) (fun c5 => ?_)
      · have hf := g_in c5 hf
        refine lv_aload_n hx hb dX6_firstLetter_24 rfl (lv_at hl 0 rfl) ?_
        refine r_get C hP ha_l0 (ct_29 _ _ _ _) fx_X6_40 (fg_29_8 _ _ _) dX6_firstLetter_25 ?_
        refine lv_iconst (v := 0) hx hb dX6_firstLetter_28 (by decide) ?_
        obtain ⟨j6, h7, hf⟩ := rd_in hf
        refine r_aldA C hP (gs_29_8 hW ha_l0) (ct_37 _ _ _ _) h7 dX6_firstLetter_29 ?_
        rw [gsome]
        refine lv_iload_n hx hb dX6_firstLetter_30 rfl (lv_at hl 1 rfl) ?_
        obtain ⟨j8, h9, hf⟩ := rd_in hf
        refine r_iald C hP (gsA_37 hW (gs_29_8 hW ha_l0) h7) (ct_38 _ _ _ _) h9 dX6_firstLetter_31 ?_
        obtain ⟨rfl, rfl⟩ := g_s1 hf
        exact r_iret C hP hS dX6_firstLetter_32
      · have hf := g_ip c5 hf
        exact s_X6_firstLetter_J22 C hW hD0 X _ _ _ hP hS (lv_sub hl [] rfl) hf

theorem s_X6_firstLetter {l : Launch} {D : va_G} {cA : Nat → ClassId} {ad : Nat → Nat → Nat} {NL : List (Nat × Nat)} {N : Nat} {p1 : Int32} {X : gM} {rr : Int32} {XX : gM} (hW : gWf NL) (hD0 : gD (fun _ => True) ad NL) (ha_l0 : (29, 0) ∈ NL) (hf : X6_firstLetter (gal NL) N p1 X = some (rr, XX)) : gC l yX6_firstLetter cX6_firstLetter 2 (some .int) rm_X6_firstLetter D cA ad NL [.ref (ad 29 0), .int p1] X (some (.int rr)) XX :=
  g_ofW (by decide) hD0 (Nat.le_of_ble_eq_true rfl) rfl (fun p e s m below meth c ls C hP hS hl => w_X6_firstLetter C hW hD0 ha_l0 X _ _ ls hP hS hl hf)
def rm_X6_load : Room := { frames := 1, cells := 0, slots := 0, locals := 25 }
set_option maxRecDepth 100000 in
set_option maxHeartbeats 4000000 in
theorem s_X6_load_J125 {p : Program} {l : Launch} {e : Env} {s : State} {m : MethodId} {args : Array Value} {below : List Frame} {meth : Method} {c : Code} {D : va_G} {cA : Nat → ClassId} {ad : Nat → Nat → Nat} {NL : List (Nat × Nat)} {A : Nat → Prop} {rr : Int32} {XX : gM} {N : Nat} (C : gCx p c meth m s args cX6_load 6 none RX6 D cA ad NL A) (hW : gWf NL) (hD0 : gD (fun _ => True) ad NL) : ∀ (X : gM) (H : Heap) (locs : List Loc) (ls : Array Slot), gH D cA ad NL X H → va_S A s.heap H locs → lv_has ls 6 [] → X6_load_J125 (gal NL) N X = some (rr, XX) → W p l e rm_X6_load s m args below meth c H locs 0 0 (MQ below (gQ D cA ad NL none XX A) args s 0 0 A) (F0 m 125 ls []) := by
  have hx := C.1
  have hb := C.2.1
  intro X H locs ls hP hS hl hf
  rw [X6_load_J125] at hf
  obtain ⟨rfl, rfl⟩ := g_s1 hf
  exact r_vret C hP hS dX6_load_125

set_option maxRecDepth 100000 in
set_option maxHeartbeats 4000000 in
theorem s_X6_load_J119 {p : Program} {l : Launch} {e : Env} {s : State} {m : MethodId} {args : Array Value} {below : List Frame} {meth : Method} {c : Code} {D : va_G} {cA : Nat → ClassId} {ad : Nat → Nat → Nat} {NL : List (Nat × Nat)} {A : Nat → Prop} {rr : Int32} {XX : gM} {N : Nat} {kk : Int32 → Int32 → Int32 → gM → Option (Int32 × gM)} {k125 : gM → Option (Int32 × gM)} (C : gCx p c meth m s args cX6_load 6 none RX6 D cA ad NL A) (hW : gWf NL) (hD0 : gD (fun _ => True) ad NL) (hkk : ∀ (p2 : Int32) (p4 : Int32) (p5 : Int32) (Y : gM) (H : Heap) (locs : List Loc) (ls : Array Slot), gH D cA ad NL Y H → va_S A s.heap H locs → lv_has ls 6 [(0, .ref (ad 29 0)), (2, .int p2), (4, .int p4), (5, .int p5)] → (29, 0) ∈ NL → kk p2 p4 p5 Y = some (rr, XX) → W p l e rm_X6_load s m args below meth c H locs 0 0 (MQ below (gQ D cA ad NL none XX A) args s 0 0 A) (F0 m 89 ls [])) (hk125 : ∀ (Y : gM) (H : Heap) (locs : List Loc) (ls : Array Slot), gH D cA ad NL Y H → va_S A s.heap H locs → lv_has ls 6 [] → k125 Y = some (rr, XX) → W p l e rm_X6_load s m args below meth c H locs 0 0 (MQ below (gQ D cA ad NL none XX A) args s 0 0 A) (F0 m 125 ls [])) : ∀ (p2 : Int32) (p4 : Int32) (p5 : Int32) (X : gM) (H : Heap) (locs : List Loc) (ls : Array Slot), gH D cA ad NL X H → va_S A s.heap H locs → lv_has ls 6 [(0, .ref (ad 29 0)), (2, .int p2), (4, .int p4), (5, .int p5)] → (29, 0) ∈ NL → X6_load_J119 (gal NL) N kk k125 p2 p4 p5 X = some (rr, XX) → W p l e rm_X6_load s m args below meth c H locs 0 0 (MQ below (gQ D cA ad NL none XX A) args s 0 0 A) (F0 m 119 ls []) := by
  have hx := C.1
  have hb := C.2.1
  intro p2 p4 p5 X H locs ls hP hS hl ha_l0 hf
  rw [X6_load_J119] at hf
  obtain ⟨v1, e2, hf⟩ := gl_in hf
  refine lv_iinc (v := v1) (lv' := [(5, .int v1), (0, .ref (ad 29 0)), (2, .int p2), (4, .int p4)]) hx hb dX6_load_119 hl (k := 3) rfl (by rw [e2]; rfl) (Nat.le_of_ble_eq_true rfl) rfl (fun ls hl => ?_)
  refine lv_goto (tgt := 89) hx hb dX6_load_122 (by decide) ?_
  exact hkk p2 p4 v1 X _ _ _ hP hS (lv_sub hl [1, 2, 3, 0] rfl) ha_l0 hf

set_option maxRecDepth 100000 in
set_option maxHeartbeats 4000000 in
theorem s_X6_load_L89 {p : Program} {l : Launch} {e : Env} {s : State} {m : MethodId} {args : Array Value} {below : List Frame} {meth : Method} {c : Code} {D : va_G} {cA : Nat → ClassId} {ad : Nat → Nat → Nat} {NL : List (Nat × Nat)} {A : Nat → Prop} {rr : Int32} {XX : gM} {N : Nat} {k125 : gM → Option (Int32 × gM)} (C : gCx p c meth m s args cX6_load 6 none RX6 D cA ad NL A) (hW : gWf NL) (hD0 : gD (fun _ => True) ad NL) (hk125 : ∀ (Y : gM) (H : Heap) (locs : List Loc) (ls : Array Slot), gH D cA ad NL Y H → va_S A s.heap H locs → lv_has ls 6 [] → k125 Y = some (rr, XX) → W p l e rm_X6_load s m args below meth c H locs 0 0 (MQ below (gQ D cA ad NL none XX A) args s 0 0 A) (F0 m 125 ls [])) : ∀ (n : Nat) (p2 : Int32) (p4 : Int32) (p5 : Int32) (X : gM) (H : Heap) (locs : List Loc) (ls : Array Slot), gH D cA ad NL X H → va_S A s.heap H locs → lv_has ls 6 [(0, .ref (ad 29 0)), (2, .int p2), (4, .int p4), (5, .int p5)] → (29, 0) ∈ NL → X6_load_L89 (gal NL) N k125 n p2 p4 p5 X = some (rr, XX) → W p l e rm_X6_load s m args below meth c H locs 0 0 (MQ below (gQ D cA ad NL none XX A) args s 0 0 A) (F0 m 89 ls []) := by
  have hx := C.1
  have hb := C.2.1
  intro n
  induction n with
  | zero =>
    intro p2 p4 p5 X H locs ls hP hS hl ha_l0 hf
    rw [X6_load_L89] at hf
    cases hf
  | succ n ih =>
    intro p2 p4 p5 X H locs ls hP hS hl ha_l0 hf
    rw [X6_load_L89] at hf
    refine lv_iload hx hb dX6_load_89 (lv_at hl 3 rfl) ?_
    refine lv_bipush (v := 26) hx hb dX6_load_91 (by decide) ?_
    refine lv_icmp_ge (tgt := 125) hx hb dX6_load_93 (by decide) (fun c1 => ?_) (fun c1 => ?_)
    · have hf := g_ip c1 hf
      exact hk125 X _ _ _ hP hS (lv_sub hl [] rfl) hf
    · have hf := g_in c1 hf
      refine lv_aload_n hx hb dX6_load_96 rfl (lv_at hl 0 rfl) ?_
      refine r_get C hP ha_l0 (ct_29 _ _ _ _) fx_X6_23 (fg_29_3 _ _ _) dX6_load_97 ?_
      refine lv_iload hx hb dX6_load_100 (lv_at hl 2 rfl) ?_
      refine lv_iload hx hb dX6_load_102 (lv_at hl 3 rfl) ?_
      refine lv_iadd hx hb dX6_load_104 ?_
      obtain ⟨j2, h3, hf⟩ := rd_in hf
      refine r_iald C hP (gs_29_3 hW ha_l0) (ct_32 _ _ _ _) h3 dX6_load_105 ?_
      refine lv_if_le (tgt := 119) hx hb dX6_load_106 (by decide) (fun c4 => ?_) (fun c4 => ?_)
      · have hf := g_ip c4 hf
        exact s_X6_load_J119 C hW hD0 ih hk125 p2 p4 p5 X _ _ _ hP hS (lv_sub hl [0, 1, 2, 3] rfl) ha_l0 hf
      · have hf := g_in c4 hf
        refine lv_aload_n hx hb dX6_load_109 rfl (lv_at hl 0 rfl) ?_
        refine r_get C hP ha_l0 (ct_29 _ _ _ _) fx_X6_19 (fg_29_2 _ _ _) dX6_load_110 ?_
        refine lv_iload_n hx hb dX6_load_113 rfl (lv_at hl 1 rfl) ?_
        refine lv_dup2_11 hx hb dX6_load_114 rfl rfl ?_
        obtain ⟨j5, h6, hf⟩ := rd_in hf
        refine r_iald C hP (gs_29_2 hW ha_l0) (ct_31 _ _ _ _) h6 dX6_load_115 ?_
        refine lv_iconst (v := 1) hx hb dX6_load_116 (by decide) ?_
        refine lv_iadd hx hb dX6_load_117 ?_
        obtain ⟨j7, h8, hf⟩ := rd_in hf
        refine r_iast C hP hS (gs_29_2 hW ha_l0) (fun _ => ct_31 _ _ _ _) h8 dX6_load_118 (fun H locs hP hS => ?_)
        obtain ⟨X9, e10, hf⟩ := gl_in hf
        rw [← e10] at hP
        exact s_X6_load_J119 C hW hD0 ih hk125 p2 p4 p5 X9 _ _ _ hP hS (lv_sub hl [0, 1, 2, 3] rfl) ha_l0 hf

set_option maxRecDepth 100000 in
set_option maxHeartbeats 4000000 in
theorem s_X6_load_J86 {p : Program} {l : Launch} {e : Env} {s : State} {m : MethodId} {args : Array Value} {below : List Frame} {meth : Method} {c : Code} {D : va_G} {cA : Nat → ClassId} {ad : Nat → Nat → Nat} {NL : List (Nat × Nat)} {A : Nat → Prop} {rr : Int32} {XX : gM} {N : Nat} (C : gCx p c meth m s args cX6_load 6 none RX6 D cA ad NL A) (hW : gWf NL) (hD0 : gD (fun _ => True) ad NL) : ∀ (p2 : Int32) (p4 : Int32) (X : gM) (H : Heap) (locs : List Loc) (ls : Array Slot), gH D cA ad NL X H → va_S A s.heap H locs → lv_has ls 6 [(0, .ref (ad 29 0)), (2, .int p2), (4, .int p4)] → (29, 0) ∈ NL → X6_load_J86 (gal NL) N p2 p4 X = some (rr, XX) → W p l e rm_X6_load s m args below meth c H locs 0 0 (MQ below (gQ D cA ad NL none XX A) args s 0 0 A) (F0 m 86 ls []) := by
  have hx := C.1
  have hb := C.2.1
  intro p2 p4 X H locs ls hP hS hl ha_l0 hf
  rw [X6_load_J86] at hf
  refine lv_iconst (v := 0) hx hb dX6_load_86 (by decide) ?_
  refine lv_istore (i := 5) (lv' := [(5, .int (0 : Int32)), (0, .ref (ad 29 0)), (2, .int p2), (4, .int p4)]) hx hb dX6_load_87 hl (Nat.le_of_ble_eq_true rfl) rfl (fun ls hl => ?_)
  exact s_X6_load_L89 C hW hD0 (fun Y H locs ls hP hS hl hf => s_X6_load_J125 C hW hD0 Y _ _ _ hP hS hl hf) N p2 p4 (0 : Int32) X _ _ _ hP hS (lv_sub hl [1, 2, 3, 0] rfl) ha_l0 hf

set_option maxRecDepth 100000 in
set_option maxHeartbeats 4000000 in
theorem s_X6_load_J80 {p : Program} {l : Launch} {e : Env} {s : State} {m : MethodId} {args : Array Value} {below : List Frame} {meth : Method} {c : Code} {D : va_G} {cA : Nat → ClassId} {ad : Nat → Nat → Nat} {NL : List (Nat × Nat)} {A : Nat → Prop} {rr : Int32} {XX : gM} {N : Nat} {kk : Int32 → Int32 → Int32 → Int32 → Int32 → gM → Option (Int32 × gM)} {k86 : Int32 → Int32 → gM → Option (Int32 × gM)} (C : gCx p c meth m s args cX6_load 6 none RX6 D cA ad NL A) (hW : gWf NL) (hD0 : gD (fun _ => True) ad NL) (hkk : ∀ (p1 : Int32) (p2 : Int32) (p3 : Int32) (p4 : Int32) (p5 : Int32) (Y : gM) (H : Heap) (locs : List Loc) (ls : Array Slot), gH D cA ad NL Y H → va_S A s.heap H locs → lv_has ls 6 [(0, .ref (ad 29 0)), (1, va_rf (ro ad 7 p1)), (2, .int p2), (3, .int p3), (4, .int p4), (5, .int p5)] → (29, 0) ∈ NL → kk p1 p2 p3 p4 p5 Y = some (rr, XX) → W p l e rm_X6_load s m args below meth c H locs 0 0 (MQ below (gQ D cA ad NL none XX A) args s 0 0 A) (F0 m 52 ls [])) (hk86 : ∀ (p2 : Int32) (p4 : Int32) (Y : gM) (H : Heap) (locs : List Loc) (ls : Array Slot), gH D cA ad NL Y H → va_S A s.heap H locs → lv_has ls 6 [(0, .ref (ad 29 0)), (2, .int p2), (4, .int p4)] → (29, 0) ∈ NL → k86 p2 p4 Y = some (rr, XX) → W p l e rm_X6_load s m args below meth c H locs 0 0 (MQ below (gQ D cA ad NL none XX A) args s 0 0 A) (F0 m 86 ls [])) : ∀ (p1 : Int32) (p2 : Int32) (p3 : Int32) (p4 : Int32) (p5 : Int32) (X : gM) (H : Heap) (locs : List Loc) (ls : Array Slot), gH D cA ad NL X H → va_S A s.heap H locs → lv_has ls 6 [(0, .ref (ad 29 0)), (1, va_rf (ro ad 7 p1)), (2, .int p2), (3, .int p3), (4, .int p4), (5, .int p5)] → (29, 0) ∈ NL → X6_load_J80 (gal NL) N kk k86 p1 p2 p3 p4 p5 X = some (rr, XX) → W p l e rm_X6_load s m args below meth c H locs 0 0 (MQ below (gQ D cA ad NL none XX A) args s 0 0 A) (F0 m 80 ls []) := by
  have hx := C.1
  have hb := C.2.1
  intro p1 p2 p3 p4 p5 X H locs ls hP hS hl ha_l0 hf
  rw [X6_load_J80] at hf
  obtain ⟨v1, e2, hf⟩ := gl_in hf
  refine lv_iinc (v := v1) (lv' := [(5, .int v1), (0, .ref (ad 29 0)), (1, va_rf (ro ad 7 p1)), (2, .int p2), (3, .int p3), (4, .int p4)]) hx hb dX6_load_80 hl (k := 5) rfl (by rw [e2]; rfl) (Nat.le_of_ble_eq_true rfl) rfl (fun ls hl => ?_)
  refine lv_goto (tgt := 52) hx hb dX6_load_83 (by decide) ?_
  exact hkk p1 p2 p3 p4 v1 X _ _ _ hP hS (lv_sub hl [1, 2, 3, 4, 5, 0] rfl) ha_l0 hf

set_option maxRecDepth 100000 in
set_option maxHeartbeats 4000000 in
theorem s_X6_load_L52 {p : Program} {l : Launch} {e : Env} {s : State} {m : MethodId} {args : Array Value} {below : List Frame} {meth : Method} {c : Code} {D : va_G} {cA : Nat → ClassId} {ad : Nat → Nat → Nat} {NL : List (Nat × Nat)} {A : Nat → Prop} {rr : Int32} {XX : gM} {N : Nat} {k86 : Int32 → Int32 → gM → Option (Int32 × gM)} (C : gCx p c meth m s args cX6_load 6 none RX6 D cA ad NL A) (hW : gWf NL) (hD0 : gD (fun _ => True) ad NL) (hk86 : ∀ (p2 : Int32) (p4 : Int32) (Y : gM) (H : Heap) (locs : List Loc) (ls : Array Slot), gH D cA ad NL Y H → va_S A s.heap H locs → lv_has ls 6 [(0, .ref (ad 29 0)), (2, .int p2), (4, .int p4)] → (29, 0) ∈ NL → k86 p2 p4 Y = some (rr, XX) → W p l e rm_X6_load s m args below meth c H locs 0 0 (MQ below (gQ D cA ad NL none XX A) args s 0 0 A) (F0 m 86 ls [])) : ∀ (n : Nat) (p1 : Int32) (p2 : Int32) (p3 : Int32) (p4 : Int32) (p5 : Int32) (X : gM) (H : Heap) (locs : List Loc) (ls : Array Slot), gH D cA ad NL X H → va_S A s.heap H locs → lv_has ls 6 [(0, .ref (ad 29 0)), (1, va_rf (ro ad 7 p1)), (2, .int p2), (3, .int p3), (4, .int p4), (5, .int p5)] → (29, 0) ∈ NL → X6_load_L52 (gal NL) N k86 n p1 p2 p3 p4 p5 X = some (rr, XX) → W p l e rm_X6_load s m args below meth c H locs 0 0 (MQ below (gQ D cA ad NL none XX A) args s 0 0 A) (F0 m 52 ls []) := by
  have hx := C.1
  have hb := C.2.1
  intro n
  induction n with
  | zero =>
    intro p1 p2 p3 p4 p5 X H locs ls hP hS hl ha_l0 hf
    rw [X6_load_L52] at hf
    cases hf
  | succ n ih =>
    intro p1 p2 p3 p4 p5 X H locs ls hP hS hl ha_l0 hf
    rw [X6_load_L52] at hf
    refine lv_iload hx hb dX6_load_52 (lv_at hl 5 rfl) ?_
    refine lv_iconst (v := 3) hx hb dX6_load_54 (by decide) ?_
    refine lv_icmp_ge (tgt := 86) hx hb dX6_load_55 (by decide) (fun c1 => ?_) (fun c1 => ?_)
    · have hf := g_ip c1 hf
      exact hk86 p2 p4 X _ _ _ hP hS (lv_sub hl [0, 2, 4] rfl) ha_l0 hf
    · have hf := g_in c1 hf
      refine lv_iload_n hx hb dX6_load_58 rfl (lv_at hl 3 rfl) ?_
      refine lv_iload hx hb dX6_load_59 (lv_at hl 5 rfl) ?_
      refine lv_ishr hx hb dX6_load_61 ?_
      refine lv_iconst (v := 1) hx hb dX6_load_62 (by decide) ?_
      refine lv_iand hx hb dX6_load_63 ?_
      refine lv_iconst (v := 1) hx hb dX6_load_64 (by decide) ?_
      refine lv_icmp_ne (tgt := 80) hx hb dX6_load_65 (by decide) (fun c2 => ?_) (fun c2 => ?_)
      · have hf := g_in c2 hf
        exact s_X6_load_J80 C hW hD0 ih hk86 p1 p2 p3 p4 p5 X _ _ _ hP hS (lv_sub hl [0, 1, 2, 3, 4, 5] rfl) ha_l0 hf
      · have hf := g_ip c2 hf
        refine r_aloadn C dX6_load_68 rfl (lv_at hl 1 rfl) ?_
        refine lv_aload_n hx hb dX6_load_69 rfl (lv_at hl 0 rfl) ?_
        refine r_get C hP ha_l0 (ct_29 _ _ _ _) fx_X6_23 (fg_29_3 _ _ _) dX6_load_70 ?_
        refine lv_iload hx hb dX6_load_73 (lv_at hl 4 rfl) ?_
        refine lv_iload hx hb dX6_load_75 (lv_at hl 5 rfl) ?_
        obtain ⟨j3, h4, hf⟩ := dr_in hf
        rw [gref h4]
        obtain ⟨r5, X6, h7, hf⟩ := b2_in hf
        refine r_cVv (rest := []) C hP hS hl.1 (s_X0_addTo hW hD0 h4.2.2 (gs_29_3 hW ha_l0) h7) ix_X0_addTo iv_X0_addTo lk_X6_82 ⟨rfl, rfl, Nat.le_of_ble_eq_true rfl, Nat.le_of_ble_eq_true rfl⟩ h4.2.2 (ct_7 _ _ _ _) rfl rfl rfl rfl (Nat.le_of_ble_eq_true rfl) ⟨Nat.zero_le _, Nat.zero_le _⟩ dX6_load_77 (fun H locs hP hS => ?_)
        exact s_X6_load_J80 C hW hD0 ih hk86 p1 p2 p3 p4 p5 X6 _ _ _ hP hS (lv_sub hl [0, 1, 2, 3, 4, 5] rfl) ha_l0 hf

set_option maxRecDepth 100000 in
set_option maxHeartbeats 4000000 in
theorem s_X6_load_J42 {p : Program} {l : Launch} {e : Env} {s : State} {m : MethodId} {args : Array Value} {below : List Frame} {meth : Method} {c : Code} {D : va_G} {cA : Nat → ClassId} {ad : Nat → Nat → Nat} {NL : List (Nat × Nat)} {A : Nat → Prop} {rr : Int32} {XX : gM} {N : Nat} (C : gCx p c meth m s args cX6_load 6 none RX6 D cA ad NL A) (hW : gWf NL) (hD0 : gD (fun _ => True) ad NL) : ∀ (X : gM) (H : Heap) (locs : List Loc) (ls : Array Slot), gH D cA ad NL X H → va_S A s.heap H locs → lv_has ls 6 [] → X6_load_J42 (gal NL) N X = some (rr, XX) → W p l e rm_X6_load s m args below meth c H locs 0 0 (MQ below (gQ D cA ad NL none XX A) args s 0 0 A) (F0 m 42 ls []) := by
  have hx := C.1
  have hb := C.2.1
  intro X H locs ls hP hS hl hf
  rw [X6_load_J42] at hf
  obtain ⟨rfl, rfl⟩ := g_s1 hf
  exact r_vret C hP hS dX6_load_42

set_option maxRecDepth 100000 in
set_option maxHeartbeats 4000000 in
theorem s_X6_load_J21 {p : Program} {l : Launch} {e : Env} {s : State} {m : MethodId} {args : Array Value} {below : List Frame} {meth : Method} {c : Code} {D : va_G} {cA : Nat → ClassId} {ad : Nat → Nat → Nat} {NL : List (Nat × Nat)} {A : Nat → Prop} {rr : Int32} {XX : gM} {N : Nat} (C : gCx p c meth m s args cX6_load 6 none RX6 D cA ad NL A) (hW : gWf NL) (hD0 : gD (fun _ => True) ad NL) : ∀ (p1 : Int32) (p2 : Int32) (p3 : Int32) (s1 : Int32) (s2 : Int32) (X : gM) (H : Heap) (locs : List Loc) (ls : Array Slot), gH D cA ad NL X H → va_S A s.heap H locs → lv_has ls 6 [(0, .ref (ad 29 0)), (1, va_rf (ro ad 7 p1)), (2, .int p2), (3, .int p3)] → (29, 0) ∈ NL → (30, 0) ∈ NL → X6_load_J21 (gal NL) N p1 p2 p3 s1 s2 X = some (rr, XX) → W p l e rm_X6_load s m args below meth c H locs 0 0 (MQ below (gQ D cA ad NL none XX A) args s 0 0 A) (F0 m 21 ls [.int s2, .int s1, .ref (ad 30 0)]) := by
  have hx := C.1
  have hb := C.2.1
  intro p1 p2 p3 s1 s2 X H locs ls hP hS hl ha_l0 ha_s0 hf
  rw [X6_load_J21] at hf
  obtain ⟨j1, h2, hf⟩ := rd_in hf
  obtain ⟨h3, hf⟩ := bz_in hf
  refine r_zast C hP hS h3 ha_s0 (fun _ => ct_30 _ _ _ _) h2 dX6_load_21 (fun H locs hP hS => ?_)
  obtain ⟨X4, e5, hf⟩ := gl_in hf
  rw [← e5] at hP
  refine lv_aload_n hx hb dX6_load_22 rfl (lv_at hl 0 rfl) ?_
  refine r_get C hP ha_l0 (ct_29 _ _ _ _) fx_X6_19 (fg_29_2 _ _ _) dX6_load_23 ?_
  refine lv_iload_n hx hb dX6_load_26 rfl (lv_at hl 2 rfl) ?_
  refine lv_iconst (v := 0) hx hb dX6_load_27 (by decide) ?_
  obtain ⟨j6, h7, hf⟩ := rd_in hf
  refine r_iast C hP hS (gs_29_2 hW ha_l0) (fun _ => ct_31 _ _ _ _) h7 dX6_load_28 (fun H locs hP hS => ?_)
  obtain ⟨X8, e9, hf⟩ := gl_in hf
  rw [← e9] at hP
  refine r_aloadn C dX6_load_29 rfl (lv_at hl 1 rfl) ?_
  refine r_ifnull (tgt := 42) C dX6_load_30 (by decide) (fun c10 => ?_) (fun c10 => ?_)
  · have hf := g_ip c10 hf
    exact s_X6_load_J42 C hW hD0 X8 _ _ _ hP hS (lv_sub hl [] rfl) hf
  · have hf := g_in c10 hf
    refine lv_aload_n hx hb dX6_load_33 rfl (lv_at hl 0 rfl) ?_
    refine r_get C hP ha_l0 (ct_29 _ _ _ _) fx_X6_15 (fg_29_1 _ _ _) dX6_load_34 ?_
    refine lv_iload_n hx hb dX6_load_37 rfl (lv_at hl 2 rfl) ?_
    obtain ⟨j11, h12, hf⟩ := rd_in hf
    refine r_zald C hP (gs_29_1 hW ha_l0) (ct_30 _ _ _ _) h12 dX6_load_38 ?_
    refine lv_if_eq (tgt := 43) hx hb dX6_load_39 (by decide) (fun c13 => ?_) (fun c13 => ?_)
    · have hf := g_ip c13 hf
      refine lv_iload_n hx hb dX6_load_43 rfl (lv_at hl 2 rfl) ?_
      refine lv_bipush (v := 26) hx hb dX6_load_44 (by decide) ?_
      refine lv_imul hx hb dX6_load_46 ?_
      refine g_top hf (fun v14 e15 hf => ?_)
      refine lv_istore (i := 4) (lv' := [(4, .int v14), (0, .ref (ad 29 0)), (1, va_rf (ro ad 7 p1)), (2, .int p2), (3, .int p3)]) hx hb dX6_load_47 hl (Nat.le_of_ble_eq_true rfl) rfl (fun ls hl => ?_)
      refine lv_iconst (v := 0) hx hb dX6_load_49 (by decide) ?_
      refine lv_istore (i := 5) (lv' := [(5, .int (0 : Int32)), (4, .int v14), (0, .ref (ad 29 0)), (1, va_rf (ro ad 7 p1)), (2, .int p2), (3, .int p3)]) hx hb dX6_load_50 hl (Nat.le_of_ble_eq_true rfl) rfl (fun ls hl => ?_)
      exact s_X6_load_L52 C hW hD0 (fun p2 p4 Y H locs ls hP hS hl ha_l0 hf => s_X6_load_J86 C hW hD0 p2 p4 Y _ _ _ hP hS hl ha_l0 hf) N p1 p2 p3 v14 (0 : Int32) X8 _ _ _ hP hS (lv_sub hl [2, 3, 4, 5, 1, 0] rfl) ha_l0 hf
    · have hf := g_in c13 hf
      exact s_X6_load_J42 C hW hD0 X8 _ _ _ hP hS (lv_sub hl [] rfl) hf

set_option maxRecDepth 100000 in
set_option maxHeartbeats 4000000 in
theorem s_X6_load_J20 {p : Program} {l : Launch} {e : Env} {s : State} {m : MethodId} {args : Array Value} {below : List Frame} {meth : Method} {c : Code} {D : va_G} {cA : Nat → ClassId} {ad : Nat → Nat → Nat} {NL : List (Nat × Nat)} {A : Nat → Prop} {rr : Int32} {XX : gM} {N : Nat} (C : gCx p c meth m s args cX6_load 6 none RX6 D cA ad NL A) (hW : gWf NL) (hD0 : gD (fun _ => True) ad NL) : ∀ (p1 : Int32) (p2 : Int32) (p3 : Int32) (s1 : Int32) (X : gM) (H : Heap) (locs : List Loc) (ls : Array Slot), gH D cA ad NL X H → va_S A s.heap H locs → lv_has ls 6 [(0, .ref (ad 29 0)), (1, va_rf (ro ad 7 p1)), (2, .int p2), (3, .int p3)] → (29, 0) ∈ NL → (30, 0) ∈ NL → X6_load_J20 (gal NL) N p1 p2 p3 s1 X = some (rr, XX) → W p l e rm_X6_load s m args below meth c H locs 0 0 (MQ below (gQ D cA ad NL none XX A) args s 0 0 A) (F0 m 20 ls [.int s1, .ref (ad 30 0)]) := by
  have hx := C.1
  have hb := C.2.1
  intro p1 p2 p3 s1 X H locs ls hP hS hl ha_l0 ha_s0 hf
  rw [X6_load_J20] at hf
  refine lv_iconst (v := 0) hx hb dX6_load_20 (by decide) ?_
  exact s_X6_load_J21 C hW hD0 p1 p2 p3 s1 (0 : Int32) X _ _ _ hP hS (lv_sub hl [0, 1, 2, 3] rfl) ha_l0 ha_s0 hf

set_option maxRecDepth 100000 in
set_option maxHeartbeats 4000000 in
theorem w_X6_load {p : Program} {l : Launch} {e : Env} {s : State} {m : MethodId} {args : Array Value} {below : List Frame} {meth : Method} {c : Code} {D : va_G} {cA : Nat → ClassId} {ad : Nat → Nat → Nat} {NL : List (Nat × Nat)} {A : Nat → Prop} {rr : Int32} {XX : gM} {N : Nat} (C : gCx p c meth m s args cX6_load 6 none RX6 D cA ad NL A) (hW : gWf NL) (hD0 : gD (fun _ => True) ad NL) {p1 : Int32} {p2 : Int32} {p3 : Int32} (ha_l0 : (29, 0) ∈ NL) : ∀ (X : gM) (H : Heap) (locs : List Loc) (ls : Array Slot), gH D cA ad NL X H → va_S A s.heap H locs → lv_has ls 6 [(0, .ref (ad 29 0)), (1, va_rf (ro ad 7 p1)), (2, .int p2), (3, .int p3)] → X6_load (gal NL) N p1 p2 p3 X = some (rr, XX) → W p l e rm_X6_load s m args below meth c H locs 0 0 (MQ below (gQ D cA ad NL none XX A) args s 0 0 A) (F0 m 0 ls []) := by
  have hx := C.1
  have hb := C.2.1
  intro X H locs ls hP hS hl hf
  rw [X6_load] at hf
  refine lv_aload_n hx hb dX6_load_0 rfl (lv_at hl 0 rfl) ?_
  refine r_get C hP ha_l0 (ct_29 _ _ _ _) fx_X6_15 (fg_29_1 _ _ _) dX6_load_1 ?_
  refine lv_iload_n hx hb dX6_load_4 rfl (lv_at hl 2 rfl) ?_
  refine r_aloadn C dX6_load_5 rfl (lv_at hl 1 rfl) ?_
  refine r_ifnull (tgt := 20) C dX6_load_6 (by decide) (fun c1 => ?_) (fun c1 => ?_)
  · have hf := g_ip c1 hf
    exact s_X6_load_J20 C hW hD0 p1 p2 p3 p2 X _ _ _ hP hS (lv_sub hl [0, 1, 2, 3] rfl) ha_l0 (gs_29_1 hW ha_l0) hf
  · have hf := g_in c1 hf
    refine r_aloadn C dX6_load_9 rfl (lv_at hl 1 rfl) ?_
    obtain ⟨j2, h3, hf⟩ := dr_in hf
    rw [gref h3]
    obtain ⟨r4, X5, h6, hf⟩ := b2_in hf
    refine r_cVi (rest := [.int p2, .ref (ad 30 0)]) C hP hS hl.1 (s_X0_isBlank hW hD0 h3.2.2 h6) ix_X0_isBlank iv_X0_isBlank lk_X6_77 ⟨rfl, rfl, Nat.le_of_ble_eq_true rfl, Nat.le_of_ble_eq_true rfl⟩ h3.2.2 (ct_7 _ _ _ _) rfl rfl rfl rfl (Nat.le_of_ble_eq_true rfl) ⟨Nat.zero_le _, Nat.zero_le _⟩ dX6_load_10 (fun H locs hP hS => ?_)
    refine lv_if_eq (tgt := 20) hx hb dX6_load_13 (by decide) (fun c7 => ?_) (fun c7 => ?_)
    · have hf := g_ip c7 hf
      exact s_X6_load_J20 C hW hD0 p1 p2 p3 p2 X5 _ _ _ hP hS (lv_sub hl [0, 1, 2, 3] rfl) ha_l0 (gs_29_1 hW ha_l0) hf
    · have hf := g_in c7 hf
      refine lv_iconst (v := 1) hx hb dX6_load_16 (by decide) ?_
      refine lv_goto (tgt := 21) hx hb dX6_load_17 (by decide) ?_
      exact s_X6_load_J21 C hW hD0 p1 p2 p3 p2 (1 : Int32) X5 _ _ _ hP hS (lv_sub hl [0, 1, 2, 3] rfl) ha_l0 (gs_29_1 hW ha_l0) hf

theorem s_X6_load {l : Launch} {D : va_G} {cA : Nat → ClassId} {ad : Nat → Nat → Nat} {NL : List (Nat × Nat)} {N : Nat} {p1 : Int32} {p2 : Int32} {p3 : Int32} {X : gM} {rr : Int32} {XX : gM} (hW : gWf NL) (hD0 : gD (fun _ => True) ad NL) (ha_l0 : (29, 0) ∈ NL) (hf : X6_load (gal NL) N p1 p2 p3 X = some (rr, XX)) : gC l yX6_load cX6_load 6 none rm_X6_load D cA ad NL [.ref (ad 29 0), va_rf (ro ad 7 p1), .int p2, .int p3] X none XX :=
  g_ofW (by decide) hD0 (by simp [lg_sl, g_cat, g_catr, g_cati]) (by simp [lv_args, g_cat, g_catr, g_cati]) (fun p e s m below meth c ls C hP hS hl => w_X6_load C hW hD0 ha_l0 X _ _ ls hP hS hl hf)
def rm_X6_fitOf : Room := { frames := 0, cells := 0, slots := 0, locals := 0 }
set_option maxRecDepth 100000 in
set_option maxHeartbeats 4000000 in
theorem s_X6_fitOf_J99 {p : Program} {l : Launch} {e : Env} {s : State} {m : MethodId} {args : Array Value} {below : List Frame} {meth : Method} {c : Code} {D : va_G} {cA : Nat → ClassId} {ad : Nat → Nat → Nat} {NL : List (Nat × Nat)} {A : Nat → Prop} {rr : Int32} {XX : gM} {N : Nat} (C : gCx p c meth m s args cX6_fitOf 7 (some .int) RX6 D cA ad NL A) (hW : gWf NL) (hD0 : gD (fun _ => True) ad NL) : ∀ (p3 : Int32) (X : gM) (H : Heap) (locs : List Loc) (ls : Array Slot), gH D cA ad NL X H → va_S A s.heap H locs → lv_has ls 7 [(3, .int p3)] → X6_fitOf_J99 (gal NL) N p3 X = some (rr, XX) → W p l e rm_X6_fitOf s m args below meth c H locs 0 0 (MQ below (gQ D cA ad NL (some (.int rr)) XX A) args s 0 0 A) (F0 m 99 ls []) := by
  have hx := C.1
  have hb := C.2.1
  intro p3 X H locs ls hP hS hl hf
  rw [X6_fitOf_J99] at hf
  refine lv_iload_n hx hb dX6_fitOf_99 rfl (lv_at hl 0 rfl) ?_
  obtain ⟨rfl, rfl⟩ := g_s1 hf
  exact r_iret C hP hS dX6_fitOf_100

set_option maxRecDepth 100000 in
set_option maxHeartbeats 4000000 in
theorem s_X6_fitOf_J88 {p : Program} {l : Launch} {e : Env} {s : State} {m : MethodId} {args : Array Value} {below : List Frame} {meth : Method} {c : Code} {D : va_G} {cA : Nat → ClassId} {ad : Nat → Nat → Nat} {NL : List (Nat × Nat)} {A : Nat → Prop} {rr : Int32} {XX : gM} {N : Nat} {kk : Int32 → Int32 → Int32 → Int32 → gM → Option (Int32 × gM)} {k49 : gM → Option (Int32 × gM)} {k86 : gM → Option (Int32 × gM)} {k99 : Int32 → gM → Option (Int32 × gM)} (C : gCx p c meth m s args cX6_fitOf 7 (some .int) RX6 D cA ad NL A) (hW : gWf NL) (hD0 : gD (fun _ => True) ad NL) (hkk : ∀ (p1 : Int32) (p2 : Int32) (p3 : Int32) (p4 : Int32) (Y : gM) (H : Heap) (locs : List Loc) (ls : Array Slot), gH D cA ad NL Y H → va_S A s.heap H locs → lv_has ls 7 [(0, .ref (ad 29 0)), (1, va_rf (ro ad 26 p1)), (2, .int p2), (3, .int p3), (4, .int p4)] → (29, 0) ∈ NL → kk p1 p2 p3 p4 Y = some (rr, XX) → W p l e rm_X6_fitOf s m args below meth c H locs 0 0 (MQ below (gQ D cA ad NL (some (.int rr)) XX A) args s 0 0 A) (F0 m 24 ls [])) (hk49 : ∀ (Y : gM) (H : Heap) (locs : List Loc) (ls : Array Slot), gH D cA ad NL Y H → va_S A s.heap H locs → lv_has ls 7 [] → k49 Y = some (rr, XX) → W p l e rm_X6_fitOf s m args below meth c H locs 0 0 (MQ below (gQ D cA ad NL (some (.int rr)) XX A) args s 0 0 A) (F0 m 49 ls [])) (hk86 : ∀ (Y : gM) (H : Heap) (locs : List Loc) (ls : Array Slot), gH D cA ad NL Y H → va_S A s.heap H locs → lv_has ls 7 [] → k86 Y = some (rr, XX) → W p l e rm_X6_fitOf s m args below meth c H locs 0 0 (MQ below (gQ D cA ad NL (some (.int rr)) XX A) args s 0 0 A) (F0 m 86 ls [])) (hk99 : ∀ (p3 : Int32) (Y : gM) (H : Heap) (locs : List Loc) (ls : Array Slot), gH D cA ad NL Y H → va_S A s.heap H locs → lv_has ls 7 [(3, .int p3)] → k99 p3 Y = some (rr, XX) → W p l e rm_X6_fitOf s m args below meth c H locs 0 0 (MQ below (gQ D cA ad NL (some (.int rr)) XX A) args s 0 0 A) (F0 m 99 ls [])) : ∀ (p1 : Int32) (p2 : Int32) (p3 : Int32) (p4 : Int32) (p6 : Int32) (X : gM) (H : Heap) (locs : List Loc) (ls : Array Slot), gH D cA ad NL X H → va_S A s.heap H locs → lv_has ls 7 [(0, .ref (ad 29 0)), (1, va_rf (ro ad 26 p1)), (2, .int p2), (3, .int p3), (4, .int p4), (6, .int p6)] → (29, 0) ∈ NL → X6_fitOf_J88 (gal NL) N kk k49 k86 k99 p1 p2 p3 p4 p6 X = some (rr, XX) → W p l e rm_X6_fitOf s m args below meth c H locs 0 0 (MQ below (gQ D cA ad NL (some (.int rr)) XX A) args s 0 0 A) (F0 m 88 ls []) := by
  have hx := C.1
  have hb := C.2.1
  intro p1 p2 p3 p4 p6 X H locs ls hP hS hl ha_l0 hf
  rw [X6_fitOf_J88] at hf
  refine lv_iload_n hx hb dX6_fitOf_88 rfl (lv_at hl 3 rfl) ?_
  refine lv_iload hx hb dX6_fitOf_89 (lv_at hl 5 rfl) ?_
  refine lv_iadd hx hb dX6_fitOf_91 ?_
  refine g_top hf (fun v1 e2 hf => ?_)
  refine lv_istore_n (i := 3) (lv' := [(3, .int v1), (0, .ref (ad 29 0)), (1, va_rf (ro ad 26 p1)), (2, .int p2), (4, .int p4), (6, .int p6)]) hx hb dX6_fitOf_92 rfl hl (Nat.le_of_ble_eq_true rfl) rfl (fun ls hl => ?_)
  obtain ⟨v3, e4, hf⟩ := gl_in hf
  refine lv_iinc (v := v3) (lv' := [(4, .int v3), (3, .int v1), (0, .ref (ad 29 0)), (1, va_rf (ro ad 26 p1)), (2, .int p2), (6, .int p6)]) hx hb dX6_fitOf_93 hl (k := 4) rfl (by rw [e4]; rfl) (Nat.le_of_ble_eq_true rfl) rfl (fun ls hl => ?_)
  refine lv_goto (tgt := 24) hx hb dX6_fitOf_96 (by decide) ?_
  exact hkk p1 p2 v1 v3 X _ _ _ hP hS (lv_sub hl [2, 3, 4, 1, 0] rfl) ha_l0 hf

set_option maxRecDepth 100000 in
set_option maxHeartbeats 4000000 in
theorem s_X6_fitOf_J86 {p : Program} {l : Launch} {e : Env} {s : State} {m : MethodId} {args : Array Value} {below : List Frame} {meth : Method} {c : Code} {D : va_G} {cA : Nat → ClassId} {ad : Nat → Nat → Nat} {NL : List (Nat × Nat)} {A : Nat → Prop} {rr : Int32} {XX : gM} {N : Nat} (C : gCx p c meth m s args cX6_fitOf 7 (some .int) RX6 D cA ad NL A) (hW : gWf NL) (hD0 : gD (fun _ => True) ad NL) : ∀ (X : gM) (H : Heap) (locs : List Loc) (ls : Array Slot), gH D cA ad NL X H → va_S A s.heap H locs → lv_has ls 7 [] → X6_fitOf_J86 (gal NL) N X = some (rr, XX) → W p l e rm_X6_fitOf s m args below meth c H locs 0 0 (MQ below (gQ D cA ad NL (some (.int rr)) XX A) args s 0 0 A) (F0 m 86 ls []) := by
  have hx := C.1
  have hb := C.2.1
  intro X H locs ls hP hS hl hf
  rw [X6_fitOf_J86] at hf
  refine lv_iconst (v := -1) hx hb dX6_fitOf_86 (by decide) ?_
  obtain ⟨rfl, rfl⟩ := g_s1 hf
  exact r_iret C hP hS dX6_fitOf_87

set_option maxRecDepth 100000 in
set_option maxHeartbeats 4000000 in
theorem s_X6_fitOf_J49 {p : Program} {l : Launch} {e : Env} {s : State} {m : MethodId} {args : Array Value} {below : List Frame} {meth : Method} {c : Code} {D : va_G} {cA : Nat → ClassId} {ad : Nat → Nat → Nat} {NL : List (Nat × Nat)} {A : Nat → Prop} {rr : Int32} {XX : gM} {N : Nat} (C : gCx p c meth m s args cX6_fitOf 7 (some .int) RX6 D cA ad NL A) (hW : gWf NL) (hD0 : gD (fun _ => True) ad NL) : ∀ (X : gM) (H : Heap) (locs : List Loc) (ls : Array Slot), gH D cA ad NL X H → va_S A s.heap H locs → lv_has ls 7 [] → X6_fitOf_J49 (gal NL) N X = some (rr, XX) → W p l e rm_X6_fitOf s m args below meth c H locs 0 0 (MQ below (gQ D cA ad NL (some (.int rr)) XX A) args s 0 0 A) (F0 m 49 ls []) := by
  have hx := C.1
  have hb := C.2.1
  intro X H locs ls hP hS hl hf
  rw [X6_fitOf_J49] at hf
  refine lv_iconst (v := -1) hx hb dX6_fitOf_49 (by decide) ?_
  obtain ⟨rfl, rfl⟩ := g_s1 hf
  exact r_iret C hP hS dX6_fitOf_50

set_option maxRecDepth 100000 in
set_option maxHeartbeats 4000000 in
theorem s_X6_fitOf_L24 {p : Program} {l : Launch} {e : Env} {s : State} {m : MethodId} {args : Array Value} {below : List Frame} {meth : Method} {c : Code} {D : va_G} {cA : Nat → ClassId} {ad : Nat → Nat → Nat} {NL : List (Nat × Nat)} {A : Nat → Prop} {rr : Int32} {XX : gM} {N : Nat} {k49 : gM → Option (Int32 × gM)} {k86 : gM → Option (Int32 × gM)} {k99 : Int32 → gM → Option (Int32 × gM)} (C : gCx p c meth m s args cX6_fitOf 7 (some .int) RX6 D cA ad NL A) (hW : gWf NL) (hD0 : gD (fun _ => True) ad NL) (hk49 : ∀ (Y : gM) (H : Heap) (locs : List Loc) (ls : Array Slot), gH D cA ad NL Y H → va_S A s.heap H locs → lv_has ls 7 [] → k49 Y = some (rr, XX) → W p l e rm_X6_fitOf s m args below meth c H locs 0 0 (MQ below (gQ D cA ad NL (some (.int rr)) XX A) args s 0 0 A) (F0 m 49 ls [])) (hk86 : ∀ (Y : gM) (H : Heap) (locs : List Loc) (ls : Array Slot), gH D cA ad NL Y H → va_S A s.heap H locs → lv_has ls 7 [] → k86 Y = some (rr, XX) → W p l e rm_X6_fitOf s m args below meth c H locs 0 0 (MQ below (gQ D cA ad NL (some (.int rr)) XX A) args s 0 0 A) (F0 m 86 ls [])) (hk99 : ∀ (p3 : Int32) (Y : gM) (H : Heap) (locs : List Loc) (ls : Array Slot), gH D cA ad NL Y H → va_S A s.heap H locs → lv_has ls 7 [(3, .int p3)] → k99 p3 Y = some (rr, XX) → W p l e rm_X6_fitOf s m args below meth c H locs 0 0 (MQ below (gQ D cA ad NL (some (.int rr)) XX A) args s 0 0 A) (F0 m 99 ls [])) : ∀ (n : Nat) (p1 : Int32) (p2 : Int32) (p3 : Int32) (p4 : Int32) (X : gM) (H : Heap) (locs : List Loc) (ls : Array Slot), gH D cA ad NL X H → va_S A s.heap H locs → lv_has ls 7 [(0, .ref (ad 29 0)), (1, va_rf (ro ad 26 p1)), (2, .int p2), (3, .int p3), (4, .int p4)] → (29, 0) ∈ NL → X6_fitOf_L24 (gal NL) N k49 k86 k99 n p1 p2 p3 p4 X = some (rr, XX) → W p l e rm_X6_fitOf s m args below meth c H locs 0 0 (MQ below (gQ D cA ad NL (some (.int rr)) XX A) args s 0 0 A) (F0 m 24 ls []) := by
  have hx := C.1
  have hb := C.2.1
  intro n
  induction n with
  | zero =>
    intro p1 p2 p3 p4 X H locs ls hP hS hl ha_l0 hf
    rw [X6_fitOf_L24] at hf
    cases hf
  | succ n ih =>
    intro p1 p2 p3 p4 X H locs ls hP hS hl ha_l0 hf
    rw [X6_fitOf_L24] at hf
    refine lv_iload hx hb dX6_fitOf_24 (lv_at hl 4 rfl) ?_
    refine r_aloadn C dX6_fitOf_26 rfl (lv_at hl 1 rfl) ?_
    obtain ⟨j1, h2, hf⟩ := dr_in hf
    rw [gref h2]
    refine r_get C hP h2.2.2 (ct_26 _ _ _ _) fx_X6_86 (fg_26_1 _ _ _) dX6_fitOf_27 ?_
    refine lv_icmp_ge (tgt := 99) hx hb dX6_fitOf_30 (by decide) (fun c3 => ?_) (fun c3 => ?_)
    · have hf := g_ip c3 hf
      exact hk99 p3 X _ _ _ hP hS (lv_sub hl [3] rfl) hf
    · have hf := g_in c3 hf
      refine lv_iload_n hx hb dX6_fitOf_33 rfl (lv_at hl 2 rfl) ?_
      refine lv_iload hx hb dX6_fitOf_34 (lv_at hl 4 rfl) ?_
      refine lv_iadd hx hb dX6_fitOf_36 ?_
      refine g_top hf (fun v4 e5 hf => ?_)
      refine lv_istore (i := 5) (lv' := [(5, .int v4), (0, .ref (ad 29 0)), (1, va_rf (ro ad 26 p1)), (2, .int p2), (3, .int p3), (4, .int p4)]) hx hb dX6_fitOf_37 hl (Nat.le_of_ble_eq_true rfl) rfl (fun ls hl => ?_)
      refine lv_aload_n hx hb dX6_fitOf_39 rfl (lv_at hl 1 rfl) ?_
      refine r_get C hP ha_l0 (ct_29 _ _ _ _) fx_X6_15 (fg_29_1 _ _ _) dX6_fitOf_40 ?_
      refine lv_iload hx hb dX6_fitOf_43 (lv_at hl 0 rfl) ?_
      obtain ⟨j6, h7, hf⟩ := rd_in hf
      refine r_zald C hP (gs_29_1 hW ha_l0) (ct_30 _ _ _ _) h7 dX6_fitOf_45 ?_
      refine lv_if_eq (tgt := 51) hx hb dX6_fitOf_46 (by decide) (fun c8 => ?_) (fun c8 => ?_)
      · have hf := g_ip c8 hf
        refine lv_aload_n hx hb dX6_fitOf_51 rfl (lv_at hl 1 rfl) ?_
        refine r_get C hP ha_l0 (ct_29 _ _ _ _) fx_X6_23 (fg_29_3 _ _ _) dX6_fitOf_52 ?_
        refine lv_iload hx hb dX6_fitOf_55 (lv_at hl 0 rfl) ?_
        refine lv_bipush (v := 26) hx hb dX6_fitOf_57 (by decide) ?_
        refine lv_imul hx hb dX6_fitOf_59 ?_
        refine r_aloadn C dX6_fitOf_60 rfl (lv_at hl 2 rfl) ?_
        rw [gref h2]
        refine r_get C hP h2.2.2 (ct_26 _ _ _ _) fx_X6_91 (fg_26_0 _ _ _) dX6_fitOf_61 ?_
        refine lv_iload hx hb dX6_fitOf_64 (lv_at hl 5 rfl) ?_
        obtain ⟨j9, h10, hf⟩ := rd_in hf
        refine r_iald C hP (gs_26_0 hW h2.2.2) (ct_27 _ _ _ _) h10 dX6_fitOf_66 ?_
        refine lv_iadd hx hb dX6_fitOf_67 ?_
        obtain ⟨j11, h12, hf⟩ := rd_in hf
        refine r_iald C hP (gs_29_3 hW ha_l0) (ct_32 _ _ _ _) h12 dX6_fitOf_68 ?_
        refine g_top hf (fun v13 e14 hf => ?_)
        refine lv_istore (i := 6) (lv' := [(6, .int v13), (5, .int v4), (0, .ref (ad 29 0)), (1, va_rf (ro ad 26 p1)), (2, .int p2), (3, .int p3), (4, .int p4)]) hx hb dX6_fitOf_69 hl (Nat.le_of_ble_eq_true rfl) rfl (fun ls hl => ?_)
        refine lv_iload hx hb dX6_fitOf_71 (lv_at hl 0 rfl) ?_
        refine lv_if_ne (tgt := 88) hx hb dX6_fitOf_73 (by decide) (fun c15 => ?_) (fun c15 => ?_)
        · have hf := g_in c15 hf
          exact s_X6_fitOf_J88 C hW hD0 ih hk49 hk86 hk99 p1 p2 p3 p4 v13 X _ _ _ hP hS (lv_sub hl [2, 3, 4, 5, 6, 0] rfl) ha_l0 hf
        · have hf := g_ip c15 hf
          refine lv_aload_n hx hb dX6_fitOf_76 rfl (lv_at hl 2 rfl) ?_
          refine r_get C hP ha_l0 (ct_29 _ _ _ _) fx_X6_19 (fg_29_2 _ _ _) dX6_fitOf_77 ?_
          refine lv_iload hx hb dX6_fitOf_80 (lv_at hl 1 rfl) ?_
          obtain ⟨j16, h17, hf⟩ := rd_in hf
          refine r_iald C hP (gs_29_2 hW ha_l0) (ct_31 _ _ _ _) h17 dX6_fitOf_82 ?_
          refine lv_if_le (tgt := 88) hx hb dX6_fitOf_83 (by decide) (fun c18 => ?_) (fun c18 => ?_)
          · have hf := g_ip c18 hf
            exact s_X6_fitOf_J88 C hW hD0 ih hk49 hk86 hk99 p1 p2 p3 p4 v13 X _ _ _ hP hS (lv_sub hl [2, 3, 4, 5, 6, 0] rfl) ha_l0 hf
          · have hf := g_in c18 hf
            exact hk86 X _ _ _ hP hS (lv_sub hl [] rfl) hf
      · have hf := g_in c8 hf
        exact hk49 X _ _ _ hP hS (lv_sub hl [] rfl) hf

set_option maxRecDepth 100000 in
set_option maxHeartbeats 4000000 in
theorem s_X6_fitOf_J17 {p : Program} {l : Launch} {e : Env} {s : State} {m : MethodId} {args : Array Value} {below : List Frame} {meth : Method} {c : Code} {D : va_G} {cA : Nat → ClassId} {ad : Nat → Nat → Nat} {NL : List (Nat × Nat)} {A : Nat → Prop} {rr : Int32} {XX : gM} {N : Nat} (C : gCx p c meth m s args cX6_fitOf 7 (some .int) RX6 D cA ad NL A) (hW : gWf NL) (hD0 : gD (fun _ => True) ad NL) : ∀ (X : gM) (H : Heap) (locs : List Loc) (ls : Array Slot), gH D cA ad NL X H → va_S A s.heap H locs → lv_has ls 7 [] → X6_fitOf_J17 (gal NL) N X = some (rr, XX) → W p l e rm_X6_fitOf s m args below meth c H locs 0 0 (MQ below (gQ D cA ad NL (some (.int rr)) XX A) args s 0 0 A) (F0 m 17 ls []) := by
  have hx := C.1
  have hb := C.2.1
  intro X H locs ls hP hS hl hf
  rw [X6_fitOf_J17] at hf
  refine lv_iconst (v := -1) hx hb dX6_fitOf_17 (by decide) ?_
  obtain ⟨rfl, rfl⟩ := g_s1 hf
  exact r_iret C hP hS dX6_fitOf_18

set_option maxRecDepth 100000 in
set_option maxHeartbeats 4000000 in
theorem w_X6_fitOf {p : Program} {l : Launch} {e : Env} {s : State} {m : MethodId} {args : Array Value} {below : List Frame} {meth : Method} {c : Code} {D : va_G} {cA : Nat → ClassId} {ad : Nat → Nat → Nat} {NL : List (Nat × Nat)} {A : Nat → Prop} {rr : Int32} {XX : gM} {N : Nat} (C : gCx p c meth m s args cX6_fitOf 7 (some .int) RX6 D cA ad NL A) (hW : gWf NL) (hD0 : gD (fun _ => True) ad NL) {p1 : Int32} {p2 : Int32} (ha_l0 : (29, 0) ∈ NL) : ∀ (X : gM) (H : Heap) (locs : List Loc) (ls : Array Slot), gH D cA ad NL X H → va_S A s.heap H locs → lv_has ls 7 [(0, .ref (ad 29 0)), (1, va_rf (ro ad 26 p1)), (2, .int p2)] → X6_fitOf (gal NL) N p1 p2 X = some (rr, XX) → W p l e rm_X6_fitOf s m args below meth c H locs 0 0 (MQ below (gQ D cA ad NL (some (.int rr)) XX A) args s 0 0 A) (F0 m 0 ls []) := by
  have hx := C.1
  have hb := C.2.1
  intro X H locs ls hP hS hl hf
  rw [X6_fitOf] at hf
  refine r_aloadn C dX6_fitOf_0 rfl (lv_at hl 1 rfl) ?_
  refine r_ifnull (tgt := 17) C dX6_fitOf_1 (by decide) (fun c1 => ?_) (fun c1 => ?_)
  · have hf := g_ip c1 hf
    exact s_X6_fitOf_J17 C hW hD0 X _ _ _ hP hS (lv_sub hl [] rfl) hf
  · have hf := g_in c1 hf
    refine lv_iload_n hx hb dX6_fitOf_4 rfl (lv_at hl 2 rfl) ?_
    refine r_aloadn C dX6_fitOf_5 rfl (lv_at hl 1 rfl) ?_
    obtain ⟨j2, h3, hf⟩ := dr_in hf
    rw [gref h3]
    refine r_get C hP h3.2.2 (ct_26 _ _ _ _) fx_X6_86 (fg_26_1 _ _ _) dX6_fitOf_6 ?_
    refine lv_iadd hx hb dX6_fitOf_9 ?_
    refine lv_aload_n hx hb dX6_fitOf_10 rfl (lv_at hl 0 rfl) ?_
    refine r_get C hP ha_l0 (ct_29 _ _ _ _) fx_X6_9 (fg_29_0 _ _ _) dX6_fitOf_11 ?_
    refine lv_icmp_le (tgt := 19) hx hb dX6_fitOf_14 (by decide) (fun c4 => ?_) (fun c4 => ?_)
    · have hf := g_ip c4 hf
      refine lv_iconst (v := 0) hx hb dX6_fitOf_19 (by decide) ?_
      refine lv_istore_n (i := 3) (lv' := [(3, .int (0 : Int32)), (0, .ref (ad 29 0)), (1, va_rf (ro ad 26 p1)), (2, .int p2)]) hx hb dX6_fitOf_20 rfl hl (Nat.le_of_ble_eq_true rfl) rfl (fun ls hl => ?_)
      refine lv_iconst (v := 0) hx hb dX6_fitOf_21 (by decide) ?_
      refine lv_istore (i := 4) (lv' := [(4, .int (0 : Int32)), (3, .int (0 : Int32)), (0, .ref (ad 29 0)), (1, va_rf (ro ad 26 p1)), (2, .int p2)]) hx hb dX6_fitOf_22 hl (Nat.le_of_ble_eq_true rfl) rfl (fun ls hl => ?_)
      exact s_X6_fitOf_L24 C hW hD0 (fun Y H locs ls hP hS hl hf => s_X6_fitOf_J49 C hW hD0 Y _ _ _ hP hS hl hf) (fun Y H locs ls hP hS hl hf => s_X6_fitOf_J86 C hW hD0 Y _ _ _ hP hS hl hf) (fun p3 Y H locs ls hP hS hl hf => s_X6_fitOf_J99 C hW hD0 p3 Y _ _ _ hP hS hl hf) N p1 p2 (0 : Int32) (0 : Int32) X _ _ _ hP hS (lv_sub hl [2, 3, 4, 1, 0] rfl) ha_l0 hf
    · have hf := g_in c4 hf
      exact s_X6_fitOf_J17 C hW hD0 X _ _ _ hP hS (lv_sub hl [] rfl) hf

theorem s_X6_fitOf {l : Launch} {D : va_G} {cA : Nat → ClassId} {ad : Nat → Nat → Nat} {NL : List (Nat × Nat)} {N : Nat} {p1 : Int32} {p2 : Int32} {X : gM} {rr : Int32} {XX : gM} (hW : gWf NL) (hD0 : gD (fun _ => True) ad NL) (ha_l0 : (29, 0) ∈ NL) (hf : X6_fitOf (gal NL) N p1 p2 X = some (rr, XX)) : gC l yX6_fitOf cX6_fitOf 7 (some .int) rm_X6_fitOf D cA ad NL [.ref (ad 29 0), va_rf (ro ad 26 p1), .int p2] X (some (.int rr)) XX :=
  g_ofW (by decide) hD0 (by simp [lg_sl, g_cat, g_catr, g_cati]) (by simp [lv_args, g_cat, g_catr, g_cati]) (fun p e s m below meth c ls C hP hS hl => w_X6_fitOf C hW hD0 ha_l0 X _ _ ls hP hS hl hf)
def rm_X6_makeFirst : Room := { frames := 0, cells := 0, slots := 0, locals := 0 }
set_option maxRecDepth 100000 in
set_option maxHeartbeats 4000000 in
theorem s_X6_makeFirst_J54 {p : Program} {l : Launch} {e : Env} {s : State} {m : MethodId} {args : Array Value} {below : List Frame} {meth : Method} {c : Code} {D : va_G} {cA : Nat → ClassId} {ad : Nat → Nat → Nat} {NL : List (Nat × Nat)} {A : Nat → Prop} {rr : Int32} {XX : gM} {N : Nat} (C : gCx p c meth m s args cX6_makeFirst 5 none RX6 D cA ad NL A) (hW : gWf NL) (hD0 : gD (fun _ => True) ad NL) : ∀ (X : gM) (H : Heap) (locs : List Loc) (ls : Array Slot), gH D cA ad NL X H → va_S A s.heap H locs → lv_has ls 5 [] → X6_makeFirst_J54 (gal NL) N X = some (rr, XX) → W p l e rm_X6_makeFirst s m args below meth c H locs 0 0 (MQ below (gQ D cA ad NL none XX A) args s 0 0 A) (F0 m 54 ls []) := by
  have hx := C.1
  have hb := C.2.1
  intro X H locs ls hP hS hl hf
  rw [X6_makeFirst_J54] at hf
  obtain ⟨rfl, rfl⟩ := g_s1 hf
  exact r_vret C hP hS dX6_makeFirst_54

set_option maxRecDepth 100000 in
set_option maxHeartbeats 4000000 in
theorem s_X6_makeFirst_J47 {p : Program} {l : Launch} {e : Env} {s : State} {m : MethodId} {args : Array Value} {below : List Frame} {meth : Method} {c : Code} {D : va_G} {cA : Nat → ClassId} {ad : Nat → Nat → Nat} {NL : List (Nat × Nat)} {A : Nat → Prop} {rr : Int32} {XX : gM} {N : Nat} {kk : Nat → Int32 → Int32 → Int32 → gM → Option (Int32 × gM)} {k54 : gM → Option (Int32 × gM)} (C : gCx p c meth m s args cX6_makeFirst 5 none RX6 D cA ad NL A) (hW : gWf NL) (hD0 : gD (fun _ => True) ad NL) (hkk : ∀ (p1 : Nat) (p2 : Int32) (p3 : Int32) (p4 : Int32) (Y : gM) (H : Heap) (locs : List Loc) (ls : Array Slot), gH D cA ad NL Y H → va_S A s.heap H locs → lv_has ls 5 [(0, .ref (ad 29 0)), (1, .ref (ad 26 p1)), (2, .int p2), (3, .int p3), (4, .int p4)] → (29, 0) ∈ NL → (26, p1) ∈ NL → kk p1 p2 p3 p4 Y = some (rr, XX) → W p l e rm_X6_makeFirst s m args below meth c H locs 0 0 (MQ below (gQ D cA ad NL none XX A) args s 0 0 A) (F0 m 3 ls [])) (hk54 : ∀ (Y : gM) (H : Heap) (locs : List Loc) (ls : Array Slot), gH D cA ad NL Y H → va_S A s.heap H locs → lv_has ls 5 [] → k54 Y = some (rr, XX) → W p l e rm_X6_makeFirst s m args below meth c H locs 0 0 (MQ below (gQ D cA ad NL none XX A) args s 0 0 A) (F0 m 54 ls [])) : ∀ (p1 : Nat) (p2 : Int32) (p3 : Int32) (p4 : Int32) (s0 : Nat) (s1 : Int32) (s2 : Int32) (X : gM) (H : Heap) (locs : List Loc) (ls : Array Slot), gH D cA ad NL X H → va_S A s.heap H locs → lv_has ls 5 [(0, .ref (ad 29 0)), (1, .ref (ad 26 p1)), (2, .int p2), (3, .int p3), (4, .int p4)] → (29, 0) ∈ NL → (26, p1) ∈ NL → (38, s0) ∈ NL → X6_makeFirst_J47 (gal NL) N kk k54 p1 p2 p3 p4 s0 s1 s2 X = some (rr, XX) → W p l e rm_X6_makeFirst s m args below meth c H locs 0 0 (MQ below (gQ D cA ad NL none XX A) args s 0 0 A) (F0 m 47 ls [.int s2, .int s1, .ref (ad 38 s0)]) := by
  have hx := C.1
  have hb := C.2.1
  intro p1 p2 p3 p4 s0 s1 s2 X H locs ls hP hS hl ha_l0 ha_l1 ha_s0 hf
  rw [X6_makeFirst_J47] at hf
  obtain ⟨j1, h2, hf⟩ := rd_in hf
  refine r_iast C hP hS ha_s0 (fun _ => ct_38 _ _ _ _) h2 dX6_makeFirst_47 (fun H locs hP hS => ?_)
  obtain ⟨X3, e4, hf⟩ := gl_in hf
  rw [← e4] at hP
  obtain ⟨v5, e6, hf⟩ := gl_in hf
  refine lv_iinc (v := v5) (lv' := [(4, .int v5), (0, .ref (ad 29 0)), (1, .ref (ad 26 p1)), (2, .int p2), (3, .int p3)]) hx hb dX6_makeFirst_48 hl (k := 4) rfl (by rw [e6]; rfl) (Nat.le_of_ble_eq_true rfl) rfl (fun ls hl => ?_)
  refine lv_goto (tgt := 3) hx hb dX6_makeFirst_51 (by decide) ?_
  exact hkk p1 p2 p3 v5 X3 _ _ _ hP hS (lv_sub hl [1, 2, 3, 4, 0] rfl) ha_l0 ha_l1 hf

set_option maxRecDepth 100000 in
set_option maxHeartbeats 4000000 in
theorem s_X6_makeFirst_L3 {p : Program} {l : Launch} {e : Env} {s : State} {m : MethodId} {args : Array Value} {below : List Frame} {meth : Method} {c : Code} {D : va_G} {cA : Nat → ClassId} {ad : Nat → Nat → Nat} {NL : List (Nat × Nat)} {A : Nat → Prop} {rr : Int32} {XX : gM} {N : Nat} {k54 : gM → Option (Int32 × gM)} (C : gCx p c meth m s args cX6_makeFirst 5 none RX6 D cA ad NL A) (hW : gWf NL) (hD0 : gD (fun _ => True) ad NL) (hk54 : ∀ (Y : gM) (H : Heap) (locs : List Loc) (ls : Array Slot), gH D cA ad NL Y H → va_S A s.heap H locs → lv_has ls 5 [] → k54 Y = some (rr, XX) → W p l e rm_X6_makeFirst s m args below meth c H locs 0 0 (MQ below (gQ D cA ad NL none XX A) args s 0 0 A) (F0 m 54 ls [])) : ∀ (n : Nat) (p1 : Nat) (p2 : Int32) (p3 : Int32) (p4 : Int32) (X : gM) (H : Heap) (locs : List Loc) (ls : Array Slot), gH D cA ad NL X H → va_S A s.heap H locs → lv_has ls 5 [(0, .ref (ad 29 0)), (1, .ref (ad 26 p1)), (2, .int p2), (3, .int p3), (4, .int p4)] → (29, 0) ∈ NL → (26, p1) ∈ NL → X6_makeFirst_L3 (gal NL) N k54 n p1 p2 p3 p4 X = some (rr, XX) → W p l e rm_X6_makeFirst s m args below meth c H locs 0 0 (MQ below (gQ D cA ad NL none XX A) args s 0 0 A) (F0 m 3 ls []) := by
  have hx := C.1
  have hb := C.2.1
  intro n
  induction n with
  | zero =>
    intro p1 p2 p3 p4 X H locs ls hP hS hl ha_l0 ha_l1 hf
    rw [X6_makeFirst_L3] at hf
    cases hf
  | succ n ih =>
    intro p1 p2 p3 p4 X H locs ls hP hS hl ha_l0 ha_l1 hf
    rw [X6_makeFirst_L3] at hf
    refine lv_iload hx hb dX6_makeFirst_3 (lv_at hl 4 rfl) ?_
    refine lv_aload_n hx hb dX6_makeFirst_5 rfl (lv_at hl 0 rfl) ?_
    refine r_get C hP ha_l0 (ct_29 _ _ _ _) fx_X6_9 (fg_29_0 _ _ _) dX6_makeFirst_6 ?_
    refine lv_icmp_ge (tgt := 54) hx hb dX6_makeFirst_9 (by decide) (fun c1 => ?_) (fun c1 => ?_)
    · have hf := g_ip c1 hf
      exact hk54 X _ _ _ hP hS (lv_sub hl [] rfl) hf
    · have hf := g_in c1 hf
      refine lv_aload_n hx hb dX6_makeFirst_12 rfl (lv_at hl 0 rfl) ?_
      refine r_get C hP ha_l0 (ct_29 _ _ _ _) fx_X6_40 (fg_29_8 _ _ _) dX6_makeFirst_13 ?_
      refine lv_iload_n hx hb dX6_makeFirst_16 rfl (lv_at hl 2 rfl) ?_
      obtain ⟨j2, h3, hf⟩ := rd_in hf
      refine r_aldA C hP (gs_29_8 hW ha_l0) (ct_37 _ _ _ _) h3 dX6_makeFirst_17 ?_
      rw [gsome]
      refine lv_iload hx hb dX6_makeFirst_18 (lv_at hl 4 rfl) ?_
      refine lv_iload hx hb dX6_makeFirst_20 (lv_at hl 4 rfl) ?_
      refine lv_iload_n hx hb dX6_makeFirst_22 rfl (lv_at hl 3 rfl) ?_
      refine lv_icmp_ge (tgt := 38) hx hb dX6_makeFirst_23 (by decide) (fun c4 => ?_) (fun c4 => ?_)
      · have hf := g_ip c4 hf
        refine lv_aload_n hx hb dX6_makeFirst_38 rfl (lv_at hl 0 rfl) ?_
        refine r_get C hP ha_l0 (ct_29 _ _ _ _) fx_X6_40 (fg_29_8 _ _ _) dX6_makeFirst_39 ?_
        refine lv_iload_n hx hb dX6_makeFirst_42 rfl (lv_at hl 3 rfl) ?_
        obtain ⟨j5, h6, hf⟩ := rd_in hf
        refine r_aldA C hP (gs_29_8 hW ha_l0) (ct_37 _ _ _ _) h6 dX6_makeFirst_43 ?_
        rw [gsome]
        refine lv_iload hx hb dX6_makeFirst_44 (lv_at hl 4 rfl) ?_
        obtain ⟨j7, h8, hf⟩ := rd_in hf
        refine r_iald C hP (gsA_37 hW (gs_29_8 hW ha_l0) h6) (ct_38 _ _ _ _) h8 dX6_makeFirst_46 ?_
        exact s_X6_makeFirst_J47 C hW hD0 ih hk54 p1 p2 p3 p4 j2 p4 ((X 38 j5 j7)) X _ _ _ hP hS (lv_sub hl [0, 1, 2, 3, 4] rfl) ha_l0 ha_l1 (gsA_37 hW (gs_29_8 hW ha_l0) h3) hf
      · have hf := g_in c4 hf
        refine lv_aload_n hx hb dX6_makeFirst_26 rfl (lv_at hl 1 rfl) ?_
        refine r_get C hP ha_l1 (ct_26 _ _ _ _) fx_X6_91 (fg_26_0 _ _ _) dX6_makeFirst_27 ?_
        refine lv_iload hx hb dX6_makeFirst_30 (lv_at hl 4 rfl) ?_
        refine lv_iload_n hx hb dX6_makeFirst_32 rfl (lv_at hl 2 rfl) ?_
        refine lv_isub hx hb dX6_makeFirst_33 ?_
        obtain ⟨j9, h10, hf⟩ := rd_in hf
        refine r_iald C hP (gs_26_0 hW ha_l1) (ct_27 _ _ _ _) h10 dX6_makeFirst_34 ?_
        refine lv_goto (tgt := 47) hx hb dX6_makeFirst_35 (by decide) ?_
        exact s_X6_makeFirst_J47 C hW hD0 ih hk54 p1 p2 p3 p4 j2 p4 ((X 27 p1 j9)) X _ _ _ hP hS (lv_sub hl [0, 1, 2, 3, 4] rfl) ha_l0 ha_l1 (gsA_37 hW (gs_29_8 hW ha_l0) h3) hf

set_option maxRecDepth 100000 in
set_option maxHeartbeats 4000000 in
theorem w_X6_makeFirst {p : Program} {l : Launch} {e : Env} {s : State} {m : MethodId} {args : Array Value} {below : List Frame} {meth : Method} {c : Code} {D : va_G} {cA : Nat → ClassId} {ad : Nat → Nat → Nat} {NL : List (Nat × Nat)} {A : Nat → Prop} {rr : Int32} {XX : gM} {N : Nat} (C : gCx p c meth m s args cX6_makeFirst 5 none RX6 D cA ad NL A) (hW : gWf NL) (hD0 : gD (fun _ => True) ad NL) {p1 : Nat} {p2 : Int32} {p3 : Int32} (ha_l0 : (29, 0) ∈ NL) (ha_l1 : (26, p1) ∈ NL) : ∀ (X : gM) (H : Heap) (locs : List Loc) (ls : Array Slot), gH D cA ad NL X H → va_S A s.heap H locs → lv_has ls 5 [(0, .ref (ad 29 0)), (1, .ref (ad 26 p1)), (2, .int p2), (3, .int p3)] → X6_makeFirst (gal NL) N p1 p2 p3 X = some (rr, XX) → W p l e rm_X6_makeFirst s m args below meth c H locs 0 0 (MQ below (gQ D cA ad NL none XX A) args s 0 0 A) (F0 m 0 ls []) := by
  have hx := C.1
  have hb := C.2.1
  intro X H locs ls hP hS hl hf
  rw [X6_makeFirst] at hf
  refine lv_iload_n hx hb dX6_makeFirst_0 rfl (lv_at hl 2 rfl) ?_
  refine lv_istore (i := 4) (lv' := [(4, .int p2), (0, .ref (ad 29 0)), (1, .ref (ad 26 p1)), (2, .int p2), (3, .int p3)]) hx hb dX6_makeFirst_1 hl (Nat.le_of_ble_eq_true rfl) rfl (fun ls hl => ?_)
  exact s_X6_makeFirst_L3 C hW hD0 (fun Y H locs ls hP hS hl hf => s_X6_makeFirst_J54 C hW hD0 Y _ _ _ hP hS hl hf) N p1 p2 p3 p2 X _ _ _ hP hS (lv_sub hl [1, 2, 3, 4, 0] rfl) ha_l0 ha_l1 hf

theorem s_X6_makeFirst {l : Launch} {D : va_G} {cA : Nat → ClassId} {ad : Nat → Nat → Nat} {NL : List (Nat × Nat)} {N : Nat} {p1 : Nat} {p2 : Int32} {p3 : Int32} {X : gM} {rr : Int32} {XX : gM} (hW : gWf NL) (hD0 : gD (fun _ => True) ad NL) (ha_l0 : (29, 0) ∈ NL) (ha_l1 : (26, p1) ∈ NL) (hf : X6_makeFirst (gal NL) N p1 p2 p3 X = some (rr, XX)) : gC l yX6_makeFirst cX6_makeFirst 5 none rm_X6_makeFirst D cA ad NL [.ref (ad 29 0), .ref (ad 26 p1), .int p2, .int p3] X none XX :=
  g_ofW (by decide) hD0 (Nat.le_of_ble_eq_true rfl) rfl (fun p e s m below meth c ls C hP hS hl => w_X6_makeFirst C hW hD0 ha_l0 ha_l1 X _ _ ls hP hS hl hf)
def rm_X6_isLower : Room := { frames := 0, cells := 0, slots := 0, locals := 0 }
set_option maxRecDepth 100000 in
set_option maxHeartbeats 4000000 in
theorem s_X6_isLower_J81 {p : Program} {l : Launch} {e : Env} {s : State} {m : MethodId} {args : Array Value} {below : List Frame} {meth : Method} {c : Code} {D : va_G} {cA : Nat → ClassId} {ad : Nat → Nat → Nat} {NL : List (Nat × Nat)} {A : Nat → Prop} {rr : Int32} {XX : gM} {N : Nat} (C : gCx p c meth m s args cX6_isLower 6 (some .boolean) RX6 D cA ad NL A) (hW : gWf NL) (hD0 : gD (fun _ => True) ad NL) : ∀ (X : gM) (H : Heap) (locs : List Loc) (ls : Array Slot), gH D cA ad NL X H → va_S A s.heap H locs → lv_has ls 6 [] → X6_isLower_J81 (gal NL) N X = some (rr, XX) → W p l e rm_X6_isLower s m args below meth c H locs 0 0 (MQ below (gQ D cA ad NL (some (.int rr)) XX A) args s 0 0 A) (F0 m 81 ls []) := by
  have hx := C.1
  have hb := C.2.1
  intro X H locs ls hP hS hl hf
  rw [X6_isLower_J81] at hf
  refine lv_iconst (v := 0) hx hb dX6_isLower_81 (by decide) ?_
  obtain ⟨rfl, rfl⟩ := g_s1 hf
  exact r_zret C hP hS (by decide) dX6_isLower_82

set_option maxRecDepth 100000 in
set_option maxHeartbeats 4000000 in
theorem s_X6_isLower_J74 {p : Program} {l : Launch} {e : Env} {s : State} {m : MethodId} {args : Array Value} {below : List Frame} {meth : Method} {c : Code} {D : va_G} {cA : Nat → ClassId} {ad : Nat → Nat → Nat} {NL : List (Nat × Nat)} {A : Nat → Prop} {rr : Int32} {XX : gM} {N : Nat} (C : gCx p c meth m s args cX6_isLower 6 (some .boolean) RX6 D cA ad NL A) (hW : gWf NL) (hD0 : gD (fun _ => True) ad NL) : ∀ (s0 : Int32) (X : gM) (H : Heap) (locs : List Loc) (ls : Array Slot), gH D cA ad NL X H → va_S A s.heap H locs → lv_has ls 6 [] → X6_isLower_J74 (gal NL) N s0 X = some (rr, XX) → W p l e rm_X6_isLower s m args below meth c H locs 0 0 (MQ below (gQ D cA ad NL (some (.int rr)) XX A) args s 0 0 A) (F0 m 74 ls [.int s0]) := by
  have hx := C.1
  have hb := C.2.1
  intro s0 X H locs ls hP hS hl hf
  rw [X6_isLower_J74] at hf
  obtain ⟨h1, hf⟩ := bz_in hf
  obtain ⟨rfl, rfl⟩ := g_s1 hf
  exact r_zret C hP hS h1 dX6_isLower_74

set_option maxRecDepth 100000 in
set_option maxHeartbeats 4000000 in
theorem s_X6_isLower_J55 {p : Program} {l : Launch} {e : Env} {s : State} {m : MethodId} {args : Array Value} {below : List Frame} {meth : Method} {c : Code} {D : va_G} {cA : Nat → ClassId} {ad : Nat → Nat → Nat} {NL : List (Nat × Nat)} {A : Nat → Prop} {rr : Int32} {XX : gM} {N : Nat} (C : gCx p c meth m s args cX6_isLower 6 (some .boolean) RX6 D cA ad NL A) (hW : gWf NL) (hD0 : gD (fun _ => True) ad NL) : ∀ (p2 : Int32) (p4 : Int32) (p5 : Int32) (X : gM) (H : Heap) (locs : List Loc) (ls : Array Slot), gH D cA ad NL X H → va_S A s.heap H locs → lv_has ls 6 [(0, .ref (ad 29 0)), (2, .int p2), (4, .int p4), (5, .int p5)] → (29, 0) ∈ NL → X6_isLower_J55 (gal NL) N p2 p4 p5 X = some (rr, XX) → W p l e rm_X6_isLower s m args below meth c H locs 0 0 (MQ below (gQ D cA ad NL (some (.int rr)) XX A) args s 0 0 A) (F0 m 55 ls []) := by
  have hx := C.1
  have hb := C.2.1
  intro p2 p4 p5 X H locs ls hP hS hl ha_l0 hf
  rw [X6_isLower_J55] at hf
  refine lv_iload hx hb dX6_isLower_55 (lv_at hl 3 rfl) ?_
  refine lv_aload_n hx hb dX6_isLower_57 rfl (lv_at hl 0 rfl) ?_
  refine r_get C hP ha_l0 (ct_29 _ _ _ _) fx_X6_40 (fg_29_8 _ _ _) dX6_isLower_58 ?_
  refine lv_iload_n hx hb dX6_isLower_61 rfl (lv_at hl 1 rfl) ?_
  obtain ⟨j1, h2, hf⟩ := rd_in hf
  refine r_aldA C hP (gs_29_8 hW ha_l0) (ct_37 _ _ _ _) h2 dX6_isLower_62 ?_
  rw [gsome]
  refine lv_iload hx hb dX6_isLower_63 (lv_at hl 2 rfl) ?_
  obtain ⟨j3, h4, hf⟩ := rd_in hf
  refine r_iald C hP (gsA_37 hW (gs_29_8 hW ha_l0) h2) (ct_38 _ _ _ _) h4 dX6_isLower_65 ?_
  refine lv_icmp_ge (tgt := 73) hx hb dX6_isLower_66 (by decide) (fun c5 => ?_) (fun c5 => ?_)
  · have hf := g_ip c5 hf
    refine lv_iconst (v := 0) hx hb dX6_isLower_73 (by decide) ?_
    exact s_X6_isLower_J74 C hW hD0 (0 : Int32) X _ _ _ hP hS (lv_sub hl [] rfl) hf
  · have hf := g_in c5 hf
    refine lv_iconst (v := 1) hx hb dX6_isLower_69 (by decide) ?_
    refine lv_goto (tgt := 74) hx hb dX6_isLower_70 (by decide) ?_
    exact s_X6_isLower_J74 C hW hD0 (1 : Int32) X _ _ _ hP hS (lv_sub hl [] rfl) hf

set_option maxRecDepth 100000 in
set_option maxHeartbeats 4000000 in
theorem s_X6_isLower_J39 {p : Program} {l : Launch} {e : Env} {s : State} {m : MethodId} {args : Array Value} {below : List Frame} {meth : Method} {c : Code} {D : va_G} {cA : Nat → ClassId} {ad : Nat → Nat → Nat} {NL : List (Nat × Nat)} {A : Nat → Prop} {rr : Int32} {XX : gM} {N : Nat} {kk : Nat → Int32 → Int32 → Int32 → gM → Option (Int32 × gM)} {k55 : Int32 → Int32 → Int32 → gM → Option (Int32 × gM)} {k81 : gM → Option (Int32 × gM)} (C : gCx p c meth m s args cX6_isLower 6 (some .boolean) RX6 D cA ad NL A) (hW : gWf NL) (hD0 : gD (fun _ => True) ad NL) (hkk : ∀ (p1 : Nat) (p2 : Int32) (p3 : Int32) (p4 : Int32) (Y : gM) (H : Heap) (locs : List Loc) (ls : Array Slot), gH D cA ad NL Y H → va_S A s.heap H locs → lv_has ls 6 [(0, .ref (ad 29 0)), (1, .ref (ad 26 p1)), (2, .int p2), (3, .int p3), (4, .int p4)] → (29, 0) ∈ NL → (26, p1) ∈ NL → kk p1 p2 p3 p4 Y = some (rr, XX) → W p l e rm_X6_isLower s m args below meth c H locs 0 0 (MQ below (gQ D cA ad NL (some (.int rr)) XX A) args s 0 0 A) (F0 m 3 ls [])) (hk55 : ∀ (p2 : Int32) (p4 : Int32) (p5 : Int32) (Y : gM) (H : Heap) (locs : List Loc) (ls : Array Slot), gH D cA ad NL Y H → va_S A s.heap H locs → lv_has ls 6 [(0, .ref (ad 29 0)), (2, .int p2), (4, .int p4), (5, .int p5)] → (29, 0) ∈ NL → k55 p2 p4 p5 Y = some (rr, XX) → W p l e rm_X6_isLower s m args below meth c H locs 0 0 (MQ below (gQ D cA ad NL (some (.int rr)) XX A) args s 0 0 A) (F0 m 55 ls [])) (hk81 : ∀ (Y : gM) (H : Heap) (locs : List Loc) (ls : Array Slot), gH D cA ad NL Y H → va_S A s.heap H locs → lv_has ls 6 [] → k81 Y = some (rr, XX) → W p l e rm_X6_isLower s m args below meth c H locs 0 0 (MQ below (gQ D cA ad NL (some (.int rr)) XX A) args s 0 0 A) (F0 m 81 ls [])) : ∀ (p1 : Nat) (p2 : Int32) (p3 : Int32) (p4 : Int32) (s0 : Int32) (X : gM) (H : Heap) (locs : List Loc) (ls : Array Slot), gH D cA ad NL X H → va_S A s.heap H locs → lv_has ls 6 [(0, .ref (ad 29 0)), (1, .ref (ad 26 p1)), (2, .int p2), (3, .int p3), (4, .int p4)] → (29, 0) ∈ NL → (26, p1) ∈ NL → X6_isLower_J39 (gal NL) N kk k55 k81 p1 p2 p3 p4 s0 X = some (rr, XX) → W p l e rm_X6_isLower s m args below meth c H locs 0 0 (MQ below (gQ D cA ad NL (some (.int rr)) XX A) args s 0 0 A) (F0 m 39 ls [.int s0]) := by
  have hx := C.1
  have hb := C.2.1
  intro p1 p2 p3 p4 s0 X H locs ls hP hS hl ha_l0 ha_l1 hf
  rw [X6_isLower_J39] at hf
  refine lv_istore (i := 5) (lv' := [(5, .int s0), (0, .ref (ad 29 0)), (1, .ref (ad 26 p1)), (2, .int p2), (3, .int p3), (4, .int p4)]) hx hb dX6_isLower_39 hl (Nat.le_of_ble_eq_true rfl) rfl (fun ls hl => ?_)
  refine lv_iload hx hb dX6_isLower_41 (lv_at hl 0 rfl) ?_
  refine lv_aload_n hx hb dX6_isLower_43 rfl (lv_at hl 1 rfl) ?_
  refine r_get C hP ha_l0 (ct_29 _ _ _ _) fx_X6_40 (fg_29_8 _ _ _) dX6_isLower_44 ?_
  refine lv_iload_n hx hb dX6_isLower_47 rfl (lv_at hl 3 rfl) ?_
  obtain ⟨j1, h2, hf⟩ := rd_in hf
  refine r_aldA C hP (gs_29_8 hW ha_l0) (ct_37 _ _ _ _) h2 dX6_isLower_48 ?_
  rw [gsome]
  refine lv_iload hx hb dX6_isLower_49 (lv_at hl 5 rfl) ?_
  obtain ⟨j3, h4, hf⟩ := rd_in hf
  refine r_iald C hP (gsA_37 hW (gs_29_8 hW ha_l0) h2) (ct_38 _ _ _ _) h4 dX6_isLower_51 ?_
  refine lv_icmp_eq (tgt := 75) hx hb dX6_isLower_52 (by decide) (fun c5 => ?_) (fun c5 => ?_)
  · have hf := g_ip c5 hf
    obtain ⟨v6, e7, hf⟩ := gl_in hf
    refine lv_iinc (v := v6) (lv' := [(4, .int v6), (5, .int s0), (0, .ref (ad 29 0)), (1, .ref (ad 26 p1)), (2, .int p2), (3, .int p3)]) hx hb dX6_isLower_75 hl (k := 5) rfl (by rw [e7]; rfl) (Nat.le_of_ble_eq_true rfl) rfl (fun ls hl => ?_)
    refine lv_goto (tgt := 3) hx hb dX6_isLower_78 (by decide) ?_
    exact hkk p1 p2 p3 v6 X _ _ _ hP hS (lv_sub hl [2, 3, 4, 5, 0] rfl) ha_l0 ha_l1 hf
  · have hf := g_in c5 hf
    exact hk55 p2 p4 s0 X _ _ _ hP hS (lv_sub hl [1, 3, 5, 0] rfl) ha_l0 hf

set_option maxRecDepth 100000 in
set_option maxHeartbeats 4000000 in
theorem s_X6_isLower_L3 {p : Program} {l : Launch} {e : Env} {s : State} {m : MethodId} {args : Array Value} {below : List Frame} {meth : Method} {c : Code} {D : va_G} {cA : Nat → ClassId} {ad : Nat → Nat → Nat} {NL : List (Nat × Nat)} {A : Nat → Prop} {rr : Int32} {XX : gM} {N : Nat} {k55 : Int32 → Int32 → Int32 → gM → Option (Int32 × gM)} {k81 : gM → Option (Int32 × gM)} (C : gCx p c meth m s args cX6_isLower 6 (some .boolean) RX6 D cA ad NL A) (hW : gWf NL) (hD0 : gD (fun _ => True) ad NL) (hk55 : ∀ (p2 : Int32) (p4 : Int32) (p5 : Int32) (Y : gM) (H : Heap) (locs : List Loc) (ls : Array Slot), gH D cA ad NL Y H → va_S A s.heap H locs → lv_has ls 6 [(0, .ref (ad 29 0)), (2, .int p2), (4, .int p4), (5, .int p5)] → (29, 0) ∈ NL → k55 p2 p4 p5 Y = some (rr, XX) → W p l e rm_X6_isLower s m args below meth c H locs 0 0 (MQ below (gQ D cA ad NL (some (.int rr)) XX A) args s 0 0 A) (F0 m 55 ls [])) (hk81 : ∀ (Y : gM) (H : Heap) (locs : List Loc) (ls : Array Slot), gH D cA ad NL Y H → va_S A s.heap H locs → lv_has ls 6 [] → k81 Y = some (rr, XX) → W p l e rm_X6_isLower s m args below meth c H locs 0 0 (MQ below (gQ D cA ad NL (some (.int rr)) XX A) args s 0 0 A) (F0 m 81 ls [])) : ∀ (n : Nat) (p1 : Nat) (p2 : Int32) (p3 : Int32) (p4 : Int32) (X : gM) (H : Heap) (locs : List Loc) (ls : Array Slot), gH D cA ad NL X H → va_S A s.heap H locs → lv_has ls 6 [(0, .ref (ad 29 0)), (1, .ref (ad 26 p1)), (2, .int p2), (3, .int p3), (4, .int p4)] → (29, 0) ∈ NL → (26, p1) ∈ NL → X6_isLower_L3 (gal NL) N k55 k81 n p1 p2 p3 p4 X = some (rr, XX) → W p l e rm_X6_isLower s m args below meth c H locs 0 0 (MQ below (gQ D cA ad NL (some (.int rr)) XX A) args s 0 0 A) (F0 m 3 ls []) := by
  have hx := C.1
  have hb := C.2.1
  intro n
  induction n with
  | zero =>
    intro p1 p2 p3 p4 X H locs ls hP hS hl ha_l0 ha_l1 hf
    rw [X6_isLower_L3] at hf
    cases hf
  | succ n ih =>
    intro p1 p2 p3 p4 X H locs ls hP hS hl ha_l0 ha_l1 hf
    rw [X6_isLower_L3] at hf
    refine lv_iload hx hb dX6_isLower_3 (lv_at hl 4 rfl) ?_
    refine lv_aload_n hx hb dX6_isLower_5 rfl (lv_at hl 0 rfl) ?_
    refine r_get C hP ha_l0 (ct_29 _ _ _ _) fx_X6_9 (fg_29_0 _ _ _) dX6_isLower_6 ?_
    refine lv_icmp_ge (tgt := 81) hx hb dX6_isLower_9 (by decide) (fun c1 => ?_) (fun c1 => ?_)
    · have hf := g_ip c1 hf
      exact hk81 X _ _ _ hP hS (lv_sub hl [] rfl) hf
    · have hf := g_in c1 hf
      refine lv_iload hx hb dX6_isLower_12 (lv_at hl 4 rfl) ?_
      refine lv_iload_n hx hb dX6_isLower_14 rfl (lv_at hl 3 rfl) ?_
      refine lv_icmp_ge (tgt := 30) hx hb dX6_isLower_15 (by decide) (fun c2 => ?_) (fun c2 => ?_)
      · have hf := g_ip c2 hf
        refine lv_aload_n hx hb dX6_isLower_30 rfl (lv_at hl 0 rfl) ?_
        refine r_get C hP ha_l0 (ct_29 _ _ _ _) fx_X6_40 (fg_29_8 _ _ _) dX6_isLower_31 ?_
        refine lv_iload_n hx hb dX6_isLower_34 rfl (lv_at hl 3 rfl) ?_
        obtain ⟨j3, h4, hf⟩ := rd_in hf
        refine r_aldA C hP (gs_29_8 hW ha_l0) (ct_37 _ _ _ _) h4 dX6_isLower_35 ?_
        rw [gsome]
        refine lv_iload hx hb dX6_isLower_36 (lv_at hl 4 rfl) ?_
        obtain ⟨j5, h6, hf⟩ := rd_in hf
        refine r_iald C hP (gsA_37 hW (gs_29_8 hW ha_l0) h4) (ct_38 _ _ _ _) h6 dX6_isLower_38 ?_
        exact s_X6_isLower_J39 C hW hD0 ih hk55 hk81 p1 p2 p3 p4 ((X 38 j3 j5)) X _ _ _ hP hS (lv_sub hl [0, 1, 2, 3, 4] rfl) ha_l0 ha_l1 hf
      · have hf := g_in c2 hf
        refine lv_aload_n hx hb dX6_isLower_18 rfl (lv_at hl 1 rfl) ?_
        refine r_get C hP ha_l1 (ct_26 _ _ _ _) fx_X6_91 (fg_26_0 _ _ _) dX6_isLower_19 ?_
        refine lv_iload hx hb dX6_isLower_22 (lv_at hl 4 rfl) ?_
        refine lv_iload_n hx hb dX6_isLower_24 rfl (lv_at hl 2 rfl) ?_
        refine lv_isub hx hb dX6_isLower_25 ?_
        obtain ⟨j7, h8, hf⟩ := rd_in hf
        refine r_iald C hP (gs_26_0 hW ha_l1) (ct_27 _ _ _ _) h8 dX6_isLower_26 ?_
        refine lv_goto (tgt := 39) hx hb dX6_isLower_27 (by decide) ?_
        exact s_X6_isLower_J39 C hW hD0 ih hk55 hk81 p1 p2 p3 p4 ((X 27 p1 j7)) X _ _ _ hP hS (lv_sub hl [0, 1, 2, 3, 4] rfl) ha_l0 ha_l1 hf

set_option maxRecDepth 100000 in
set_option maxHeartbeats 4000000 in
theorem w_X6_isLower {p : Program} {l : Launch} {e : Env} {s : State} {m : MethodId} {args : Array Value} {below : List Frame} {meth : Method} {c : Code} {D : va_G} {cA : Nat → ClassId} {ad : Nat → Nat → Nat} {NL : List (Nat × Nat)} {A : Nat → Prop} {rr : Int32} {XX : gM} {N : Nat} (C : gCx p c meth m s args cX6_isLower 6 (some .boolean) RX6 D cA ad NL A) (hW : gWf NL) (hD0 : gD (fun _ => True) ad NL) {p1 : Nat} {p2 : Int32} {p3 : Int32} (ha_l0 : (29, 0) ∈ NL) (ha_l1 : (26, p1) ∈ NL) : ∀ (X : gM) (H : Heap) (locs : List Loc) (ls : Array Slot), gH D cA ad NL X H → va_S A s.heap H locs → lv_has ls 6 [(0, .ref (ad 29 0)), (1, .ref (ad 26 p1)), (2, .int p2), (3, .int p3)] → X6_isLower (gal NL) N p1 p2 p3 X = some (rr, XX) → W p l e rm_X6_isLower s m args below meth c H locs 0 0 (MQ below (gQ D cA ad NL (some (.int rr)) XX A) args s 0 0 A) (F0 m 0 ls []) := by
  have hx := C.1
  have hb := C.2.1
  intro X H locs ls hP hS hl hf
  rw [X6_isLower] at hf
  refine lv_iload_n hx hb dX6_isLower_0 rfl (lv_at hl 2 rfl) ?_
  refine lv_istore (i := 4) (lv' := [(4, .int p2), (0, .ref (ad 29 0)), (1, .ref (ad 26 p1)), (2, .int p2), (3, .int p3)]) hx hb dX6_isLower_1 hl (Nat.le_of_ble_eq_true rfl) rfl (fun ls hl => ?_)
  exact s_X6_isLower_L3 C hW hD0 (fun p2 p4 p5 Y H locs ls hP hS hl ha_l0 hf => s_X6_isLower_J55 C hW hD0 p2 p4 p5 Y _ _ _ hP hS hl ha_l0 hf) (fun Y H locs ls hP hS hl hf => s_X6_isLower_J81 C hW hD0 Y _ _ _ hP hS hl hf) N p1 p2 p3 p2 X _ _ _ hP hS (lv_sub hl [1, 2, 3, 4, 0] rfl) ha_l0 ha_l1 hf

theorem s_X6_isLower {l : Launch} {D : va_G} {cA : Nat → ClassId} {ad : Nat → Nat → Nat} {NL : List (Nat × Nat)} {N : Nat} {p1 : Nat} {p2 : Int32} {p3 : Int32} {X : gM} {rr : Int32} {XX : gM} (hW : gWf NL) (hD0 : gD (fun _ => True) ad NL) (ha_l0 : (29, 0) ∈ NL) (ha_l1 : (26, p1) ∈ NL) (hf : X6_isLower (gal NL) N p1 p2 p3 X = some (rr, XX)) : gC l yX6_isLower cX6_isLower 6 (some .boolean) rm_X6_isLower D cA ad NL [.ref (ad 29 0), .ref (ad 26 p1), .int p2, .int p3] X (some (.int rr)) XX :=
  g_ofW (by decide) hD0 (Nat.le_of_ble_eq_true rfl) rfl (fun p e s m below meth c ls C hP hS hl => w_X6_isLower C hW hD0 ha_l0 ha_l1 X _ _ ls hP hS hl hf)
def rm_X6_tryWord : Room := { frames := 1, cells := 0, slots := 0, locals := 25 }
set_option maxRecDepth 100000 in
set_option maxHeartbeats 4000000 in
theorem s_X6_tryWord_J130 {p : Program} {l : Launch} {e : Env} {s : State} {m : MethodId} {args : Array Value} {below : List Frame} {meth : Method} {c : Code} {D : va_G} {cA : Nat → ClassId} {ad : Nat → Nat → Nat} {NL : List (Nat × Nat)} {A : Nat → Prop} {rr : Int32} {XX : gM} {N : Nat} (C : gCx p c meth m s args cX6_tryWord 6 none RX6 D cA ad NL A) (hW : gWf NL) (hD0 : gD (fun _ => True) ad NL) : ∀ (X : gM) (H : Heap) (locs : List Loc) (ls : Array Slot), gH D cA ad NL X H → va_S A s.heap H locs → lv_has ls 6 [] → X6_tryWord_J130 (gal NL) N X = some (rr, XX) → W p l e rm_X6_tryWord s m args below meth c H locs 0 0 (MQ below (gQ D cA ad NL none XX A) args s 0 0 A) (F0 m 130 ls []) := by
  have hx := C.1
  have hb := C.2.1
  intro X H locs ls hP hS hl hf
  rw [X6_tryWord_J130] at hf
  obtain ⟨rfl, rfl⟩ := g_s1 hf
  exact r_vret C hP hS dX6_tryWord_130

set_option maxRecDepth 100000 in
set_option maxHeartbeats 4000000 in
theorem s_X6_tryWord_J28 {p : Program} {l : Launch} {e : Env} {s : State} {m : MethodId} {args : Array Value} {below : List Frame} {meth : Method} {c : Code} {D : va_G} {cA : Nat → ClassId} {ad : Nat → Nat → Nat} {NL : List (Nat × Nat)} {A : Nat → Prop} {rr : Int32} {XX : gM} {N : Nat} (C : gCx p c meth m s args cX6_tryWord 6 none RX6 D cA ad NL A) (hW : gWf NL) (hD0 : gD (fun _ => True) ad NL) : ∀ (X : gM) (H : Heap) (locs : List Loc) (ls : Array Slot), gH D cA ad NL X H → va_S A s.heap H locs → lv_has ls 6 [] → X6_tryWord_J28 (gal NL) N X = some (rr, XX) → W p l e rm_X6_tryWord s m args below meth c H locs 0 0 (MQ below (gQ D cA ad NL none XX A) args s 0 0 A) (F0 m 28 ls []) := by
  have hx := C.1
  have hb := C.2.1
  intro X H locs ls hP hS hl hf
  rw [X6_tryWord_J28] at hf
  obtain ⟨rfl, rfl⟩ := g_s1 hf
  exact r_vret C hP hS dX6_tryWord_28

set_option maxRecDepth 100000 in
set_option maxHeartbeats 4000000 in
theorem w_X6_tryWord {p : Program} {l : Launch} {e : Env} {s : State} {m : MethodId} {args : Array Value} {below : List Frame} {meth : Method} {c : Code} {D : va_G} {cA : Nat → ClassId} {ad : Nat → Nat → Nat} {NL : List (Nat × Nat)} {A : Nat → Prop} {rr : Int32} {XX : gM} {N : Nat} (C : gCx p c meth m s args cX6_tryWord 6 none RX6 D cA ad NL A) (hW : gWf NL) (hD0 : gD (fun _ => True) ad NL) {p1 : Nat} {p2 : Int32} {p3 : Int32} (ha_l0 : (29, 0) ∈ NL) (ha_l1 : (26, p1) ∈ NL) : ∀ (X : gM) (H : Heap) (locs : List Loc) (ls : Array Slot), gH D cA ad NL X H → va_S A s.heap H locs → lv_has ls 6 [(0, .ref (ad 29 0)), (1, .ref (ad 26 p1)), (2, .int p2), (3, .int p3)] → X6_tryWord (gal NL) N p1 p2 p3 X = some (rr, XX) → W p l e rm_X6_tryWord s m args below meth c H locs 0 0 (MQ below (gQ D cA ad NL none XX A) args s 0 0 A) (F0 m 0 ls []) := by
  have hx := C.1
  have hb := C.2.1
  intro X H locs ls hP hS hl hf
  rw [X6_tryWord] at hf
  refine lv_iload_n hx hb dX6_tryWord_0 rfl (lv_at hl 3 rfl) ?_
  refine lv_aload_n hx hb dX6_tryWord_1 rfl (lv_at hl 1 rfl) ?_
  refine r_get C hP ha_l1 (ct_26 _ _ _ _) fx_X6_86 (fg_26_1 _ _ _) dX6_tryWord_2 ?_
  refine lv_iadd hx hb dX6_tryWord_5 ?_
  refine g_top hf (fun v1 e2 hf => ?_)
  refine lv_istore (i := 4) (lv' := [(4, .int v1), (0, .ref (ad 29 0)), (1, .ref (ad 26 p1)), (2, .int p2), (3, .int p3)]) hx hb dX6_tryWord_6 hl (Nat.le_of_ble_eq_true rfl) rfl (fun ls hl => ?_)
  refine lv_iload hx hb dX6_tryWord_8 (lv_at hl 0 rfl) ?_
  refine lv_aload_n hx hb dX6_tryWord_10 rfl (lv_at hl 1 rfl) ?_
  refine r_get C hP ha_l0 (ct_29 _ _ _ _) fx_X6_9 (fg_29_0 _ _ _) dX6_tryWord_11 ?_
  refine lv_icmp_gt (tgt := 28) hx hb dX6_tryWord_14 (by decide) (fun c3 => ?_) (fun c3 => ?_)
  · have hf := g_ip c3 hf
    exact s_X6_tryWord_J28 C hW hD0 X _ _ _ hP hS (lv_sub hl [] rfl) hf
  · have hf := g_in c3 hf
    refine lv_aload_n hx hb dX6_tryWord_17 rfl (lv_at hl 1 rfl) ?_
    refine r_get C hP ha_l0 (ct_29 _ _ _ _) fx_X6_32 (fg_29_6 _ _ _) dX6_tryWord_18 ?_
    refine lv_iload hx hb dX6_tryWord_21 (lv_at hl 0 rfl) ?_
    obtain ⟨j4, h5, hf⟩ := rd_in hf
    refine r_iald C hP (gs_29_6 hW ha_l0) (ct_35 _ _ _ _) h5 dX6_tryWord_23 ?_
    refine lv_iconst (v := -1) hx hb dX6_tryWord_24 (by decide) ?_
    refine lv_icmp_ne (tgt := 29) hx hb dX6_tryWord_25 (by decide) (fun c6 => ?_) (fun c6 => ?_)
    · have hf := g_in c6 hf
      refine lv_iload_n hx hb dX6_tryWord_29 rfl (lv_at hl 3 rfl) ?_
      refine lv_aload_n hx hb dX6_tryWord_30 rfl (lv_at hl 1 rfl) ?_
      refine r_get C hP ha_l0 (ct_29 _ _ _ _) fx_X6_32 (fg_29_6 _ _ _) dX6_tryWord_31 ?_
      refine lv_iload hx hb dX6_tryWord_34 (lv_at hl 0 rfl) ?_
      obtain ⟨j7, h8, hf⟩ := rd_in hf
      refine r_iald C hP (gs_29_6 hW ha_l0) (ct_35 _ _ _ _) h8 dX6_tryWord_36 ?_
      refine lv_iadd hx hb dX6_tryWord_37 ?_
      refine g_top hf (fun v9 e10 hf => ?_)
      refine lv_istore (i := 5) (lv' := [(5, .int v9), (4, .int v1), (0, .ref (ad 29 0)), (1, .ref (ad 26 p1)), (2, .int p2), (3, .int p3)]) hx hb dX6_tryWord_38 hl (Nat.le_of_ble_eq_true rfl) rfl (fun ls hl => ?_)
      refine lv_iload hx hb dX6_tryWord_40 (lv_at hl 0 rfl) ?_
      refine lv_aload_n hx hb dX6_tryWord_42 rfl (lv_at hl 2 rfl) ?_
      refine r_get C hP ha_l0 (ct_29 _ _ _ _) fx_X6_32 (fg_29_6 _ _ _) dX6_tryWord_43 ?_
      refine lv_iload_n hx hb dX6_tryWord_46 rfl (lv_at hl 5 rfl) ?_
      obtain ⟨j11, h12, hf⟩ := rd_in hf
      refine r_iald C hP (gs_29_6 hW ha_l0) (ct_35 _ _ _ _) h12 dX6_tryWord_47 ?_
      refine lv_icmp_ge (tgt := 52) hx hb dX6_tryWord_48 (by decide) (fun c13 => ?_) (fun c13 => ?_)
      · have hf := g_ip c13 hf
        refine lv_iload hx hb dX6_tryWord_52 (lv_at hl 0 rfl) ?_
        refine lv_aload_n hx hb dX6_tryWord_54 rfl (lv_at hl 2 rfl) ?_
        refine r_get C hP ha_l0 (ct_29 _ _ _ _) fx_X6_32 (fg_29_6 _ _ _) dX6_tryWord_55 ?_
        refine lv_iload_n hx hb dX6_tryWord_58 rfl (lv_at hl 5 rfl) ?_
        obtain ⟨j14, h15, hf⟩ := rd_in hf
        refine r_iald C hP (gs_29_6 hW ha_l0) (ct_35 _ _ _ _) h15 dX6_tryWord_59 ?_
        refine lv_icmp_le (tgt := 95) hx hb dX6_tryWord_60 (by decide) (fun c16 => ?_) (fun c16 => ?_)
        · have hf := g_ip c16 hf
          refine lv_aload_n hx hb dX6_tryWord_95 rfl (lv_at hl 2 rfl) ?_
          refine r_get C hP ha_l0 (ct_29 _ _ _ _) fx_X6_35 (fg_29_7 _ _ _) dX6_tryWord_96 ?_
          refine lv_iload_n hx hb dX6_tryWord_99 rfl (lv_at hl 5 rfl) ?_
          refine lv_dup2_11 hx hb dX6_tryWord_100 rfl rfl ?_
          obtain ⟨j17, h18, hf⟩ := rd_in hf
          refine r_iald C hP (gs_29_7 hW ha_l0) (ct_36 _ _ _ _) h18 dX6_tryWord_101 ?_
          refine lv_aload_n hx hb dX6_tryWord_102 rfl (lv_at hl 2 rfl) ?_
          refine r_get C hP ha_l0 (ct_29 _ _ _ _) fx_X6_35 (fg_29_7 _ _ _) dX6_tryWord_103 ?_
          refine lv_iload hx hb dX6_tryWord_106 (lv_at hl 1 rfl) ?_
          obtain ⟨j19, h20, hf⟩ := rd_in hf
          refine r_iald C hP (gs_29_7 hW ha_l0) (ct_36 _ _ _ _) h20 dX6_tryWord_108 ?_
          refine lv_iadd hx hb dX6_tryWord_109 ?_
          obtain ⟨j21, h22, hf⟩ := rd_in hf
          refine r_iast C hP hS (gs_29_7 hW ha_l0) (fun _ => ct_36 _ _ _ _) h22 dX6_tryWord_110 (fun H locs hP hS => ?_)
          obtain ⟨X23, e24, hf⟩ := gl_in hf
          rw [← e24] at hP
          refine lv_aload_n hx hb dX6_tryWord_111 rfl (lv_at hl 2 rfl) ?_
          refine lv_aload_n hx hb dX6_tryWord_112 rfl (lv_at hl 3 rfl) ?_
          refine lv_iload_n hx hb dX6_tryWord_113 rfl (lv_at hl 5 rfl) ?_
          refine lv_iload hx hb dX6_tryWord_114 (lv_at hl 1 rfl) ?_
          obtain ⟨r25, X26, h27, hf⟩ := b2_in hf
          refine r_cVi (rest := []) C hP hS hl.1 (s_X6_isLower hW hD0 ha_l0 ha_l1 h27) ix_X6_isLower iv_X6_isLower lk_X6_107 ⟨rfl, rfl, Nat.le_of_ble_eq_true rfl, Nat.le_of_ble_eq_true rfl⟩ ha_l0 (ct_29 _ _ _ _) rfl rfl rfl rfl (Nat.le_of_ble_eq_true rfl) ⟨Nat.zero_le _, Nat.zero_le _⟩ dX6_tryWord_116 (fun H locs hP hS => ?_)
          refine lv_if_eq (tgt := 130) hx hb dX6_tryWord_119 (by decide) (fun c28 => ?_) (fun c28 => ?_)
          · have hf := g_ip c28 hf
            exact s_X6_tryWord_J130 C hW hD0 X26 _ _ _ hP hS (lv_sub hl [] rfl) hf
          · have hf := g_in c28 hf
            refine lv_aload_n hx hb dX6_tryWord_122 rfl (lv_at hl 2 rfl) ?_
            refine lv_aload_n hx hb dX6_tryWord_123 rfl (lv_at hl 3 rfl) ?_
            refine lv_iload_n hx hb dX6_tryWord_124 rfl (lv_at hl 5 rfl) ?_
            refine lv_iload hx hb dX6_tryWord_125 (lv_at hl 1 rfl) ?_
            obtain ⟨r29, X30, h31, hf⟩ := b2_in hf
            refine r_cVv (rest := []) C hP hS hl.1 (s_X6_makeFirst hW hD0 ha_l0 ha_l1 h31) ix_X6_makeFirst iv_X6_makeFirst lk_X6_104 ⟨rfl, rfl, Nat.le_of_ble_eq_true rfl, Nat.le_of_ble_eq_true rfl⟩ ha_l0 (ct_29 _ _ _ _) rfl rfl rfl rfl (Nat.le_of_ble_eq_true rfl) ⟨Nat.zero_le _, Nat.zero_le _⟩ dX6_tryWord_127 (fun H locs hP hS => ?_)
            exact s_X6_tryWord_J130 C hW hD0 X30 _ _ _ hP hS (lv_sub hl [] rfl) hf
        · have hf := g_in c16 hf
          refine lv_aload_n hx hb dX6_tryWord_63 rfl (lv_at hl 2 rfl) ?_
          refine r_get C hP ha_l0 (ct_29 _ _ _ _) fx_X6_32 (fg_29_6 _ _ _) dX6_tryWord_64 ?_
          refine lv_iload_n hx hb dX6_tryWord_67 rfl (lv_at hl 5 rfl) ?_
          refine lv_iload hx hb dX6_tryWord_68 (lv_at hl 0 rfl) ?_
          obtain ⟨j32, h33, hf⟩ := rd_in hf
          refine r_iast C hP hS (gs_29_6 hW ha_l0) (fun _ => ct_35 _ _ _ _) h33 dX6_tryWord_70 (fun H locs hP hS => ?_)
          obtain ⟨X34, e35, hf⟩ := gl_in hf
          rw [← e35] at hP
          refine lv_aload_n hx hb dX6_tryWord_71 rfl (lv_at hl 2 rfl) ?_
          refine r_get C hP ha_l0 (ct_29 _ _ _ _) fx_X6_35 (fg_29_7 _ _ _) dX6_tryWord_72 ?_
          refine lv_iload_n hx hb dX6_tryWord_75 rfl (lv_at hl 5 rfl) ?_
          refine lv_aload_n hx hb dX6_tryWord_76 rfl (lv_at hl 2 rfl) ?_
          refine r_get C hP ha_l0 (ct_29 _ _ _ _) fx_X6_35 (fg_29_7 _ _ _) dX6_tryWord_77 ?_
          refine lv_iload hx hb dX6_tryWord_80 (lv_at hl 1 rfl) ?_
          obtain ⟨j36, h37, hf⟩ := rd_in hf
          refine r_iald C hP (gs_29_7 hW ha_l0) (ct_36 _ _ _ _) h37 dX6_tryWord_82 ?_
          obtain ⟨j38, h39, hf⟩ := rd_in hf
          refine r_iast C hP hS (gs_29_7 hW ha_l0) (fun _ => ct_36 _ _ _ _) h39 dX6_tryWord_83 (fun H locs hP hS => ?_)
          obtain ⟨X40, e41, hf⟩ := gl_in hf
          rw [← e41] at hP
          refine lv_aload_n hx hb dX6_tryWord_84 rfl (lv_at hl 2 rfl) ?_
          refine lv_aload_n hx hb dX6_tryWord_85 rfl (lv_at hl 3 rfl) ?_
          refine lv_iload_n hx hb dX6_tryWord_86 rfl (lv_at hl 5 rfl) ?_
          refine lv_iload hx hb dX6_tryWord_87 (lv_at hl 1 rfl) ?_
          obtain ⟨r42, X43, h44, hf⟩ := b2_in hf
          refine r_cVv (rest := []) C hP hS hl.1 (s_X6_makeFirst hW hD0 ha_l0 ha_l1 h44) ix_X6_makeFirst iv_X6_makeFirst lk_X6_104 ⟨rfl, rfl, Nat.le_of_ble_eq_true rfl, Nat.le_of_ble_eq_true rfl⟩ ha_l0 (ct_29 _ _ _ _) rfl rfl rfl rfl (Nat.le_of_ble_eq_true rfl) ⟨Nat.zero_le _, Nat.zero_le _⟩ dX6_tryWord_89 (fun H locs hP hS => ?_)
          refine lv_goto (tgt := 130) hx hb dX6_tryWord_92 (by decide) ?_
          exact s_X6_tryWord_J130 C hW hD0 X43 _ _ _ hP hS (lv_sub hl [] rfl) hf
      · have hf := g_in c13 hf
        obtain ⟨rfl, rfl⟩ := g_s1 hf
        exact r_vret C hP hS dX6_tryWord_51
    · have hf := g_ip c6 hf
      exact s_X6_tryWord_J28 C hW hD0 X _ _ _ hP hS (lv_sub hl [] rfl) hf

theorem s_X6_tryWord {l : Launch} {D : va_G} {cA : Nat → ClassId} {ad : Nat → Nat → Nat} {NL : List (Nat × Nat)} {N : Nat} {p1 : Nat} {p2 : Int32} {p3 : Int32} {X : gM} {rr : Int32} {XX : gM} (hW : gWf NL) (hD0 : gD (fun _ => True) ad NL) (ha_l0 : (29, 0) ∈ NL) (ha_l1 : (26, p1) ∈ NL) (hf : X6_tryWord (gal NL) N p1 p2 p3 X = some (rr, XX)) : gC l yX6_tryWord cX6_tryWord 6 none rm_X6_tryWord D cA ad NL [.ref (ad 29 0), .ref (ad 26 p1), .int p2, .int p3] X none XX :=
  g_ofW (by decide) hD0 (Nat.le_of_ble_eq_true rfl) rfl (fun p e s m below meth c ls C hP hS hl => w_X6_tryWord C hW hD0 ha_l0 ha_l1 X _ _ ls hP hS hl hf)
def rm_X6_readFrom : Room := { frames := 2, cells := 0, slots := 0, locals := 50 }
set_option maxRecDepth 100000 in
set_option maxHeartbeats 4000000 in
theorem s_X6_readFrom_J126 {p : Program} {l : Launch} {e : Env} {s : State} {m : MethodId} {args : Array Value} {below : List Frame} {meth : Method} {c : Code} {D : va_G} {cA : Nat → ClassId} {ad : Nat → Nat → Nat} {NL : List (Nat × Nat)} {A : Nat → Prop} {rr : Int32} {XX : gM} {N : Nat} (C : gCx p c meth m s args cX6_readFrom 6 none RX6 D cA ad NL A) (hW : gWf NL) (hD0 : gD (fun _ => True) ad NL) : ∀ (X : gM) (H : Heap) (locs : List Loc) (ls : Array Slot), gH D cA ad NL X H → va_S A s.heap H locs → lv_has ls 6 [] → X6_readFrom_J126 (gal NL) N X = some (rr, XX) → W p l e rm_X6_readFrom s m args below meth c H locs 0 0 (MQ below (gQ D cA ad NL none XX A) args s 0 0 A) (F0 m 126 ls []) := by
  have hx := C.1
  have hb := C.2.1
  intro X H locs ls hP hS hl hf
  rw [X6_readFrom_J126] at hf
  obtain ⟨rfl, rfl⟩ := g_s1 hf
  exact r_vret C hP hS dX6_readFrom_126

set_option maxRecDepth 100000 in
set_option maxHeartbeats 4000000 in
theorem s_X6_readFrom_J120 {p : Program} {l : Launch} {e : Env} {s : State} {m : MethodId} {args : Array Value} {below : List Frame} {meth : Method} {c : Code} {D : va_G} {cA : Nat → ClassId} {ad : Nat → Nat → Nat} {NL : List (Nat × Nat)} {A : Nat → Prop} {rr : Int32} {XX : gM} {N : Nat} {kk : Int32 → Int32 → gM → Option (Int32 × gM)} {k126 : gM → Option (Int32 × gM)} (C : gCx p c meth m s args cX6_readFrom 6 none RX6 D cA ad NL A) (hW : gWf NL) (hD0 : gD (fun _ => True) ad NL) (hkk : ∀ (p1 : Int32) (p3 : Int32) (Y : gM) (H : Heap) (locs : List Loc) (ls : Array Slot), gH D cA ad NL Y H → va_S A s.heap H locs → lv_has ls 6 [(0, .ref (ad 29 0)), (1, .int p1), (2, .ref (ad 25 0)), (3, .int p3)] → (29, 0) ∈ NL → (25, 0) ∈ NL → kk p1 p3 Y = some (rr, XX) → W p l e rm_X6_readFrom s m args below meth c H locs 0 0 (MQ below (gQ D cA ad NL none XX A) args s 0 0 A) (F0 m 70 ls [])) (hk126 : ∀ (Y : gM) (H : Heap) (locs : List Loc) (ls : Array Slot), gH D cA ad NL Y H → va_S A s.heap H locs → lv_has ls 6 [] → k126 Y = some (rr, XX) → W p l e rm_X6_readFrom s m args below meth c H locs 0 0 (MQ below (gQ D cA ad NL none XX A) args s 0 0 A) (F0 m 126 ls [])) : ∀ (p1 : Int32) (p3 : Int32) (X : gM) (H : Heap) (locs : List Loc) (ls : Array Slot), gH D cA ad NL X H → va_S A s.heap H locs → lv_has ls 6 [(0, .ref (ad 29 0)), (1, .int p1), (2, .ref (ad 25 0)), (3, .int p3)] → (29, 0) ∈ NL → (25, 0) ∈ NL → X6_readFrom_J120 (gal NL) N kk k126 p1 p3 X = some (rr, XX) → W p l e rm_X6_readFrom s m args below meth c H locs 0 0 (MQ below (gQ D cA ad NL none XX A) args s 0 0 A) (F0 m 120 ls []) := by
  have hx := C.1
  have hb := C.2.1
  intro p1 p3 X H locs ls hP hS hl ha_l0 ha_l2 hf
  rw [X6_readFrom_J120] at hf
  obtain ⟨v1, e2, hf⟩ := gl_in hf
  refine lv_iinc (v := v1) (lv' := [(3, .int v1), (0, .ref (ad 29 0)), (1, .int p1), (2, .ref (ad 25 0))]) hx hb dX6_readFrom_120 hl (k := 3) rfl (by rw [e2]; rfl) (Nat.le_of_ble_eq_true rfl) rfl (fun ls hl => ?_)
  refine lv_goto (tgt := 70) hx hb dX6_readFrom_123 (by decide) ?_
  exact hkk p1 v1 X _ _ _ hP hS (lv_sub hl [1, 2, 3, 0] rfl) ha_l0 ha_l2 hf

set_option maxRecDepth 100000 in
set_option maxHeartbeats 4000000 in
theorem s_X6_readFrom_L70 {p : Program} {l : Launch} {e : Env} {s : State} {m : MethodId} {args : Array Value} {below : List Frame} {meth : Method} {c : Code} {D : va_G} {cA : Nat → ClassId} {ad : Nat → Nat → Nat} {NL : List (Nat × Nat)} {A : Nat → Prop} {rr : Int32} {XX : gM} {N : Nat} {k126 : gM → Option (Int32 × gM)} (C : gCx p c meth m s args cX6_readFrom 6 none RX6 D cA ad NL A) (hW : gWf NL) (hD0 : gD (fun _ => True) ad NL) (hk126 : ∀ (Y : gM) (H : Heap) (locs : List Loc) (ls : Array Slot), gH D cA ad NL Y H → va_S A s.heap H locs → lv_has ls 6 [] → k126 Y = some (rr, XX) → W p l e rm_X6_readFrom s m args below meth c H locs 0 0 (MQ below (gQ D cA ad NL none XX A) args s 0 0 A) (F0 m 126 ls [])) : ∀ (n : Nat) (p1 : Int32) (p3 : Int32) (X : gM) (H : Heap) (locs : List Loc) (ls : Array Slot), gH D cA ad NL X H → va_S A s.heap H locs → lv_has ls 6 [(0, .ref (ad 29 0)), (1, .int p1), (2, .ref (ad 25 0)), (3, .int p3)] → (29, 0) ∈ NL → (25, 0) ∈ NL → X6_readFrom_L70 (gal NL) N k126 n p1 p3 X = some (rr, XX) → W p l e rm_X6_readFrom s m args below meth c H locs 0 0 (MQ below (gQ D cA ad NL none XX A) args s 0 0 A) (F0 m 70 ls []) := by
  have hx := C.1
  have hb := C.2.1
  intro n
  induction n with
  | zero =>
    intro p1 p3 X H locs ls hP hS hl ha_l0 ha_l2 hf
    rw [X6_readFrom_L70] at hf
    cases hf
  | succ n ih =>
    intro p1 p3 X H locs ls hP hS hl ha_l0 ha_l2 hf
    rw [X6_readFrom_L70] at hf
    refine lv_iload_n hx hb dX6_readFrom_70 rfl (lv_at hl 3 rfl) ?_
    refine lv_bipush (v := 12) hx hb dX6_readFrom_71 (by decide) ?_
    refine lv_icmp_ge (tgt := 126) hx hb dX6_readFrom_73 (by decide) (fun c1 => ?_) (fun c1 => ?_)
    · have hf := g_ip c1 hf
      exact hk126 X _ _ _ hP hS (lv_sub hl [] rfl) hf
    · have hf := g_in c1 hf
      refine lv_iload_n hx hb dX6_readFrom_76 rfl (lv_at hl 3 rfl) ?_
      refine lv_aload_n hx hb dX6_readFrom_77 rfl (lv_at hl 2 rfl) ?_
      refine r_alen C hP 12 ha_l2 (ct_25 _ _ _ _) rfl rfl dX6_readFrom_78 ?_
      refine lv_icmp_ge (tgt := 126) hx hb dX6_readFrom_79 (by decide) (fun c2 => ?_) (fun c2 => ?_)
      · have hf := g_ip c2 hf
        exact hk126 X _ _ _ hP hS (lv_sub hl [] rfl) hf
      · have hf := g_in c2 hf
        refine lv_aload_n hx hb dX6_readFrom_82 rfl (lv_at hl 2 rfl) ?_
        refine lv_iload_n hx hb dX6_readFrom_83 rfl (lv_at hl 3 rfl) ?_
        obtain ⟨j3, h4, hf⟩ := rd_in hf
        refine r_aldq C hP ha_l2 (ct_25 _ _ _ _) rfl h4 dX6_readFrom_84 ?_
        refine r_astore (i := 4) (lv' := [(4, va_rf (ro ad 26 (X 25 0 j3))), (0, .ref (ad 29 0)), (1, .int p1), (2, .ref (ad 25 0)), (3, .int p3)]) C dX6_readFrom_85 hl (Nat.le_of_ble_eq_true rfl) rfl (fun ls hl => ?_)
        refine lv_aload_n hx hb dX6_readFrom_87 rfl (lv_at hl 1 rfl) ?_
        refine r_get C hP ha_l0 (ct_29 _ _ _ _) fx_X6_26 (fg_29_4 _ _ _) dX6_readFrom_88 ?_
        refine lv_iload_n hx hb dX6_readFrom_91 rfl (lv_at hl 2 rfl) ?_
        refine lv_bipush (v := 12) hx hb dX6_readFrom_92 (by decide) ?_
        refine lv_imul hx hb dX6_readFrom_94 ?_
        refine lv_iload_n hx hb dX6_readFrom_95 rfl (lv_at hl 4 rfl) ?_
        refine lv_iadd hx hb dX6_readFrom_96 ?_
        obtain ⟨j5, h6, hf⟩ := rd_in hf
        refine r_iald C hP (gs_29_4 hW ha_l0) (ct_33 _ _ _ _) h6 dX6_readFrom_97 ?_
        refine g_top hf (fun v7 e8 hf => ?_)
        refine lv_istore (i := 5) (lv' := [(5, .int v7), (4, va_rf (ro ad 26 (X 25 0 j3))), (0, .ref (ad 29 0)), (1, .int p1), (2, .ref (ad 25 0)), (3, .int p3)]) hx hb dX6_readFrom_98 hl (Nat.le_of_ble_eq_true rfl) (by simp [g_cat, g_catr, g_cati]) (fun ls hl => ?_)
        refine r_aload C dX6_readFrom_100 (lv_at hl 1 rfl) ?_
        refine r_ifnull (tgt := 120) C dX6_readFrom_102 (by decide) (fun c9 => ?_) (fun c9 => ?_)
        · have hf := g_ip c9 hf
          exact s_X6_readFrom_J120 C hW hD0 ih hk126 p1 p3 X _ _ _ hP hS (lv_sub hl [2, 3, 4, 5] rfl) ha_l0 ha_l2 hf
        · have hf := g_in c9 hf
          refine lv_iload hx hb dX6_readFrom_105 (lv_at hl 0 rfl) ?_
          refine lv_iconst (v := -1) hx hb dX6_readFrom_107 (by decide) ?_
          refine lv_icmp_eq (tgt := 120) hx hb dX6_readFrom_108 (by decide) (fun c10 => ?_) (fun c10 => ?_)
          · have hf := g_ip c10 hf
            exact s_X6_readFrom_J120 C hW hD0 ih hk126 p1 p3 X _ _ _ hP hS (lv_sub hl [2, 3, 4, 5] rfl) ha_l0 ha_l2 hf
          · have hf := g_in c10 hf
            refine lv_aload_n hx hb dX6_readFrom_111 rfl (lv_at hl 2 rfl) ?_
            refine r_aload C dX6_readFrom_112 (lv_at hl 1 rfl) ?_
            refine lv_iload hx hb dX6_readFrom_114 (lv_at hl 0 rfl) ?_
            refine lv_iload_n hx hb dX6_readFrom_116 rfl (lv_at hl 3 rfl) ?_
            obtain ⟨j11, h12, hf⟩ := dr_in hf
            rw [gref h12]
            obtain ⟨r13, X14, h15, hf⟩ := b2_in hf
            refine r_cVv (rest := []) C hP hS hl.1 (s_X6_tryWord hW hD0 ha_l0 h12.2.2 h15) ix_X6_tryWord iv_X6_tryWord lk_X6_100 ⟨rfl, rfl, Nat.le_of_ble_eq_true rfl, Nat.le_of_ble_eq_true rfl⟩ ha_l0 (ct_29 _ _ _ _) rfl rfl rfl rfl (Nat.le_of_ble_eq_true rfl) ⟨Nat.zero_le _, Nat.zero_le _⟩ dX6_readFrom_117 (fun H locs hP hS => ?_)
            exact s_X6_readFrom_J120 C hW hD0 ih hk126 p1 p3 X14 _ _ _ hP hS (lv_sub hl [2, 3, 4, 5] rfl) ha_l0 ha_l2 hf

set_option maxRecDepth 100000 in
set_option maxHeartbeats 4000000 in
theorem w_X6_readFrom {p : Program} {l : Launch} {e : Env} {s : State} {m : MethodId} {args : Array Value} {below : List Frame} {meth : Method} {c : Code} {D : va_G} {cA : Nat → ClassId} {ad : Nat → Nat → Nat} {NL : List (Nat × Nat)} {A : Nat → Prop} {rr : Int32} {XX : gM} {N : Nat} (C : gCx p c meth m s args cX6_readFrom 6 none RX6 D cA ad NL A) (hW : gWf NL) (hD0 : gD (fun _ => True) ad NL) {p1 : Int32} (ha_l0 : (29, 0) ∈ NL) (ha_l2 : (25, 0) ∈ NL) : ∀ (X : gM) (H : Heap) (locs : List Loc) (ls : Array Slot), gH D cA ad NL X H → va_S A s.heap H locs → lv_has ls 6 [(0, .ref (ad 29 0)), (1, .int p1), (2, .ref (ad 25 0))] → X6_readFrom (gal NL) N p1 X = some (rr, XX) → W p l e rm_X6_readFrom s m args below meth c H locs 0 0 (MQ below (gQ D cA ad NL none XX A) args s 0 0 A) (F0 m 0 ls []) := by
  have hx := C.1
  have hb := C.2.1
  intro X H locs ls hP hS hl hf
  rw [X6_readFrom] at hf
  refine lv_aload_n hx hb dX6_readFrom_0 rfl (lv_at hl 0 rfl) ?_
  refine r_get C hP ha_l0 (ct_29 _ _ _ _) fx_X6_15 (fg_29_1 _ _ _) dX6_readFrom_1 ?_
  refine lv_iload_n hx hb dX6_readFrom_4 rfl (lv_at hl 1 rfl) ?_
  obtain ⟨j1, h2, hf⟩ := rd_in hf
  refine r_zald C hP (gs_29_1 hW ha_l0) (ct_30 _ _ _ _) h2 dX6_readFrom_5 ?_
  refine lv_if_eq (tgt := 68) hx hb dX6_readFrom_6 (by decide) (fun c3 => ?_) (fun c3 => ?_)
  · have hf := g_ip c3 hf
    refine lv_iconst (v := 0) hx hb dX6_readFrom_68 (by decide) ?_
    refine lv_istore_n (i := 3) (lv' := [(3, .int (0 : Int32)), (0, .ref (ad 29 0)), (1, .int p1), (2, .ref (ad 25 0))]) hx hb dX6_readFrom_69 rfl hl (Nat.le_of_ble_eq_true rfl) rfl (fun ls hl => ?_)
    exact s_X6_readFrom_L70 C hW hD0 (fun Y H locs ls hP hS hl hf => s_X6_readFrom_J126 C hW hD0 Y _ _ _ hP hS hl hf) N p1 (0 : Int32) X _ _ _ hP hS (lv_sub hl [1, 2, 3, 0] rfl) ha_l0 ha_l2 hf
  · have hf := g_in c3 hf
    refine lv_aload_n hx hb dX6_readFrom_9 rfl (lv_at hl 0 rfl) ?_
    refine r_get C hP ha_l0 (ct_29 _ _ _ _) fx_X6_32 (fg_29_6 _ _ _) dX6_readFrom_10 ?_
    refine lv_iload_n hx hb dX6_readFrom_13 rfl (lv_at hl 1 rfl) ?_
    refine lv_aload_n hx hb dX6_readFrom_14 rfl (lv_at hl 0 rfl) ?_
    refine r_get C hP ha_l0 (ct_29 _ _ _ _) fx_X6_32 (fg_29_6 _ _ _) dX6_readFrom_15 ?_
    refine lv_iload_n hx hb dX6_readFrom_18 rfl (lv_at hl 1 rfl) ?_
    refine lv_iconst (v := 1) hx hb dX6_readFrom_19 (by decide) ?_
    refine lv_iadd hx hb dX6_readFrom_20 ?_
    obtain ⟨j4, h5, hf⟩ := rd_in hf
    refine r_iald C hP (gs_29_6 hW ha_l0) (ct_35 _ _ _ _) h5 dX6_readFrom_21 ?_
    obtain ⟨j6, h7, hf⟩ := rd_in hf
    refine r_iast C hP hS (gs_29_6 hW ha_l0) (fun _ => ct_35 _ _ _ _) h7 dX6_readFrom_22 (fun H locs hP hS => ?_)
    obtain ⟨X8, e9, hf⟩ := gl_in hf
    rw [← e9] at hP
    refine lv_aload_n hx hb dX6_readFrom_23 rfl (lv_at hl 0 rfl) ?_
    refine r_get C hP ha_l0 (ct_29 _ _ _ _) fx_X6_35 (fg_29_7 _ _ _) dX6_readFrom_24 ?_
    refine lv_iload_n hx hb dX6_readFrom_27 rfl (lv_at hl 1 rfl) ?_
    refine lv_aload_n hx hb dX6_readFrom_28 rfl (lv_at hl 0 rfl) ?_
    refine r_get C hP ha_l0 (ct_29 _ _ _ _) fx_X6_35 (fg_29_7 _ _ _) dX6_readFrom_29 ?_
    refine lv_iload_n hx hb dX6_readFrom_32 rfl (lv_at hl 1 rfl) ?_
    refine lv_iconst (v := 1) hx hb dX6_readFrom_33 (by decide) ?_
    refine lv_iadd hx hb dX6_readFrom_34 ?_
    obtain ⟨j10, h11, hf⟩ := rd_in hf
    refine r_iald C hP (gs_29_7 hW ha_l0) (ct_36 _ _ _ _) h11 dX6_readFrom_35 ?_
    obtain ⟨j12, h13, hf⟩ := rd_in hf
    refine r_iast C hP hS (gs_29_7 hW ha_l0) (fun _ => ct_36 _ _ _ _) h13 dX6_readFrom_36 (fun H locs hP hS => ?_)
    obtain ⟨X14, e15, hf⟩ := gl_in hf
    rw [← e15] at hP
    refine lv_aload_n hx hb dX6_readFrom_37 rfl (lv_at hl 0 rfl) ?_
    refine r_get C hP ha_l0 (ct_29 _ _ _ _) fx_X6_40 (fg_29_8 _ _ _) dX6_readFrom_38 ?_
    refine lv_iload_n hx hb dX6_readFrom_41 rfl (lv_at hl 1 rfl) ?_
    refine lv_iconst (v := 1) hx hb dX6_readFrom_42 (by decide) ?_
    refine lv_iadd hx hb dX6_readFrom_43 ?_
    obtain ⟨j16, h17, hf⟩ := rd_in hf
    refine r_aldA C hP (gs_29_8 hW ha_l0) (ct_37 _ _ _ _) h17 dX6_readFrom_44 ?_
    rw [gsome]
    refine lv_iconst (v := 0) hx hb dX6_readFrom_45 (by decide) ?_
    refine lv_aload_n hx hb dX6_readFrom_46 rfl (lv_at hl 0 rfl) ?_
    refine r_get C hP ha_l0 (ct_29 _ _ _ _) fx_X6_40 (fg_29_8 _ _ _) dX6_readFrom_47 ?_
    refine lv_iload_n hx hb dX6_readFrom_50 rfl (lv_at hl 1 rfl) ?_
    obtain ⟨j18, h19, hf⟩ := rd_in hf
    refine r_aldA C hP (gs_29_8 hW ha_l0) (ct_37 _ _ _ _) h19 dX6_readFrom_51 ?_
    rw [gsome]
    refine lv_iconst (v := 0) hx hb dX6_readFrom_52 (by decide) ?_
    refine lv_bipush (v := 8) hx hb dX6_readFrom_53 (by decide) ?_
    obtain ⟨h21, hf⟩ := cpok_in hf
    refine r_copy C hP hS hl.1 jk_X6_94 ⟨(List.mem_filter.mp jc_copy.1).1, jc_copy.2⟩ (C.2.2.2.2.1 _ jc_copy.1) (gsA_37 hW (gs_29_8 hW ha_l0) h17) (gsA_37 hW (gs_29_8 hW ha_l0) h19) (fun _ => ct_38 _ _ _ _) (fun _ => ct_38 _ _ _ _) h21 ⟨Nat.le_of_ble_eq_true rfl, Nat.le_of_ble_eq_true rfl⟩ dX6_readFrom_55 (fun H locs hP hS => ?_)
    obtain ⟨X22, e23, hf⟩ := gl_in hf
    rw [← e23] at hP
    refine lv_aload_n hx hb dX6_readFrom_58 rfl (lv_at hl 0 rfl) ?_
    refine r_get C hP ha_l0 (ct_29 _ _ _ _) fx_X6_40 (fg_29_8 _ _ _) dX6_readFrom_59 ?_
    refine lv_iload_n hx hb dX6_readFrom_62 rfl (lv_at hl 1 rfl) ?_
    obtain ⟨j24, h25, hf⟩ := rd_in hf
    refine r_aldA C hP (gs_29_8 hW ha_l0) (ct_37 _ _ _ _) h25 dX6_readFrom_63 ?_
    rw [gsome]
    refine lv_iload_n hx hb dX6_readFrom_64 rfl (lv_at hl 1 rfl) ?_
    refine lv_iconst (v := -1) hx hb dX6_readFrom_65 (by decide) ?_
    obtain ⟨j26, h27, hf⟩ := rd_in hf
    refine r_iast C hP hS (gsA_37 hW (gs_29_8 hW ha_l0) h25) (fun _ => ct_38 _ _ _ _) h27 dX6_readFrom_66 (fun H locs hP hS => ?_)
    obtain ⟨X28, e29, hf⟩ := gl_in hf
    rw [← e29] at hP
    obtain ⟨rfl, rfl⟩ := g_s1 hf
    exact r_vret C hP hS dX6_readFrom_67

theorem s_X6_readFrom {l : Launch} {D : va_G} {cA : Nat → ClassId} {ad : Nat → Nat → Nat} {NL : List (Nat × Nat)} {N : Nat} {p1 : Int32} {X : gM} {rr : Int32} {XX : gM} (hW : gWf NL) (hD0 : gD (fun _ => True) ad NL) (ha_l0 : (29, 0) ∈ NL) (ha_l2 : (25, 0) ∈ NL) (hf : X6_readFrom (gal NL) N p1 X = some (rr, XX)) : gC l yX6_readFrom cX6_readFrom 6 none rm_X6_readFrom D cA ad NL [.ref (ad 29 0), .int p1, .ref (ad 25 0)] X none XX :=
  g_ofW (by decide) hD0 (Nat.le_of_ble_eq_true rfl) rfl (fun p e s m below meth c ls C hP hS hl => w_X6_readFrom C hW hD0 ha_l0 ha_l2 X _ _ ls hP hS hl hf)
def rm_X6_read : Room := { frames := 3, cells := 0, slots := 0, locals := 75 }
set_option maxRecDepth 100000 in
set_option maxHeartbeats 4000000 in
theorem s_X6_read_J182 {p : Program} {l : Launch} {e : Env} {s : State} {m : MethodId} {args : Array Value} {below : List Frame} {meth : Method} {c : Code} {D : va_G} {cA : Nat → ClassId} {ad : Nat → Nat → Nat} {NL : List (Nat × Nat)} {A : Nat → Prop} {rr : Int32} {XX : gM} {N : Nat} (C : gCx p c meth m s args cX6_read 7 none RX6 D cA ad NL A) (hW : gWf NL) (hD0 : gD (fun _ => True) ad NL) : ∀ (X : gM) (H : Heap) (locs : List Loc) (ls : Array Slot), gH D cA ad NL X H → va_S A s.heap H locs → lv_has ls 7 [] → X6_read_J182 (gal NL) N X = some (rr, XX) → W p l e rm_X6_read s m args below meth c H locs 0 0 (MQ below (gQ D cA ad NL none XX A) args s 0 0 A) (F0 m 182 ls []) := by
  have hx := C.1
  have hb := C.2.1
  intro X H locs ls hP hS hl hf
  rw [X6_read_J182] at hf
  obtain ⟨rfl, rfl⟩ := g_s1 hf
  exact r_vret C hP hS dX6_read_182

set_option maxRecDepth 100000 in
set_option maxHeartbeats 4000000 in
theorem s_X6_read_L163 {p : Program} {l : Launch} {e : Env} {s : State} {m : MethodId} {args : Array Value} {below : List Frame} {meth : Method} {c : Code} {D : va_G} {cA : Nat → ClassId} {ad : Nat → Nat → Nat} {NL : List (Nat × Nat)} {A : Nat → Prop} {rr : Int32} {XX : gM} {N : Nat} {k182 : gM → Option (Int32 × gM)} (C : gCx p c meth m s args cX6_read 7 none RX6 D cA ad NL A) (hW : gWf NL) (hD0 : gD (fun _ => True) ad NL) (hk182 : ∀ (Y : gM) (H : Heap) (locs : List Loc) (ls : Array Slot), gH D cA ad NL Y H → va_S A s.heap H locs → lv_has ls 7 [] → k182 Y = some (rr, XX) → W p l e rm_X6_read s m args below meth c H locs 0 0 (MQ below (gQ D cA ad NL none XX A) args s 0 0 A) (F0 m 182 ls [])) : ∀ (n : Nat) (p5 : Int32) (X : gM) (H : Heap) (locs : List Loc) (ls : Array Slot), gH D cA ad NL X H → va_S A s.heap H locs → lv_has ls 7 [(0, .ref (ad 29 0)), (4, .ref (ad 25 0)), (5, .int p5)] → (29, 0) ∈ NL → (25, 0) ∈ NL → X6_read_L163 (gal NL) N k182 n p5 X = some (rr, XX) → W p l e rm_X6_read s m args below meth c H locs 0 0 (MQ below (gQ D cA ad NL none XX A) args s 0 0 A) (F0 m 163 ls []) := by
  have hx := C.1
  have hb := C.2.1
  intro n
  induction n with
  | zero =>
    intro p5 X H locs ls hP hS hl ha_l0 ha_l4 hf
    rw [X6_read_L163] at hf
    cases hf
  | succ n ih =>
    intro p5 X H locs ls hP hS hl ha_l0 ha_l4 hf
    rw [X6_read_L163] at hf
    refine lv_iload hx hb dX6_read_163 (lv_at hl 2 rfl) ?_
    refine lv_if_lt (tgt := 182) hx hb dX6_read_165 (by decide) (fun c1 => ?_) (fun c1 => ?_)
    · have hf := g_ip c1 hf
      exact hk182 X _ _ _ hP hS (lv_sub hl [] rfl) hf
    · have hf := g_in c1 hf
      refine lv_aload_n hx hb dX6_read_168 rfl (lv_at hl 0 rfl) ?_
      refine lv_iload hx hb dX6_read_169 (lv_at hl 2 rfl) ?_
      refine lv_aload hx hb dX6_read_171 (lv_at hl 1 rfl) ?_
      obtain ⟨r2, X3, h4, hf⟩ := b2_in hf
      refine r_cVv (rest := []) C hP hS hl.1 (s_X6_readFrom hW hD0 ha_l0 ha_l4 h4) ix_X6_readFrom iv_X6_readFrom lk_X6_73 ⟨rfl, rfl, Nat.le_of_ble_eq_true rfl, Nat.le_of_ble_eq_true rfl⟩ ha_l0 (ct_29 _ _ _ _) rfl rfl rfl rfl (Nat.le_of_ble_eq_true rfl) ⟨Nat.zero_le _, Nat.zero_le _⟩ dX6_read_173 (fun H locs hP hS => ?_)
      obtain ⟨v5, e6, hf⟩ := gl_in hf
      refine lv_iinc (v := v5) (lv' := [(5, .int v5), (0, .ref (ad 29 0)), (4, .ref (ad 25 0))]) hx hb dX6_read_176 hl (k := 2) rfl (by rw [e6]; rfl) (Nat.le_of_ble_eq_true rfl) rfl (fun ls hl => ?_)
      refine lv_goto (tgt := 163) hx hb dX6_read_179 (by decide) ?_
      exact ih v5 X3 _ _ _ hP hS (lv_sub hl [1, 2, 0] rfl) ha_l0 ha_l4 hf

set_option maxRecDepth 100000 in
set_option maxHeartbeats 4000000 in
theorem s_X6_read_J119 {p : Program} {l : Launch} {e : Env} {s : State} {m : MethodId} {args : Array Value} {below : List Frame} {meth : Method} {c : Code} {D : va_G} {cA : Nat → ClassId} {ad : Nat → Nat → Nat} {NL : List (Nat × Nat)} {A : Nat → Prop} {rr : Int32} {XX : gM} {N : Nat} (C : gCx p c meth m s args cX6_read 7 none RX6 D cA ad NL A) (hW : gWf NL) (hD0 : gD (fun _ => True) ad NL) : ∀ (X : gM) (H : Heap) (locs : List Loc) (ls : Array Slot), gH D cA ad NL X H → va_S A s.heap H locs → lv_has ls 7 [(0, .ref (ad 29 0)), (4, .ref (ad 25 0))] → (29, 0) ∈ NL → (25, 0) ∈ NL → X6_read_J119 (gal NL) N X = some (rr, XX) → W p l e rm_X6_read s m args below meth c H locs 0 0 (MQ below (gQ D cA ad NL none XX A) args s 0 0 A) (F0 m 119 ls []) := by
  have hx := C.1
  have hb := C.2.1
  intro X H locs ls hP hS hl ha_l0 ha_l4 hf
  rw [X6_read_J119] at hf
  refine lv_aload_n hx hb dX6_read_119 rfl (lv_at hl 0 rfl) ?_
  refine r_get C hP ha_l0 (ct_29 _ _ _ _) fx_X6_32 (fg_29_6 _ _ _) dX6_read_120 ?_
  refine lv_iconst (v := -1) hx hb dX6_read_123 (by decide) ?_
  refine r_cSv (rest := []) C hP hS hl.1 (s_J7_fill_53178 hD0 (gs_29_6 hW ha_l0) (fun _ => ct_35 _ _ _ _) (by decide)) ix_J7_fill_53178 is_J7_fill_53178 ls_X6_55 ⟨rfl, rfl, Nat.le_of_ble_eq_true rfl, Nat.le_of_ble_eq_true rfl⟩ rfl rfl (Nat.le_of_ble_eq_true rfl) ⟨Nat.zero_le _, Nat.zero_le _⟩ dX6_read_124 (fun H locs hP hS => ?_)
  obtain ⟨X1, e2, hf⟩ := gl_in hf
  rw [← e2] at hP
  refine lv_aload_n hx hb dX6_read_127 rfl (lv_at hl 0 rfl) ?_
  refine r_get C hP ha_l0 (ct_29 _ _ _ _) fx_X6_35 (fg_29_7 _ _ _) dX6_read_128 ?_
  refine lv_iconst (v := 0) hx hb dX6_read_131 (by decide) ?_
  refine r_cSv (rest := []) C hP hS hl.1 (s_J7_fill_53178 hD0 (gs_29_7 hW ha_l0) (fun _ => ct_36 _ _ _ _) (by decide)) ix_J7_fill_53178 is_J7_fill_53178 ls_X6_55 ⟨rfl, rfl, Nat.le_of_ble_eq_true rfl, Nat.le_of_ble_eq_true rfl⟩ rfl rfl (Nat.le_of_ble_eq_true rfl) ⟨Nat.zero_le _, Nat.zero_le _⟩ dX6_read_132 (fun H locs hP hS => ?_)
  obtain ⟨X3, e4, hf⟩ := gl_in hf
  rw [← e4] at hP
  refine lv_aload_n hx hb dX6_read_135 rfl (lv_at hl 0 rfl) ?_
  refine r_get C hP ha_l0 (ct_29 _ _ _ _) fx_X6_32 (fg_29_6 _ _ _) dX6_read_136 ?_
  refine lv_aload_n hx hb dX6_read_139 rfl (lv_at hl 0 rfl) ?_
  refine r_get C hP ha_l0 (ct_29 _ _ _ _) fx_X6_9 (fg_29_0 _ _ _) dX6_read_140 ?_
  refine lv_iconst (v := 0) hx hb dX6_read_143 (by decide) ?_
  obtain ⟨j5, h6, hf⟩ := rd_in hf
  refine r_iast C hP hS (gs_29_6 hW ha_l0) (fun _ => ct_35 _ _ _ _) h6 dX6_read_144 (fun H locs hP hS => ?_)
  obtain ⟨X7, e8, hf⟩ := gl_in hf
  rw [← e8] at hP
  refine lv_aload_n hx hb dX6_read_145 rfl (lv_at hl 0 rfl) ?_
  refine r_get C hP ha_l0 (ct_29 _ _ _ _) fx_X6_35 (fg_29_7 _ _ _) dX6_read_146 ?_
  refine lv_aload_n hx hb dX6_read_149 rfl (lv_at hl 0 rfl) ?_
  refine r_get C hP ha_l0 (ct_29 _ _ _ _) fx_X6_9 (fg_29_0 _ _ _) dX6_read_150 ?_
  refine lv_iconst (v := 1) hx hb dX6_read_153 (by decide) ?_
  obtain ⟨j9, h10, hf⟩ := rd_in hf
  refine r_iast C hP hS (gs_29_7 hW ha_l0) (fun _ => ct_36 _ _ _ _) h10 dX6_read_154 (fun H locs hP hS => ?_)
  obtain ⟨X11, e12, hf⟩ := gl_in hf
  rw [← e12] at hP
  refine lv_aload_n hx hb dX6_read_155 rfl (lv_at hl 0 rfl) ?_
  refine r_get C hP ha_l0 (ct_29 _ _ _ _) fx_X6_9 (fg_29_0 _ _ _) dX6_read_156 ?_
  refine lv_iconst (v := 1) hx hb dX6_read_159 (by decide) ?_
  refine lv_isub hx hb dX6_read_160 ?_
  refine g_top hf (fun v13 e14 hf => ?_)
  refine lv_istore (i := 5) (lv' := [(5, .int v13), (0, .ref (ad 29 0)), (4, .ref (ad 25 0))]) hx hb dX6_read_161 hl (Nat.le_of_ble_eq_true rfl) rfl (fun ls hl => ?_)
  exact s_X6_read_L163 C hW hD0 (fun Y H locs ls hP hS hl hf => s_X6_read_J182 C hW hD0 Y _ _ _ hP hS hl hf) N v13 X11 _ _ _ hP hS (lv_sub hl [1, 2, 0] rfl) ha_l0 ha_l4 hf

set_option maxRecDepth 100000 in
set_option maxHeartbeats 4000000 in
theorem s_X6_read_J113 {p : Program} {l : Launch} {e : Env} {s : State} {m : MethodId} {args : Array Value} {below : List Frame} {meth : Method} {c : Code} {D : va_G} {cA : Nat → ClassId} {ad : Nat → Nat → Nat} {NL : List (Nat × Nat)} {A : Nat → Prop} {rr : Int32} {XX : gM} {N : Nat} {kk : Int32 → gM → Option (Int32 × gM)} {k119 : gM → Option (Int32 × gM)} (C : gCx p c meth m s args cX6_read 7 none RX6 D cA ad NL A) (hW : gWf NL) (hD0 : gD (fun _ => True) ad NL) (hkk : ∀ (p5 : Int32) (Y : gM) (H : Heap) (locs : List Loc) (ls : Array Slot), gH D cA ad NL Y H → va_S A s.heap H locs → lv_has ls 7 [(0, .ref (ad 29 0)), (4, .ref (ad 25 0)), (5, .int p5)] → (29, 0) ∈ NL → (25, 0) ∈ NL → kk p5 Y = some (rr, XX) → W p l e rm_X6_read s m args below meth c H locs 0 0 (MQ below (gQ D cA ad NL none XX A) args s 0 0 A) (F0 m 56 ls [])) (hk119 : ∀ (Y : gM) (H : Heap) (locs : List Loc) (ls : Array Slot), gH D cA ad NL Y H → va_S A s.heap H locs → lv_has ls 7 [(0, .ref (ad 29 0)), (4, .ref (ad 25 0))] → (29, 0) ∈ NL → (25, 0) ∈ NL → k119 Y = some (rr, XX) → W p l e rm_X6_read s m args below meth c H locs 0 0 (MQ below (gQ D cA ad NL none XX A) args s 0 0 A) (F0 m 119 ls [])) : ∀ (p5 : Int32) (X : gM) (H : Heap) (locs : List Loc) (ls : Array Slot), gH D cA ad NL X H → va_S A s.heap H locs → lv_has ls 7 [(0, .ref (ad 29 0)), (4, .ref (ad 25 0)), (5, .int p5)] → (29, 0) ∈ NL → (25, 0) ∈ NL → X6_read_J113 (gal NL) N kk k119 p5 X = some (rr, XX) → W p l e rm_X6_read s m args below meth c H locs 0 0 (MQ below (gQ D cA ad NL none XX A) args s 0 0 A) (F0 m 113 ls []) := by
  have hx := C.1
  have hb := C.2.1
  intro p5 X H locs ls hP hS hl ha_l0 ha_l4 hf
  rw [X6_read_J113] at hf
  obtain ⟨v1, e2, hf⟩ := gl_in hf
  refine lv_iinc (v := v1) (lv' := [(5, .int v1), (0, .ref (ad 29 0)), (4, .ref (ad 25 0))]) hx hb dX6_read_113 hl (k := 2) rfl (by rw [e2]; rfl) (Nat.le_of_ble_eq_true rfl) rfl (fun ls hl => ?_)
  refine lv_goto (tgt := 56) hx hb dX6_read_116 (by decide) ?_
  exact hkk v1 X _ _ _ hP hS (lv_sub hl [1, 2, 0] rfl) ha_l0 ha_l4 hf

set_option maxRecDepth 100000 in
set_option maxHeartbeats 4000000 in
theorem s_X6_read_L68 {p : Program} {l : Launch} {e : Env} {s : State} {m : MethodId} {args : Array Value} {below : List Frame} {meth : Method} {c : Code} {D : va_G} {cA : Nat → ClassId} {ad : Nat → Nat → Nat} {NL : List (Nat × Nat)} {A : Nat → Prop} {rr : Int32} {XX : gM} {N : Nat} {k113 : Int32 → gM → Option (Int32 × gM)} (C : gCx p c meth m s args cX6_read 7 none RX6 D cA ad NL A) (hW : gWf NL) (hD0 : gD (fun _ => True) ad NL) (hk113 : ∀ (p5 : Int32) (Y : gM) (H : Heap) (locs : List Loc) (ls : Array Slot), gH D cA ad NL Y H → va_S A s.heap H locs → lv_has ls 7 [(0, .ref (ad 29 0)), (4, .ref (ad 25 0)), (5, .int p5)] → (29, 0) ∈ NL → (25, 0) ∈ NL → k113 p5 Y = some (rr, XX) → W p l e rm_X6_read s m args below meth c H locs 0 0 (MQ below (gQ D cA ad NL none XX A) args s 0 0 A) (F0 m 113 ls [])) : ∀ (n : Nat) (p5 : Int32) (p6 : Int32) (X : gM) (H : Heap) (locs : List Loc) (ls : Array Slot), gH D cA ad NL X H → va_S A s.heap H locs → lv_has ls 7 [(0, .ref (ad 29 0)), (4, .ref (ad 25 0)), (5, .int p5), (6, .int p6)] → (29, 0) ∈ NL → (25, 0) ∈ NL → X6_read_L68 (gal NL) N k113 n p5 p6 X = some (rr, XX) → W p l e rm_X6_read s m args below meth c H locs 0 0 (MQ below (gQ D cA ad NL none XX A) args s 0 0 A) (F0 m 68 ls []) := by
  have hx := C.1
  have hb := C.2.1
  intro n
  induction n with
  | zero =>
    intro p5 p6 X H locs ls hP hS hl ha_l0 ha_l4 hf
    rw [X6_read_L68] at hf
    cases hf
  | succ n ih =>
    intro p5 p6 X H locs ls hP hS hl ha_l0 ha_l4 hf
    rw [X6_read_L68] at hf
    refine lv_iload hx hb dX6_read_68 (lv_at hl 3 rfl) ?_
    refine lv_bipush (v := 12) hx hb dX6_read_70 (by decide) ?_
    refine lv_icmp_ge (tgt := 113) hx hb dX6_read_72 (by decide) (fun c1 => ?_) (fun c1 => ?_)
    · have hf := g_ip c1 hf
      exact hk113 p5 X _ _ _ hP hS (lv_sub hl [0, 1, 2] rfl) ha_l0 ha_l4 hf
    · have hf := g_in c1 hf
      refine lv_iload hx hb dX6_read_75 (lv_at hl 3 rfl) ?_
      refine lv_aload hx hb dX6_read_77 (lv_at hl 1 rfl) ?_
      refine r_alen C hP 12 ha_l4 (ct_25 _ _ _ _) rfl rfl dX6_read_79 ?_
      refine lv_icmp_ge (tgt := 113) hx hb dX6_read_80 (by decide) (fun c2 => ?_) (fun c2 => ?_)
      · have hf := g_ip c2 hf
        exact hk113 p5 X _ _ _ hP hS (lv_sub hl [0, 1, 2] rfl) ha_l0 ha_l4 hf
      · have hf := g_in c2 hf
        refine lv_aload_n hx hb dX6_read_83 rfl (lv_at hl 0 rfl) ?_
        refine r_get C hP ha_l0 (ct_29 _ _ _ _) fx_X6_26 (fg_29_4 _ _ _) dX6_read_84 ?_
        refine lv_iload hx hb dX6_read_87 (lv_at hl 2 rfl) ?_
        refine lv_bipush (v := 12) hx hb dX6_read_89 (by decide) ?_
        refine lv_imul hx hb dX6_read_91 ?_
        refine lv_iload hx hb dX6_read_92 (lv_at hl 3 rfl) ?_
        refine lv_iadd hx hb dX6_read_94 ?_
        refine lv_aload_n hx hb dX6_read_95 rfl (lv_at hl 0 rfl) ?_
        refine lv_aload hx hb dX6_read_96 (lv_at hl 1 rfl) ?_
        refine lv_iload hx hb dX6_read_98 (lv_at hl 3 rfl) ?_
        obtain ⟨j3, h4, hf⟩ := rd_in hf
        refine r_aldq C hP ha_l4 (ct_25 _ _ _ _) rfl h4 dX6_read_100 ?_
        refine lv_iload hx hb dX6_read_101 (lv_at hl 2 rfl) ?_
        obtain ⟨r5, X6, h7, hf⟩ := b2_in hf
        refine r_cVi (rest := [.int ((p5 * (12 : Int32)) + p6), .ref (ad 33 0)]) C hP hS hl.1 (s_X6_fitOf hW hD0 ha_l0 h7) ix_X6_fitOf iv_X6_fitOf lk_X6_69 ⟨rfl, rfl, Nat.le_of_ble_eq_true rfl, Nat.le_of_ble_eq_true rfl⟩ ha_l0 (ct_29 _ _ _ _) rfl rfl rfl rfl (Nat.le_of_ble_eq_true rfl) ⟨Nat.zero_le _, Nat.zero_le _⟩ dX6_read_103 (fun H locs hP hS => ?_)
        obtain ⟨j8, h9, hf⟩ := rd_in hf
        refine r_iast C hP hS (gs_29_4 hW ha_l0) (fun _ => ct_33 _ _ _ _) h9 dX6_read_106 (fun H locs hP hS => ?_)
        obtain ⟨X10, e11, hf⟩ := gl_in hf
        rw [← e11] at hP
        obtain ⟨v12, e13, hf⟩ := gl_in hf
        refine lv_iinc (v := v12) (lv' := [(6, .int v12), (0, .ref (ad 29 0)), (4, .ref (ad 25 0)), (5, .int p5)]) hx hb dX6_read_107 hl (k := 3) rfl (by rw [e13]; rfl) (Nat.le_of_ble_eq_true rfl) rfl (fun ls hl => ?_)
        refine lv_goto (tgt := 68) hx hb dX6_read_110 (by decide) ?_
        exact ih p5 v12 X10 _ _ _ hP hS (lv_sub hl [1, 2, 3, 0] rfl) ha_l0 ha_l4 hf

set_option maxRecDepth 100000 in
set_option maxHeartbeats 4000000 in
theorem s_X6_read_L56 {p : Program} {l : Launch} {e : Env} {s : State} {m : MethodId} {args : Array Value} {below : List Frame} {meth : Method} {c : Code} {D : va_G} {cA : Nat → ClassId} {ad : Nat → Nat → Nat} {NL : List (Nat × Nat)} {A : Nat → Prop} {rr : Int32} {XX : gM} {N : Nat} {k119 : gM → Option (Int32 × gM)} (C : gCx p c meth m s args cX6_read 7 none RX6 D cA ad NL A) (hW : gWf NL) (hD0 : gD (fun _ => True) ad NL) (hk119 : ∀ (Y : gM) (H : Heap) (locs : List Loc) (ls : Array Slot), gH D cA ad NL Y H → va_S A s.heap H locs → lv_has ls 7 [(0, .ref (ad 29 0)), (4, .ref (ad 25 0))] → (29, 0) ∈ NL → (25, 0) ∈ NL → k119 Y = some (rr, XX) → W p l e rm_X6_read s m args below meth c H locs 0 0 (MQ below (gQ D cA ad NL none XX A) args s 0 0 A) (F0 m 119 ls [])) : ∀ (n : Nat) (p5 : Int32) (X : gM) (H : Heap) (locs : List Loc) (ls : Array Slot), gH D cA ad NL X H → va_S A s.heap H locs → lv_has ls 7 [(0, .ref (ad 29 0)), (4, .ref (ad 25 0)), (5, .int p5)] → (29, 0) ∈ NL → (25, 0) ∈ NL → X6_read_L56 (gal NL) N k119 n p5 X = some (rr, XX) → W p l e rm_X6_read s m args below meth c H locs 0 0 (MQ below (gQ D cA ad NL none XX A) args s 0 0 A) (F0 m 56 ls []) := by
  have hx := C.1
  have hb := C.2.1
  intro n
  induction n with
  | zero =>
    intro p5 X H locs ls hP hS hl ha_l0 ha_l4 hf
    rw [X6_read_L56] at hf
    cases hf
  | succ n ih =>
    intro p5 X H locs ls hP hS hl ha_l0 ha_l4 hf
    rw [X6_read_L56] at hf
    refine lv_iload hx hb dX6_read_56 (lv_at hl 2 rfl) ?_
    refine lv_aload_n hx hb dX6_read_58 rfl (lv_at hl 0 rfl) ?_
    refine r_get C hP ha_l0 (ct_29 _ _ _ _) fx_X6_9 (fg_29_0 _ _ _) dX6_read_59 ?_
    refine lv_icmp_ge (tgt := 119) hx hb dX6_read_62 (by decide) (fun c1 => ?_) (fun c1 => ?_)
    · have hf := g_ip c1 hf
      exact hk119 X _ _ _ hP hS (lv_sub hl [0, 1] rfl) ha_l0 ha_l4 hf
    · have hf := g_in c1 hf
      refine lv_iconst (v := 0) hx hb dX6_read_65 (by decide) ?_
      refine lv_istore (i := 6) (lv' := [(6, .int (0 : Int32)), (0, .ref (ad 29 0)), (4, .ref (ad 25 0)), (5, .int p5)]) hx hb dX6_read_66 hl (Nat.le_of_ble_eq_true rfl) rfl (fun ls hl => ?_)
      exact s_X6_read_L68 C hW hD0 (fun p5 Y H locs ls hP hS hl ha_l0 ha_l4 hf => s_X6_read_J113 C hW hD0 ih hk119 p5 Y _ _ _ hP hS hl ha_l0 ha_l4 hf) N p5 (0 : Int32) X _ _ _ hP hS (lv_sub hl [1, 2, 3, 0] rfl) ha_l0 ha_l4 hf

set_option maxRecDepth 100000 in
set_option maxHeartbeats 4000000 in
theorem s_X6_read_J53 {p : Program} {l : Launch} {e : Env} {s : State} {m : MethodId} {args : Array Value} {below : List Frame} {meth : Method} {c : Code} {D : va_G} {cA : Nat → ClassId} {ad : Nat → Nat → Nat} {NL : List (Nat × Nat)} {A : Nat → Prop} {rr : Int32} {XX : gM} {N : Nat} (C : gCx p c meth m s args cX6_read 7 none RX6 D cA ad NL A) (hW : gWf NL) (hD0 : gD (fun _ => True) ad NL) : ∀ (X : gM) (H : Heap) (locs : List Loc) (ls : Array Slot), gH D cA ad NL X H → va_S A s.heap H locs → lv_has ls 7 [(0, .ref (ad 29 0)), (4, .ref (ad 25 0))] → (29, 0) ∈ NL → (25, 0) ∈ NL → X6_read_J53 (gal NL) N X = some (rr, XX) → W p l e rm_X6_read s m args below meth c H locs 0 0 (MQ below (gQ D cA ad NL none XX A) args s 0 0 A) (F0 m 53 ls []) := by
  have hx := C.1
  have hb := C.2.1
  intro X H locs ls hP hS hl ha_l0 ha_l4 hf
  rw [X6_read_J53] at hf
  refine lv_iconst (v := 0) hx hb dX6_read_53 (by decide) ?_
  refine lv_istore (i := 5) (lv' := [(5, .int (0 : Int32)), (0, .ref (ad 29 0)), (4, .ref (ad 25 0))]) hx hb dX6_read_54 hl (Nat.le_of_ble_eq_true rfl) rfl (fun ls hl => ?_)
  exact s_X6_read_L56 C hW hD0 (fun Y H locs ls hP hS hl ha_l0 ha_l4 hf => s_X6_read_J119 C hW hD0 Y _ _ _ hP hS hl ha_l0 ha_l4 hf) N (0 : Int32) X _ _ _ hP hS (lv_sub hl [1, 2, 0] rfl) ha_l0 ha_l4 hf

set_option maxRecDepth 100000 in
set_option maxHeartbeats 4000000 in
theorem s_X6_read_L24 {p : Program} {l : Launch} {e : Env} {s : State} {m : MethodId} {args : Array Value} {below : List Frame} {meth : Method} {c : Code} {D : va_G} {cA : Nat → ClassId} {ad : Nat → Nat → Nat} {NL : List (Nat × Nat)} {A : Nat → Prop} {rr : Int32} {XX : gM} {N : Nat} {k53 : gM → Option (Int32 × gM)} (C : gCx p c meth m s args cX6_read 7 none RX6 D cA ad NL A) (hW : gWf NL) (hD0 : gD (fun _ => True) ad NL) (hk53 : ∀ (Y : gM) (H : Heap) (locs : List Loc) (ls : Array Slot), gH D cA ad NL Y H → va_S A s.heap H locs → lv_has ls 7 [(0, .ref (ad 29 0)), (4, .ref (ad 25 0))] → (29, 0) ∈ NL → (25, 0) ∈ NL → k53 Y = some (rr, XX) → W p l e rm_X6_read s m args below meth c H locs 0 0 (MQ below (gQ D cA ad NL none XX A) args s 0 0 A) (F0 m 53 ls [])) : ∀ (n : Nat) (p1 : Nat) (p2 : Int32) (p3 : Int32) (p5 : Int32) (X : gM) (H : Heap) (locs : List Loc) (ls : Array Slot), gH D cA ad NL X H → va_S A s.heap H locs → lv_has ls 7 [(0, .ref (ad 29 0)), (1, .ref (ad 5 p1)), (2, .int p2), (3, .int p3), (4, .ref (ad 25 0)), (5, .int p5)] → (29, 0) ∈ NL → (5, p1) ∈ NL → (25, 0) ∈ NL → X6_read_L24 (gal NL) N k53 n p1 p2 p3 p5 X = some (rr, XX) → W p l e rm_X6_read s m args below meth c H locs 0 0 (MQ below (gQ D cA ad NL none XX A) args s 0 0 A) (F0 m 24 ls []) := by
  have hx := C.1
  have hb := C.2.1
  intro n
  induction n with
  | zero =>
    intro p1 p2 p3 p5 X H locs ls hP hS hl ha_l0 ha_l1 ha_l4 hf
    rw [X6_read_L24] at hf
    cases hf
  | succ n ih =>
    intro p1 p2 p3 p5 X H locs ls hP hS hl ha_l0 ha_l1 ha_l4 hf
    rw [X6_read_L24] at hf
    refine lv_iload hx hb dX6_read_24 (lv_at hl 5 rfl) ?_
    refine lv_aload_n hx hb dX6_read_26 rfl (lv_at hl 0 rfl) ?_
    refine r_get C hP ha_l0 (ct_29 _ _ _ _) fx_X6_9 (fg_29_0 _ _ _) dX6_read_27 ?_
    refine lv_icmp_ge (tgt := 53) hx hb dX6_read_30 (by decide) (fun c1 => ?_) (fun c1 => ?_)
    · have hf := g_ip c1 hf
      exact hk53 X _ _ _ hP hS (lv_sub hl [0, 4] rfl) ha_l0 ha_l4 hf
    · have hf := g_in c1 hf
      refine lv_aload_n hx hb dX6_read_33 rfl (lv_at hl 0 rfl) ?_
      refine lv_aload_n hx hb dX6_read_34 rfl (lv_at hl 1 rfl) ?_
      refine lv_iload_n hx hb dX6_read_35 rfl (lv_at hl 2 rfl) ?_
      refine lv_iload hx hb dX6_read_36 (lv_at hl 5 rfl) ?_
      obtain ⟨r2, X3, h4, hf⟩ := b2_in hf
      refine r_cVq (rest := [.ref (ad 29 0)]) C hP hS hl.1 (s_X2_cellAt hW hD0 ha_l1 h4) ix_X2_cellAt iv_X2_cellAt lk_X6_61 ⟨rfl, rfl, Nat.le_of_ble_eq_true rfl, Nat.le_of_ble_eq_true rfl⟩ ha_l1 (ct_5 _ _ _ _) rfl rfl rfl rfl (Nat.le_of_ble_eq_true rfl) ⟨Nat.zero_le _, Nat.zero_le _⟩ dX6_read_38 (fun H locs hP hS => ?_)
      refine lv_iload hx hb dX6_read_41 (lv_at hl 5 rfl) ?_
      refine lv_iload_n hx hb dX6_read_43 rfl (lv_at hl 3 rfl) ?_
      obtain ⟨r5, X6, h7, hf⟩ := b2_in hf
      refine r_cVv (rest := []) C hP hS hl.1 (s_X6_load hW hD0 ha_l0 h7) ix_X6_load iv_X6_load lk_X6_65 ⟨rfl, rfl, Nat.le_of_ble_eq_true rfl, Nat.le_of_ble_eq_true rfl⟩ ha_l0 (ct_29 _ _ _ _) rfl rfl rfl rfl (Nat.le_of_ble_eq_true rfl) ⟨Nat.zero_le _, Nat.zero_le _⟩ dX6_read_44 (fun H locs hP hS => ?_)
      obtain ⟨v8, e9, hf⟩ := gl_in hf
      refine lv_iinc (v := v8) (lv' := [(5, .int v8), (0, .ref (ad 29 0)), (1, .ref (ad 5 p1)), (2, .int p2), (3, .int p3), (4, .ref (ad 25 0))]) hx hb dX6_read_47 hl (k := 5) rfl (by rw [e9]; rfl) (Nat.le_of_ble_eq_true rfl) rfl (fun ls hl => ?_)
      refine lv_goto (tgt := 24) hx hb dX6_read_50 (by decide) ?_
      exact ih p1 p2 p3 v8 X6 _ _ _ hP hS (lv_sub hl [1, 2, 3, 4, 5, 0] rfl) ha_l0 ha_l1 ha_l4 hf

set_option maxRecDepth 100000 in
set_option maxHeartbeats 4000000 in
theorem w_X6_read {p : Program} {l : Launch} {e : Env} {s : State} {m : MethodId} {args : Array Value} {below : List Frame} {meth : Method} {c : Code} {D : va_G} {cA : Nat → ClassId} {ad : Nat → Nat → Nat} {NL : List (Nat × Nat)} {A : Nat → Prop} {rr : Int32} {XX : gM} {N : Nat} (C : gCx p c meth m s args cX6_read 7 none RX6 D cA ad NL A) (hW : gWf NL) (hD0 : gD (fun _ => True) ad NL) {p1 : Nat} {p2 : Int32} {p3 : Int32} (ha_l0 : (29, 0) ∈ NL) (ha_l1 : (5, p1) ∈ NL) (ha_l4 : (25, 0) ∈ NL) : ∀ (X : gM) (H : Heap) (locs : List Loc) (ls : Array Slot), gH D cA ad NL X H → va_S A s.heap H locs → lv_has ls 7 [(0, .ref (ad 29 0)), (1, .ref (ad 5 p1)), (2, .int p2), (3, .int p3), (4, .ref (ad 25 0))] → X6_read (gal NL) N p1 p2 p3 X = some (rr, XX) → W p l e rm_X6_read s m args below meth c H locs 0 0 (MQ below (gQ D cA ad NL none XX A) args s 0 0 A) (F0 m 0 ls []) := by
  have hx := C.1
  have hb := C.2.1
  intro X H locs ls hP hS hl hf
  rw [X6_read] at hf
  refine lv_aload_n hx hb dX6_read_0 rfl (lv_at hl 0 rfl) ?_
  refine lv_aload_n hx hb dX6_read_1 rfl (lv_at hl 1 rfl) ?_
  refine r_get C hP ha_l1 (ct_5 _ _ _ _) fx_X6_46 (fg_5_3 _ _ _) dX6_read_2 ?_
  refine lv_bipush (v := 8) hx hb dX6_read_5 (by decide) ?_
  refine r_mmin C hl.1 jm_X6_49 jx_min.1 jx_min.2.1 jx_min.2.2 ⟨Nat.le_of_ble_eq_true rfl, Nat.le_of_ble_eq_true rfl, Nat.le_of_ble_eq_true rfl, Nat.le_of_ble_eq_true rfl⟩ dX6_read_7 ?_
  refine g_top hf (fun v1 e2 hf => ?_)
  refine r_put C hP hS v1 ha_l0 (ct_29 _ _ _ _) px_X6_9 (fp_29_0 _ _ _ _ _) (Nat.le_of_ble_eq_true rfl) rfl rfl dX6_read_10 (fun H locs hP hS => ?_)
  obtain ⟨X3, e4, hf⟩ := gl_in hf
  rw [← e4] at hP
  refine lv_aload_n hx hb dX6_read_13 rfl (lv_at hl 0 rfl) ?_
  refine r_get C hP ha_l0 (ct_29 _ _ _ _) fx_X6_23 (fg_29_3 _ _ _) dX6_read_14 ?_
  refine lv_iconst (v := 0) hx hb dX6_read_17 (by decide) ?_
  refine r_cSv (rest := []) C hP hS hl.1 (s_J7_fill_53178 hD0 (gs_29_3 hW ha_l0) (fun _ => ct_32 _ _ _ _) (by decide)) ix_J7_fill_53178 is_J7_fill_53178 ls_X6_55 ⟨rfl, rfl, Nat.le_of_ble_eq_true rfl, Nat.le_of_ble_eq_true rfl⟩ rfl rfl (Nat.le_of_ble_eq_true rfl) ⟨Nat.zero_le _, Nat.zero_le _⟩ dX6_read_18 (fun H locs hP hS => ?_)
  obtain ⟨X5, e6, hf⟩ := gl_in hf
  rw [← e6] at hP
  refine lv_iconst (v := 0) hx hb dX6_read_21 (by decide) ?_
  refine lv_istore (i := 5) (lv' := [(5, .int (0 : Int32)), (0, .ref (ad 29 0)), (1, .ref (ad 5 p1)), (2, .int p2), (3, .int p3), (4, .ref (ad 25 0))]) hx hb dX6_read_22 hl (Nat.le_of_ble_eq_true rfl) rfl (fun ls hl => ?_)
  exact s_X6_read_L24 C hW hD0 (fun Y H locs ls hP hS hl ha_l0 ha_l4 hf => s_X6_read_J53 C hW hD0 Y _ _ _ hP hS hl ha_l0 ha_l4 hf) N p1 p2 p3 (0 : Int32) X5 _ _ _ hP hS (lv_sub hl [1, 2, 3, 4, 5, 0] rfl) ha_l0 ha_l1 ha_l4 hf

theorem s_X6_read {l : Launch} {D : va_G} {cA : Nat → ClassId} {ad : Nat → Nat → Nat} {NL : List (Nat × Nat)} {N : Nat} {p1 : Nat} {p2 : Int32} {p3 : Int32} {X : gM} {rr : Int32} {XX : gM} (hW : gWf NL) (hD0 : gD (fun _ => True) ad NL) (ha_l0 : (29, 0) ∈ NL) (ha_l1 : (5, p1) ∈ NL) (ha_l4 : (25, 0) ∈ NL) (hf : X6_read (gal NL) N p1 p2 p3 X = some (rr, XX)) : gC l yX6_read cX6_read 7 none rm_X6_read D cA ad NL [.ref (ad 29 0), .ref (ad 5 p1), .int p2, .int p3, .ref (ad 25 0)] X none XX :=
  g_ofW (by decide) hD0 (Nat.le_of_ble_eq_true rfl) rfl (fun p e s m below meth c ls C hP hS hl => w_X6_read C hW hD0 ha_l0 ha_l1 ha_l4 X _ _ ls hP hS hl hf)
def rm_X6_gatherWord : Room := { frames := 1, cells := 0, slots := 0, locals := 21 }
set_option maxRecDepth 100000 in
set_option maxHeartbeats 4000000 in
theorem s_X6_gatherWord_J117 {p : Program} {l : Launch} {e : Env} {s : State} {m : MethodId} {args : Array Value} {below : List Frame} {meth : Method} {c : Code} {D : va_G} {cA : Nat → ClassId} {ad : Nat → Nat → Nat} {NL : List (Nat × Nat)} {A : Nat → Prop} {rr : Int32} {XX : gM} {N : Nat} (C : gCx p c meth m s args cX6_gatherWord 7 none RX6 D cA ad NL A) (hW : gWf NL) (hD0 : gD (fun _ => True) ad NL) : ∀ (X : gM) (H : Heap) (locs : List Loc) (ls : Array Slot), gH D cA ad NL X H → va_S A s.heap H locs → lv_has ls 7 [] → X6_gatherWord_J117 (gal NL) N X = some (rr, XX) → W p l e rm_X6_gatherWord s m args below meth c H locs 0 0 (MQ below (gQ D cA ad NL none XX A) args s 0 0 A) (F0 m 117 ls []) := by
  have hx := C.1
  have hb := C.2.1
  intro X H locs ls hP hS hl hf
  rw [X6_gatherWord_J117] at hf
  obtain ⟨rfl, rfl⟩ := g_s1 hf
  exact r_vret C hP hS dX6_gatherWord_117

set_option maxRecDepth 100000 in
set_option maxHeartbeats 4000000 in
theorem s_X6_gatherWord_L81 {p : Program} {l : Launch} {e : Env} {s : State} {m : MethodId} {args : Array Value} {below : List Frame} {meth : Method} {c : Code} {D : va_G} {cA : Nat → ClassId} {ad : Nat → Nat → Nat} {NL : List (Nat × Nat)} {A : Nat → Prop} {rr : Int32} {XX : gM} {N : Nat} {k117 : gM → Option (Int32 × gM)} (C : gCx p c meth m s args cX6_gatherWord 7 none RX6 D cA ad NL A) (hW : gWf NL) (hD0 : gD (fun _ => True) ad NL) (hk117 : ∀ (Y : gM) (H : Heap) (locs : List Loc) (ls : Array Slot), gH D cA ad NL Y H → va_S A s.heap H locs → lv_has ls 7 [] → k117 Y = some (rr, XX) → W p l e rm_X6_gatherWord s m args below meth c H locs 0 0 (MQ below (gQ D cA ad NL none XX A) args s 0 0 A) (F0 m 117 ls [])) : ∀ (n : Nat) (p1 : Nat) (p3 : Int32) (p6 : Int32) (X : gM) (H : Heap) (locs : List Loc) (ls : Array Slot), gH D cA ad NL X H → va_S A s.heap H locs → lv_has ls 7 [(0, .ref (ad 29 0)), (1, .ref (ad 26 p1)), (3, .int p3), (6, .int p6)] → (29, 0) ∈ NL → (26, p1) ∈ NL → X6_gatherWord_L81 (gal NL) N k117 n p1 p3 p6 X = some (rr, XX) → W p l e rm_X6_gatherWord s m args below meth c H locs 0 0 (MQ below (gQ D cA ad NL none XX A) args s 0 0 A) (F0 m 81 ls []) := by
  have hx := C.1
  have hb := C.2.1
  intro n
  induction n with
  | zero =>
    intro p1 p3 p6 X H locs ls hP hS hl ha_l0 ha_l1 hf
    rw [X6_gatherWord_L81] at hf
    cases hf
  | succ n ih =>
    intro p1 p3 p6 X H locs ls hP hS hl ha_l0 ha_l1 hf
    rw [X6_gatherWord_L81] at hf
    refine lv_iload hx hb dX6_gatherWord_81 (lv_at hl 3 rfl) ?_
    refine lv_aload_n hx hb dX6_gatherWord_83 rfl (lv_at hl 1 rfl) ?_
    refine r_get C hP ha_l1 (ct_26 _ _ _ _) fx_X6_86 (fg_26_1 _ _ _) dX6_gatherWord_84 ?_
    refine lv_icmp_ge (tgt := 117) hx hb dX6_gatherWord_87 (by decide) (fun c1 => ?_) (fun c1 => ?_)
    · have hf := g_ip c1 hf
      exact hk117 X _ _ _ hP hS (lv_sub hl [] rfl) hf
    · have hf := g_in c1 hf
      refine lv_aload_n hx hb dX6_gatherWord_90 rfl (lv_at hl 0 rfl) ?_
      refine r_get C hP ha_l0 (ct_29 _ _ _ _) fx_X6_43 (fg_29_9 _ _ _) dX6_gatherWord_91 ?_
      refine lv_iload_n hx hb dX6_gatherWord_94 rfl (lv_at hl 2 rfl) ?_
      refine lv_iload hx hb dX6_gatherWord_95 (lv_at hl 3 rfl) ?_
      refine lv_iadd hx hb dX6_gatherWord_97 ?_
      refine lv_dup2_11 hx hb dX6_gatherWord_98 rfl rfl ?_
      obtain ⟨j2, h3, hf⟩ := rd_in hf
      refine r_iald C hP (gs_29_9 hW ha_l0) (ct_39 _ _ _ _) h3 dX6_gatherWord_99 ?_
      refine lv_iconst (v := 1) hx hb dX6_gatherWord_100 (by decide) ?_
      refine lv_aload_n hx hb dX6_gatherWord_101 rfl (lv_at hl 1 rfl) ?_
      refine r_get C hP ha_l1 (ct_26 _ _ _ _) fx_X6_91 (fg_26_0 _ _ _) dX6_gatherWord_102 ?_
      refine lv_iload hx hb dX6_gatherWord_105 (lv_at hl 3 rfl) ?_
      obtain ⟨j4, h5, hf⟩ := rd_in hf
      refine r_iald C hP (gs_26_0 hW ha_l1) (ct_27 _ _ _ _) h5 dX6_gatherWord_107 ?_
      refine lv_ishl hx hb dX6_gatherWord_108 ?_
      refine lv_ior hx hb dX6_gatherWord_109 ?_
      obtain ⟨j6, h7, hf⟩ := rd_in hf
      refine r_iast C hP hS (gs_29_9 hW ha_l0) (fun _ => ct_39 _ _ _ _) h7 dX6_gatherWord_110 (fun H locs hP hS => ?_)
      obtain ⟨X8, e9, hf⟩ := gl_in hf
      rw [← e9] at hP
      obtain ⟨v10, e11, hf⟩ := gl_in hf
      refine lv_iinc (v := v10) (lv' := [(6, .int v10), (0, .ref (ad 29 0)), (1, .ref (ad 26 p1)), (3, .int p3)]) hx hb dX6_gatherWord_111 hl (k := 3) rfl (by rw [e11]; rfl) (Nat.le_of_ble_eq_true rfl) rfl (fun ls hl => ?_)
      refine lv_goto (tgt := 81) hx hb dX6_gatherWord_114 (by decide) ?_
      exact ih p1 p3 v10 X8 _ _ _ hP hS (lv_sub hl [1, 2, 3, 0] rfl) ha_l0 ha_l1 hf

set_option maxRecDepth 100000 in
set_option maxHeartbeats 4000000 in
theorem s_X6_gatherWord_J77 {p : Program} {l : Launch} {e : Env} {s : State} {m : MethodId} {args : Array Value} {below : List Frame} {meth : Method} {c : Code} {D : va_G} {cA : Nat → ClassId} {ad : Nat → Nat → Nat} {NL : List (Nat × Nat)} {A : Nat → Prop} {rr : Int32} {XX : gM} {N : Nat} (C : gCx p c meth m s args cX6_gatherWord 7 none RX6 D cA ad NL A) (hW : gWf NL) (hD0 : gD (fun _ => True) ad NL) : ∀ (X : gM) (H : Heap) (locs : List Loc) (ls : Array Slot), gH D cA ad NL X H → va_S A s.heap H locs → lv_has ls 7 [] → X6_gatherWord_J77 (gal NL) N X = some (rr, XX) → W p l e rm_X6_gatherWord s m args below meth c H locs 0 0 (MQ below (gQ D cA ad NL none XX A) args s 0 0 A) (F0 m 77 ls []) := by
  have hx := C.1
  have hb := C.2.1
  intro X H locs ls hP hS hl hf
  rw [X6_gatherWord_J77] at hf
  obtain ⟨rfl, rfl⟩ := g_s1 hf
  exact r_vret C hP hS dX6_gatherWord_77

set_option maxRecDepth 100000 in
set_option maxHeartbeats 4000000 in
theorem w_X6_gatherWord {p : Program} {l : Launch} {e : Env} {s : State} {m : MethodId} {args : Array Value} {below : List Frame} {meth : Method} {c : Code} {D : va_G} {cA : Nat → ClassId} {ad : Nat → Nat → Nat} {NL : List (Nat × Nat)} {A : Nat → Prop} {rr : Int32} {XX : gM} {N : Nat} (C : gCx p c meth m s args cX6_gatherWord 7 none RX6 D cA ad NL A) (hW : gWf NL) (hD0 : gD (fun _ => True) ad NL) {p1 : Nat} {p2 : Int32} {p3 : Int32} (ha_l0 : (29, 0) ∈ NL) (ha_l1 : (26, p1) ∈ NL) : ∀ (X : gM) (H : Heap) (locs : List Loc) (ls : Array Slot), gH D cA ad NL X H → va_S A s.heap H locs → lv_has ls 7 [(0, .ref (ad 29 0)), (1, .ref (ad 26 p1)), (2, .int p2), (3, .int p3)] → X6_gatherWord (gal NL) N p1 p2 p3 X = some (rr, XX) → W p l e rm_X6_gatherWord s m args below meth c H locs 0 0 (MQ below (gQ D cA ad NL none XX A) args s 0 0 A) (F0 m 0 ls []) := by
  have hx := C.1
  have hb := C.2.1
  intro X H locs ls hP hS hl hf
  rw [X6_gatherWord] at hf
  refine lv_iload_n hx hb dX6_gatherWord_0 rfl (lv_at hl 3 rfl) ?_
  refine lv_aload_n hx hb dX6_gatherWord_1 rfl (lv_at hl 1 rfl) ?_
  refine r_get C hP ha_l1 (ct_26 _ _ _ _) fx_X6_86 (fg_26_1 _ _ _) dX6_gatherWord_2 ?_
  refine lv_iadd hx hb dX6_gatherWord_5 ?_
  refine g_top hf (fun v1 e2 hf => ?_)
  refine lv_istore (i := 4) (lv' := [(4, .int v1), (0, .ref (ad 29 0)), (1, .ref (ad 26 p1)), (2, .int p2), (3, .int p3)]) hx hb dX6_gatherWord_6 hl (Nat.le_of_ble_eq_true rfl) rfl (fun ls hl => ?_)
  refine lv_iload hx hb dX6_gatherWord_8 (lv_at hl 0 rfl) ?_
  refine lv_aload_n hx hb dX6_gatherWord_10 rfl (lv_at hl 1 rfl) ?_
  refine r_get C hP ha_l0 (ct_29 _ _ _ _) fx_X6_9 (fg_29_0 _ _ _) dX6_gatherWord_11 ?_
  refine lv_icmp_le (tgt := 18) hx hb dX6_gatherWord_14 (by decide) (fun c3 => ?_) (fun c3 => ?_)
  · have hf := g_ip c3 hf
    refine lv_aload_n hx hb dX6_gatherWord_18 rfl (lv_at hl 1 rfl) ?_
    refine r_get C hP ha_l0 (ct_29 _ _ _ _) fx_X6_29 (fg_29_5 _ _ _) dX6_gatherWord_19 ?_
    refine lv_iload_n hx hb dX6_gatherWord_22 rfl (lv_at hl 4 rfl) ?_
    obtain ⟨j4, h5, hf⟩ := rd_in hf
    refine r_iald C hP (gs_29_5 hW ha_l0) (ct_34 _ _ _ _) h5 dX6_gatherWord_23 ?_
    refine lv_iload_n hx hb dX6_gatherWord_24 rfl (lv_at hl 3 rfl) ?_
    refine lv_iadd hx hb dX6_gatherWord_25 ?_
    refine g_top hf (fun v6 e7 hf => ?_)
    refine lv_istore (i := 5) (lv' := [(5, .int v6), (4, .int v1), (0, .ref (ad 29 0)), (1, .ref (ad 26 p1)), (2, .int p2), (3, .int p3)]) hx hb dX6_gatherWord_26 hl (Nat.le_of_ble_eq_true rfl) rfl (fun ls hl => ?_)
    refine lv_aload_n hx hb dX6_gatherWord_28 rfl (lv_at hl 2 rfl) ?_
    refine r_get C hP ha_l0 (ct_29 _ _ _ _) fx_X6_29 (fg_29_5 _ _ _) dX6_gatherWord_29 ?_
    refine lv_iload hx hb dX6_gatherWord_32 (lv_at hl 1 rfl) ?_
    refine lv_aload_n hx hb dX6_gatherWord_34 rfl (lv_at hl 2 rfl) ?_
    refine r_get C hP ha_l0 (ct_29 _ _ _ _) fx_X6_29 (fg_29_5 _ _ _) dX6_gatherWord_35 ?_
    refine lv_iload hx hb dX6_gatherWord_38 (lv_at hl 1 rfl) ?_
    obtain ⟨j8, h9, hf⟩ := rd_in hf
    refine r_iald C hP (gs_29_5 hW ha_l0) (ct_34 _ _ _ _) h9 dX6_gatherWord_40 ?_
    refine lv_iload hx hb dX6_gatherWord_41 (lv_at hl 0 rfl) ?_
    refine r_mmax C hl.1 jm_X6_111 jx_max.1 jx_max.2.1 jx_max.2.2 ⟨Nat.le_of_ble_eq_true rfl, Nat.le_of_ble_eq_true rfl, Nat.le_of_ble_eq_true rfl, Nat.le_of_ble_eq_true rfl⟩ dX6_gatherWord_43 ?_
    refine g_top hf (fun v10 e11 hf => ?_)
    obtain ⟨j12, h13, hf⟩ := rd_in hf
    refine r_iast C hP hS (gs_29_5 hW ha_l0) (fun _ => ct_34 _ _ _ _) h13 dX6_gatherWord_46 (fun H locs hP hS => ?_)
    obtain ⟨X14, e15, hf⟩ := gl_in hf
    rw [← e15] at hP
    refine lv_aload_n hx hb dX6_gatherWord_47 rfl (lv_at hl 2 rfl) ?_
    refine r_get C hP ha_l0 (ct_29 _ _ _ _) fx_X6_32 (fg_29_6 _ _ _) dX6_gatherWord_48 ?_
    refine lv_iload hx hb dX6_gatherWord_51 (lv_at hl 1 rfl) ?_
    obtain ⟨j16, h17, hf⟩ := rd_in hf
    refine r_iald C hP (gs_29_6 hW ha_l0) (ct_35 _ _ _ _) h17 dX6_gatherWord_53 ?_
    refine lv_iconst (v := -1) hx hb dX6_gatherWord_54 (by decide) ?_
    refine lv_icmp_eq (tgt := 77) hx hb dX6_gatherWord_55 (by decide) (fun c18 => ?_) (fun c18 => ?_)
    · have hf := g_ip c18 hf
      exact s_X6_gatherWord_J77 C hW hD0 X14 _ _ _ hP hS (lv_sub hl [] rfl) hf
    · have hf := g_in c18 hf
      refine lv_iload hx hb dX6_gatherWord_58 (lv_at hl 0 rfl) ?_
      refine lv_aload_n hx hb dX6_gatherWord_60 rfl (lv_at hl 2 rfl) ?_
      refine r_get C hP ha_l0 (ct_29 _ _ _ _) fx_X6_32 (fg_29_6 _ _ _) dX6_gatherWord_61 ?_
      refine lv_iload hx hb dX6_gatherWord_64 (lv_at hl 1 rfl) ?_
      obtain ⟨j19, h20, hf⟩ := rd_in hf
      refine r_iald C hP (gs_29_6 hW ha_l0) (ct_35 _ _ _ _) h20 dX6_gatherWord_66 ?_
      refine lv_iadd hx hb dX6_gatherWord_67 ?_
      refine lv_aload_n hx hb dX6_gatherWord_68 rfl (lv_at hl 2 rfl) ?_
      refine r_get C hP ha_l0 (ct_29 _ _ _ _) fx_X6_32 (fg_29_6 _ _ _) dX6_gatherWord_69 ?_
      refine lv_iconst (v := 0) hx hb dX6_gatherWord_72 (by decide) ?_
      obtain ⟨j21, h22, hf⟩ := rd_in hf
      refine r_iald C hP (gs_29_6 hW ha_l0) (ct_35 _ _ _ _) h22 dX6_gatherWord_73 ?_
      refine lv_icmp_eq (tgt := 78) hx hb dX6_gatherWord_74 (by decide) (fun c23 => ?_) (fun c23 => ?_)
      · have hf := g_ip c23 hf
        refine lv_iconst (v := 0) hx hb dX6_gatherWord_78 (by decide) ?_
        refine lv_istore (i := 6) (lv' := [(6, .int (0 : Int32)), (5, .int v6), (4, .int v1), (0, .ref (ad 29 0)), (1, .ref (ad 26 p1)), (2, .int p2), (3, .int p3)]) hx hb dX6_gatherWord_79 hl (Nat.le_of_ble_eq_true rfl) rfl (fun ls hl => ?_)
        exact s_X6_gatherWord_L81 C hW hD0 (fun Y H locs ls hP hS hl hf => s_X6_gatherWord_J117 C hW hD0 Y _ _ _ hP hS hl hf) N p1 p3 (0 : Int32) X14 _ _ _ hP hS (lv_sub hl [3, 4, 6, 0] rfl) ha_l0 ha_l1 hf
      · have hf := g_in c23 hf
        exact s_X6_gatherWord_J77 C hW hD0 X14 _ _ _ hP hS (lv_sub hl [] rfl) hf
  · have hf := g_in c3 hf
    obtain ⟨rfl, rfl⟩ := g_s1 hf
    exact r_vret C hP hS dX6_gatherWord_17

theorem s_X6_gatherWord {l : Launch} {D : va_G} {cA : Nat → ClassId} {ad : Nat → Nat → Nat} {NL : List (Nat × Nat)} {N : Nat} {p1 : Nat} {p2 : Int32} {p3 : Int32} {X : gM} {rr : Int32} {XX : gM} (hW : gWf NL) (hD0 : gD (fun _ => True) ad NL) (ha_l0 : (29, 0) ∈ NL) (ha_l1 : (26, p1) ∈ NL) (hf : X6_gatherWord (gal NL) N p1 p2 p3 X = some (rr, XX)) : gC l yX6_gatherWord cX6_gatherWord 7 none rm_X6_gatherWord D cA ad NL [.ref (ad 29 0), .ref (ad 26 p1), .int p2, .int p3] X none XX :=
  g_ofW (by decide) hD0 (Nat.le_of_ble_eq_true rfl) rfl (fun p e s m below meth c ls C hP hS hl => w_X6_gatherWord C hW hD0 ha_l0 ha_l1 X _ _ ls hP hS hl hf)
def rm_X6_gatherLetters : Room := { frames := 2, cells := 0, slots := 0, locals := 47 }
set_option maxRecDepth 100000 in
set_option maxHeartbeats 4000000 in
theorem s_X6_gatherLetters_J144 {p : Program} {l : Launch} {e : Env} {s : State} {m : MethodId} {args : Array Value} {below : List Frame} {meth : Method} {c : Code} {D : va_G} {cA : Nat → ClassId} {ad : Nat → Nat → Nat} {NL : List (Nat × Nat)} {A : Nat → Prop} {rr : Int32} {XX : gM} {N : Nat} (C : gCx p c meth m s args cX6_gatherLetters 6 none RX6 D cA ad NL A) (hW : gWf NL) (hD0 : gD (fun _ => True) ad NL) : ∀ (X : gM) (H : Heap) (locs : List Loc) (ls : Array Slot), gH D cA ad NL X H → va_S A s.heap H locs → lv_has ls 6 [] → X6_gatherLetters_J144 (gal NL) N X = some (rr, XX) → W p l e rm_X6_gatherLetters s m args below meth c H locs 0 0 (MQ below (gQ D cA ad NL none XX A) args s 0 0 A) (F0 m 144 ls []) := by
  have hx := C.1
  have hb := C.2.1
  intro X H locs ls hP hS hl hf
  rw [X6_gatherLetters_J144] at hf
  obtain ⟨rfl, rfl⟩ := g_s1 hf
  exact r_vret C hP hS dX6_gatherLetters_144

set_option maxRecDepth 100000 in
set_option maxHeartbeats 4000000 in
theorem s_X6_gatherLetters_J138 {p : Program} {l : Launch} {e : Env} {s : State} {m : MethodId} {args : Array Value} {below : List Frame} {meth : Method} {c : Code} {D : va_G} {cA : Nat → ClassId} {ad : Nat → Nat → Nat} {NL : List (Nat × Nat)} {A : Nat → Prop} {rr : Int32} {XX : gM} {N : Nat} {kk : Int32 → gM → Option (Int32 × gM)} {k144 : gM → Option (Int32 × gM)} (C : gCx p c meth m s args cX6_gatherLetters 6 none RX6 D cA ad NL A) (hW : gWf NL) (hD0 : gD (fun _ => True) ad NL) (hkk : ∀ (p2 : Int32) (Y : gM) (H : Heap) (locs : List Loc) (ls : Array Slot), gH D cA ad NL Y H → va_S A s.heap H locs → lv_has ls 6 [(0, .ref (ad 29 0)), (1, .ref (ad 25 0)), (2, .int p2)] → (29, 0) ∈ NL → (25, 0) ∈ NL → kk p2 Y = some (rr, XX) → W p l e rm_X6_gatherLetters s m args below meth c H locs 0 0 (MQ below (gQ D cA ad NL none XX A) args s 0 0 A) (F0 m 25 ls [])) (hk144 : ∀ (Y : gM) (H : Heap) (locs : List Loc) (ls : Array Slot), gH D cA ad NL Y H → va_S A s.heap H locs → lv_has ls 6 [] → k144 Y = some (rr, XX) → W p l e rm_X6_gatherLetters s m args below meth c H locs 0 0 (MQ below (gQ D cA ad NL none XX A) args s 0 0 A) (F0 m 144 ls [])) : ∀ (p2 : Int32) (X : gM) (H : Heap) (locs : List Loc) (ls : Array Slot), gH D cA ad NL X H → va_S A s.heap H locs → lv_has ls 6 [(0, .ref (ad 29 0)), (1, .ref (ad 25 0)), (2, .int p2)] → (29, 0) ∈ NL → (25, 0) ∈ NL → X6_gatherLetters_J138 (gal NL) N kk k144 p2 X = some (rr, XX) → W p l e rm_X6_gatherLetters s m args below meth c H locs 0 0 (MQ below (gQ D cA ad NL none XX A) args s 0 0 A) (F0 m 138 ls []) := by
  have hx := C.1
  have hb := C.2.1
  intro p2 X H locs ls hP hS hl ha_l0 ha_l1 hf
  rw [X6_gatherLetters_J138] at hf
  obtain ⟨v1, e2, hf⟩ := gl_in hf
  refine lv_iinc (v := v1) (lv' := [(2, .int v1), (0, .ref (ad 29 0)), (1, .ref (ad 25 0))]) hx hb dX6_gatherLetters_138 hl (k := 2) rfl (by rw [e2]; rfl) (Nat.le_of_ble_eq_true rfl) rfl (fun ls hl => ?_)
  refine lv_goto (tgt := 25) hx hb dX6_gatherLetters_141 (by decide) ?_
  exact hkk v1 X _ _ _ hP hS (lv_sub hl [1, 2, 0] rfl) ha_l0 ha_l1 hf

set_option maxRecDepth 100000 in
set_option maxHeartbeats 4000000 in
theorem s_X6_gatherLetters_J132 {p : Program} {l : Launch} {e : Env} {s : State} {m : MethodId} {args : Array Value} {below : List Frame} {meth : Method} {c : Code} {D : va_G} {cA : Nat → ClassId} {ad : Nat → Nat → Nat} {NL : List (Nat × Nat)} {A : Nat → Prop} {rr : Int32} {XX : gM} {N : Nat} {kk : Int32 → Int32 → gM → Option (Int32 × gM)} {k138 : Int32 → gM → Option (Int32 × gM)} (C : gCx p c meth m s args cX6_gatherLetters 6 none RX6 D cA ad NL A) (hW : gWf NL) (hD0 : gD (fun _ => True) ad NL) (hkk : ∀ (p2 : Int32) (p3 : Int32) (Y : gM) (H : Heap) (locs : List Loc) (ls : Array Slot), gH D cA ad NL Y H → va_S A s.heap H locs → lv_has ls 6 [(0, .ref (ad 29 0)), (1, .ref (ad 25 0)), (2, .int p2), (3, .int p3)] → (29, 0) ∈ NL → (25, 0) ∈ NL → kk p2 p3 Y = some (rr, XX) → W p l e rm_X6_gatherLetters s m args below meth c H locs 0 0 (MQ below (gQ D cA ad NL none XX A) args s 0 0 A) (F0 m 82 ls [])) (hk138 : ∀ (p2 : Int32) (Y : gM) (H : Heap) (locs : List Loc) (ls : Array Slot), gH D cA ad NL Y H → va_S A s.heap H locs → lv_has ls 6 [(0, .ref (ad 29 0)), (1, .ref (ad 25 0)), (2, .int p2)] → (29, 0) ∈ NL → (25, 0) ∈ NL → k138 p2 Y = some (rr, XX) → W p l e rm_X6_gatherLetters s m args below meth c H locs 0 0 (MQ below (gQ D cA ad NL none XX A) args s 0 0 A) (F0 m 138 ls [])) : ∀ (p2 : Int32) (p3 : Int32) (X : gM) (H : Heap) (locs : List Loc) (ls : Array Slot), gH D cA ad NL X H → va_S A s.heap H locs → lv_has ls 6 [(0, .ref (ad 29 0)), (1, .ref (ad 25 0)), (2, .int p2), (3, .int p3)] → (29, 0) ∈ NL → (25, 0) ∈ NL → X6_gatherLetters_J132 (gal NL) N kk k138 p2 p3 X = some (rr, XX) → W p l e rm_X6_gatherLetters s m args below meth c H locs 0 0 (MQ below (gQ D cA ad NL none XX A) args s 0 0 A) (F0 m 132 ls []) := by
  have hx := C.1
  have hb := C.2.1
  intro p2 p3 X H locs ls hP hS hl ha_l0 ha_l1 hf
  rw [X6_gatherLetters_J132] at hf
  obtain ⟨v1, e2, hf⟩ := gl_in hf
  refine lv_iinc (v := v1) (lv' := [(3, .int v1), (0, .ref (ad 29 0)), (1, .ref (ad 25 0)), (2, .int p2)]) hx hb dX6_gatherLetters_132 hl (k := 3) rfl (by rw [e2]; rfl) (Nat.le_of_ble_eq_true rfl) rfl (fun ls hl => ?_)
  refine lv_goto (tgt := 82) hx hb dX6_gatherLetters_135 (by decide) ?_
  exact hkk p2 v1 X _ _ _ hP hS (lv_sub hl [1, 2, 3, 0] rfl) ha_l0 ha_l1 hf

set_option maxRecDepth 100000 in
set_option maxHeartbeats 4000000 in
theorem s_X6_gatherLetters_L82 {p : Program} {l : Launch} {e : Env} {s : State} {m : MethodId} {args : Array Value} {below : List Frame} {meth : Method} {c : Code} {D : va_G} {cA : Nat → ClassId} {ad : Nat → Nat → Nat} {NL : List (Nat × Nat)} {A : Nat → Prop} {rr : Int32} {XX : gM} {N : Nat} {k138 : Int32 → gM → Option (Int32 × gM)} (C : gCx p c meth m s args cX6_gatherLetters 6 none RX6 D cA ad NL A) (hW : gWf NL) (hD0 : gD (fun _ => True) ad NL) (hk138 : ∀ (p2 : Int32) (Y : gM) (H : Heap) (locs : List Loc) (ls : Array Slot), gH D cA ad NL Y H → va_S A s.heap H locs → lv_has ls 6 [(0, .ref (ad 29 0)), (1, .ref (ad 25 0)), (2, .int p2)] → (29, 0) ∈ NL → (25, 0) ∈ NL → k138 p2 Y = some (rr, XX) → W p l e rm_X6_gatherLetters s m args below meth c H locs 0 0 (MQ below (gQ D cA ad NL none XX A) args s 0 0 A) (F0 m 138 ls [])) : ∀ (n : Nat) (p2 : Int32) (p3 : Int32) (X : gM) (H : Heap) (locs : List Loc) (ls : Array Slot), gH D cA ad NL X H → va_S A s.heap H locs → lv_has ls 6 [(0, .ref (ad 29 0)), (1, .ref (ad 25 0)), (2, .int p2), (3, .int p3)] → (29, 0) ∈ NL → (25, 0) ∈ NL → X6_gatherLetters_L82 (gal NL) N k138 n p2 p3 X = some (rr, XX) → W p l e rm_X6_gatherLetters s m args below meth c H locs 0 0 (MQ below (gQ D cA ad NL none XX A) args s 0 0 A) (F0 m 82 ls []) := by
  have hx := C.1
  have hb := C.2.1
  intro n
  induction n with
  | zero =>
    intro p2 p3 X H locs ls hP hS hl ha_l0 ha_l1 hf
    rw [X6_gatherLetters_L82] at hf
    cases hf
  | succ n ih =>
    intro p2 p3 X H locs ls hP hS hl ha_l0 ha_l1 hf
    rw [X6_gatherLetters_L82] at hf
    refine lv_iload_n hx hb dX6_gatherLetters_82 rfl (lv_at hl 3 rfl) ?_
    refine lv_bipush (v := 12) hx hb dX6_gatherLetters_83 (by decide) ?_
    refine lv_icmp_ge (tgt := 138) hx hb dX6_gatherLetters_85 (by decide) (fun c1 => ?_) (fun c1 => ?_)
    · have hf := g_ip c1 hf
      exact hk138 p2 X _ _ _ hP hS (lv_sub hl [0, 1, 2] rfl) ha_l0 ha_l1 hf
    · have hf := g_in c1 hf
      refine lv_iload_n hx hb dX6_gatherLetters_88 rfl (lv_at hl 3 rfl) ?_
      refine lv_aload_n hx hb dX6_gatherLetters_89 rfl (lv_at hl 1 rfl) ?_
      refine r_alen C hP 12 ha_l1 (ct_25 _ _ _ _) rfl rfl dX6_gatherLetters_90 ?_
      refine lv_icmp_ge (tgt := 138) hx hb dX6_gatherLetters_91 (by decide) (fun c2 => ?_) (fun c2 => ?_)
      · have hf := g_ip c2 hf
        exact hk138 p2 X _ _ _ hP hS (lv_sub hl [0, 1, 2] rfl) ha_l0 ha_l1 hf
      · have hf := g_in c2 hf
        refine lv_aload_n hx hb dX6_gatherLetters_94 rfl (lv_at hl 1 rfl) ?_
        refine lv_iload_n hx hb dX6_gatherLetters_95 rfl (lv_at hl 3 rfl) ?_
        obtain ⟨j3, h4, hf⟩ := rd_in hf
        refine r_aldq C hP ha_l1 (ct_25 _ _ _ _) rfl h4 dX6_gatherLetters_96 ?_
        refine r_astore (i := 4) (lv' := [(4, va_rf (ro ad 26 (X 25 0 j3))), (0, .ref (ad 29 0)), (1, .ref (ad 25 0)), (2, .int p2), (3, .int p3)]) C dX6_gatherLetters_97 hl (Nat.le_of_ble_eq_true rfl) rfl (fun ls hl => ?_)
        refine lv_aload_n hx hb dX6_gatherLetters_99 rfl (lv_at hl 1 rfl) ?_
        refine r_get C hP ha_l0 (ct_29 _ _ _ _) fx_X6_26 (fg_29_4 _ _ _) dX6_gatherLetters_100 ?_
        refine lv_iload_n hx hb dX6_gatherLetters_103 rfl (lv_at hl 3 rfl) ?_
        refine lv_bipush (v := 12) hx hb dX6_gatherLetters_104 (by decide) ?_
        refine lv_imul hx hb dX6_gatherLetters_106 ?_
        refine lv_iload_n hx hb dX6_gatherLetters_107 rfl (lv_at hl 4 rfl) ?_
        refine lv_iadd hx hb dX6_gatherLetters_108 ?_
        obtain ⟨j5, h6, hf⟩ := rd_in hf
        refine r_iald C hP (gs_29_4 hW ha_l0) (ct_33 _ _ _ _) h6 dX6_gatherLetters_109 ?_
        refine g_top hf (fun v7 e8 hf => ?_)
        refine lv_istore (i := 5) (lv' := [(5, .int v7), (4, va_rf (ro ad 26 (X 25 0 j3))), (0, .ref (ad 29 0)), (1, .ref (ad 25 0)), (2, .int p2), (3, .int p3)]) hx hb dX6_gatherLetters_110 hl (Nat.le_of_ble_eq_true rfl) (by simp [g_cat, g_catr, g_cati]) (fun ls hl => ?_)
        refine r_aload C dX6_gatherLetters_112 (lv_at hl 1 rfl) ?_
        refine r_ifnull (tgt := 132) C dX6_gatherLetters_114 (by decide) (fun c9 => ?_) (fun c9 => ?_)
        · have hf := g_ip c9 hf
          exact s_X6_gatherLetters_J132 C hW hD0 ih hk138 p2 p3 X _ _ _ hP hS (lv_sub hl [2, 3, 4, 5] rfl) ha_l0 ha_l1 hf
        · have hf := g_in c9 hf
          refine lv_iload hx hb dX6_gatherLetters_117 (lv_at hl 0 rfl) ?_
          refine lv_iconst (v := -1) hx hb dX6_gatherLetters_119 (by decide) ?_
          refine lv_icmp_eq (tgt := 132) hx hb dX6_gatherLetters_120 (by decide) (fun c10 => ?_) (fun c10 => ?_)
          · have hf := g_ip c10 hf
            exact s_X6_gatherLetters_J132 C hW hD0 ih hk138 p2 p3 X _ _ _ hP hS (lv_sub hl [2, 3, 4, 5] rfl) ha_l0 ha_l1 hf
          · have hf := g_in c10 hf
            refine lv_aload_n hx hb dX6_gatherLetters_123 rfl (lv_at hl 2 rfl) ?_
            refine r_aload C dX6_gatherLetters_124 (lv_at hl 1 rfl) ?_
            refine lv_iload hx hb dX6_gatherLetters_126 (lv_at hl 0 rfl) ?_
            refine lv_iload_n hx hb dX6_gatherLetters_128 rfl (lv_at hl 4 rfl) ?_
            obtain ⟨j11, h12, hf⟩ := dr_in hf
            rw [gref h12]
            obtain ⟨r13, X14, h15, hf⟩ := b2_in hf
            refine r_cVv (rest := []) C hP hS hl.1 (s_X6_gatherWord hW hD0 ha_l0 h12.2.2 h15) ix_X6_gatherWord iv_X6_gatherWord lk_X6_114 ⟨rfl, rfl, Nat.le_of_ble_eq_true rfl, Nat.le_of_ble_eq_true rfl⟩ ha_l0 (ct_29 _ _ _ _) rfl rfl rfl rfl (Nat.le_of_ble_eq_true rfl) ⟨Nat.zero_le _, Nat.zero_le _⟩ dX6_gatherLetters_129 (fun H locs hP hS => ?_)
            exact s_X6_gatherLetters_J132 C hW hD0 ih hk138 p2 p3 X14 _ _ _ hP hS (lv_sub hl [2, 3, 4, 5] rfl) ha_l0 ha_l1 hf

set_option maxRecDepth 100000 in
set_option maxHeartbeats 4000000 in
theorem s_X6_gatherLetters_J80 {p : Program} {l : Launch} {e : Env} {s : State} {m : MethodId} {args : Array Value} {below : List Frame} {meth : Method} {c : Code} {D : va_G} {cA : Nat → ClassId} {ad : Nat → Nat → Nat} {NL : List (Nat × Nat)} {A : Nat → Prop} {rr : Int32} {XX : gM} {N : Nat} {kk : Int32 → gM → Option (Int32 × gM)} {k144 : gM → Option (Int32 × gM)} (C : gCx p c meth m s args cX6_gatherLetters 6 none RX6 D cA ad NL A) (hW : gWf NL) (hD0 : gD (fun _ => True) ad NL) (hkk : ∀ (p2 : Int32) (Y : gM) (H : Heap) (locs : List Loc) (ls : Array Slot), gH D cA ad NL Y H → va_S A s.heap H locs → lv_has ls 6 [(0, .ref (ad 29 0)), (1, .ref (ad 25 0)), (2, .int p2)] → (29, 0) ∈ NL → (25, 0) ∈ NL → kk p2 Y = some (rr, XX) → W p l e rm_X6_gatherLetters s m args below meth c H locs 0 0 (MQ below (gQ D cA ad NL none XX A) args s 0 0 A) (F0 m 25 ls [])) (hk144 : ∀ (Y : gM) (H : Heap) (locs : List Loc) (ls : Array Slot), gH D cA ad NL Y H → va_S A s.heap H locs → lv_has ls 6 [] → k144 Y = some (rr, XX) → W p l e rm_X6_gatherLetters s m args below meth c H locs 0 0 (MQ below (gQ D cA ad NL none XX A) args s 0 0 A) (F0 m 144 ls [])) : ∀ (p2 : Int32) (X : gM) (H : Heap) (locs : List Loc) (ls : Array Slot), gH D cA ad NL X H → va_S A s.heap H locs → lv_has ls 6 [(0, .ref (ad 29 0)), (1, .ref (ad 25 0)), (2, .int p2)] → (29, 0) ∈ NL → (25, 0) ∈ NL → X6_gatherLetters_J80 (gal NL) N kk k144 p2 X = some (rr, XX) → W p l e rm_X6_gatherLetters s m args below meth c H locs 0 0 (MQ below (gQ D cA ad NL none XX A) args s 0 0 A) (F0 m 80 ls []) := by
  have hx := C.1
  have hb := C.2.1
  intro p2 X H locs ls hP hS hl ha_l0 ha_l1 hf
  rw [X6_gatherLetters_J80] at hf
  refine lv_iconst (v := 0) hx hb dX6_gatherLetters_80 (by decide) ?_
  refine lv_istore_n (i := 3) (lv' := [(3, .int (0 : Int32)), (0, .ref (ad 29 0)), (1, .ref (ad 25 0)), (2, .int p2)]) hx hb dX6_gatherLetters_81 rfl hl (Nat.le_of_ble_eq_true rfl) rfl (fun ls hl => ?_)
  exact s_X6_gatherLetters_L82 C hW hD0 (fun p2 Y H locs ls hP hS hl ha_l0 ha_l1 hf => s_X6_gatherLetters_J138 C hW hD0 hkk hk144 p2 Y _ _ _ hP hS hl ha_l0 ha_l1 hf) N p2 (0 : Int32) X _ _ _ hP hS (lv_sub hl [1, 2, 3, 0] rfl) ha_l0 ha_l1 hf

set_option maxRecDepth 100000 in
set_option maxHeartbeats 4000000 in
theorem s_X6_gatherLetters_L25 {p : Program} {l : Launch} {e : Env} {s : State} {m : MethodId} {args : Array Value} {below : List Frame} {meth : Method} {c : Code} {D : va_G} {cA : Nat → ClassId} {ad : Nat → Nat → Nat} {NL : List (Nat × Nat)} {A : Nat → Prop} {rr : Int32} {XX : gM} {N : Nat} {k144 : gM → Option (Int32 × gM)} (C : gCx p c meth m s args cX6_gatherLetters 6 none RX6 D cA ad NL A) (hW : gWf NL) (hD0 : gD (fun _ => True) ad NL) (hk144 : ∀ (Y : gM) (H : Heap) (locs : List Loc) (ls : Array Slot), gH D cA ad NL Y H → va_S A s.heap H locs → lv_has ls 6 [] → k144 Y = some (rr, XX) → W p l e rm_X6_gatherLetters s m args below meth c H locs 0 0 (MQ below (gQ D cA ad NL none XX A) args s 0 0 A) (F0 m 144 ls [])) : ∀ (n : Nat) (p2 : Int32) (X : gM) (H : Heap) (locs : List Loc) (ls : Array Slot), gH D cA ad NL X H → va_S A s.heap H locs → lv_has ls 6 [(0, .ref (ad 29 0)), (1, .ref (ad 25 0)), (2, .int p2)] → (29, 0) ∈ NL → (25, 0) ∈ NL → X6_gatherLetters_L25 (gal NL) N k144 n p2 X = some (rr, XX) → W p l e rm_X6_gatherLetters s m args below meth c H locs 0 0 (MQ below (gQ D cA ad NL none XX A) args s 0 0 A) (F0 m 25 ls []) := by
  have hx := C.1
  have hb := C.2.1
  intro n
  induction n with
  | zero =>
    intro p2 X H locs ls hP hS hl ha_l0 ha_l1 hf
    rw [X6_gatherLetters_L25] at hf
    cases hf
  | succ n ih =>
    intro p2 X H locs ls hP hS hl ha_l0 ha_l1 hf
    rw [X6_gatherLetters_L25] at hf
    refine lv_iload_n hx hb dX6_gatherLetters_25 rfl (lv_at hl 2 rfl) ?_
    refine lv_aload_n hx hb dX6_gatherLetters_26 rfl (lv_at hl 0 rfl) ?_
    refine r_get C hP ha_l0 (ct_29 _ _ _ _) fx_X6_9 (fg_29_0 _ _ _) dX6_gatherLetters_27 ?_
    refine lv_icmp_ge (tgt := 144) hx hb dX6_gatherLetters_30 (by decide) (fun c1 => ?_) (fun c1 => ?_)
    · have hf := g_ip c1 hf
      exact hk144 X _ _ _ hP hS (lv_sub hl [] rfl) hf
    · have hf := g_in c1 hf
      refine lv_aload_n hx hb dX6_gatherLetters_33 rfl (lv_at hl 0 rfl) ?_
      refine r_get C hP ha_l0 (ct_29 _ _ _ _) fx_X6_29 (fg_29_5 _ _ _) dX6_gatherLetters_34 ?_
      refine lv_iload_n hx hb dX6_gatherLetters_37 rfl (lv_at hl 2 rfl) ?_
      obtain ⟨j2, h3, hf⟩ := rd_in hf
      refine r_iald C hP (gs_29_5 hW ha_l0) (ct_34 _ _ _ _) h3 dX6_gatherLetters_38 ?_
      refine lv_iconst (v := -1) hx hb dX6_gatherLetters_39 (by decide) ?_
      refine lv_icmp_ne (tgt := 46) hx hb dX6_gatherLetters_40 (by decide) (fun c4 => ?_) (fun c4 => ?_)
      · have hf := g_in c4 hf
        refine lv_aload_n hx hb dX6_gatherLetters_46 rfl (lv_at hl 0 rfl) ?_
        refine r_get C hP ha_l0 (ct_29 _ _ _ _) fx_X6_15 (fg_29_1 _ _ _) dX6_gatherLetters_47 ?_
        refine lv_iload_n hx hb dX6_gatherLetters_50 rfl (lv_at hl 2 rfl) ?_
        obtain ⟨j5, h6, hf⟩ := rd_in hf
        refine r_zald C hP (gs_29_1 hW ha_l0) (ct_30 _ _ _ _) h6 dX6_gatherLetters_51 ?_
        refine lv_if_eq (tgt := 80) hx hb dX6_gatherLetters_52 (by decide) (fun c7 => ?_) (fun c7 => ?_)
        · have hf := g_ip c7 hf
          exact s_X6_gatherLetters_J80 C hW hD0 ih hk144 p2 X _ _ _ hP hS (lv_sub hl [0, 1, 2] rfl) ha_l0 ha_l1 hf
        · have hf := g_in c7 hf
          refine lv_aload_n hx hb dX6_gatherLetters_55 rfl (lv_at hl 0 rfl) ?_
          refine r_get C hP ha_l0 (ct_29 _ _ _ _) fx_X6_29 (fg_29_5 _ _ _) dX6_gatherLetters_56 ?_
          refine lv_iload_n hx hb dX6_gatherLetters_59 rfl (lv_at hl 2 rfl) ?_
          refine lv_iconst (v := 1) hx hb dX6_gatherLetters_60 (by decide) ?_
          refine lv_iadd hx hb dX6_gatherLetters_61 ?_
          refine lv_aload_n hx hb dX6_gatherLetters_62 rfl (lv_at hl 0 rfl) ?_
          refine r_get C hP ha_l0 (ct_29 _ _ _ _) fx_X6_29 (fg_29_5 _ _ _) dX6_gatherLetters_63 ?_
          refine lv_iload_n hx hb dX6_gatherLetters_66 rfl (lv_at hl 2 rfl) ?_
          refine lv_iconst (v := 1) hx hb dX6_gatherLetters_67 (by decide) ?_
          refine lv_iadd hx hb dX6_gatherLetters_68 ?_
          obtain ⟨j8, h9, hf⟩ := rd_in hf
          refine r_iald C hP (gs_29_5 hW ha_l0) (ct_34 _ _ _ _) h9 dX6_gatherLetters_69 ?_
          refine lv_aload_n hx hb dX6_gatherLetters_70 rfl (lv_at hl 0 rfl) ?_
          refine r_get C hP ha_l0 (ct_29 _ _ _ _) fx_X6_29 (fg_29_5 _ _ _) dX6_gatherLetters_71 ?_
          refine lv_iload_n hx hb dX6_gatherLetters_74 rfl (lv_at hl 2 rfl) ?_
          obtain ⟨j10, h11, hf⟩ := rd_in hf
          refine r_iald C hP (gs_29_5 hW ha_l0) (ct_34 _ _ _ _) h11 dX6_gatherLetters_75 ?_
          refine r_mmax C hl.1 jm_X6_111 jx_max.1 jx_max.2.1 jx_max.2.2 ⟨Nat.le_of_ble_eq_true rfl, Nat.le_of_ble_eq_true rfl, Nat.le_of_ble_eq_true rfl, Nat.le_of_ble_eq_true rfl⟩ dX6_gatherLetters_76 ?_
          refine g_top hf (fun v12 e13 hf => ?_)
          obtain ⟨j14, h15, hf⟩ := rd_in hf
          refine r_iast C hP hS (gs_29_5 hW ha_l0) (fun _ => ct_34 _ _ _ _) h15 dX6_gatherLetters_79 (fun H locs hP hS => ?_)
          obtain ⟨X16, e17, hf⟩ := gl_in hf
          rw [← e17] at hP
          exact s_X6_gatherLetters_J80 C hW hD0 ih hk144 p2 X16 _ _ _ hP hS (lv_sub hl [0, 1, 2] rfl) ha_l0 ha_l1 hf
      · have hf := g_ip c4 hf
        refine lv_goto (tgt := 138) hx hb dX6_gatherLetters_43 (by decide) ?_
        exact s_X6_gatherLetters_J138 C hW hD0 ih hk144 p2 X _ _ _ hP hS (lv_sub hl [0, 1, 2] rfl) ha_l0 ha_l1 hf

set_option maxRecDepth 100000 in
set_option maxHeartbeats 4000000 in
theorem w_X6_gatherLetters {p : Program} {l : Launch} {e : Env} {s : State} {m : MethodId} {args : Array Value} {below : List Frame} {meth : Method} {c : Code} {D : va_G} {cA : Nat → ClassId} {ad : Nat → Nat → Nat} {NL : List (Nat × Nat)} {A : Nat → Prop} {rr : Int32} {XX : gM} {N : Nat} (C : gCx p c meth m s args cX6_gatherLetters 6 none RX6 D cA ad NL A) (hW : gWf NL) (hD0 : gD (fun _ => True) ad NL) (ha_l0 : (29, 0) ∈ NL) (ha_l1 : (25, 0) ∈ NL) : ∀ (X : gM) (H : Heap) (locs : List Loc) (ls : Array Slot), gH D cA ad NL X H → va_S A s.heap H locs → lv_has ls 6 [(0, .ref (ad 29 0)), (1, .ref (ad 25 0))] → X6_gatherLetters (gal NL) N  X = some (rr, XX) → W p l e rm_X6_gatherLetters s m args below meth c H locs 0 0 (MQ below (gQ D cA ad NL none XX A) args s 0 0 A) (F0 m 0 ls []) := by
  have hx := C.1
  have hb := C.2.1
  intro X H locs ls hP hS hl hf
  rw [X6_gatherLetters] at hf
  refine lv_aload_n hx hb dX6_gatherLetters_0 rfl (lv_at hl 0 rfl) ?_
  refine r_get C hP ha_l0 (ct_29 _ _ _ _) fx_X6_29 (fg_29_5 _ _ _) dX6_gatherLetters_1 ?_
  refine lv_iconst (v := -1) hx hb dX6_gatherLetters_4 (by decide) ?_
  refine r_cSv (rest := []) C hP hS hl.1 (s_J7_fill_53178 hD0 (gs_29_5 hW ha_l0) (fun _ => ct_34 _ _ _ _) (by decide)) ix_J7_fill_53178 is_J7_fill_53178 ls_X6_55 ⟨rfl, rfl, Nat.le_of_ble_eq_true rfl, Nat.le_of_ble_eq_true rfl⟩ rfl rfl (Nat.le_of_ble_eq_true rfl) ⟨Nat.zero_le _, Nat.zero_le _⟩ dX6_gatherLetters_5 (fun H locs hP hS => ?_)
  obtain ⟨X1, e2, hf⟩ := gl_in hf
  rw [← e2] at hP
  refine lv_aload_n hx hb dX6_gatherLetters_8 rfl (lv_at hl 0 rfl) ?_
  refine r_get C hP ha_l0 (ct_29 _ _ _ _) fx_X6_43 (fg_29_9 _ _ _) dX6_gatherLetters_9 ?_
  refine lv_iconst (v := 0) hx hb dX6_gatherLetters_12 (by decide) ?_
  refine r_cSv (rest := []) C hP hS hl.1 (s_J7_fill_53178 hD0 (gs_29_9 hW ha_l0) (fun _ => ct_39 _ _ _ _) (by decide)) ix_J7_fill_53178 is_J7_fill_53178 ls_X6_55 ⟨rfl, rfl, Nat.le_of_ble_eq_true rfl, Nat.le_of_ble_eq_true rfl⟩ rfl rfl (Nat.le_of_ble_eq_true rfl) ⟨Nat.zero_le _, Nat.zero_le _⟩ dX6_gatherLetters_13 (fun H locs hP hS => ?_)
  obtain ⟨X3, e4, hf⟩ := gl_in hf
  rw [← e4] at hP
  refine lv_aload_n hx hb dX6_gatherLetters_16 rfl (lv_at hl 0 rfl) ?_
  refine r_get C hP ha_l0 (ct_29 _ _ _ _) fx_X6_29 (fg_29_5 _ _ _) dX6_gatherLetters_17 ?_
  refine lv_iconst (v := 0) hx hb dX6_gatherLetters_20 (by decide) ?_
  refine lv_iconst (v := 0) hx hb dX6_gatherLetters_21 (by decide) ?_
  obtain ⟨j5, h6, hf⟩ := rd_in hf
  refine r_iast C hP hS (gs_29_5 hW ha_l0) (fun _ => ct_34 _ _ _ _) h6 dX6_gatherLetters_22 (fun H locs hP hS => ?_)
  obtain ⟨X7, e8, hf⟩ := gl_in hf
  rw [← e8] at hP
  refine lv_iconst (v := 0) hx hb dX6_gatherLetters_23 (by decide) ?_
  refine lv_istore_n (i := 2) (lv' := [(2, .int (0 : Int32)), (0, .ref (ad 29 0)), (1, .ref (ad 25 0))]) hx hb dX6_gatherLetters_24 rfl hl (Nat.le_of_ble_eq_true rfl) rfl (fun ls hl => ?_)
  exact s_X6_gatherLetters_L25 C hW hD0 (fun Y H locs ls hP hS hl hf => s_X6_gatherLetters_J144 C hW hD0 Y _ _ _ hP hS hl hf) N (0 : Int32) X7 _ _ _ hP hS (lv_sub hl [1, 2, 0] rfl) ha_l0 ha_l1 hf

theorem s_X6_gatherLetters {l : Launch} {D : va_G} {cA : Nat → ClassId} {ad : Nat → Nat → Nat} {NL : List (Nat × Nat)} {N : Nat} {X : gM} {rr : Int32} {XX : gM} (hW : gWf NL) (hD0 : gD (fun _ => True) ad NL) (ha_l0 : (29, 0) ∈ NL) (ha_l1 : (25, 0) ∈ NL) (hf : X6_gatherLetters (gal NL) N  X = some (rr, XX)) : gC l yX6_gatherLetters cX6_gatherLetters 6 none rm_X6_gatherLetters D cA ad NL [.ref (ad 29 0), .ref (ad 25 0)] X none XX :=
  g_ofW (by decide) hD0 (Nat.le_of_ble_eq_true rfl) rfl (fun p e s m below meth c ls C hP hS hl => w_X6_gatherLetters C hW hD0 ha_l0 ha_l1 X _ _ ls hP hS hl hf)
def rm_X6_standing : Room := { frames := 1, cells := 0, slots := 0, locals := 20 }
set_option maxRecDepth 100000 in
set_option maxHeartbeats 4000000 in
theorem s_X6_standing_J76 {p : Program} {l : Launch} {e : Env} {s : State} {m : MethodId} {args : Array Value} {below : List Frame} {meth : Method} {c : Code} {D : va_G} {cA : Nat → ClassId} {ad : Nat → Nat → Nat} {NL : List (Nat × Nat)} {A : Nat → Prop} {rr : Int32} {XX : gM} {N : Nat} (C : gCx p c meth m s args cX6_standing 2 (some .int) RX6 D cA ad NL A) (hW : gWf NL) (hD0 : gD (fun _ => True) ad NL) : ∀ (s0 : Int32) (X : gM) (H : Heap) (locs : List Loc) (ls : Array Slot), gH D cA ad NL X H → va_S A s.heap H locs → lv_has ls 2 [] → X6_standing_J76 (gal NL) N s0 X = some (rr, XX) → W p l e rm_X6_standing s m args below meth c H locs 0 0 (MQ below (gQ D cA ad NL (some (.int rr)) XX A) args s 0 0 A) (F0 m 76 ls [.int s0]) := by
  have hx := C.1
  have hb := C.2.1
  intro s0 X H locs ls hP hS hl hf
  rw [X6_standing_J76] at hf
  obtain ⟨rfl, rfl⟩ := g_s1 hf
  exact r_iret C hP hS dX6_standing_76

set_option maxRecDepth 100000 in
set_option maxHeartbeats 4000000 in
theorem s_X6_standing_J22 {p : Program} {l : Launch} {e : Env} {s : State} {m : MethodId} {args : Array Value} {below : List Frame} {meth : Method} {c : Code} {D : va_G} {cA : Nat → ClassId} {ad : Nat → Nat → Nat} {NL : List (Nat × Nat)} {A : Nat → Prop} {rr : Int32} {XX : gM} {N : Nat} (C : gCx p c meth m s args cX6_standing 2 (some .int) RX6 D cA ad NL A) (hW : gWf NL) (hD0 : gD (fun _ => True) ad NL) : ∀ (X : gM) (H : Heap) (locs : List Loc) (ls : Array Slot), gH D cA ad NL X H → va_S A s.heap H locs → lv_has ls 2 [] → X6_standing_J22 (gal NL) N X = some (rr, XX) → W p l e rm_X6_standing s m args below meth c H locs 0 0 (MQ below (gQ D cA ad NL (some (.int rr)) XX A) args s 0 0 A) (F0 m 22 ls []) := by
  have hx := C.1
  have hb := C.2.1
  intro X H locs ls hP hS hl hf
  rw [X6_standing_J22] at hf
  refine lv_iconst (v := 0) hx hb dX6_standing_22 (by decide) ?_
  obtain ⟨rfl, rfl⟩ := g_s1 hf
  exact r_iret C hP hS dX6_standing_23

set_option maxRecDepth 100000 in
set_option maxHeartbeats 4000000 in
theorem w_X6_standing {p : Program} {l : Launch} {e : Env} {s : State} {m : MethodId} {args : Array Value} {below : List Frame} {meth : Method} {c : Code} {D : va_G} {cA : Nat → ClassId} {ad : Nat → Nat → Nat} {NL : List (Nat × Nat)} {A : Nat → Prop} {rr : Int32} {XX : gM} {N : Nat} (C : gCx p c meth m s args cX6_standing 2 (some .int) RX6 D cA ad NL A) (hW : gWf NL) (hD0 : gD (fun _ => True) ad NL) {p1 : Int32} (ha_l0 : (29, 0) ∈ NL) : ∀ (X : gM) (H : Heap) (locs : List Loc) (ls : Array Slot), gH D cA ad NL X H → va_S A s.heap H locs → lv_has ls 2 [(0, .ref (ad 29 0)), (1, .int p1)] → X6_standing (gal NL) N p1 X = some (rr, XX) → W p l e rm_X6_standing s m args below meth c H locs 0 0 (MQ below (gQ D cA ad NL (some (.int rr)) XX A) args s 0 0 A) (F0 m 0 ls []) := by
  have hx := C.1
  have hb := C.2.1
  intro X H locs ls hP hS hl hf
  rw [X6_standing] at hf
  refine lv_iload_n hx hb dX6_standing_0 rfl (lv_at hl 1 rfl) ?_
  refine lv_if_lt (tgt := 22) hx hb dX6_standing_1 (by decide) (fun c1 => ?_) (fun c1 => ?_)
  · have hf := g_ip c1 hf
    exact s_X6_standing_J22 C hW hD0 X _ _ _ hP hS (lv_sub hl [] rfl) hf
  · have hf := g_in c1 hf
    refine lv_iload_n hx hb dX6_standing_4 rfl (lv_at hl 1 rfl) ?_
    refine lv_aload_n hx hb dX6_standing_5 rfl (lv_at hl 0 rfl) ?_
    refine r_get C hP ha_l0 (ct_29 _ _ _ _) fx_X6_9 (fg_29_0 _ _ _) dX6_standing_6 ?_
    refine lv_icmp_ge (tgt := 22) hx hb dX6_standing_9 (by decide) (fun c2 => ?_) (fun c2 => ?_)
    · have hf := g_ip c2 hf
      exact s_X6_standing_J22 C hW hD0 X _ _ _ hP hS (lv_sub hl [] rfl) hf
    · have hf := g_in c2 hf
      refine lv_aload_n hx hb dX6_standing_12 rfl (lv_at hl 0 rfl) ?_
      refine r_get C hP ha_l0 (ct_29 _ _ _ _) fx_X6_32 (fg_29_6 _ _ _) dX6_standing_13 ?_
      refine lv_iconst (v := 0) hx hb dX6_standing_16 (by decide) ?_
      obtain ⟨j3, h4, hf⟩ := rd_in hf
      refine r_iald C hP (gs_29_6 hW ha_l0) (ct_35 _ _ _ _) h4 dX6_standing_17 ?_
      refine lv_iconst (v := -1) hx hb dX6_standing_18 (by decide) ?_
      refine lv_icmp_ne (tgt := 24) hx hb dX6_standing_19 (by decide) (fun c5 => ?_) (fun c5 => ?_)
      · have hf := g_in c5 hf
        refine lv_aload_n hx hb dX6_standing_24 rfl (lv_at hl 0 rfl) ?_
        refine r_get C hP ha_l0 (ct_29 _ _ _ _) fx_X6_15 (fg_29_1 _ _ _) dX6_standing_25 ?_
        refine lv_iload_n hx hb dX6_standing_28 rfl (lv_at hl 1 rfl) ?_
        obtain ⟨j6, h7, hf⟩ := rd_in hf
        refine r_zald C hP (gs_29_1 hW ha_l0) (ct_30 _ _ _ _) h7 dX6_standing_29 ?_
        refine lv_if_eq (tgt := 35) hx hb dX6_standing_30 (by decide) (fun c8 => ?_) (fun c8 => ?_)
        · have hf := g_ip c8 hf
          refine lv_aload_n hx hb dX6_standing_35 rfl (lv_at hl 0 rfl) ?_
          refine r_get C hP ha_l0 (ct_29 _ _ _ _) fx_X6_43 (fg_29_9 _ _ _) dX6_standing_36 ?_
          refine lv_iload_n hx hb dX6_standing_39 rfl (lv_at hl 1 rfl) ?_
          obtain ⟨j9, h10, hf⟩ := rd_in hf
          refine r_iald C hP (gs_29_9 hW ha_l0) (ct_39 _ _ _ _) h10 dX6_standing_40 ?_
          obtain ⟨r11, X12, h13, hf⟩ := b2_in hf
          refine r_cSi (rest := []) C hP hS hl.1 (s_J6_bitCount_0f7a4 hW hD0  h13) ix_J6_bitCount_0f7a4 is_J6_bitCount_0f7a4 ls_X6_117 ⟨rfl, rfl, Nat.le_of_ble_eq_true rfl, Nat.le_of_ble_eq_true rfl⟩ rfl rfl (Nat.le_of_ble_eq_true rfl) ⟨Nat.zero_le _, Nat.zero_le _⟩ dX6_standing_41 (fun H locs hP hS => ?_)
          refine lv_iconst (v := 1) hx hb dX6_standing_44 (by decide) ?_
          refine lv_icmp_le (tgt := 50) hx hb dX6_standing_45 (by decide) (fun c14 => ?_) (fun c14 => ?_)
          · have hf := g_ip c14 hf
            refine lv_aload_n hx hb dX6_standing_50 rfl (lv_at hl 0 rfl) ?_
            refine r_get C hP ha_l0 (ct_29 _ _ _ _) fx_X6_19 (fg_29_2 _ _ _) dX6_standing_51 ?_
            refine lv_iload_n hx hb dX6_standing_54 rfl (lv_at hl 1 rfl) ?_
            obtain ⟨j15, h16, hf⟩ := rd_in hf
            refine r_iald C hP (gs_29_2 hW ha_l0) (ct_31 _ _ _ _) h16 dX6_standing_55 ?_
            refine lv_if_ne (tgt := 61) hx hb dX6_standing_56 (by decide) (fun c17 => ?_) (fun c17 => ?_)
            · have hf := g_in c17 hf
              refine lv_aload_n hx hb dX6_standing_61 rfl (lv_at hl 0 rfl) ?_
              refine r_get C hP ha_l0 (ct_29 _ _ _ _) fx_X6_19 (fg_29_2 _ _ _) dX6_standing_62 ?_
              refine lv_iload_n hx hb dX6_standing_65 rfl (lv_at hl 1 rfl) ?_
              obtain ⟨j18, h19, hf⟩ := rd_in hf
              refine r_iald C hP (gs_29_2 hW ha_l0) (ct_31 _ _ _ _) h19 dX6_standing_66 ?_
              refine lv_iconst (v := 1) hx hb dX6_standing_67 (by decide) ?_
              refine lv_icmp_ne (tgt := 75) hx hb dX6_standing_68 (by decide) (fun c20 => ?_) (fun c20 => ?_)
              · have hf := g_in c20 hf
                refine lv_iconst (v := 3) hx hb dX6_standing_75 (by decide) ?_
                exact s_X6_standing_J76 C hW hD0 (3 : Int32) X12 _ _ _ hP hS (lv_sub hl [] rfl) hf
              · have hf := g_ip c20 hf
                refine lv_iconst (v := 2) hx hb dX6_standing_71 (by decide) ?_
                refine lv_goto (tgt := 76) hx hb dX6_standing_72 (by decide) ?_
                exact s_X6_standing_J76 C hW hD0 (2 : Int32) X12 _ _ _ hP hS (lv_sub hl [] rfl) hf
            · have hf := g_ip c17 hf
              refine lv_iconst (v := 4) hx hb dX6_standing_59 (by decide) ?_
              obtain ⟨rfl, rfl⟩ := g_s1 hf
              exact r_iret C hP hS dX6_standing_60
          · have hf := g_in c14 hf
            refine lv_iconst (v := 5) hx hb dX6_standing_48 (by decide) ?_
            obtain ⟨rfl, rfl⟩ := g_s1 hf
            exact r_iret C hP hS dX6_standing_49
        · have hf := g_in c8 hf
          refine lv_iconst (v := 1) hx hb dX6_standing_33 (by decide) ?_
          obtain ⟨rfl, rfl⟩ := g_s1 hf
          exact r_iret C hP hS dX6_standing_34
      · have hf := g_ip c5 hf
        exact s_X6_standing_J22 C hW hD0 X _ _ _ hP hS (lv_sub hl [] rfl) hf

theorem s_X6_standing {l : Launch} {D : va_G} {cA : Nat → ClassId} {ad : Nat → Nat → Nat} {NL : List (Nat × Nat)} {N : Nat} {p1 : Int32} {X : gM} {rr : Int32} {XX : gM} (hW : gWf NL) (hD0 : gD (fun _ => True) ad NL) (ha_l0 : (29, 0) ∈ NL) (hf : X6_standing (gal NL) N p1 X = some (rr, XX)) : gC l yX6_standing cX6_standing 2 (some .int) rm_X6_standing D cA ad NL [.ref (ad 29 0), .int p1] X (some (.int rr)) XX :=
  g_ofW (by decide) hD0 (Nat.le_of_ble_eq_true rfl) rfl (fun p e s m below meth c ls C hP hS hl => w_X6_standing C hW hD0 ha_l0 X _ _ ls hP hS hl hf)
def rm_X4_addLetter : Room := { frames := 1, cells := 0, slots := 0, locals := 21 }
set_option maxRecDepth 100000 in
set_option maxHeartbeats 4000000 in
theorem s_X4_addLetter_J108 {p : Program} {l : Launch} {e : Env} {s : State} {m : MethodId} {args : Array Value} {below : List Frame} {meth : Method} {c : Code} {D : va_G} {cA : Nat → ClassId} {ad : Nat → Nat → Nat} {NL : List (Nat × Nat)} {A : Nat → Prop} {rr : Int32} {XX : gM} {N : Nat} (C : gCx p c meth m s args cX4_addLetter 6 none RX4 D cA ad NL A) (hW : gWf NL) (hD0 : gD (fun _ => True) ad NL) : ∀ (X : gM) (H : Heap) (locs : List Loc) (ls : Array Slot), gH D cA ad NL X H → va_S A s.heap H locs → lv_has ls 6 [] → X4_addLetter_J108 (gal NL) N X = some (rr, XX) → W p l e rm_X4_addLetter s m args below meth c H locs 0 0 (MQ below (gQ D cA ad NL none XX A) args s 0 0 A) (F0 m 108 ls []) := by
  have hx := C.1
  have hb := C.2.1
  intro X H locs ls hP hS hl hf
  rw [X4_addLetter_J108] at hf
  obtain ⟨rfl, rfl⟩ := g_s1 hf
  exact r_vret C hP hS dX4_addLetter_108

set_option maxRecDepth 100000 in
set_option maxHeartbeats 4000000 in
theorem s_X4_addLetter_J58 {p : Program} {l : Launch} {e : Env} {s : State} {m : MethodId} {args : Array Value} {below : List Frame} {meth : Method} {c : Code} {D : va_G} {cA : Nat → ClassId} {ad : Nat → Nat → Nat} {NL : List (Nat × Nat)} {A : Nat → Prop} {rr : Int32} {XX : gM} {N : Nat} {kk : Int32 → Nat → Int32 → Int32 → gM → Option (Int32 × gM)} {k108 : gM → Option (Int32 × gM)} (C : gCx p c meth m s args cX4_addLetter 6 none RX4 D cA ad NL A) (hW : gWf NL) (hD0 : gD (fun _ => True) ad NL) (hkk : ∀ (p1 : Int32) (p2 : Nat) (p3 : Int32) (p4 : Int32) (Y : gM) (H : Heap) (locs : List Loc) (ls : Array Slot), gH D cA ad NL Y H → va_S A s.heap H locs → lv_has ls 6 [(0, .ref (ad 40 0)), (1, .int p1), (2, .ref (ad 26 p2)), (3, .int p3), (4, .int p4)] → (40, 0) ∈ NL → (26, p2) ∈ NL → kk p1 p2 p3 p4 Y = some (rr, XX) → W p l e rm_X4_addLetter s m args below meth c H locs 0 0 (MQ below (gQ D cA ad NL none XX A) args s 0 0 A) (F0 m 20 ls [])) (hk108 : ∀ (Y : gM) (H : Heap) (locs : List Loc) (ls : Array Slot), gH D cA ad NL Y H → va_S A s.heap H locs → lv_has ls 6 [] → k108 Y = some (rr, XX) → W p l e rm_X4_addLetter s m args below meth c H locs 0 0 (MQ below (gQ D cA ad NL none XX A) args s 0 0 A) (F0 m 108 ls [])) : ∀ (p1 : Int32) (p2 : Nat) (p4 : Int32) (s0 : Int32) (s1 : Int32) (X : gM) (H : Heap) (locs : List Loc) (ls : Array Slot), gH D cA ad NL X H → va_S A s.heap H locs → lv_has ls 6 [(0, .ref (ad 40 0)), (1, .int p1), (2, .ref (ad 26 p2)), (4, .int p4)] → (40, 0) ∈ NL → (26, p2) ∈ NL → X4_addLetter_J58 (gal NL) N kk k108 p1 p2 p4 s0 s1 X = some (rr, XX) → W p l e rm_X4_addLetter s m args below meth c H locs 0 0 (MQ below (gQ D cA ad NL none XX A) args s 0 0 A) (F0 m 58 ls [.int s1, .int s0]) := by
  have hx := C.1
  have hb := C.2.1
  intro p1 p2 p4 s0 s1 X H locs ls hP hS hl ha_l0 ha_l2 hf
  rw [X4_addLetter_J58] at hf
  refine lv_iadd hx hb dX4_addLetter_58 ?_
  refine g_top hf (fun v1 e2 hf => ?_)
  refine lv_istore (i := 5) (lv' := [(5, .int v1), (0, .ref (ad 40 0)), (1, .int p1), (2, .ref (ad 26 p2)), (4, .int p4)]) hx hb dX4_addLetter_59 hl (Nat.le_of_ble_eq_true rfl) rfl (fun ls hl => ?_)
  refine lv_aload_n hx hb dX4_addLetter_61 rfl (lv_at hl 1 rfl) ?_
  refine r_get C hP ha_l0 (ct_40 _ _ _ _) fx_X4_18 (fg_40_2 _ _ _) dX4_addLetter_62 ?_
  refine lv_iload hx hb dX4_addLetter_65 (lv_at hl 4 rfl) ?_
  obtain ⟨j3, h4, hf⟩ := rd_in hf
  refine r_iald C hP (gs_40_2 hW ha_l0) (ct_41 _ _ _ _) h4 dX4_addLetter_67 ?_
  refine g_top hf (fun v5 e6 hf => ?_)
  refine lv_istore_n (i := 3) (lv' := [(3, .int v5), (5, .int v1), (0, .ref (ad 40 0)), (1, .int p1), (2, .ref (ad 26 p2)), (4, .int p4)]) hx hb dX4_addLetter_68 rfl hl (Nat.le_of_ble_eq_true rfl) rfl (fun ls hl => ?_)
  refine lv_aload_n hx hb dX4_addLetter_69 rfl (lv_at hl 2 rfl) ?_
  refine r_get C hP ha_l0 (ct_40 _ _ _ _) fx_X4_18 (fg_40_2 _ _ _) dX4_addLetter_70 ?_
  refine lv_iload hx hb dX4_addLetter_73 (lv_at hl 5 rfl) ?_
  refine lv_iload hx hb dX4_addLetter_75 (lv_at hl 1 rfl) ?_
  refine lv_aload_n hx hb dX4_addLetter_77 rfl (lv_at hl 2 rfl) ?_
  refine r_get C hP ha_l0 (ct_40 _ _ _ _) fx_X4_18 (fg_40_2 _ _ _) dX4_addLetter_78 ?_
  refine lv_iload hx hb dX4_addLetter_81 (lv_at hl 5 rfl) ?_
  obtain ⟨j7, h8, hf⟩ := rd_in hf
  refine r_iald C hP (gs_40_2 hW ha_l0) (ct_41 _ _ _ _) h8 dX4_addLetter_83 ?_
  refine lv_aload_n hx hb dX4_addLetter_84 rfl (lv_at hl 2 rfl) ?_
  refine r_get C hP ha_l0 (ct_40 _ _ _ _) fx_X4_18 (fg_40_2 _ _ _) dX4_addLetter_85 ?_
  refine lv_iload hx hb dX4_addLetter_88 (lv_at hl 5 rfl) ?_
  refine lv_iconst (v := 1) hx hb dX4_addLetter_90 (by decide) ?_
  refine lv_isub hx hb dX4_addLetter_91 ?_
  obtain ⟨j9, h10, hf⟩ := rd_in hf
  refine r_iald C hP (gs_40_2 hW ha_l0) (ct_41 _ _ _ _) h10 dX4_addLetter_92 ?_
  refine r_mmin C hl.1 jm_X4_49 jx_min.1 jx_min.2.1 jx_min.2.2 ⟨Nat.le_of_ble_eq_true rfl, Nat.le_of_ble_eq_true rfl, Nat.le_of_ble_eq_true rfl, Nat.le_of_ble_eq_true rfl⟩ dX4_addLetter_93 ?_
  refine g_top hf (fun v11 e12 hf => ?_)
  refine lv_iconst (v := 2) hx hb dX4_addLetter_96 (by decide) ?_
  refine lv_iadd hx hb dX4_addLetter_97 ?_
  refine r_mmin C hl.1 jm_X4_49 jx_min.1 jx_min.2.1 jx_min.2.2 ⟨Nat.le_of_ble_eq_true rfl, Nat.le_of_ble_eq_true rfl, Nat.le_of_ble_eq_true rfl, Nat.le_of_ble_eq_true rfl⟩ dX4_addLetter_98 ?_
  refine g_top hf (fun v13 e14 hf => ?_)
  obtain ⟨j15, h16, hf⟩ := rd_in hf
  refine r_iast C hP hS (gs_40_2 hW ha_l0) (fun _ => ct_41 _ _ _ _) h16 dX4_addLetter_101 (fun H locs hP hS => ?_)
  obtain ⟨X17, e18, hf⟩ := gl_in hf
  rw [← e18] at hP
  obtain ⟨v19, e20, hf⟩ := gl_in hf
  refine lv_iinc (v := v19) (lv' := [(4, .int v19), (3, .int v5), (5, .int v1), (0, .ref (ad 40 0)), (1, .int p1), (2, .ref (ad 26 p2))]) hx hb dX4_addLetter_102 hl (k := 5) rfl (by rw [e20]; rfl) (Nat.le_of_ble_eq_true rfl) rfl (fun ls hl => ?_)
  refine lv_goto (tgt := 20) hx hb dX4_addLetter_105 (by decide) ?_
  exact hkk p1 p2 v5 v19 X17 _ _ _ hP hS (lv_sub hl [3, 4, 5, 1, 0] rfl) ha_l0 ha_l2 hf

set_option maxRecDepth 100000 in
set_option maxHeartbeats 4000000 in
theorem s_X4_addLetter_L20 {p : Program} {l : Launch} {e : Env} {s : State} {m : MethodId} {args : Array Value} {below : List Frame} {meth : Method} {c : Code} {D : va_G} {cA : Nat → ClassId} {ad : Nat → Nat → Nat} {NL : List (Nat × Nat)} {A : Nat → Prop} {rr : Int32} {XX : gM} {N : Nat} {k108 : gM → Option (Int32 × gM)} (C : gCx p c meth m s args cX4_addLetter 6 none RX4 D cA ad NL A) (hW : gWf NL) (hD0 : gD (fun _ => True) ad NL) (hk108 : ∀ (Y : gM) (H : Heap) (locs : List Loc) (ls : Array Slot), gH D cA ad NL Y H → va_S A s.heap H locs → lv_has ls 6 [] → k108 Y = some (rr, XX) → W p l e rm_X4_addLetter s m args below meth c H locs 0 0 (MQ below (gQ D cA ad NL none XX A) args s 0 0 A) (F0 m 108 ls [])) : ∀ (n : Nat) (p1 : Int32) (p2 : Nat) (p3 : Int32) (p4 : Int32) (X : gM) (H : Heap) (locs : List Loc) (ls : Array Slot), gH D cA ad NL X H → va_S A s.heap H locs → lv_has ls 6 [(0, .ref (ad 40 0)), (1, .int p1), (2, .ref (ad 26 p2)), (3, .int p3), (4, .int p4)] → (40, 0) ∈ NL → (26, p2) ∈ NL → X4_addLetter_L20 (gal NL) N k108 n p1 p2 p3 p4 X = some (rr, XX) → W p l e rm_X4_addLetter s m args below meth c H locs 0 0 (MQ below (gQ D cA ad NL none XX A) args s 0 0 A) (F0 m 20 ls []) := by
  have hx := C.1
  have hb := C.2.1
  intro n
  induction n with
  | zero =>
    intro p1 p2 p3 p4 X H locs ls hP hS hl ha_l0 ha_l2 hf
    rw [X4_addLetter_L20] at hf
    cases hf
  | succ n ih =>
    intro p1 p2 p3 p4 X H locs ls hP hS hl ha_l0 ha_l2 hf
    rw [X4_addLetter_L20] at hf
    refine lv_iload hx hb dX4_addLetter_20 (lv_at hl 4 rfl) ?_
    refine lv_aload_n hx hb dX4_addLetter_22 rfl (lv_at hl 2 rfl) ?_
    refine r_get C hP ha_l2 (ct_26 _ _ _ _) fx_X4_41 (fg_26_1 _ _ _) dX4_addLetter_23 ?_
    refine lv_icmp_gt (tgt := 108) hx hb dX4_addLetter_26 (by decide) (fun c1 => ?_) (fun c1 => ?_)
    · have hf := g_ip c1 hf
      exact hk108 X _ _ _ hP hS (lv_sub hl [] rfl) hf
    · have hf := g_in c1 hf
      refine lv_iload hx hb dX4_addLetter_29 (lv_at hl 4 rfl) ?_
      refine lv_aload_n hx hb dX4_addLetter_31 rfl (lv_at hl 0 rfl) ?_
      refine r_get C hP ha_l0 (ct_40 _ _ _ _) fx_X4_18 (fg_40_2 _ _ _) dX4_addLetter_32 ?_
      refine r_alen C hP 41 (gs_40_2 hW ha_l0) (ct_41 _ _ _ _) rfl rfl dX4_addLetter_35 ?_
      refine lv_icmp_ge (tgt := 108) hx hb dX4_addLetter_36 (by decide) (fun c2 => ?_) (fun c2 => ?_)
      · have hf := g_ip c2 hf
        exact hk108 X _ _ _ hP hS (lv_sub hl [] rfl) hf
      · have hf := g_in c2 hf
        refine lv_iload_n hx hb dX4_addLetter_39 rfl (lv_at hl 3 rfl) ?_
        refine lv_aload_n hx hb dX4_addLetter_40 rfl (lv_at hl 2 rfl) ?_
        refine r_get C hP ha_l2 (ct_26 _ _ _ _) fx_X4_46 (fg_26_0 _ _ _) dX4_addLetter_41 ?_
        refine lv_iload hx hb dX4_addLetter_44 (lv_at hl 4 rfl) ?_
        refine lv_iconst (v := 1) hx hb dX4_addLetter_46 (by decide) ?_
        refine lv_isub hx hb dX4_addLetter_47 ?_
        obtain ⟨j3, h4, hf⟩ := rd_in hf
        refine r_iald C hP (gs_26_0 hW ha_l2) (ct_27 _ _ _ _) h4 dX4_addLetter_48 ?_
        refine lv_iload_n hx hb dX4_addLetter_49 rfl (lv_at hl 1 rfl) ?_
        refine lv_icmp_ne (tgt := 57) hx hb dX4_addLetter_50 (by decide) (fun c5 => ?_) (fun c5 => ?_)
        · have hf := g_in c5 hf
          refine lv_iconst (v := 1) hx hb dX4_addLetter_57 (by decide) ?_
          exact s_X4_addLetter_J58 C hW hD0 ih hk108 p1 p2 p4 p3 (1 : Int32) X _ _ _ hP hS (lv_sub hl [0, 1, 2, 4] rfl) ha_l0 ha_l2 hf
        · have hf := g_ip c5 hf
          refine lv_iconst (v := 0) hx hb dX4_addLetter_53 (by decide) ?_
          refine lv_goto (tgt := 58) hx hb dX4_addLetter_54 (by decide) ?_
          exact s_X4_addLetter_J58 C hW hD0 ih hk108 p1 p2 p4 p3 (0 : Int32) X _ _ _ hP hS (lv_sub hl [0, 1, 2, 4] rfl) ha_l0 ha_l2 hf

set_option maxRecDepth 100000 in
set_option maxHeartbeats 4000000 in
theorem w_X4_addLetter {p : Program} {l : Launch} {e : Env} {s : State} {m : MethodId} {args : Array Value} {below : List Frame} {meth : Method} {c : Code} {D : va_G} {cA : Nat → ClassId} {ad : Nat → Nat → Nat} {NL : List (Nat × Nat)} {A : Nat → Prop} {rr : Int32} {XX : gM} {N : Nat} (C : gCx p c meth m s args cX4_addLetter 6 none RX4 D cA ad NL A) (hW : gWf NL) (hD0 : gD (fun _ => True) ad NL) {p1 : Int32} {p2 : Nat} (ha_l0 : (40, 0) ∈ NL) (ha_l2 : (26, p2) ∈ NL) : ∀ (X : gM) (H : Heap) (locs : List Loc) (ls : Array Slot), gH D cA ad NL X H → va_S A s.heap H locs → lv_has ls 6 [(0, .ref (ad 40 0)), (1, .int p1), (2, .ref (ad 26 p2))] → X4_addLetter (gal NL) N p1 p2 X = some (rr, XX) → W p l e rm_X4_addLetter s m args below meth c H locs 0 0 (MQ below (gQ D cA ad NL none XX A) args s 0 0 A) (F0 m 0 ls []) := by
  have hx := C.1
  have hb := C.2.1
  intro X H locs ls hP hS hl hf
  rw [X4_addLetter] at hf
  refine lv_aload_n hx hb dX4_addLetter_0 rfl (lv_at hl 0 rfl) ?_
  refine r_get C hP ha_l0 (ct_40 _ _ _ _) fx_X4_18 (fg_40_2 _ _ _) dX4_addLetter_1 ?_
  refine lv_iconst (v := 0) hx hb dX4_addLetter_4 (by decide) ?_
  obtain ⟨j1, h2, hf⟩ := rd_in hf
  refine r_iald C hP (gs_40_2 hW ha_l0) (ct_41 _ _ _ _) h2 dX4_addLetter_5 ?_
  refine g_top hf (fun v3 e4 hf => ?_)
  refine lv_istore_n (i := 3) (lv' := [(3, .int v3), (0, .ref (ad 40 0)), (1, .int p1), (2, .ref (ad 26 p2))]) hx hb dX4_addLetter_6 rfl hl (Nat.le_of_ble_eq_true rfl) rfl (fun ls hl => ?_)
  refine lv_aload_n hx hb dX4_addLetter_7 rfl (lv_at hl 1 rfl) ?_
  refine r_get C hP ha_l0 (ct_40 _ _ _ _) fx_X4_18 (fg_40_2 _ _ _) dX4_addLetter_8 ?_
  refine lv_iconst (v := 0) hx hb dX4_addLetter_11 (by decide) ?_
  refine lv_dup2_11 hx hb dX4_addLetter_12 rfl rfl ?_
  obtain ⟨j5, h6, hf⟩ := rd_in hf
  refine r_iald C hP (gs_40_2 hW ha_l0) (ct_41 _ _ _ _) h6 dX4_addLetter_13 ?_
  refine lv_iconst (v := 2) hx hb dX4_addLetter_14 (by decide) ?_
  refine lv_iadd hx hb dX4_addLetter_15 ?_
  obtain ⟨j7, h8, hf⟩ := rd_in hf
  refine r_iast C hP hS (gs_40_2 hW ha_l0) (fun _ => ct_41 _ _ _ _) h8 dX4_addLetter_16 (fun H locs hP hS => ?_)
  obtain ⟨X9, e10, hf⟩ := gl_in hf
  rw [← e10] at hP
  refine lv_iconst (v := 1) hx hb dX4_addLetter_17 (by decide) ?_
  refine lv_istore (i := 4) (lv' := [(4, .int (1 : Int32)), (3, .int v3), (0, .ref (ad 40 0)), (1, .int p1), (2, .ref (ad 26 p2))]) hx hb dX4_addLetter_18 hl (Nat.le_of_ble_eq_true rfl) rfl (fun ls hl => ?_)
  exact s_X4_addLetter_L20 C hW hD0 (fun Y H locs ls hP hS hl hf => s_X4_addLetter_J108 C hW hD0 Y _ _ _ hP hS hl hf) N p1 p2 v3 (1 : Int32) X9 _ _ _ hP hS (lv_sub hl [2, 3, 4, 1, 0] rfl) ha_l0 ha_l2 hf

theorem s_X4_addLetter {l : Launch} {D : va_G} {cA : Nat → ClassId} {ad : Nat → Nat → Nat} {NL : List (Nat × Nat)} {N : Nat} {p1 : Int32} {p2 : Nat} {X : gM} {rr : Int32} {XX : gM} (hW : gWf NL) (hD0 : gD (fun _ => True) ad NL) (ha_l0 : (40, 0) ∈ NL) (ha_l2 : (26, p2) ∈ NL) (hf : X4_addLetter (gal NL) N p1 p2 X = some (rr, XX)) : gC l yX4_addLetter cX4_addLetter 6 none rm_X4_addLetter D cA ad NL [.ref (ad 40 0), .int p1, .ref (ad 26 p2)] X none XX :=
  g_ofW (by decide) hD0 (Nat.le_of_ble_eq_true rfl) rfl (fun p e s m below meth c ls C hP hS hl => w_X4_addLetter C hW hD0 ha_l0 ha_l2 X _ _ ls hP hS hl hf)
def rm_X4_align : Room := { frames := 2, cells := 0, slots := 0, locals := 46 }
set_option maxRecDepth 100000 in
set_option maxHeartbeats 4000000 in
theorem s_X4_align_J112 {p : Program} {l : Launch} {e : Env} {s : State} {m : MethodId} {args : Array Value} {below : List Frame} {meth : Method} {c : Code} {D : va_G} {cA : Nat → ClassId} {ad : Nat → Nat → Nat} {NL : List (Nat × Nat)} {A : Nat → Prop} {rr : Int32} {XX : gM} {N : Nat} (C : gCx p c meth m s args cX4_align 5 none RX4 D cA ad NL A) (hW : gWf NL) (hD0 : gD (fun _ => True) ad NL) : ∀ (X : gM) (H : Heap) (locs : List Loc) (ls : Array Slot), gH D cA ad NL X H → va_S A s.heap H locs → lv_has ls 5 [] → X4_align_J112 (gal NL) N X = some (rr, XX) → W p l e rm_X4_align s m args below meth c H locs 0 0 (MQ below (gQ D cA ad NL none XX A) args s 0 0 A) (F0 m 112 ls []) := by
  have hx := C.1
  have hb := C.2.1
  intro X H locs ls hP hS hl hf
  rw [X4_align_J112] at hf
  obtain ⟨rfl, rfl⟩ := g_s1 hf
  exact r_vret C hP hS dX4_align_112

set_option maxRecDepth 100000 in
set_option maxHeartbeats 4000000 in
theorem s_X4_align_J106 {p : Program} {l : Launch} {e : Env} {s : State} {m : MethodId} {args : Array Value} {below : List Frame} {meth : Method} {c : Code} {D : va_G} {cA : Nat → ClassId} {ad : Nat → Nat → Nat} {NL : List (Nat × Nat)} {A : Nat → Prop} {rr : Int32} {XX : gM} {N : Nat} {kk : Nat → Int32 → gM → Option (Int32 × gM)} {k112 : gM → Option (Int32 × gM)} (C : gCx p c meth m s args cX4_align 5 none RX4 D cA ad NL A) (hW : gWf NL) (hD0 : gD (fun _ => True) ad NL) (hkk : ∀ (p2 : Nat) (p3 : Int32) (Y : gM) (H : Heap) (locs : List Loc) (ls : Array Slot), gH D cA ad NL Y H → va_S A s.heap H locs → lv_has ls 5 [(0, .ref (ad 40 0)), (2, .ref (ad 26 p2)), (3, .int p3)] → (40, 0) ∈ NL → (26, p2) ∈ NL → kk p2 p3 Y = some (rr, XX) → W p l e rm_X4_align s m args below meth c H locs 0 0 (MQ below (gQ D cA ad NL none XX A) args s 0 0 A) (F0 m 61 ls [])) (hk112 : ∀ (Y : gM) (H : Heap) (locs : List Loc) (ls : Array Slot), gH D cA ad NL Y H → va_S A s.heap H locs → lv_has ls 5 [] → k112 Y = some (rr, XX) → W p l e rm_X4_align s m args below meth c H locs 0 0 (MQ below (gQ D cA ad NL none XX A) args s 0 0 A) (F0 m 112 ls [])) : ∀ (p2 : Nat) (p3 : Int32) (X : gM) (H : Heap) (locs : List Loc) (ls : Array Slot), gH D cA ad NL X H → va_S A s.heap H locs → lv_has ls 5 [(0, .ref (ad 40 0)), (2, .ref (ad 26 p2)), (3, .int p3)] → (40, 0) ∈ NL → (26, p2) ∈ NL → X4_align_J106 (gal NL) N kk k112 p2 p3 X = some (rr, XX) → W p l e rm_X4_align s m args below meth c H locs 0 0 (MQ below (gQ D cA ad NL none XX A) args s 0 0 A) (F0 m 106 ls []) := by
  have hx := C.1
  have hb := C.2.1
  intro p2 p3 X H locs ls hP hS hl ha_l0 ha_l2 hf
  rw [X4_align_J106] at hf
  obtain ⟨v1, e2, hf⟩ := gl_in hf
  refine lv_iinc (v := v1) (lv' := [(3, .int v1), (0, .ref (ad 40 0)), (2, .ref (ad 26 p2))]) hx hb dX4_align_106 hl (k := 2) rfl (by rw [e2]; rfl) (Nat.le_of_ble_eq_true rfl) rfl (fun ls hl => ?_)
  refine lv_goto (tgt := 61) hx hb dX4_align_109 (by decide) ?_
  exact hkk p2 v1 X _ _ _ hP hS (lv_sub hl [1, 2, 0] rfl) ha_l0 ha_l2 hf

set_option maxRecDepth 100000 in
set_option maxHeartbeats 4000000 in
theorem s_X4_align_L61 {p : Program} {l : Launch} {e : Env} {s : State} {m : MethodId} {args : Array Value} {below : List Frame} {meth : Method} {c : Code} {D : va_G} {cA : Nat → ClassId} {ad : Nat → Nat → Nat} {NL : List (Nat × Nat)} {A : Nat → Prop} {rr : Int32} {XX : gM} {N : Nat} {k112 : gM → Option (Int32 × gM)} (C : gCx p c meth m s args cX4_align 5 none RX4 D cA ad NL A) (hW : gWf NL) (hD0 : gD (fun _ => True) ad NL) (hk112 : ∀ (Y : gM) (H : Heap) (locs : List Loc) (ls : Array Slot), gH D cA ad NL Y H → va_S A s.heap H locs → lv_has ls 5 [] → k112 Y = some (rr, XX) → W p l e rm_X4_align s m args below meth c H locs 0 0 (MQ below (gQ D cA ad NL none XX A) args s 0 0 A) (F0 m 112 ls [])) : ∀ (n : Nat) (p2 : Nat) (p3 : Int32) (X : gM) (H : Heap) (locs : List Loc) (ls : Array Slot), gH D cA ad NL X H → va_S A s.heap H locs → lv_has ls 5 [(0, .ref (ad 40 0)), (2, .ref (ad 26 p2)), (3, .int p3)] → (40, 0) ∈ NL → (26, p2) ∈ NL → X4_align_L61 (gal NL) N k112 n p2 p3 X = some (rr, XX) → W p l e rm_X4_align s m args below meth c H locs 0 0 (MQ below (gQ D cA ad NL none XX A) args s 0 0 A) (F0 m 61 ls []) := by
  have hx := C.1
  have hb := C.2.1
  intro n
  induction n with
  | zero =>
    intro p2 p3 X H locs ls hP hS hl ha_l0 ha_l2 hf
    rw [X4_align_L61] at hf
    cases hf
  | succ n ih =>
    intro p2 p3 X H locs ls hP hS hl ha_l0 ha_l2 hf
    rw [X4_align_L61] at hf
    refine lv_iload_n hx hb dX4_align_61 rfl (lv_at hl 2 rfl) ?_
    refine lv_aload_n hx hb dX4_align_62 rfl (lv_at hl 1 rfl) ?_
    refine r_get C hP ha_l2 (ct_26 _ _ _ _) fx_X4_41 (fg_26_1 _ _ _) dX4_align_63 ?_
    refine lv_icmp_gt (tgt := 112) hx hb dX4_align_66 (by decide) (fun c1 => ?_) (fun c1 => ?_)
    · have hf := g_ip c1 hf
      exact hk112 X _ _ _ hP hS (lv_sub hl [] rfl) hf
    · have hf := g_in c1 hf
      refine lv_iload_n hx hb dX4_align_69 rfl (lv_at hl 2 rfl) ?_
      refine lv_aload_n hx hb dX4_align_70 rfl (lv_at hl 0 rfl) ?_
      refine r_get C hP ha_l0 (ct_40 _ _ _ _) fx_X4_18 (fg_40_2 _ _ _) dX4_align_71 ?_
      refine r_alen C hP 41 (gs_40_2 hW ha_l0) (ct_41 _ _ _ _) rfl rfl dX4_align_74 ?_
      refine lv_icmp_ge (tgt := 112) hx hb dX4_align_75 (by decide) (fun c2 => ?_) (fun c2 => ?_)
      · have hf := g_ip c2 hf
        exact hk112 X _ _ _ hP hS (lv_sub hl [] rfl) hf
      · have hf := g_in c2 hf
        refine lv_aload_n hx hb dX4_align_78 rfl (lv_at hl 0 rfl) ?_
        refine r_get C hP ha_l0 (ct_40 _ _ _ _) fx_X4_18 (fg_40_2 _ _ _) dX4_align_79 ?_
        refine lv_iload_n hx hb dX4_align_82 rfl (lv_at hl 2 rfl) ?_
        obtain ⟨j3, h4, hf⟩ := rd_in hf
        refine r_iald C hP (gs_40_2 hW ha_l0) (ct_41 _ _ _ _) h4 dX4_align_83 ?_
        refine lv_aload_n hx hb dX4_align_84 rfl (lv_at hl 0 rfl) ?_
        refine r_get C hP ha_l0 (ct_40 _ _ _ _) fx_X4_9 (fg_40_0 _ _ _) dX4_align_85 ?_
        refine lv_icmp_ge (tgt := 106) hx hb dX4_align_88 (by decide) (fun c5 => ?_) (fun c5 => ?_)
        · have hf := g_ip c5 hf
          exact s_X4_align_J106 C hW hD0 ih hk112 p2 p3 X _ _ _ hP hS (lv_sub hl [0, 1, 2] rfl) ha_l0 ha_l2 hf
        · have hf := g_in c5 hf
          refine lv_aload_n hx hb dX4_align_91 rfl (lv_at hl 0 rfl) ?_
          refine lv_aload_n hx hb dX4_align_92 rfl (lv_at hl 0 rfl) ?_
          refine r_get C hP ha_l0 (ct_40 _ _ _ _) fx_X4_18 (fg_40_2 _ _ _) dX4_align_93 ?_
          refine lv_iload_n hx hb dX4_align_96 rfl (lv_at hl 2 rfl) ?_
          obtain ⟨j6, h7, hf⟩ := rd_in hf
          refine r_iald C hP (gs_40_2 hW ha_l0) (ct_41 _ _ _ _) h7 dX4_align_97 ?_
          refine r_put C hP hS (X 41 0 j6) ha_l0 (ct_40 _ _ _ _) px_X4_9 (fp_40_0 _ _ _ _ _) (Nat.le_of_ble_eq_true rfl) rfl rfl dX4_align_98 (fun H locs hP hS => ?_)
          obtain ⟨X8, e9, hf⟩ := gl_in hf
          rw [← e9] at hP
          refine lv_aload_n hx hb dX4_align_101 rfl (lv_at hl 0 rfl) ?_
          refine lv_iload_n hx hb dX4_align_102 rfl (lv_at hl 2 rfl) ?_
          refine r_put C hP hS p3 ha_l0 (ct_40 _ _ _ _) px_X4_15 (fp_40_1 _ _ _ _ _) (Nat.le_of_ble_eq_true rfl) rfl rfl dX4_align_103 (fun H locs hP hS => ?_)
          obtain ⟨X10, e11, hf⟩ := gl_in hf
          rw [← e11] at hP
          exact s_X4_align_J106 C hW hD0 ih hk112 p2 p3 X10 _ _ _ hP hS (lv_sub hl [0, 1, 2] rfl) ha_l0 ha_l2 hf

set_option maxRecDepth 100000 in
set_option maxHeartbeats 4000000 in
theorem s_X4_align_J44 {p : Program} {l : Launch} {e : Env} {s : State} {m : MethodId} {args : Array Value} {below : List Frame} {meth : Method} {c : Code} {D : va_G} {cA : Nat → ClassId} {ad : Nat → Nat → Nat} {NL : List (Nat × Nat)} {A : Nat → Prop} {rr : Int32} {XX : gM} {N : Nat} (C : gCx p c meth m s args cX4_align 5 none RX4 D cA ad NL A) (hW : gWf NL) (hD0 : gD (fun _ => True) ad NL) : ∀ (p2 : Nat) (X : gM) (H : Heap) (locs : List Loc) (ls : Array Slot), gH D cA ad NL X H → va_S A s.heap H locs → lv_has ls 5 [(0, .ref (ad 40 0)), (2, .ref (ad 26 p2))] → (40, 0) ∈ NL → (26, p2) ∈ NL → X4_align_J44 (gal NL) N p2 X = some (rr, XX) → W p l e rm_X4_align s m args below meth c H locs 0 0 (MQ below (gQ D cA ad NL none XX A) args s 0 0 A) (F0 m 44 ls []) := by
  have hx := C.1
  have hb := C.2.1
  intro p2 X H locs ls hP hS hl ha_l0 ha_l2 hf
  rw [X4_align_J44] at hf
  refine lv_aload_n hx hb dX4_align_44 rfl (lv_at hl 0 rfl) ?_
  refine lv_aload_n hx hb dX4_align_45 rfl (lv_at hl 0 rfl) ?_
  refine r_get C hP ha_l0 (ct_40 _ _ _ _) fx_X4_18 (fg_40_2 _ _ _) dX4_align_46 ?_
  refine lv_iconst (v := 0) hx hb dX4_align_49 (by decide) ?_
  obtain ⟨j1, h2, hf⟩ := rd_in hf
  refine r_iald C hP (gs_40_2 hW ha_l0) (ct_41 _ _ _ _) h2 dX4_align_50 ?_
  refine r_put C hP hS (X 41 0 j1) ha_l0 (ct_40 _ _ _ _) px_X4_9 (fp_40_0 _ _ _ _ _) (Nat.le_of_ble_eq_true rfl) rfl rfl dX4_align_51 (fun H locs hP hS => ?_)
  obtain ⟨X3, e4, hf⟩ := gl_in hf
  rw [← e4] at hP
  refine lv_aload_n hx hb dX4_align_54 rfl (lv_at hl 0 rfl) ?_
  refine lv_iconst (v := 0) hx hb dX4_align_55 (by decide) ?_
  refine r_put C hP hS (0 : Int32) ha_l0 (ct_40 _ _ _ _) px_X4_15 (fp_40_1 _ _ _ _ _) (Nat.le_of_ble_eq_true rfl) rfl rfl dX4_align_56 (fun H locs hP hS => ?_)
  obtain ⟨X5, e6, hf⟩ := gl_in hf
  rw [← e6] at hP
  refine lv_iconst (v := 1) hx hb dX4_align_59 (by decide) ?_
  refine lv_istore_n (i := 3) (lv' := [(3, .int (1 : Int32)), (0, .ref (ad 40 0)), (2, .ref (ad 26 p2))]) hx hb dX4_align_60 rfl hl (Nat.le_of_ble_eq_true rfl) rfl (fun ls hl => ?_)
  exact s_X4_align_L61 C hW hD0 (fun Y H locs ls hP hS hl hf => s_X4_align_J112 C hW hD0 Y _ _ _ hP hS hl hf) N p2 (1 : Int32) X5 _ _ _ hP hS (lv_sub hl [1, 2, 0] rfl) ha_l0 ha_l2 hf

set_option maxRecDepth 100000 in
set_option maxHeartbeats 4000000 in
theorem s_X4_align_J38 {p : Program} {l : Launch} {e : Env} {s : State} {m : MethodId} {args : Array Value} {below : List Frame} {meth : Method} {c : Code} {D : va_G} {cA : Nat → ClassId} {ad : Nat → Nat → Nat} {NL : List (Nat × Nat)} {A : Nat → Prop} {rr : Int32} {XX : gM} {N : Nat} {kk : Nat → Int32 → gM → Option (Int32 × gM)} {k44 : Nat → gM → Option (Int32 × gM)} (C : gCx p c meth m s args cX4_align 5 none RX4 D cA ad NL A) (hW : gWf NL) (hD0 : gD (fun _ => True) ad NL) (hkk : ∀ (p2 : Nat) (p3 : Int32) (Y : gM) (H : Heap) (locs : List Loc) (ls : Array Slot), gH D cA ad NL Y H → va_S A s.heap H locs → lv_has ls 5 [(0, .ref (ad 40 0)), (1, .ref (ad 29 0)), (2, .ref (ad 26 p2)), (3, .int p3)] → (40, 0) ∈ NL → (29, 0) ∈ NL → (26, p2) ∈ NL → kk p2 p3 Y = some (rr, XX) → W p l e rm_X4_align s m args below meth c H locs 0 0 (MQ below (gQ D cA ad NL none XX A) args s 0 0 A) (F0 m 10 ls [])) (hk44 : ∀ (p2 : Nat) (Y : gM) (H : Heap) (locs : List Loc) (ls : Array Slot), gH D cA ad NL Y H → va_S A s.heap H locs → lv_has ls 5 [(0, .ref (ad 40 0)), (2, .ref (ad 26 p2))] → (40, 0) ∈ NL → (26, p2) ∈ NL → k44 p2 Y = some (rr, XX) → W p l e rm_X4_align s m args below meth c H locs 0 0 (MQ below (gQ D cA ad NL none XX A) args s 0 0 A) (F0 m 44 ls [])) : ∀ (p2 : Nat) (p3 : Int32) (X : gM) (H : Heap) (locs : List Loc) (ls : Array Slot), gH D cA ad NL X H → va_S A s.heap H locs → lv_has ls 5 [(0, .ref (ad 40 0)), (1, .ref (ad 29 0)), (2, .ref (ad 26 p2)), (3, .int p3)] → (40, 0) ∈ NL → (29, 0) ∈ NL → (26, p2) ∈ NL → X4_align_J38 (gal NL) N kk k44 p2 p3 X = some (rr, XX) → W p l e rm_X4_align s m args below meth c H locs 0 0 (MQ below (gQ D cA ad NL none XX A) args s 0 0 A) (F0 m 38 ls []) := by
  have hx := C.1
  have hb := C.2.1
  intro p2 p3 X H locs ls hP hS hl ha_l0 ha_l1 ha_l2 hf
  rw [X4_align_J38] at hf
  obtain ⟨v1, e2, hf⟩ := gl_in hf
  refine lv_iinc (v := v1) (lv' := [(3, .int v1), (0, .ref (ad 40 0)), (1, .ref (ad 29 0)), (2, .ref (ad 26 p2))]) hx hb dX4_align_38 hl (k := 3) rfl (by rw [e2]; rfl) (Nat.le_of_ble_eq_true rfl) rfl (fun ls hl => ?_)
  refine lv_goto (tgt := 10) hx hb dX4_align_41 (by decide) ?_
  exact hkk p2 v1 X _ _ _ hP hS (lv_sub hl [1, 2, 3, 0] rfl) ha_l0 ha_l1 ha_l2 hf

set_option maxRecDepth 100000 in
set_option maxHeartbeats 4000000 in
theorem s_X4_align_L10 {p : Program} {l : Launch} {e : Env} {s : State} {m : MethodId} {args : Array Value} {below : List Frame} {meth : Method} {c : Code} {D : va_G} {cA : Nat → ClassId} {ad : Nat → Nat → Nat} {NL : List (Nat × Nat)} {A : Nat → Prop} {rr : Int32} {XX : gM} {N : Nat} {k44 : Nat → gM → Option (Int32 × gM)} (C : gCx p c meth m s args cX4_align 5 none RX4 D cA ad NL A) (hW : gWf NL) (hD0 : gD (fun _ => True) ad NL) (hk44 : ∀ (p2 : Nat) (Y : gM) (H : Heap) (locs : List Loc) (ls : Array Slot), gH D cA ad NL Y H → va_S A s.heap H locs → lv_has ls 5 [(0, .ref (ad 40 0)), (2, .ref (ad 26 p2))] → (40, 0) ∈ NL → (26, p2) ∈ NL → k44 p2 Y = some (rr, XX) → W p l e rm_X4_align s m args below meth c H locs 0 0 (MQ below (gQ D cA ad NL none XX A) args s 0 0 A) (F0 m 44 ls [])) : ∀ (n : Nat) (p2 : Nat) (p3 : Int32) (X : gM) (H : Heap) (locs : List Loc) (ls : Array Slot), gH D cA ad NL X H → va_S A s.heap H locs → lv_has ls 5 [(0, .ref (ad 40 0)), (1, .ref (ad 29 0)), (2, .ref (ad 26 p2)), (3, .int p3)] → (40, 0) ∈ NL → (29, 0) ∈ NL → (26, p2) ∈ NL → X4_align_L10 (gal NL) N k44 n p2 p3 X = some (rr, XX) → W p l e rm_X4_align s m args below meth c H locs 0 0 (MQ below (gQ D cA ad NL none XX A) args s 0 0 A) (F0 m 10 ls []) := by
  have hx := C.1
  have hb := C.2.1
  intro n
  induction n with
  | zero =>
    intro p2 p3 X H locs ls hP hS hl ha_l0 ha_l1 ha_l2 hf
    rw [X4_align_L10] at hf
    cases hf
  | succ n ih =>
    intro p2 p3 X H locs ls hP hS hl ha_l0 ha_l1 ha_l2 hf
    rw [X4_align_L10] at hf
    refine lv_iload_n hx hb dX4_align_10 rfl (lv_at hl 3 rfl) ?_
    refine lv_aload_n hx hb dX4_align_11 rfl (lv_at hl 1 rfl) ?_
    refine r_get C hP ha_l1 (ct_29 _ _ _ _) fx_X4_28 (fg_29_0 _ _ _) dX4_align_12 ?_
    refine lv_icmp_ge (tgt := 44) hx hb dX4_align_15 (by decide) (fun c1 => ?_) (fun c1 => ?_)
    · have hf := g_ip c1 hf
      exact hk44 p2 X _ _ _ hP hS (lv_sub hl [0, 2] rfl) ha_l0 ha_l2 hf
    · have hf := g_in c1 hf
      refine lv_aload_n hx hb dX4_align_18 rfl (lv_at hl 1 rfl) ?_
      refine lv_iload_n hx hb dX4_align_19 rfl (lv_at hl 3 rfl) ?_
      obtain ⟨r2, X3, h4, hf⟩ := b2_in hf
      refine r_cVi (rest := []) C hP hS hl.1 (s_X6_firstLetter hW hD0 ha_l1 h4) ix_X6_firstLetter iv_X6_firstLetter lk_X4_33 ⟨rfl, rfl, Nat.le_of_ble_eq_true rfl, Nat.le_of_ble_eq_true rfl⟩ ha_l1 (ct_29 _ _ _ _) rfl rfl rfl rfl (Nat.le_of_ble_eq_true rfl) ⟨Nat.zero_le _, Nat.zero_le _⟩ dX4_align_20 (fun H locs hP hS => ?_)
      refine lv_istore (i := 4) (lv' := [(4, .int r2), (0, .ref (ad 40 0)), (1, .ref (ad 29 0)), (2, .ref (ad 26 p2)), (3, .int p3)]) hx hb dX4_align_23 hl (Nat.le_of_ble_eq_true rfl) rfl (fun ls hl => ?_)
      refine lv_iload hx hb dX4_align_25 (lv_at hl 0 rfl) ?_
      refine lv_iconst (v := -1) hx hb dX4_align_27 (by decide) ?_
      refine lv_icmp_eq (tgt := 38) hx hb dX4_align_28 (by decide) (fun c5 => ?_) (fun c5 => ?_)
      · have hf := g_ip c5 hf
        exact s_X4_align_J38 C hW hD0 ih hk44 p2 p3 X3 _ _ _ hP hS (lv_sub hl [1, 2, 3, 4] rfl) ha_l0 ha_l1 ha_l2 hf
      · have hf := g_in c5 hf
        refine lv_aload_n hx hb dX4_align_31 rfl (lv_at hl 1 rfl) ?_
        refine lv_iload hx hb dX4_align_32 (lv_at hl 0 rfl) ?_
        refine lv_aload_n hx hb dX4_align_34 rfl (lv_at hl 3 rfl) ?_
        obtain ⟨r6, X7, h8, hf⟩ := b2_in hf
        refine r_cVv (rest := []) C hP hS hl.1 (s_X4_addLetter hW hD0 ha_l0 ha_l2 h8) ix_X4_addLetter iv_X4_addLetter lk_X4_37 ⟨rfl, rfl, Nat.le_of_ble_eq_true rfl, Nat.le_of_ble_eq_true rfl⟩ ha_l0 (ct_40 _ _ _ _) rfl rfl rfl rfl (Nat.le_of_ble_eq_true rfl) ⟨Nat.zero_le _, Nat.zero_le _⟩ dX4_align_35 (fun H locs hP hS => ?_)
        exact s_X4_align_J38 C hW hD0 ih hk44 p2 p3 X7 _ _ _ hP hS (lv_sub hl [1, 2, 3, 4] rfl) ha_l0 ha_l1 ha_l2 hf

set_option maxRecDepth 100000 in
set_option maxHeartbeats 4000000 in
theorem w_X4_align {p : Program} {l : Launch} {e : Env} {s : State} {m : MethodId} {args : Array Value} {below : List Frame} {meth : Method} {c : Code} {D : va_G} {cA : Nat → ClassId} {ad : Nat → Nat → Nat} {NL : List (Nat × Nat)} {A : Nat → Prop} {rr : Int32} {XX : gM} {N : Nat} (C : gCx p c meth m s args cX4_align 5 none RX4 D cA ad NL A) (hW : gWf NL) (hD0 : gD (fun _ => True) ad NL) {p2 : Nat} (ha_l0 : (40, 0) ∈ NL) (ha_l1 : (29, 0) ∈ NL) (ha_l2 : (26, p2) ∈ NL) : ∀ (X : gM) (H : Heap) (locs : List Loc) (ls : Array Slot), gH D cA ad NL X H → va_S A s.heap H locs → lv_has ls 5 [(0, .ref (ad 40 0)), (1, .ref (ad 29 0)), (2, .ref (ad 26 p2))] → X4_align (gal NL) N p2 X = some (rr, XX) → W p l e rm_X4_align s m args below meth c H locs 0 0 (MQ below (gQ D cA ad NL none XX A) args s 0 0 A) (F0 m 0 ls []) := by
  have hx := C.1
  have hb := C.2.1
  intro X H locs ls hP hS hl hf
  rw [X4_align] at hf
  refine lv_aload_n hx hb dX4_align_0 rfl (lv_at hl 0 rfl) ?_
  refine r_get C hP ha_l0 (ct_40 _ _ _ _) fx_X4_18 (fg_40_2 _ _ _) dX4_align_1 ?_
  refine lv_iconst (v := 0) hx hb dX4_align_4 (by decide) ?_
  refine r_cSv (rest := []) C hP hS hl.1 (s_J7_fill_53178 hD0 (gs_40_2 hW ha_l0) (fun _ => ct_41 _ _ _ _) (by decide)) ix_J7_fill_53178 is_J7_fill_53178 ls_X4_22 ⟨rfl, rfl, Nat.le_of_ble_eq_true rfl, Nat.le_of_ble_eq_true rfl⟩ rfl rfl (Nat.le_of_ble_eq_true rfl) ⟨Nat.zero_le _, Nat.zero_le _⟩ dX4_align_5 (fun H locs hP hS => ?_)
  obtain ⟨X1, e2, hf⟩ := gl_in hf
  rw [← e2] at hP
  refine lv_iconst (v := 0) hx hb dX4_align_8 (by decide) ?_
  refine lv_istore_n (i := 3) (lv' := [(3, .int (0 : Int32)), (0, .ref (ad 40 0)), (1, .ref (ad 29 0)), (2, .ref (ad 26 p2))]) hx hb dX4_align_9 rfl hl (Nat.le_of_ble_eq_true rfl) rfl (fun ls hl => ?_)
  exact s_X4_align_L10 C hW hD0 (fun p2 Y H locs ls hP hS hl ha_l0 ha_l2 hf => s_X4_align_J44 C hW hD0 p2 Y _ _ _ hP hS hl ha_l0 ha_l2 hf) N p2 (0 : Int32) X1 _ _ _ hP hS (lv_sub hl [1, 2, 3, 0] rfl) ha_l0 ha_l1 ha_l2 hf

theorem s_X4_align {l : Launch} {D : va_G} {cA : Nat → ClassId} {ad : Nat → Nat → Nat} {NL : List (Nat × Nat)} {N : Nat} {p2 : Nat} {X : gM} {rr : Int32} {XX : gM} (hW : gWf NL) (hD0 : gD (fun _ => True) ad NL) (ha_l0 : (40, 0) ∈ NL) (ha_l1 : (29, 0) ∈ NL) (ha_l2 : (26, p2) ∈ NL) (hf : X4_align (gal NL) N p2 X = some (rr, XX)) : gC l yX4_align cX4_align 5 none rm_X4_align D cA ad NL [.ref (ad 40 0), .ref (ad 29 0), .ref (ad 26 p2)] X none XX :=
  g_ofW (by decide) hD0 (Nat.le_of_ble_eq_true rfl) rfl (fun p e s m below meth c ls C hP hS hl => w_X4_align C hW hD0 ha_l0 ha_l1 ha_l2 X _ _ ls hP hS hl hf)
