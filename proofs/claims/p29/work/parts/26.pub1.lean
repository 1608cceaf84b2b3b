def rm_X9_sheets : Room := { frames := 6, cells := 1, slots := 6, locals := 89 }
set_option maxRecDepth 100000 in
set_option maxHeartbeats 4000000 in
theorem w_X9_sheets {p : Program} {l : Launch} {e : Env} {s : State} {m : MethodId} {args : Array Value} {below : List Frame} {meth : Method} {c : Code} {D : va_G} {cA : Nat → ClassId} {ad : Nat → Nat → Nat} {NL : List (Nat × Nat)} {A : Nat → Prop} {rr : Int32} {XX : gM} {N : Nat} {kx : Nat} (CX : gCxX p c l meth m s args cX9_sheets 5 (some .int) RX9 D cA ad NL A) (hW : gWf NL) (hD0 : gD (fun _ => True) ad NL) {p1 : Int32} {p2 : Int32} (ha_l0 : (0, 0) ∈ NL) : ∀ (X : gM) (H : Heap) (locs : List Loc) (ls : Array Slot), gH D cA ad NL X H → va_S A s.heap H locs → lv_has ls 5 [(0, .ref (ad 0 0)), (1, .int p1), (2, .int p2)] → X9_sheets (gal NL) N p1 p2 X = some (kx, rr, XX) → W p l e rm_X9_sheets s m args below meth c H locs 0 0 (vx_MQ below (gQx D cA ad NL kx (some (.int rr)) XX A) (gXx D cA ad NL kx XX A) args s 1 6 A) (F0 m 0 ls []) := by
  have C := CX.1
  have hx := C.1
  have hb := C.2.1
  intro X H locs ls hP hS hl hf
  rw [X9_sheets] at hf
  refine lv_aload_n hx hb dX9_sheets_0 rfl (lv_at hl 0 rfl) ?_
  refine lv_iload_n hx hb dX9_sheets_1 rfl (lv_at hl 1 rfl) ?_
  obtain ⟨r1, X2, h3, hf⟩ := b2_in hf
  refine r_cVq (rest := []) C hP hS hl.1 (s_X9_quireOf hW hD0 ha_l0 h3) ix_X9_quireOf iv_X9_quireOf lk_X9_81 ⟨rfl, rfl, Nat.le_of_ble_eq_true rfl, Nat.le_of_ble_eq_true rfl⟩ ha_l0 (ct_0 _ _ _ _) rfl rfl rfl rfl (Nat.le_of_ble_eq_true rfl) ⟨Nat.zero_le _, Nat.zero_le _⟩ dX9_sheets_2 (fun H locs hP hS => ?_)
  refine r_astoren (i := 3) (lv' := [(3, va_rf (ro ad 12 r1)), (0, .ref (ad 0 0)), (1, .int p1), (2, .int p2)]) C dX9_sheets_5 rfl hl (Nat.le_of_ble_eq_true rfl) rfl (fun ls hl => ?_)
  refine r_aloadn C dX9_sheets_6 rfl (lv_at hl 0 rfl) ?_
  refine r_ifnonnull (tgt := 18) C dX9_sheets_7 (by decide) (fun c4 => ?_) (fun c4 => ?_)
  · have hf := g_ip c4 hf
    obtain ⟨rfl, rfl, rfl⟩ := g_s3 hf
    exact r_throw CX hP hS hl.1 th_X9_85_87 dX9_sheets_10 dX9_sheets_13 dX9_sheets_14 dX9_sheets_17 ⟨Nat.le_of_ble_eq_true rfl, Nat.le_of_ble_eq_true rfl, Nat.le_of_ble_eq_true rfl, Nat.le_of_ble_eq_true rfl⟩ 
  · have hf := g_in c4 hf
    refine lv_iload_n hx hb dX9_sheets_18 rfl (lv_at hl 3 rfl) ?_
    refine lv_iconst (v := 1) hx hb dX9_sheets_19 (by decide) ?_
    refine lv_iconst (v := 4) hx hb dX9_sheets_20 (by decide) ?_
    obtain ⟨r5, X6, h7, hf⟩ := b2_in hf
    refine r_cSi (rest := []) C hP hS hl.1 (s_X9_isWithin hW hD0  h7) ix_X9_isWithin is_X9_isWithin ls_X9_88 ⟨rfl, rfl, Nat.le_of_ble_eq_true rfl, Nat.le_of_ble_eq_true rfl⟩ rfl rfl (Nat.le_of_ble_eq_true rfl) ⟨Nat.zero_le _, Nat.zero_le _⟩ dX9_sheets_21 (fun H locs hP hS => ?_)
    refine lv_if_ne (tgt := 35) hx hb dX9_sheets_24 (by decide) (fun c8 => ?_) (fun c8 => ?_)
    · have hf := g_in c8 hf
      refine r_aloadn C dX9_sheets_35 rfl (lv_at hl 0 rfl) ?_
      obtain ⟨j9, h10, hf⟩ := dr_in hf
      rw [gref h10]
      refine r_get C hP h10.2.2 (ct_12 _ _ _ _) fx_X9_118 (fg_12_2 _ _ _) dX9_sheets_36 ?_
      refine lv_iconst (v := 2) hx hb dX9_sheets_39 (by decide) ?_
      refine lv_iload_n hx hb dX9_sheets_40 rfl (lv_at hl 3 rfl) ?_
      refine lv_imul hx hb dX9_sheets_41 ?_
      refine lv_icmp_le (tgt := 53) hx hb dX9_sheets_42 (by decide) (fun c11 => ?_) (fun c11 => ?_)
      · have hf := g_ip c11 hf
        refine r_aloadn C dX9_sheets_53 rfl (lv_at hl 0 rfl) ?_
        rw [gref h10]
        refine r_get C hP h10.2.2 (ct_12 _ _ _ _) fx_X9_121 (fg_12_0 _ _ _) dX9_sheets_54 ?_
        refine g_top hf (fun v12 e13 hf => ?_)
        refine lv_istore (i := 4) (lv' := [(4, .int v12), (3, va_rf (ro ad 12 r1)), (0, .ref (ad 0 0)), (1, .int p1), (2, .int p2)]) hx hb dX9_sheets_57 hl (Nat.le_of_ble_eq_true rfl) (by simp [g_cat, g_catr, g_cati]) (fun ls hl => ?_)
        refine r_aloadn C dX9_sheets_59 rfl (lv_at hl 1 rfl) ?_
        rw [gref h10]
        refine lv_iload_n hx hb dX9_sheets_60 rfl (lv_at hl 4 rfl) ?_
        refine r_put C hP hS p2 h10.2.2 (ct_12 _ _ _ _) px_X9_121 (fp_12_0 _ _ _ _ _) (Nat.le_of_ble_eq_true rfl) rfl rfl dX9_sheets_61 (fun H locs hP hS => ?_)
        obtain ⟨X14, e15, hf⟩ := gl_in hf
        rw [← e15] at hP
        refine r_aloadn C dX9_sheets_64 rfl (lv_at hl 1 rfl) ?_
        rw [gref h10]
        obtain ⟨r16, X17, h18, hf⟩ := b2_in hf
        refine r_cVv (rest := []) C hP hS hl.1 (s_X5_forget hW hD0 h10.2.2 h18) ix_X5_forget iv_X5_forget lk_X9_124 ⟨rfl, rfl, Nat.le_of_ble_eq_true rfl, Nat.le_of_ble_eq_true rfl⟩ h10.2.2 (ct_12 _ _ _ _) rfl rfl rfl rfl (Nat.le_of_ble_eq_true rfl) ⟨Nat.zero_le _, Nat.zero_le _⟩ dX9_sheets_65 (fun H locs hP hS => ?_)
        refine lv_iload hx hb dX9_sheets_68 (lv_at hl 0 rfl) ?_
        obtain ⟨rfl, rfl, rfl⟩ := g_s3 hf
        exact r_iretX CX hP hS dX9_sheets_70
      · have hf := g_in c11 hf
        obtain ⟨rfl, rfl, rfl⟩ := g_s3 hf
        exact r_throw CX hP hS hl.1 th_X9_99_101 dX9_sheets_45 dX9_sheets_48 dX9_sheets_49 dX9_sheets_52 ⟨Nat.le_of_ble_eq_true rfl, Nat.le_of_ble_eq_true rfl, Nat.le_of_ble_eq_true rfl, Nat.le_of_ble_eq_true rfl⟩ 
    · have hf := g_ip c8 hf
      obtain ⟨rfl, rfl, rfl⟩ := g_s3 hf
      exact r_throw CX hP hS hl.1 th_X9_92_94 dX9_sheets_27 dX9_sheets_30 dX9_sheets_31 dX9_sheets_34 ⟨Nat.le_of_ble_eq_true rfl, Nat.le_of_ble_eq_true rfl, Nat.le_of_ble_eq_true rfl, Nat.le_of_ble_eq_true rfl⟩ 

theorem s_X9_sheets {l : Launch} {D : va_G} {cA : Nat → ClassId} {ad : Nat → Nat → Nat} {NL : List (Nat × Nat)} {N : Nat} {p1 : Int32} {p2 : Int32} {X : gM} {kx : Nat} {rr : Int32} {XX : gM} (htr : l.stackTraces = false) (hW : gWf NL) (hD0 : gD (fun _ => True) ad NL) (ha_l0 : (0, 0) ∈ NL) (hf : X9_sheets (gal NL) N p1 p2 X = some (kx, rr, XX)) : gCX l yX9_sheets cX9_sheets 5 (some .int) rm_X9_sheets D cA ad NL [.ref (ad 0 0), .int p1, .int p2] X kx (some (.int rr)) XX :=
  g_ofX (by decide) htr hD0 (Nat.le_of_ble_eq_true rfl) rfl (fun p e s m below meth c ls CX hP hS hl => w_X9_sheets CX hW hD0 ha_l0 X _ _ ls hP hS hl hf)
def rm_X9_light : Room := { frames := 6, cells := 1, slots := 6, locals := 89 }
set_option maxRecDepth 100000 in
set_option maxHeartbeats 4000000 in
theorem s_X9_light_J113 {p : Program} {l : Launch} {e : Env} {s : State} {m : MethodId} {args : Array Value} {below : List Frame} {meth : Method} {c : Code} {D : va_G} {cA : Nat → ClassId} {ad : Nat → Nat → Nat} {NL : List (Nat × Nat)} {A : Nat → Prop} {rr : Int32} {XX : gM} {N : Nat} {kx : Nat} (CX : gCxX p c l meth m s args cX9_light 8 none RX9 D cA ad NL A) (hW : gWf NL) (hD0 : gD (fun _ => True) ad NL) : ∀ (X : gM) (H : Heap) (locs : List Loc) (ls : Array Slot), gH D cA ad NL X H → va_S A s.heap H locs → lv_has ls 8 [] → X9_light_J113 (gal NL) N X = some (kx, rr, XX) → W p l e rm_X9_light s m args below meth c H locs 0 0 (vx_MQ below (gQx D cA ad NL kx none XX A) (gXx D cA ad NL kx XX A) args s 1 6 A) (F0 m 113 ls []) := by
  have C := CX.1
  have hx := C.1
  have hb := C.2.1
  intro X H locs ls hP hS hl hf
  rw [X9_light_J113] at hf
  obtain ⟨rfl, rfl, rfl⟩ := g_s3 hf
  exact r_vretX CX hP hS dX9_light_113

set_option maxRecDepth 100000 in
set_option maxHeartbeats 4000000 in
theorem s_X9_light_J107 {p : Program} {l : Launch} {e : Env} {s : State} {m : MethodId} {args : Array Value} {below : List Frame} {meth : Method} {c : Code} {D : va_G} {cA : Nat → ClassId} {ad : Nat → Nat → Nat} {NL : List (Nat × Nat)} {A : Nat → Prop} {rr : Int32} {XX : gM} {N : Nat} {kx : Nat} {kk : Int32 → Int32 → gM → Option (Nat × Int32 × gM)} {k113 : gM → Option (Nat × Int32 × gM)} (CX : gCxX p c l meth m s args cX9_light 8 none RX9 D cA ad NL A) (hW : gWf NL) (hD0 : gD (fun _ => True) ad NL) (hkk : ∀ (p5 : Int32) (p6 : Int32) (Y : gM) (H : Heap) (locs : List Loc) (ls : Array Slot), gH D cA ad NL Y H → va_S A s.heap H locs → lv_has ls 8 [(0, .ref (ad 0 0)), (4, .ref (ad 4 0)), (5, .int p5), (6, .int p6)] → (0, 0) ∈ NL → (4, 0) ∈ NL → kk p5 p6 Y = some (kx, rr, XX) → W p l e rm_X9_light s m args below meth c H locs 0 0 (vx_MQ below (gQx D cA ad NL kx none XX A) (gXx D cA ad NL kx XX A) args s 1 6 A) (F0 m 79 ls [])) (hk113 : ∀ (Y : gM) (H : Heap) (locs : List Loc) (ls : Array Slot), gH D cA ad NL Y H → va_S A s.heap H locs → lv_has ls 8 [] → k113 Y = some (kx, rr, XX) → W p l e rm_X9_light s m args below meth c H locs 0 0 (vx_MQ below (gQx D cA ad NL kx none XX A) (gXx D cA ad NL kx XX A) args s 1 6 A) (F0 m 113 ls [])) : ∀ (p5 : Int32) (p6 : Int32) (X : gM) (H : Heap) (locs : List Loc) (ls : Array Slot), gH D cA ad NL X H → va_S A s.heap H locs → lv_has ls 8 [(0, .ref (ad 0 0)), (4, .ref (ad 4 0)), (5, .int p5), (6, .int p6)] → (0, 0) ∈ NL → (4, 0) ∈ NL → X9_light_J107 (gal NL) N kk k113 p5 p6 X = some (kx, rr, XX) → W p l e rm_X9_light s m args below meth c H locs 0 0 (vx_MQ below (gQx D cA ad NL kx none XX A) (gXx D cA ad NL kx XX A) args s 1 6 A) (F0 m 107 ls []) := by
  have C := CX.1
  have hx := C.1
  have hb := C.2.1
  intro p5 p6 X H locs ls hP hS hl ha_l0 ha_l4 hf
  rw [X9_light_J107] at hf
  obtain ⟨v1, e2, hf⟩ := gl_in hf
  refine lv_iinc (v := v1) (lv' := [(6, .int v1), (0, .ref (ad 0 0)), (4, .ref (ad 4 0)), (5, .int p5)]) hx hb dX9_light_107 hl (k := 3) rfl (by rw [e2]; rfl) (Nat.le_of_ble_eq_true rfl) rfl (fun ls hl => ?_)
  refine lv_goto (tgt := 79) hx hb dX9_light_110 (by decide) ?_
  exact hkk p5 v1 X _ _ _ hP hS (lv_sub hl [1, 2, 3, 0] rfl) ha_l0 ha_l4 hf

set_option maxRecDepth 100000 in
set_option maxHeartbeats 4000000 in
theorem s_X9_light_L79 {p : Program} {l : Launch} {e : Env} {s : State} {m : MethodId} {args : Array Value} {below : List Frame} {meth : Method} {c : Code} {D : va_G} {cA : Nat → ClassId} {ad : Nat → Nat → Nat} {NL : List (Nat × Nat)} {A : Nat → Prop} {rr : Int32} {XX : gM} {N : Nat} {kx : Nat} {k113 : gM → Option (Nat × Int32 × gM)} (CX : gCxX p c l meth m s args cX9_light 8 none RX9 D cA ad NL A) (hW : gWf NL) (hD0 : gD (fun _ => True) ad NL) (hk113 : ∀ (Y : gM) (H : Heap) (locs : List Loc) (ls : Array Slot), gH D cA ad NL Y H → va_S A s.heap H locs → lv_has ls 8 [] → k113 Y = some (kx, rr, XX) → W p l e rm_X9_light s m args below meth c H locs 0 0 (vx_MQ below (gQx D cA ad NL kx none XX A) (gXx D cA ad NL kx XX A) args s 1 6 A) (F0 m 113 ls [])) : ∀ (n : Nat) (p5 : Int32) (p6 : Int32) (X : gM) (H : Heap) (locs : List Loc) (ls : Array Slot), gH D cA ad NL X H → va_S A s.heap H locs → lv_has ls 8 [(0, .ref (ad 0 0)), (4, .ref (ad 4 0)), (5, .int p5), (6, .int p6)] → (0, 0) ∈ NL → (4, 0) ∈ NL → X9_light_L79 (gal NL) N k113 n p5 p6 X = some (kx, rr, XX) → W p l e rm_X9_light s m args below meth c H locs 0 0 (vx_MQ below (gQx D cA ad NL kx none XX A) (gXx D cA ad NL kx XX A) args s 1 6 A) (F0 m 79 ls []) := by
  have C := CX.1
  have hx := C.1
  have hb := C.2.1
  intro n
  induction n with
  | zero =>
    intro p5 p6 X H locs ls hP hS hl ha_l0 ha_l4 hf
    rw [X9_light_L79] at hf
    cases hf
  | succ n ih =>
    intro p5 p6 X H locs ls hP hS hl ha_l0 ha_l4 hf
    rw [X9_light_L79] at hf
    refine lv_iload hx hb dX9_light_79 (lv_at hl 3 rfl) ?_
    refine lv_iload hx hb dX9_light_81 (lv_at hl 2 rfl) ?_
    refine lv_icmp_ge (tgt := 113) hx hb dX9_light_83 (by decide) (fun c1 => ?_) (fun c1 => ?_)
    · have hf := g_ip c1 hf
      exact hk113 X _ _ _ hP hS (lv_sub hl [] rfl) hf
    · have hf := g_in c1 hf
      refine lv_aload hx hb dX9_light_86 (lv_at hl 1 rfl) ?_
      refine lv_iload hx hb dX9_light_88 (lv_at hl 3 rfl) ?_
      obtain ⟨j2, h3, hf⟩ := rd_in hf
      refine r_aldq C hP ha_l4 (ct_4 _ _ _ _) rfl h3 dX9_light_90 ?_
      refine r_astore (i := 7) (lv' := [(7, va_rf (ro ad 5 (X 4 0 j2))), (0, .ref (ad 0 0)), (4, .ref (ad 4 0)), (5, .int p5), (6, .int p6)]) C dX9_light_91 hl (Nat.le_of_ble_eq_true rfl) rfl (fun ls hl => ?_)
      refine r_aload C dX9_light_93 (lv_at hl 0 rfl) ?_
      refine r_ifnull (tgt := 107) C dX9_light_95 (by decide) (fun c4 => ?_) (fun c4 => ?_)
      · have hf := g_ip c4 hf
        exact s_X9_light_J107 CX hW hD0 ih hk113 p5 p6 X _ _ _ hP hS (lv_sub hl [1, 2, 3, 4] rfl) ha_l0 ha_l4 hf
      · have hf := g_in c4 hf
        refine r_aload C dX9_light_98 (lv_at hl 0 rfl) ?_
        refine lv_aload_n hx hb dX9_light_100 rfl (lv_at hl 1 rfl) ?_
        refine r_get C hP ha_l0 (ct_0 _ _ _ _) fx_X9_12 (fg_0_0 _ _ _) dX9_light_101 ?_
        obtain ⟨j5, h6, hf⟩ := dr_in hf
        rw [gref h6]
        obtain ⟨r7, X8, h9, hf⟩ := b2_in hf
        refine r_cVv (rest := []) C hP hS hl.1 (s_X2_measureAll hW hD0 h6.2.2 (gs_0_0 hW ha_l0) h9) ix_X2_measureAll iv_X2_measureAll lk_X9_133 ⟨rfl, rfl, Nat.le_of_ble_eq_true rfl, Nat.le_of_ble_eq_true rfl⟩ h6.2.2 (ct_5 _ _ _ _) rfl rfl rfl rfl (Nat.le_of_ble_eq_true rfl) ⟨Nat.zero_le _, Nat.zero_le _⟩ dX9_light_104 (fun H locs hP hS => ?_)
        exact s_X9_light_J107 CX hW hD0 ih hk113 p5 p6 X8 _ _ _ hP hS (lv_sub hl [1, 2, 3, 4] rfl) ha_l0 ha_l4 hf

set_option maxRecDepth 100000 in
set_option maxHeartbeats 4000000 in
theorem s_X9_light_J37 {p : Program} {l : Launch} {e : Env} {s : State} {m : MethodId} {args : Array Value} {below : List Frame} {meth : Method} {c : Code} {D : va_G} {cA : Nat → ClassId} {ad : Nat → Nat → Nat} {NL : List (Nat × Nat)} {A : Nat → Prop} {rr : Int32} {XX : gM} {N : Nat} {kx : Nat} (CX : gCxX p c l meth m s args cX9_light 8 none RX9 D cA ad NL A) (hW : gWf NL) (hD0 : gD (fun _ => True) ad NL) : ∀ (X : gM) (H : Heap) (locs : List Loc) (ls : Array Slot), gH D cA ad NL X H → va_S A s.heap H locs → lv_has ls 8 [] → X9_light_J37 (gal NL) N X = some (kx, rr, XX) → W p l e rm_X9_light s m args below meth c H locs 0 0 (vx_MQ below (gQx D cA ad NL kx none XX A) (gXx D cA ad NL kx XX A) args s 1 6 A) (F0 m 37 ls []) := by
  have C := CX.1
  have hx := C.1
  have hb := C.2.1
  intro X H locs ls hP hS hl hf
  rw [X9_light_J37] at hf
  obtain ⟨rfl, rfl, rfl⟩ := g_s3 hf
  exact r_throw CX hP hS hl.1 th_X9_92_94 dX9_light_37 dX9_light_40 dX9_light_41 dX9_light_44 ⟨Nat.le_of_ble_eq_true rfl, Nat.le_of_ble_eq_true rfl, Nat.le_of_ble_eq_true rfl, Nat.le_of_ble_eq_true rfl⟩ 

set_option maxRecDepth 100000 in
set_option maxHeartbeats 4000000 in
theorem w_X9_light {p : Program} {l : Launch} {e : Env} {s : State} {m : MethodId} {args : Array Value} {below : List Frame} {meth : Method} {c : Code} {D : va_G} {cA : Nat → ClassId} {ad : Nat → Nat → Nat} {NL : List (Nat × Nat)} {A : Nat → Prop} {rr : Int32} {XX : gM} {N : Nat} {kx : Nat} (CX : gCxX p c l meth m s args cX9_light 8 none RX9 D cA ad NL A) (hW : gWf NL) (hD0 : gD (fun _ => True) ad NL) {p1 : Int32} {p2 : Int32} {p3 : Int32} (ha_l0 : (0, 0) ∈ NL) : ∀ (X : gM) (H : Heap) (locs : List Loc) (ls : Array Slot), gH D cA ad NL X H → va_S A s.heap H locs → lv_has ls 8 [(0, .ref (ad 0 0)), (1, .int p1), (2, .int p2), (3, .int p3)] → X9_light (gal NL) N p1 p2 p3 X = some (kx, rr, XX) → W p l e rm_X9_light s m args below meth c H locs 0 0 (vx_MQ below (gQx D cA ad NL kx none XX A) (gXx D cA ad NL kx XX A) args s 1 6 A) (F0 m 0 ls []) := by
  have C := CX.1
  have hx := C.1
  have hb := C.2.1
  intro X H locs ls hP hS hl hf
  rw [X9_light] at hf
  refine lv_iload_n hx hb dX9_light_0 rfl (lv_at hl 1 rfl) ?_
  refine lv_iconst (v := 0) hx hb dX9_light_1 (by decide) ?_
  refine lv_iconst (v := 2) hx hb dX9_light_2 (by decide) ?_
  obtain ⟨r1, X2, h3, hf⟩ := b2_in hf
  refine r_cSi (rest := []) C hP hS hl.1 (s_X9_isWithin hW hD0  h3) ix_X9_isWithin is_X9_isWithin ls_X9_88 ⟨rfl, rfl, Nat.le_of_ble_eq_true rfl, Nat.le_of_ble_eq_true rfl⟩ rfl rfl (Nat.le_of_ble_eq_true rfl) ⟨Nat.zero_le _, Nat.zero_le _⟩ dX9_light_3 (fun H locs hP hS => ?_)
  refine lv_if_ne (tgt := 17) hx hb dX9_light_6 (by decide) (fun c4 => ?_) (fun c4 => ?_)
  · have hf := g_in c4 hf
    refine lv_iload_n hx hb dX9_light_17 rfl (lv_at hl 2 rfl) ?_
    refine lv_iconst (v := 0) hx hb dX9_light_18 (by decide) ?_
    refine lv_bipush (v := 9) hx hb dX9_light_19 (by decide) ?_
    obtain ⟨r5, X6, h7, hf⟩ := b2_in hf
    refine r_cSi (rest := []) C hP hS hl.1 (s_X9_isWithin hW hD0  h7) ix_X9_isWithin is_X9_isWithin ls_X9_88 ⟨rfl, rfl, Nat.le_of_ble_eq_true rfl, Nat.le_of_ble_eq_true rfl⟩ rfl rfl (Nat.le_of_ble_eq_true rfl) ⟨Nat.zero_le _, Nat.zero_le _⟩ dX9_light_21 (fun H locs hP hS => ?_)
    refine lv_if_eq (tgt := 37) hx hb dX9_light_24 (by decide) (fun c8 => ?_) (fun c8 => ?_)
    · have hf := g_ip c8 hf
      exact s_X9_light_J37 CX hW hD0 X6 _ _ _ hP hS (lv_sub hl [] rfl) hf
    · have hf := g_in c8 hf
      refine lv_iload_n hx hb dX9_light_27 rfl (lv_at hl 3 rfl) ?_
      refine lv_iconst (v := 0) hx hb dX9_light_28 (by decide) ?_
      refine lv_bipush (v := 9) hx hb dX9_light_29 (by decide) ?_
      obtain ⟨r9, X10, h11, hf⟩ := b2_in hf
      refine r_cSi (rest := []) C hP hS hl.1 (s_X9_isWithin hW hD0  h11) ix_X9_isWithin is_X9_isWithin ls_X9_88 ⟨rfl, rfl, Nat.le_of_ble_eq_true rfl, Nat.le_of_ble_eq_true rfl⟩ rfl rfl (Nat.le_of_ble_eq_true rfl) ⟨Nat.zero_le _, Nat.zero_le _⟩ dX9_light_31 (fun H locs hP hS => ?_)
      refine lv_if_ne (tgt := 45) hx hb dX9_light_34 (by decide) (fun c12 => ?_) (fun c12 => ?_)
      · have hf := g_in c12 hf
        refine lv_aload_n hx hb dX9_light_45 rfl (lv_at hl 0 rfl) ?_
        refine r_get C hP ha_l0 (ct_0 _ _ _ _) fx_X9_12 (fg_0_0 _ _ _) dX9_light_46 ?_
        refine r_get C hP (gs_0_0 hW ha_l0) (ct_1 _ _ _ _) fx_X9_127 (fg_1_0 _ _ _) dX9_light_49 ?_
        refine lv_iload_n hx hb dX9_light_52 rfl (lv_at hl 1 rfl) ?_
        refine lv_iload_n hx hb dX9_light_53 rfl (lv_at hl 2 rfl) ?_
        obtain ⟨j13, h14, hf⟩ := rd_in hf
        refine r_iast C hP hS (gs_1_0 hW (gs_0_0 hW ha_l0)) (fun _ => ct_2 _ _ _ _) h14 dX9_light_54 (fun H locs hP hS => ?_)
        obtain ⟨X15, e16, hf⟩ := gl_in hf
        rw [← e16] at hP
        refine lv_aload_n hx hb dX9_light_55 rfl (lv_at hl 0 rfl) ?_
        refine r_get C hP ha_l0 (ct_0 _ _ _ _) fx_X9_12 (fg_0_0 _ _ _) dX9_light_56 ?_
        refine r_get C hP (gs_0_0 hW ha_l0) (ct_1 _ _ _ _) fx_X9_130 (fg_1_1 _ _ _) dX9_light_59 ?_
        refine lv_iload_n hx hb dX9_light_62 rfl (lv_at hl 1 rfl) ?_
        refine lv_iload_n hx hb dX9_light_63 rfl (lv_at hl 3 rfl) ?_
        obtain ⟨j17, h18, hf⟩ := rd_in hf
        refine r_iast C hP hS (gs_1_1 hW (gs_0_0 hW ha_l0)) (fun _ => ct_3 _ _ _ _) h18 dX9_light_64 (fun H locs hP hS => ?_)
        obtain ⟨X19, e20, hf⟩ := gl_in hf
        rw [← e20] at hP
        refine lv_aload_n hx hb dX9_light_65 rfl (lv_at hl 0 rfl) ?_
        refine r_get C hP ha_l0 (ct_0 _ _ _ _) fx_X9_18 (fg_0_1 _ _ _) dX9_light_66 ?_
        refine lv_astore (i := 4) (lv' := [(4, .ref (ad 4 0)), (0, .ref (ad 0 0)), (1, .int p1), (2, .int p2), (3, .int p3)]) hx hb dX9_light_69 hl (Nat.le_of_ble_eq_true rfl) rfl (fun ls hl => ?_)
        refine lv_aload hx hb dX9_light_71 (lv_at hl 0 rfl) ?_
        refine r_alen C hP 10 (gs_0_1 hW ha_l0) (ct_4 _ _ _ _) rfl rfl dX9_light_73 ?_
        refine lv_istore (i := 5) (lv' := [(5, .int (10 : Int32)), (4, .ref (ad 4 0)), (0, .ref (ad 0 0)), (1, .int p1), (2, .int p2), (3, .int p3)]) hx hb dX9_light_74 hl (Nat.le_of_ble_eq_true rfl) rfl (fun ls hl => ?_)
        refine lv_iconst (v := 0) hx hb dX9_light_76 (by decide) ?_
        refine lv_istore (i := 6) (lv' := [(6, .int (0 : Int32)), (5, .int (10 : Int32)), (4, .ref (ad 4 0)), (0, .ref (ad 0 0)), (1, .int p1), (2, .int p2), (3, .int p3)]) hx hb dX9_light_77 hl (Nat.le_of_ble_eq_true rfl) rfl (fun ls hl => ?_)
        exact s_X9_light_L79 CX hW hD0 (fun Y H locs ls hP hS hl hf => s_X9_light_J113 CX hW hD0 Y _ _ _ hP hS hl hf) N (10 : Int32) (0 : Int32) X19 _ _ _ hP hS (lv_sub hl [3, 2, 1, 0] rfl) ha_l0 (gs_0_1 hW ha_l0) hf
      · have hf := g_ip c12 hf
        exact s_X9_light_J37 CX hW hD0 X10 _ _ _ hP hS (lv_sub hl [] rfl) hf
  · have hf := g_ip c4 hf
    obtain ⟨rfl, rfl, rfl⟩ := g_s3 hf
    exact r_throw CX hP hS hl.1 th_X9_85_87 dX9_light_9 dX9_light_12 dX9_light_13 dX9_light_16 ⟨Nat.le_of_ble_eq_true rfl, Nat.le_of_ble_eq_true rfl, Nat.le_of_ble_eq_true rfl, Nat.le_of_ble_eq_true rfl⟩ 

theorem s_X9_light {l : Launch} {D : va_G} {cA : Nat → ClassId} {ad : Nat → Nat → Nat} {NL : List (Nat × Nat)} {N : Nat} {p1 : Int32} {p2 : Int32} {p3 : Int32} {X : gM} {kx : Nat} {rr : Int32} {XX : gM} (htr : l.stackTraces = false) (hW : gWf NL) (hD0 : gD (fun _ => True) ad NL) (ha_l0 : (0, 0) ∈ NL) (hf : X9_light (gal NL) N p1 p2 p3 X = some (kx, rr, XX)) : gCX l yX9_light cX9_light 8 none rm_X9_light D cA ad NL [.ref (ad 0 0), .int p1, .int p2, .int p3] X kx none XX :=
  g_ofX (by decide) htr hD0 (Nat.le_of_ble_eq_true rfl) rfl (fun p e s m below meth c ls CX hP hS hl => w_X9_light CX hW hD0 ha_l0 X _ _ ls hP hS hl hf)
def rm_X9_image : Room := { frames := 6, cells := 1, slots := 6, locals := 89 }
set_option maxRecDepth 100000 in
set_option maxHeartbeats 4000000 in
theorem s_X9_image_J58 {p : Program} {l : Launch} {e : Env} {s : State} {m : MethodId} {args : Array Value} {below : List Frame} {meth : Method} {c : Code} {D : va_G} {cA : Nat → ClassId} {ad : Nat → Nat → Nat} {NL : List (Nat × Nat)} {A : Nat → Prop} {rr : Int32} {XX : gM} {N : Nat} {kx : Nat} (CX : gCxX p c l meth m s args cX9_image 7 (some .int) RX9 D cA ad NL A) (hW : gWf NL) (hD0 : gD (fun _ => True) ad NL) : ∀ (p4 : Int32) (p5 : Int32) (p6 : Int32) (X : gM) (H : Heap) (locs : List Loc) (ls : Array Slot), gH D cA ad NL X H → va_S A s.heap H locs → lv_has ls 7 [(0, .ref (ad 0 0)), (4, .int p4), (5, .int p5), (6, va_rf (ro ad 7 p6))] → (0, 0) ∈ NL → X9_image_J58 (gal NL) N p4 p5 p6 X = some (kx, rr, XX) → W p l e rm_X9_image s m args below meth c H locs 0 0 (vx_MQ below (gQx D cA ad NL kx (some (.int rr)) XX A) (gXx D cA ad NL kx XX A) args s 1 6 A) (F0 m 58 ls []) := by
  have C := CX.1
  have hx := C.1
  have hb := C.2.1
  intro p4 p5 p6 X H locs ls hP hS hl ha_l0 hf
  rw [X9_image_J58] at hf
  refine r_aload C dX9_image_58 (lv_at hl 3 rfl) ?_
  obtain ⟨j1, h2, hf⟩ := dr_in hf
  rw [gref h2]
  refine r_get C hP h2.2.2 (ct_7 _ _ _ _) fx_X9_141 (fg_7_0 _ _ _) dX9_image_60 ?_
  refine lv_iload hx hb dX9_image_63 (lv_at hl 1 rfl) ?_
  refine lv_iload hx hb dX9_image_65 (lv_at hl 2 rfl) ?_
  obtain ⟨j3, h4, hf⟩ := rd_in hf
  refine r_iast C hP hS (gs_7_0 hW h2.2.2) (fun _ => ct_8 _ _ _ _) h4 dX9_image_67 (fun H locs hP hS => ?_)
  obtain ⟨X5, e6, hf⟩ := gl_in hf
  rw [← e6] at hP
  refine r_aload C dX9_image_68 (lv_at hl 3 rfl) ?_
  rw [gref h2]
  refine lv_aload_n hx hb dX9_image_70 rfl (lv_at hl 0 rfl) ?_
  refine r_get C hP ha_l0 (ct_0 _ _ _ _) fx_X9_12 (fg_0_0 _ _ _) dX9_image_71 ?_
  obtain ⟨r7, X8, h9, hf⟩ := b2_in hf
  refine r_cVv (rest := []) C hP hS hl.1 (s_X0_measure hW hD0 h2.2.2 (gs_0_0 hW ha_l0) h9) ix_X0_measure iv_X0_measure lk_X9_146 ⟨rfl, rfl, Nat.le_of_ble_eq_true rfl, Nat.le_of_ble_eq_true rfl⟩ h2.2.2 (ct_7 _ _ _ _) rfl rfl rfl rfl (Nat.le_of_ble_eq_true rfl) ⟨Nat.zero_le _, Nat.zero_le _⟩ dX9_image_74 (fun H locs hP hS => ?_)
  refine r_aload C dX9_image_77 (lv_at hl 3 rfl) ?_
  rw [gref h2]
  refine r_get C hP h2.2.2 (ct_7 _ _ _ _) fx_X9_149 (fg_7_4 _ _ _) dX9_image_79 ?_
  obtain ⟨rfl, rfl, rfl⟩ := g_s3 hf
  exact r_iretX CX hP hS dX9_image_82

set_option maxRecDepth 100000 in
set_option maxHeartbeats 4000000 in
theorem s_X9_image_J24 {p : Program} {l : Launch} {e : Env} {s : State} {m : MethodId} {args : Array Value} {below : List Frame} {meth : Method} {c : Code} {D : va_G} {cA : Nat → ClassId} {ad : Nat → Nat → Nat} {NL : List (Nat × Nat)} {A : Nat → Prop} {rr : Int32} {XX : gM} {N : Nat} {kx : Nat} (CX : gCxX p c l meth m s args cX9_image 7 (some .int) RX9 D cA ad NL A) (hW : gWf NL) (hD0 : gD (fun _ => True) ad NL) : ∀ (X : gM) (H : Heap) (locs : List Loc) (ls : Array Slot), gH D cA ad NL X H → va_S A s.heap H locs → lv_has ls 7 [] → X9_image_J24 (gal NL) N X = some (kx, rr, XX) → W p l e rm_X9_image s m args below meth c H locs 0 0 (vx_MQ below (gQx D cA ad NL kx (some (.int rr)) XX A) (gXx D cA ad NL kx XX A) args s 1 6 A) (F0 m 24 ls []) := by
  have C := CX.1
  have hx := C.1
  have hb := C.2.1
  intro X H locs ls hP hS hl hf
  rw [X9_image_J24] at hf
  obtain ⟨rfl, rfl, rfl⟩ := g_s3 hf
  exact r_throw CX hP hS hl.1 th_X9_85_87 dX9_image_24 dX9_image_27 dX9_image_28 dX9_image_31 ⟨Nat.le_of_ble_eq_true rfl, Nat.le_of_ble_eq_true rfl, Nat.le_of_ble_eq_true rfl, Nat.le_of_ble_eq_true rfl⟩ 

set_option maxRecDepth 100000 in
set_option maxHeartbeats 4000000 in
theorem w_X9_image {p : Program} {l : Launch} {e : Env} {s : State} {m : MethodId} {args : Array Value} {below : List Frame} {meth : Method} {c : Code} {D : va_G} {cA : Nat → ClassId} {ad : Nat → Nat → Nat} {NL : List (Nat × Nat)} {A : Nat → Prop} {rr : Int32} {XX : gM} {N : Nat} {kx : Nat} (CX : gCxX p c l meth m s args cX9_image 7 (some .int) RX9 D cA ad NL A) (hW : gWf NL) (hD0 : gD (fun _ => True) ad NL) {p1 : Int32} {p2 : Int32} {p3 : Int32} {p4 : Int32} {p5 : Int32} (ha_l0 : (0, 0) ∈ NL) : ∀ (X : gM) (H : Heap) (locs : List Loc) (ls : Array Slot), gH D cA ad NL X H → va_S A s.heap H locs → lv_has ls 7 [(0, .ref (ad 0 0)), (1, .int p1), (2, .int p2), (3, .int p3), (4, .int p4), (5, .int p5)] → X9_image (gal NL) N p1 p2 p3 p4 p5 X = some (kx, rr, XX) → W p l e rm_X9_image s m args below meth c H locs 0 0 (vx_MQ below (gQx D cA ad NL kx (some (.int rr)) XX A) (gXx D cA ad NL kx XX A) args s 1 6 A) (F0 m 0 ls []) := by
  have C := CX.1
  have hx := C.1
  have hb := C.2.1
  intro X H locs ls hP hS hl hf
  rw [X9_image] at hf
  refine lv_aload_n hx hb dX9_image_0 rfl (lv_at hl 0 rfl) ?_
  refine lv_iload_n hx hb dX9_image_1 rfl (lv_at hl 1 rfl) ?_
  refine lv_iload_n hx hb dX9_image_2 rfl (lv_at hl 2 rfl) ?_
  refine lv_iload_n hx hb dX9_image_3 rfl (lv_at hl 3 rfl) ?_
  obtain ⟨r1, X2, h3, hf⟩ := b2_in hf
  refine r_cVq (rest := []) C hP hS hl.1 (s_X9_cellOf hW hD0 ha_l0 h3) ix_X9_cellOf iv_X9_cellOf lk_X9_137 ⟨rfl, rfl, Nat.le_of_ble_eq_true rfl, Nat.le_of_ble_eq_true rfl⟩ ha_l0 (ct_0 _ _ _ _) rfl rfl rfl rfl (Nat.le_of_ble_eq_true rfl) ⟨Nat.zero_le _, Nat.zero_le _⟩ dX9_image_4 (fun H locs hP hS => ?_)
  refine r_astore (i := 6) (lv' := [(6, va_rf (ro ad 7 r1)), (0, .ref (ad 0 0)), (1, .int p1), (2, .int p2), (3, .int p3), (4, .int p4), (5, .int p5)]) C dX9_image_7 hl (Nat.le_of_ble_eq_true rfl) rfl (fun ls hl => ?_)
  refine r_aload C dX9_image_9 (lv_at hl 0 rfl) ?_
  refine r_ifnull (tgt := 24) C dX9_image_11 (by decide) (fun c4 => ?_) (fun c4 => ?_)
  · have hf := g_ip c4 hf
    exact s_X9_image_J24 CX hW hD0 X2 _ _ _ hP hS (lv_sub hl [] rfl) hf
  · have hf := g_in c4 hf
    refine lv_iload hx hb dX9_image_14 (lv_at hl 5 rfl) ?_
    refine lv_iconst (v := 0) hx hb dX9_image_16 (by decide) ?_
    refine lv_iconst (v := 2) hx hb dX9_image_17 (by decide) ?_
    obtain ⟨r5, X6, h7, hf⟩ := b2_in hf
    refine r_cSi (rest := []) C hP hS hl.1 (s_X9_isWithin hW hD0  h7) ix_X9_isWithin is_X9_isWithin ls_X9_88 ⟨rfl, rfl, Nat.le_of_ble_eq_true rfl, Nat.le_of_ble_eq_true rfl⟩ rfl rfl (Nat.le_of_ble_eq_true rfl) ⟨Nat.zero_le _, Nat.zero_le _⟩ dX9_image_18 (fun H locs hP hS => ?_)
    refine lv_if_ne (tgt := 32) hx hb dX9_image_21 (by decide) (fun c8 => ?_) (fun c8 => ?_)
    · have hf := g_in c8 hf
      refine lv_iload hx hb dX9_image_32 (lv_at hl 6 rfl) ?_
      refine lv_iconst (v := -1) hx hb dX9_image_34 (by decide) ?_
      refine lv_icmp_eq (tgt := 58) hx hb dX9_image_35 (by decide) (fun c9 => ?_) (fun c9 => ?_)
      · have hf := g_ip c9 hf
        exact s_X9_image_J58 CX hW hD0 p4 p5 r1 X6 _ _ _ hP hS (lv_sub hl [1, 5, 6, 0] rfl) ha_l0 hf
      · have hf := g_in c9 hf
        refine lv_iload hx hb dX9_image_38 (lv_at hl 6 rfl) ?_
        refine lv_iconst (v := 0) hx hb dX9_image_40 (by decide) ?_
        refine lv_sipush (v := 162) hx hb dX9_image_41 (by decide) ?_
        obtain ⟨r10, X11, h12, hf⟩ := b2_in hf
        refine r_cSi (rest := []) C hP hS hl.1 (s_X9_isWithin hW hD0  h12) ix_X9_isWithin is_X9_isWithin ls_X9_88 ⟨rfl, rfl, Nat.le_of_ble_eq_true rfl, Nat.le_of_ble_eq_true rfl⟩ rfl rfl (Nat.le_of_ble_eq_true rfl) ⟨Nat.zero_le _, Nat.zero_le _⟩ dX9_image_44 (fun H locs hP hS => ?_)
        refine lv_if_ne (tgt := 58) hx hb dX9_image_47 (by decide) (fun c13 => ?_) (fun c13 => ?_)
        · have hf := g_in c13 hf
          exact s_X9_image_J58 CX hW hD0 p4 p5 r1 X11 _ _ _ hP hS (lv_sub hl [1, 5, 6, 0] rfl) ha_l0 hf
        · have hf := g_ip c13 hf
          obtain ⟨rfl, rfl, rfl⟩ := g_s3 hf
          exact r_throw CX hP hS hl.1 th_X9_92_94 dX9_image_50 dX9_image_53 dX9_image_54 dX9_image_57 ⟨Nat.le_of_ble_eq_true rfl, Nat.le_of_ble_eq_true rfl, Nat.le_of_ble_eq_true rfl, Nat.le_of_ble_eq_true rfl⟩ 
    · have hf := g_ip c8 hf
      exact s_X9_image_J24 CX hW hD0 X6 _ _ _ hP hS (lv_sub hl [] rfl) hf

theorem s_X9_image {l : Launch} {D : va_G} {cA : Nat → ClassId} {ad : Nat → Nat → Nat} {NL : List (Nat × Nat)} {N : Nat} {p1 : Int32} {p2 : Int32} {p3 : Int32} {p4 : Int32} {p5 : Int32} {X : gM} {kx : Nat} {rr : Int32} {XX : gM} (htr : l.stackTraces = false) (hW : gWf NL) (hD0 : gD (fun _ => True) ad NL) (ha_l0 : (0, 0) ∈ NL) (hf : X9_image (gal NL) N p1 p2 p3 p4 p5 X = some (kx, rr, XX)) : gCX l yX9_image cX9_image 7 (some .int) rm_X9_image D cA ad NL [.ref (ad 0 0), .int p1, .int p2, .int p3, .int p4, .int p5] X kx (some (.int rr)) XX :=
  g_ofX (by decide) htr hD0 (Nat.le_of_ble_eq_true rfl) rfl (fun p e s m below meth c ls CX hP hS hl => w_X9_image CX hW hD0 ha_l0 X _ _ ls hP hS hl hf)
def rm_X9_unmix : Room := { frames := 6, cells := 1, slots := 6, locals := 89 }
set_option maxRecDepth 100000 in
set_option maxHeartbeats 4000000 in
theorem s_X9_unmix_J40 {p : Program} {l : Launch} {e : Env} {s : State} {m : MethodId} {args : Array Value} {below : List Frame} {meth : Method} {c : Code} {D : va_G} {cA : Nat → ClassId} {ad : Nat → Nat → Nat} {NL : List (Nat × Nat)} {A : Nat → Prop} {rr : Int32} {XX : gM} {N : Nat} {kx : Nat} (CX : gCxX p c l meth m s args cX9_unmix 6 (some .int) RX9 D cA ad NL A) (hW : gWf NL) (hD0 : gD (fun _ => True) ad NL) : ∀ (s0 : Int32) (X : gM) (H : Heap) (locs : List Loc) (ls : Array Slot), gH D cA ad NL X H → va_S A s.heap H locs → lv_has ls 6 [] → X9_unmix_J40 (gal NL) N s0 X = some (kx, rr, XX) → W p l e rm_X9_unmix s m args below meth c H locs 0 0 (vx_MQ below (gQx D cA ad NL kx (some (.int rr)) XX A) (gXx D cA ad NL kx XX A) args s 1 6 A) (F0 m 40 ls [.int s0]) := by
  have C := CX.1
  have hx := C.1
  have hb := C.2.1
  intro s0 X H locs ls hP hS hl hf
  rw [X9_unmix_J40] at hf
  obtain ⟨rfl, rfl, rfl⟩ := g_s3 hf
  exact r_iretX CX hP hS dX9_unmix_40

set_option maxRecDepth 100000 in
set_option maxHeartbeats 4000000 in
theorem w_X9_unmix {p : Program} {l : Launch} {e : Env} {s : State} {m : MethodId} {args : Array Value} {below : List Frame} {meth : Method} {c : Code} {D : va_G} {cA : Nat → ClassId} {ad : Nat → Nat → Nat} {NL : List (Nat × Nat)} {A : Nat → Prop} {rr : Int32} {XX : gM} {N : Nat} {kx : Nat} (CX : gCxX p c l meth m s args cX9_unmix 6 (some .int) RX9 D cA ad NL A) (hW : gWf NL) (hD0 : gD (fun _ => True) ad NL) {p1 : Int32} {p2 : Int32} {p3 : Int32} {p4 : Int32} (ha_l0 : (0, 0) ∈ NL) : ∀ (X : gM) (H : Heap) (locs : List Loc) (ls : Array Slot), gH D cA ad NL X H → va_S A s.heap H locs → lv_has ls 6 [(0, .ref (ad 0 0)), (1, .int p1), (2, .int p2), (3, .int p3), (4, .int p4)] → X9_unmix (gal NL) N p1 p2 p3 p4 X = some (kx, rr, XX) → W p l e rm_X9_unmix s m args below meth c H locs 0 0 (vx_MQ below (gQx D cA ad NL kx (some (.int rr)) XX A) (gXx D cA ad NL kx XX A) args s 1 6 A) (F0 m 0 ls []) := by
  have C := CX.1
  have hx := C.1
  have hb := C.2.1
  intro X H locs ls hP hS hl hf
  rw [X9_unmix] at hf
  refine lv_aload_n hx hb dX9_unmix_0 rfl (lv_at hl 0 rfl) ?_
  refine lv_iload_n hx hb dX9_unmix_1 rfl (lv_at hl 1 rfl) ?_
  refine lv_iload_n hx hb dX9_unmix_2 rfl (lv_at hl 2 rfl) ?_
  refine lv_iload_n hx hb dX9_unmix_3 rfl (lv_at hl 3 rfl) ?_
  obtain ⟨r1, X2, h3, hf⟩ := b2_in hf
  refine r_cVq (rest := []) C hP hS hl.1 (s_X9_cellOf hW hD0 ha_l0 h3) ix_X9_cellOf iv_X9_cellOf lk_X9_137 ⟨rfl, rfl, Nat.le_of_ble_eq_true rfl, Nat.le_of_ble_eq_true rfl⟩ ha_l0 (ct_0 _ _ _ _) rfl rfl rfl rfl (Nat.le_of_ble_eq_true rfl) ⟨Nat.zero_le _, Nat.zero_le _⟩ dX9_unmix_4 (fun H locs hP hS => ?_)
  refine r_astore (i := 5) (lv' := [(5, va_rf (ro ad 7 r1)), (0, .ref (ad 0 0)), (1, .int p1), (2, .int p2), (3, .int p3), (4, .int p4)]) C dX9_unmix_7 hl (Nat.le_of_ble_eq_true rfl) rfl (fun ls hl => ?_)
  refine r_aload C dX9_unmix_9 (lv_at hl 0 rfl) ?_
  refine r_ifnonnull (tgt := 22) C dX9_unmix_11 (by decide) (fun c4 => ?_) (fun c4 => ?_)
  · have hf := g_ip c4 hf
    obtain ⟨rfl, rfl, rfl⟩ := g_s3 hf
    exact r_throw CX hP hS hl.1 th_X9_85_87 dX9_unmix_14 dX9_unmix_17 dX9_unmix_18 dX9_unmix_21 ⟨Nat.le_of_ble_eq_true rfl, Nat.le_of_ble_eq_true rfl, Nat.le_of_ble_eq_true rfl, Nat.le_of_ble_eq_true rfl⟩ 
  · have hf := g_in c4 hf
    refine lv_iload hx hb dX9_unmix_22 (lv_at hl 5 rfl) ?_
    refine lv_if_eq (tgt := 35) hx hb dX9_unmix_24 (by decide) (fun c5 => ?_) (fun c5 => ?_)
    · have hf := g_ip c5 hf
      refine r_aload C dX9_unmix_35 (lv_at hl 0 rfl) ?_
      obtain ⟨j6, h7, hf⟩ := dr_in hf
      rw [gref h7]
      refine r_get C hP h7.2.2 (ct_7 _ _ _ _) fx_X9_151 (fg_7_3 _ _ _) dX9_unmix_37 ?_
      exact s_X9_unmix_J40 CX hW hD0 ((X2 7 j6 3)) X2 _ _ _ hP hS (lv_sub hl [] rfl) hf
    · have hf := g_in c5 hf
      refine r_aload C dX9_unmix_27 (lv_at hl 0 rfl) ?_
      obtain ⟨j8, h9, hf⟩ := dr_in hf
      rw [gref h9]
      refine r_get C hP h9.2.2 (ct_7 _ _ _ _) fx_X9_149 (fg_7_4 _ _ _) dX9_unmix_29 ?_
      refine lv_goto (tgt := 40) hx hb dX9_unmix_32 (by decide) ?_
      exact s_X9_unmix_J40 CX hW hD0 ((X2 7 j8 4)) X2 _ _ _ hP hS (lv_sub hl [] rfl) hf

theorem s_X9_unmix {l : Launch} {D : va_G} {cA : Nat → ClassId} {ad : Nat → Nat → Nat} {NL : List (Nat × Nat)} {N : Nat} {p1 : Int32} {p2 : Int32} {p3 : Int32} {p4 : Int32} {X : gM} {kx : Nat} {rr : Int32} {XX : gM} (htr : l.stackTraces = false) (hW : gWf NL) (hD0 : gD (fun _ => True) ad NL) (ha_l0 : (0, 0) ∈ NL) (hf : X9_unmix (gal NL) N p1 p2 p3 p4 X = some (kx, rr, XX)) : gCX l yX9_unmix cX9_unmix 6 (some .int) rm_X9_unmix D cA ad NL [.ref (ad 0 0), .int p1, .int p2, .int p3, .int p4] X kx (some (.int rr)) XX :=
  g_ofX (by decide) htr hD0 (Nat.le_of_ble_eq_true rfl) rfl (fun p e s m below meth c ls CX hP hS hl => w_X9_unmix CX hW hD0 ha_l0 X _ _ ls hP hS hl hf)
def rm_X9_give : Room := { frames := 6, cells := 1, slots := 6, locals := 89 }
set_option maxRecDepth 100000 in
set_option maxHeartbeats 4000000 in
theorem s_X9_give_J83 {p : Program} {l : Launch} {e : Env} {s : State} {m : MethodId} {args : Array Value} {below : List Frame} {meth : Method} {c : Code} {D : va_G} {cA : Nat → ClassId} {ad : Nat → Nat → Nat} {NL : List (Nat × Nat)} {A : Nat → Prop} {rr : Int32} {XX : gM} {N : Nat} {kx : Nat} (CX : gCxX p c l meth m s args cX9_give 9 (some .int) RX9 D cA ad NL A) (hW : gWf NL) (hD0 : gD (fun _ => True) ad NL) : ∀ (X : gM) (H : Heap) (locs : List Loc) (ls : Array Slot), gH D cA ad NL X H → va_S A s.heap H locs → lv_has ls 9 [] → X9_give_J83 (gal NL) N X = some (kx, rr, XX) → W p l e rm_X9_give s m args below meth c H locs 0 0 (vx_MQ below (gQx D cA ad NL kx (some (.int rr)) XX A) (gXx D cA ad NL kx XX A) args s 1 6 A) (F0 m 83 ls []) := by
  have C := CX.1
  have hx := C.1
  have hb := C.2.1
  intro X H locs ls hP hS hl hf
  rw [X9_give_J83] at hf
  obtain ⟨rfl, rfl, rfl⟩ := g_s3 hf
  exact r_throw CX hP hS hl.1 th_X9_99_101 dX9_give_83 dX9_give_86 dX9_give_87 dX9_give_90 ⟨Nat.le_of_ble_eq_true rfl, Nat.le_of_ble_eq_true rfl, Nat.le_of_ble_eq_true rfl, Nat.le_of_ble_eq_true rfl⟩ 

set_option maxRecDepth 100000 in
set_option maxHeartbeats 4000000 in
theorem s_X9_give_J51 {p : Program} {l : Launch} {e : Env} {s : State} {m : MethodId} {args : Array Value} {below : List Frame} {meth : Method} {c : Code} {D : va_G} {cA : Nat → ClassId} {ad : Nat → Nat → Nat} {NL : List (Nat × Nat)} {A : Nat → Prop} {rr : Int32} {XX : gM} {N : Nat} {kx : Nat} (CX : gCxX p c l meth m s args cX9_give 9 (some .int) RX9 D cA ad NL A) (hW : gWf NL) (hD0 : gD (fun _ => True) ad NL) : ∀ (X : gM) (H : Heap) (locs : List Loc) (ls : Array Slot), gH D cA ad NL X H → va_S A s.heap H locs → lv_has ls 9 [] → X9_give_J51 (gal NL) N X = some (kx, rr, XX) → W p l e rm_X9_give s m args below meth c H locs 0 0 (vx_MQ below (gQx D cA ad NL kx (some (.int rr)) XX A) (gXx D cA ad NL kx XX A) args s 1 6 A) (F0 m 51 ls []) := by
  have C := CX.1
  have hx := C.1
  have hb := C.2.1
  intro X H locs ls hP hS hl hf
  rw [X9_give_J51] at hf
  obtain ⟨rfl, rfl, rfl⟩ := g_s3 hf
  exact r_throw CX hP hS hl.1 th_X9_92_94 dX9_give_51 dX9_give_54 dX9_give_55 dX9_give_58 ⟨Nat.le_of_ble_eq_true rfl, Nat.le_of_ble_eq_true rfl, Nat.le_of_ble_eq_true rfl, Nat.le_of_ble_eq_true rfl⟩ 

set_option maxRecDepth 100000 in
set_option maxHeartbeats 4000000 in
theorem s_X9_give_J24 {p : Program} {l : Launch} {e : Env} {s : State} {m : MethodId} {args : Array Value} {below : List Frame} {meth : Method} {c : Code} {D : va_G} {cA : Nat → ClassId} {ad : Nat → Nat → Nat} {NL : List (Nat × Nat)} {A : Nat → Prop} {rr : Int32} {XX : gM} {N : Nat} {kx : Nat} (CX : gCxX p c l meth m s args cX9_give 9 (some .int) RX9 D cA ad NL A) (hW : gWf NL) (hD0 : gD (fun _ => True) ad NL) : ∀ (X : gM) (H : Heap) (locs : List Loc) (ls : Array Slot), gH D cA ad NL X H → va_S A s.heap H locs → lv_has ls 9 [] → X9_give_J24 (gal NL) N X = some (kx, rr, XX) → W p l e rm_X9_give s m args below meth c H locs 0 0 (vx_MQ below (gQx D cA ad NL kx (some (.int rr)) XX A) (gXx D cA ad NL kx XX A) args s 1 6 A) (F0 m 24 ls []) := by
  have C := CX.1
  have hx := C.1
  have hb := C.2.1
  intro X H locs ls hP hS hl hf
  rw [X9_give_J24] at hf
  obtain ⟨rfl, rfl, rfl⟩ := g_s3 hf
  exact r_throw CX hP hS hl.1 th_X9_85_87 dX9_give_24 dX9_give_27 dX9_give_28 dX9_give_31 ⟨Nat.le_of_ble_eq_true rfl, Nat.le_of_ble_eq_true rfl, Nat.le_of_ble_eq_true rfl, Nat.le_of_ble_eq_true rfl⟩ 

set_option maxRecDepth 100000 in
set_option maxHeartbeats 4000000 in
theorem w_X9_give {p : Program} {l : Launch} {e : Env} {s : State} {m : MethodId} {args : Array Value} {below : List Frame} {meth : Method} {c : Code} {D : va_G} {cA : Nat → ClassId} {ad : Nat → Nat → Nat} {NL : List (Nat × Nat)} {A : Nat → Prop} {rr : Int32} {XX : gM} {N : Nat} {kx : Nat} (CX : gCxX p c l meth m s args cX9_give 9 (some .int) RX9 D cA ad NL A) (hW : gWf NL) (hD0 : gD (fun _ => True) ad NL) {p1 : Int32} {p2 : Int32} {p3 : Int32} {p4 : Int32} {p5 : Int32} {p6 : Int32} (ha_l0 : (0, 0) ∈ NL) : ∀ (X : gM) (H : Heap) (locs : List Loc) (ls : Array Slot), gH D cA ad NL X H → va_S A s.heap H locs → lv_has ls 9 [(0, .ref (ad 0 0)), (1, .int p1), (2, .int p2), (3, .int p3), (4, .int p4), (5, .int p5), (6, .int p6)] → X9_give (gal NL) N p1 p2 p3 p4 p5 p6 X = some (kx, rr, XX) → W p l e rm_X9_give s m args below meth c H locs 0 0 (vx_MQ below (gQx D cA ad NL kx (some (.int rr)) XX A) (gXx D cA ad NL kx XX A) args s 1 6 A) (F0 m 0 ls []) := by
  have C := CX.1
  have hx := C.1
  have hb := C.2.1
  intro X H locs ls hP hS hl hf
  rw [X9_give] at hf
  refine lv_aload_n hx hb dX9_give_0 rfl (lv_at hl 0 rfl) ?_
  refine lv_iload_n hx hb dX9_give_1 rfl (lv_at hl 2 rfl) ?_
  refine lv_iload_n hx hb dX9_give_2 rfl (lv_at hl 3 rfl) ?_
  refine lv_iload hx hb dX9_give_3 (lv_at hl 4 rfl) ?_
  obtain ⟨r1, X2, h3, hf⟩ := b2_in hf
  refine r_cVq (rest := []) C hP hS hl.1 (s_X9_cellOf hW hD0 ha_l0 h3) ix_X9_cellOf iv_X9_cellOf lk_X9_137 ⟨rfl, rfl, Nat.le_of_ble_eq_true rfl, Nat.le_of_ble_eq_true rfl⟩ ha_l0 (ct_0 _ _ _ _) rfl rfl rfl rfl (Nat.le_of_ble_eq_true rfl) ⟨Nat.zero_le _, Nat.zero_le _⟩ dX9_give_5 (fun H locs hP hS => ?_)
  refine r_astore (i := 7) (lv' := [(7, va_rf (ro ad 7 r1)), (0, .ref (ad 0 0)), (1, .int p1), (2, .int p2), (3, .int p3), (4, .int p4), (5, .int p5), (6, .int p6)]) C dX9_give_8 hl (Nat.le_of_ble_eq_true rfl) rfl (fun ls hl => ?_)
  refine r_aload C dX9_give_10 (lv_at hl 0 rfl) ?_
  refine r_ifnull (tgt := 24) C dX9_give_12 (by decide) (fun c4 => ?_) (fun c4 => ?_)
  · have hf := g_ip c4 hf
    exact s_X9_give_J24 CX hW hD0 X2 _ _ _ hP hS (lv_sub hl [] rfl) hf
  · have hf := g_in c4 hf
    refine lv_iload_n hx hb dX9_give_15 rfl (lv_at hl 2 rfl) ?_
    refine lv_iconst (v := 0) hx hb dX9_give_16 (by decide) ?_
    refine lv_iconst (v := 2) hx hb dX9_give_17 (by decide) ?_
    obtain ⟨r5, X6, h7, hf⟩ := b2_in hf
    refine r_cSi (rest := []) C hP hS hl.1 (s_X9_isWithin hW hD0  h7) ix_X9_isWithin is_X9_isWithin ls_X9_88 ⟨rfl, rfl, Nat.le_of_ble_eq_true rfl, Nat.le_of_ble_eq_true rfl⟩ rfl rfl (Nat.le_of_ble_eq_true rfl) ⟨Nat.zero_le _, Nat.zero_le _⟩ dX9_give_18 (fun H locs hP hS => ?_)
    refine lv_if_ne (tgt := 32) hx hb dX9_give_21 (by decide) (fun c8 => ?_) (fun c8 => ?_)
    · have hf := g_in c8 hf
      refine lv_iload hx hb dX9_give_32 (lv_at hl 6 rfl) ?_
      obtain ⟨r9, X10, h11, hf⟩ := b2_in hf
      refine r_cSi (rest := []) C hP hS hl.1 (s_X9_isLetter hW hD0  h11) ix_X9_isLetter is_X9_isLetter ls_X9_153 ⟨rfl, rfl, Nat.le_of_ble_eq_true rfl, Nat.le_of_ble_eq_true rfl⟩ rfl rfl (Nat.le_of_ble_eq_true rfl) ⟨Nat.zero_le _, Nat.zero_le _⟩ dX9_give_34 (fun H locs hP hS => ?_)
      refine lv_if_eq (tgt := 51) hx hb dX9_give_37 (by decide) (fun c12 => ?_) (fun c12 => ?_)
      · have hf := g_ip c12 hf
        exact s_X9_give_J51 CX hW hD0 X10 _ _ _ hP hS (lv_sub hl [] rfl) hf
      · have hf := g_in c12 hf
        refine lv_iload hx hb dX9_give_40 (lv_at hl 7 rfl) ?_
        refine lv_iconst (v := 0) hx hb dX9_give_42 (by decide) ?_
        refine lv_bipush (v := 9) hx hb dX9_give_43 (by decide) ?_
        obtain ⟨r13, X14, h15, hf⟩ := b2_in hf
        refine r_cSi (rest := []) C hP hS hl.1 (s_X9_isWithin hW hD0  h15) ix_X9_isWithin is_X9_isWithin ls_X9_88 ⟨rfl, rfl, Nat.le_of_ble_eq_true rfl, Nat.le_of_ble_eq_true rfl⟩ rfl rfl (Nat.le_of_ble_eq_true rfl) ⟨Nat.zero_le _, Nat.zero_le _⟩ dX9_give_45 (fun H locs hP hS => ?_)
        refine lv_if_ne (tgt := 59) hx hb dX9_give_48 (by decide) (fun c16 => ?_) (fun c16 => ?_)
        · have hf := g_in c16 hf
          refine r_aload C dX9_give_59 (lv_at hl 0 rfl) ?_
          refine lv_iload_n hx hb dX9_give_61 rfl (lv_at hl 2 rfl) ?_
          refine lv_iload hx hb dX9_give_62 (lv_at hl 6 rfl) ?_
          obtain ⟨j17, h18, hf⟩ := dr_in hf
          rw [gref h18]
          obtain ⟨r19, X20, h21, hf⟩ := b2_in hf
          refine r_cVi (rest := []) C hP hS hl.1 (s_X0_slotFor hW hD0 h18.2.2 h21) ix_X0_slotFor iv_X0_slotFor lk_X9_157 ⟨rfl, rfl, Nat.le_of_ble_eq_true rfl, Nat.le_of_ble_eq_true rfl⟩ h18.2.2 (ct_7 _ _ _ _) rfl rfl rfl rfl (Nat.le_of_ble_eq_true rfl) ⟨Nat.zero_le _, Nat.zero_le _⟩ dX9_give_64 (fun H locs hP hS => ?_)
          refine lv_istore (i := 8) (lv' := [(8, .int r19), (7, va_rf (ro ad 7 r1)), (0, .ref (ad 0 0)), (1, .int p1), (2, .int p2), (3, .int p3), (4, .int p4), (5, .int p5), (6, .int p6)]) hx hb dX9_give_67 hl (Nat.le_of_ble_eq_true rfl) (by simp [g_cat, g_catr, g_cati]) (fun ls hl => ?_)
          refine r_aload C dX9_give_69 (lv_at hl 1 rfl) ?_
          rw [gref h18]
          obtain ⟨r22, X23, h24, hf⟩ := b2_in hf
          refine r_cVi (rest := []) C hP hS hl.1 (s_X0_isBlank hW hD0 h18.2.2 h24) ix_X0_isBlank iv_X0_isBlank lk_X9_161 ⟨rfl, rfl, Nat.le_of_ble_eq_true rfl, Nat.le_of_ble_eq_true rfl⟩ h18.2.2 (ct_7 _ _ _ _) rfl rfl rfl rfl (Nat.le_of_ble_eq_true rfl) ⟨Nat.zero_le _, Nat.zero_le _⟩ dX9_give_71 (fun H locs hP hS => ?_)
          refine lv_if_ne (tgt := 83) hx hb dX9_give_74 (by decide) (fun c25 => ?_) (fun c25 => ?_)
          · have hf := g_in c25 hf
            exact s_X9_give_J83 CX hW hD0 X23 _ _ _ hP hS (lv_sub hl [] rfl) hf
          · have hf := g_ip c25 hf
            refine lv_iload hx hb dX9_give_77 (lv_at hl 0 rfl) ?_
            refine lv_iconst (v := -1) hx hb dX9_give_79 (by decide) ?_
            refine lv_icmp_ne (tgt := 91) hx hb dX9_give_80 (by decide) (fun c26 => ?_) (fun c26 => ?_)
            · have hf := g_in c26 hf
              refine r_aload C dX9_give_91 (lv_at hl 1 rfl) ?_
              rw [gref h18]
              refine lv_iload hx hb dX9_give_93 (lv_at hl 0 rfl) ?_
              refine lv_iload hx hb dX9_give_95 (lv_at hl 7 rfl) ?_
              refine lv_iload hx hb dX9_give_97 (lv_at hl 8 rfl) ?_
              obtain ⟨r27, X28, h29, hf⟩ := b2_in hf
              refine r_cVv (rest := []) C hP hS hl.1 (s_X0_put hW hD0 h18.2.2 h29) ix_X0_put iv_X0_put lk_X9_164 ⟨rfl, rfl, Nat.le_of_ble_eq_true rfl, Nat.le_of_ble_eq_true rfl⟩ h18.2.2 (ct_7 _ _ _ _) rfl rfl rfl rfl (Nat.le_of_ble_eq_true rfl) ⟨Nat.zero_le _, Nat.zero_le _⟩ dX9_give_99 (fun H locs hP hS => ?_)
              refine r_aload C dX9_give_102 (lv_at hl 1 rfl) ?_
              rw [gref h18]
              refine lv_iload_n hx hb dX9_give_104 rfl (lv_at hl 3 rfl) ?_
              obtain ⟨r30, X31, h32, hf⟩ := b2_in hf
              refine r_cVi (rest := []) C hP hS hl.1 (s_X0_countOf hW hD0 h18.2.2 h32) ix_X0_countOf iv_X0_countOf lk_X9_168 ⟨rfl, rfl, Nat.le_of_ble_eq_true rfl, Nat.le_of_ble_eq_true rfl⟩ h18.2.2 (ct_7 _ _ _ _) rfl rfl rfl rfl (Nat.le_of_ble_eq_true rfl) ⟨Nat.zero_le _, Nat.zero_le _⟩ dX9_give_105 (fun H locs hP hS => ?_)
              obtain ⟨rfl, rfl, rfl⟩ := g_s3 hf
              exact r_iretX CX hP hS dX9_give_108
            · have hf := g_ip c26 hf
              exact s_X9_give_J83 CX hW hD0 X23 _ _ _ hP hS (lv_sub hl [] rfl) hf
        · have hf := g_ip c16 hf
          exact s_X9_give_J51 CX hW hD0 X14 _ _ _ hP hS (lv_sub hl [] rfl) hf
    · have hf := g_ip c8 hf
      exact s_X9_give_J24 CX hW hD0 X6 _ _ _ hP hS (lv_sub hl [] rfl) hf

theorem s_X9_give {l : Launch} {D : va_G} {cA : Nat → ClassId} {ad : Nat → Nat → Nat} {NL : List (Nat × Nat)} {N : Nat} {p1 : Int32} {p2 : Int32} {p3 : Int32} {p4 : Int32} {p5 : Int32} {p6 : Int32} {X : gM} {kx : Nat} {rr : Int32} {XX : gM} (htr : l.stackTraces = false) (hW : gWf NL) (hD0 : gD (fun _ => True) ad NL) (ha_l0 : (0, 0) ∈ NL) (hf : X9_give (gal NL) N p1 p2 p3 p4 p5 p6 X = some (kx, rr, XX)) : gCX l yX9_give cX9_give 9 (some .int) rm_X9_give D cA ad NL [.ref (ad 0 0), .int p1, .int p2, .int p3, .int p4, .int p5, .int p6] X kx (some (.int rr)) XX :=
  g_ofX (by decide) htr hD0 (Nat.le_of_ble_eq_true rfl) rfl (fun p e s m below meth c ls CX hP hS hl => w_X9_give CX hW hD0 ha_l0 X _ _ ls hP hS hl hf)
def rm_X9_type : Room := { frames := 6, cells := 1, slots := 6, locals := 89 }
set_option maxRecDepth 100000 in
set_option maxHeartbeats 4000000 in
theorem w_X9_type {p : Program} {l : Launch} {e : Env} {s : State} {m : MethodId} {args : Array Value} {below : List Frame} {meth : Method} {c : Code} {D : va_G} {cA : Nat → ClassId} {ad : Nat → Nat → Nat} {NL : List (Nat × Nat)} {A : Nat → Prop} {rr : Int32} {XX : gM} {N : Nat} {kx : Nat} (CX : gCxX p c l meth m s args cX9_type 2 (some .int) RX9 D cA ad NL A) (hW : gWf NL) (hD0 : gD (fun _ => True) ad NL) {p1 : Int32} (ha_l0 : (0, 0) ∈ NL) : ∀ (X : gM) (H : Heap) (locs : List Loc) (ls : Array Slot), gH D cA ad NL X H → va_S A s.heap H locs → lv_has ls 2 [(0, .ref (ad 0 0)), (1, .int p1)] → X9_type (gal NL) N p1 X = some (kx, rr, XX) → W p l e rm_X9_type s m args below meth c H locs 0 0 (vx_MQ below (gQx D cA ad NL kx (some (.int rr)) XX A) (gXx D cA ad NL kx XX A) args s 1 6 A) (F0 m 0 ls []) := by
  have C := CX.1
  have hx := C.1
  have hb := C.2.1
  intro X H locs ls hP hS hl hf
  rw [X9_type] at hf
  refine lv_iload_n hx hb dX9_type_0 rfl (lv_at hl 1 rfl) ?_
  obtain ⟨r1, X2, h3, hf⟩ := b2_in hf
  refine r_cSi (rest := []) C hP hS hl.1 (s_X9_isLetter hW hD0  h3) ix_X9_isLetter is_X9_isLetter ls_X9_153 ⟨rfl, rfl, Nat.le_of_ble_eq_true rfl, Nat.le_of_ble_eq_true rfl⟩ rfl rfl (Nat.le_of_ble_eq_true rfl) ⟨Nat.zero_le _, Nat.zero_le _⟩ dX9_type_1 (fun H locs hP hS => ?_)
  refine lv_if_ne (tgt := 15) hx hb dX9_type_4 (by decide) (fun c4 => ?_) (fun c4 => ?_)
  · have hf := g_in c4 hf
    refine lv_aload_n hx hb dX9_type_15 rfl (lv_at hl 0 rfl) ?_
    refine r_get C hP ha_l0 (ct_0 _ _ _ _) fx_X9_46 (fg_0_7 _ _ _) dX9_type_16 ?_
    refine lv_aload_n hx hb dX9_type_19 rfl (lv_at hl 0 rfl) ?_
    refine r_get C hP ha_l0 (ct_0 _ _ _ _) fx_X9_42 (fg_0_6 _ _ _) dX9_type_20 ?_
    refine r_alen C hP 40 (gs_0_6 hW ha_l0) (ct_24 _ _ _ _) rfl rfl dX9_type_23 ?_
    refine lv_icmp_lt (tgt := 35) hx hb dX9_type_24 (by decide) (fun c5 => ?_) (fun c5 => ?_)
    · have hf := g_ip c5 hf
      refine lv_aload_n hx hb dX9_type_35 rfl (lv_at hl 0 rfl) ?_
      refine r_get C hP ha_l0 (ct_0 _ _ _ _) fx_X9_42 (fg_0_6 _ _ _) dX9_type_36 ?_
      refine lv_aload_n hx hb dX9_type_39 rfl (lv_at hl 0 rfl) ?_
      refine r_get C hP ha_l0 (ct_0 _ _ _ _) fx_X9_46 (fg_0_7 _ _ _) dX9_type_40 ?_
      refine lv_iload_n hx hb dX9_type_43 rfl (lv_at hl 1 rfl) ?_
      obtain ⟨j6, h7, hf⟩ := rd_in hf
      refine r_iast C hP hS (gs_0_6 hW ha_l0) (fun _ => ct_24 _ _ _ _) h7 dX9_type_44 (fun H locs hP hS => ?_)
      obtain ⟨X8, e9, hf⟩ := gl_in hf
      rw [← e9] at hP
      refine lv_aload_n hx hb dX9_type_45 rfl (lv_at hl 0 rfl) ?_
      refine lv_dup hx hb dX9_type_46 rfl ?_
      refine r_get C hP ha_l0 (ct_0 _ _ _ _) fx_X9_46 (fg_0_7 _ _ _) dX9_type_47 ?_
      refine lv_iconst (v := 1) hx hb dX9_type_50 (by decide) ?_
      refine lv_iadd hx hb dX9_type_51 ?_
      refine r_put C hP hS ((X8 0 0 7) + (1 : Int32)) ha_l0 (ct_0 _ _ _ _) px_X9_46 (fp_0_7 _ _ _ _ _) (Nat.le_of_ble_eq_true rfl) rfl rfl dX9_type_52 (fun H locs hP hS => ?_)
      obtain ⟨X10, e11, hf⟩ := gl_in hf
      rw [← e11] at hP
      refine lv_aload_n hx hb dX9_type_55 rfl (lv_at hl 0 rfl) ?_
      refine r_get C hP ha_l0 (ct_0 _ _ _ _) fx_X9_46 (fg_0_7 _ _ _) dX9_type_56 ?_
      obtain ⟨rfl, rfl, rfl⟩ := g_s3 hf
      exact r_iretX CX hP hS dX9_type_59
    · have hf := g_in c5 hf
      obtain ⟨rfl, rfl, rfl⟩ := g_s3 hf
      exact r_throw CX hP hS hl.1 th_X9_99_101 dX9_type_27 dX9_type_30 dX9_type_31 dX9_type_34 ⟨Nat.le_of_ble_eq_true rfl, Nat.le_of_ble_eq_true rfl, Nat.le_of_ble_eq_true rfl, Nat.le_of_ble_eq_true rfl⟩ 
  · have hf := g_ip c4 hf
    obtain ⟨rfl, rfl, rfl⟩ := g_s3 hf
    exact r_throw CX hP hS hl.1 th_X9_92_94 dX9_type_7 dX9_type_10 dX9_type_11 dX9_type_14 ⟨Nat.le_of_ble_eq_true rfl, Nat.le_of_ble_eq_true rfl, Nat.le_of_ble_eq_true rfl, Nat.le_of_ble_eq_true rfl⟩ 

theorem s_X9_type {l : Launch} {D : va_G} {cA : Nat → ClassId} {ad : Nat → Nat → Nat} {NL : List (Nat × Nat)} {N : Nat} {p1 : Int32} {X : gM} {kx : Nat} {rr : Int32} {XX : gM} (htr : l.stackTraces = false) (hW : gWf NL) (hD0 : gD (fun _ => True) ad NL) (ha_l0 : (0, 0) ∈ NL) (hf : X9_type (gal NL) N p1 X = some (kx, rr, XX)) : gCX l yX9_type cX9_type 2 (some .int) rm_X9_type D cA ad NL [.ref (ad 0 0), .int p1] X kx (some (.int rr)) XX :=
  g_ofX (by decide) htr hD0 (Nat.le_of_ble_eq_true rfl) rfl (fun p e s m below meth c ls CX hP hS hl => w_X9_type CX hW hD0 ha_l0 X _ _ ls hP hS hl hf)
def rm_X9_weight : Room := { frames := 6, cells := 1, slots := 6, locals := 101 }
set_option maxRecDepth 100000 in
set_option maxHeartbeats 4000000 in
theorem s_X9_weight_J21 {p : Program} {l : Launch} {e : Env} {s : State} {m : MethodId} {args : Array Value} {below : List Frame} {meth : Method} {c : Code} {D : va_G} {cA : Nat → ClassId} {ad : Nat → Nat → Nat} {NL : List (Nat × Nat)} {A : Nat → Prop} {rr : Int32} {XX : gM} {N : Nat} {kx : Nat} (CX : gCxX p c l meth m s args cX9_weight 5 (some .int) RX9 D cA ad NL A) (hW : gWf NL) (hD0 : gD (fun _ => True) ad NL) : ∀ (X : gM) (H : Heap) (locs : List Loc) (ls : Array Slot), gH D cA ad NL X H → va_S A s.heap H locs → lv_has ls 5 [] → X9_weight_J21 (gal NL) N X = some (kx, rr, XX) → W p l e rm_X9_weight s m args below meth c H locs 0 0 (vx_MQ below (gQx D cA ad NL kx (some (.int rr)) XX A) (gXx D cA ad NL kx XX A) args s 1 6 A) (F0 m 21 ls []) := by
  have C := CX.1
  have hx := C.1
  have hb := C.2.1
  intro X H locs ls hP hS hl hf
  rw [X9_weight_J21] at hf
  obtain ⟨rfl, rfl, rfl⟩ := g_s3 hf
  exact r_throw CX hP hS hl.1 th_X9_85_87 dX9_weight_21 dX9_weight_24 dX9_weight_25 dX9_weight_28 ⟨Nat.le_of_ble_eq_true rfl, Nat.le_of_ble_eq_true rfl, Nat.le_of_ble_eq_true rfl, Nat.le_of_ble_eq_true rfl⟩ 

set_option maxRecDepth 100000 in
set_option maxHeartbeats 4000000 in
theorem w_X9_weight {p : Program} {l : Launch} {e : Env} {s : State} {m : MethodId} {args : Array Value} {below : List Frame} {meth : Method} {c : Code} {D : va_G} {cA : Nat → ClassId} {ad : Nat → Nat → Nat} {NL : List (Nat × Nat)} {A : Nat → Prop} {rr : Int32} {XX : gM} {N : Nat} {kx : Nat} (CX : gCxX p c l meth m s args cX9_weight 5 (some .int) RX9 D cA ad NL A) (hW : gWf NL) (hD0 : gD (fun _ => True) ad NL) {p1 : Int32} {p2 : Int32} {p3 : Int32} (ha_l0 : (0, 0) ∈ NL) : ∀ (X : gM) (H : Heap) (locs : List Loc) (ls : Array Slot), gH D cA ad NL X H → va_S A s.heap H locs → lv_has ls 5 [(0, .ref (ad 0 0)), (1, .int p1), (2, .int p2), (3, .int p3)] → X9_weight (gal NL) N p1 p2 p3 X = some (kx, rr, XX) → W p l e rm_X9_weight s m args below meth c H locs 0 0 (vx_MQ below (gQx D cA ad NL kx (some (.int rr)) XX A) (gXx D cA ad NL kx XX A) args s 1 6 A) (F0 m 0 ls []) := by
  have C := CX.1
  have hx := C.1
  have hb := C.2.1
  intro X H locs ls hP hS hl hf
  rw [X9_weight] at hf
  refine lv_aload_n hx hb dX9_weight_0 rfl (lv_at hl 0 rfl) ?_
  refine lv_iload_n hx hb dX9_weight_1 rfl (lv_at hl 1 rfl) ?_
  obtain ⟨r1, X2, h3, hf⟩ := b2_in hf
  refine r_cVq (rest := []) C hP hS hl.1 (s_X9_leafOf hW hD0 ha_l0 h3) ix_X9_leafOf iv_X9_leafOf lk_X9_179 ⟨rfl, rfl, Nat.le_of_ble_eq_true rfl, Nat.le_of_ble_eq_true rfl⟩ ha_l0 (ct_0 _ _ _ _) rfl rfl rfl rfl (Nat.le_of_ble_eq_true rfl) ⟨Nat.zero_le _, Nat.zero_le _⟩ dX9_weight_2 (fun H locs hP hS => ?_)
  refine r_astore (i := 4) (lv' := [(4, va_rf (ro ad 5 r1)), (0, .ref (ad 0 0)), (1, .int p1), (2, .int p2), (3, .int p3)]) C dX9_weight_5 hl (Nat.le_of_ble_eq_true rfl) rfl (fun ls hl => ?_)
  refine r_aload C dX9_weight_7 (lv_at hl 0 rfl) ?_
  refine r_ifnull (tgt := 21) C dX9_weight_9 (by decide) (fun c4 => ?_) (fun c4 => ?_)
  · have hf := g_ip c4 hf
    exact s_X9_weight_J21 CX hW hD0 X2 _ _ _ hP hS (lv_sub hl [] rfl) hf
  · have hf := g_in c4 hf
    refine r_aload C dX9_weight_12 (lv_at hl 0 rfl) ?_
    refine lv_iload_n hx hb dX9_weight_14 rfl (lv_at hl 3 rfl) ?_
    obtain ⟨j5, h6, hf⟩ := dr_in hf
    rw [gref h6]
    obtain ⟨r7, X8, h9, hf⟩ := b2_in hf
    refine r_cVi (rest := []) C hP hS hl.1 (s_X2_hasLine hW hD0 h6.2.2 h9) ix_X2_hasLine iv_X2_hasLine lk_X9_183 ⟨rfl, rfl, Nat.le_of_ble_eq_true rfl, Nat.le_of_ble_eq_true rfl⟩ h6.2.2 (ct_5 _ _ _ _) rfl rfl rfl rfl (Nat.le_of_ble_eq_true rfl) ⟨Nat.zero_le _, Nat.zero_le _⟩ dX9_weight_15 (fun H locs hP hS => ?_)
    refine lv_if_ne (tgt := 29) hx hb dX9_weight_18 (by decide) (fun c10 => ?_) (fun c10 => ?_)
    · have hf := g_in c10 hf
      refine lv_iload_n hx hb dX9_weight_29 rfl (lv_at hl 4 rfl) ?_
      obtain ⟨r11, X12, h13, hf⟩ := b2_in hf
      refine r_cSi (rest := []) C hP hS hl.1 (s_X9_isLayer hW hD0  h13) ix_X9_isLayer is_X9_isLayer ls_X9_186 ⟨rfl, rfl, Nat.le_of_ble_eq_true rfl, Nat.le_of_ble_eq_true rfl⟩ rfl rfl (Nat.le_of_ble_eq_true rfl) ⟨Nat.zero_le _, Nat.zero_le _⟩ dX9_weight_30 (fun H locs hP hS => ?_)
      refine lv_if_ne (tgt := 44) hx hb dX9_weight_33 (by decide) (fun c14 => ?_) (fun c14 => ?_)
      · have hf := g_in c14 hf
        refine lv_aload_n hx hb dX9_weight_44 rfl (lv_at hl 1 rfl) ?_
        refine r_get C hP ha_l0 (ct_0 _ _ _ _) fx_X9_67 (fg_0_12 _ _ _) dX9_weight_45 ?_
        refine r_aload C dX9_weight_48 (lv_at hl 0 rfl) ?_
        rw [gref h6]
        refine lv_iload_n hx hb dX9_weight_50 rfl (lv_at hl 3 rfl) ?_
        refine lv_iload_n hx hb dX9_weight_51 rfl (lv_at hl 4 rfl) ?_
        refine lv_aload_n hx hb dX9_weight_52 rfl (lv_at hl 1 rfl) ?_
        refine r_get C hP ha_l0 (ct_0 _ _ _ _) fx_X9_51 (fg_0_8 _ _ _) dX9_weight_53 ?_
        obtain ⟨r15, X16, h17, hf⟩ := b2_in hf
        refine r_cVv (rest := []) C hP hS hl.1 (s_X6_read hW hD0 (gs_0_12 hW ha_l0) h6.2.2 (gs_0_8 hW ha_l0) h17) ix_X6_read iv_X6_read lk_X9_189 ⟨rfl, rfl, Nat.le_of_ble_eq_true rfl, Nat.le_of_ble_eq_true rfl⟩ (gs_0_12 hW ha_l0) (ct_29 _ _ _ _) rfl rfl rfl rfl (Nat.le_of_ble_eq_true rfl) ⟨Nat.zero_le _, Nat.zero_le _⟩ dX9_weight_56 (fun H locs hP hS => ?_)
        refine lv_aload_n hx hb dX9_weight_59 rfl (lv_at hl 1 rfl) ?_
        refine r_get C hP ha_l0 (ct_0 _ _ _ _) fx_X9_67 (fg_0_12 _ _ _) dX9_weight_60 ?_
        obtain ⟨r18, X19, h20, hf⟩ := b2_in hf
        refine r_cVi (rest := []) C hP hS hl.1 (s_X6_bestWeight hW hD0 (gs_0_12 hW ha_l0) h20) ix_X6_bestWeight iv_X6_bestWeight lk_X9_193 ⟨rfl, rfl, Nat.le_of_ble_eq_true rfl, Nat.le_of_ble_eq_true rfl⟩ (gs_0_12 hW ha_l0) (ct_29 _ _ _ _) rfl rfl rfl rfl (Nat.le_of_ble_eq_true rfl) ⟨Nat.zero_le _, Nat.zero_le _⟩ dX9_weight_63 (fun H locs hP hS => ?_)
        obtain ⟨rfl, rfl, rfl⟩ := g_s3 hf
        exact r_iretX CX hP hS dX9_weight_66
      · have hf := g_ip c14 hf
        obtain ⟨rfl, rfl, rfl⟩ := g_s3 hf
        exact r_throw CX hP hS hl.1 th_X9_92_94 dX9_weight_36 dX9_weight_39 dX9_weight_40 dX9_weight_43 ⟨Nat.le_of_ble_eq_true rfl, Nat.le_of_ble_eq_true rfl, Nat.le_of_ble_eq_true rfl, Nat.le_of_ble_eq_true rfl⟩ 
    · have hf := g_ip c10 hf
      exact s_X9_weight_J21 CX hW hD0 X8 _ _ _ hP hS (lv_sub hl [] rfl) hf

theorem s_X9_weight {l : Launch} {D : va_G} {cA : Nat → ClassId} {ad : Nat → Nat → Nat} {NL : List (Nat × Nat)} {N : Nat} {p1 : Int32} {p2 : Int32} {p3 : Int32} {X : gM} {kx : Nat} {rr : Int32} {XX : gM} (htr : l.stackTraces = false) (hW : gWf NL) (hD0 : gD (fun _ => True) ad NL) (ha_l0 : (0, 0) ∈ NL) (hf : X9_weight (gal NL) N p1 p2 p3 X = some (kx, rr, XX)) : gCX l yX9_weight cX9_weight 5 (some .int) rm_X9_weight D cA ad NL [.ref (ad 0 0), .int p1, .int p2, .int p3] X kx (some (.int rr)) XX :=
  g_ofX (by decide) htr hD0 (Nat.le_of_ble_eq_true rfl) rfl (fun p e s m below meth c ls CX hP hS hl => w_X9_weight CX hW hD0 ha_l0 X _ _ ls hP hS hl hf)
def rm_X9_readings : Room := { frames := 6, cells := 1, slots := 6, locals := 101 }
set_option maxRecDepth 100000 in
set_option maxHeartbeats 4000000 in
theorem s_X9_readings_J21 {p : Program} {l : Launch} {e : Env} {s : State} {m : MethodId} {args : Array Value} {below : List Frame} {meth : Method} {c : Code} {D : va_G} {cA : Nat → ClassId} {ad : Nat → Nat → Nat} {NL : List (Nat × Nat)} {A : Nat → Prop} {rr : Int32} {XX : gM} {N : Nat} {kx : Nat} (CX : gCxX p c l meth m s args cX9_readings 5 (some .int) RX9 D cA ad NL A) (hW : gWf NL) (hD0 : gD (fun _ => True) ad NL) : ∀ (X : gM) (H : Heap) (locs : List Loc) (ls : Array Slot), gH D cA ad NL X H → va_S A s.heap H locs → lv_has ls 5 [] → X9_readings_J21 (gal NL) N X = some (kx, rr, XX) → W p l e rm_X9_readings s m args below meth c H locs 0 0 (vx_MQ below (gQx D cA ad NL kx (some (.int rr)) XX A) (gXx D cA ad NL kx XX A) args s 1 6 A) (F0 m 21 ls []) := by
  have C := CX.1
  have hx := C.1
  have hb := C.2.1
  intro X H locs ls hP hS hl hf
  rw [X9_readings_J21] at hf
  obtain ⟨rfl, rfl, rfl⟩ := g_s3 hf
  exact r_throw CX hP hS hl.1 th_X9_85_87 dX9_readings_21 dX9_readings_24 dX9_readings_25 dX9_readings_28 ⟨Nat.le_of_ble_eq_true rfl, Nat.le_of_ble_eq_true rfl, Nat.le_of_ble_eq_true rfl, Nat.le_of_ble_eq_true rfl⟩ 

set_option maxRecDepth 100000 in
set_option maxHeartbeats 4000000 in
theorem w_X9_readings {p : Program} {l : Launch} {e : Env} {s : State} {m : MethodId} {args : Array Value} {below : List Frame} {meth : Method} {c : Code} {D : va_G} {cA : Nat → ClassId} {ad : Nat → Nat → Nat} {NL : List (Nat × Nat)} {A : Nat → Prop} {rr : Int32} {XX : gM} {N : Nat} {kx : Nat} (CX : gCxX p c l meth m s args cX9_readings 5 (some .int) RX9 D cA ad NL A) (hW : gWf NL) (hD0 : gD (fun _ => True) ad NL) {p1 : Int32} {p2 : Int32} {p3 : Int32} (ha_l0 : (0, 0) ∈ NL) : ∀ (X : gM) (H : Heap) (locs : List Loc) (ls : Array Slot), gH D cA ad NL X H → va_S A s.heap H locs → lv_has ls 5 [(0, .ref (ad 0 0)), (1, .int p1), (2, .int p2), (3, .int p3)] → X9_readings (gal NL) N p1 p2 p3 X = some (kx, rr, XX) → W p l e rm_X9_readings s m args below meth c H locs 0 0 (vx_MQ below (gQx D cA ad NL kx (some (.int rr)) XX A) (gXx D cA ad NL kx XX A) args s 1 6 A) (F0 m 0 ls []) := by
  have C := CX.1
  have hx := C.1
  have hb := C.2.1
  intro X H locs ls hP hS hl hf
  rw [X9_readings] at hf
  refine lv_aload_n hx hb dX9_readings_0 rfl (lv_at hl 0 rfl) ?_
  refine lv_iload_n hx hb dX9_readings_1 rfl (lv_at hl 1 rfl) ?_
  obtain ⟨r1, X2, h3, hf⟩ := b2_in hf
  refine r_cVq (rest := []) C hP hS hl.1 (s_X9_leafOf hW hD0 ha_l0 h3) ix_X9_leafOf iv_X9_leafOf lk_X9_179 ⟨rfl, rfl, Nat.le_of_ble_eq_true rfl, Nat.le_of_ble_eq_true rfl⟩ ha_l0 (ct_0 _ _ _ _) rfl rfl rfl rfl (Nat.le_of_ble_eq_true rfl) ⟨Nat.zero_le _, Nat.zero_le _⟩ dX9_readings_2 (fun H locs hP hS => ?_)
  refine r_astore (i := 4) (lv' := [(4, va_rf (ro ad 5 r1)), (0, .ref (ad 0 0)), (1, .int p1), (2, .int p2), (3, .int p3)]) C dX9_readings_5 hl (Nat.le_of_ble_eq_true rfl) rfl (fun ls hl => ?_)
  refine r_aload C dX9_readings_7 (lv_at hl 0 rfl) ?_
  refine r_ifnull (tgt := 21) C dX9_readings_9 (by decide) (fun c4 => ?_) (fun c4 => ?_)
  · have hf := g_ip c4 hf
    exact s_X9_readings_J21 CX hW hD0 X2 _ _ _ hP hS (lv_sub hl [] rfl) hf
  · have hf := g_in c4 hf
    refine r_aload C dX9_readings_12 (lv_at hl 0 rfl) ?_
    refine lv_iload_n hx hb dX9_readings_14 rfl (lv_at hl 3 rfl) ?_
    obtain ⟨j5, h6, hf⟩ := dr_in hf
    rw [gref h6]
    obtain ⟨r7, X8, h9, hf⟩ := b2_in hf
    refine r_cVi (rest := []) C hP hS hl.1 (s_X2_hasLine hW hD0 h6.2.2 h9) ix_X2_hasLine iv_X2_hasLine lk_X9_183 ⟨rfl, rfl, Nat.le_of_ble_eq_true rfl, Nat.le_of_ble_eq_true rfl⟩ h6.2.2 (ct_5 _ _ _ _) rfl rfl rfl rfl (Nat.le_of_ble_eq_true rfl) ⟨Nat.zero_le _, Nat.zero_le _⟩ dX9_readings_15 (fun H locs hP hS => ?_)
    refine lv_if_ne (tgt := 29) hx hb dX9_readings_18 (by decide) (fun c10 => ?_) (fun c10 => ?_)
    · have hf := g_in c10 hf
      refine lv_iload_n hx hb dX9_readings_29 rfl (lv_at hl 4 rfl) ?_
      obtain ⟨r11, X12, h13, hf⟩ := b2_in hf
      refine r_cSi (rest := []) C hP hS hl.1 (s_X9_isLayer hW hD0  h13) ix_X9_isLayer is_X9_isLayer ls_X9_186 ⟨rfl, rfl, Nat.le_of_ble_eq_true rfl, Nat.le_of_ble_eq_true rfl⟩ rfl rfl (Nat.le_of_ble_eq_true rfl) ⟨Nat.zero_le _, Nat.zero_le _⟩ dX9_readings_30 (fun H locs hP hS => ?_)
      refine lv_if_ne (tgt := 44) hx hb dX9_readings_33 (by decide) (fun c14 => ?_) (fun c14 => ?_)
      · have hf := g_in c14 hf
        refine lv_aload_n hx hb dX9_readings_44 rfl (lv_at hl 1 rfl) ?_
        refine r_get C hP ha_l0 (ct_0 _ _ _ _) fx_X9_67 (fg_0_12 _ _ _) dX9_readings_45 ?_
        refine r_aload C dX9_readings_48 (lv_at hl 0 rfl) ?_
        rw [gref h6]
        refine lv_iload_n hx hb dX9_readings_50 rfl (lv_at hl 3 rfl) ?_
        refine lv_iload_n hx hb dX9_readings_51 rfl (lv_at hl 4 rfl) ?_
        refine lv_aload_n hx hb dX9_readings_52 rfl (lv_at hl 1 rfl) ?_
        refine r_get C hP ha_l0 (ct_0 _ _ _ _) fx_X9_51 (fg_0_8 _ _ _) dX9_readings_53 ?_
        obtain ⟨r15, X16, h17, hf⟩ := b2_in hf
        refine r_cVv (rest := []) C hP hS hl.1 (s_X6_read hW hD0 (gs_0_12 hW ha_l0) h6.2.2 (gs_0_8 hW ha_l0) h17) ix_X6_read iv_X6_read lk_X9_189 ⟨rfl, rfl, Nat.le_of_ble_eq_true rfl, Nat.le_of_ble_eq_true rfl⟩ (gs_0_12 hW ha_l0) (ct_29 _ _ _ _) rfl rfl rfl rfl (Nat.le_of_ble_eq_true rfl) ⟨Nat.zero_le _, Nat.zero_le _⟩ dX9_readings_56 (fun H locs hP hS => ?_)
        refine lv_aload_n hx hb dX9_readings_59 rfl (lv_at hl 1 rfl) ?_
        refine r_get C hP ha_l0 (ct_0 _ _ _ _) fx_X9_67 (fg_0_12 _ _ _) dX9_readings_60 ?_
        obtain ⟨r18, X19, h20, hf⟩ := b2_in hf
        refine r_cVi (rest := []) C hP hS hl.1 (s_X6_bestCount hW hD0 (gs_0_12 hW ha_l0) h20) ix_X6_bestCount iv_X6_bestCount lk_X9_196 ⟨rfl, rfl, Nat.le_of_ble_eq_true rfl, Nat.le_of_ble_eq_true rfl⟩ (gs_0_12 hW ha_l0) (ct_29 _ _ _ _) rfl rfl rfl rfl (Nat.le_of_ble_eq_true rfl) ⟨Nat.zero_le _, Nat.zero_le _⟩ dX9_readings_63 (fun H locs hP hS => ?_)
        obtain ⟨rfl, rfl, rfl⟩ := g_s3 hf
        exact r_iretX CX hP hS dX9_readings_66
      · have hf := g_ip c14 hf
        obtain ⟨rfl, rfl, rfl⟩ := g_s3 hf
        exact r_throw CX hP hS hl.1 th_X9_92_94 dX9_readings_36 dX9_readings_39 dX9_readings_40 dX9_readings_43 ⟨Nat.le_of_ble_eq_true rfl, Nat.le_of_ble_eq_true rfl, Nat.le_of_ble_eq_true rfl, Nat.le_of_ble_eq_true rfl⟩ 
    · have hf := g_ip c10 hf
      exact s_X9_readings_J21 CX hW hD0 X8 _ _ _ hP hS (lv_sub hl [] rfl) hf

theorem s_X9_readings {l : Launch} {D : va_G} {cA : Nat → ClassId} {ad : Nat → Nat → Nat} {NL : List (Nat × Nat)} {N : Nat} {p1 : Int32} {p2 : Int32} {p3 : Int32} {X : gM} {kx : Nat} {rr : Int32} {XX : gM} (htr : l.stackTraces = false) (hW : gWf NL) (hD0 : gD (fun _ => True) ad NL) (ha_l0 : (0, 0) ∈ NL) (hf : X9_readings (gal NL) N p1 p2 p3 X = some (kx, rr, XX)) : gCX l yX9_readings cX9_readings 5 (some .int) rm_X9_readings D cA ad NL [.ref (ad 0 0), .int p1, .int p2, .int p3] X kx (some (.int rr)) XX :=
  g_ofX (by decide) htr hD0 (Nat.le_of_ble_eq_true rfl) rfl (fun p e s m below meth c ls CX hP hS hl => w_X9_readings CX hW hD0 ha_l0 X _ _ ls hP hS hl hf)
def rm_X9_letter : Room := { frames := 6, cells := 1, slots := 6, locals := 101 }
set_option maxRecDepth 100000 in
set_option maxHeartbeats 4000000 in
theorem s_X9_letter_J22 {p : Program} {l : Launch} {e : Env} {s : State} {m : MethodId} {args : Array Value} {below : List Frame} {meth : Method} {c : Code} {D : va_G} {cA : Nat → ClassId} {ad : Nat → Nat → Nat} {NL : List (Nat × Nat)} {A : Nat → Prop} {rr : Int32} {XX : gM} {N : Nat} {kx : Nat} (CX : gCxX p c l meth m s args cX9_letter 6 (some .int) RX9 D cA ad NL A) (hW : gWf NL) (hD0 : gD (fun _ => True) ad NL) : ∀ (X : gM) (H : Heap) (locs : List Loc) (ls : Array Slot), gH D cA ad NL X H → va_S A s.heap H locs → lv_has ls 6 [] → X9_letter_J22 (gal NL) N X = some (kx, rr, XX) → W p l e rm_X9_letter s m args below meth c H locs 0 0 (vx_MQ below (gQx D cA ad NL kx (some (.int rr)) XX A) (gXx D cA ad NL kx XX A) args s 1 6 A) (F0 m 22 ls []) := by
  have C := CX.1
  have hx := C.1
  have hb := C.2.1
  intro X H locs ls hP hS hl hf
  rw [X9_letter_J22] at hf
  obtain ⟨rfl, rfl, rfl⟩ := g_s3 hf
  exact r_throw CX hP hS hl.1 th_X9_85_87 dX9_letter_22 dX9_letter_25 dX9_letter_26 dX9_letter_29 ⟨Nat.le_of_ble_eq_true rfl, Nat.le_of_ble_eq_true rfl, Nat.le_of_ble_eq_true rfl, Nat.le_of_ble_eq_true rfl⟩ 

set_option maxRecDepth 100000 in
set_option maxHeartbeats 4000000 in
theorem w_X9_letter {p : Program} {l : Launch} {e : Env} {s : State} {m : MethodId} {args : Array Value} {below : List Frame} {meth : Method} {c : Code} {D : va_G} {cA : Nat → ClassId} {ad : Nat → Nat → Nat} {NL : List (Nat × Nat)} {A : Nat → Prop} {rr : Int32} {XX : gM} {N : Nat} {kx : Nat} (CX : gCxX p c l meth m s args cX9_letter 6 (some .int) RX9 D cA ad NL A) (hW : gWf NL) (hD0 : gD (fun _ => True) ad NL) {p1 : Int32} {p2 : Int32} {p3 : Int32} {p4 : Int32} (ha_l0 : (0, 0) ∈ NL) : ∀ (X : gM) (H : Heap) (locs : List Loc) (ls : Array Slot), gH D cA ad NL X H → va_S A s.heap H locs → lv_has ls 6 [(0, .ref (ad 0 0)), (1, .int p1), (2, .int p2), (3, .int p3), (4, .int p4)] → X9_letter (gal NL) N p1 p2 p3 p4 X = some (kx, rr, XX) → W p l e rm_X9_letter s m args below meth c H locs 0 0 (vx_MQ below (gQx D cA ad NL kx (some (.int rr)) XX A) (gXx D cA ad NL kx XX A) args s 1 6 A) (F0 m 0 ls []) := by
  have C := CX.1
  have hx := C.1
  have hb := C.2.1
  intro X H locs ls hP hS hl hf
  rw [X9_letter] at hf
  refine lv_aload_n hx hb dX9_letter_0 rfl (lv_at hl 0 rfl) ?_
  refine lv_iload_n hx hb dX9_letter_1 rfl (lv_at hl 1 rfl) ?_
  obtain ⟨r1, X2, h3, hf⟩ := b2_in hf
  refine r_cVq (rest := []) C hP hS hl.1 (s_X9_leafOf hW hD0 ha_l0 h3) ix_X9_leafOf iv_X9_leafOf lk_X9_179 ⟨rfl, rfl, Nat.le_of_ble_eq_true rfl, Nat.le_of_ble_eq_true rfl⟩ ha_l0 (ct_0 _ _ _ _) rfl rfl rfl rfl (Nat.le_of_ble_eq_true rfl) ⟨Nat.zero_le _, Nat.zero_le _⟩ dX9_letter_2 (fun H locs hP hS => ?_)
  refine r_astore (i := 5) (lv' := [(5, va_rf (ro ad 5 r1)), (0, .ref (ad 0 0)), (1, .int p1), (2, .int p2), (3, .int p3), (4, .int p4)]) C dX9_letter_5 hl (Nat.le_of_ble_eq_true rfl) rfl (fun ls hl => ?_)
  refine r_aload C dX9_letter_7 (lv_at hl 0 rfl) ?_
  refine r_ifnull (tgt := 22) C dX9_letter_9 (by decide) (fun c4 => ?_) (fun c4 => ?_)
  · have hf := g_ip c4 hf
    exact s_X9_letter_J22 CX hW hD0 X2 _ _ _ hP hS (lv_sub hl [] rfl) hf
  · have hf := g_in c4 hf
    refine r_aload C dX9_letter_12 (lv_at hl 0 rfl) ?_
    refine lv_iload_n hx hb dX9_letter_14 rfl (lv_at hl 3 rfl) ?_
    refine lv_iload_n hx hb dX9_letter_15 rfl (lv_at hl 4 rfl) ?_
    obtain ⟨j5, h6, hf⟩ := dr_in hf
    rw [gref h6]
    obtain ⟨r7, X8, h9, hf⟩ := b2_in hf
    refine r_cVq (rest := []) C hP hS hl.1 (s_X2_cellAt hW hD0 h6.2.2 h9) ix_X2_cellAt iv_X2_cellAt lk_X9_199 ⟨rfl, rfl, Nat.le_of_ble_eq_true rfl, Nat.le_of_ble_eq_true rfl⟩ h6.2.2 (ct_5 _ _ _ _) rfl rfl rfl rfl (Nat.le_of_ble_eq_true rfl) ⟨Nat.zero_le _, Nat.zero_le _⟩ dX9_letter_16 (fun H locs hP hS => ?_)
    refine r_ifnonnull (tgt := 30) C dX9_letter_19 (by decide) (fun c10 => ?_) (fun c10 => ?_)
    · have hf := g_ip c10 hf
      exact s_X9_letter_J22 CX hW hD0 X8 _ _ _ hP hS (lv_sub hl [] rfl) hf
    · have hf := g_in c10 hf
      refine lv_iload hx hb dX9_letter_30 (lv_at hl 5 rfl) ?_
      obtain ⟨r11, X12, h13, hf⟩ := b2_in hf
      refine r_cSi (rest := []) C hP hS hl.1 (s_X9_isLayer hW hD0  h13) ix_X9_isLayer is_X9_isLayer ls_X9_186 ⟨rfl, rfl, Nat.le_of_ble_eq_true rfl, Nat.le_of_ble_eq_true rfl⟩ rfl rfl (Nat.le_of_ble_eq_true rfl) ⟨Nat.zero_le _, Nat.zero_le _⟩ dX9_letter_32 (fun H locs hP hS => ?_)
      refine lv_if_ne (tgt := 46) hx hb dX9_letter_35 (by decide) (fun c14 => ?_) (fun c14 => ?_)
      · have hf := g_in c14 hf
        refine lv_aload_n hx hb dX9_letter_46 rfl (lv_at hl 1 rfl) ?_
        refine r_get C hP ha_l0 (ct_0 _ _ _ _) fx_X9_67 (fg_0_12 _ _ _) dX9_letter_47 ?_
        refine r_aload C dX9_letter_50 (lv_at hl 0 rfl) ?_
        rw [gref h6]
        refine lv_iload_n hx hb dX9_letter_52 rfl (lv_at hl 3 rfl) ?_
        refine lv_iload hx hb dX9_letter_53 (lv_at hl 5 rfl) ?_
        refine lv_aload_n hx hb dX9_letter_55 rfl (lv_at hl 1 rfl) ?_
        refine r_get C hP ha_l0 (ct_0 _ _ _ _) fx_X9_51 (fg_0_8 _ _ _) dX9_letter_56 ?_
        obtain ⟨r15, X16, h17, hf⟩ := b2_in hf
        refine r_cVv (rest := []) C hP hS hl.1 (s_X6_read hW hD0 (gs_0_12 hW ha_l0) h6.2.2 (gs_0_8 hW ha_l0) h17) ix_X6_read iv_X6_read lk_X9_189 ⟨rfl, rfl, Nat.le_of_ble_eq_true rfl, Nat.le_of_ble_eq_true rfl⟩ (gs_0_12 hW ha_l0) (ct_29 _ _ _ _) rfl rfl rfl rfl (Nat.le_of_ble_eq_true rfl) ⟨Nat.zero_le _, Nat.zero_le _⟩ dX9_letter_59 (fun H locs hP hS => ?_)
        refine lv_aload_n hx hb dX9_letter_62 rfl (lv_at hl 1 rfl) ?_
        refine r_get C hP ha_l0 (ct_0 _ _ _ _) fx_X9_67 (fg_0_12 _ _ _) dX9_letter_63 ?_
        refine lv_iload_n hx hb dX9_letter_66 rfl (lv_at hl 4 rfl) ?_
        obtain ⟨r18, X19, h20, hf⟩ := b2_in hf
        refine r_cVi (rest := []) C hP hS hl.1 (s_X6_firstLetter hW hD0 (gs_0_12 hW ha_l0) h20) ix_X6_firstLetter iv_X6_firstLetter lk_X9_203 ⟨rfl, rfl, Nat.le_of_ble_eq_true rfl, Nat.le_of_ble_eq_true rfl⟩ (gs_0_12 hW ha_l0) (ct_29 _ _ _ _) rfl rfl rfl rfl (Nat.le_of_ble_eq_true rfl) ⟨Nat.zero_le _, Nat.zero_le _⟩ dX9_letter_67 (fun H locs hP hS => ?_)
        obtain ⟨rfl, rfl, rfl⟩ := g_s3 hf
        exact r_iretX CX hP hS dX9_letter_70
      · have hf := g_ip c14 hf
        obtain ⟨rfl, rfl, rfl⟩ := g_s3 hf
        exact r_throw CX hP hS hl.1 th_X9_92_94 dX9_letter_38 dX9_letter_41 dX9_letter_42 dX9_letter_45 ⟨Nat.le_of_ble_eq_true rfl, Nat.le_of_ble_eq_true rfl, Nat.le_of_ble_eq_true rfl, Nat.le_of_ble_eq_true rfl⟩ 

theorem s_X9_letter {l : Launch} {D : va_G} {cA : Nat → ClassId} {ad : Nat → Nat → Nat} {NL : List (Nat × Nat)} {N : Nat} {p1 : Int32} {p2 : Int32} {p3 : Int32} {p4 : Int32} {X : gM} {kx : Nat} {rr : Int32} {XX : gM} (htr : l.stackTraces = false) (hW : gWf NL) (hD0 : gD (fun _ => True) ad NL) (ha_l0 : (0, 0) ∈ NL) (hf : X9_letter (gal NL) N p1 p2 p3 p4 X = some (kx, rr, XX)) : gCX l yX9_letter cX9_letter 6 (some .int) rm_X9_letter D cA ad NL [.ref (ad 0 0), .int p1, .int p2, .int p3, .int p4] X kx (some (.int rr)) XX :=
  g_ofX (by decide) htr hD0 (Nat.le_of_ble_eq_true rfl) rfl (fun p e s m below meth c ls CX hP hS hl => w_X9_letter CX hW hD0 ha_l0 X _ _ ls hP hS hl hf)
def rm_X9_hold : Room := { frames := 6, cells := 1, slots := 6, locals := 89 }
set_option maxRecDepth 100000 in
set_option maxHeartbeats 4000000 in
theorem w_X9_hold {p : Program} {l : Launch} {e : Env} {s : State} {m : MethodId} {args : Array Value} {below : List Frame} {meth : Method} {c : Code} {D : va_G} {cA : Nat → ClassId} {ad : Nat → Nat → Nat} {NL : List (Nat × Nat)} {A : Nat → Prop} {rr : Int32} {XX : gM} {N : Nat} {kx : Nat} (CX : gCxX p c l meth m s args cX9_hold 5 (some .boolean) RX9 D cA ad NL A) (hW : gWf NL) (hD0 : gD (fun _ => True) ad NL) {p1 : Int32} {p2 : Int32} (ha_l0 : (0, 0) ∈ NL) : ∀ (X : gM) (H : Heap) (locs : List Loc) (ls : Array Slot), gH D cA ad NL X H → va_S A s.heap H locs → lv_has ls 5 [(0, .ref (ad 0 0)), (1, .int p1), (2, .int p2)] → X9_hold (gal NL) N p1 p2 X = some (kx, rr, XX) → W p l e rm_X9_hold s m args below meth c H locs 0 0 (vx_MQ below (gQx D cA ad NL kx (some (.int rr)) XX A) (gXx D cA ad NL kx XX A) args s 1 6 A) (F0 m 0 ls []) := by
  have C := CX.1
  have hx := C.1
  have hb := C.2.1
  intro X H locs ls hP hS hl hf
  rw [X9_hold] at hf
  refine lv_iload_n hx hb dX9_hold_0 rfl (lv_at hl 1 rfl) ?_
  refine lv_iconst (v := 0) hx hb dX9_hold_1 (by decide) ?_
  refine lv_aload_n hx hb dX9_hold_2 rfl (lv_at hl 0 rfl) ?_
  refine r_get C hP ha_l0 (ct_0 _ _ _ _) fx_X9_35 (fg_0_4 _ _ _) dX9_hold_3 ?_
  refine r_alen C hP 12 (gs_0_4 hW ha_l0) (ct_22 _ _ _ _) rfl rfl dX9_hold_6 ?_
  refine lv_iconst (v := 1) hx hb dX9_hold_7 (by decide) ?_
  refine lv_isub hx hb dX9_hold_8 ?_
  obtain ⟨r1, X2, h3, hf⟩ := b2_in hf
  refine r_cSi (rest := []) C hP hS hl.1 (s_X9_isWithin hW hD0  h3) ix_X9_isWithin is_X9_isWithin ls_X9_88 ⟨rfl, rfl, Nat.le_of_ble_eq_true rfl, Nat.le_of_ble_eq_true rfl⟩ rfl rfl (Nat.le_of_ble_eq_true rfl) ⟨Nat.zero_le _, Nat.zero_le _⟩ dX9_hold_9 (fun H locs hP hS => ?_)
  refine lv_if_ne (tgt := 23) hx hb dX9_hold_12 (by decide) (fun c4 => ?_) (fun c4 => ?_)
  · have hf := g_in c4 hf
    refine lv_aload_n hx hb dX9_hold_23 rfl (lv_at hl 0 rfl) ?_
    refine r_get C hP ha_l0 (ct_0 _ _ _ _) fx_X9_35 (fg_0_4 _ _ _) dX9_hold_24 ?_
    refine lv_iload_n hx hb dX9_hold_27 rfl (lv_at hl 1 rfl) ?_
    obtain ⟨j5, h6, hf⟩ := rd_in hf
    refine r_aldq C hP (gs_0_4 hW ha_l0) (ct_22 _ _ _ _) rfl h6 dX9_hold_28 ?_
    refine r_astoren (i := 3) (lv' := [(3, va_rf (ro ad 23 (X2 22 0 j5))), (0, .ref (ad 0 0)), (1, .int p1), (2, .int p2)]) C dX9_hold_29 rfl hl (Nat.le_of_ble_eq_true rfl) rfl (fun ls hl => ?_)
    refine r_aloadn C dX9_hold_30 rfl (lv_at hl 0 rfl) ?_
    refine r_ifnonnull (tgt := 42) C dX9_hold_31 (by decide) (fun c7 => ?_) (fun c7 => ?_)
    · have hf := g_ip c7 hf
      obtain ⟨rfl, rfl, rfl⟩ := g_s3 hf
      exact r_throw CX hP hS hl.1 th_X9_85_87 dX9_hold_34 dX9_hold_37 dX9_hold_38 dX9_hold_41 ⟨Nat.le_of_ble_eq_true rfl, Nat.le_of_ble_eq_true rfl, Nat.le_of_ble_eq_true rfl, Nat.le_of_ble_eq_true rfl⟩ 
    · have hf := g_in c7 hf
      refine r_aloadn C dX9_hold_42 rfl (lv_at hl 0 rfl) ?_
      obtain ⟨j8, h9, hf⟩ := dr_in hf
      rw [gref h9]
      refine r_get C hP h9.2.2 (ct_23 _ _ _ _) fx_X9_217 (fg_23_6 _ _ _) dX9_hold_43 ?_
      refine g_top hf (fun v10 e11 hf => ?_)
      refine lv_istore (i := 4) (lv' := [(4, .int v10), (3, va_rf (ro ad 23 (X2 22 0 j5))), (0, .ref (ad 0 0)), (1, .int p1), (2, .int p2)]) hx hb dX9_hold_46 hl (Nat.le_of_ble_eq_true rfl) (by simp [g_cat, g_catr, g_cati]) (fun ls hl => ?_)
      refine r_aloadn C dX9_hold_48 rfl (lv_at hl 1 rfl) ?_
      rw [gref h9]
      refine lv_iload_n hx hb dX9_hold_49 rfl (lv_at hl 4 rfl) ?_
      obtain ⟨h14, hf⟩ := bz_in hf
      refine r_put C hP hS p2 h9.2.2 (ct_23 _ _ _ _) px_X9_217 (fp_23_6 _ _ _ _ _) (Nat.le_of_ble_eq_true rfl) (nar_z h14) (fit_z h14) dX9_hold_50 (fun H locs hP hS => ?_)
      obtain ⟨X12, e13, hf⟩ := gl_in hf
      rw [← e13] at hP
      refine r_aloadn C dX9_hold_53 rfl (lv_at hl 1 rfl) ?_
      rw [gref h9]
      refine r_get C hP h9.2.2 (ct_23 _ _ _ _) fx_X9_221 (fg_23_1 _ _ _) dX9_hold_54 ?_
      obtain ⟨j16, h17, hf⟩ := dr_in hf
      rw [gref h17]
      obtain ⟨r18, X19, h20, hf⟩ := b2_in hf
      refine r_cVv (rest := []) C hP hS hl.1 (s_X5_forget hW hD0 h17.2.2 h20) ix_X5_forget iv_X5_forget lk_X9_124 ⟨rfl, rfl, Nat.le_of_ble_eq_true rfl, Nat.le_of_ble_eq_true rfl⟩ h17.2.2 (ct_12 _ _ _ _) rfl rfl rfl rfl (Nat.le_of_ble_eq_true rfl) ⟨Nat.zero_le _, Nat.zero_le _⟩ dX9_hold_57 (fun H locs hP hS => ?_)
      refine lv_iload hx hb dX9_hold_60 (lv_at hl 0 rfl) ?_
      obtain ⟨h21, hf⟩ := bz_in hf
      obtain ⟨rfl, rfl, rfl⟩ := g_s3 hf
      exact r_zretX CX hP hS h21 dX9_hold_62
  · have hf := g_ip c4 hf
    obtain ⟨rfl, rfl, rfl⟩ := g_s3 hf
    exact r_throw CX hP hS hl.1 th_X9_85_87 dX9_hold_15 dX9_hold_18 dX9_hold_19 dX9_hold_22 ⟨Nat.le_of_ble_eq_true rfl, Nat.le_of_ble_eq_true rfl, Nat.le_of_ble_eq_true rfl, Nat.le_of_ble_eq_true rfl⟩ 

theorem s_X9_hold {l : Launch} {D : va_G} {cA : Nat → ClassId} {ad : Nat → Nat → Nat} {NL : List (Nat × Nat)} {N : Nat} {p1 : Int32} {p2 : Int32} {X : gM} {kx : Nat} {rr : Int32} {XX : gM} (htr : l.stackTraces = false) (hW : gWf NL) (hD0 : gD (fun _ => True) ad NL) (ha_l0 : (0, 0) ∈ NL) (hf : X9_hold (gal NL) N p1 p2 X = some (kx, rr, XX)) : gCX l yX9_hold cX9_hold 5 (some .boolean) rm_X9_hold D cA ad NL [.ref (ad 0 0), .int p1, .int p2] X kx (some (.int rr)) XX :=
  g_ofX (by decide) htr hD0 (Nat.le_of_ble_eq_true rfl) rfl (fun p e s m below meth c ls CX hP hS hl => w_X9_hold CX hW hD0 ha_l0 X _ _ ls hP hS hl hf)
def rm_X9_arrangements : Room := { frames := 15, cells := 1, slots := 6, locals := 423 }
set_option maxRecDepth 100000 in
set_option maxHeartbeats 4000000 in
theorem w_X9_arrangements {p : Program} {l : Launch} {e : Env} {s : State} {m : MethodId} {args : Array Value} {below : List Frame} {meth : Method} {c : Code} {D : va_G} {cA : Nat → ClassId} {ad : Nat → Nat → Nat} {NL : List (Nat × Nat)} {A : Nat → Prop} {rr : Int32} {XX : gM} {N : Nat} {kx : Nat} (CX : gCxX p c l meth m s args cX9_arrangements 4 (some .int) RX9 D cA ad NL A) (hW : gWf NL) (hD0 : gD (fun _ => True) ad NL) {p1 : Int32} {p2 : Int32} (ha_l0 : (0, 0) ∈ NL) : ∀ (X : gM) (H : Heap) (locs : List Loc) (ls : Array Slot), gH D cA ad NL X H → va_S A s.heap H locs → lv_has ls 4 [(0, .ref (ad 0 0)), (1, .int p1), (2, .int p2)] → X9_arrangements (gal NL) N p1 p2 X = some (kx, rr, XX) → W p l e rm_X9_arrangements s m args below meth c H locs 0 0 (vx_MQ below (gQx D cA ad NL kx (some (.int rr)) XX A) (gXx D cA ad NL kx XX A) args s 1 6 A) (F0 m 0 ls []) := by
  have C := CX.1
  have hx := C.1
  have hb := C.2.1
  intro X H locs ls hP hS hl hf
  rw [X9_arrangements] at hf
  refine lv_aload_n hx hb dX9_arrangements_0 rfl (lv_at hl 0 rfl) ?_
  refine lv_iload_n hx hb dX9_arrangements_1 rfl (lv_at hl 1 rfl) ?_
  obtain ⟨r1, X2, h3, hf⟩ := b2_in hf
  refine r_cVq (rest := []) C hP hS hl.1 (s_X9_quireOf hW hD0 ha_l0 h3) ix_X9_quireOf iv_X9_quireOf lk_X9_81 ⟨rfl, rfl, Nat.le_of_ble_eq_true rfl, Nat.le_of_ble_eq_true rfl⟩ ha_l0 (ct_0 _ _ _ _) rfl rfl rfl rfl (Nat.le_of_ble_eq_true rfl) ⟨Nat.zero_le _, Nat.zero_le _⟩ dX9_arrangements_2 (fun H locs hP hS => ?_)
  refine r_astoren (i := 3) (lv' := [(3, va_rf (ro ad 12 r1)), (0, .ref (ad 0 0)), (1, .int p1), (2, .int p2)]) C dX9_arrangements_5 rfl hl (Nat.le_of_ble_eq_true rfl) rfl (fun ls hl => ?_)
  refine r_aloadn C dX9_arrangements_6 rfl (lv_at hl 0 rfl) ?_
  refine r_ifnonnull (tgt := 18) C dX9_arrangements_7 (by decide) (fun c4 => ?_) (fun c4 => ?_)
  · have hf := g_ip c4 hf
    obtain ⟨rfl, rfl, rfl⟩ := g_s3 hf
    exact r_throw CX hP hS hl.1 th_X9_85_87 dX9_arrangements_10 dX9_arrangements_13 dX9_arrangements_14 dX9_arrangements_17 ⟨Nat.le_of_ble_eq_true rfl, Nat.le_of_ble_eq_true rfl, Nat.le_of_ble_eq_true rfl, Nat.le_of_ble_eq_true rfl⟩ 
  · have hf := g_in c4 hf
    refine r_aloadn C dX9_arrangements_18 rfl (lv_at hl 0 rfl) ?_
    refine lv_iload_n hx hb dX9_arrangements_19 rfl (lv_at hl 3 rfl) ?_
    refine lv_aload_n hx hb dX9_arrangements_20 rfl (lv_at hl 1 rfl) ?_
    refine r_get C hP ha_l0 (ct_0 _ _ _ _) fx_X9_35 (fg_0_4 _ _ _) dX9_arrangements_21 ?_
    obtain ⟨j5, h6, hf⟩ := dr_in hf
    rw [gref h6]
    obtain ⟨r7, X8, h9, hf⟩ := b2_in hf
    refine r_cVq (rest := []) C hP hS hl.1 (s_X5_surveyed hW hD0 h6.2.2 (gs_0_4 hW ha_l0) h9) ix_X5_surveyed iv_X5_surveyed lk_X9_222 ⟨rfl, rfl, Nat.le_of_ble_eq_true rfl, Nat.le_of_ble_eq_true rfl⟩ h6.2.2 (ct_12 _ _ _ _) rfl rfl rfl rfl (Nat.le_of_ble_eq_true rfl) ⟨Nat.zero_le _, Nat.zero_le _⟩ dX9_arrangements_24 (fun H locs hP hS => ?_)
    obtain ⟨j10, h11, hf⟩ := dr_in hf
    rw [gref h11]
    refine r_get C hP h11.2.2 (ct_14 _ _ _ _) fx_X9_226 (fg_14_3 _ _ _) dX9_arrangements_27 ?_
    obtain ⟨rfl, rfl, rfl⟩ := g_s3 hf
    exact r_iretX CX hP hS dX9_arrangements_30

theorem s_X9_arrangements {l : Launch} {D : va_G} {cA : Nat → ClassId} {ad : Nat → Nat → Nat} {NL : List (Nat × Nat)} {N : Nat} {p1 : Int32} {p2 : Int32} {X : gM} {kx : Nat} {rr : Int32} {XX : gM} (htr : l.stackTraces = false) (hW : gWf NL) (hD0 : gD (fun _ => True) ad NL) (ha_l0 : (0, 0) ∈ NL) (hf : X9_arrangements (gal NL) N p1 p2 X = some (kx, rr, XX)) : gCX l yX9_arrangements cX9_arrangements 4 (some .int) rm_X9_arrangements D cA ad NL [.ref (ad 0 0), .int p1, .int p2] X kx (some (.int rr)) XX :=
  g_ofX (by decide) htr hD0 (Nat.le_of_ble_eq_true rfl) rfl (fun p e s m below meth c ls CX hP hS hl => w_X9_arrangements CX hW hD0 ha_l0 X _ _ ls hP hS hl hf)
