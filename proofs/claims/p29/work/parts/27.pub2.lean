def rm_X9_places : Room := { frames := 16, cells := 1, slots := 6, locals := 445 }
set_option maxRecDepth 100000 in
set_option maxHeartbeats 4000000 in
theorem w_X9_places {p : Program} {l : Launch} {e : Env} {s : State} {m : MethodId} {args : Array Value} {below : List Frame} {meth : Method} {c : Code} {D : va_G} {cA : Nat → ClassId} {ad : Nat → Nat → Nat} {NL : List (Nat × Nat)} {A : Nat → Prop} {rr : Int32} {XX : gM} {N : Nat} {kx : Nat} (CX : gCxX p c l meth m s args cX9_places 4 (some .int) RX9 D cA ad NL A) (hW : gWf NL) (hD0 : gD (fun _ => True) ad NL) {p1 : Int32} {p2 : Int32} (ha_l0 : (0, 0) ∈ NL) : ∀ (X : gM) (H : Heap) (locs : List Loc) (ls : Array Slot), gH D cA ad NL X H → va_S A s.heap H locs → lv_has ls 4 [(0, .ref (ad 0 0)), (1, .int p1), (2, .int p2)] → X9_places (gal NL) N p1 p2 X = some (kx, rr, XX) → W p l e rm_X9_places s m args below meth c H locs 0 0 (vx_MQ below (gQx D cA ad NL kx (some (.int rr)) XX A) (gXx D cA ad NL kx XX A) args s 1 6 A) (F0 m 0 ls []) := by
  have C := CX.1
  have hx := C.1
  have hb := C.2.1
  intro X H locs ls hP hS hl hf
  rw [X9_places] at hf
  refine lv_aload_n hx hb dX9_places_0 rfl (lv_at hl 0 rfl) ?_
  refine lv_iload_n hx hb dX9_places_1 rfl (lv_at hl 1 rfl) ?_
  obtain ⟨r1, X2, h3, hf⟩ := b2_in hf
  refine r_cVq (rest := []) C hP hS hl.1 (s_X9_leafOf hW hD0 ha_l0 h3) ix_X9_leafOf iv_X9_leafOf lk_X9_179 ⟨rfl, rfl, Nat.le_of_ble_eq_true rfl, Nat.le_of_ble_eq_true rfl⟩ ha_l0 (ct_0 _ _ _ _) rfl rfl rfl rfl (Nat.le_of_ble_eq_true rfl) ⟨Nat.zero_le _, Nat.zero_le _⟩ dX9_places_2 (fun H locs hP hS => ?_)
  refine r_astoren (i := 3) (lv' := [(3, va_rf (ro ad 5 r1)), (0, .ref (ad 0 0)), (1, .int p1), (2, .int p2)]) C dX9_places_5 rfl hl (Nat.le_of_ble_eq_true rfl) rfl (fun ls hl => ?_)
  refine r_aloadn C dX9_places_6 rfl (lv_at hl 0 rfl) ?_
  refine r_ifnonnull (tgt := 18) C dX9_places_7 (by decide) (fun c4 => ?_) (fun c4 => ?_)
  · have hf := g_ip c4 hf
    obtain ⟨rfl, rfl, rfl⟩ := g_s3 hf
    exact r_throw CX hP hS hl.1 th_X9_85_87 dX9_places_10 dX9_places_13 dX9_places_14 dX9_places_17 ⟨Nat.le_of_ble_eq_true rfl, Nat.le_of_ble_eq_true rfl, Nat.le_of_ble_eq_true rfl, Nat.le_of_ble_eq_true rfl⟩ 
  · have hf := g_in c4 hf
    refine lv_aload_n hx hb dX9_places_18 rfl (lv_at hl 1 rfl) ?_
    refine r_aloadn C dX9_places_19 rfl (lv_at hl 0 rfl) ?_
    refine lv_iload_n hx hb dX9_places_20 rfl (lv_at hl 3 rfl) ?_
    obtain ⟨j5, h6, hf⟩ := dr_in hf
    rw [gref h6]
    obtain ⟨r7, X8, h9, hf⟩ := b2_in hf
    refine r_cVi (rest := []) C hP hS hl.1 (s_X9_placesOf hW hD0 ha_l0 h6.2.2 h9) ix_X9_placesOf iv_X9_placesOf lk_X9_231 ⟨rfl, rfl, Nat.le_of_ble_eq_true rfl, Nat.le_of_ble_eq_true rfl⟩ ha_l0 (ct_0 _ _ _ _) rfl rfl rfl rfl (Nat.le_of_ble_eq_true rfl) ⟨Nat.zero_le _, Nat.zero_le _⟩ dX9_places_21 (fun H locs hP hS => ?_)
    obtain ⟨rfl, rfl, rfl⟩ := g_s3 hf
    exact r_iretX CX hP hS dX9_places_24

theorem s_X9_places {l : Launch} {D : va_G} {cA : Nat → ClassId} {ad : Nat → Nat → Nat} {NL : List (Nat × Nat)} {N : Nat} {p1 : Int32} {p2 : Int32} {X : gM} {kx : Nat} {rr : Int32} {XX : gM} (htr : l.stackTraces = false) (hW : gWf NL) (hD0 : gD (fun _ => True) ad NL) (ha_l0 : (0, 0) ∈ NL) (hf : X9_places (gal NL) N p1 p2 X = some (kx, rr, XX)) : gCX l yX9_places cX9_places 4 (some .int) rm_X9_places D cA ad NL [.ref (ad 0 0), .int p1, .int p2] X kx (some (.int rr)) XX :=
  g_ofX (by decide) htr hD0 (Nat.le_of_ble_eq_true rfl) rfl (fun p e s m below meth c ls CX hP hS hl => w_X9_places CX hW hD0 ha_l0 X _ _ ls hP hS hl hf)
def rm_X9_hand : Room := { frames := 6, cells := 1, slots := 6, locals := 93 }
set_option maxRecDepth 100000 in
set_option maxHeartbeats 4000000 in
theorem s_X9_hand_J170 {p : Program} {l : Launch} {e : Env} {s : State} {m : MethodId} {args : Array Value} {below : List Frame} {meth : Method} {c : Code} {D : va_G} {cA : Nat → ClassId} {ad : Nat → Nat → Nat} {NL : List (Nat × Nat)} {A : Nat → Prop} {rr : Int32} {XX : gM} {N : Nat} {kx : Nat} (CX : gCxX p c l meth m s args cX9_hand 12 (some .int) RX9 D cA ad NL A) (hW : gWf NL) (hD0 : gD (fun _ => True) ad NL) : ∀ (p7 : Int32) (X : gM) (H : Heap) (locs : List Loc) (ls : Array Slot), gH D cA ad NL X H → va_S A s.heap H locs → lv_has ls 12 [(7, .int p7)] → X9_hand_J170 (gal NL) N p7 X = some (kx, rr, XX) → W p l e rm_X9_hand s m args below meth c H locs 0 0 (vx_MQ below (gQx D cA ad NL kx (some (.int rr)) XX A) (gXx D cA ad NL kx XX A) args s 1 6 A) (F0 m 170 ls []) := by
  have C := CX.1
  have hx := C.1
  have hb := C.2.1
  intro p7 X H locs ls hP hS hl hf
  rw [X9_hand_J170] at hf
  refine lv_iload hx hb dX9_hand_170 (lv_at hl 0 rfl) ?_
  obtain ⟨rfl, rfl, rfl⟩ := g_s3 hf
  exact r_iretX CX hP hS dX9_hand_172

set_option maxRecDepth 100000 in
set_option maxHeartbeats 4000000 in
theorem s_X9_hand_J164 {p : Program} {l : Launch} {e : Env} {s : State} {m : MethodId} {args : Array Value} {below : List Frame} {meth : Method} {c : Code} {D : va_G} {cA : Nat → ClassId} {ad : Nat → Nat → Nat} {NL : List (Nat × Nat)} {A : Nat → Prop} {rr : Int32} {XX : gM} {N : Nat} {kx : Nat} {kk : Int32 → Int32 → Int32 → gM → Option (Nat × Int32 × gM)} {k170 : Int32 → gM → Option (Nat × Int32 × gM)} (CX : gCxX p c l meth m s args cX9_hand 12 (some .int) RX9 D cA ad NL A) (hW : gWf NL) (hD0 : gD (fun _ => True) ad NL) (hkk : ∀ (p7 : Int32) (p9 : Int32) (p10 : Int32) (Y : gM) (H : Heap) (locs : List Loc) (ls : Array Slot), gH D cA ad NL Y H → va_S A s.heap H locs → lv_has ls 12 [(0, .ref (ad 0 0)), (7, .int p7), (8, .ref (ad 4 0)), (9, .int p9), (10, .int p10)] → (0, 0) ∈ NL → (4, 0) ∈ NL → kk p7 p9 p10 Y = some (kx, rr, XX) → W p l e rm_X9_hand s m args below meth c H locs 0 0 (vx_MQ below (gQx D cA ad NL kx (some (.int rr)) XX A) (gXx D cA ad NL kx XX A) args s 1 6 A) (F0 m 124 ls [])) (hk170 : ∀ (p7 : Int32) (Y : gM) (H : Heap) (locs : List Loc) (ls : Array Slot), gH D cA ad NL Y H → va_S A s.heap H locs → lv_has ls 12 [(7, .int p7)] → k170 p7 Y = some (kx, rr, XX) → W p l e rm_X9_hand s m args below meth c H locs 0 0 (vx_MQ below (gQx D cA ad NL kx (some (.int rr)) XX A) (gXx D cA ad NL kx XX A) args s 1 6 A) (F0 m 170 ls [])) : ∀ (p7 : Int32) (p9 : Int32) (p10 : Int32) (X : gM) (H : Heap) (locs : List Loc) (ls : Array Slot), gH D cA ad NL X H → va_S A s.heap H locs → lv_has ls 12 [(0, .ref (ad 0 0)), (7, .int p7), (8, .ref (ad 4 0)), (9, .int p9), (10, .int p10)] → (0, 0) ∈ NL → (4, 0) ∈ NL → X9_hand_J164 (gal NL) N kk k170 p7 p9 p10 X = some (kx, rr, XX) → W p l e rm_X9_hand s m args below meth c H locs 0 0 (vx_MQ below (gQx D cA ad NL kx (some (.int rr)) XX A) (gXx D cA ad NL kx XX A) args s 1 6 A) (F0 m 164 ls []) := by
  have C := CX.1
  have hx := C.1
  have hb := C.2.1
  intro p7 p9 p10 X H locs ls hP hS hl ha_l0 ha_l8 hf
  rw [X9_hand_J164] at hf
  obtain ⟨v1, e2, hf⟩ := gl_in hf
  refine lv_iinc (v := v1) (lv' := [(10, .int v1), (0, .ref (ad 0 0)), (7, .int p7), (8, .ref (ad 4 0)), (9, .int p9)]) hx hb dX9_hand_164 hl (k := 4) rfl (by rw [e2]; rfl) (Nat.le_of_ble_eq_true rfl) rfl (fun ls hl => ?_)
  refine lv_goto (tgt := 124) hx hb dX9_hand_167 (by decide) ?_
  exact hkk p7 p9 v1 X _ _ _ hP hS (lv_sub hl [1, 2, 3, 4, 0] rfl) ha_l0 ha_l8 hf

set_option maxRecDepth 100000 in
set_option maxHeartbeats 4000000 in
theorem s_X9_hand_L124 {p : Program} {l : Launch} {e : Env} {s : State} {m : MethodId} {args : Array Value} {below : List Frame} {meth : Method} {c : Code} {D : va_G} {cA : Nat → ClassId} {ad : Nat → Nat → Nat} {NL : List (Nat × Nat)} {A : Nat → Prop} {rr : Int32} {XX : gM} {N : Nat} {kx : Nat} {k170 : Int32 → gM → Option (Nat × Int32 × gM)} (CX : gCxX p c l meth m s args cX9_hand 12 (some .int) RX9 D cA ad NL A) (hW : gWf NL) (hD0 : gD (fun _ => True) ad NL) (hk170 : ∀ (p7 : Int32) (Y : gM) (H : Heap) (locs : List Loc) (ls : Array Slot), gH D cA ad NL Y H → va_S A s.heap H locs → lv_has ls 12 [(7, .int p7)] → k170 p7 Y = some (kx, rr, XX) → W p l e rm_X9_hand s m args below meth c H locs 0 0 (vx_MQ below (gQx D cA ad NL kx (some (.int rr)) XX A) (gXx D cA ad NL kx XX A) args s 1 6 A) (F0 m 170 ls [])) : ∀ (n : Nat) (p7 : Int32) (p9 : Int32) (p10 : Int32) (X : gM) (H : Heap) (locs : List Loc) (ls : Array Slot), gH D cA ad NL X H → va_S A s.heap H locs → lv_has ls 12 [(0, .ref (ad 0 0)), (7, .int p7), (8, .ref (ad 4 0)), (9, .int p9), (10, .int p10)] → (0, 0) ∈ NL → (4, 0) ∈ NL → X9_hand_L124 (gal NL) N k170 n p7 p9 p10 X = some (kx, rr, XX) → W p l e rm_X9_hand s m args below meth c H locs 0 0 (vx_MQ below (gQx D cA ad NL kx (some (.int rr)) XX A) (gXx D cA ad NL kx XX A) args s 1 6 A) (F0 m 124 ls []) := by
  have C := CX.1
  have hx := C.1
  have hb := C.2.1
  intro n
  induction n with
  | zero =>
    intro p7 p9 p10 X H locs ls hP hS hl ha_l0 ha_l8 hf
    rw [X9_hand_L124] at hf
    cases hf
  | succ n ih =>
    intro p7 p9 p10 X H locs ls hP hS hl ha_l0 ha_l8 hf
    rw [X9_hand_L124] at hf
    refine lv_iload hx hb dX9_hand_124 (lv_at hl 4 rfl) ?_
    refine lv_iload hx hb dX9_hand_126 (lv_at hl 3 rfl) ?_
    refine lv_icmp_ge (tgt := 170) hx hb dX9_hand_128 (by decide) (fun c1 => ?_) (fun c1 => ?_)
    · have hf := g_ip c1 hf
      exact hk170 p7 X _ _ _ hP hS (lv_sub hl [1] rfl) hf
    · have hf := g_in c1 hf
      refine lv_aload hx hb dX9_hand_131 (lv_at hl 2 rfl) ?_
      refine lv_iload hx hb dX9_hand_133 (lv_at hl 4 rfl) ?_
      obtain ⟨j2, h3, hf⟩ := rd_in hf
      refine r_aldq C hP ha_l8 (ct_4 _ _ _ _) rfl h3 dX9_hand_135 ?_
      refine r_astore (i := 11) (lv' := [(11, va_rf (ro ad 5 (X 4 0 j2))), (0, .ref (ad 0 0)), (7, .int p7), (8, .ref (ad 4 0)), (9, .int p9), (10, .int p10)]) C dX9_hand_136 hl (Nat.le_of_ble_eq_true rfl) rfl (fun ls hl => ?_)
      refine r_aload C dX9_hand_138 (lv_at hl 0 rfl) ?_
      refine r_ifnull (tgt := 164) C dX9_hand_140 (by decide) (fun c4 => ?_) (fun c4 => ?_)
      · have hf := g_ip c4 hf
        exact s_X9_hand_J164 CX hW hD0 ih hk170 p7 p9 p10 X _ _ _ hP hS (lv_sub hl [1, 2, 3, 4, 5] rfl) ha_l0 ha_l8 hf
      · have hf := g_in c4 hf
        refine lv_aload_n hx hb dX9_hand_143 rfl (lv_at hl 1 rfl) ?_
        refine r_get C hP ha_l0 (ct_0 _ _ _ _) fx_X9_78 (fg_0_14 _ _ _) dX9_hand_144 ?_
        refine r_aload C dX9_hand_147 (lv_at hl 0 rfl) ?_
        obtain ⟨j5, h6, hf⟩ := dr_in hf
        rw [gref h6]
        refine r_get C hP h6.2.2 (ct_5 _ _ _ _) fx_X9_115 (fg_5_0 _ _ _) dX9_hand_149 ?_
        obtain ⟨j7, h8, hf⟩ := rd_in hf
        refine r_iald C hP (gs_0_14 hW ha_l0) (ct_42 _ _ _ _) h8 dX9_hand_152 ?_
        refine r_aload C dX9_hand_153 (lv_at hl 0 rfl) ?_
        rw [gref h6]
        refine r_get C hP h6.2.2 (ct_5 _ _ _ _) fx_X9_115 (fg_5_0 _ _ _) dX9_hand_155 ?_
        refine lv_icmp_ne (tgt := 164) hx hb dX9_hand_158 (by decide) (fun c9 => ?_) (fun c9 => ?_)
        · have hf := g_in c9 hf
          exact s_X9_hand_J164 CX hW hD0 ih hk170 p7 p9 p10 X _ _ _ hP hS (lv_sub hl [1, 2, 3, 4, 5] rfl) ha_l0 ha_l8 hf
        · have hf := g_ip c9 hf
          obtain ⟨v10, e11, hf⟩ := gl_in hf
          refine lv_iinc (v := v10) (lv' := [(7, .int v10), (11, va_rf (ro ad 5 (X 4 0 j2))), (0, .ref (ad 0 0)), (8, .ref (ad 4 0)), (9, .int p9), (10, .int p10)]) hx hb dX9_hand_161 hl (k := 2) rfl (by rw [e11]; rfl) (Nat.le_of_ble_eq_true rfl) rfl (fun ls hl => ?_)
          exact s_X9_hand_J164 CX hW hD0 ih hk170 v10 p9 p10 X _ _ _ hP hS (lv_sub hl [2, 0, 3, 4, 5] rfl) ha_l0 ha_l8 hf

set_option maxRecDepth 100000 in
set_option maxHeartbeats 4000000 in
theorem s_X9_hand_J69 {p : Program} {l : Launch} {e : Env} {s : State} {m : MethodId} {args : Array Value} {below : List Frame} {meth : Method} {c : Code} {D : va_G} {cA : Nat → ClassId} {ad : Nat → Nat → Nat} {NL : List (Nat × Nat)} {A : Nat → Prop} {rr : Int32} {XX : gM} {N : Nat} {kx : Nat} (CX : gCxX p c l meth m s args cX9_hand 12 (some .int) RX9 D cA ad NL A) (hW : gWf NL) (hD0 : gD (fun _ => True) ad NL) : ∀ (X : gM) (H : Heap) (locs : List Loc) (ls : Array Slot), gH D cA ad NL X H → va_S A s.heap H locs → lv_has ls 12 [] → X9_hand_J69 (gal NL) N X = some (kx, rr, XX) → W p l e rm_X9_hand s m args below meth c H locs 0 0 (vx_MQ below (gQx D cA ad NL kx (some (.int rr)) XX A) (gXx D cA ad NL kx XX A) args s 1 6 A) (F0 m 69 ls []) := by
  have C := CX.1
  have hx := C.1
  have hb := C.2.1
  intro X H locs ls hP hS hl hf
  rw [X9_hand_J69] at hf
  obtain ⟨rfl, rfl, rfl⟩ := g_s3 hf
  exact r_throw CX hP hS hl.1 th_X9_92_94 dX9_hand_69 dX9_hand_72 dX9_hand_73 dX9_hand_76 ⟨Nat.le_of_ble_eq_true rfl, Nat.le_of_ble_eq_true rfl, Nat.le_of_ble_eq_true rfl, Nat.le_of_ble_eq_true rfl⟩ 

set_option maxRecDepth 100000 in
set_option maxHeartbeats 4000000 in
theorem s_X9_hand_J40 {p : Program} {l : Launch} {e : Env} {s : State} {m : MethodId} {args : Array Value} {below : List Frame} {meth : Method} {c : Code} {D : va_G} {cA : Nat → ClassId} {ad : Nat → Nat → Nat} {NL : List (Nat × Nat)} {A : Nat → Prop} {rr : Int32} {XX : gM} {N : Nat} {kx : Nat} (CX : gCxX p c l meth m s args cX9_hand 12 (some .int) RX9 D cA ad NL A) (hW : gWf NL) (hD0 : gD (fun _ => True) ad NL) : ∀ (X : gM) (H : Heap) (locs : List Loc) (ls : Array Slot), gH D cA ad NL X H → va_S A s.heap H locs → lv_has ls 12 [] → X9_hand_J40 (gal NL) N X = some (kx, rr, XX) → W p l e rm_X9_hand s m args below meth c H locs 0 0 (vx_MQ below (gQx D cA ad NL kx (some (.int rr)) XX A) (gXx D cA ad NL kx XX A) args s 1 6 A) (F0 m 40 ls []) := by
  have C := CX.1
  have hx := C.1
  have hb := C.2.1
  intro X H locs ls hP hS hl hf
  rw [X9_hand_J40] at hf
  obtain ⟨rfl, rfl, rfl⟩ := g_s3 hf
  exact r_throw CX hP hS hl.1 th_X9_92_94 dX9_hand_40 dX9_hand_43 dX9_hand_44 dX9_hand_47 ⟨Nat.le_of_ble_eq_true rfl, Nat.le_of_ble_eq_true rfl, Nat.le_of_ble_eq_true rfl, Nat.le_of_ble_eq_true rfl⟩ 

set_option maxRecDepth 100000 in
set_option maxHeartbeats 4000000 in
theorem w_X9_hand {p : Program} {l : Launch} {e : Env} {s : State} {m : MethodId} {args : Array Value} {below : List Frame} {meth : Method} {c : Code} {D : va_G} {cA : Nat → ClassId} {ad : Nat → Nat → Nat} {NL : List (Nat × Nat)} {A : Nat → Prop} {rr : Int32} {XX : gM} {N : Nat} {kx : Nat} (CX : gCxX p c l meth m s args cX9_hand 12 (some .int) RX9 D cA ad NL A) (hW : gWf NL) (hD0 : gD (fun _ => True) ad NL) {p1 : Int32} {p2 : Int32} {p3 : Int32} {p4 : Int32} {p5 : Int32} (ha_l0 : (0, 0) ∈ NL) : ∀ (X : gM) (H : Heap) (locs : List Loc) (ls : Array Slot), gH D cA ad NL X H → va_S A s.heap H locs → lv_has ls 12 [(0, .ref (ad 0 0)), (1, .int p1), (2, .int p2), (3, .int p3), (4, .int p4), (5, .int p5)] → X9_hand (gal NL) N p1 p2 p3 p4 p5 X = some (kx, rr, XX) → W p l e rm_X9_hand s m args below meth c H locs 0 0 (vx_MQ below (gQx D cA ad NL kx (some (.int rr)) XX A) (gXx D cA ad NL kx XX A) args s 1 6 A) (F0 m 0 ls []) := by
  have C := CX.1
  have hx := C.1
  have hb := C.2.1
  intro X H locs ls hP hS hl hf
  rw [X9_hand] at hf
  refine lv_aload_n hx hb dX9_hand_0 rfl (lv_at hl 0 rfl) ?_
  refine lv_iload_n hx hb dX9_hand_1 rfl (lv_at hl 1 rfl) ?_
  obtain ⟨r1, X2, h3, hf⟩ := b2_in hf
  refine r_cVq (rest := []) C hP hS hl.1 (s_X9_leafOf hW hD0 ha_l0 h3) ix_X9_leafOf iv_X9_leafOf lk_X9_179 ⟨rfl, rfl, Nat.le_of_ble_eq_true rfl, Nat.le_of_ble_eq_true rfl⟩ ha_l0 (ct_0 _ _ _ _) rfl rfl rfl rfl (Nat.le_of_ble_eq_true rfl) ⟨Nat.zero_le _, Nat.zero_le _⟩ dX9_hand_2 (fun H locs hP hS => ?_)
  refine r_astore (i := 6) (lv' := [(6, va_rf (ro ad 5 r1)), (0, .ref (ad 0 0)), (1, .int p1), (2, .int p2), (3, .int p3), (4, .int p4), (5, .int p5)]) C dX9_hand_5 hl (Nat.le_of_ble_eq_true rfl) rfl (fun ls hl => ?_)
  refine r_aload C dX9_hand_7 (lv_at hl 0 rfl) ?_
  refine r_ifnonnull (tgt := 20) C dX9_hand_9 (by decide) (fun c4 => ?_) (fun c4 => ?_)
  · have hf := g_ip c4 hf
    obtain ⟨rfl, rfl, rfl⟩ := g_s3 hf
    exact r_throw CX hP hS hl.1 th_X9_85_87 dX9_hand_12 dX9_hand_15 dX9_hand_16 dX9_hand_19 ⟨Nat.le_of_ble_eq_true rfl, Nat.le_of_ble_eq_true rfl, Nat.le_of_ble_eq_true rfl, Nat.le_of_ble_eq_true rfl⟩ 
  · have hf := g_in c4 hf
    refine lv_iload_n hx hb dX9_hand_20 rfl (lv_at hl 3 rfl) ?_
    refine lv_iconst (v := 0) hx hb dX9_hand_21 (by decide) ?_
    refine lv_bipush (v := 20) hx hb dX9_hand_22 (by decide) ?_
    obtain ⟨r5, X6, h7, hf⟩ := b2_in hf
    refine r_cSi (rest := []) C hP hS hl.1 (s_X9_isWithin hW hD0  h7) ix_X9_isWithin is_X9_isWithin ls_X9_88 ⟨rfl, rfl, Nat.le_of_ble_eq_true rfl, Nat.le_of_ble_eq_true rfl⟩ rfl rfl (Nat.le_of_ble_eq_true rfl) ⟨Nat.zero_le _, Nat.zero_le _⟩ dX9_hand_24 (fun H locs hP hS => ?_)
    refine lv_if_eq (tgt := 40) hx hb dX9_hand_27 (by decide) (fun c8 => ?_) (fun c8 => ?_)
    · have hf := g_ip c8 hf
      exact s_X9_hand_J40 CX hW hD0 X6 _ _ _ hP hS (lv_sub hl [] rfl) hf
    · have hf := g_in c8 hf
      refine lv_iload_n hx hb dX9_hand_30 rfl (lv_at hl 4 rfl) ?_
      refine lv_iconst (v := 0) hx hb dX9_hand_31 (by decide) ?_
      refine lv_bipush (v := 20) hx hb dX9_hand_32 (by decide) ?_
      obtain ⟨r9, X10, h11, hf⟩ := b2_in hf
      refine r_cSi (rest := []) C hP hS hl.1 (s_X9_isWithin hW hD0  h11) ix_X9_isWithin is_X9_isWithin ls_X9_88 ⟨rfl, rfl, Nat.le_of_ble_eq_true rfl, Nat.le_of_ble_eq_true rfl⟩ rfl rfl (Nat.le_of_ble_eq_true rfl) ⟨Nat.zero_le _, Nat.zero_le _⟩ dX9_hand_34 (fun H locs hP hS => ?_)
      refine lv_if_ne (tgt := 48) hx hb dX9_hand_37 (by decide) (fun c12 => ?_) (fun c12 => ?_)
      · have hf := g_in c12 hf
        refine lv_iload hx hb dX9_hand_48 (lv_at hl 5 rfl) ?_
        refine lv_iconst (v := 0) hx hb dX9_hand_50 (by decide) ?_
        refine lv_bipush (v := 20) hx hb dX9_hand_51 (by decide) ?_
        obtain ⟨r13, X14, h15, hf⟩ := b2_in hf
        refine r_cSi (rest := []) C hP hS hl.1 (s_X9_isWithin hW hD0  h15) ix_X9_isWithin is_X9_isWithin ls_X9_88 ⟨rfl, rfl, Nat.le_of_ble_eq_true rfl, Nat.le_of_ble_eq_true rfl⟩ rfl rfl (Nat.le_of_ble_eq_true rfl) ⟨Nat.zero_le _, Nat.zero_le _⟩ dX9_hand_53 (fun H locs hP hS => ?_)
        refine lv_if_eq (tgt := 69) hx hb dX9_hand_56 (by decide) (fun c16 => ?_) (fun c16 => ?_)
        · have hf := g_ip c16 hf
          exact s_X9_hand_J69 CX hW hD0 X14 _ _ _ hP hS (lv_sub hl [] rfl) hf
        · have hf := g_in c16 hf
          refine lv_iload hx hb dX9_hand_59 (lv_at hl 6 rfl) ?_
          refine lv_iconst (v := 0) hx hb dX9_hand_61 (by decide) ?_
          refine lv_iconst (v := 3) hx hb dX9_hand_62 (by decide) ?_
          obtain ⟨r17, X18, h19, hf⟩ := b2_in hf
          refine r_cSi (rest := []) C hP hS hl.1 (s_X9_isWithin hW hD0  h19) ix_X9_isWithin is_X9_isWithin ls_X9_88 ⟨rfl, rfl, Nat.le_of_ble_eq_true rfl, Nat.le_of_ble_eq_true rfl⟩ rfl rfl (Nat.le_of_ble_eq_true rfl) ⟨Nat.zero_le _, Nat.zero_le _⟩ dX9_hand_63 (fun H locs hP hS => ?_)
          refine lv_if_ne (tgt := 77) hx hb dX9_hand_66 (by decide) (fun c20 => ?_) (fun c20 => ?_)
          · have hf := g_in c20 hf
            refine r_aload C dX9_hand_77 (lv_at hl 0 rfl) ?_
            refine lv_iload_n hx hb dX9_hand_79 rfl (lv_at hl 3 rfl) ?_
            obtain ⟨j21, h22, hf⟩ := dr_in hf
            rw [gref h22]
            refine r_put C hP hS p2 h22.2.2 (ct_5 _ _ _ _) px_X9_238 (fp_5_7 _ _ _ _ _) (Nat.le_of_ble_eq_true rfl) rfl rfl dX9_hand_80 (fun H locs hP hS => ?_)
            obtain ⟨X23, e24, hf⟩ := gl_in hf
            rw [← e24] at hP
            refine r_aload C dX9_hand_83 (lv_at hl 0 rfl) ?_
            rw [gref h22]
            refine lv_iload_n hx hb dX9_hand_85 rfl (lv_at hl 4 rfl) ?_
            refine r_put C hP hS p3 h22.2.2 (ct_5 _ _ _ _) px_X9_241 (fp_5_8 _ _ _ _ _) (Nat.le_of_ble_eq_true rfl) rfl rfl dX9_hand_86 (fun H locs hP hS => ?_)
            obtain ⟨X25, e26, hf⟩ := gl_in hf
            rw [← e26] at hP
            refine r_aload C dX9_hand_89 (lv_at hl 0 rfl) ?_
            rw [gref h22]
            refine lv_iload hx hb dX9_hand_91 (lv_at hl 5 rfl) ?_
            refine r_put C hP hS p4 h22.2.2 (ct_5 _ _ _ _) px_X9_244 (fp_5_9 _ _ _ _ _) (Nat.le_of_ble_eq_true rfl) rfl rfl dX9_hand_93 (fun H locs hP hS => ?_)
            obtain ⟨X27, e28, hf⟩ := gl_in hf
            rw [← e28] at hP
            refine r_aload C dX9_hand_96 (lv_at hl 0 rfl) ?_
            rw [gref h22]
            refine lv_iload hx hb dX9_hand_98 (lv_at hl 6 rfl) ?_
            refine r_put C hP hS p5 h22.2.2 (ct_5 _ _ _ _) px_X9_247 (fp_5_10 _ _ _ _ _) (Nat.le_of_ble_eq_true rfl) rfl rfl dX9_hand_100 (fun H locs hP hS => ?_)
            obtain ⟨X29, e30, hf⟩ := gl_in hf
            rw [← e30] at hP
            refine lv_aload_n hx hb dX9_hand_103 rfl (lv_at hl 1 rfl) ?_
            obtain ⟨r31, X32, h33, hf⟩ := b2_in hf
            refine r_cVv (rest := []) C hP hS hl.1 (s_X9_settleHands hW hD0 ha_l0 h33) ix_X9_settleHands iv_X9_settleHands lk_X9_250 ⟨rfl, rfl, Nat.le_of_ble_eq_true rfl, Nat.le_of_ble_eq_true rfl⟩ ha_l0 (ct_0 _ _ _ _) rfl rfl rfl rfl (Nat.le_of_ble_eq_true rfl) ⟨Nat.zero_le _, Nat.zero_le _⟩ dX9_hand_104 (fun H locs hP hS => ?_)
            refine lv_iconst (v := 0) hx hb dX9_hand_107 (by decide) ?_
            refine lv_istore (i := 7) (lv' := [(7, .int (0 : Int32)), (6, va_rf (ro ad 5 r1)), (0, .ref (ad 0 0)), (1, .int p1), (2, .int p2), (3, .int p3), (4, .int p4), (5, .int p5)]) hx hb dX9_hand_108 hl (Nat.le_of_ble_eq_true rfl) (by simp [g_cat, g_catr, g_cati]) (fun ls hl => ?_)
            refine lv_aload_n hx hb dX9_hand_110 rfl (lv_at hl 2 rfl) ?_
            refine r_get C hP ha_l0 (ct_0 _ _ _ _) fx_X9_18 (fg_0_1 _ _ _) dX9_hand_111 ?_
            refine lv_astore (i := 8) (lv' := [(8, .ref (ad 4 0)), (7, .int (0 : Int32)), (6, va_rf (ro ad 5 r1)), (0, .ref (ad 0 0)), (1, .int p1), (2, .int p2), (3, .int p3), (4, .int p4), (5, .int p5)]) hx hb dX9_hand_114 hl (Nat.le_of_ble_eq_true rfl) rfl (fun ls hl => ?_)
            refine lv_aload hx hb dX9_hand_116 (lv_at hl 0 rfl) ?_
            refine r_alen C hP 10 (gs_0_1 hW ha_l0) (ct_4 _ _ _ _) rfl rfl dX9_hand_118 ?_
            refine lv_istore (i := 9) (lv' := [(9, .int (10 : Int32)), (8, .ref (ad 4 0)), (7, .int (0 : Int32)), (6, va_rf (ro ad 5 r1)), (0, .ref (ad 0 0)), (1, .int p1), (2, .int p2), (3, .int p3), (4, .int p4), (5, .int p5)]) hx hb dX9_hand_119 hl (Nat.le_of_ble_eq_true rfl) rfl (fun ls hl => ?_)
            refine lv_iconst (v := 0) hx hb dX9_hand_121 (by decide) ?_
            refine lv_istore (i := 10) (lv' := [(10, .int (0 : Int32)), (9, .int (10 : Int32)), (8, .ref (ad 4 0)), (7, .int (0 : Int32)), (6, va_rf (ro ad 5 r1)), (0, .ref (ad 0 0)), (1, .int p1), (2, .int p2), (3, .int p3), (4, .int p4), (5, .int p5)]) hx hb dX9_hand_122 hl (Nat.le_of_ble_eq_true rfl) rfl (fun ls hl => ?_)
            exact s_X9_hand_L124 CX hW hD0 (fun p7 Y H locs ls hP hS hl hf => s_X9_hand_J170 CX hW hD0 p7 Y _ _ _ hP hS hl hf) N (0 : Int32) (10 : Int32) (0 : Int32) X32 _ _ _ hP hS (lv_sub hl [5, 3, 2, 1, 0] rfl) ha_l0 (gs_0_1 hW ha_l0) hf
          · have hf := g_ip c20 hf
            exact s_X9_hand_J69 CX hW hD0 X18 _ _ _ hP hS (lv_sub hl [] rfl) hf
      · have hf := g_ip c12 hf
        exact s_X9_hand_J40 CX hW hD0 X10 _ _ _ hP hS (lv_sub hl [] rfl) hf

theorem s_X9_hand {l : Launch} {D : va_G} {cA : Nat → ClassId} {ad : Nat → Nat → Nat} {NL : List (Nat × Nat)} {N : Nat} {p1 : Int32} {p2 : Int32} {p3 : Int32} {p4 : Int32} {p5 : Int32} {X : gM} {kx : Nat} {rr : Int32} {XX : gM} (htr : l.stackTraces = false) (hW : gWf NL) (hD0 : gD (fun _ => True) ad NL) (ha_l0 : (0, 0) ∈ NL) (hf : X9_hand (gal NL) N p1 p2 p3 p4 p5 X = some (kx, rr, XX)) : gCX l yX9_hand cX9_hand 12 (some .int) rm_X9_hand D cA ad NL [.ref (ad 0 0), .int p1, .int p2, .int p3, .int p4, .int p5] X kx (some (.int rr)) XX :=
  g_ofX (by decide) htr hD0 (Nat.le_of_ble_eq_true rfl) rfl (fun p e s m below meth c ls CX hP hS hl => w_X9_hand CX hW hD0 ha_l0 X _ _ ls hP hS hl hf)
def rm_X9_handOf : Room := { frames := 6, cells := 1, slots := 6, locals := 93 }
set_option maxRecDepth 100000 in
set_option maxHeartbeats 4000000 in
theorem w_X9_handOf {p : Program} {l : Launch} {e : Env} {s : State} {m : MethodId} {args : Array Value} {below : List Frame} {meth : Method} {c : Code} {D : va_G} {cA : Nat → ClassId} {ad : Nat → Nat → Nat} {NL : List (Nat × Nat)} {A : Nat → Prop} {rr : Int32} {XX : gM} {N : Nat} {kx : Nat} (CX : gCxX p c l meth m s args cX9_handOf 3 (some .int) RX9 D cA ad NL A) (hW : gWf NL) (hD0 : gD (fun _ => True) ad NL) {p1 : Int32} (ha_l0 : (0, 0) ∈ NL) : ∀ (X : gM) (H : Heap) (locs : List Loc) (ls : Array Slot), gH D cA ad NL X H → va_S A s.heap H locs → lv_has ls 3 [(0, .ref (ad 0 0)), (1, .int p1)] → X9_handOf (gal NL) N p1 X = some (kx, rr, XX) → W p l e rm_X9_handOf s m args below meth c H locs 0 0 (vx_MQ below (gQx D cA ad NL kx (some (.int rr)) XX A) (gXx D cA ad NL kx XX A) args s 1 6 A) (F0 m 0 ls []) := by
  have C := CX.1
  have hx := C.1
  have hb := C.2.1
  intro X H locs ls hP hS hl hf
  rw [X9_handOf] at hf
  refine lv_aload_n hx hb dX9_handOf_0 rfl (lv_at hl 0 rfl) ?_
  refine lv_iload_n hx hb dX9_handOf_1 rfl (lv_at hl 1 rfl) ?_
  obtain ⟨r1, X2, h3, hf⟩ := b2_in hf
  refine r_cVq (rest := []) C hP hS hl.1 (s_X9_leafOf hW hD0 ha_l0 h3) ix_X9_leafOf iv_X9_leafOf lk_X9_179 ⟨rfl, rfl, Nat.le_of_ble_eq_true rfl, Nat.le_of_ble_eq_true rfl⟩ ha_l0 (ct_0 _ _ _ _) rfl rfl rfl rfl (Nat.le_of_ble_eq_true rfl) ⟨Nat.zero_le _, Nat.zero_le _⟩ dX9_handOf_2 (fun H locs hP hS => ?_)
  refine r_astoren (i := 2) (lv' := [(2, va_rf (ro ad 5 r1)), (0, .ref (ad 0 0)), (1, .int p1)]) C dX9_handOf_5 rfl hl (Nat.le_of_ble_eq_true rfl) rfl (fun ls hl => ?_)
  refine r_aloadn C dX9_handOf_6 rfl (lv_at hl 0 rfl) ?_
  refine r_ifnonnull (tgt := 18) C dX9_handOf_7 (by decide) (fun c4 => ?_) (fun c4 => ?_)
  · have hf := g_ip c4 hf
    obtain ⟨rfl, rfl, rfl⟩ := g_s3 hf
    exact r_throw CX hP hS hl.1 th_X9_85_87 dX9_handOf_10 dX9_handOf_13 dX9_handOf_14 dX9_handOf_17 ⟨Nat.le_of_ble_eq_true rfl, Nat.le_of_ble_eq_true rfl, Nat.le_of_ble_eq_true rfl, Nat.le_of_ble_eq_true rfl⟩ 
  · have hf := g_in c4 hf
    refine lv_aload_n hx hb dX9_handOf_18 rfl (lv_at hl 1 rfl) ?_
    obtain ⟨r5, X6, h7, hf⟩ := b2_in hf
    refine r_cVv (rest := []) C hP hS hl.1 (s_X9_settleHands hW hD0 ha_l0 h7) ix_X9_settleHands iv_X9_settleHands lk_X9_250 ⟨rfl, rfl, Nat.le_of_ble_eq_true rfl, Nat.le_of_ble_eq_true rfl⟩ ha_l0 (ct_0 _ _ _ _) rfl rfl rfl rfl (Nat.le_of_ble_eq_true rfl) ⟨Nat.zero_le _, Nat.zero_le _⟩ dX9_handOf_19 (fun H locs hP hS => ?_)
    refine lv_aload_n hx hb dX9_handOf_22 rfl (lv_at hl 1 rfl) ?_
    refine r_get C hP ha_l0 (ct_0 _ _ _ _) fx_X9_78 (fg_0_14 _ _ _) dX9_handOf_23 ?_
    refine r_aloadn C dX9_handOf_26 rfl (lv_at hl 0 rfl) ?_
    obtain ⟨j8, h9, hf⟩ := dr_in hf
    rw [gref h9]
    refine r_get C hP h9.2.2 (ct_5 _ _ _ _) fx_X9_115 (fg_5_0 _ _ _) dX9_handOf_27 ?_
    obtain ⟨j10, h11, hf⟩ := rd_in hf
    refine r_iald C hP (gs_0_14 hW ha_l0) (ct_42 _ _ _ _) h11 dX9_handOf_30 ?_
    obtain ⟨rfl, rfl, rfl⟩ := g_s3 hf
    exact r_iretX CX hP hS dX9_handOf_31

theorem s_X9_handOf {l : Launch} {D : va_G} {cA : Nat → ClassId} {ad : Nat → Nat → Nat} {NL : List (Nat × Nat)} {N : Nat} {p1 : Int32} {X : gM} {kx : Nat} {rr : Int32} {XX : gM} (htr : l.stackTraces = false) (hW : gWf NL) (hD0 : gD (fun _ => True) ad NL) (ha_l0 : (0, 0) ∈ NL) (hf : X9_handOf (gal NL) N p1 X = some (kx, rr, XX)) : gCX l yX9_handOf cX9_handOf 3 (some .int) rm_X9_handOf D cA ad NL [.ref (ad 0 0), .int p1] X kx (some (.int rr)) XX :=
  g_ofX (by decide) htr hD0 (Nat.le_of_ble_eq_true rfl) rfl (fun p e s m below meth c ls CX hP hS hl => w_X9_handOf CX hW hD0 ha_l0 X _ _ ls hP hS hl hf)
def rm_X9_date : Room := { frames := 6, cells := 1, slots := 6, locals := 89 }
set_option maxRecDepth 100000 in
set_option maxHeartbeats 4000000 in
theorem w_X9_date {p : Program} {l : Launch} {e : Env} {s : State} {m : MethodId} {args : Array Value} {below : List Frame} {meth : Method} {c : Code} {D : va_G} {cA : Nat → ClassId} {ad : Nat → Nat → Nat} {NL : List (Nat × Nat)} {A : Nat → Prop} {rr : Int32} {XX : gM} {N : Nat} {kx : Nat} (CX : gCxX p c l meth m s args cX9_date 4 (some .int) RX9 D cA ad NL A) (hW : gWf NL) (hD0 : gD (fun _ => True) ad NL) {p1 : Int32} {p2 : Int32} (ha_l0 : (0, 0) ∈ NL) : ∀ (X : gM) (H : Heap) (locs : List Loc) (ls : Array Slot), gH D cA ad NL X H → va_S A s.heap H locs → lv_has ls 4 [(0, .ref (ad 0 0)), (1, .int p1), (2, .int p2)] → X9_date (gal NL) N p1 p2 X = some (kx, rr, XX) → W p l e rm_X9_date s m args below meth c H locs 0 0 (vx_MQ below (gQx D cA ad NL kx (some (.int rr)) XX A) (gXx D cA ad NL kx XX A) args s 1 6 A) (F0 m 0 ls []) := by
  have C := CX.1
  have hx := C.1
  have hb := C.2.1
  intro X H locs ls hP hS hl hf
  rw [X9_date] at hf
  refine lv_aload_n hx hb dX9_date_0 rfl (lv_at hl 0 rfl) ?_
  refine lv_iload_n hx hb dX9_date_1 rfl (lv_at hl 1 rfl) ?_
  obtain ⟨r1, X2, h3, hf⟩ := b2_in hf
  refine r_cVq (rest := []) C hP hS hl.1 (s_X9_leafOf hW hD0 ha_l0 h3) ix_X9_leafOf iv_X9_leafOf lk_X9_179 ⟨rfl, rfl, Nat.le_of_ble_eq_true rfl, Nat.le_of_ble_eq_true rfl⟩ ha_l0 (ct_0 _ _ _ _) rfl rfl rfl rfl (Nat.le_of_ble_eq_true rfl) ⟨Nat.zero_le _, Nat.zero_le _⟩ dX9_date_2 (fun H locs hP hS => ?_)
  refine r_astoren (i := 3) (lv' := [(3, va_rf (ro ad 5 r1)), (0, .ref (ad 0 0)), (1, .int p1), (2, .int p2)]) C dX9_date_5 rfl hl (Nat.le_of_ble_eq_true rfl) rfl (fun ls hl => ?_)
  refine r_aloadn C dX9_date_6 rfl (lv_at hl 0 rfl) ?_
  refine r_ifnonnull (tgt := 18) C dX9_date_7 (by decide) (fun c4 => ?_) (fun c4 => ?_)
  · have hf := g_ip c4 hf
    obtain ⟨rfl, rfl, rfl⟩ := g_s3 hf
    exact r_throw CX hP hS hl.1 th_X9_85_87 dX9_date_10 dX9_date_13 dX9_date_14 dX9_date_17 ⟨Nat.le_of_ble_eq_true rfl, Nat.le_of_ble_eq_true rfl, Nat.le_of_ble_eq_true rfl, Nat.le_of_ble_eq_true rfl⟩ 
  · have hf := g_in c4 hf
    refine lv_iload_n hx hb dX9_date_18 rfl (lv_at hl 3 rfl) ?_
    refine lv_iconst (v := 0) hx hb dX9_date_19 (by decide) ?_
    refine lv_sipush (v := 4095) hx hb dX9_date_20 (by decide) ?_
    obtain ⟨r5, X6, h7, hf⟩ := b2_in hf
    refine r_cSi (rest := []) C hP hS hl.1 (s_X9_isWithin hW hD0  h7) ix_X9_isWithin is_X9_isWithin ls_X9_88 ⟨rfl, rfl, Nat.le_of_ble_eq_true rfl, Nat.le_of_ble_eq_true rfl⟩ rfl rfl (Nat.le_of_ble_eq_true rfl) ⟨Nat.zero_le _, Nat.zero_le _⟩ dX9_date_23 (fun H locs hP hS => ?_)
    refine lv_if_ne (tgt := 37) hx hb dX9_date_26 (by decide) (fun c8 => ?_) (fun c8 => ?_)
    · have hf := g_in c8 hf
      refine r_aloadn C dX9_date_37 rfl (lv_at hl 0 rfl) ?_
      obtain ⟨j9, h10, hf⟩ := dr_in hf
      rw [gref h10]
      refine r_get C hP h10.2.2 (ct_5 _ _ _ _) fx_X9_253 (fg_5_11 _ _ _) dX9_date_38 ?_
      refine lv_iconst (v := 4) hx hb dX9_date_41 (by decide) ?_
      refine lv_icmp_lt (tgt := 53) hx hb dX9_date_42 (by decide) (fun c11 => ?_) (fun c11 => ?_)
      · have hf := g_ip c11 hf
        refine r_aloadn C dX9_date_53 rfl (lv_at hl 0 rfl) ?_
        rw [gref h10]
        refine lv_dup hx hb dX9_date_54 rfl ?_
        refine r_get C hP h10.2.2 (ct_5 _ _ _ _) fx_X9_253 (fg_5_11 _ _ _) dX9_date_55 ?_
        refine lv_iconst (v := 1) hx hb dX9_date_58 (by decide) ?_
        refine lv_iadd hx hb dX9_date_59 ?_
        refine r_put C hP hS ((X6 5 j9 11) + (1 : Int32)) h10.2.2 (ct_5 _ _ _ _) px_X9_253 (fp_5_11 _ _ _ _ _) (Nat.le_of_ble_eq_true rfl) rfl rfl dX9_date_60 (fun H locs hP hS => ?_)
        obtain ⟨X12, e13, hf⟩ := gl_in hf
        rw [← e13] at hP
        refine r_aloadn C dX9_date_63 rfl (lv_at hl 0 rfl) ?_
        rw [gref h10]
        refine lv_dup hx hb dX9_date_64 rfl ?_
        refine r_get C hP h10.2.2 (ct_5 _ _ _ _) fx_X9_256 (fg_5_12 _ _ _) dX9_date_65 ?_
        refine lv_iload_n hx hb dX9_date_68 rfl (lv_at hl 3 rfl) ?_
        refine lv_iand hx hb dX9_date_69 ?_
        refine r_put C hP hS ((X12 5 j9 12) &&& p2) h10.2.2 (ct_5 _ _ _ _) px_X9_256 (fp_5_12 _ _ _ _ _) (Nat.le_of_ble_eq_true rfl) rfl rfl dX9_date_70 (fun H locs hP hS => ?_)
        obtain ⟨X14, e15, hf⟩ := gl_in hf
        rw [← e15] at hP
        refine lv_aload_n hx hb dX9_date_73 rfl (lv_at hl 1 rfl) ?_
        refine r_aloadn C dX9_date_74 rfl (lv_at hl 0 rfl) ?_
        rw [gref h10]
        obtain ⟨r16, X17, h18, hf⟩ := b2_in hf
        refine r_cVi (rest := []) C hP hS hl.1 (s_X9_spansOf hW hD0 ha_l0 h10.2.2 h18) ix_X9_spansOf iv_X9_spansOf lk_X9_259 ⟨rfl, rfl, Nat.le_of_ble_eq_true rfl, Nat.le_of_ble_eq_true rfl⟩ ha_l0 (ct_0 _ _ _ _) rfl rfl rfl rfl (Nat.le_of_ble_eq_true rfl) ⟨Nat.zero_le _, Nat.zero_le _⟩ dX9_date_75 (fun H locs hP hS => ?_)
        obtain ⟨rfl, rfl, rfl⟩ := g_s3 hf
        exact r_iretX CX hP hS dX9_date_78
      · have hf := g_in c11 hf
        obtain ⟨rfl, rfl, rfl⟩ := g_s3 hf
        exact r_throw CX hP hS hl.1 th_X9_99_101 dX9_date_45 dX9_date_48 dX9_date_49 dX9_date_52 ⟨Nat.le_of_ble_eq_true rfl, Nat.le_of_ble_eq_true rfl, Nat.le_of_ble_eq_true rfl, Nat.le_of_ble_eq_true rfl⟩ 
    · have hf := g_ip c8 hf
      obtain ⟨rfl, rfl, rfl⟩ := g_s3 hf
      exact r_throw CX hP hS hl.1 th_X9_92_94 dX9_date_29 dX9_date_32 dX9_date_33 dX9_date_36 ⟨Nat.le_of_ble_eq_true rfl, Nat.le_of_ble_eq_true rfl, Nat.le_of_ble_eq_true rfl, Nat.le_of_ble_eq_true rfl⟩ 

theorem s_X9_date {l : Launch} {D : va_G} {cA : Nat → ClassId} {ad : Nat → Nat → Nat} {NL : List (Nat × Nat)} {N : Nat} {p1 : Int32} {p2 : Int32} {X : gM} {kx : Nat} {rr : Int32} {XX : gM} (htr : l.stackTraces = false) (hW : gWf NL) (hD0 : gD (fun _ => True) ad NL) (ha_l0 : (0, 0) ∈ NL) (hf : X9_date (gal NL) N p1 p2 X = some (kx, rr, XX)) : gCX l yX9_date cX9_date 4 (some .int) rm_X9_date D cA ad NL [.ref (ad 0 0), .int p1, .int p2] X kx (some (.int rr)) XX :=
  g_ofX (by decide) htr hD0 (Nat.le_of_ble_eq_true rfl) rfl (fun p e s m below meth c ls CX hP hS hl => w_X9_date CX hW hD0 ha_l0 X _ _ ls hP hS hl hf)
def rm_X9_dates : Room := { frames := 6, cells := 1, slots := 6, locals := 89 }
set_option maxRecDepth 100000 in
set_option maxHeartbeats 4000000 in
theorem w_X9_dates {p : Program} {l : Launch} {e : Env} {s : State} {m : MethodId} {args : Array Value} {below : List Frame} {meth : Method} {c : Code} {D : va_G} {cA : Nat → ClassId} {ad : Nat → Nat → Nat} {NL : List (Nat × Nat)} {A : Nat → Prop} {rr : Int32} {XX : gM} {N : Nat} {kx : Nat} (CX : gCxX p c l meth m s args cX9_dates 3 (some .int) RX9 D cA ad NL A) (hW : gWf NL) (hD0 : gD (fun _ => True) ad NL) {p1 : Int32} (ha_l0 : (0, 0) ∈ NL) : ∀ (X : gM) (H : Heap) (locs : List Loc) (ls : Array Slot), gH D cA ad NL X H → va_S A s.heap H locs → lv_has ls 3 [(0, .ref (ad 0 0)), (1, .int p1)] → X9_dates (gal NL) N p1 X = some (kx, rr, XX) → W p l e rm_X9_dates s m args below meth c H locs 0 0 (vx_MQ below (gQx D cA ad NL kx (some (.int rr)) XX A) (gXx D cA ad NL kx XX A) args s 1 6 A) (F0 m 0 ls []) := by
  have C := CX.1
  have hx := C.1
  have hb := C.2.1
  intro X H locs ls hP hS hl hf
  rw [X9_dates] at hf
  refine lv_aload_n hx hb dX9_dates_0 rfl (lv_at hl 0 rfl) ?_
  refine lv_iload_n hx hb dX9_dates_1 rfl (lv_at hl 1 rfl) ?_
  obtain ⟨r1, X2, h3, hf⟩ := b2_in hf
  refine r_cVq (rest := []) C hP hS hl.1 (s_X9_leafOf hW hD0 ha_l0 h3) ix_X9_leafOf iv_X9_leafOf lk_X9_179 ⟨rfl, rfl, Nat.le_of_ble_eq_true rfl, Nat.le_of_ble_eq_true rfl⟩ ha_l0 (ct_0 _ _ _ _) rfl rfl rfl rfl (Nat.le_of_ble_eq_true rfl) ⟨Nat.zero_le _, Nat.zero_le _⟩ dX9_dates_2 (fun H locs hP hS => ?_)
  refine r_astoren (i := 2) (lv' := [(2, va_rf (ro ad 5 r1)), (0, .ref (ad 0 0)), (1, .int p1)]) C dX9_dates_5 rfl hl (Nat.le_of_ble_eq_true rfl) rfl (fun ls hl => ?_)
  refine r_aloadn C dX9_dates_6 rfl (lv_at hl 0 rfl) ?_
  refine r_ifnonnull (tgt := 18) C dX9_dates_7 (by decide) (fun c4 => ?_) (fun c4 => ?_)
  · have hf := g_ip c4 hf
    obtain ⟨rfl, rfl, rfl⟩ := g_s3 hf
    exact r_throw CX hP hS hl.1 th_X9_85_87 dX9_dates_10 dX9_dates_13 dX9_dates_14 dX9_dates_17 ⟨Nat.le_of_ble_eq_true rfl, Nat.le_of_ble_eq_true rfl, Nat.le_of_ble_eq_true rfl, Nat.le_of_ble_eq_true rfl⟩ 
  · have hf := g_in c4 hf
    refine lv_aload_n hx hb dX9_dates_18 rfl (lv_at hl 1 rfl) ?_
    refine r_aloadn C dX9_dates_19 rfl (lv_at hl 0 rfl) ?_
    obtain ⟨j5, h6, hf⟩ := dr_in hf
    rw [gref h6]
    obtain ⟨r7, X8, h9, hf⟩ := b2_in hf
    refine r_cVi (rest := []) C hP hS hl.1 (s_X9_spansOf hW hD0 ha_l0 h6.2.2 h9) ix_X9_spansOf iv_X9_spansOf lk_X9_259 ⟨rfl, rfl, Nat.le_of_ble_eq_true rfl, Nat.le_of_ble_eq_true rfl⟩ ha_l0 (ct_0 _ _ _ _) rfl rfl rfl rfl (Nat.le_of_ble_eq_true rfl) ⟨Nat.zero_le _, Nat.zero_le _⟩ dX9_dates_20 (fun H locs hP hS => ?_)
    obtain ⟨rfl, rfl, rfl⟩ := g_s3 hf
    exact r_iretX CX hP hS dX9_dates_23

theorem s_X9_dates {l : Launch} {D : va_G} {cA : Nat → ClassId} {ad : Nat → Nat → Nat} {NL : List (Nat × Nat)} {N : Nat} {p1 : Int32} {X : gM} {kx : Nat} {rr : Int32} {XX : gM} (htr : l.stackTraces = false) (hW : gWf NL) (hD0 : gD (fun _ => True) ad NL) (ha_l0 : (0, 0) ∈ NL) (hf : X9_dates (gal NL) N p1 X = some (kx, rr, XX)) : gCX l yX9_dates cX9_dates 3 (some .int) rm_X9_dates D cA ad NL [.ref (ad 0 0), .int p1] X kx (some (.int rr)) XX :=
  g_ofX (by decide) htr hD0 (Nat.le_of_ble_eq_true rfl) rfl (fun p e s m below meth c ls CX hP hS hl => w_X9_dates CX hW hD0 ha_l0 X _ _ ls hP hS hl hf)
def rm_X9_match : Room := { frames := 6, cells := 1, slots := 6, locals := 101 }
set_option maxRecDepth 100000 in
set_option maxHeartbeats 4000000 in
theorem s_X9_match_J153 {p : Program} {l : Launch} {e : Env} {s : State} {m : MethodId} {args : Array Value} {below : List Frame} {meth : Method} {c : Code} {D : va_G} {cA : Nat → ClassId} {ad : Nat → Nat → Nat} {NL : List (Nat × Nat)} {A : Nat → Prop} {rr : Int32} {XX : gM} {N : Nat} {kx : Nat} (CX : gCxX p c l meth m s args cX9_match 8 (some .int) RX9 D cA ad NL A) (hW : gWf NL) (hD0 : gD (fun _ => True) ad NL) : ∀ (s0 : Int32) (X : gM) (H : Heap) (locs : List Loc) (ls : Array Slot), gH D cA ad NL X H → va_S A s.heap H locs → lv_has ls 8 [] → X9_match_J153 (gal NL) N s0 X = some (kx, rr, XX) → W p l e rm_X9_match s m args below meth c H locs 0 0 (vx_MQ below (gQx D cA ad NL kx (some (.int rr)) XX A) (gXx D cA ad NL kx XX A) args s 1 6 A) (F0 m 153 ls [.int s0]) := by
  have C := CX.1
  have hx := C.1
  have hb := C.2.1
  intro s0 X H locs ls hP hS hl hf
  rw [X9_match_J153] at hf
  obtain ⟨rfl, rfl, rfl⟩ := g_s3 hf
  exact r_iretX CX hP hS dX9_match_153

set_option maxRecDepth 100000 in
set_option maxHeartbeats 4000000 in
theorem s_X9_match_J21 {p : Program} {l : Launch} {e : Env} {s : State} {m : MethodId} {args : Array Value} {below : List Frame} {meth : Method} {c : Code} {D : va_G} {cA : Nat → ClassId} {ad : Nat → Nat → Nat} {NL : List (Nat × Nat)} {A : Nat → Prop} {rr : Int32} {XX : gM} {N : Nat} {kx : Nat} (CX : gCxX p c l meth m s args cX9_match 8 (some .int) RX9 D cA ad NL A) (hW : gWf NL) (hD0 : gD (fun _ => True) ad NL) : ∀ (X : gM) (H : Heap) (locs : List Loc) (ls : Array Slot), gH D cA ad NL X H → va_S A s.heap H locs → lv_has ls 8 [] → X9_match_J21 (gal NL) N X = some (kx, rr, XX) → W p l e rm_X9_match s m args below meth c H locs 0 0 (vx_MQ below (gQx D cA ad NL kx (some (.int rr)) XX A) (gXx D cA ad NL kx XX A) args s 1 6 A) (F0 m 21 ls []) := by
  have C := CX.1
  have hx := C.1
  have hb := C.2.1
  intro X H locs ls hP hS hl hf
  rw [X9_match_J21] at hf
  obtain ⟨rfl, rfl, rfl⟩ := g_s3 hf
  exact r_throw CX hP hS hl.1 th_X9_85_87 dX9_match_21 dX9_match_24 dX9_match_25 dX9_match_28 ⟨Nat.le_of_ble_eq_true rfl, Nat.le_of_ble_eq_true rfl, Nat.le_of_ble_eq_true rfl, Nat.le_of_ble_eq_true rfl⟩ 

set_option maxRecDepth 100000 in
set_option maxHeartbeats 4000000 in
theorem w_X9_match {p : Program} {l : Launch} {e : Env} {s : State} {m : MethodId} {args : Array Value} {below : List Frame} {meth : Method} {c : Code} {D : va_G} {cA : Nat → ClassId} {ad : Nat → Nat → Nat} {NL : List (Nat × Nat)} {A : Nat → Prop} {rr : Int32} {XX : gM} {N : Nat} {kx : Nat} (CX : gCxX p c l meth m s args cX9_match 8 (some .int) RX9 D cA ad NL A) (hW : gWf NL) (hD0 : gD (fun _ => True) ad NL) {p1 : Int32} {p2 : Int32} {p3 : Int32} {p4 : Int32} {p5 : Int32} (ha_l0 : (0, 0) ∈ NL) : ∀ (X : gM) (H : Heap) (locs : List Loc) (ls : Array Slot), gH D cA ad NL X H → va_S A s.heap H locs → lv_has ls 8 [(0, .ref (ad 0 0)), (1, .int p1), (2, .int p2), (3, .int p3), (4, .int p4), (5, .int p5)] → X9_match (gal NL) N p1 p2 p3 p4 p5 X = some (kx, rr, XX) → W p l e rm_X9_match s m args below meth c H locs 0 0 (vx_MQ below (gQx D cA ad NL kx (some (.int rr)) XX A) (gXx D cA ad NL kx XX A) args s 1 6 A) (F0 m 0 ls []) := by
  have C := CX.1
  have hx := C.1
  have hb := C.2.1
  intro X H locs ls hP hS hl hf
  rw [X9_match] at hf
  refine lv_aload_n hx hb dX9_match_0 rfl (lv_at hl 0 rfl) ?_
  refine lv_iload_n hx hb dX9_match_1 rfl (lv_at hl 2 rfl) ?_
  obtain ⟨r1, X2, h3, hf⟩ := b2_in hf
  refine r_cVq (rest := []) C hP hS hl.1 (s_X9_leafOf hW hD0 ha_l0 h3) ix_X9_leafOf iv_X9_leafOf lk_X9_179 ⟨rfl, rfl, Nat.le_of_ble_eq_true rfl, Nat.le_of_ble_eq_true rfl⟩ ha_l0 (ct_0 _ _ _ _) rfl rfl rfl rfl (Nat.le_of_ble_eq_true rfl) ⟨Nat.zero_le _, Nat.zero_le _⟩ dX9_match_2 (fun H locs hP hS => ?_)
  refine r_astore (i := 6) (lv' := [(6, va_rf (ro ad 5 r1)), (0, .ref (ad 0 0)), (1, .int p1), (2, .int p2), (3, .int p3), (4, .int p4), (5, .int p5)]) C dX9_match_5 hl (Nat.le_of_ble_eq_true rfl) rfl (fun ls hl => ?_)
  refine r_aload C dX9_match_7 (lv_at hl 0 rfl) ?_
  refine r_ifnull (tgt := 21) C dX9_match_9 (by decide) (fun c4 => ?_) (fun c4 => ?_)
  · have hf := g_ip c4 hf
    exact s_X9_match_J21 CX hW hD0 X2 _ _ _ hP hS (lv_sub hl [] rfl) hf
  · have hf := g_in c4 hf
    refine r_aload C dX9_match_12 (lv_at hl 0 rfl) ?_
    refine lv_iload_n hx hb dX9_match_14 rfl (lv_at hl 4 rfl) ?_
    obtain ⟨j5, h6, hf⟩ := dr_in hf
    rw [gref h6]
    obtain ⟨r7, X8, h9, hf⟩ := b2_in hf
    refine r_cVi (rest := []) C hP hS hl.1 (s_X2_hasLine hW hD0 h6.2.2 h9) ix_X2_hasLine iv_X2_hasLine lk_X9_183 ⟨rfl, rfl, Nat.le_of_ble_eq_true rfl, Nat.le_of_ble_eq_true rfl⟩ h6.2.2 (ct_5 _ _ _ _) rfl rfl rfl rfl (Nat.le_of_ble_eq_true rfl) ⟨Nat.zero_le _, Nat.zero_le _⟩ dX9_match_15 (fun H locs hP hS => ?_)
    refine lv_if_ne (tgt := 29) hx hb dX9_match_18 (by decide) (fun c10 => ?_) (fun c10 => ?_)
    · have hf := g_in c10 hf
      refine lv_iload_n hx hb dX9_match_29 rfl (lv_at hl 2 rfl) ?_
      refine lv_iconst (v := 0) hx hb dX9_match_30 (by decide) ?_
      refine lv_aload_n hx hb dX9_match_31 rfl (lv_at hl 1 rfl) ?_
      refine r_get C hP ha_l0 (ct_0 _ _ _ _) fx_X9_58 (fg_0_10 _ _ _) dX9_match_32 ?_
      refine r_alen C hP 4 (gs_0_10 hW ha_l0) (ct_28 _ _ _ _) rfl rfl dX9_match_35 ?_
      refine lv_iconst (v := 1) hx hb dX9_match_36 (by decide) ?_
      refine lv_isub hx hb dX9_match_37 ?_
      obtain ⟨r11, X12, h13, hf⟩ := b2_in hf
      refine r_cSi (rest := []) C hP hS hl.1 (s_X9_isWithin hW hD0  h13) ix_X9_isWithin is_X9_isWithin ls_X9_88 ⟨rfl, rfl, Nat.le_of_ble_eq_true rfl, Nat.le_of_ble_eq_true rfl⟩ rfl rfl (Nat.le_of_ble_eq_true rfl) ⟨Nat.zero_le _, Nat.zero_le _⟩ dX9_match_38 (fun H locs hP hS => ?_)
      refine lv_if_ne (tgt := 52) hx hb dX9_match_41 (by decide) (fun c14 => ?_) (fun c14 => ?_)
      · have hf := g_in c14 hf
        refine lv_aload_n hx hb dX9_match_52 rfl (lv_at hl 1 rfl) ?_
        refine r_get C hP ha_l0 (ct_0 _ _ _ _) fx_X9_58 (fg_0_10 _ _ _) dX9_match_53 ?_
        refine lv_iload_n hx hb dX9_match_56 rfl (lv_at hl 2 rfl) ?_
        obtain ⟨j15, h16, hf⟩ := rd_in hf
        refine r_aldq C hP (gs_0_10 hW ha_l0) (ct_28 _ _ _ _) rfl h16 dX9_match_57 ?_
        refine r_astore (i := 7) (lv' := [(7, va_rf (ro ad 26 (X12 28 0 j15))), (6, va_rf (ro ad 5 r1)), (0, .ref (ad 0 0)), (1, .int p1), (2, .int p2), (3, .int p3), (4, .int p4), (5, .int p5)]) C dX9_match_58 hl (Nat.le_of_ble_eq_true rfl) (by simp [g_cat, g_catr, g_cati]) (fun ls hl => ?_)
        refine r_aload C dX9_match_60 (lv_at hl 0 rfl) ?_
        refine r_ifnonnull (tgt := 73) C dX9_match_62 (by decide) (fun c17 => ?_) (fun c17 => ?_)
        · have hf := g_ip c17 hf
          obtain ⟨rfl, rfl, rfl⟩ := g_s3 hf
          exact r_throw CX hP hS hl.1 th_X9_85_87 dX9_match_65 dX9_match_68 dX9_match_69 dX9_match_72 ⟨Nat.le_of_ble_eq_true rfl, Nat.le_of_ble_eq_true rfl, Nat.le_of_ble_eq_true rfl, Nat.le_of_ble_eq_true rfl⟩ 
        · have hf := g_in c17 hf
          refine lv_iload hx hb dX9_match_73 (lv_at hl 6 rfl) ?_
          obtain ⟨r18, X19, h20, hf⟩ := b2_in hf
          refine r_cSi (rest := []) C hP hS hl.1 (s_X9_isLayer hW hD0  h20) ix_X9_isLayer is_X9_isLayer ls_X9_186 ⟨rfl, rfl, Nat.le_of_ble_eq_true rfl, Nat.le_of_ble_eq_true rfl⟩ rfl rfl (Nat.le_of_ble_eq_true rfl) ⟨Nat.zero_le _, Nat.zero_le _⟩ dX9_match_75 (fun H locs hP hS => ?_)
          refine lv_if_ne (tgt := 89) hx hb dX9_match_78 (by decide) (fun c21 => ?_) (fun c21 => ?_)
          · have hf := g_in c21 hf
            refine lv_aload_n hx hb dX9_match_89 rfl (lv_at hl 2 rfl) ?_
            refine r_get C hP ha_l0 (ct_0 _ _ _ _) fx_X9_67 (fg_0_12 _ _ _) dX9_match_90 ?_
            refine r_aload C dX9_match_93 (lv_at hl 1 rfl) ?_
            rw [gref h6]
            refine lv_iload_n hx hb dX9_match_95 rfl (lv_at hl 5 rfl) ?_
            refine lv_iload hx hb dX9_match_96 (lv_at hl 6 rfl) ?_
            refine lv_aload_n hx hb dX9_match_98 rfl (lv_at hl 2 rfl) ?_
            refine r_get C hP ha_l0 (ct_0 _ _ _ _) fx_X9_51 (fg_0_8 _ _ _) dX9_match_99 ?_
            obtain ⟨r22, X23, h24, hf⟩ := b2_in hf
            refine r_cVv (rest := []) C hP hS hl.1 (s_X6_read hW hD0 (gs_0_12 hW ha_l0) h6.2.2 (gs_0_8 hW ha_l0) h24) ix_X6_read iv_X6_read lk_X9_189 ⟨rfl, rfl, Nat.le_of_ble_eq_true rfl, Nat.le_of_ble_eq_true rfl⟩ (gs_0_12 hW ha_l0) (ct_29 _ _ _ _) rfl rfl rfl rfl (Nat.le_of_ble_eq_true rfl) ⟨Nat.zero_le _, Nat.zero_le _⟩ dX9_match_102 (fun H locs hP hS => ?_)
            refine lv_aload_n hx hb dX9_match_105 rfl (lv_at hl 2 rfl) ?_
            refine r_get C hP ha_l0 (ct_0 _ _ _ _) fx_X9_67 (fg_0_12 _ _ _) dX9_match_106 ?_
            obtain ⟨r25, X26, h27, hf⟩ := b2_in hf
            refine r_cVi (rest := []) C hP hS hl.1 (s_X6_bestWeight hW hD0 (gs_0_12 hW ha_l0) h27) ix_X6_bestWeight iv_X6_bestWeight lk_X9_193 ⟨rfl, rfl, Nat.le_of_ble_eq_true rfl, Nat.le_of_ble_eq_true rfl⟩ (gs_0_12 hW ha_l0) (ct_29 _ _ _ _) rfl rfl rfl rfl (Nat.le_of_ble_eq_true rfl) ⟨Nat.zero_le _, Nat.zero_le _⟩ dX9_match_109 (fun H locs hP hS => ?_)
            refine lv_iconst (v := -1) hx hb dX9_match_112 (by decide) ?_
            refine lv_icmp_ne (tgt := 118) hx hb dX9_match_113 (by decide) (fun c28 => ?_) (fun c28 => ?_)
            · have hf := g_in c28 hf
              refine lv_aload_n hx hb dX9_match_118 rfl (lv_at hl 2 rfl) ?_
              refine r_get C hP ha_l0 (ct_0 _ _ _ _) fx_X9_74 (fg_0_13 _ _ _) dX9_match_119 ?_
              refine lv_aload_n hx hb dX9_match_122 rfl (lv_at hl 2 rfl) ?_
              refine r_get C hP ha_l0 (ct_0 _ _ _ _) fx_X9_67 (fg_0_12 _ _ _) dX9_match_123 ?_
              refine r_aload C dX9_match_126 (lv_at hl 0 rfl) ?_
              obtain ⟨j29, h30, hf⟩ := dr_in hf
              rw [gref h30]
              obtain ⟨r31, X32, h33, hf⟩ := b2_in hf
              refine r_cVv (rest := []) C hP hS hl.1 (s_X4_align hW hD0 (gs_0_13 hW ha_l0) (gs_0_12 hW ha_l0) h30.2.2 h33) ix_X4_align iv_X4_align lk_X9_263 ⟨rfl, rfl, Nat.le_of_ble_eq_true rfl, Nat.le_of_ble_eq_true rfl⟩ (gs_0_13 hW ha_l0) (ct_40 _ _ _ _) rfl rfl rfl rfl (Nat.le_of_ble_eq_true rfl) ⟨Nat.zero_le _, Nat.zero_le _⟩ dX9_match_128 (fun H locs hP hS => ?_)
              refine lv_iload hx hb dX9_match_131 (lv_at hl 7 rfl) ?_
              refine lv_if_eq (tgt := 146) hx hb dX9_match_133 (by decide) (fun c34 => ?_) (fun c34 => ?_)
              · have hf := g_ip c34 hf
                refine lv_aload_n hx hb dX9_match_146 rfl (lv_at hl 2 rfl) ?_
                refine r_get C hP ha_l0 (ct_0 _ _ _ _) fx_X9_74 (fg_0_13 _ _ _) dX9_match_147 ?_
                refine r_get C hP (gs_0_13 hW ha_l0) (ct_40 _ _ _ _) fx_X9_270 (fg_40_0 _ _ _) dX9_match_150 ?_
                exact s_X9_match_J153 CX hW hD0 ((X32 40 0 0)) X32 _ _ _ hP hS (lv_sub hl [] rfl) hf
              · have hf := g_in c34 hf
                refine lv_aload_n hx hb dX9_match_136 rfl (lv_at hl 2 rfl) ?_
                refine r_get C hP ha_l0 (ct_0 _ _ _ _) fx_X9_74 (fg_0_13 _ _ _) dX9_match_137 ?_
                refine r_get C hP (gs_0_13 hW ha_l0) (ct_40 _ _ _ _) fx_X9_267 (fg_40_1 _ _ _) dX9_match_140 ?_
                refine lv_goto (tgt := 153) hx hb dX9_match_143 (by decide) ?_
                exact s_X9_match_J153 CX hW hD0 ((X32 40 0 1)) X32 _ _ _ hP hS (lv_sub hl [] rfl) hf
            · have hf := g_ip c28 hf
              refine lv_iconst (v := -1) hx hb dX9_match_116 (by decide) ?_
              obtain ⟨rfl, rfl, rfl⟩ := g_s3 hf
              exact r_iretX CX hP hS dX9_match_117
          · have hf := g_ip c21 hf
            obtain ⟨rfl, rfl, rfl⟩ := g_s3 hf
            exact r_throw CX hP hS hl.1 th_X9_92_94 dX9_match_81 dX9_match_84 dX9_match_85 dX9_match_88 ⟨Nat.le_of_ble_eq_true rfl, Nat.le_of_ble_eq_true rfl, Nat.le_of_ble_eq_true rfl, Nat.le_of_ble_eq_true rfl⟩ 
      · have hf := g_ip c14 hf
        obtain ⟨rfl, rfl, rfl⟩ := g_s3 hf
        exact r_throw CX hP hS hl.1 th_X9_85_87 dX9_match_44 dX9_match_47 dX9_match_48 dX9_match_51 ⟨Nat.le_of_ble_eq_true rfl, Nat.le_of_ble_eq_true rfl, Nat.le_of_ble_eq_true rfl, Nat.le_of_ble_eq_true rfl⟩ 
    · have hf := g_ip c10 hf
      exact s_X9_match_J21 CX hW hD0 X8 _ _ _ hP hS (lv_sub hl [] rfl) hf

theorem s_X9_match {l : Launch} {D : va_G} {cA : Nat → ClassId} {ad : Nat → Nat → Nat} {NL : List (Nat × Nat)} {N : Nat} {p1 : Int32} {p2 : Int32} {p3 : Int32} {p4 : Int32} {p5 : Int32} {X : gM} {kx : Nat} {rr : Int32} {XX : gM} (htr : l.stackTraces = false) (hW : gWf NL) (hD0 : gD (fun _ => True) ad NL) (ha_l0 : (0, 0) ∈ NL) (hf : X9_match (gal NL) N p1 p2 p3 p4 p5 X = some (kx, rr, XX)) : gCX l yX9_match cX9_match 8 (some .int) rm_X9_match D cA ad NL [.ref (ad 0 0), .int p1, .int p2, .int p3, .int p4, .int p5] X kx (some (.int rr)) XX :=
  g_ofX (by decide) htr hD0 (Nat.le_of_ble_eq_true rfl) rfl (fun p e s m below meth c ls CX hP hS hl => w_X9_match CX hW hD0 ha_l0 X _ _ ls hP hS hl hf)
def rm_X9_state : Room := { frames := 6, cells := 1, slots := 6, locals := 101 }
set_option maxRecDepth 100000 in
set_option maxHeartbeats 4000000 in
theorem s_X9_state_J22 {p : Program} {l : Launch} {e : Env} {s : State} {m : MethodId} {args : Array Value} {below : List Frame} {meth : Method} {c : Code} {D : va_G} {cA : Nat → ClassId} {ad : Nat → Nat → Nat} {NL : List (Nat × Nat)} {A : Nat → Prop} {rr : Int32} {XX : gM} {N : Nat} {kx : Nat} (CX : gCxX p c l meth m s args cX9_state 6 (some .int) RX9 D cA ad NL A) (hW : gWf NL) (hD0 : gD (fun _ => True) ad NL) : ∀ (X : gM) (H : Heap) (locs : List Loc) (ls : Array Slot), gH D cA ad NL X H → va_S A s.heap H locs → lv_has ls 6 [] → X9_state_J22 (gal NL) N X = some (kx, rr, XX) → W p l e rm_X9_state s m args below meth c H locs 0 0 (vx_MQ below (gQx D cA ad NL kx (some (.int rr)) XX A) (gXx D cA ad NL kx XX A) args s 1 6 A) (F0 m 22 ls []) := by
  have C := CX.1
  have hx := C.1
  have hb := C.2.1
  intro X H locs ls hP hS hl hf
  rw [X9_state_J22] at hf
  obtain ⟨rfl, rfl, rfl⟩ := g_s3 hf
  exact r_throw CX hP hS hl.1 th_X9_85_87 dX9_state_22 dX9_state_25 dX9_state_26 dX9_state_29 ⟨Nat.le_of_ble_eq_true rfl, Nat.le_of_ble_eq_true rfl, Nat.le_of_ble_eq_true rfl, Nat.le_of_ble_eq_true rfl⟩ 

set_option maxRecDepth 100000 in
set_option maxHeartbeats 4000000 in
theorem w_X9_state {p : Program} {l : Launch} {e : Env} {s : State} {m : MethodId} {args : Array Value} {below : List Frame} {meth : Method} {c : Code} {D : va_G} {cA : Nat → ClassId} {ad : Nat → Nat → Nat} {NL : List (Nat × Nat)} {A : Nat → Prop} {rr : Int32} {XX : gM} {N : Nat} {kx : Nat} (CX : gCxX p c l meth m s args cX9_state 6 (some .int) RX9 D cA ad NL A) (hW : gWf NL) (hD0 : gD (fun _ => True) ad NL) {p1 : Int32} {p2 : Int32} {p3 : Int32} {p4 : Int32} (ha_l0 : (0, 0) ∈ NL) : ∀ (X : gM) (H : Heap) (locs : List Loc) (ls : Array Slot), gH D cA ad NL X H → va_S A s.heap H locs → lv_has ls 6 [(0, .ref (ad 0 0)), (1, .int p1), (2, .int p2), (3, .int p3), (4, .int p4)] → X9_state (gal NL) N p1 p2 p3 p4 X = some (kx, rr, XX) → W p l e rm_X9_state s m args below meth c H locs 0 0 (vx_MQ below (gQx D cA ad NL kx (some (.int rr)) XX A) (gXx D cA ad NL kx XX A) args s 1 6 A) (F0 m 0 ls []) := by
  have C := CX.1
  have hx := C.1
  have hb := C.2.1
  intro X H locs ls hP hS hl hf
  rw [X9_state] at hf
  refine lv_aload_n hx hb dX9_state_0 rfl (lv_at hl 0 rfl) ?_
  refine lv_iload_n hx hb dX9_state_1 rfl (lv_at hl 1 rfl) ?_
  obtain ⟨r1, X2, h3, hf⟩ := b2_in hf
  refine r_cVq (rest := []) C hP hS hl.1 (s_X9_leafOf hW hD0 ha_l0 h3) ix_X9_leafOf iv_X9_leafOf lk_X9_179 ⟨rfl, rfl, Nat.le_of_ble_eq_true rfl, Nat.le_of_ble_eq_true rfl⟩ ha_l0 (ct_0 _ _ _ _) rfl rfl rfl rfl (Nat.le_of_ble_eq_true rfl) ⟨Nat.zero_le _, Nat.zero_le _⟩ dX9_state_2 (fun H locs hP hS => ?_)
  refine r_astore (i := 5) (lv' := [(5, va_rf (ro ad 5 r1)), (0, .ref (ad 0 0)), (1, .int p1), (2, .int p2), (3, .int p3), (4, .int p4)]) C dX9_state_5 hl (Nat.le_of_ble_eq_true rfl) rfl (fun ls hl => ?_)
  refine r_aload C dX9_state_7 (lv_at hl 0 rfl) ?_
  refine r_ifnull (tgt := 22) C dX9_state_9 (by decide) (fun c4 => ?_) (fun c4 => ?_)
  · have hf := g_ip c4 hf
    exact s_X9_state_J22 CX hW hD0 X2 _ _ _ hP hS (lv_sub hl [] rfl) hf
  · have hf := g_in c4 hf
    refine r_aload C dX9_state_12 (lv_at hl 0 rfl) ?_
    refine lv_iload_n hx hb dX9_state_14 rfl (lv_at hl 3 rfl) ?_
    refine lv_iload_n hx hb dX9_state_15 rfl (lv_at hl 4 rfl) ?_
    obtain ⟨j5, h6, hf⟩ := dr_in hf
    rw [gref h6]
    obtain ⟨r7, X8, h9, hf⟩ := b2_in hf
    refine r_cVq (rest := []) C hP hS hl.1 (s_X2_cellAt hW hD0 h6.2.2 h9) ix_X2_cellAt iv_X2_cellAt lk_X9_199 ⟨rfl, rfl, Nat.le_of_ble_eq_true rfl, Nat.le_of_ble_eq_true rfl⟩ h6.2.2 (ct_5 _ _ _ _) rfl rfl rfl rfl (Nat.le_of_ble_eq_true rfl) ⟨Nat.zero_le _, Nat.zero_le _⟩ dX9_state_16 (fun H locs hP hS => ?_)
    refine r_ifnonnull (tgt := 30) C dX9_state_19 (by decide) (fun c10 => ?_) (fun c10 => ?_)
    · have hf := g_ip c10 hf
      exact s_X9_state_J22 CX hW hD0 X8 _ _ _ hP hS (lv_sub hl [] rfl) hf
    · have hf := g_in c10 hf
      refine lv_iload hx hb dX9_state_30 (lv_at hl 5 rfl) ?_
      obtain ⟨r11, X12, h13, hf⟩ := b2_in hf
      refine r_cSi (rest := []) C hP hS hl.1 (s_X9_isLayer hW hD0  h13) ix_X9_isLayer is_X9_isLayer ls_X9_186 ⟨rfl, rfl, Nat.le_of_ble_eq_true rfl, Nat.le_of_ble_eq_true rfl⟩ rfl rfl (Nat.le_of_ble_eq_true rfl) ⟨Nat.zero_le _, Nat.zero_le _⟩ dX9_state_32 (fun H locs hP hS => ?_)
      refine lv_if_ne (tgt := 46) hx hb dX9_state_35 (by decide) (fun c14 => ?_) (fun c14 => ?_)
      · have hf := g_in c14 hf
        refine lv_aload_n hx hb dX9_state_46 rfl (lv_at hl 1 rfl) ?_
        refine r_get C hP ha_l0 (ct_0 _ _ _ _) fx_X9_67 (fg_0_12 _ _ _) dX9_state_47 ?_
        refine r_aload C dX9_state_50 (lv_at hl 0 rfl) ?_
        rw [gref h6]
        refine lv_iload_n hx hb dX9_state_52 rfl (lv_at hl 3 rfl) ?_
        refine lv_iload hx hb dX9_state_53 (lv_at hl 5 rfl) ?_
        refine lv_aload_n hx hb dX9_state_55 rfl (lv_at hl 1 rfl) ?_
        refine r_get C hP ha_l0 (ct_0 _ _ _ _) fx_X9_51 (fg_0_8 _ _ _) dX9_state_56 ?_
        obtain ⟨r15, X16, h17, hf⟩ := b2_in hf
        refine r_cVv (rest := []) C hP hS hl.1 (s_X6_read hW hD0 (gs_0_12 hW ha_l0) h6.2.2 (gs_0_8 hW ha_l0) h17) ix_X6_read iv_X6_read lk_X9_189 ⟨rfl, rfl, Nat.le_of_ble_eq_true rfl, Nat.le_of_ble_eq_true rfl⟩ (gs_0_12 hW ha_l0) (ct_29 _ _ _ _) rfl rfl rfl rfl (Nat.le_of_ble_eq_true rfl) ⟨Nat.zero_le _, Nat.zero_le _⟩ dX9_state_59 (fun H locs hP hS => ?_)
        refine lv_aload_n hx hb dX9_state_62 rfl (lv_at hl 1 rfl) ?_
        refine r_get C hP ha_l0 (ct_0 _ _ _ _) fx_X9_67 (fg_0_12 _ _ _) dX9_state_63 ?_
        refine lv_aload_n hx hb dX9_state_66 rfl (lv_at hl 1 rfl) ?_
        refine r_get C hP ha_l0 (ct_0 _ _ _ _) fx_X9_51 (fg_0_8 _ _ _) dX9_state_67 ?_
        obtain ⟨r18, X19, h20, hf⟩ := b2_in hf
        refine r_cVv (rest := []) C hP hS hl.1 (s_X6_gatherLetters hW hD0 (gs_0_12 hW ha_l0) (gs_0_8 hW ha_l0) h20) ix_X6_gatherLetters iv_X6_gatherLetters lk_X9_279 ⟨rfl, rfl, Nat.le_of_ble_eq_true rfl, Nat.le_of_ble_eq_true rfl⟩ (gs_0_12 hW ha_l0) (ct_29 _ _ _ _) rfl rfl rfl rfl (Nat.le_of_ble_eq_true rfl) ⟨Nat.zero_le _, Nat.zero_le _⟩ dX9_state_70 (fun H locs hP hS => ?_)
        refine lv_aload_n hx hb dX9_state_73 rfl (lv_at hl 1 rfl) ?_
        refine r_get C hP ha_l0 (ct_0 _ _ _ _) fx_X9_67 (fg_0_12 _ _ _) dX9_state_74 ?_
        refine lv_iload_n hx hb dX9_state_77 rfl (lv_at hl 4 rfl) ?_
        obtain ⟨r21, X22, h23, hf⟩ := b2_in hf
        refine r_cVi (rest := []) C hP hS hl.1 (s_X6_standing hW hD0 (gs_0_12 hW ha_l0) h23) ix_X6_standing iv_X6_standing lk_X9_283 ⟨rfl, rfl, Nat.le_of_ble_eq_true rfl, Nat.le_of_ble_eq_true rfl⟩ (gs_0_12 hW ha_l0) (ct_29 _ _ _ _) rfl rfl rfl rfl (Nat.le_of_ble_eq_true rfl) ⟨Nat.zero_le _, Nat.zero_le _⟩ dX9_state_78 (fun H locs hP hS => ?_)
        obtain ⟨rfl, rfl, rfl⟩ := g_s3 hf
        exact r_iretX CX hP hS dX9_state_81
      · have hf := g_ip c14 hf
        obtain ⟨rfl, rfl, rfl⟩ := g_s3 hf
        exact r_throw CX hP hS hl.1 th_X9_92_94 dX9_state_38 dX9_state_41 dX9_state_42 dX9_state_45 ⟨Nat.le_of_ble_eq_true rfl, Nat.le_of_ble_eq_true rfl, Nat.le_of_ble_eq_true rfl, Nat.le_of_ble_eq_true rfl⟩ 

theorem s_X9_state {l : Launch} {D : va_G} {cA : Nat → ClassId} {ad : Nat → Nat → Nat} {NL : List (Nat × Nat)} {N : Nat} {p1 : Int32} {p2 : Int32} {p3 : Int32} {p4 : Int32} {X : gM} {kx : Nat} {rr : Int32} {XX : gM} (htr : l.stackTraces = false) (hW : gWf NL) (hD0 : gD (fun _ => True) ad NL) (ha_l0 : (0, 0) ∈ NL) (hf : X9_state (gal NL) N p1 p2 p3 p4 X = some (kx, rr, XX)) : gCX l yX9_state cX9_state 6 (some .int) rm_X9_state D cA ad NL [.ref (ad 0 0), .int p1, .int p2, .int p3, .int p4] X kx (some (.int rr)) XX :=
  g_ofX (by decide) htr hD0 (Nat.le_of_ble_eq_true rfl) rfl (fun p e s m below meth c ls CX hP hS hl => w_X9_state CX hW hD0 ha_l0 X _ _ ls hP hS hl hf)
def rm_X9_rests : Room := { frames := 16, cells := 1, slots := 6, locals := 445 }
set_option maxRecDepth 100000 in
set_option maxHeartbeats 4000000 in
theorem s_X9_rests_J120 {p : Program} {l : Launch} {e : Env} {s : State} {m : MethodId} {args : Array Value} {below : List Frame} {meth : Method} {c : Code} {D : va_G} {cA : Nat → ClassId} {ad : Nat → Nat → Nat} {NL : List (Nat × Nat)} {A : Nat → Prop} {rr : Int32} {XX : gM} {N : Nat} {kx : Nat} (CX : gCxX p c l meth m s args cX9_rests 10 (some .int) RX9 D cA ad NL A) (hW : gWf NL) (hD0 : gD (fun _ => True) ad NL) : ∀ (p5 : Int32) (X : gM) (H : Heap) (locs : List Loc) (ls : Array Slot), gH D cA ad NL X H → va_S A s.heap H locs → lv_has ls 10 [(5, .int p5)] → X9_rests_J120 (gal NL) N p5 X = some (kx, rr, XX) → W p l e rm_X9_rests s m args below meth c H locs 0 0 (vx_MQ below (gQx D cA ad NL kx (some (.int rr)) XX A) (gXx D cA ad NL kx XX A) args s 1 6 A) (F0 m 120 ls []) := by
  have C := CX.1
  have hx := C.1
  have hb := C.2.1
  intro p5 X H locs ls hP hS hl hf
  rw [X9_rests_J120] at hf
  refine lv_iload hx hb dX9_rests_120 (lv_at hl 0 rfl) ?_
  obtain ⟨rfl, rfl, rfl⟩ := g_s3 hf
  exact r_iretX CX hP hS dX9_rests_122

set_option maxRecDepth 100000 in
set_option maxHeartbeats 4000000 in
theorem s_X9_rests_J114 {p : Program} {l : Launch} {e : Env} {s : State} {m : MethodId} {args : Array Value} {below : List Frame} {meth : Method} {c : Code} {D : va_G} {cA : Nat → ClassId} {ad : Nat → Nat → Nat} {NL : List (Nat × Nat)} {A : Nat → Prop} {rr : Int32} {XX : gM} {N : Nat} {kx : Nat} {kk : Int32 → Int32 → Int32 → Int32 → Int32 → Int32 → gM → Option (Nat × Int32 × gM)} {k120 : Int32 → gM → Option (Nat × Int32 × gM)} (CX : gCxX p c l meth m s args cX9_rests 10 (some .int) RX9 D cA ad NL A) (hW : gWf NL) (hD0 : gD (fun _ => True) ad NL) (hkk : ∀ (p1 : Int32) (p3 : Int32) (p4 : Int32) (p5 : Int32) (p7 : Int32) (p8 : Int32) (Y : gM) (H : Heap) (locs : List Loc) (ls : Array Slot), gH D cA ad NL Y H → va_S A s.heap H locs → lv_has ls 10 [(1, .int p1), (3, .int p3), (4, va_rf (ro ad 14 p4)), (5, .int p5), (6, .ref (ad 22 0)), (7, .int p7), (8, .int p8)] → (22, 0) ∈ NL → kk p1 p3 p4 p5 p7 p8 Y = some (kx, rr, XX) → W p l e rm_X9_rests s m args below meth c H locs 0 0 (vx_MQ below (gQx D cA ad NL kx (some (.int rr)) XX A) (gXx D cA ad NL kx XX A) args s 1 6 A) (F0 m 65 ls [])) (hk120 : ∀ (p5 : Int32) (Y : gM) (H : Heap) (locs : List Loc) (ls : Array Slot), gH D cA ad NL Y H → va_S A s.heap H locs → lv_has ls 10 [(5, .int p5)] → k120 p5 Y = some (kx, rr, XX) → W p l e rm_X9_rests s m args below meth c H locs 0 0 (vx_MQ below (gQx D cA ad NL kx (some (.int rr)) XX A) (gXx D cA ad NL kx XX A) args s 1 6 A) (F0 m 120 ls [])) : ∀ (p1 : Int32) (p3 : Int32) (p4 : Int32) (p5 : Int32) (p7 : Int32) (p8 : Int32) (X : gM) (H : Heap) (locs : List Loc) (ls : Array Slot), gH D cA ad NL X H → va_S A s.heap H locs → lv_has ls 10 [(1, .int p1), (3, .int p3), (4, va_rf (ro ad 14 p4)), (5, .int p5), (6, .ref (ad 22 0)), (7, .int p7), (8, .int p8)] → (22, 0) ∈ NL → X9_rests_J114 (gal NL) N kk k120 p1 p3 p4 p5 p7 p8 X = some (kx, rr, XX) → W p l e rm_X9_rests s m args below meth c H locs 0 0 (vx_MQ below (gQx D cA ad NL kx (some (.int rr)) XX A) (gXx D cA ad NL kx XX A) args s 1 6 A) (F0 m 114 ls []) := by
  have C := CX.1
  have hx := C.1
  have hb := C.2.1
  intro p1 p3 p4 p5 p7 p8 X H locs ls hP hS hl ha_l6 hf
  rw [X9_rests_J114] at hf
  obtain ⟨v1, e2, hf⟩ := gl_in hf
  refine lv_iinc (v := v1) (lv' := [(8, .int v1), (1, .int p1), (3, .int p3), (4, va_rf (ro ad 14 p4)), (5, .int p5), (6, .ref (ad 22 0)), (7, .int p7)]) hx hb dX9_rests_114 hl (k := 6) rfl (by rw [e2]; rfl) (Nat.le_of_ble_eq_true rfl) rfl (fun ls hl => ?_)
  refine lv_goto (tgt := 65) hx hb dX9_rests_117 (by decide) ?_
  exact hkk p1 p3 p4 p5 p7 v1 X _ _ _ hP hS (lv_sub hl [1, 2, 3, 4, 5, 6, 0] rfl) ha_l6 hf

set_option maxRecDepth 100000 in
set_option maxHeartbeats 4000000 in
theorem s_X9_rests_L65 {p : Program} {l : Launch} {e : Env} {s : State} {m : MethodId} {args : Array Value} {below : List Frame} {meth : Method} {c : Code} {D : va_G} {cA : Nat → ClassId} {ad : Nat → Nat → Nat} {NL : List (Nat × Nat)} {A : Nat → Prop} {rr : Int32} {XX : gM} {N : Nat} {kx : Nat} {k120 : Int32 → gM → Option (Nat × Int32 × gM)} (CX : gCxX p c l meth m s args cX9_rests 10 (some .int) RX9 D cA ad NL A) (hW : gWf NL) (hD0 : gD (fun _ => True) ad NL) (hk120 : ∀ (p5 : Int32) (Y : gM) (H : Heap) (locs : List Loc) (ls : Array Slot), gH D cA ad NL Y H → va_S A s.heap H locs → lv_has ls 10 [(5, .int p5)] → k120 p5 Y = some (kx, rr, XX) → W p l e rm_X9_rests s m args below meth c H locs 0 0 (vx_MQ below (gQx D cA ad NL kx (some (.int rr)) XX A) (gXx D cA ad NL kx XX A) args s 1 6 A) (F0 m 120 ls [])) : ∀ (n : Nat) (p1 : Int32) (p3 : Int32) (p4 : Int32) (p5 : Int32) (p7 : Int32) (p8 : Int32) (X : gM) (H : Heap) (locs : List Loc) (ls : Array Slot), gH D cA ad NL X H → va_S A s.heap H locs → lv_has ls 10 [(1, .int p1), (3, .int p3), (4, va_rf (ro ad 14 p4)), (5, .int p5), (6, .ref (ad 22 0)), (7, .int p7), (8, .int p8)] → (22, 0) ∈ NL → X9_rests_L65 (gal NL) N k120 n p1 p3 p4 p5 p7 p8 X = some (kx, rr, XX) → W p l e rm_X9_rests s m args below meth c H locs 0 0 (vx_MQ below (gQx D cA ad NL kx (some (.int rr)) XX A) (gXx D cA ad NL kx XX A) args s 1 6 A) (F0 m 65 ls []) := by
  have C := CX.1
  have hx := C.1
  have hb := C.2.1
  intro n
  induction n with
  | zero =>
    intro p1 p3 p4 p5 p7 p8 X H locs ls hP hS hl ha_l6 hf
    rw [X9_rests_L65] at hf
    cases hf
  | succ n ih =>
    intro p1 p3 p4 p5 p7 p8 X H locs ls hP hS hl ha_l6 hf
    rw [X9_rests_L65] at hf
    refine lv_iload hx hb dX9_rests_65 (lv_at hl 6 rfl) ?_
    refine lv_iload hx hb dX9_rests_67 (lv_at hl 5 rfl) ?_
    refine lv_icmp_ge (tgt := 120) hx hb dX9_rests_69 (by decide) (fun c1 => ?_) (fun c1 => ?_)
    · have hf := g_ip c1 hf
      exact hk120 p5 X _ _ _ hP hS (lv_sub hl [3] rfl) hf
    · have hf := g_in c1 hf
      refine lv_aload hx hb dX9_rests_72 (lv_at hl 4 rfl) ?_
      refine lv_iload hx hb dX9_rests_74 (lv_at hl 6 rfl) ?_
      obtain ⟨j2, h3, hf⟩ := rd_in hf
      refine r_aldq C hP ha_l6 (ct_22 _ _ _ _) rfl h3 dX9_rests_76 ?_
      refine r_astore (i := 9) (lv' := [(9, va_rf (ro ad 23 (X 22 0 j2))), (1, .int p1), (3, .int p3), (4, va_rf (ro ad 14 p4)), (5, .int p5), (6, .ref (ad 22 0)), (7, .int p7), (8, .int p8)]) C dX9_rests_77 hl (Nat.le_of_ble_eq_true rfl) rfl (fun ls hl => ?_)
      refine r_aload C dX9_rests_79 (lv_at hl 0 rfl) ?_
      refine r_ifnull (tgt := 114) C dX9_rests_81 (by decide) (fun c4 => ?_) (fun c4 => ?_)
      · have hf := g_ip c4 hf
        exact s_X9_rests_J114 CX hW hD0 ih hk120 p1 p3 p4 p5 p7 p8 X _ _ _ hP hS (lv_sub hl [1, 2, 3, 4, 5, 6, 7] rfl) ha_l6 hf
      · have hf := g_in c4 hf
        refine r_aload C dX9_rests_84 (lv_at hl 3 rfl) ?_
        refine r_aload C dX9_rests_86 (lv_at hl 0 rfl) ?_
        obtain ⟨j5, h6, hf⟩ := dr_in hf
        rw [gref h6]
        refine r_get C hP h6.2.2 (ct_23 _ _ _ _) fx_X9_216 (fg_23_0 _ _ _) dX9_rests_88 ?_
        refine lv_iload_n hx hb dX9_rests_91 rfl (lv_at hl 1 rfl) ?_
        obtain ⟨j7, h8, hf⟩ := dr_in hf
        rw [gref h8]
        obtain ⟨r9, X10, h11, hf⟩ := b2_in hf
        refine r_cVi (rest := []) C hP hS hl.1 (s_X7_sparedSeats hW hD0 h8.2.2 h11) ix_X7_sparedSeats iv_X7_sparedSeats lk_X9_295 ⟨rfl, rfl, Nat.le_of_ble_eq_true rfl, Nat.le_of_ble_eq_true rfl⟩ h8.2.2 (ct_14 _ _ _ _) rfl rfl rfl rfl (Nat.le_of_ble_eq_true rfl) ⟨Nat.zero_le _, Nat.zero_le _⟩ dX9_rests_92 (fun H locs hP hS => ?_)
        refine lv_iload_n hx hb dX9_rests_95 rfl (lv_at hl 2 rfl) ?_
        refine lv_iconst (v := -1) hx hb dX9_rests_96 (by decide) ?_
        refine lv_ixor hx hb dX9_rests_97 ?_
        refine lv_iand hx hb dX9_rests_98 ?_
        refine lv_if_eq (tgt := 114) hx hb dX9_rests_99 (by decide) (fun c12 => ?_) (fun c12 => ?_)
        · have hf := g_ip c12 hf
          exact s_X9_rests_J114 CX hW hD0 ih hk120 p1 p3 p4 p5 p7 p8 X10 _ _ _ hP hS (lv_sub hl [1, 2, 3, 4, 5, 6, 7] rfl) ha_l6 hf
        · have hf := g_in c12 hf
          refine lv_iload hx hb dX9_rests_102 (lv_at hl 4 rfl) ?_
          refine lv_iconst (v := 1) hx hb dX9_rests_104 (by decide) ?_
          refine r_aload C dX9_rests_105 (lv_at hl 0 rfl) ?_
          rw [gref h6]
          refine r_get C hP h6.2.2 (ct_23 _ _ _ _) fx_X9_216 (fg_23_0 _ _ _) dX9_rests_107 ?_
          refine lv_ishl hx hb dX9_rests_110 ?_
          refine lv_ior hx hb dX9_rests_111 ?_
          refine g_top hf (fun v13 e14 hf => ?_)
          refine lv_istore (i := 5) (lv' := [(5, .int v13), (9, va_rf (ro ad 23 (X 22 0 j2))), (1, .int p1), (3, .int p3), (4, va_rf (ro ad 14 p4)), (6, .ref (ad 22 0)), (7, .int p7), (8, .int p8)]) hx hb dX9_rests_112 hl (Nat.le_of_ble_eq_true rfl) (by simp [g_cat, g_catr, g_cati]) (fun ls hl => ?_)
          exact s_X9_rests_J114 CX hW hD0 ih hk120 p1 p3 p4 v13 p7 p8 X10 _ _ _ hP hS (lv_sub hl [2, 3, 4, 0, 5, 6, 7] rfl) ha_l6 hf

set_option maxRecDepth 100000 in
set_option maxHeartbeats 4000000 in
theorem w_X9_rests {p : Program} {l : Launch} {e : Env} {s : State} {m : MethodId} {args : Array Value} {below : List Frame} {meth : Method} {c : Code} {D : va_G} {cA : Nat → ClassId} {ad : Nat → Nat → Nat} {NL : List (Nat × Nat)} {A : Nat → Prop} {rr : Int32} {XX : gM} {N : Nat} {kx : Nat} (CX : gCxX p c l meth m s args cX9_rests 10 (some .int) RX9 D cA ad NL A) (hW : gWf NL) (hD0 : gD (fun _ => True) ad NL) {p1 : Int32} (ha_l0 : (0, 0) ∈ NL) : ∀ (X : gM) (H : Heap) (locs : List Loc) (ls : Array Slot), gH D cA ad NL X H → va_S A s.heap H locs → lv_has ls 10 [(0, .ref (ad 0 0)), (1, .int p1)] → X9_rests (gal NL) N p1 X = some (kx, rr, XX) → W p l e rm_X9_rests s m args below meth c H locs 0 0 (vx_MQ below (gQx D cA ad NL kx (some (.int rr)) XX A) (gXx D cA ad NL kx XX A) args s 1 6 A) (F0 m 0 ls []) := by
  have C := CX.1
  have hx := C.1
  have hb := C.2.1
  intro X H locs ls hP hS hl hf
  rw [X9_rests] at hf
  refine lv_aload_n hx hb dX9_rests_0 rfl (lv_at hl 0 rfl) ?_
  refine lv_iload_n hx hb dX9_rests_1 rfl (lv_at hl 1 rfl) ?_
  obtain ⟨r1, X2, h3, hf⟩ := b2_in hf
  refine r_cVq (rest := []) C hP hS hl.1 (s_X9_leafOf hW hD0 ha_l0 h3) ix_X9_leafOf iv_X9_leafOf lk_X9_179 ⟨rfl, rfl, Nat.le_of_ble_eq_true rfl, Nat.le_of_ble_eq_true rfl⟩ ha_l0 (ct_0 _ _ _ _) rfl rfl rfl rfl (Nat.le_of_ble_eq_true rfl) ⟨Nat.zero_le _, Nat.zero_le _⟩ dX9_rests_2 (fun H locs hP hS => ?_)
  refine r_astoren (i := 2) (lv' := [(2, va_rf (ro ad 5 r1)), (0, .ref (ad 0 0)), (1, .int p1)]) C dX9_rests_5 rfl hl (Nat.le_of_ble_eq_true rfl) rfl (fun ls hl => ?_)
  refine r_aloadn C dX9_rests_6 rfl (lv_at hl 0 rfl) ?_
  refine r_ifnonnull (tgt := 18) C dX9_rests_7 (by decide) (fun c4 => ?_) (fun c4 => ?_)
  · have hf := g_ip c4 hf
    obtain ⟨rfl, rfl, rfl⟩ := g_s3 hf
    exact r_throw CX hP hS hl.1 th_X9_85_87 dX9_rests_10 dX9_rests_13 dX9_rests_14 dX9_rests_17 ⟨Nat.le_of_ble_eq_true rfl, Nat.le_of_ble_eq_true rfl, Nat.le_of_ble_eq_true rfl, Nat.le_of_ble_eq_true rfl⟩ 
  · have hf := g_in c4 hf
    refine lv_aload_n hx hb dX9_rests_18 rfl (lv_at hl 1 rfl) ?_
    refine r_aloadn C dX9_rests_19 rfl (lv_at hl 0 rfl) ?_
    refine lv_iconst (v := 0) hx hb dX9_rests_20 (by decide) ?_
    obtain ⟨j5, h6, hf⟩ := dr_in hf
    rw [gref h6]
    obtain ⟨r7, X8, h9, hf⟩ := b2_in hf
    refine r_cVi (rest := []) C hP hS hl.1 (s_X9_placesOf hW hD0 ha_l0 h6.2.2 h9) ix_X9_placesOf iv_X9_placesOf lk_X9_231 ⟨rfl, rfl, Nat.le_of_ble_eq_true rfl, Nat.le_of_ble_eq_true rfl⟩ ha_l0 (ct_0 _ _ _ _) rfl rfl rfl rfl (Nat.le_of_ble_eq_true rfl) ⟨Nat.zero_le _, Nat.zero_le _⟩ dX9_rests_21 (fun H locs hP hS => ?_)
    refine lv_istore_n (i := 3) (lv' := [(3, .int r7), (2, va_rf (ro ad 5 r1)), (0, .ref (ad 0 0)), (1, .int p1)]) hx hb dX9_rests_24 rfl hl (Nat.le_of_ble_eq_true rfl) (by simp [g_cat, g_catr, g_cati]) (fun ls hl => ?_)
    refine lv_iload_n hx hb dX9_rests_25 rfl (lv_at hl 0 rfl) ?_
    obtain ⟨r10, X11, h12, hf⟩ := b2_in hf
    refine r_cSi (rest := []) C hP hS hl.1 (s_J6_bitCount_0f7a4 hW hD0  h12) ix_J6_bitCount_0f7a4 is_J6_bitCount_0f7a4 ls_X9_286 ⟨rfl, rfl, Nat.le_of_ble_eq_true rfl, Nat.le_of_ble_eq_true rfl⟩ rfl rfl (Nat.le_of_ble_eq_true rfl) ⟨Nat.zero_le _, Nat.zero_le _⟩ dX9_rests_26 (fun H locs hP hS => ?_)
    refine lv_iconst (v := 1) hx hb dX9_rests_29 (by decide) ?_
    refine lv_icmp_eq (tgt := 35) hx hb dX9_rests_30 (by decide) (fun c13 => ?_) (fun c13 => ?_)
    · have hf := g_ip c13 hf
      refine r_aloadn C dX9_rests_35 rfl (lv_at hl 1 rfl) ?_
      rw [gref h6]
      refine r_get C hP h6.2.2 (ct_5 _ _ _ _) fx_X9_206 (fg_5_1 _ _ _) dX9_rests_36 ?_
      refine lv_aload_n hx hb dX9_rests_39 rfl (lv_at hl 2 rfl) ?_
      refine r_get C hP ha_l0 (ct_0 _ _ _ _) fx_X9_35 (fg_0_4 _ _ _) dX9_rests_40 ?_
      obtain ⟨j14, h15, hf⟩ := dr_in hf
      rw [gref h15]
      obtain ⟨r16, X17, h18, hf⟩ := b2_in hf
      refine r_cVq (rest := []) C hP hS hl.1 (s_X5_surveyedSparing hW hD0 h15.2.2 (gs_0_4 hW ha_l0) h18) ix_X5_surveyedSparing iv_X5_surveyedSparing lk_X9_291 ⟨rfl, rfl, Nat.le_of_ble_eq_true rfl, Nat.le_of_ble_eq_true rfl⟩ h15.2.2 (ct_12 _ _ _ _) rfl rfl rfl rfl (Nat.le_of_ble_eq_true rfl) ⟨Nat.zero_le _, Nat.zero_le _⟩ dX9_rests_43 (fun H locs hP hS => ?_)
      refine r_astore (i := 4) (lv' := [(4, va_rf (ro ad 14 r16)), (3, .int r7), (2, va_rf (ro ad 5 r1)), (0, .ref (ad 0 0)), (1, .int p1)]) C dX9_rests_46 hl (Nat.le_of_ble_eq_true rfl) rfl (fun ls hl => ?_)
      refine lv_iconst (v := 0) hx hb dX9_rests_48 (by decide) ?_
      refine lv_istore (i := 5) (lv' := [(5, .int (0 : Int32)), (4, va_rf (ro ad 14 r16)), (3, .int r7), (2, va_rf (ro ad 5 r1)), (0, .ref (ad 0 0)), (1, .int p1)]) hx hb dX9_rests_49 hl (Nat.le_of_ble_eq_true rfl) (by simp [g_cat, g_catr, g_cati]) (fun ls hl => ?_)
      refine lv_aload_n hx hb dX9_rests_51 rfl (lv_at hl 4 rfl) ?_
      refine r_get C hP ha_l0 (ct_0 _ _ _ _) fx_X9_35 (fg_0_4 _ _ _) dX9_rests_52 ?_
      refine lv_astore (i := 6) (lv' := [(6, .ref (ad 22 0)), (5, .int (0 : Int32)), (4, va_rf (ro ad 14 r16)), (3, .int r7), (2, va_rf (ro ad 5 r1)), (0, .ref (ad 0 0)), (1, .int p1)]) hx hb dX9_rests_55 hl (Nat.le_of_ble_eq_true rfl) rfl (fun ls hl => ?_)
      refine lv_aload hx hb dX9_rests_57 (lv_at hl 0 rfl) ?_
      refine r_alen C hP 12 (gs_0_4 hW ha_l0) (ct_22 _ _ _ _) rfl rfl dX9_rests_59 ?_
      refine lv_istore (i := 7) (lv' := [(7, .int (12 : Int32)), (6, .ref (ad 22 0)), (5, .int (0 : Int32)), (4, va_rf (ro ad 14 r16)), (3, .int r7), (2, va_rf (ro ad 5 r1)), (0, .ref (ad 0 0)), (1, .int p1)]) hx hb dX9_rests_60 hl (Nat.le_of_ble_eq_true rfl) rfl (fun ls hl => ?_)
      refine lv_iconst (v := 0) hx hb dX9_rests_62 (by decide) ?_
      refine lv_istore (i := 8) (lv' := [(8, .int (0 : Int32)), (7, .int (12 : Int32)), (6, .ref (ad 22 0)), (5, .int (0 : Int32)), (4, va_rf (ro ad 14 r16)), (3, .int r7), (2, va_rf (ro ad 5 r1)), (0, .ref (ad 0 0)), (1, .int p1)]) hx hb dX9_rests_63 hl (Nat.le_of_ble_eq_true rfl) rfl (fun ls hl => ?_)
      exact s_X9_rests_L65 CX hW hD0 (fun p5 Y H locs ls hP hS hl hf => s_X9_rests_J120 CX hW hD0 p5 Y _ _ _ hP hS hl hf) N p1 r7 r16 (0 : Int32) (12 : Int32) (0 : Int32) X17 _ _ _ hP hS (lv_sub hl [8, 5, 4, 3, 2, 1, 0] rfl) (gs_0_4 hW ha_l0) hf
    · have hf := g_in c13 hf
      refine lv_iconst (v := 0) hx hb dX9_rests_33 (by decide) ?_
      obtain ⟨rfl, rfl, rfl⟩ := g_s3 hf
      exact r_iretX CX hP hS dX9_rests_34

theorem s_X9_rests {l : Launch} {D : va_G} {cA : Nat → ClassId} {ad : Nat → Nat → Nat} {NL : List (Nat × Nat)} {N : Nat} {p1 : Int32} {X : gM} {kx : Nat} {rr : Int32} {XX : gM} (htr : l.stackTraces = false) (hW : gWf NL) (hD0 : gD (fun _ => True) ad NL) (ha_l0 : (0, 0) ∈ NL) (hf : X9_rests (gal NL) N p1 X = some (kx, rr, XX)) : gCX l yX9_rests cX9_rests 10 (some .int) rm_X9_rests D cA ad NL [.ref (ad 0 0), .int p1] X kx (some (.int rr)) XX :=
  g_ofX (by decide) htr hD0 (Nat.le_of_ble_eq_true rfl) rfl (fun p e s m below meth c ls CX hP hS hl => w_X9_rests CX hW hD0 ha_l0 X _ _ ls hP hS hl hf)
