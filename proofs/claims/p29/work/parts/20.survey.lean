def rm_X7_sparedSeats : Room := { frames := 0, cells := 0, slots := 0, locals := 0 }
set_option maxRecDepth 100000 in
set_option maxHeartbeats 4000000 in
theorem w_X7_sparedSeats {p : Program} {l : Launch} {e : Env} {s : State} {m : MethodId} {args : Array Value} {below : List Frame} {meth : Method} {c : Code} {D : va_G} {cA : Nat → ClassId} {ad : Nat → Nat → Nat} {NL : List (Nat × Nat)} {A : Nat → Prop} {rr : Int32} {XX : gM} {N : Nat} (C : gCx p c meth m s args cX7_sparedSeats 3 (some .int) RX7 D cA ad NL A) (hW : gWf NL) (hD0 : gD (fun _ => True) ad NL) {p0 : Nat} {p1 : Int32} {p2 : Int32} (ha_l0 : (14, p0) ∈ NL) : ∀ (X : gM) (H : Heap) (locs : List Loc) (ls : Array Slot), gH D cA ad NL X H → va_S A s.heap H locs → lv_has ls 3 [(0, .ref (ad 14 p0)), (1, .int p1), (2, .int p2)] → X7_sparedSeats (gal NL) N p0 p1 p2 X = some (rr, XX) → W p l e rm_X7_sparedSeats s m args below meth c H locs 0 0 (MQ below (gQ D cA ad NL (some (.int rr)) XX A) args s 0 0 A) (F0 m 0 ls []) := by
  have hx := C.1
  have hb := C.2.1
  intro X H locs ls hP hS hl hf
  rw [X7_sparedSeats] at hf
  refine lv_aload_n hx hb dX7_sparedSeats_0 rfl (lv_at hl 0 rfl) ?_
  refine r_get C hP ha_l0 (ct_14 _ _ _ _) fx_X7_26 (fg_14_6 _ _ _) dX7_sparedSeats_1 ?_
  refine lv_iload_n hx hb dX7_sparedSeats_4 rfl (lv_at hl 1 rfl) ?_
  refine lv_bipush (v := 10) hx hb dX7_sparedSeats_5 (by decide) ?_
  refine lv_imul hx hb dX7_sparedSeats_7 ?_
  refine lv_iload_n hx hb dX7_sparedSeats_8 rfl (lv_at hl 2 rfl) ?_
  refine lv_iadd hx hb dX7_sparedSeats_9 ?_
  obtain ⟨j1, h2, hf⟩ := rd_in hf
  refine r_iald C hP (gs_14_6 hW ha_l0) (ct_17 _ _ _ _) h2 dX7_sparedSeats_10 ?_
  obtain ⟨rfl, rfl⟩ := g_s1 hf
  exact r_iret C hP hS dX7_sparedSeats_11

theorem s_X7_sparedSeats {l : Launch} {D : va_G} {cA : Nat → ClassId} {ad : Nat → Nat → Nat} {NL : List (Nat × Nat)} {N : Nat} {p0 : Nat} {p1 : Int32} {p2 : Int32} {X : gM} {rr : Int32} {XX : gM} (hW : gWf NL) (hD0 : gD (fun _ => True) ad NL) (ha_l0 : (14, p0) ∈ NL) (hf : X7_sparedSeats (gal NL) N p0 p1 p2 X = some (rr, XX)) : gC l yX7_sparedSeats cX7_sparedSeats 3 (some .int) rm_X7_sparedSeats D cA ad NL [.ref (ad 14 p0), .int p1, .int p2] X (some (.int rr)) XX :=
  g_ofW (by decide) hD0 (Nat.le_of_ble_eq_true rfl) rfl (fun p e s m below meth c ls C hP hS hl => w_X7_sparedSeats C hW hD0 ha_l0 X _ _ ls hP hS hl hf)
def rm_X7_isBroken : Room := { frames := 0, cells := 0, slots := 0, locals := 0 }
set_option maxRecDepth 100000 in
set_option maxHeartbeats 4000000 in
theorem s_X7_isBroken_J143 {p : Program} {l : Launch} {e : Env} {s : State} {m : MethodId} {args : Array Value} {below : List Frame} {meth : Method} {c : Code} {D : va_G} {cA : Nat → ClassId} {ad : Nat → Nat → Nat} {NL : List (Nat × Nat)} {A : Nat → Prop} {rr : Int32} {XX : gM} {N : Nat} (C : gCx p c meth m s args cX7_isBroken 4 (some .boolean) RX7 D cA ad NL A) (hW : gWf NL) (hD0 : gD (fun _ => True) ad NL) : ∀ (s0 : Int32) (X : gM) (H : Heap) (locs : List Loc) (ls : Array Slot), gH D cA ad NL X H → va_S A s.heap H locs → lv_has ls 4 [] → X7_isBroken_J143 (gal NL) N s0 X = some (rr, XX) → W p l e rm_X7_isBroken s m args below meth c H locs 0 0 (MQ below (gQ D cA ad NL (some (.int rr)) XX A) args s 0 0 A) (F0 m 143 ls [.int s0]) := by
  have hx := C.1
  have hb := C.2.1
  intro s0 X H locs ls hP hS hl hf
  rw [X7_isBroken_J143] at hf
  obtain ⟨h1, hf⟩ := bz_in hf
  obtain ⟨rfl, rfl⟩ := g_s1 hf
  exact r_zret C hP hS h1 dX7_isBroken_143

set_option maxRecDepth 100000 in
set_option maxHeartbeats 4000000 in
theorem s_X7_isBroken_J125 {p : Program} {l : Launch} {e : Env} {s : State} {m : MethodId} {args : Array Value} {below : List Frame} {meth : Method} {c : Code} {D : va_G} {cA : Nat → ClassId} {ad : Nat → Nat → Nat} {NL : List (Nat × Nat)} {A : Nat → Prop} {rr : Int32} {XX : gM} {N : Nat} (C : gCx p c meth m s args cX7_isBroken 4 (some .boolean) RX7 D cA ad NL A) (hW : gWf NL) (hD0 : gD (fun _ => True) ad NL) : ∀ (s0 : Int32) (X : gM) (H : Heap) (locs : List Loc) (ls : Array Slot), gH D cA ad NL X H → va_S A s.heap H locs → lv_has ls 4 [] → X7_isBroken_J125 (gal NL) N s0 X = some (rr, XX) → W p l e rm_X7_isBroken s m args below meth c H locs 0 0 (MQ below (gQ D cA ad NL (some (.int rr)) XX A) args s 0 0 A) (F0 m 125 ls [.int s0]) := by
  have hx := C.1
  have hb := C.2.1
  intro s0 X H locs ls hP hS hl hf
  rw [X7_isBroken_J125] at hf
  obtain ⟨h1, hf⟩ := bz_in hf
  obtain ⟨rfl, rfl⟩ := g_s1 hf
  exact r_zret C hP hS h1 dX7_isBroken_125

set_option maxRecDepth 100000 in
set_option maxHeartbeats 4000000 in
theorem s_X7_isBroken_J114 {p : Program} {l : Launch} {e : Env} {s : State} {m : MethodId} {args : Array Value} {below : List Frame} {meth : Method} {c : Code} {D : va_G} {cA : Nat → ClassId} {ad : Nat → Nat → Nat} {NL : List (Nat × Nat)} {A : Nat → Prop} {rr : Int32} {XX : gM} {N : Nat} (C : gCx p c meth m s args cX7_isBroken 4 (some .boolean) RX7 D cA ad NL A) (hW : gWf NL) (hD0 : gD (fun _ => True) ad NL) : ∀ (s0 : Int32) (X : gM) (H : Heap) (locs : List Loc) (ls : Array Slot), gH D cA ad NL X H → va_S A s.heap H locs → lv_has ls 4 [] → X7_isBroken_J114 (gal NL) N s0 X = some (rr, XX) → W p l e rm_X7_isBroken s m args below meth c H locs 0 0 (MQ below (gQ D cA ad NL (some (.int rr)) XX A) args s 0 0 A) (F0 m 114 ls [.int s0]) := by
  have hx := C.1
  have hb := C.2.1
  intro s0 X H locs ls hP hS hl hf
  rw [X7_isBroken_J114] at hf
  obtain ⟨h1, hf⟩ := bz_in hf
  obtain ⟨rfl, rfl⟩ := g_s1 hf
  exact r_zret C hP hS h1 dX7_isBroken_114

set_option maxRecDepth 100000 in
set_option maxHeartbeats 4000000 in
theorem s_X7_isBroken_J101 {p : Program} {l : Launch} {e : Env} {s : State} {m : MethodId} {args : Array Value} {below : List Frame} {meth : Method} {c : Code} {D : va_G} {cA : Nat → ClassId} {ad : Nat → Nat → Nat} {NL : List (Nat × Nat)} {A : Nat → Prop} {rr : Int32} {XX : gM} {N : Nat} (C : gCx p c meth m s args cX7_isBroken 4 (some .boolean) RX7 D cA ad NL A) (hW : gWf NL) (hD0 : gD (fun _ => True) ad NL) : ∀ (s0 : Int32) (X : gM) (H : Heap) (locs : List Loc) (ls : Array Slot), gH D cA ad NL X H → va_S A s.heap H locs → lv_has ls 4 [] → X7_isBroken_J101 (gal NL) N s0 X = some (rr, XX) → W p l e rm_X7_isBroken s m args below meth c H locs 0 0 (MQ below (gQ D cA ad NL (some (.int rr)) XX A) args s 0 0 A) (F0 m 101 ls [.int s0]) := by
  have hx := C.1
  have hb := C.2.1
  intro s0 X H locs ls hP hS hl hf
  rw [X7_isBroken_J101] at hf
  obtain ⟨h1, hf⟩ := bz_in hf
  obtain ⟨rfl, rfl⟩ := g_s1 hf
  exact r_zret C hP hS h1 dX7_isBroken_101

set_option maxRecDepth 100000 in
set_option maxHeartbeats 4000000 in
theorem s_X7_isBroken_J52 {p : Program} {l : Launch} {e : Env} {s : State} {m : MethodId} {args : Array Value} {below : List Frame} {meth : Method} {c : Code} {D : va_G} {cA : Nat → ClassId} {ad : Nat → Nat → Nat} {NL : List (Nat × Nat)} {A : Nat → Prop} {rr : Int32} {XX : gM} {N : Nat} (C : gCx p c meth m s args cX7_isBroken 4 (some .boolean) RX7 D cA ad NL A) (hW : gWf NL) (hD0 : gD (fun _ => True) ad NL) : ∀ (X : gM) (H : Heap) (locs : List Loc) (ls : Array Slot), gH D cA ad NL X H → va_S A s.heap H locs → lv_has ls 4 [] → X7_isBroken_J52 (gal NL) N X = some (rr, XX) → W p l e rm_X7_isBroken s m args below meth c H locs 0 0 (MQ below (gQ D cA ad NL (some (.int rr)) XX A) args s 0 0 A) (F0 m 52 ls []) := by
  have hx := C.1
  have hb := C.2.1
  intro X H locs ls hP hS hl hf
  rw [X7_isBroken_J52] at hf
  refine lv_iconst (v := 0) hx hb dX7_isBroken_52 (by decide) ?_
  obtain ⟨rfl, rfl⟩ := g_s1 hf
  exact r_zret C hP hS (by decide) dX7_isBroken_53

set_option maxRecDepth 100000 in
set_option maxHeartbeats 4000000 in
theorem s_X7_isBroken_J31 {p : Program} {l : Launch} {e : Env} {s : State} {m : MethodId} {args : Array Value} {below : List Frame} {meth : Method} {c : Code} {D : va_G} {cA : Nat → ClassId} {ad : Nat → Nat → Nat} {NL : List (Nat × Nat)} {A : Nat → Prop} {rr : Int32} {XX : gM} {N : Nat} (C : gCx p c meth m s args cX7_isBroken 4 (some .boolean) RX7 D cA ad NL A) (hW : gWf NL) (hD0 : gD (fun _ => True) ad NL) : ∀ (s0 : Int32) (X : gM) (H : Heap) (locs : List Loc) (ls : Array Slot), gH D cA ad NL X H → va_S A s.heap H locs → lv_has ls 4 [] → X7_isBroken_J31 (gal NL) N s0 X = some (rr, XX) → W p l e rm_X7_isBroken s m args below meth c H locs 0 0 (MQ below (gQ D cA ad NL (some (.int rr)) XX A) args s 0 0 A) (F0 m 31 ls [.int s0]) := by
  have hx := C.1
  have hb := C.2.1
  intro s0 X H locs ls hP hS hl hf
  rw [X7_isBroken_J31] at hf
  obtain ⟨h1, hf⟩ := bz_in hf
  obtain ⟨rfl, rfl⟩ := g_s1 hf
  exact r_zret C hP hS h1 dX7_isBroken_31

set_option maxRecDepth 100000 in
set_option maxHeartbeats 4000000 in
theorem w_X7_isBroken {p : Program} {l : Launch} {e : Env} {s : State} {m : MethodId} {args : Array Value} {below : List Frame} {meth : Method} {c : Code} {D : va_G} {cA : Nat → ClassId} {ad : Nat → Nat → Nat} {NL : List (Nat × Nat)} {A : Nat → Prop} {rr : Int32} {XX : gM} {N : Nat} (C : gCx p c meth m s args cX7_isBroken 4 (some .boolean) RX7 D cA ad NL A) (hW : gWf NL) (hD0 : gD (fun _ => True) ad NL) {p0 : Nat} {p1 : Nat} (ha_l0 : (14, p0) ∈ NL) (ha_l1 : (23, p1) ∈ NL) : ∀ (X : gM) (H : Heap) (locs : List Loc) (ls : Array Slot), gH D cA ad NL X H → va_S A s.heap H locs → lv_has ls 4 [(0, .ref (ad 14 p0)), (1, .ref (ad 23 p1))] → X7_isBroken (gal NL) N p0 p1 X = some (rr, XX) → W p l e rm_X7_isBroken s m args below meth c H locs 0 0 (MQ below (gQ D cA ad NL (some (.int rr)) XX A) args s 0 0 A) (F0 m 0 ls []) := by
  have hx := C.1
  have hb := C.2.1
  intro X H locs ls hP hS hl hf
  rw [X7_isBroken] at hf
  refine lv_aload_n hx hb dX7_isBroken_0 rfl (lv_at hl 0 rfl) ?_
  refine r_get C hP ha_l0 (ct_14 _ _ _ _) fx_X7_47 (fg_14_11 _ _ _) dX7_isBroken_1 ?_
  refine lv_aload_n hx hb dX7_isBroken_4 rfl (lv_at hl 1 rfl) ?_
  refine r_get C hP ha_l1 (ct_23 _ _ _ _) fx_X7_124 (fg_23_3 _ _ _) dX7_isBroken_5 ?_
  obtain ⟨j1, h2, hf⟩ := rd_in hf
  refine r_iald C hP (gs_14_11 hW ha_l0) (ct_20 _ _ _ _) h2 dX7_isBroken_8 ?_
  refine g_top hf (fun v3 e4 hf => ?_)
  refine lv_istore_n (i := 2) (lv' := [(2, .int v3), (0, .ref (ad 14 p0)), (1, .ref (ad 23 p1))]) hx hb dX7_isBroken_9 rfl hl (Nat.le_of_ble_eq_true rfl) rfl (fun ls hl => ?_)
  refine lv_aload_n hx hb dX7_isBroken_10 rfl (lv_at hl 2 rfl) ?_
  refine r_get C hP ha_l1 (ct_23 _ _ _ _) fx_X7_127 (fg_23_2 _ _ _) dX7_isBroken_11 ?_
  refine lv_iconst (v := 3) hx hb dX7_isBroken_14 (by decide) ?_
  refine lv_icmp_ne (tgt := 32) hx hb dX7_isBroken_15 (by decide) (fun c5 => ?_) (fun c5 => ?_)
  · have hf := g_in c5 hf
    refine lv_aload_n hx hb dX7_isBroken_32 rfl (lv_at hl 1 rfl) ?_
    refine r_get C hP ha_l0 (ct_14 _ _ _ _) fx_X7_47 (fg_14_11 _ _ _) dX7_isBroken_33 ?_
    refine lv_aload_n hx hb dX7_isBroken_36 rfl (lv_at hl 2 rfl) ?_
    refine r_get C hP ha_l1 (ct_23 _ _ _ _) fx_X7_130 (fg_23_4 _ _ _) dX7_isBroken_37 ?_
    obtain ⟨j6, h7, hf⟩ := rd_in hf
    refine r_iald C hP (gs_14_11 hW ha_l0) (ct_20 _ _ _ _) h7 dX7_isBroken_40 ?_
    refine g_top hf (fun v8 e9 hf => ?_)
    refine lv_istore_n (i := 3) (lv' := [(3, .int v8), (2, .int v3), (0, .ref (ad 14 p0)), (1, .ref (ad 23 p1))]) hx hb dX7_isBroken_41 rfl hl (Nat.le_of_ble_eq_true rfl) rfl (fun ls hl => ?_)
    refine lv_iload_n hx hb dX7_isBroken_42 rfl (lv_at hl 1 rfl) ?_
    refine lv_iconst (v := -1) hx hb dX7_isBroken_43 (by decide) ?_
    refine lv_icmp_eq (tgt := 52) hx hb dX7_isBroken_44 (by decide) (fun c10 => ?_) (fun c10 => ?_)
    · have hf := g_ip c10 hf
      exact s_X7_isBroken_J52 C hW hD0 X _ _ _ hP hS (lv_sub hl [] rfl) hf
    · have hf := g_in c10 hf
      refine lv_iload_n hx hb dX7_isBroken_47 rfl (lv_at hl 0 rfl) ?_
      refine lv_iconst (v := -1) hx hb dX7_isBroken_48 (by decide) ?_
      refine lv_icmp_ne (tgt := 54) hx hb dX7_isBroken_49 (by decide) (fun c11 => ?_) (fun c11 => ?_)
      · have hf := g_in c11 hf
        refine lv_aload_n hx hb dX7_isBroken_54 rfl (lv_at hl 3 rfl) ?_
        refine r_get C hP ha_l1 (ct_23 _ _ _ _) fx_X7_127 (fg_23_2 _ _ _) dX7_isBroken_55 ?_
        by_cases c120 : (X 23 p1 2) = (0 : Int32)
        · have hf := g_ip c120 hf
          refine lv_tableIn (tgt := 84) hx hb dX7_isBroken_58 (by rw [c120]; decide) (by rw [c120]; decide) (by rw [c120]; rfl) (by decide) ?_
          refine lv_iload_n hx hb dX7_isBroken_84 rfl (lv_at hl 1 rfl) ?_
          refine lv_iload_n hx hb dX7_isBroken_85 rfl (lv_at hl 0 rfl) ?_
          refine lv_iadd hx hb dX7_isBroken_86 ?_
          refine lv_aload_n hx hb dX7_isBroken_87 rfl (lv_at hl 2 rfl) ?_
          refine r_get C hP ha_l0 (ct_14 _ _ _ _) fx_X7_44 (fg_14_10 _ _ _) dX7_isBroken_88 ?_
          refine lv_iconst (v := 1) hx hb dX7_isBroken_91 (by decide) ?_
          refine lv_isub hx hb dX7_isBroken_92 ?_
          refine lv_icmp_eq (tgt := 100) hx hb dX7_isBroken_93 (by decide) (fun c13 => ?_) (fun c13 => ?_)
          · have hf := g_ip c13 hf
            refine lv_iconst (v := 0) hx hb dX7_isBroken_100 (by decide) ?_
            exact s_X7_isBroken_J101 C hW hD0 (0 : Int32) X _ _ _ hP hS (lv_sub hl [] rfl) hf
          · have hf := g_in c13 hf
            refine lv_iconst (v := 1) hx hb dX7_isBroken_96 (by decide) ?_
            refine lv_goto (tgt := 101) hx hb dX7_isBroken_97 (by decide) ?_
            exact s_X7_isBroken_J101 C hW hD0 (1 : Int32) X _ _ _ hP hS (lv_sub hl [] rfl) hf
        · have hf := g_in c120 hf
          by_cases c121 : (X 23 p1 2) = (1 : Int32)
          · have hf := g_ip c121 hf
            refine lv_tableIn (tgt := 102) hx hb dX7_isBroken_58 (by rw [c121]; decide) (by rw [c121]; decide) (by rw [c121]; rfl) (by decide) ?_
            refine lv_iload_n hx hb dX7_isBroken_102 rfl (lv_at hl 0 rfl) ?_
            refine lv_iload_n hx hb dX7_isBroken_103 rfl (lv_at hl 1 rfl) ?_
            refine lv_iconst (v := 1) hx hb dX7_isBroken_104 (by decide) ?_
            refine lv_iadd hx hb dX7_isBroken_105 ?_
            refine lv_icmp_eq (tgt := 113) hx hb dX7_isBroken_106 (by decide) (fun c14 => ?_) (fun c14 => ?_)
            · have hf := g_ip c14 hf
              refine lv_iconst (v := 0) hx hb dX7_isBroken_113 (by decide) ?_
              exact s_X7_isBroken_J114 C hW hD0 (0 : Int32) X _ _ _ hP hS (lv_sub hl [] rfl) hf
            · have hf := g_in c14 hf
              refine lv_iconst (v := 1) hx hb dX7_isBroken_109 (by decide) ?_
              refine lv_goto (tgt := 114) hx hb dX7_isBroken_110 (by decide) ?_
              exact s_X7_isBroken_J114 C hW hD0 (1 : Int32) X _ _ _ hP hS (lv_sub hl [] rfl) hf
          · have hf := g_in c121 hf
            by_cases c122 : (X 23 p1 2) = (2 : Int32)
            · have hf := g_ip c122 hf
              refine lv_tableIn (tgt := 115) hx hb dX7_isBroken_58 (by rw [c122]; decide) (by rw [c122]; decide) (by rw [c122]; rfl) (by decide) ?_
              refine lv_iload_n hx hb dX7_isBroken_115 rfl (lv_at hl 1 rfl) ?_
              refine lv_iload_n hx hb dX7_isBroken_116 rfl (lv_at hl 0 rfl) ?_
              refine lv_icmp_lt (tgt := 124) hx hb dX7_isBroken_117 (by decide) (fun c15 => ?_) (fun c15 => ?_)
              · have hf := g_ip c15 hf
                refine lv_iconst (v := 0) hx hb dX7_isBroken_124 (by decide) ?_
                exact s_X7_isBroken_J125 C hW hD0 (0 : Int32) X _ _ _ hP hS (lv_sub hl [] rfl) hf
              · have hf := g_in c15 hf
                refine lv_iconst (v := 1) hx hb dX7_isBroken_120 (by decide) ?_
                refine lv_goto (tgt := 125) hx hb dX7_isBroken_121 (by decide) ?_
                exact s_X7_isBroken_J125 C hW hD0 (1 : Int32) X _ _ _ hP hS (lv_sub hl [] rfl) hf
            · have hf := g_in c122 hf
              refine lv_tableOut (tgt := 126) hx hb dX7_isBroken_58 (g_tab3 c120 c121 c122) (by decide) ?_
              refine lv_iload_n hx hb dX7_isBroken_126 rfl (lv_at hl 1 rfl) ?_
              refine lv_iload_n hx hb dX7_isBroken_127 rfl (lv_at hl 0 rfl) ?_
              refine lv_iadd hx hb dX7_isBroken_128 ?_
              refine lv_aload_n hx hb dX7_isBroken_129 rfl (lv_at hl 2 rfl) ?_
              refine r_get C hP ha_l0 (ct_14 _ _ _ _) fx_X7_44 (fg_14_10 _ _ _) dX7_isBroken_130 ?_
              refine lv_iconst (v := 1) hx hb dX7_isBroken_133 (by decide) ?_
              refine lv_isub hx hb dX7_isBroken_134 ?_
              refine lv_icmp_ne (tgt := 142) hx hb dX7_isBroken_135 (by decide) (fun c16 => ?_) (fun c16 => ?_)
              · have hf := g_in c16 hf
                refine lv_iconst (v := 0) hx hb dX7_isBroken_142 (by decide) ?_
                exact s_X7_isBroken_J143 C hW hD0 (0 : Int32) X _ _ _ hP hS (lv_sub hl [] rfl) hf
              · have hf := g_ip c16 hf
                refine lv_iconst (v := 1) hx hb dX7_isBroken_138 (by decide) ?_
                refine lv_goto (tgt := 143) hx hb dX7_isBroken_139 (by decide) ?_
                exact s_X7_isBroken_J143 C hW hD0 (1 : Int32) X _ _ _ hP hS (lv_sub hl [] rfl) hf
      · have hf := g_ip c11 hf
        exact s_X7_isBroken_J52 C hW hD0 X _ _ _ hP hS (lv_sub hl [] rfl) hf
  · have hf := g_ip c5 hf
    refine lv_iload_n hx hb dX7_isBroken_18 rfl (lv_at hl 0 rfl) ?_
    refine lv_aload_n hx hb dX7_isBroken_19 rfl (lv_at hl 2 rfl) ?_
    refine r_get C hP ha_l1 (ct_23 _ _ _ _) fx_X7_130 (fg_23_4 _ _ _) dX7_isBroken_20 ?_
    refine lv_icmp_eq (tgt := 30) hx hb dX7_isBroken_23 (by decide) (fun c17 => ?_) (fun c17 => ?_)
    · have hf := g_ip c17 hf
      refine lv_iconst (v := 0) hx hb dX7_isBroken_30 (by decide) ?_
      exact s_X7_isBroken_J31 C hW hD0 (0 : Int32) X _ _ _ hP hS (lv_sub hl [] rfl) hf
    · have hf := g_in c17 hf
      refine lv_iconst (v := 1) hx hb dX7_isBroken_26 (by decide) ?_
      refine lv_goto (tgt := 31) hx hb dX7_isBroken_27 (by decide) ?_
      exact s_X7_isBroken_J31 C hW hD0 (1 : Int32) X _ _ _ hP hS (lv_sub hl [] rfl) hf

theorem s_X7_isBroken {l : Launch} {D : va_G} {cA : Nat → ClassId} {ad : Nat → Nat → Nat} {NL : List (Nat × Nat)} {N : Nat} {p0 : Nat} {p1 : Nat} {X : gM} {rr : Int32} {XX : gM} (hW : gWf NL) (hD0 : gD (fun _ => True) ad NL) (ha_l0 : (14, p0) ∈ NL) (ha_l1 : (23, p1) ∈ NL) (hf : X7_isBroken (gal NL) N p0 p1 X = some (rr, XX)) : gC l yX7_isBroken cX7_isBroken 4 (some .boolean) rm_X7_isBroken D cA ad NL [.ref (ad 14 p0), .ref (ad 23 p1)] X (some (.int rr)) XX :=
  g_ofW (by decide) hD0 (Nat.le_of_ble_eq_true rfl) rfl (fun p e s m below meth c ls C hP hS hl => w_X7_isBroken C hW hD0 ha_l0 ha_l1 X _ _ ls hP hS hl hf)
def rm_X7_brokenWith : Room := { frames := 1, cells := 0, slots := 0, locals := 23 }
set_option maxRecDepth 100000 in
set_option maxHeartbeats 4000000 in
theorem s_X7_brokenWith_J76 {p : Program} {l : Launch} {e : Env} {s : State} {m : MethodId} {args : Array Value} {below : List Frame} {meth : Method} {c : Code} {D : va_G} {cA : Nat → ClassId} {ad : Nat → Nat → Nat} {NL : List (Nat × Nat)} {A : Nat → Prop} {rr : Int32} {XX : gM} {N : Nat} (C : gCx p c meth m s args cX7_brokenWith 6 (some .int) RX7 D cA ad NL A) (hW : gWf NL) (hD0 : gD (fun _ => True) ad NL) : ∀ (p3 : Int32) (X : gM) (H : Heap) (locs : List Loc) (ls : Array Slot), gH D cA ad NL X H → va_S A s.heap H locs → lv_has ls 6 [(3, .int p3)] → X7_brokenWith_J76 (gal NL) N p3 X = some (rr, XX) → W p l e rm_X7_brokenWith s m args below meth c H locs 0 0 (MQ below (gQ D cA ad NL (some (.int rr)) XX A) args s 0 0 A) (F0 m 76 ls []) := by
  have hx := C.1
  have hb := C.2.1
  intro p3 X H locs ls hP hS hl hf
  rw [X7_brokenWith_J76] at hf
  refine lv_iload_n hx hb dX7_brokenWith_76 rfl (lv_at hl 0 rfl) ?_
  obtain ⟨rfl, rfl⟩ := g_s1 hf
  exact r_iret C hP hS dX7_brokenWith_77

set_option maxRecDepth 100000 in
set_option maxHeartbeats 4000000 in
theorem s_X7_brokenWith_J70 {p : Program} {l : Launch} {e : Env} {s : State} {m : MethodId} {args : Array Value} {below : List Frame} {meth : Method} {c : Code} {D : va_G} {cA : Nat → ClassId} {ad : Nat → Nat → Nat} {NL : List (Nat × Nat)} {A : Nat → Prop} {rr : Int32} {XX : gM} {N : Nat} {kk : Nat → Int32 → Int32 → Int32 → gM → Option (Int32 × gM)} {k61 : gM → Option (Int32 × gM)} {k76 : Int32 → gM → Option (Int32 × gM)} (C : gCx p c meth m s args cX7_brokenWith 6 (some .int) RX7 D cA ad NL A) (hW : gWf NL) (hD0 : gD (fun _ => True) ad NL) (hkk : ∀ (p0 : Nat) (p1 : Int32) (p3 : Int32) (p4 : Int32) (Y : gM) (H : Heap) (locs : List Loc) (ls : Array Slot), gH D cA ad NL Y H → va_S A s.heap H locs → lv_has ls 6 [(0, .ref (ad 14 p0)), (1, .int p1), (3, .int p3), (4, .int p4)] → (14, p0) ∈ NL → kk p0 p1 p3 p4 Y = some (rr, XX) → W p l e rm_X7_brokenWith s m args below meth c H locs 0 0 (MQ below (gQ D cA ad NL (some (.int rr)) XX A) args s 0 0 A) (F0 m 5 ls [])) (hk61 : ∀ (Y : gM) (H : Heap) (locs : List Loc) (ls : Array Slot), gH D cA ad NL Y H → va_S A s.heap H locs → lv_has ls 6 [] → k61 Y = some (rr, XX) → W p l e rm_X7_brokenWith s m args below meth c H locs 0 0 (MQ below (gQ D cA ad NL (some (.int rr)) XX A) args s 0 0 A) (F0 m 61 ls [])) (hk76 : ∀ (p3 : Int32) (Y : gM) (H : Heap) (locs : List Loc) (ls : Array Slot), gH D cA ad NL Y H → va_S A s.heap H locs → lv_has ls 6 [(3, .int p3)] → k76 p3 Y = some (rr, XX) → W p l e rm_X7_brokenWith s m args below meth c H locs 0 0 (MQ below (gQ D cA ad NL (some (.int rr)) XX A) args s 0 0 A) (F0 m 76 ls [])) : ∀ (p0 : Nat) (p1 : Int32) (p3 : Int32) (p4 : Int32) (X : gM) (H : Heap) (locs : List Loc) (ls : Array Slot), gH D cA ad NL X H → va_S A s.heap H locs → lv_has ls 6 [(0, .ref (ad 14 p0)), (1, .int p1), (3, .int p3), (4, .int p4)] → (14, p0) ∈ NL → X7_brokenWith_J70 (gal NL) N kk k61 k76 p0 p1 p3 p4 X = some (rr, XX) → W p l e rm_X7_brokenWith s m args below meth c H locs 0 0 (MQ below (gQ D cA ad NL (some (.int rr)) XX A) args s 0 0 A) (F0 m 70 ls []) := by
  have hx := C.1
  have hb := C.2.1
  intro p0 p1 p3 p4 X H locs ls hP hS hl ha_l0 hf
  rw [X7_brokenWith_J70] at hf
  obtain ⟨v1, e2, hf⟩ := gl_in hf
  refine lv_iinc (v := v1) (lv' := [(4, .int v1), (0, .ref (ad 14 p0)), (1, .int p1), (3, .int p3)]) hx hb dX7_brokenWith_70 hl (k := 3) rfl (by rw [e2]; rfl) (Nat.le_of_ble_eq_true rfl) rfl (fun ls hl => ?_)
  refine lv_goto (tgt := 5) hx hb dX7_brokenWith_73 (by decide) ?_
  exact hkk p0 p1 p3 v1 X _ _ _ hP hS (lv_sub hl [1, 2, 3, 0] rfl) ha_l0 hf

set_option maxRecDepth 100000 in
set_option maxHeartbeats 4000000 in
theorem s_X7_brokenWith_J61 {p : Program} {l : Launch} {e : Env} {s : State} {m : MethodId} {args : Array Value} {below : List Frame} {meth : Method} {c : Code} {D : va_G} {cA : Nat → ClassId} {ad : Nat → Nat → Nat} {NL : List (Nat × Nat)} {A : Nat → Prop} {rr : Int32} {XX : gM} {N : Nat} (C : gCx p c meth m s args cX7_brokenWith 6 (some .int) RX7 D cA ad NL A) (hW : gWf NL) (hD0 : gD (fun _ => True) ad NL) : ∀ (X : gM) (H : Heap) (locs : List Loc) (ls : Array Slot), gH D cA ad NL X H → va_S A s.heap H locs → lv_has ls 6 [] → X7_brokenWith_J61 (gal NL) N X = some (rr, XX) → W p l e rm_X7_brokenWith s m args below meth c H locs 0 0 (MQ below (gQ D cA ad NL (some (.int rr)) XX A) args s 0 0 A) (F0 m 61 ls []) := by
  have hx := C.1
  have hb := C.2.1
  intro X H locs ls hP hS hl hf
  rw [X7_brokenWith_J61] at hf
  refine lv_bipush (v := -2) hx hb dX7_brokenWith_61 (by decide) ?_
  obtain ⟨rfl, rfl⟩ := g_s1 hf
  exact r_iret C hP hS dX7_brokenWith_63

set_option maxRecDepth 100000 in
set_option maxHeartbeats 4000000 in
theorem s_X7_brokenWith_L5 {p : Program} {l : Launch} {e : Env} {s : State} {m : MethodId} {args : Array Value} {below : List Frame} {meth : Method} {c : Code} {D : va_G} {cA : Nat → ClassId} {ad : Nat → Nat → Nat} {NL : List (Nat × Nat)} {A : Nat → Prop} {rr : Int32} {XX : gM} {N : Nat} {k61 : gM → Option (Int32 × gM)} {k76 : Int32 → gM → Option (Int32 × gM)} (C : gCx p c meth m s args cX7_brokenWith 6 (some .int) RX7 D cA ad NL A) (hW : gWf NL) (hD0 : gD (fun _ => True) ad NL) (hk61 : ∀ (Y : gM) (H : Heap) (locs : List Loc) (ls : Array Slot), gH D cA ad NL Y H → va_S A s.heap H locs → lv_has ls 6 [] → k61 Y = some (rr, XX) → W p l e rm_X7_brokenWith s m args below meth c H locs 0 0 (MQ below (gQ D cA ad NL (some (.int rr)) XX A) args s 0 0 A) (F0 m 61 ls [])) (hk76 : ∀ (p3 : Int32) (Y : gM) (H : Heap) (locs : List Loc) (ls : Array Slot), gH D cA ad NL Y H → va_S A s.heap H locs → lv_has ls 6 [(3, .int p3)] → k76 p3 Y = some (rr, XX) → W p l e rm_X7_brokenWith s m args below meth c H locs 0 0 (MQ below (gQ D cA ad NL (some (.int rr)) XX A) args s 0 0 A) (F0 m 76 ls [])) : ∀ (n : Nat) (p0 : Nat) (p1 : Int32) (p3 : Int32) (p4 : Int32) (X : gM) (H : Heap) (locs : List Loc) (ls : Array Slot), gH D cA ad NL X H → va_S A s.heap H locs → lv_has ls 6 [(0, .ref (ad 14 p0)), (1, .int p1), (3, .int p3), (4, .int p4)] → (14, p0) ∈ NL → X7_brokenWith_L5 (gal NL) N k61 k76 n p0 p1 p3 p4 X = some (rr, XX) → W p l e rm_X7_brokenWith s m args below meth c H locs 0 0 (MQ below (gQ D cA ad NL (some (.int rr)) XX A) args s 0 0 A) (F0 m 5 ls []) := by
  have hx := C.1
  have hb := C.2.1
  intro n
  induction n with
  | zero =>
    intro p0 p1 p3 p4 X H locs ls hP hS hl ha_l0 hf
    rw [X7_brokenWith_L5] at hf
    cases hf
  | succ n ih =>
    intro p0 p1 p3 p4 X H locs ls hP hS hl ha_l0 hf
    rw [X7_brokenWith_L5] at hf
    refine lv_iload hx hb dX7_brokenWith_5 (lv_at hl 3 rfl) ?_
    refine lv_aload_n hx hb dX7_brokenWith_7 rfl (lv_at hl 0 rfl) ?_
    refine r_get C hP ha_l0 (ct_14 _ _ _ _) fx_X7_35 (fg_14_8 _ _ _) dX7_brokenWith_8 ?_
    refine lv_icmp_ge (tgt := 76) hx hb dX7_brokenWith_11 (by decide) (fun c1 => ?_) (fun c1 => ?_)
    · have hf := g_ip c1 hf
      exact hk76 p3 X _ _ _ hP hS (lv_sub hl [2] rfl) hf
    · have hf := g_in c1 hf
      refine lv_aload_n hx hb dX7_brokenWith_14 rfl (lv_at hl 0 rfl) ?_
      refine r_get C hP ha_l0 (ct_14 _ _ _ _) fx_X7_31 (fg_14_7 _ _ _) dX7_brokenWith_15 ?_
      refine lv_iload hx hb dX7_brokenWith_18 (lv_at hl 3 rfl) ?_
      obtain ⟨j2, h3, hf⟩ := rd_in hf
      refine r_aldq C hP (gs_14_7 hW ha_l0) (ct_18 _ _ _ _) rfl h3 dX7_brokenWith_20 ?_
      refine r_astore (i := 5) (lv' := [(5, va_rf (ro ad 23 (X 18 p0 j2))), (0, .ref (ad 14 p0)), (1, .int p1), (3, .int p3), (4, .int p4)]) C dX7_brokenWith_21 hl (Nat.le_of_ble_eq_true rfl) rfl (fun ls hl => ?_)
      refine r_aload C dX7_brokenWith_23 (lv_at hl 0 rfl) ?_
      refine r_ifnull (tgt := 70) C dX7_brokenWith_25 (by decide) (fun c4 => ?_) (fun c4 => ?_)
      · have hf := g_ip c4 hf
        exact s_X7_brokenWith_J70 C hW hD0 ih hk61 hk76 p0 p1 p3 p4 X _ _ _ hP hS (lv_sub hl [1, 2, 3, 4] rfl) ha_l0 hf
      · have hf := g_in c4 hf
        refine r_aload C dX7_brokenWith_28 (lv_at hl 0 rfl) ?_
        refine lv_iload_n hx hb dX7_brokenWith_30 rfl (lv_at hl 2 rfl) ?_
        obtain ⟨j5, h6, hf⟩ := dr_in hf
        rw [gref h6]
        obtain ⟨r7, X8, h9, hf⟩ := b2_in hf
        refine r_cVi (rest := []) C hP hS hl.1 (s_X1_isOf hW hD0 h6.2.2 h9) ix_X1_isOf iv_X1_isOf lk_X7_115 ⟨rfl, rfl, Nat.le_of_ble_eq_true rfl, Nat.le_of_ble_eq_true rfl⟩ h6.2.2 (ct_23 _ _ _ _) rfl rfl rfl rfl (Nat.le_of_ble_eq_true rfl) ⟨Nat.zero_le _, Nat.zero_le _⟩ dX7_brokenWith_31 (fun H locs hP hS => ?_)
        refine lv_if_eq (tgt := 70) hx hb dX7_brokenWith_34 (by decide) (fun c10 => ?_) (fun c10 => ?_)
        · have hf := g_ip c10 hf
          exact s_X7_brokenWith_J70 C hW hD0 ih hk61 hk76 p0 p1 p3 p4 X8 _ _ _ hP hS (lv_sub hl [1, 2, 3, 4] rfl) ha_l0 hf
        · have hf := g_in c10 hf
          refine lv_aload_n hx hb dX7_brokenWith_37 rfl (lv_at hl 1 rfl) ?_
          refine r_aload C dX7_brokenWith_38 (lv_at hl 0 rfl) ?_
          rw [gref h6]
          obtain ⟨r11, X12, h13, hf⟩ := b2_in hf
          refine r_cVi (rest := []) C hP hS hl.1 (s_X7_isBroken hW hD0 ha_l0 h6.2.2 h13) ix_X7_isBroken iv_X7_isBroken lk_X7_119 ⟨rfl, rfl, Nat.le_of_ble_eq_true rfl, Nat.le_of_ble_eq_true rfl⟩ ha_l0 (ct_14 _ _ _ _) rfl rfl rfl rfl (Nat.le_of_ble_eq_true rfl) ⟨Nat.zero_le _, Nat.zero_le _⟩ dX7_brokenWith_40 (fun H locs hP hS => ?_)
          refine lv_if_ne (tgt := 49) hx hb dX7_brokenWith_43 (by decide) (fun c14 => ?_) (fun c14 => ?_)
          · have hf := g_in c14 hf
            refine lv_aload_n hx hb dX7_brokenWith_49 rfl (lv_at hl 1 rfl) ?_
            refine r_get C hP ha_l0 (ct_14 _ _ _ _) fx_X7_56 (fg_14_1 _ _ _) dX7_brokenWith_50 ?_
            refine lv_if_eq (tgt := 61) hx hb dX7_brokenWith_53 (by decide) (fun c15 => ?_) (fun c15 => ?_)
            · have hf := g_ip c15 hf
              exact hk61 X12 _ _ _ hP hS (lv_sub hl [] rfl) hf
            · have hf := g_in c15 hf
              refine lv_iload_n hx hb dX7_brokenWith_56 rfl (lv_at hl 3 rfl) ?_
              refine lv_iconst (v := -1) hx hb dX7_brokenWith_57 (by decide) ?_
              refine lv_icmp_eq (tgt := 64) hx hb dX7_brokenWith_58 (by decide) (fun c16 => ?_) (fun c16 => ?_)
              · have hf := g_ip c16 hf
                refine r_aload C dX7_brokenWith_64 (lv_at hl 0 rfl) ?_
                rw [gref h6]
                refine r_get C hP h6.2.2 (ct_23 _ _ _ _) fx_X7_123 (fg_23_0 _ _ _) dX7_brokenWith_66 ?_
                refine g_top hf (fun v17 e18 hf => ?_)
                refine lv_istore_n (i := 3) (lv' := [(3, .int v17), (5, va_rf (ro ad 23 (X 18 p0 j2))), (0, .ref (ad 14 p0)), (1, .int p1), (4, .int p4)]) hx hb dX7_brokenWith_69 rfl hl (Nat.le_of_ble_eq_true rfl) rfl (fun ls hl => ?_)
                exact s_X7_brokenWith_J70 C hW hD0 ih hk61 hk76 p0 p1 v17 p4 X12 _ _ _ hP hS (lv_sub hl [2, 3, 0, 4] rfl) ha_l0 hf
              · have hf := g_in c16 hf
                exact hk61 X12 _ _ _ hP hS (lv_sub hl [] rfl) hf
          · have hf := g_ip c14 hf
            refine lv_goto (tgt := 70) hx hb dX7_brokenWith_46 (by decide) ?_
            exact s_X7_brokenWith_J70 C hW hD0 ih hk61 hk76 p0 p1 p3 p4 X12 _ _ _ hP hS (lv_sub hl [1, 2, 3, 4] rfl) ha_l0 hf

set_option maxRecDepth 100000 in
set_option maxHeartbeats 4000000 in
theorem w_X7_brokenWith {p : Program} {l : Launch} {e : Env} {s : State} {m : MethodId} {args : Array Value} {below : List Frame} {meth : Method} {c : Code} {D : va_G} {cA : Nat → ClassId} {ad : Nat → Nat → Nat} {NL : List (Nat × Nat)} {A : Nat → Prop} {rr : Int32} {XX : gM} {N : Nat} (C : gCx p c meth m s args cX7_brokenWith 6 (some .int) RX7 D cA ad NL A) (hW : gWf NL) (hD0 : gD (fun _ => True) ad NL) {p0 : Nat} {p1 : Int32} {p2 : Int32} (ha_l0 : (14, p0) ∈ NL) : ∀ (X : gM) (H : Heap) (locs : List Loc) (ls : Array Slot), gH D cA ad NL X H → va_S A s.heap H locs → lv_has ls 6 [(0, .ref (ad 14 p0)), (1, .int p1), (2, .int p2)] → X7_brokenWith (gal NL) N p0 p1 p2 X = some (rr, XX) → W p l e rm_X7_brokenWith s m args below meth c H locs 0 0 (MQ below (gQ D cA ad NL (some (.int rr)) XX A) args s 0 0 A) (F0 m 0 ls []) := by
  have hx := C.1
  have hb := C.2.1
  intro X H locs ls hP hS hl hf
  rw [X7_brokenWith] at hf
  refine lv_iload_n hx hb dX7_brokenWith_0 rfl (lv_at hl 2 rfl) ?_
  refine lv_istore_n (i := 3) (lv' := [(3, .int p2), (0, .ref (ad 14 p0)), (1, .int p1), (2, .int p2)]) hx hb dX7_brokenWith_1 rfl hl (Nat.le_of_ble_eq_true rfl) rfl (fun ls hl => ?_)
  refine lv_iconst (v := 0) hx hb dX7_brokenWith_2 (by decide) ?_
  refine lv_istore (i := 4) (lv' := [(4, .int (0 : Int32)), (3, .int p2), (0, .ref (ad 14 p0)), (1, .int p1), (2, .int p2)]) hx hb dX7_brokenWith_3 hl (Nat.le_of_ble_eq_true rfl) rfl (fun ls hl => ?_)
  exact s_X7_brokenWith_L5 C hW hD0 (fun Y H locs ls hP hS hl hf => s_X7_brokenWith_J61 C hW hD0 Y _ _ _ hP hS hl hf) (fun p3 Y H locs ls hP hS hl hf => s_X7_brokenWith_J76 C hW hD0 p3 Y _ _ _ hP hS hl hf) N p0 p1 p2 (0 : Int32) X _ _ _ hP hS (lv_sub hl [2, 3, 1, 0] rfl) ha_l0 hf

theorem s_X7_brokenWith {l : Launch} {D : va_G} {cA : Nat → ClassId} {ad : Nat → Nat → Nat} {NL : List (Nat × Nat)} {N : Nat} {p0 : Nat} {p1 : Int32} {p2 : Int32} {X : gM} {rr : Int32} {XX : gM} (hW : gWf NL) (hD0 : gD (fun _ => True) ad NL) (ha_l0 : (14, p0) ∈ NL) (hf : X7_brokenWith (gal NL) N p0 p1 p2 X = some (rr, XX)) : gC l yX7_brokenWith cX7_brokenWith 6 (some .int) rm_X7_brokenWith D cA ad NL [.ref (ad 14 p0), .int p1, .int p2] X (some (.int rr)) XX :=
  g_ofW (by decide) hD0 (Nat.le_of_ble_eq_true rfl) rfl (fun p e s m below meth c ls C hP hS hl => w_X7_brokenWith C hW hD0 ha_l0 X _ _ ls hP hS hl hf)
def rm_X7_canStand : Room := { frames := 1, cells := 0, slots := 0, locals := 21 }
set_option maxRecDepth 100000 in
set_option maxHeartbeats 4000000 in
theorem s_X7_canStand_J61 {p : Program} {l : Launch} {e : Env} {s : State} {m : MethodId} {args : Array Value} {below : List Frame} {meth : Method} {c : Code} {D : va_G} {cA : Nat → ClassId} {ad : Nat → Nat → Nat} {NL : List (Nat × Nat)} {A : Nat → Prop} {rr : Int32} {XX : gM} {N : Nat} (C : gCx p c meth m s args cX7_canStand 5 (some .boolean) RX7 D cA ad NL A) (hW : gWf NL) (hD0 : gD (fun _ => True) ad NL) : ∀ (s0 : Int32) (X : gM) (H : Heap) (locs : List Loc) (ls : Array Slot), gH D cA ad NL X H → va_S A s.heap H locs → lv_has ls 5 [] → X7_canStand_J61 (gal NL) N s0 X = some (rr, XX) → W p l e rm_X7_canStand s m args below meth c H locs 0 0 (MQ below (gQ D cA ad NL (some (.int rr)) XX A) args s 0 0 A) (F0 m 61 ls [.int s0]) := by
  have hx := C.1
  have hb := C.2.1
  intro s0 X H locs ls hP hS hl hf
  rw [X7_canStand_J61] at hf
  obtain ⟨h1, hf⟩ := bz_in hf
  obtain ⟨rfl, rfl⟩ := g_s1 hf
  exact r_zret C hP hS h1 dX7_canStand_61

set_option maxRecDepth 100000 in
set_option maxHeartbeats 4000000 in
theorem s_X7_canStand_J56 {p : Program} {l : Launch} {e : Env} {s : State} {m : MethodId} {args : Array Value} {below : List Frame} {meth : Method} {c : Code} {D : va_G} {cA : Nat → ClassId} {ad : Nat → Nat → Nat} {NL : List (Nat × Nat)} {A : Nat → Prop} {rr : Int32} {XX : gM} {N : Nat} (C : gCx p c meth m s args cX7_canStand 5 (some .boolean) RX7 D cA ad NL A) (hW : gWf NL) (hD0 : gD (fun _ => True) ad NL) : ∀ (X : gM) (H : Heap) (locs : List Loc) (ls : Array Slot), gH D cA ad NL X H → va_S A s.heap H locs → lv_has ls 5 [] → X7_canStand_J56 (gal NL) N X = some (rr, XX) → W p l e rm_X7_canStand s m args below meth c H locs 0 0 (MQ below (gQ D cA ad NL (some (.int rr)) XX A) args s 0 0 A) (F0 m 56 ls []) := by
  have hx := C.1
  have hb := C.2.1
  intro X H locs ls hP hS hl hf
  rw [X7_canStand_J56] at hf
  refine lv_iconst (v := 1) hx hb dX7_canStand_56 (by decide) ?_
  refine lv_goto (tgt := 61) hx hb dX7_canStand_57 (by decide) ?_
  exact s_X7_canStand_J61 C hW hD0 (1 : Int32) X _ _ _ hP hS (lv_sub hl [] rfl) hf

set_option maxRecDepth 100000 in
set_option maxHeartbeats 4000000 in
theorem s_X7_canStand_J40 {p : Program} {l : Launch} {e : Env} {s : State} {m : MethodId} {args : Array Value} {below : List Frame} {meth : Method} {c : Code} {D : va_G} {cA : Nat → ClassId} {ad : Nat → Nat → Nat} {NL : List (Nat × Nat)} {A : Nat → Prop} {rr : Int32} {XX : gM} {N : Nat} (C : gCx p c meth m s args cX7_canStand 5 (some .boolean) RX7 D cA ad NL A) (hW : gWf NL) (hD0 : gD (fun _ => True) ad NL) : ∀ (p1 : Nat) (s0 : Int32) (X : gM) (H : Heap) (locs : List Loc) (ls : Array Slot), gH D cA ad NL X H → va_S A s.heap H locs → lv_has ls 5 [(1, .ref (ad 5 p1))] → (5, p1) ∈ NL → X7_canStand_J40 (gal NL) N p1 s0 X = some (rr, XX) → W p l e rm_X7_canStand s m args below meth c H locs 0 0 (MQ below (gQ D cA ad NL (some (.int rr)) XX A) args s 0 0 A) (F0 m 40 ls [va_rf (ro ad 5 s0)]) := by
  have hx := C.1
  have hb := C.2.1
  intro p1 s0 X H locs ls hP hS hl ha_l1 hf
  rw [X7_canStand_J40] at hf
  refine r_astore (i := 4) (lv' := [(4, va_rf (ro ad 5 s0)), (1, .ref (ad 5 p1))]) C dX7_canStand_40 hl (Nat.le_of_ble_eq_true rfl) rfl (fun ls hl => ?_)
  refine r_aload C dX7_canStand_42 (lv_at hl 0 rfl) ?_
  refine r_ifnull (tgt := 56) C dX7_canStand_44 (by decide) (fun c1 => ?_) (fun c1 => ?_)
  · have hf := g_ip c1 hf
    exact s_X7_canStand_J56 C hW hD0 X _ _ _ hP hS (lv_sub hl [] rfl) hf
  · have hf := g_in c1 hf
    refine lv_aload_n hx hb dX7_canStand_47 rfl (lv_at hl 1 rfl) ?_
    refine r_aload C dX7_canStand_48 (lv_at hl 0 rfl) ?_
    obtain ⟨j2, h3, hf⟩ := dr_in hf
    rw [gref h3]
    obtain ⟨r4, X5, h6, hf⟩ := b2_in hf
    refine r_cVi (rest := []) C hP hS hl.1 (s_X2_isUnlikeFront hW hD0 ha_l1 h3.2.2 h6) ix_X2_isUnlikeFront iv_X2_isUnlikeFront lk_X7_111 ⟨rfl, rfl, Nat.le_of_ble_eq_true rfl, Nat.le_of_ble_eq_true rfl⟩ ha_l1 (ct_5 _ _ _ _) rfl rfl rfl rfl (Nat.le_of_ble_eq_true rfl) ⟨Nat.zero_le _, Nat.zero_le _⟩ dX7_canStand_50 (fun H locs hP hS => ?_)
    refine lv_if_eq (tgt := 60) hx hb dX7_canStand_53 (by decide) (fun c7 => ?_) (fun c7 => ?_)
    · have hf := g_ip c7 hf
      refine lv_iconst (v := 0) hx hb dX7_canStand_60 (by decide) ?_
      exact s_X7_canStand_J61 C hW hD0 (0 : Int32) X5 _ _ _ hP hS (lv_sub hl [] rfl) hf
    · have hf := g_in c7 hf
      exact s_X7_canStand_J56 C hW hD0 X5 _ _ _ hP hS (lv_sub hl [] rfl) hf

set_option maxRecDepth 100000 in
set_option maxHeartbeats 4000000 in
theorem s_X7_canStand_J22 {p : Program} {l : Launch} {e : Env} {s : State} {m : MethodId} {args : Array Value} {below : List Frame} {meth : Method} {c : Code} {D : va_G} {cA : Nat → ClassId} {ad : Nat → Nat → Nat} {NL : List (Nat × Nat)} {A : Nat → Prop} {rr : Int32} {XX : gM} {N : Nat} (C : gCx p c meth m s args cX7_canStand 5 (some .boolean) RX7 D cA ad NL A) (hW : gWf NL) (hD0 : gD (fun _ => True) ad NL) : ∀ (X : gM) (H : Heap) (locs : List Loc) (ls : Array Slot), gH D cA ad NL X H → va_S A s.heap H locs → lv_has ls 5 [] → X7_canStand_J22 (gal NL) N X = some (rr, XX) → W p l e rm_X7_canStand s m args below meth c H locs 0 0 (MQ below (gQ D cA ad NL (some (.int rr)) XX A) args s 0 0 A) (F0 m 22 ls []) := by
  have hx := C.1
  have hb := C.2.1
  intro X H locs ls hP hS hl hf
  rw [X7_canStand_J22] at hf
  refine lv_iconst (v := 0) hx hb dX7_canStand_22 (by decide) ?_
  obtain ⟨rfl, rfl⟩ := g_s1 hf
  exact r_zret C hP hS (by decide) dX7_canStand_23

set_option maxRecDepth 100000 in
set_option maxHeartbeats 4000000 in
theorem w_X7_canStand {p : Program} {l : Launch} {e : Env} {s : State} {m : MethodId} {args : Array Value} {below : List Frame} {meth : Method} {c : Code} {D : va_G} {cA : Nat → ClassId} {ad : Nat → Nat → Nat} {NL : List (Nat × Nat)} {A : Nat → Prop} {rr : Int32} {XX : gM} {N : Nat} (C : gCx p c meth m s args cX7_canStand 5 (some .boolean) RX7 D cA ad NL A) (hW : gWf NL) (hD0 : gD (fun _ => True) ad NL) {p0 : Nat} {p1 : Nat} {p2 : Int32} {p3 : Int32} (ha_l0 : (14, p0) ∈ NL) (ha_l1 : (5, p1) ∈ NL) : ∀ (X : gM) (H : Heap) (locs : List Loc) (ls : Array Slot), gH D cA ad NL X H → va_S A s.heap H locs → lv_has ls 5 [(0, .ref (ad 14 p0)), (1, .ref (ad 5 p1)), (2, .int p2), (3, .int p3)] → X7_canStand (gal NL) N p0 p1 p2 p3 X = some (rr, XX) → W p l e rm_X7_canStand s m args below meth c H locs 0 0 (MQ below (gQ D cA ad NL (some (.int rr)) XX A) args s 0 0 A) (F0 m 0 ls []) := by
  have hx := C.1
  have hb := C.2.1
  intro X H locs ls hP hS hl hf
  rw [X7_canStand] at hf
  refine lv_aload_n hx hb dX7_canStand_0 rfl (lv_at hl 0 rfl) ?_
  refine r_get C hP ha_l0 (ct_14 _ _ _ _) fx_X7_47 (fg_14_11 _ _ _) dX7_canStand_1 ?_
  refine lv_aload_n hx hb dX7_canStand_4 rfl (lv_at hl 1 rfl) ?_
  refine r_get C hP ha_l1 (ct_5 _ _ _ _) fx_X7_102 (fg_5_0 _ _ _) dX7_canStand_5 ?_
  obtain ⟨j1, h2, hf⟩ := rd_in hf
  refine r_iald C hP (gs_14_11 hW ha_l0) (ct_20 _ _ _ _) h2 dX7_canStand_8 ?_
  refine lv_iconst (v := -1) hx hb dX7_canStand_9 (by decide) ?_
  refine lv_icmp_ne (tgt := 22) hx hb dX7_canStand_10 (by decide) (fun c3 => ?_) (fun c3 => ?_)
  · have hf := g_in c3 hf
    exact s_X7_canStand_J22 C hW hD0 X _ _ _ hP hS (lv_sub hl [] rfl) hf
  · have hf := g_ip c3 hf
    refine lv_aload_n hx hb dX7_canStand_13 rfl (lv_at hl 1 rfl) ?_
    refine r_get C hP ha_l1 (ct_5 _ _ _ _) fx_X7_108 (fg_5_6 _ _ _) dX7_canStand_14 ?_
    refine lv_iload_n hx hb dX7_canStand_17 rfl (lv_at hl 3 rfl) ?_
    refine lv_iand hx hb dX7_canStand_18 ?_
    refine lv_if_eq (tgt := 24) hx hb dX7_canStand_19 (by decide) (fun c4 => ?_) (fun c4 => ?_)
    · have hf := g_ip c4 hf
      refine lv_iload_n hx hb dX7_canStand_24 rfl (lv_at hl 2 rfl) ?_
      refine lv_if_le (tgt := 39) hx hb dX7_canStand_25 (by decide) (fun c5 => ?_) (fun c5 => ?_)
      · have hf := g_ip c5 hf
        refine lv_null hx hb dX7_canStand_39 ?_
        exact s_X7_canStand_J40 C hW hD0 p1 (-1 : Int32) X _ _ _ hP hS (lv_sub hl [1] rfl) ha_l1 hf
      · have hf := g_in c5 hf
        refine lv_aload_n hx hb dX7_canStand_28 rfl (lv_at hl 0 rfl) ?_
        refine r_get C hP ha_l0 (ct_14 _ _ _ _) fx_X7_50 (fg_14_12 _ _ _) dX7_canStand_29 ?_
        refine lv_iload_n hx hb dX7_canStand_32 rfl (lv_at hl 2 rfl) ?_
        refine lv_iconst (v := 1) hx hb dX7_canStand_33 (by decide) ?_
        refine lv_isub hx hb dX7_canStand_34 ?_
        obtain ⟨j6, h7, hf⟩ := rd_in hf
        refine r_aldq C hP (gs_14_12 hW ha_l0) (ct_21 _ _ _ _) rfl h7 dX7_canStand_35 ?_
        refine lv_goto (tgt := 40) hx hb dX7_canStand_36 (by decide) ?_
        exact s_X7_canStand_J40 C hW hD0 p1 ((X 21 p0 j6)) X _ _ _ hP hS (lv_sub hl [1] rfl) ha_l1 hf
    · have hf := g_in c4 hf
      exact s_X7_canStand_J22 C hW hD0 X _ _ _ hP hS (lv_sub hl [] rfl) hf

theorem s_X7_canStand {l : Launch} {D : va_G} {cA : Nat → ClassId} {ad : Nat → Nat → Nat} {NL : List (Nat × Nat)} {N : Nat} {p0 : Nat} {p1 : Nat} {p2 : Int32} {p3 : Int32} {X : gM} {rr : Int32} {XX : gM} (hW : gWf NL) (hD0 : gD (fun _ => True) ad NL) (ha_l0 : (14, p0) ∈ NL) (ha_l1 : (5, p1) ∈ NL) (hf : X7_canStand (gal NL) N p0 p1 p2 p3 X = some (rr, XX)) : gC l yX7_canStand cX7_canStand 5 (some .boolean) rm_X7_canStand D cA ad NL [.ref (ad 14 p0), .ref (ad 5 p1), .int p2, .int p3] X (some (.int rr)) XX :=
  g_ofW (by decide) hD0 (Nat.le_of_ble_eq_true rfl) rfl (fun p e s m below meth c ls C hP hS hl => w_X7_canStand C hW hD0 ha_l0 ha_l1 X _ _ ls hP hS hl hf)
def rm_X7_keepFit : Room := { frames := 0, cells := 0, slots := 0, locals := 0 }
set_option maxRecDepth 100000 in
set_option maxHeartbeats 4000000 in
theorem s_X7_keepFit_J132 {p : Program} {l : Launch} {e : Env} {s : State} {m : MethodId} {args : Array Value} {below : List Frame} {meth : Method} {c : Code} {D : va_G} {cA : Nat → ClassId} {ad : Nat → Nat → Nat} {NL : List (Nat × Nat)} {A : Nat → Prop} {rr : Int32} {XX : gM} {N : Nat} (C : gCx p c meth m s args cX7_keepFit 5 none RX7 D cA ad NL A) (hW : gWf NL) (hD0 : gD (fun _ => True) ad NL) : ∀ (X : gM) (H : Heap) (locs : List Loc) (ls : Array Slot), gH D cA ad NL X H → va_S A s.heap H locs → lv_has ls 5 [] → X7_keepFit_J132 (gal NL) N X = some (rr, XX) → W p l e rm_X7_keepFit s m args below meth c H locs 0 0 (MQ below (gQ D cA ad NL none XX A) args s 0 0 A) (F0 m 132 ls []) := by
  have hx := C.1
  have hb := C.2.1
  intro X H locs ls hP hS hl hf
  rw [X7_keepFit_J132] at hf
  obtain ⟨rfl, rfl⟩ := g_s1 hf
  exact r_vret C hP hS dX7_keepFit_132

set_option maxRecDepth 100000 in
set_option maxHeartbeats 4000000 in
theorem s_X7_keepFit_J126 {p : Program} {l : Launch} {e : Env} {s : State} {m : MethodId} {args : Array Value} {below : List Frame} {meth : Method} {c : Code} {D : va_G} {cA : Nat → ClassId} {ad : Nat → Nat → Nat} {NL : List (Nat × Nat)} {A : Nat → Prop} {rr : Int32} {XX : gM} {N : Nat} {kk : Nat → Int32 → gM → Option (Int32 × gM)} {k132 : gM → Option (Int32 × gM)} (C : gCx p c meth m s args cX7_keepFit 5 none RX7 D cA ad NL A) (hW : gWf NL) (hD0 : gD (fun _ => True) ad NL) (hkk : ∀ (p0 : Nat) (p1 : Int32) (Y : gM) (H : Heap) (locs : List Loc) (ls : Array Slot), gH D cA ad NL Y H → va_S A s.heap H locs → lv_has ls 5 [(0, .ref (ad 14 p0)), (1, .int p1)] → (14, p0) ∈ NL → kk p0 p1 Y = some (rr, XX) → W p l e rm_X7_keepFit s m args below meth c H locs 0 0 (MQ below (gQ D cA ad NL none XX A) args s 0 0 A) (F0 m 68 ls [])) (hk132 : ∀ (Y : gM) (H : Heap) (locs : List Loc) (ls : Array Slot), gH D cA ad NL Y H → va_S A s.heap H locs → lv_has ls 5 [] → k132 Y = some (rr, XX) → W p l e rm_X7_keepFit s m args below meth c H locs 0 0 (MQ below (gQ D cA ad NL none XX A) args s 0 0 A) (F0 m 132 ls [])) : ∀ (p0 : Nat) (p1 : Int32) (X : gM) (H : Heap) (locs : List Loc) (ls : Array Slot), gH D cA ad NL X H → va_S A s.heap H locs → lv_has ls 5 [(0, .ref (ad 14 p0)), (1, .int p1)] → (14, p0) ∈ NL → X7_keepFit_J126 (gal NL) N kk k132 p0 p1 X = some (rr, XX) → W p l e rm_X7_keepFit s m args below meth c H locs 0 0 (MQ below (gQ D cA ad NL none XX A) args s 0 0 A) (F0 m 126 ls []) := by
  have hx := C.1
  have hb := C.2.1
  intro p0 p1 X H locs ls hP hS hl ha_l0 hf
  rw [X7_keepFit_J126] at hf
  obtain ⟨v1, e2, hf⟩ := gl_in hf
  refine lv_iinc (v := v1) (lv' := [(1, .int v1), (0, .ref (ad 14 p0))]) hx hb dX7_keepFit_126 hl (k := 1) rfl (by rw [e2]; rfl) (Nat.le_of_ble_eq_true rfl) rfl (fun ls hl => ?_)
  refine lv_goto (tgt := 68) hx hb dX7_keepFit_129 (by decide) ?_
  exact hkk p0 v1 X _ _ _ hP hS (lv_sub hl [1, 0] rfl) ha_l0 hf

set_option maxRecDepth 100000 in
set_option maxHeartbeats 4000000 in
theorem s_X7_keepFit_L68 {p : Program} {l : Launch} {e : Env} {s : State} {m : MethodId} {args : Array Value} {below : List Frame} {meth : Method} {c : Code} {D : va_G} {cA : Nat → ClassId} {ad : Nat → Nat → Nat} {NL : List (Nat × Nat)} {A : Nat → Prop} {rr : Int32} {XX : gM} {N : Nat} {k132 : gM → Option (Int32 × gM)} (C : gCx p c meth m s args cX7_keepFit 5 none RX7 D cA ad NL A) (hW : gWf NL) (hD0 : gD (fun _ => True) ad NL) (hk132 : ∀ (Y : gM) (H : Heap) (locs : List Loc) (ls : Array Slot), gH D cA ad NL Y H → va_S A s.heap H locs → lv_has ls 5 [] → k132 Y = some (rr, XX) → W p l e rm_X7_keepFit s m args below meth c H locs 0 0 (MQ below (gQ D cA ad NL none XX A) args s 0 0 A) (F0 m 132 ls [])) : ∀ (n : Nat) (p0 : Nat) (p1 : Int32) (X : gM) (H : Heap) (locs : List Loc) (ls : Array Slot), gH D cA ad NL X H → va_S A s.heap H locs → lv_has ls 5 [(0, .ref (ad 14 p0)), (1, .int p1)] → (14, p0) ∈ NL → X7_keepFit_L68 (gal NL) N k132 n p0 p1 X = some (rr, XX) → W p l e rm_X7_keepFit s m args below meth c H locs 0 0 (MQ below (gQ D cA ad NL none XX A) args s 0 0 A) (F0 m 68 ls []) := by
  have hx := C.1
  have hb := C.2.1
  intro n
  induction n with
  | zero =>
    intro p0 p1 X H locs ls hP hS hl ha_l0 hf
    rw [X7_keepFit_L68] at hf
    cases hf
  | succ n ih =>
    intro p0 p1 X H locs ls hP hS hl ha_l0 hf
    rw [X7_keepFit_L68] at hf
    refine lv_iload_n hx hb dX7_keepFit_68 rfl (lv_at hl 1 rfl) ?_
    refine lv_aload_n hx hb dX7_keepFit_69 rfl (lv_at hl 0 rfl) ?_
    refine r_get C hP ha_l0 (ct_14 _ _ _ _) fx_X7_44 (fg_14_10 _ _ _) dX7_keepFit_70 ?_
    refine lv_icmp_ge (tgt := 132) hx hb dX7_keepFit_73 (by decide) (fun c1 => ?_) (fun c1 => ?_)
    · have hf := g_ip c1 hf
      exact hk132 X _ _ _ hP hS (lv_sub hl [] rfl) hf
    · have hf := g_in c1 hf
      refine lv_aload_n hx hb dX7_keepFit_76 rfl (lv_at hl 0 rfl) ?_
      refine r_get C hP ha_l0 (ct_14 _ _ _ _) fx_X7_50 (fg_14_12 _ _ _) dX7_keepFit_77 ?_
      refine lv_iload_n hx hb dX7_keepFit_80 rfl (lv_at hl 1 rfl) ?_
      obtain ⟨j2, h3, hf⟩ := rd_in hf
      refine r_aldq C hP (gs_14_12 hW ha_l0) (ct_21 _ _ _ _) rfl h3 dX7_keepFit_81 ?_
      refine r_astoren (i := 2) (lv' := [(2, va_rf (ro ad 5 (X 21 p0 j2))), (0, .ref (ad 14 p0)), (1, .int p1)]) C dX7_keepFit_82 rfl hl (Nat.le_of_ble_eq_true rfl) rfl (fun ls hl => ?_)
      refine lv_aload_n hx hb dX7_keepFit_83 rfl (lv_at hl 1 rfl) ?_
      refine r_get C hP ha_l0 (ct_14 _ _ _ _) fx_X7_50 (fg_14_12 _ _ _) dX7_keepFit_84 ?_
      refine lv_aload_n hx hb dX7_keepFit_87 rfl (lv_at hl 1 rfl) ?_
      refine r_get C hP ha_l0 (ct_14 _ _ _ _) fx_X7_44 (fg_14_10 _ _ _) dX7_keepFit_88 ?_
      refine lv_iconst (v := 1) hx hb dX7_keepFit_91 (by decide) ?_
      refine lv_isub hx hb dX7_keepFit_92 ?_
      refine lv_iload_n hx hb dX7_keepFit_93 rfl (lv_at hl 2 rfl) ?_
      refine lv_isub hx hb dX7_keepFit_94 ?_
      obtain ⟨j4, h5, hf⟩ := rd_in hf
      refine r_aldq C hP (gs_14_12 hW ha_l0) (ct_21 _ _ _ _) rfl h5 dX7_keepFit_95 ?_
      refine r_astoren (i := 3) (lv' := [(3, va_rf (ro ad 5 (X 21 p0 j4))), (2, va_rf (ro ad 5 (X 21 p0 j2))), (0, .ref (ad 14 p0)), (1, .int p1)]) C dX7_keepFit_96 rfl hl (Nat.le_of_ble_eq_true rfl) (by simp [g_cat, g_catr, g_cati]) (fun ls hl => ?_)
      refine r_aloadn C dX7_keepFit_97 rfl (lv_at hl 1 rfl) ?_
      refine r_ifnull (tgt := 126) C dX7_keepFit_98 (by decide) (fun c6 => ?_) (fun c6 => ?_)
      · have hf := g_ip c6 hf
        exact s_X7_keepFit_J126 C hW hD0 ih hk132 p0 p1 X _ _ _ hP hS (lv_sub hl [2, 3] rfl) ha_l0 hf
      · have hf := g_in c6 hf
        refine r_aloadn C dX7_keepFit_101 rfl (lv_at hl 0 rfl) ?_
        refine r_ifnull (tgt := 126) C dX7_keepFit_102 (by decide) (fun c7 => ?_) (fun c7 => ?_)
        · have hf := g_ip c7 hf
          exact s_X7_keepFit_J126 C hW hD0 ih hk132 p0 p1 X _ _ _ hP hS (lv_sub hl [2, 3] rfl) ha_l0 hf
        · have hf := g_in c7 hf
          refine lv_aload_n hx hb dX7_keepFit_105 rfl (lv_at hl 2 rfl) ?_
          refine r_get C hP ha_l0 (ct_14 _ _ _ _) fx_X7_23 (fg_14_5 _ _ _) dX7_keepFit_106 ?_
          refine r_aloadn C dX7_keepFit_109 rfl (lv_at hl 1 rfl) ?_
          obtain ⟨j8, h9, hf⟩ := dr_in hf
          rw [gref h9]
          refine r_get C hP h9.2.2 (ct_5 _ _ _ _) fx_X7_102 (fg_5_0 _ _ _) dX7_keepFit_110 ?_
          refine lv_bipush (v := 10) hx hb dX7_keepFit_113 (by decide) ?_
          refine lv_imul hx hb dX7_keepFit_115 ?_
          refine r_aloadn C dX7_keepFit_116 rfl (lv_at hl 0 rfl) ?_
          obtain ⟨j10, h11, hf⟩ := dr_in hf
          rw [gref h11]
          refine r_get C hP h11.2.2 (ct_5 _ _ _ _) fx_X7_102 (fg_5_0 _ _ _) dX7_keepFit_117 ?_
          refine lv_iadd hx hb dX7_keepFit_120 ?_
          refine lv_dup2_11 hx hb dX7_keepFit_121 rfl rfl ?_
          obtain ⟨j12, h13, hf⟩ := rd_in hf
          refine r_iald C hP (gs_14_5 hW ha_l0) (ct_16 _ _ _ _) h13 dX7_keepFit_122 ?_
          refine lv_iconst (v := 1) hx hb dX7_keepFit_123 (by decide) ?_
          refine lv_iadd hx hb dX7_keepFit_124 ?_
          obtain ⟨j14, h15, hf⟩ := rd_in hf
          refine r_iast C hP hS (gs_14_5 hW ha_l0) (fun _ => ct_16 _ _ _ _) h15 dX7_keepFit_125 (fun H locs hP hS => ?_)
          obtain ⟨X16, e17, hf⟩ := gl_in hf
          rw [← e17] at hP
          exact s_X7_keepFit_J126 C hW hD0 ih hk132 p0 p1 X16 _ _ _ hP hS (lv_sub hl [2, 3] rfl) ha_l0 hf

set_option maxRecDepth 100000 in
set_option maxHeartbeats 4000000 in
theorem s_X7_keepFit_J66 {p : Program} {l : Launch} {e : Env} {s : State} {m : MethodId} {args : Array Value} {below : List Frame} {meth : Method} {c : Code} {D : va_G} {cA : Nat → ClassId} {ad : Nat → Nat → Nat} {NL : List (Nat × Nat)} {A : Nat → Prop} {rr : Int32} {XX : gM} {N : Nat} (C : gCx p c meth m s args cX7_keepFit 5 none RX7 D cA ad NL A) (hW : gWf NL) (hD0 : gD (fun _ => True) ad NL) : ∀ (p0 : Nat) (X : gM) (H : Heap) (locs : List Loc) (ls : Array Slot), gH D cA ad NL X H → va_S A s.heap H locs → lv_has ls 5 [(0, .ref (ad 14 p0))] → (14, p0) ∈ NL → X7_keepFit_J66 (gal NL) N p0 X = some (rr, XX) → W p l e rm_X7_keepFit s m args below meth c H locs 0 0 (MQ below (gQ D cA ad NL none XX A) args s 0 0 A) (F0 m 66 ls []) := by
  have hx := C.1
  have hb := C.2.1
  intro p0 X H locs ls hP hS hl ha_l0 hf
  rw [X7_keepFit_J66] at hf
  refine lv_iconst (v := 0) hx hb dX7_keepFit_66 (by decide) ?_
  refine lv_istore_n (i := 1) (lv' := [(1, .int (0 : Int32)), (0, .ref (ad 14 p0))]) hx hb dX7_keepFit_67 rfl hl (Nat.le_of_ble_eq_true rfl) rfl (fun ls hl => ?_)
  exact s_X7_keepFit_L68 C hW hD0 (fun Y H locs ls hP hS hl hf => s_X7_keepFit_J132 C hW hD0 Y _ _ _ hP hS hl hf) N p0 (0 : Int32) X _ _ _ hP hS (lv_sub hl [1, 0] rfl) ha_l0 hf

set_option maxRecDepth 100000 in
set_option maxHeartbeats 4000000 in
theorem s_X7_keepFit_J60 {p : Program} {l : Launch} {e : Env} {s : State} {m : MethodId} {args : Array Value} {below : List Frame} {meth : Method} {c : Code} {D : va_G} {cA : Nat → ClassId} {ad : Nat → Nat → Nat} {NL : List (Nat × Nat)} {A : Nat → Prop} {rr : Int32} {XX : gM} {N : Nat} {kk : Nat → Nat → Int32 → Int32 → gM → Option (Int32 × gM)} {k66 : Nat → gM → Option (Int32 × gM)} (C : gCx p c meth m s args cX7_keepFit 5 none RX7 D cA ad NL A) (hW : gWf NL) (hD0 : gD (fun _ => True) ad NL) (hkk : ∀ (p0 : Nat) (p1 : Nat) (p2 : Int32) (p3 : Int32) (Y : gM) (H : Heap) (locs : List Loc) (ls : Array Slot), gH D cA ad NL Y H → va_S A s.heap H locs → lv_has ls 5 [(0, .ref (ad 14 p0)), (1, .ref (ad 13 p1)), (2, .int p2), (3, .int p3)] → (14, p0) ∈ NL → (13, p1) ∈ NL → kk p0 p1 p2 p3 Y = some (rr, XX) → W p l e rm_X7_keepFit s m args below meth c H locs 0 0 (MQ below (gQ D cA ad NL none XX A) args s 0 0 A) (F0 m 20 ls [])) (hk66 : ∀ (p0 : Nat) (Y : gM) (H : Heap) (locs : List Loc) (ls : Array Slot), gH D cA ad NL Y H → va_S A s.heap H locs → lv_has ls 5 [(0, .ref (ad 14 p0))] → (14, p0) ∈ NL → k66 p0 Y = some (rr, XX) → W p l e rm_X7_keepFit s m args below meth c H locs 0 0 (MQ below (gQ D cA ad NL none XX A) args s 0 0 A) (F0 m 66 ls [])) : ∀ (p0 : Nat) (p1 : Nat) (p2 : Int32) (p3 : Int32) (X : gM) (H : Heap) (locs : List Loc) (ls : Array Slot), gH D cA ad NL X H → va_S A s.heap H locs → lv_has ls 5 [(0, .ref (ad 14 p0)), (1, .ref (ad 13 p1)), (2, .int p2), (3, .int p3)] → (14, p0) ∈ NL → (13, p1) ∈ NL → X7_keepFit_J60 (gal NL) N kk k66 p0 p1 p2 p3 X = some (rr, XX) → W p l e rm_X7_keepFit s m args below meth c H locs 0 0 (MQ below (gQ D cA ad NL none XX A) args s 0 0 A) (F0 m 60 ls []) := by
  have hx := C.1
  have hb := C.2.1
  intro p0 p1 p2 p3 X H locs ls hP hS hl ha_l0 ha_l1 hf
  rw [X7_keepFit_J60] at hf
  obtain ⟨v1, e2, hf⟩ := gl_in hf
  refine lv_iinc (v := v1) (lv' := [(3, .int v1), (0, .ref (ad 14 p0)), (1, .ref (ad 13 p1)), (2, .int p2)]) hx hb dX7_keepFit_60 hl (k := 3) rfl (by rw [e2]; rfl) (Nat.le_of_ble_eq_true rfl) rfl (fun ls hl => ?_)
  refine lv_goto (tgt := 20) hx hb dX7_keepFit_63 (by decide) ?_
  exact hkk p0 p1 p2 v1 X _ _ _ hP hS (lv_sub hl [1, 2, 3, 0] rfl) ha_l0 ha_l1 hf

set_option maxRecDepth 100000 in
set_option maxHeartbeats 4000000 in
theorem s_X7_keepFit_L20 {p : Program} {l : Launch} {e : Env} {s : State} {m : MethodId} {args : Array Value} {below : List Frame} {meth : Method} {c : Code} {D : va_G} {cA : Nat → ClassId} {ad : Nat → Nat → Nat} {NL : List (Nat × Nat)} {A : Nat → Prop} {rr : Int32} {XX : gM} {N : Nat} {k66 : Nat → gM → Option (Int32 × gM)} (C : gCx p c meth m s args cX7_keepFit 5 none RX7 D cA ad NL A) (hW : gWf NL) (hD0 : gD (fun _ => True) ad NL) (hk66 : ∀ (p0 : Nat) (Y : gM) (H : Heap) (locs : List Loc) (ls : Array Slot), gH D cA ad NL Y H → va_S A s.heap H locs → lv_has ls 5 [(0, .ref (ad 14 p0))] → (14, p0) ∈ NL → k66 p0 Y = some (rr, XX) → W p l e rm_X7_keepFit s m args below meth c H locs 0 0 (MQ below (gQ D cA ad NL none XX A) args s 0 0 A) (F0 m 66 ls [])) : ∀ (n : Nat) (p0 : Nat) (p1 : Nat) (p2 : Int32) (p3 : Int32) (X : gM) (H : Heap) (locs : List Loc) (ls : Array Slot), gH D cA ad NL X H → va_S A s.heap H locs → lv_has ls 5 [(0, .ref (ad 14 p0)), (1, .ref (ad 13 p1)), (2, .int p2), (3, .int p3)] → (14, p0) ∈ NL → (13, p1) ∈ NL → X7_keepFit_L20 (gal NL) N k66 n p0 p1 p2 p3 X = some (rr, XX) → W p l e rm_X7_keepFit s m args below meth c H locs 0 0 (MQ below (gQ D cA ad NL none XX A) args s 0 0 A) (F0 m 20 ls []) := by
  have hx := C.1
  have hb := C.2.1
  intro n
  induction n with
  | zero =>
    intro p0 p1 p2 p3 X H locs ls hP hS hl ha_l0 ha_l1 hf
    rw [X7_keepFit_L20] at hf
    cases hf
  | succ n ih =>
    intro p0 p1 p2 p3 X H locs ls hP hS hl ha_l0 ha_l1 hf
    rw [X7_keepFit_L20] at hf
    refine lv_iload_n hx hb dX7_keepFit_20 rfl (lv_at hl 3 rfl) ?_
    refine lv_iload_n hx hb dX7_keepFit_21 rfl (lv_at hl 2 rfl) ?_
    refine lv_icmp_ge (tgt := 66) hx hb dX7_keepFit_22 (by decide) (fun c1 => ?_) (fun c1 => ?_)
    · have hf := g_ip c1 hf
      exact hk66 p0 X _ _ _ hP hS (lv_sub hl [0] rfl) ha_l0 hf
    · have hf := g_in c1 hf
      refine lv_aload_n hx hb dX7_keepFit_25 rfl (lv_at hl 1 rfl) ?_
      refine lv_iload_n hx hb dX7_keepFit_26 rfl (lv_at hl 3 rfl) ?_
      obtain ⟨j2, h3, hf⟩ := rd_in hf
      refine r_aldq C hP ha_l1 (ct_13 _ _ _ _) rfl h3 dX7_keepFit_27 ?_
      refine r_astore (i := 4) (lv' := [(4, va_rf (ro ad 5 (X 13 p1 j2))), (0, .ref (ad 14 p0)), (1, .ref (ad 13 p1)), (2, .int p2), (3, .int p3)]) C dX7_keepFit_28 hl (Nat.le_of_ble_eq_true rfl) rfl (fun ls hl => ?_)
      refine r_aload C dX7_keepFit_30 (lv_at hl 0 rfl) ?_
      refine r_ifnull (tgt := 60) C dX7_keepFit_32 (by decide) (fun c4 => ?_) (fun c4 => ?_)
      · have hf := g_ip c4 hf
        exact s_X7_keepFit_J60 C hW hD0 ih hk66 p0 p1 p2 p3 X _ _ _ hP hS (lv_sub hl [1, 2, 3, 4] rfl) ha_l0 ha_l1 hf
      · have hf := g_in c4 hf
        refine lv_aload_n hx hb dX7_keepFit_35 rfl (lv_at hl 1 rfl) ?_
        refine r_get C hP ha_l0 (ct_14 _ _ _ _) fx_X7_19 (fg_14_4 _ _ _) dX7_keepFit_36 ?_
        refine r_aload C dX7_keepFit_39 (lv_at hl 0 rfl) ?_
        obtain ⟨j5, h6, hf⟩ := dr_in hf
        rw [gref h6]
        refine r_get C hP h6.2.2 (ct_5 _ _ _ _) fx_X7_102 (fg_5_0 _ _ _) dX7_keepFit_41 ?_
        refine lv_dup2_11 hx hb dX7_keepFit_44 rfl rfl ?_
        obtain ⟨j7, h8, hf⟩ := rd_in hf
        refine r_iald C hP (gs_14_4 hW ha_l0) (ct_15 _ _ _ _) h8 dX7_keepFit_45 ?_
        refine lv_iconst (v := 1) hx hb dX7_keepFit_46 (by decide) ?_
        refine lv_aload_n hx hb dX7_keepFit_47 rfl (lv_at hl 1 rfl) ?_
        refine r_get C hP ha_l0 (ct_14 _ _ _ _) fx_X7_47 (fg_14_11 _ _ _) dX7_keepFit_48 ?_
        refine r_aload C dX7_keepFit_51 (lv_at hl 0 rfl) ?_
        rw [gref h6]
        refine r_get C hP h6.2.2 (ct_5 _ _ _ _) fx_X7_102 (fg_5_0 _ _ _) dX7_keepFit_53 ?_
        obtain ⟨j9, h10, hf⟩ := rd_in hf
        refine r_iald C hP (gs_14_11 hW ha_l0) (ct_20 _ _ _ _) h10 dX7_keepFit_56 ?_
        refine lv_ishl hx hb dX7_keepFit_57 ?_
        refine lv_ior hx hb dX7_keepFit_58 ?_
        obtain ⟨j11, h12, hf⟩ := rd_in hf
        refine r_iast C hP hS (gs_14_4 hW ha_l0) (fun _ => ct_15 _ _ _ _) h12 dX7_keepFit_59 (fun H locs hP hS => ?_)
        obtain ⟨X13, e14, hf⟩ := gl_in hf
        rw [← e14] at hP
        exact s_X7_keepFit_J60 C hW hD0 ih hk66 p0 p1 p2 p3 X13 _ _ _ hP hS (lv_sub hl [1, 2, 3, 4] rfl) ha_l0 ha_l1 hf

set_option maxRecDepth 100000 in
set_option maxHeartbeats 4000000 in
theorem w_X7_keepFit {p : Program} {l : Launch} {e : Env} {s : State} {m : MethodId} {args : Array Value} {below : List Frame} {meth : Method} {c : Code} {D : va_G} {cA : Nat → ClassId} {ad : Nat → Nat → Nat} {NL : List (Nat × Nat)} {A : Nat → Prop} {rr : Int32} {XX : gM} {N : Nat} (C : gCx p c meth m s args cX7_keepFit 5 none RX7 D cA ad NL A) (hW : gWf NL) (hD0 : gD (fun _ => True) ad NL) {p0 : Nat} (ha_l0 : (14, p0) ∈ NL) : ∀ (X : gM) (H : Heap) (locs : List Loc) (ls : Array Slot), gH D cA ad NL X H → va_S A s.heap H locs → lv_has ls 5 [(0, .ref (ad 14 p0))] → X7_keepFit (gal NL) N p0 X = some (rr, XX) → W p l e rm_X7_keepFit s m args below meth c H locs 0 0 (MQ below (gQ D cA ad NL none XX A) args s 0 0 A) (F0 m 0 ls []) := by
  have hx := C.1
  have hb := C.2.1
  intro X H locs ls hP hS hl hf
  rw [X7_keepFit] at hf
  refine lv_aload_n hx hb dX7_keepFit_0 rfl (lv_at hl 0 rfl) ?_
  refine lv_dup hx hb dX7_keepFit_1 rfl ?_
  refine r_get C hP ha_l0 (ct_14 _ _ _ _) fx_X7_15 (fg_14_3 _ _ _) dX7_keepFit_2 ?_
  refine lv_iconst (v := 1) hx hb dX7_keepFit_5 (by decide) ?_
  refine lv_iadd hx hb dX7_keepFit_6 ?_
  refine r_put C hP hS ((X 14 p0 3) + (1 : Int32)) ha_l0 (ct_14 _ _ _ _) px_X7_15 (fp_14_3 _ _ _ _ _) (Nat.le_of_ble_eq_true rfl) rfl rfl dX7_keepFit_7 (fun H locs hP hS => ?_)
  obtain ⟨X1, e2, hf⟩ := gl_in hf
  rw [← e2] at hP
  refine lv_aload_n hx hb dX7_keepFit_10 rfl (lv_at hl 0 rfl) ?_
  refine r_get C hP ha_l0 (ct_14 _ _ _ _) fx_X7_40 (fg_14_9 _ _ _) dX7_keepFit_11 ?_
  obtain ⟨j3, h4, hf⟩ := dr_in hf
  rw [gsmr h4]
  refine lv_astore_n (i := 1) (lv' := [(1, .ref (ad 13 j3)), (0, .ref (ad 14 p0))]) hx hb dX7_keepFit_14 rfl hl (Nat.le_of_ble_eq_true rfl) rfl (fun ls hl => ?_)
  refine lv_aload_n hx hb dX7_keepFit_15 rfl (lv_at hl 0 rfl) ?_
  refine r_alen C hP 6 h4.2.2 (ct_13 _ _ _ _) rfl rfl dX7_keepFit_16 ?_
  refine lv_istore_n (i := 2) (lv' := [(2, .int (6 : Int32)), (1, .ref (ad 13 j3)), (0, .ref (ad 14 p0))]) hx hb dX7_keepFit_17 rfl hl (Nat.le_of_ble_eq_true rfl) rfl (fun ls hl => ?_)
  refine lv_iconst (v := 0) hx hb dX7_keepFit_18 (by decide) ?_
  refine lv_istore_n (i := 3) (lv' := [(3, .int (0 : Int32)), (2, .int (6 : Int32)), (1, .ref (ad 13 j3)), (0, .ref (ad 14 p0))]) hx hb dX7_keepFit_19 rfl hl (Nat.le_of_ble_eq_true rfl) rfl (fun ls hl => ?_)
  exact s_X7_keepFit_L20 C hW hD0 (fun p0 Y H locs ls hP hS hl ha_l0 hf => s_X7_keepFit_J66 C hW hD0 p0 Y _ _ _ hP hS hl ha_l0 hf) N p0 j3 (6 : Int32) (0 : Int32) X1 _ _ _ hP hS (lv_sub hl [3, 2, 1, 0] rfl) ha_l0 h4.2.2 hf

theorem s_X7_keepFit {l : Launch} {D : va_G} {cA : Nat → ClassId} {ad : Nat → Nat → Nat} {NL : List (Nat × Nat)} {N : Nat} {p0 : Nat} {X : gM} {rr : Int32} {XX : gM} (hW : gWf NL) (hD0 : gD (fun _ => True) ad NL) (ha_l0 : (14, p0) ∈ NL) (hf : X7_keepFit (gal NL) N p0 X = some (rr, XX)) : gC l yX7_keepFit cX7_keepFit 5 none rm_X7_keepFit D cA ad NL [.ref (ad 14 p0)] X none XX :=
  g_ofW (by decide) hD0 (Nat.le_of_ble_eq_true rfl) rfl (fun p e s m below meth c ls C hP hS hl => w_X7_keepFit C hW hD0 ha_l0 X _ _ ls hP hS hl hf)
def rm_X7_keepSpared : Room := { frames := 0, cells := 0, slots := 0, locals := 0 }
set_option maxRecDepth 100000 in
set_option maxHeartbeats 4000000 in
theorem s_X7_keepSpared_J64 {p : Program} {l : Launch} {e : Env} {s : State} {m : MethodId} {args : Array Value} {below : List Frame} {meth : Method} {c : Code} {D : va_G} {cA : Nat → ClassId} {ad : Nat → Nat → Nat} {NL : List (Nat × Nat)} {A : Nat → Prop} {rr : Int32} {XX : gM} {N : Nat} (C : gCx p c meth m s args cX7_keepSpared 6 none RX7 D cA ad NL A) (hW : gWf NL) (hD0 : gD (fun _ => True) ad NL) : ∀ (X : gM) (H : Heap) (locs : List Loc) (ls : Array Slot), gH D cA ad NL X H → va_S A s.heap H locs → lv_has ls 6 [] → X7_keepSpared_J64 (gal NL) N X = some (rr, XX) → W p l e rm_X7_keepSpared s m args below meth c H locs 0 0 (MQ below (gQ D cA ad NL none XX A) args s 0 0 A) (F0 m 64 ls []) := by
  have hx := C.1
  have hb := C.2.1
  intro X H locs ls hP hS hl hf
  rw [X7_keepSpared_J64] at hf
  obtain ⟨rfl, rfl⟩ := g_s1 hf
  exact r_vret C hP hS dX7_keepSpared_64

set_option maxRecDepth 100000 in
set_option maxHeartbeats 4000000 in
theorem s_X7_keepSpared_J58 {p : Program} {l : Launch} {e : Env} {s : State} {m : MethodId} {args : Array Value} {below : List Frame} {meth : Method} {c : Code} {D : va_G} {cA : Nat → ClassId} {ad : Nat → Nat → Nat} {NL : List (Nat × Nat)} {A : Nat → Prop} {rr : Int32} {XX : gM} {N : Nat} {kk : Nat → Int32 → Nat → Int32 → Int32 → gM → Option (Int32 × gM)} {k64 : gM → Option (Int32 × gM)} (C : gCx p c meth m s args cX7_keepSpared 6 none RX7 D cA ad NL A) (hW : gWf NL) (hD0 : gD (fun _ => True) ad NL) (hkk : ∀ (p0 : Nat) (p1 : Int32) (p2 : Nat) (p3 : Int32) (p4 : Int32) (Y : gM) (H : Heap) (locs : List Loc) (ls : Array Slot), gH D cA ad NL Y H → va_S A s.heap H locs → lv_has ls 6 [(0, .ref (ad 14 p0)), (1, .int p1), (2, .ref (ad 13 p2)), (3, .int p3), (4, .int p4)] → (14, p0) ∈ NL → (13, p2) ∈ NL → kk p0 p1 p2 p3 p4 Y = some (rr, XX) → W p l e rm_X7_keepSpared s m args below meth c H locs 0 0 (MQ below (gQ D cA ad NL none XX A) args s 0 0 A) (F0 m 11 ls [])) (hk64 : ∀ (Y : gM) (H : Heap) (locs : List Loc) (ls : Array Slot), gH D cA ad NL Y H → va_S A s.heap H locs → lv_has ls 6 [] → k64 Y = some (rr, XX) → W p l e rm_X7_keepSpared s m args below meth c H locs 0 0 (MQ below (gQ D cA ad NL none XX A) args s 0 0 A) (F0 m 64 ls [])) : ∀ (p0 : Nat) (p1 : Int32) (p2 : Nat) (p3 : Int32) (p4 : Int32) (X : gM) (H : Heap) (locs : List Loc) (ls : Array Slot), gH D cA ad NL X H → va_S A s.heap H locs → lv_has ls 6 [(0, .ref (ad 14 p0)), (1, .int p1), (2, .ref (ad 13 p2)), (3, .int p3), (4, .int p4)] → (14, p0) ∈ NL → (13, p2) ∈ NL → X7_keepSpared_J58 (gal NL) N kk k64 p0 p1 p2 p3 p4 X = some (rr, XX) → W p l e rm_X7_keepSpared s m args below meth c H locs 0 0 (MQ below (gQ D cA ad NL none XX A) args s 0 0 A) (F0 m 58 ls []) := by
  have hx := C.1
  have hb := C.2.1
  intro p0 p1 p2 p3 p4 X H locs ls hP hS hl ha_l0 ha_l2 hf
  rw [X7_keepSpared_J58] at hf
  obtain ⟨v1, e2, hf⟩ := gl_in hf
  refine lv_iinc (v := v1) (lv' := [(4, .int v1), (0, .ref (ad 14 p0)), (1, .int p1), (2, .ref (ad 13 p2)), (3, .int p3)]) hx hb dX7_keepSpared_58 hl (k := 4) rfl (by rw [e2]; rfl) (Nat.le_of_ble_eq_true rfl) rfl (fun ls hl => ?_)
  refine lv_goto (tgt := 11) hx hb dX7_keepSpared_61 (by decide) ?_
  exact hkk p0 p1 p2 p3 v1 X _ _ _ hP hS (lv_sub hl [1, 2, 3, 4, 0] rfl) ha_l0 ha_l2 hf

set_option maxRecDepth 100000 in
set_option maxHeartbeats 4000000 in
theorem s_X7_keepSpared_L11 {p : Program} {l : Launch} {e : Env} {s : State} {m : MethodId} {args : Array Value} {below : List Frame} {meth : Method} {c : Code} {D : va_G} {cA : Nat → ClassId} {ad : Nat → Nat → Nat} {NL : List (Nat × Nat)} {A : Nat → Prop} {rr : Int32} {XX : gM} {N : Nat} {k64 : gM → Option (Int32 × gM)} (C : gCx p c meth m s args cX7_keepSpared 6 none RX7 D cA ad NL A) (hW : gWf NL) (hD0 : gD (fun _ => True) ad NL) (hk64 : ∀ (Y : gM) (H : Heap) (locs : List Loc) (ls : Array Slot), gH D cA ad NL Y H → va_S A s.heap H locs → lv_has ls 6 [] → k64 Y = some (rr, XX) → W p l e rm_X7_keepSpared s m args below meth c H locs 0 0 (MQ below (gQ D cA ad NL none XX A) args s 0 0 A) (F0 m 64 ls [])) : ∀ (n : Nat) (p0 : Nat) (p1 : Int32) (p2 : Nat) (p3 : Int32) (p4 : Int32) (X : gM) (H : Heap) (locs : List Loc) (ls : Array Slot), gH D cA ad NL X H → va_S A s.heap H locs → lv_has ls 6 [(0, .ref (ad 14 p0)), (1, .int p1), (2, .ref (ad 13 p2)), (3, .int p3), (4, .int p4)] → (14, p0) ∈ NL → (13, p2) ∈ NL → X7_keepSpared_L11 (gal NL) N k64 n p0 p1 p2 p3 p4 X = some (rr, XX) → W p l e rm_X7_keepSpared s m args below meth c H locs 0 0 (MQ below (gQ D cA ad NL none XX A) args s 0 0 A) (F0 m 11 ls []) := by
  have hx := C.1
  have hb := C.2.1
  intro n
  induction n with
  | zero =>
    intro p0 p1 p2 p3 p4 X H locs ls hP hS hl ha_l0 ha_l2 hf
    rw [X7_keepSpared_L11] at hf
    cases hf
  | succ n ih =>
    intro p0 p1 p2 p3 p4 X H locs ls hP hS hl ha_l0 ha_l2 hf
    rw [X7_keepSpared_L11] at hf
    refine lv_iload hx hb dX7_keepSpared_11 (lv_at hl 4 rfl) ?_
    refine lv_iload_n hx hb dX7_keepSpared_13 rfl (lv_at hl 3 rfl) ?_
    refine lv_icmp_ge (tgt := 64) hx hb dX7_keepSpared_14 (by decide) (fun c1 => ?_) (fun c1 => ?_)
    · have hf := g_ip c1 hf
      exact hk64 X _ _ _ hP hS (lv_sub hl [] rfl) hf
    · have hf := g_in c1 hf
      refine lv_aload_n hx hb dX7_keepSpared_17 rfl (lv_at hl 2 rfl) ?_
      refine lv_iload hx hb dX7_keepSpared_18 (lv_at hl 4 rfl) ?_
      obtain ⟨j2, h3, hf⟩ := rd_in hf
      refine r_aldq C hP ha_l2 (ct_13 _ _ _ _) rfl h3 dX7_keepSpared_20 ?_
      refine r_astore (i := 5) (lv' := [(5, va_rf (ro ad 5 (X 13 p2 j2))), (0, .ref (ad 14 p0)), (1, .int p1), (2, .ref (ad 13 p2)), (3, .int p3), (4, .int p4)]) C dX7_keepSpared_21 hl (Nat.le_of_ble_eq_true rfl) rfl (fun ls hl => ?_)
      refine r_aload C dX7_keepSpared_23 (lv_at hl 0 rfl) ?_
      refine r_ifnull (tgt := 58) C dX7_keepSpared_25 (by decide) (fun c4 => ?_) (fun c4 => ?_)
      · have hf := g_ip c4 hf
        exact s_X7_keepSpared_J58 C hW hD0 ih hk64 p0 p1 p2 p3 p4 X _ _ _ hP hS (lv_sub hl [1, 2, 3, 4, 5] rfl) ha_l0 ha_l2 hf
      · have hf := g_in c4 hf
        refine lv_aload_n hx hb dX7_keepSpared_28 rfl (lv_at hl 1 rfl) ?_
        refine r_get C hP ha_l0 (ct_14 _ _ _ _) fx_X7_26 (fg_14_6 _ _ _) dX7_keepSpared_29 ?_
        refine lv_iload_n hx hb dX7_keepSpared_32 rfl (lv_at hl 2 rfl) ?_
        refine lv_bipush (v := 10) hx hb dX7_keepSpared_33 (by decide) ?_
        refine lv_imul hx hb dX7_keepSpared_35 ?_
        refine r_aload C dX7_keepSpared_36 (lv_at hl 0 rfl) ?_
        obtain ⟨j5, h6, hf⟩ := dr_in hf
        rw [gref h6]
        refine r_get C hP h6.2.2 (ct_5 _ _ _ _) fx_X7_102 (fg_5_0 _ _ _) dX7_keepSpared_38 ?_
        refine lv_iadd hx hb dX7_keepSpared_41 ?_
        refine lv_dup2_11 hx hb dX7_keepSpared_42 rfl rfl ?_
        obtain ⟨j7, h8, hf⟩ := rd_in hf
        refine r_iald C hP (gs_14_6 hW ha_l0) (ct_17 _ _ _ _) h8 dX7_keepSpared_43 ?_
        refine lv_iconst (v := 1) hx hb dX7_keepSpared_44 (by decide) ?_
        refine lv_aload_n hx hb dX7_keepSpared_45 rfl (lv_at hl 1 rfl) ?_
        refine r_get C hP ha_l0 (ct_14 _ _ _ _) fx_X7_47 (fg_14_11 _ _ _) dX7_keepSpared_46 ?_
        refine r_aload C dX7_keepSpared_49 (lv_at hl 0 rfl) ?_
        rw [gref h6]
        refine r_get C hP h6.2.2 (ct_5 _ _ _ _) fx_X7_102 (fg_5_0 _ _ _) dX7_keepSpared_51 ?_
        obtain ⟨j9, h10, hf⟩ := rd_in hf
        refine r_iald C hP (gs_14_11 hW ha_l0) (ct_20 _ _ _ _) h10 dX7_keepSpared_54 ?_
        refine lv_ishl hx hb dX7_keepSpared_55 ?_
        refine lv_ior hx hb dX7_keepSpared_56 ?_
        obtain ⟨j11, h12, hf⟩ := rd_in hf
        refine r_iast C hP hS (gs_14_6 hW ha_l0) (fun _ => ct_17 _ _ _ _) h12 dX7_keepSpared_57 (fun H locs hP hS => ?_)
        obtain ⟨X13, e14, hf⟩ := gl_in hf
        rw [← e14] at hP
        exact s_X7_keepSpared_J58 C hW hD0 ih hk64 p0 p1 p2 p3 p4 X13 _ _ _ hP hS (lv_sub hl [1, 2, 3, 4, 5] rfl) ha_l0 ha_l2 hf

set_option maxRecDepth 100000 in
set_option maxHeartbeats 4000000 in
theorem w_X7_keepSpared {p : Program} {l : Launch} {e : Env} {s : State} {m : MethodId} {args : Array Value} {below : List Frame} {meth : Method} {c : Code} {D : va_G} {cA : Nat → ClassId} {ad : Nat → Nat → Nat} {NL : List (Nat × Nat)} {A : Nat → Prop} {rr : Int32} {XX : gM} {N : Nat} (C : gCx p c meth m s args cX7_keepSpared 6 none RX7 D cA ad NL A) (hW : gWf NL) (hD0 : gD (fun _ => True) ad NL) {p0 : Nat} {p1 : Int32} (ha_l0 : (14, p0) ∈ NL) : ∀ (X : gM) (H : Heap) (locs : List Loc) (ls : Array Slot), gH D cA ad NL X H → va_S A s.heap H locs → lv_has ls 6 [(0, .ref (ad 14 p0)), (1, .int p1)] → X7_keepSpared (gal NL) N p0 p1 X = some (rr, XX) → W p l e rm_X7_keepSpared s m args below meth c H locs 0 0 (MQ below (gQ D cA ad NL none XX A) args s 0 0 A) (F0 m 0 ls []) := by
  have hx := C.1
  have hb := C.2.1
  intro X H locs ls hP hS hl hf
  rw [X7_keepSpared] at hf
  refine lv_aload_n hx hb dX7_keepSpared_0 rfl (lv_at hl 0 rfl) ?_
  refine r_get C hP ha_l0 (ct_14 _ _ _ _) fx_X7_40 (fg_14_9 _ _ _) dX7_keepSpared_1 ?_
  obtain ⟨j1, h2, hf⟩ := dr_in hf
  rw [gsmr h2]
  refine lv_astore_n (i := 2) (lv' := [(2, .ref (ad 13 j1)), (0, .ref (ad 14 p0)), (1, .int p1)]) hx hb dX7_keepSpared_4 rfl hl (Nat.le_of_ble_eq_true rfl) rfl (fun ls hl => ?_)
  refine lv_aload_n hx hb dX7_keepSpared_5 rfl (lv_at hl 0 rfl) ?_
  refine r_alen C hP 6 h2.2.2 (ct_13 _ _ _ _) rfl rfl dX7_keepSpared_6 ?_
  refine lv_istore_n (i := 3) (lv' := [(3, .int (6 : Int32)), (2, .ref (ad 13 j1)), (0, .ref (ad 14 p0)), (1, .int p1)]) hx hb dX7_keepSpared_7 rfl hl (Nat.le_of_ble_eq_true rfl) rfl (fun ls hl => ?_)
  refine lv_iconst (v := 0) hx hb dX7_keepSpared_8 (by decide) ?_
  refine lv_istore (i := 4) (lv' := [(4, .int (0 : Int32)), (3, .int (6 : Int32)), (2, .ref (ad 13 j1)), (0, .ref (ad 14 p0)), (1, .int p1)]) hx hb dX7_keepSpared_9 hl (Nat.le_of_ble_eq_true rfl) rfl (fun ls hl => ?_)
  exact s_X7_keepSpared_L11 C hW hD0 (fun Y H locs ls hP hS hl hf => s_X7_keepSpared_J64 C hW hD0 Y _ _ _ hP hS hl hf) N p0 p1 j1 (6 : Int32) (0 : Int32) X _ _ _ hP hS (lv_sub hl [3, 4, 2, 1, 0] rfl) ha_l0 h2.2.2 hf

theorem s_X7_keepSpared {l : Launch} {D : va_G} {cA : Nat → ClassId} {ad : Nat → Nat → Nat} {NL : List (Nat × Nat)} {N : Nat} {p0 : Nat} {p1 : Int32} {X : gM} {rr : Int32} {XX : gM} (hW : gWf NL) (hD0 : gD (fun _ => True) ad NL) (ha_l0 : (14, p0) ∈ NL) (hf : X7_keepSpared (gal NL) N p0 p1 X = some (rr, XX)) : gC l yX7_keepSpared cX7_keepSpared 6 none rm_X7_keepSpared D cA ad NL [.ref (ad 14 p0), .int p1] X none XX :=
  g_ofW (by decide) hD0 (Nat.le_of_ble_eq_true rfl) rfl (fun p e s m below meth c ls C hP hS hl => w_X7_keepSpared C hW hD0 ha_l0 X _ _ ls hP hS hl hf)
def rm_X7_keep : Room := { frames := 1, cells := 0, slots := 0, locals := 25 }
set_option maxRecDepth 100000 in
set_option maxHeartbeats 4000000 in
theorem s_X7_keep_J17 {p : Program} {l : Launch} {e : Env} {s : State} {m : MethodId} {args : Array Value} {below : List Frame} {meth : Method} {c : Code} {D : va_G} {cA : Nat → ClassId} {ad : Nat → Nat → Nat} {NL : List (Nat × Nat)} {A : Nat → Prop} {rr : Int32} {XX : gM} {N : Nat} (C : gCx p c meth m s args cX7_keep 2 none RX7 D cA ad NL A) (hW : gWf NL) (hD0 : gD (fun _ => True) ad NL) : ∀ (X : gM) (H : Heap) (locs : List Loc) (ls : Array Slot), gH D cA ad NL X H → va_S A s.heap H locs → lv_has ls 2 [] → X7_keep_J17 (gal NL) N X = some (rr, XX) → W p l e rm_X7_keep s m args below meth c H locs 0 0 (MQ below (gQ D cA ad NL none XX A) args s 0 0 A) (F0 m 17 ls []) := by
  have hx := C.1
  have hb := C.2.1
  intro X H locs ls hP hS hl hf
  rw [X7_keep_J17] at hf
  obtain ⟨rfl, rfl⟩ := g_s1 hf
  exact r_vret C hP hS dX7_keep_17

set_option maxRecDepth 100000 in
set_option maxHeartbeats 4000000 in
theorem w_X7_keep {p : Program} {l : Launch} {e : Env} {s : State} {m : MethodId} {args : Array Value} {below : List Frame} {meth : Method} {c : Code} {D : va_G} {cA : Nat → ClassId} {ad : Nat → Nat → Nat} {NL : List (Nat × Nat)} {A : Nat → Prop} {rr : Int32} {XX : gM} {N : Nat} (C : gCx p c meth m s args cX7_keep 2 none RX7 D cA ad NL A) (hW : gWf NL) (hD0 : gD (fun _ => True) ad NL) {p0 : Nat} {p1 : Int32} (ha_l0 : (14, p0) ∈ NL) : ∀ (X : gM) (H : Heap) (locs : List Loc) (ls : Array Slot), gH D cA ad NL X H → va_S A s.heap H locs → lv_has ls 2 [(0, .ref (ad 14 p0)), (1, .int p1)] → X7_keep (gal NL) N p0 p1 X = some (rr, XX) → W p l e rm_X7_keep s m args below meth c H locs 0 0 (MQ below (gQ D cA ad NL none XX A) args s 0 0 A) (F0 m 0 ls []) := by
  have hx := C.1
  have hb := C.2.1
  intro X H locs ls hP hS hl hf
  rw [X7_keep] at hf
  refine lv_iload_n hx hb dX7_keep_0 rfl (lv_at hl 1 rfl) ?_
  refine lv_iconst (v := -1) hx hb dX7_keep_1 (by decide) ?_
  refine lv_icmp_ne (tgt := 12) hx hb dX7_keep_2 (by decide) (fun c1 => ?_) (fun c1 => ?_)
  · have hf := g_in c1 hf
    refine lv_aload_n hx hb dX7_keep_12 rfl (lv_at hl 0 rfl) ?_
    refine lv_iload_n hx hb dX7_keep_13 rfl (lv_at hl 1 rfl) ?_
    obtain ⟨r2, X3, h4, hf⟩ := b2_in hf
    refine r_cVv (rest := []) C hP hS hl.1 (s_X7_keepSpared hW hD0 ha_l0 h4) ix_X7_keepSpared iv_X7_keepSpared lk_X7_136 ⟨rfl, rfl, Nat.le_of_ble_eq_true rfl, Nat.le_of_ble_eq_true rfl⟩ ha_l0 (ct_14 _ _ _ _) rfl rfl rfl rfl (Nat.le_of_ble_eq_true rfl) ⟨Nat.zero_le _, Nat.zero_le _⟩ dX7_keep_14 (fun H locs hP hS => ?_)
    exact s_X7_keep_J17 C hW hD0 X3 _ _ _ hP hS (lv_sub hl [] rfl) hf
  · have hf := g_ip c1 hf
    refine lv_aload_n hx hb dX7_keep_5 rfl (lv_at hl 0 rfl) ?_
    obtain ⟨r5, X6, h7, hf⟩ := b2_in hf
    refine r_cVv (rest := []) C hP hS hl.1 (s_X7_keepFit hW hD0 ha_l0 h7) ix_X7_keepFit iv_X7_keepFit lk_X7_133 ⟨rfl, rfl, Nat.le_of_ble_eq_true rfl, Nat.le_of_ble_eq_true rfl⟩ ha_l0 (ct_14 _ _ _ _) rfl rfl rfl rfl (Nat.le_of_ble_eq_true rfl) ⟨Nat.zero_le _, Nat.zero_le _⟩ dX7_keep_6 (fun H locs hP hS => ?_)
    refine lv_goto (tgt := 17) hx hb dX7_keep_9 (by decide) ?_
    exact s_X7_keep_J17 C hW hD0 X6 _ _ _ hP hS (lv_sub hl [] rfl) hf

theorem s_X7_keep {l : Launch} {D : va_G} {cA : Nat → ClassId} {ad : Nat → Nat → Nat} {NL : List (Nat × Nat)} {N : Nat} {p0 : Nat} {p1 : Int32} {X : gM} {rr : Int32} {XX : gM} (hW : gWf NL) (hD0 : gD (fun _ => True) ad NL) (ha_l0 : (14, p0) ∈ NL) (hf : X7_keep (gal NL) N p0 p1 X = some (rr, XX)) : gC l yX7_keep cX7_keep 2 none rm_X7_keep D cA ad NL [.ref (ad 14 p0), .int p1] X none XX :=
  g_ofW (by decide) hD0 (Nat.le_of_ble_eq_true rfl) rfl (fun p e s m below meth c ls C hP hS hl => w_X7_keep C hW hD0 ha_l0 X _ _ ls hP hS hl hf)
def rm_X7_takeFacts : Room := { frames := 0, cells := 0, slots := 0, locals := 0 }
set_option maxRecDepth 100000 in
set_option maxHeartbeats 4000000 in
theorem s_X7_takeFacts_J98 {p : Program} {l : Launch} {e : Env} {s : State} {m : MethodId} {args : Array Value} {below : List Frame} {meth : Method} {c : Code} {D : va_G} {cA : Nat → ClassId} {ad : Nat → Nat → Nat} {NL : List (Nat × Nat)} {A : Nat → Prop} {rr : Int32} {XX : gM} {N : Nat} (C : gCx p c meth m s args cX7_takeFacts 6 none RX7 D cA ad NL A) (hW : gWf NL) (hD0 : gD (fun _ => True) ad NL) : ∀ (X : gM) (H : Heap) (locs : List Loc) (ls : Array Slot), gH D cA ad NL X H → va_S A s.heap H locs → lv_has ls 6 [] → X7_takeFacts_J98 (gal NL) N X = some (rr, XX) → W p l e rm_X7_takeFacts s m args below meth c H locs 0 0 (MQ below (gQ D cA ad NL none XX A) args s 0 0 A) (F0 m 98 ls []) := by
  have hx := C.1
  have hb := C.2.1
  intro X H locs ls hP hS hl hf
  rw [X7_takeFacts_J98] at hf
  obtain ⟨rfl, rfl⟩ := g_s1 hf
  exact r_vret C hP hS dX7_takeFacts_98

set_option maxRecDepth 100000 in
set_option maxHeartbeats 4000000 in
theorem s_X7_takeFacts_J92 {p : Program} {l : Launch} {e : Env} {s : State} {m : MethodId} {args : Array Value} {below : List Frame} {meth : Method} {c : Code} {D : va_G} {cA : Nat → ClassId} {ad : Nat → Nat → Nat} {NL : List (Nat × Nat)} {A : Nat → Prop} {rr : Int32} {XX : gM} {N : Nat} {kk : Nat → Int32 → Int32 → gM → Option (Int32 × gM)} {k98 : gM → Option (Int32 × gM)} (C : gCx p c meth m s args cX7_takeFacts 6 none RX7 D cA ad NL A) (hW : gWf NL) (hD0 : gD (fun _ => True) ad NL) (hkk : ∀ (p0 : Nat) (p3 : Int32) (p4 : Int32) (Y : gM) (H : Heap) (locs : List Loc) (ls : Array Slot), gH D cA ad NL Y H → va_S A s.heap H locs → lv_has ls 6 [(0, .ref (ad 14 p0)), (2, .ref (ad 22 0)), (3, .int p3), (4, .int p4)] → (14, p0) ∈ NL → (22, 0) ∈ NL → kk p0 p3 p4 Y = some (rr, XX) → W p l e rm_X7_takeFacts s m args below meth c H locs 0 0 (MQ below (gQ D cA ad NL none XX A) args s 0 0 A) (F0 m 13 ls [])) (hk98 : ∀ (Y : gM) (H : Heap) (locs : List Loc) (ls : Array Slot), gH D cA ad NL Y H → va_S A s.heap H locs → lv_has ls 6 [] → k98 Y = some (rr, XX) → W p l e rm_X7_takeFacts s m args below meth c H locs 0 0 (MQ below (gQ D cA ad NL none XX A) args s 0 0 A) (F0 m 98 ls [])) : ∀ (p0 : Nat) (p3 : Int32) (p4 : Int32) (X : gM) (H : Heap) (locs : List Loc) (ls : Array Slot), gH D cA ad NL X H → va_S A s.heap H locs → lv_has ls 6 [(0, .ref (ad 14 p0)), (2, .ref (ad 22 0)), (3, .int p3), (4, .int p4)] → (14, p0) ∈ NL → (22, 0) ∈ NL → X7_takeFacts_J92 (gal NL) N kk k98 p0 p3 p4 X = some (rr, XX) → W p l e rm_X7_takeFacts s m args below meth c H locs 0 0 (MQ below (gQ D cA ad NL none XX A) args s 0 0 A) (F0 m 92 ls []) := by
  have hx := C.1
  have hb := C.2.1
  intro p0 p3 p4 X H locs ls hP hS hl ha_l0 ha_l2 hf
  rw [X7_takeFacts_J92] at hf
  obtain ⟨v1, e2, hf⟩ := gl_in hf
  refine lv_iinc (v := v1) (lv' := [(4, .int v1), (0, .ref (ad 14 p0)), (2, .ref (ad 22 0)), (3, .int p3)]) hx hb dX7_takeFacts_92 hl (k := 3) rfl (by rw [e2]; rfl) (Nat.le_of_ble_eq_true rfl) rfl (fun ls hl => ?_)
  refine lv_goto (tgt := 13) hx hb dX7_takeFacts_95 (by decide) ?_
  exact hkk p0 p3 v1 X _ _ _ hP hS (lv_sub hl [1, 2, 3, 0] rfl) ha_l0 ha_l2 hf

set_option maxRecDepth 100000 in
set_option maxHeartbeats 4000000 in
theorem s_X7_takeFacts_J56 {p : Program} {l : Launch} {e : Env} {s : State} {m : MethodId} {args : Array Value} {below : List Frame} {meth : Method} {c : Code} {D : va_G} {cA : Nat → ClassId} {ad : Nat → Nat → Nat} {NL : List (Nat × Nat)} {A : Nat → Prop} {rr : Int32} {XX : gM} {N : Nat} {kk : Nat → Int32 → Int32 → gM → Option (Int32 × gM)} {k98 : gM → Option (Int32 × gM)} (C : gCx p c meth m s args cX7_takeFacts 6 none RX7 D cA ad NL A) (hW : gWf NL) (hD0 : gD (fun _ => True) ad NL) (hkk : ∀ (p0 : Nat) (p3 : Int32) (p4 : Int32) (Y : gM) (H : Heap) (locs : List Loc) (ls : Array Slot), gH D cA ad NL Y H → va_S A s.heap H locs → lv_has ls 6 [(0, .ref (ad 14 p0)), (2, .ref (ad 22 0)), (3, .int p3), (4, .int p4)] → (14, p0) ∈ NL → (22, 0) ∈ NL → kk p0 p3 p4 Y = some (rr, XX) → W p l e rm_X7_takeFacts s m args below meth c H locs 0 0 (MQ below (gQ D cA ad NL none XX A) args s 0 0 A) (F0 m 13 ls [])) (hk98 : ∀ (Y : gM) (H : Heap) (locs : List Loc) (ls : Array Slot), gH D cA ad NL Y H → va_S A s.heap H locs → lv_has ls 6 [] → k98 Y = some (rr, XX) → W p l e rm_X7_takeFacts s m args below meth c H locs 0 0 (MQ below (gQ D cA ad NL none XX A) args s 0 0 A) (F0 m 98 ls [])) : ∀ (p0 : Nat) (p3 : Int32) (p4 : Int32) (p5 : Int32) (X : gM) (H : Heap) (locs : List Loc) (ls : Array Slot), gH D cA ad NL X H → va_S A s.heap H locs → lv_has ls 6 [(0, .ref (ad 14 p0)), (2, .ref (ad 22 0)), (3, .int p3), (4, .int p4), (5, va_rf (ro ad 23 p5))] → (14, p0) ∈ NL → (22, 0) ∈ NL → X7_takeFacts_J56 (gal NL) N kk k98 p0 p3 p4 p5 X = some (rr, XX) → W p l e rm_X7_takeFacts s m args below meth c H locs 0 0 (MQ below (gQ D cA ad NL none XX A) args s 0 0 A) (F0 m 56 ls []) := by
  have hx := C.1
  have hb := C.2.1
  intro p0 p3 p4 p5 X H locs ls hP hS hl ha_l0 ha_l2 hf
  rw [X7_takeFacts_J56] at hf
  refine lv_aload_n hx hb dX7_takeFacts_56 rfl (lv_at hl 0 rfl) ?_
  refine r_get C hP ha_l0 (ct_14 _ _ _ _) fx_X7_35 (fg_14_8 _ _ _) dX7_takeFacts_57 ?_
  refine lv_aload_n hx hb dX7_takeFacts_60 rfl (lv_at hl 0 rfl) ?_
  refine r_get C hP ha_l0 (ct_14 _ _ _ _) fx_X7_31 (fg_14_7 _ _ _) dX7_takeFacts_61 ?_
  refine r_alen C hP 12 (gs_14_7 hW ha_l0) (ct_18 _ _ _ _) rfl rfl dX7_takeFacts_64 ?_
  refine lv_icmp_lt (tgt := 71) hx hb dX7_takeFacts_65 (by decide) (fun c1 => ?_) (fun c1 => ?_)
  · have hf := g_ip c1 hf
    refine lv_aload_n hx hb dX7_takeFacts_71 rfl (lv_at hl 0 rfl) ?_
    refine r_get C hP ha_l0 (ct_14 _ _ _ _) fx_X7_31 (fg_14_7 _ _ _) dX7_takeFacts_72 ?_
    refine lv_aload_n hx hb dX7_takeFacts_75 rfl (lv_at hl 0 rfl) ?_
    refine r_get C hP ha_l0 (ct_14 _ _ _ _) fx_X7_35 (fg_14_8 _ _ _) dX7_takeFacts_76 ?_
    refine r_aload C dX7_takeFacts_79 (lv_at hl 4 rfl) ?_
    obtain ⟨j2, h3, hf⟩ := dr_in hf
    rw [gref h3]
    obtain ⟨j4, h5, hf⟩ := rd_in hf
    refine r_astq C hP hS p5 h3.1 h3.2.1 (gs_14_7 hW ha_l0) (fun _ => ct_18 _ _ _ _) rfl h3.2.2 (ct_23 _ _ _ _) rfl h5 dX7_takeFacts_81 (fun H locs hP hS => ?_)
    obtain ⟨X6, e7, hf⟩ := gl_in hf
    rw [← e7] at hP
    refine lv_aload_n hx hb dX7_takeFacts_82 rfl (lv_at hl 0 rfl) ?_
    refine lv_dup hx hb dX7_takeFacts_83 rfl ?_
    refine r_get C hP ha_l0 (ct_14 _ _ _ _) fx_X7_35 (fg_14_8 _ _ _) dX7_takeFacts_84 ?_
    refine lv_iconst (v := 1) hx hb dX7_takeFacts_87 (by decide) ?_
    refine lv_iadd hx hb dX7_takeFacts_88 ?_
    refine r_put C hP hS ((X6 14 p0 8) + (1 : Int32)) ha_l0 (ct_14 _ _ _ _) px_X7_35 (fp_14_8 _ _ _ _ _) (Nat.le_of_ble_eq_true rfl) rfl rfl dX7_takeFacts_89 (fun H locs hP hS => ?_)
    obtain ⟨X8, e9, hf⟩ := gl_in hf
    rw [← e9] at hP
    exact s_X7_takeFacts_J92 C hW hD0 hkk hk98 p0 p3 p4 X8 _ _ _ hP hS (lv_sub hl [0, 1, 2, 3] rfl) ha_l0 ha_l2 hf
  · have hf := g_in c1 hf
    refine lv_goto (tgt := 92) hx hb dX7_takeFacts_68 (by decide) ?_
    exact s_X7_takeFacts_J92 C hW hD0 hkk hk98 p0 p3 p4 X _ _ _ hP hS (lv_sub hl [0, 1, 2, 3] rfl) ha_l0 ha_l2 hf

set_option maxRecDepth 100000 in
set_option maxHeartbeats 4000000 in
theorem s_X7_takeFacts_L13 {p : Program} {l : Launch} {e : Env} {s : State} {m : MethodId} {args : Array Value} {below : List Frame} {meth : Method} {c : Code} {D : va_G} {cA : Nat → ClassId} {ad : Nat → Nat → Nat} {NL : List (Nat × Nat)} {A : Nat → Prop} {rr : Int32} {XX : gM} {N : Nat} {k98 : gM → Option (Int32 × gM)} (C : gCx p c meth m s args cX7_takeFacts 6 none RX7 D cA ad NL A) (hW : gWf NL) (hD0 : gD (fun _ => True) ad NL) (hk98 : ∀ (Y : gM) (H : Heap) (locs : List Loc) (ls : Array Slot), gH D cA ad NL Y H → va_S A s.heap H locs → lv_has ls 6 [] → k98 Y = some (rr, XX) → W p l e rm_X7_takeFacts s m args below meth c H locs 0 0 (MQ below (gQ D cA ad NL none XX A) args s 0 0 A) (F0 m 98 ls [])) : ∀ (n : Nat) (p0 : Nat) (p3 : Int32) (p4 : Int32) (X : gM) (H : Heap) (locs : List Loc) (ls : Array Slot), gH D cA ad NL X H → va_S A s.heap H locs → lv_has ls 6 [(0, .ref (ad 14 p0)), (2, .ref (ad 22 0)), (3, .int p3), (4, .int p4)] → (14, p0) ∈ NL → (22, 0) ∈ NL → X7_takeFacts_L13 (gal NL) N k98 n p0 p3 p4 X = some (rr, XX) → W p l e rm_X7_takeFacts s m args below meth c H locs 0 0 (MQ below (gQ D cA ad NL none XX A) args s 0 0 A) (F0 m 13 ls []) := by
  have hx := C.1
  have hb := C.2.1
  intro n
  induction n with
  | zero =>
    intro p0 p3 p4 X H locs ls hP hS hl ha_l0 ha_l2 hf
    rw [X7_takeFacts_L13] at hf
    cases hf
  | succ n ih =>
    intro p0 p3 p4 X H locs ls hP hS hl ha_l0 ha_l2 hf
    rw [X7_takeFacts_L13] at hf
    refine lv_iload hx hb dX7_takeFacts_13 (lv_at hl 3 rfl) ?_
    refine lv_iload_n hx hb dX7_takeFacts_15 rfl (lv_at hl 2 rfl) ?_
    refine lv_icmp_ge (tgt := 98) hx hb dX7_takeFacts_16 (by decide) (fun c1 => ?_) (fun c1 => ?_)
    · have hf := g_ip c1 hf
      exact hk98 X _ _ _ hP hS (lv_sub hl [] rfl) hf
    · have hf := g_in c1 hf
      refine lv_aload_n hx hb dX7_takeFacts_19 rfl (lv_at hl 1 rfl) ?_
      refine lv_iload hx hb dX7_takeFacts_20 (lv_at hl 3 rfl) ?_
      obtain ⟨j2, h3, hf⟩ := rd_in hf
      refine r_aldq C hP ha_l2 (ct_22 _ _ _ _) rfl h3 dX7_takeFacts_22 ?_
      refine r_astore (i := 5) (lv' := [(5, va_rf (ro ad 23 (X 22 0 j2))), (0, .ref (ad 14 p0)), (2, .ref (ad 22 0)), (3, .int p3), (4, .int p4)]) C dX7_takeFacts_23 hl (Nat.le_of_ble_eq_true rfl) rfl (fun ls hl => ?_)
      refine r_aload C dX7_takeFacts_25 (lv_at hl 0 rfl) ?_
      refine r_ifnull (tgt := 92) C dX7_takeFacts_27 (by decide) (fun c4 => ?_) (fun c4 => ?_)
      · have hf := g_ip c4 hf
        exact s_X7_takeFacts_J92 C hW hD0 ih hk98 p0 p3 p4 X _ _ _ hP hS (lv_sub hl [1, 2, 3, 4] rfl) ha_l0 ha_l2 hf
      · have hf := g_in c4 hf
        refine r_aload C dX7_takeFacts_30 (lv_at hl 0 rfl) ?_
        obtain ⟨j5, h6, hf⟩ := dr_in hf
        rw [gref h6]
        refine r_get C hP h6.2.2 (ct_23 _ _ _ _) fx_X7_88 (fg_23_6 _ _ _) dX7_takeFacts_32 ?_
        refine lv_if_eq (tgt := 92) hx hb dX7_takeFacts_35 (by decide) (fun c7 => ?_) (fun c7 => ?_)
        · have hf := g_ip c7 hf
          exact s_X7_takeFacts_J92 C hW hD0 ih hk98 p0 p3 p4 X _ _ _ hP hS (lv_sub hl [1, 2, 3, 4] rfl) ha_l0 ha_l2 hf
        · have hf := g_in c7 hf
          refine r_aload C dX7_takeFacts_38 (lv_at hl 0 rfl) ?_
          rw [gref h6]
          refine r_get C hP h6.2.2 (ct_23 _ _ _ _) fx_X7_91 (fg_23_5 _ _ _) dX7_takeFacts_40 ?_
          refine lv_if_ne (tgt := 56) hx hb dX7_takeFacts_43 (by decide) (fun c8 => ?_) (fun c8 => ?_)
          · have hf := g_in c8 hf
            exact s_X7_takeFacts_J56 C hW hD0 ih hk98 p0 p3 p4 ((X 22 0 j2)) X _ _ _ hP hS (lv_sub hl [1, 2, 3, 4, 0] rfl) ha_l0 ha_l2 hf
          · have hf := g_ip c8 hf
            refine lv_aload_n hx hb dX7_takeFacts_46 rfl (lv_at hl 1 rfl) ?_
            refine r_get C hP ha_l0 (ct_14 _ _ _ _) fx_X7_53 (fg_14_0 _ _ _) dX7_takeFacts_47 ?_
            refine lv_if_ne (tgt := 56) hx hb dX7_takeFacts_50 (by decide) (fun c9 => ?_) (fun c9 => ?_)
            · have hf := g_in c9 hf
              exact s_X7_takeFacts_J56 C hW hD0 ih hk98 p0 p3 p4 ((X 22 0 j2)) X _ _ _ hP hS (lv_sub hl [1, 2, 3, 4, 0] rfl) ha_l0 ha_l2 hf
            · have hf := g_ip c9 hf
              refine lv_goto (tgt := 92) hx hb dX7_takeFacts_53 (by decide) ?_
              exact s_X7_takeFacts_J92 C hW hD0 ih hk98 p0 p3 p4 X _ _ _ hP hS (lv_sub hl [1, 2, 3, 4] rfl) ha_l0 ha_l2 hf

set_option maxRecDepth 100000 in
set_option maxHeartbeats 4000000 in
theorem w_X7_takeFacts {p : Program} {l : Launch} {e : Env} {s : State} {m : MethodId} {args : Array Value} {below : List Frame} {meth : Method} {c : Code} {D : va_G} {cA : Nat → ClassId} {ad : Nat → Nat → Nat} {NL : List (Nat × Nat)} {A : Nat → Prop} {rr : Int32} {XX : gM} {N : Nat} (C : gCx p c meth m s args cX7_takeFacts 6 none RX7 D cA ad NL A) (hW : gWf NL) (hD0 : gD (fun _ => True) ad NL) {p0 : Nat} (ha_l0 : (14, p0) ∈ NL) (ha_l1 : (22, 0) ∈ NL) : ∀ (X : gM) (H : Heap) (locs : List Loc) (ls : Array Slot), gH D cA ad NL X H → va_S A s.heap H locs → lv_has ls 6 [(0, .ref (ad 14 p0)), (1, .ref (ad 22 0))] → X7_takeFacts (gal NL) N p0 X = some (rr, XX) → W p l e rm_X7_takeFacts s m args below meth c H locs 0 0 (MQ below (gQ D cA ad NL none XX A) args s 0 0 A) (F0 m 0 ls []) := by
  have hx := C.1
  have hb := C.2.1
  intro X H locs ls hP hS hl hf
  rw [X7_takeFacts] at hf
  refine lv_aload_n hx hb dX7_takeFacts_0 rfl (lv_at hl 0 rfl) ?_
  refine lv_iconst (v := 0) hx hb dX7_takeFacts_1 (by decide) ?_
  refine r_put C hP hS (0 : Int32) ha_l0 (ct_14 _ _ _ _) px_X7_35 (fp_14_8 _ _ _ _ _) (Nat.le_of_ble_eq_true rfl) rfl rfl dX7_takeFacts_2 (fun H locs hP hS => ?_)
  obtain ⟨X1, e2, hf⟩ := gl_in hf
  rw [← e2] at hP
  refine lv_aload_n hx hb dX7_takeFacts_5 rfl (lv_at hl 1 rfl) ?_
  refine lv_astore_n (i := 2) (lv' := [(2, .ref (ad 22 0)), (0, .ref (ad 14 p0)), (1, .ref (ad 22 0))]) hx hb dX7_takeFacts_6 rfl hl (Nat.le_of_ble_eq_true rfl) rfl (fun ls hl => ?_)
  refine lv_aload_n hx hb dX7_takeFacts_7 rfl (lv_at hl 0 rfl) ?_
  refine r_alen C hP 12 ha_l1 (ct_22 _ _ _ _) rfl rfl dX7_takeFacts_8 ?_
  refine lv_istore_n (i := 3) (lv' := [(3, .int (12 : Int32)), (2, .ref (ad 22 0)), (0, .ref (ad 14 p0)), (1, .ref (ad 22 0))]) hx hb dX7_takeFacts_9 rfl hl (Nat.le_of_ble_eq_true rfl) rfl (fun ls hl => ?_)
  refine lv_iconst (v := 0) hx hb dX7_takeFacts_10 (by decide) ?_
  refine lv_istore (i := 4) (lv' := [(4, .int (0 : Int32)), (3, .int (12 : Int32)), (2, .ref (ad 22 0)), (0, .ref (ad 14 p0)), (1, .ref (ad 22 0))]) hx hb dX7_takeFacts_11 hl (Nat.le_of_ble_eq_true rfl) rfl (fun ls hl => ?_)
  exact s_X7_takeFacts_L13 C hW hD0 (fun Y H locs ls hP hS hl hf => s_X7_takeFacts_J98 C hW hD0 Y _ _ _ hP hS hl hf) N p0 (12 : Int32) (0 : Int32) X1 _ _ _ hP hS (lv_sub hl [3, 2, 1, 0] rfl) ha_l0 ha_l1 hf

theorem s_X7_takeFacts {l : Launch} {D : va_G} {cA : Nat → ClassId} {ad : Nat → Nat → Nat} {NL : List (Nat × Nat)} {N : Nat} {p0 : Nat} {X : gM} {rr : Int32} {XX : gM} (hW : gWf NL) (hD0 : gD (fun _ => True) ad NL) (ha_l0 : (14, p0) ∈ NL) (ha_l1 : (22, 0) ∈ NL) (hf : X7_takeFacts (gal NL) N p0 X = some (rr, XX)) : gC l yX7_takeFacts cX7_takeFacts 6 none rm_X7_takeFacts D cA ad NL [.ref (ad 14 p0), .ref (ad 22 0)] X none XX :=
  g_ofW (by decide) hD0 (Nat.le_of_ble_eq_true rfl) rfl (fun p e s m below meth c ls C hP hS hl => w_X7_takeFacts C hW hD0 ha_l0 ha_l1 X _ _ ls hP hS hl hf)
def rmd_X7_seek (d : Nat) : Room := { frames := 2 + d, cells := 0, slots := 0, locals := 48 + 30 * d }
def rm_X7_seek : Room := rmd_X7_seek 10
set_option maxRecDepth 100000 in
set_option maxHeartbeats 4000000 in
theorem s_X7_seek_J185 {p : Program} {l : Launch} {e : Env} {s : State} {m : MethodId} {args : Array Value} {below : List Frame} {meth : Method} {c : Code} {D : va_G} {cA : Nat → ClassId} {ad : Nat → Nat → Nat} {NL : List (Nat × Nat)} {A : Nat → Prop} {rr : Int32} {XX : gM} {N : Nat} {rm0 R : Room} {rec : Nat → Int32 → Int32 → Int32 → Int32 → Int32 → gM → Option (Int32 × gM)} (C : gCx p c meth m s args cX7_seek 11 none RX7 D cA ad NL A) (hW : gWf NL) (hD0 : gD (fun _ => True) ad NL) (hrec : ∀ (p0 : Nat) (p1 : Int32) (p2 : Int32) (p3 : Int32) (p4 : Int32) (p5 : Int32) (Y : gM) {w : Int32} {Z : gM}, (14, p0) ∈ NL → rec p0 p1 p2 p3 p4 p5 Y = some (w, Z) → gC l yX7_seek cX7_seek 11 none rm0 D cA ad NL [.ref (ad 14 p0), .int p1, .int p2, .int p3, .int p4, .int p5] Y none Z) (hrm : gRm rm0 R 11) (hR : 2 ≤ R.frames ∧ 48 ≤ R.locals) : ∀ (X : gM) (H : Heap) (locs : List Loc) (ls : Array Slot), gH D cA ad NL X H → va_S A s.heap H locs → lv_has ls 11 [] → X7_seek_J185 (gal NL) N rec X = some (rr, XX) → W p l e R s m args below meth c H locs 0 0 (MQ below (gQ D cA ad NL none XX A) args s 0 0 A) (F0 m 185 ls []) := by
  have hx := C.1
  have hb := C.2.1
  intro X H locs ls hP hS hl hf
  rw [X7_seek_J185] at hf
  obtain ⟨rfl, rfl⟩ := g_s1 hf
  exact r_vret C hP hS dX7_seek_185

set_option maxRecDepth 100000 in
set_option maxHeartbeats 4000000 in
theorem s_X7_seek_J179 {p : Program} {l : Launch} {e : Env} {s : State} {m : MethodId} {args : Array Value} {below : List Frame} {meth : Method} {c : Code} {D : va_G} {cA : Nat → ClassId} {ad : Nat → Nat → Nat} {NL : List (Nat × Nat)} {A : Nat → Prop} {rr : Int32} {XX : gM} {N : Nat} {rm0 R : Room} {rec : Nat → Int32 → Int32 → Int32 → Int32 → Int32 → gM → Option (Int32 × gM)} {kk : Nat → Int32 → Int32 → Int32 → Int32 → Int32 → Nat → Int32 → Int32 → gM → Option (Int32 × gM)} {k185 : gM → Option (Int32 × gM)} (C : gCx p c meth m s args cX7_seek 11 none RX7 D cA ad NL A) (hW : gWf NL) (hD0 : gD (fun _ => True) ad NL) (hrec : ∀ (p0 : Nat) (p1 : Int32) (p2 : Int32) (p3 : Int32) (p4 : Int32) (p5 : Int32) (Y : gM) {w : Int32} {Z : gM}, (14, p0) ∈ NL → rec p0 p1 p2 p3 p4 p5 Y = some (w, Z) → gC l yX7_seek cX7_seek 11 none rm0 D cA ad NL [.ref (ad 14 p0), .int p1, .int p2, .int p3, .int p4, .int p5] Y none Z) (hrm : gRm rm0 R 11) (hR : 2 ≤ R.frames ∧ 48 ≤ R.locals) (hkk : ∀ (p0 : Nat) (p1 : Int32) (p2 : Int32) (p3 : Int32) (p4 : Int32) (p5 : Int32) (p6 : Nat) (p7 : Int32) (p8 : Int32) (Y : gM) (H : Heap) (locs : List Loc) (ls : Array Slot), gH D cA ad NL Y H → va_S A s.heap H locs → lv_has ls 11 [(0, .ref (ad 14 p0)), (1, .int p1), (2, .int p2), (3, .int p3), (4, .int p4), (5, .int p5), (6, .ref (ad 13 p6)), (7, .int p7), (8, .int p8)] → (14, p0) ∈ NL → (13, p6) ∈ NL → kk p0 p1 p2 p3 p4 p5 p6 p7 p8 Y = some (rr, XX) → W p l e R s m args below meth c H locs 0 0 (MQ below (gQ D cA ad NL none XX A) args s 0 0 A) (F0 m 57 ls [])) (hk185 : ∀ (Y : gM) (H : Heap) (locs : List Loc) (ls : Array Slot), gH D cA ad NL Y H → va_S A s.heap H locs → lv_has ls 11 [] → k185 Y = some (rr, XX) → W p l e R s m args below meth c H locs 0 0 (MQ below (gQ D cA ad NL none XX A) args s 0 0 A) (F0 m 185 ls [])) : ∀ (p0 : Nat) (p1 : Int32) (p2 : Int32) (p3 : Int32) (p4 : Int32) (p5 : Int32) (p6 : Nat) (p7 : Int32) (p8 : Int32) (X : gM) (H : Heap) (locs : List Loc) (ls : Array Slot), gH D cA ad NL X H → va_S A s.heap H locs → lv_has ls 11 [(0, .ref (ad 14 p0)), (1, .int p1), (2, .int p2), (3, .int p3), (4, .int p4), (5, .int p5), (6, .ref (ad 13 p6)), (7, .int p7), (8, .int p8)] → (14, p0) ∈ NL → (13, p6) ∈ NL → X7_seek_J179 (gal NL) N rec kk k185 p0 p1 p2 p3 p4 p5 p6 p7 p8 X = some (rr, XX) → W p l e R s m args below meth c H locs 0 0 (MQ below (gQ D cA ad NL none XX A) args s 0 0 A) (F0 m 179 ls []) := by
  have hx := C.1
  have hb := C.2.1
  intro p0 p1 p2 p3 p4 p5 p6 p7 p8 X H locs ls hP hS hl ha_l0 ha_l6 hf
  rw [X7_seek_J179] at hf
  obtain ⟨v1, e2, hf⟩ := gl_in hf
  refine lv_iinc (v := v1) (lv' := [(8, .int v1), (0, .ref (ad 14 p0)), (1, .int p1), (2, .int p2), (3, .int p3), (4, .int p4), (5, .int p5), (6, .ref (ad 13 p6)), (7, .int p7)]) hx hb dX7_seek_179 hl (k := 8) rfl (by rw [e2]; rfl) (Nat.le_of_ble_eq_true rfl) rfl (fun ls hl => ?_)
  refine lv_goto (tgt := 57) hx hb dX7_seek_182 (by decide) ?_
  exact hkk p0 p1 p2 p3 p4 p5 p6 p7 v1 X _ _ _ hP hS (lv_sub hl [1, 2, 3, 4, 5, 6, 7, 8, 0] rfl) ha_l0 ha_l6 hf

set_option maxRecDepth 100000 in
set_option maxHeartbeats 4000000 in
theorem s_X7_seek_J161 {p : Program} {l : Launch} {e : Env} {s : State} {m : MethodId} {args : Array Value} {below : List Frame} {meth : Method} {c : Code} {D : va_G} {cA : Nat → ClassId} {ad : Nat → Nat → Nat} {NL : List (Nat × Nat)} {A : Nat → Prop} {rr : Int32} {XX : gM} {N : Nat} {rm0 R : Room} {rec : Nat → Int32 → Int32 → Int32 → Int32 → Int32 → gM → Option (Int32 × gM)} {kk : Nat → Int32 → Int32 → Int32 → Int32 → Int32 → Nat → Int32 → Int32 → gM → Option (Int32 × gM)} {k185 : gM → Option (Int32 × gM)} (C : gCx p c meth m s args cX7_seek 11 none RX7 D cA ad NL A) (hW : gWf NL) (hD0 : gD (fun _ => True) ad NL) (hrec : ∀ (p0 : Nat) (p1 : Int32) (p2 : Int32) (p3 : Int32) (p4 : Int32) (p5 : Int32) (Y : gM) {w : Int32} {Z : gM}, (14, p0) ∈ NL → rec p0 p1 p2 p3 p4 p5 Y = some (w, Z) → gC l yX7_seek cX7_seek 11 none rm0 D cA ad NL [.ref (ad 14 p0), .int p1, .int p2, .int p3, .int p4, .int p5] Y none Z) (hrm : gRm rm0 R 11) (hR : 2 ≤ R.frames ∧ 48 ≤ R.locals) (hkk : ∀ (p0 : Nat) (p1 : Int32) (p2 : Int32) (p3 : Int32) (p4 : Int32) (p5 : Int32) (p6 : Nat) (p7 : Int32) (p8 : Int32) (Y : gM) (H : Heap) (locs : List Loc) (ls : Array Slot), gH D cA ad NL Y H → va_S A s.heap H locs → lv_has ls 11 [(0, .ref (ad 14 p0)), (1, .int p1), (2, .int p2), (3, .int p3), (4, .int p4), (5, .int p5), (6, .ref (ad 13 p6)), (7, .int p7), (8, .int p8)] → (14, p0) ∈ NL → (13, p6) ∈ NL → kk p0 p1 p2 p3 p4 p5 p6 p7 p8 Y = some (rr, XX) → W p l e R s m args below meth c H locs 0 0 (MQ below (gQ D cA ad NL none XX A) args s 0 0 A) (F0 m 57 ls [])) (hk185 : ∀ (Y : gM) (H : Heap) (locs : List Loc) (ls : Array Slot), gH D cA ad NL Y H → va_S A s.heap H locs → lv_has ls 11 [] → k185 Y = some (rr, XX) → W p l e R s m args below meth c H locs 0 0 (MQ below (gQ D cA ad NL none XX A) args s 0 0 A) (F0 m 185 ls [])) : ∀ (p0 : Nat) (p1 : Int32) (p2 : Int32) (p3 : Int32) (p4 : Int32) (p5 : Int32) (p6 : Nat) (p7 : Int32) (p8 : Int32) (p9 : Int32) (X : gM) (H : Heap) (locs : List Loc) (ls : Array Slot), gH D cA ad NL X H → va_S A s.heap H locs → lv_has ls 11 [(0, .ref (ad 14 p0)), (1, .int p1), (2, .int p2), (3, .int p3), (4, .int p4), (5, .int p5), (6, .ref (ad 13 p6)), (7, .int p7), (8, .int p8), (9, va_rf (ro ad 5 p9))] → (14, p0) ∈ NL → (13, p6) ∈ NL → X7_seek_J161 (gal NL) N rec kk k185 p0 p1 p2 p3 p4 p5 p6 p7 p8 p9 X = some (rr, XX) → W p l e R s m args below meth c H locs 0 0 (MQ below (gQ D cA ad NL none XX A) args s 0 0 A) (F0 m 161 ls []) := by
  have hx := C.1
  have hb := C.2.1
  intro p0 p1 p2 p3 p4 p5 p6 p7 p8 p9 X H locs ls hP hS hl ha_l0 ha_l6 hf
  rw [X7_seek_J161] at hf
  refine lv_aload_n hx hb dX7_seek_161 rfl (lv_at hl 0 rfl) ?_
  refine r_get C hP ha_l0 (ct_14 _ _ _ _) fx_X7_47 (fg_14_11 _ _ _) dX7_seek_162 ?_
  refine r_aload C dX7_seek_165 (lv_at hl 9 rfl) ?_
  obtain ⟨j1, h2, hf⟩ := dr_in hf
  rw [gref h2]
  refine r_get C hP h2.2.2 (ct_5 _ _ _ _) fx_X7_102 (fg_5_0 _ _ _) dX7_seek_167 ?_
  refine lv_iconst (v := -1) hx hb dX7_seek_170 (by decide) ?_
  obtain ⟨j3, h4, hf⟩ := rd_in hf
  refine r_iast C hP hS (gs_14_11 hW ha_l0) (fun _ => ct_20 _ _ _ _) h4 dX7_seek_171 (fun H locs hP hS => ?_)
  obtain ⟨X5, e6, hf⟩ := gl_in hf
  rw [← e6] at hP
  refine lv_aload_n hx hb dX7_seek_172 rfl (lv_at hl 0 rfl) ?_
  refine r_get C hP ha_l0 (ct_14 _ _ _ _) fx_X7_50 (fg_14_12 _ _ _) dX7_seek_173 ?_
  refine lv_iload_n hx hb dX7_seek_176 rfl (lv_at hl 1 rfl) ?_
  refine lv_null hx hb dX7_seek_177 ?_
  obtain ⟨j7, h8, hf⟩ := rd_in hf
  refine r_astn C hP hS (gs_14_12 hW ha_l0) (fun _ => ct_21 _ _ _ _) rfl h8 dX7_seek_178 (fun H locs hP hS => ?_)
  obtain ⟨X9, e10, hf⟩ := gl_in hf
  rw [← e10] at hP
  exact s_X7_seek_J179 C hW hD0 hrec hrm hR hkk hk185 p0 p1 p2 p3 p4 p5 p6 p7 p8 X9 _ _ _ hP hS (lv_sub hl [0, 1, 2, 3, 4, 5, 6, 7, 8] rfl) ha_l0 ha_l6 hf

set_option maxRecDepth 100000 in
set_option maxHeartbeats 4000000 in
theorem s_X7_seek_L57 {p : Program} {l : Launch} {e : Env} {s : State} {m : MethodId} {args : Array Value} {below : List Frame} {meth : Method} {c : Code} {D : va_G} {cA : Nat → ClassId} {ad : Nat → Nat → Nat} {NL : List (Nat × Nat)} {A : Nat → Prop} {rr : Int32} {XX : gM} {N : Nat} {rm0 R : Room} {rec : Nat → Int32 → Int32 → Int32 → Int32 → Int32 → gM → Option (Int32 × gM)} {k185 : gM → Option (Int32 × gM)} (C : gCx p c meth m s args cX7_seek 11 none RX7 D cA ad NL A) (hW : gWf NL) (hD0 : gD (fun _ => True) ad NL) (hrec : ∀ (p0 : Nat) (p1 : Int32) (p2 : Int32) (p3 : Int32) (p4 : Int32) (p5 : Int32) (Y : gM) {w : Int32} {Z : gM}, (14, p0) ∈ NL → rec p0 p1 p2 p3 p4 p5 Y = some (w, Z) → gC l yX7_seek cX7_seek 11 none rm0 D cA ad NL [.ref (ad 14 p0), .int p1, .int p2, .int p3, .int p4, .int p5] Y none Z) (hrm : gRm rm0 R 11) (hR : 2 ≤ R.frames ∧ 48 ≤ R.locals) (hk185 : ∀ (Y : gM) (H : Heap) (locs : List Loc) (ls : Array Slot), gH D cA ad NL Y H → va_S A s.heap H locs → lv_has ls 11 [] → k185 Y = some (rr, XX) → W p l e R s m args below meth c H locs 0 0 (MQ below (gQ D cA ad NL none XX A) args s 0 0 A) (F0 m 185 ls [])) : ∀ (n : Nat) (p0 : Nat) (p1 : Int32) (p2 : Int32) (p3 : Int32) (p4 : Int32) (p5 : Int32) (p6 : Nat) (p7 : Int32) (p8 : Int32) (X : gM) (H : Heap) (locs : List Loc) (ls : Array Slot), gH D cA ad NL X H → va_S A s.heap H locs → lv_has ls 11 [(0, .ref (ad 14 p0)), (1, .int p1), (2, .int p2), (3, .int p3), (4, .int p4), (5, .int p5), (6, .ref (ad 13 p6)), (7, .int p7), (8, .int p8)] → (14, p0) ∈ NL → (13, p6) ∈ NL → X7_seek_L57 (gal NL) N rec k185 n p0 p1 p2 p3 p4 p5 p6 p7 p8 X = some (rr, XX) → W p l e R s m args below meth c H locs 0 0 (MQ below (gQ D cA ad NL none XX A) args s 0 0 A) (F0 m 57 ls []) := by
  have hx := C.1
  have hb := C.2.1
  intro n
  induction n with
  | zero =>
    intro p0 p1 p2 p3 p4 p5 p6 p7 p8 X H locs ls hP hS hl ha_l0 ha_l6 hf
    rw [X7_seek_L57] at hf
    cases hf
  | succ n ih =>
    intro p0 p1 p2 p3 p4 p5 p6 p7 p8 X H locs ls hP hS hl ha_l0 ha_l6 hf
    rw [X7_seek_L57] at hf
    refine lv_iload hx hb dX7_seek_57 (lv_at hl 8 rfl) ?_
    refine lv_iload hx hb dX7_seek_59 (lv_at hl 7 rfl) ?_
    refine lv_icmp_ge (tgt := 185) hx hb dX7_seek_61 (by decide) (fun c1 => ?_) (fun c1 => ?_)
    · have hf := g_ip c1 hf
      exact hk185 X _ _ _ hP hS (lv_sub hl [] rfl) hf
    · have hf := g_in c1 hf
      refine lv_aload hx hb dX7_seek_64 (lv_at hl 6 rfl) ?_
      refine lv_iload hx hb dX7_seek_66 (lv_at hl 8 rfl) ?_
      obtain ⟨j2, h3, hf⟩ := rd_in hf
      refine r_aldq C hP ha_l6 (ct_13 _ _ _ _) rfl h3 dX7_seek_68 ?_
      refine r_astore (i := 9) (lv' := [(9, va_rf (ro ad 5 (X 13 p6 j2))), (0, .ref (ad 14 p0)), (1, .int p1), (2, .int p2), (3, .int p3), (4, .int p4), (5, .int p5), (6, .ref (ad 13 p6)), (7, .int p7), (8, .int p8)]) C dX7_seek_69 hl (Nat.le_of_ble_eq_true rfl) rfl (fun ls hl => ?_)
      refine r_aload C dX7_seek_71 (lv_at hl 0 rfl) ?_
      refine r_ifnull (tgt := 179) C dX7_seek_73 (by decide) (fun c4 => ?_) (fun c4 => ?_)
      · have hf := g_ip c4 hf
        exact s_X7_seek_J179 C hW hD0 hrec hrm hR ih hk185 p0 p1 p2 p3 p4 p5 p6 p7 p8 X _ _ _ hP hS (lv_sub hl [1, 2, 3, 4, 5, 6, 7, 8, 9] rfl) ha_l0 ha_l6 hf
      · have hf := g_in c4 hf
        refine lv_aload_n hx hb dX7_seek_76 rfl (lv_at hl 1 rfl) ?_
        refine r_aload C dX7_seek_77 (lv_at hl 0 rfl) ?_
        refine lv_iload_n hx hb dX7_seek_79 rfl (lv_at hl 2 rfl) ?_
        refine lv_iload hx hb dX7_seek_80 (lv_at hl 5 rfl) ?_
        obtain ⟨j5, h6, hf⟩ := dr_in hf
        rw [gref h6]
        obtain ⟨r7, X8, h9, hf⟩ := b2_in hf
        refine r_cVi (rest := []) C hP hS hl.1 (s_X7_canStand hW hD0 ha_l0 h6.2.2 h9) ix_X7_canStand iv_X7_canStand lk_X7_98 ⟨rfl, rfl, Nat.le_trans (Nat.le_of_ble_eq_true rfl) hR.1, Nat.le_trans (Nat.le_of_ble_eq_true rfl) hR.2⟩ ha_l0 (ct_14 _ _ _ _) rfl rfl rfl rfl (Nat.le_of_ble_eq_true rfl) ⟨Nat.zero_le _, Nat.zero_le _⟩ dX7_seek_82 (fun H locs hP hS => ?_)
        refine lv_if_ne (tgt := 91) hx hb dX7_seek_85 (by decide) (fun c10 => ?_) (fun c10 => ?_)
        · have hf := g_in c10 hf
          refine lv_aload_n hx hb dX7_seek_91 rfl (lv_at hl 1 rfl) ?_
          refine r_get C hP ha_l0 (ct_14 _ _ _ _) fx_X7_50 (fg_14_12 _ _ _) dX7_seek_92 ?_
          refine lv_iload_n hx hb dX7_seek_95 rfl (lv_at hl 2 rfl) ?_
          refine r_aload C dX7_seek_96 (lv_at hl 0 rfl) ?_
          rw [gref h6]
          obtain ⟨j11, h12, hf⟩ := rd_in hf
          refine r_astq C hP hS (X 13 p6 j2) h6.1 h6.2.1 (gs_14_12 hW ha_l0) (fun _ => ct_21 _ _ _ _) rfl h6.2.2 (ct_5 _ _ _ _) rfl h12 dX7_seek_98 (fun H locs hP hS => ?_)
          obtain ⟨X13, e14, hf⟩ := gl_in hf
          rw [← e14] at hP
          refine lv_aload_n hx hb dX7_seek_99 rfl (lv_at hl 1 rfl) ?_
          refine r_get C hP ha_l0 (ct_14 _ _ _ _) fx_X7_47 (fg_14_11 _ _ _) dX7_seek_100 ?_
          refine r_aload C dX7_seek_103 (lv_at hl 0 rfl) ?_
          rw [gref h6]
          refine r_get C hP h6.2.2 (ct_5 _ _ _ _) fx_X7_102 (fg_5_0 _ _ _) dX7_seek_105 ?_
          refine lv_iload_n hx hb dX7_seek_108 rfl (lv_at hl 2 rfl) ?_
          obtain ⟨j15, h16, hf⟩ := rd_in hf
          refine r_iast C hP hS (gs_14_11 hW ha_l0) (fun _ => ct_20 _ _ _ _) h16 dX7_seek_109 (fun H locs hP hS => ?_)
          obtain ⟨X17, e18, hf⟩ := gl_in hf
          rw [← e18] at hP
          refine lv_aload_n hx hb dX7_seek_110 rfl (lv_at hl 1 rfl) ?_
          refine r_aload C dX7_seek_111 (lv_at hl 0 rfl) ?_
          rw [gref h6]
          refine r_get C hP h6.2.2 (ct_5 _ _ _ _) fx_X7_102 (fg_5_0 _ _ _) dX7_seek_113 ?_
          refine lv_iload hx hb dX7_seek_116 (lv_at hl 6 rfl) ?_
          obtain ⟨r19, X20, h21, hf⟩ := b2_in hf
          refine r_cVi (rest := []) C hP hS hl.1 (s_X7_brokenWith hW hD0 ha_l0 h21) ix_X7_brokenWith iv_X7_brokenWith lk_X7_105 ⟨rfl, rfl, Nat.le_trans (Nat.le_of_ble_eq_true rfl) hR.1, Nat.le_trans (Nat.le_of_ble_eq_true rfl) hR.2⟩ ha_l0 (ct_14 _ _ _ _) rfl rfl rfl rfl (Nat.le_of_ble_eq_true rfl) ⟨Nat.zero_le _, Nat.zero_le _⟩ dX7_seek_118 (fun H locs hP hS => ?_)
          refine lv_istore (i := 10) (lv' := [(10, .int r19), (9, va_rf (ro ad 5 (X 13 p6 j2))), (0, .ref (ad 14 p0)), (1, .int p1), (2, .int p2), (3, .int p3), (4, .int p4), (5, .int p5), (6, .ref (ad 13 p6)), (7, .int p7), (8, .int p8)]) hx hb dX7_seek_121 hl (Nat.le_of_ble_eq_true rfl) (by simp [g_cat, g_catr, g_cati]) (fun ls hl => ?_)
          refine lv_iload hx hb dX7_seek_123 (lv_at hl 0 rfl) ?_
          refine lv_bipush (v := -2) hx hb dX7_seek_125 (by decide) ?_
          refine lv_icmp_eq (tgt := 161) hx hb dX7_seek_127 (by decide) (fun c22 => ?_) (fun c22 => ?_)
          · have hf := g_ip c22 hf
            exact s_X7_seek_J161 C hW hD0 hrec hrm hR ih hk185 p0 p1 p2 p3 p4 p5 p6 p7 p8 ((X 13 p6 j2)) X20 _ _ _ hP hS (lv_sub hl [2, 3, 4, 5, 6, 7, 8, 9, 10, 1] rfl) ha_l0 ha_l6 hf
          · have hf := g_in c22 hf
            refine lv_aload_n hx hb dX7_seek_130 rfl (lv_at hl 2 rfl) ?_
            refine lv_iload_n hx hb dX7_seek_131 rfl (lv_at hl 3 rfl) ?_
            refine lv_iconst (v := 1) hx hb dX7_seek_132 (by decide) ?_
            refine lv_iadd hx hb dX7_seek_133 ?_
            refine lv_iload_n hx hb dX7_seek_134 rfl (lv_at hl 4 rfl) ?_
            refine lv_iconst (v := 1) hx hb dX7_seek_135 (by decide) ?_
            refine lv_isub hx hb dX7_seek_136 ?_
            refine lv_iload_n hx hb dX7_seek_137 rfl (lv_at hl 5 rfl) ?_
            refine r_aload C dX7_seek_138 (lv_at hl 1 rfl) ?_
            rw [gref h6]
            refine r_get C hP h6.2.2 (ct_5 _ _ _ _) fx_X7_108 (fg_5_6 _ _ _) dX7_seek_140 ?_
            refine lv_ior hx hb dX7_seek_143 ?_
            refine lv_iload hx hb dX7_seek_144 (lv_at hl 6 rfl) ?_
            refine lv_iload_n hx hb dX7_seek_146 rfl (lv_at hl 5 rfl) ?_
            refine r_aload C dX7_seek_147 (lv_at hl 1 rfl) ?_
            rw [gref h6]
            refine r_get C hP h6.2.2 (ct_5 _ _ _ _) fx_X7_108 (fg_5_6 _ _ _) dX7_seek_149 ?_
            refine lv_iconst (v := -1) hx hb dX7_seek_152 (by decide) ?_
            refine lv_ixor hx hb dX7_seek_153 ?_
            refine lv_iand hx hb dX7_seek_154 ?_
            refine lv_ior hx hb dX7_seek_155 ?_
            refine lv_iload hx hb dX7_seek_156 (lv_at hl 0 rfl) ?_
            obtain ⟨r23, X24, h25, hf⟩ := b2_in hf
            refine r_cSv (rest := []) C hP hS hl.1 (hrec _ _ _ _ _ _ _ ha_l0 h25) ix_X7_seek is_X7_seek ls_X7_84 hrm rfl rfl (Nat.le_of_ble_eq_true rfl) ⟨Nat.zero_le _, Nat.zero_le _⟩ dX7_seek_158 (fun H locs hP hS => ?_)
            exact s_X7_seek_J161 C hW hD0 hrec hrm hR ih hk185 p0 p1 p2 p3 p4 p5 p6 p7 p8 ((X 13 p6 j2)) X24 _ _ _ hP hS (lv_sub hl [2, 3, 4, 5, 6, 7, 8, 9, 10, 1] rfl) ha_l0 ha_l6 hf
        · have hf := g_ip c10 hf
          refine lv_goto (tgt := 179) hx hb dX7_seek_88 (by decide) ?_
          exact s_X7_seek_J179 C hW hD0 hrec hrm hR ih hk185 p0 p1 p2 p3 p4 p5 p6 p7 p8 X8 _ _ _ hP hS (lv_sub hl [1, 2, 3, 4, 5, 6, 7, 8, 9] rfl) ha_l0 ha_l6 hf

set_option maxRecDepth 100000 in
set_option maxHeartbeats 4000000 in
theorem s_X7_seek_J29 {p : Program} {l : Launch} {e : Env} {s : State} {m : MethodId} {args : Array Value} {below : List Frame} {meth : Method} {c : Code} {D : va_G} {cA : Nat → ClassId} {ad : Nat → Nat → Nat} {NL : List (Nat × Nat)} {A : Nat → Prop} {rr : Int32} {XX : gM} {N : Nat} {rm0 R : Room} {rec : Nat → Int32 → Int32 → Int32 → Int32 → Int32 → gM → Option (Int32 × gM)} (C : gCx p c meth m s args cX7_seek 11 none RX7 D cA ad NL A) (hW : gWf NL) (hD0 : gD (fun _ => True) ad NL) (hrec : ∀ (p0 : Nat) (p1 : Int32) (p2 : Int32) (p3 : Int32) (p4 : Int32) (p5 : Int32) (Y : gM) {w : Int32} {Z : gM}, (14, p0) ∈ NL → rec p0 p1 p2 p3 p4 p5 Y = some (w, Z) → gC l yX7_seek cX7_seek 11 none rm0 D cA ad NL [.ref (ad 14 p0), .int p1, .int p2, .int p3, .int p4, .int p5] Y none Z) (hrm : gRm rm0 R 11) (hR : 2 ≤ R.frames ∧ 48 ≤ R.locals) : ∀ (X : gM) (H : Heap) (locs : List Loc) (ls : Array Slot), gH D cA ad NL X H → va_S A s.heap H locs → lv_has ls 11 [] → X7_seek_J29 (gal NL) N rec X = some (rr, XX) → W p l e R s m args below meth c H locs 0 0 (MQ below (gQ D cA ad NL none XX A) args s 0 0 A) (F0 m 29 ls []) := by
  have hx := C.1
  have hb := C.2.1
  intro X H locs ls hP hS hl hf
  rw [X7_seek_J29] at hf
  obtain ⟨rfl, rfl⟩ := g_s1 hf
  exact r_vret C hP hS dX7_seek_29

set_option maxRecDepth 100000 in
set_option maxHeartbeats 4000000 in
theorem w_X7_seek {p : Program} {l : Launch} {e : Env} {s : State} {m : MethodId} {args : Array Value} {below : List Frame} {meth : Method} {c : Code} {D : va_G} {cA : Nat → ClassId} {ad : Nat → Nat → Nat} {NL : List (Nat × Nat)} {A : Nat → Prop} {rr : Int32} {XX : gM} {N : Nat} {rm0 R : Room} {rec : Nat → Int32 → Int32 → Int32 → Int32 → Int32 → gM → Option (Int32 × gM)} (C : gCx p c meth m s args cX7_seek 11 none RX7 D cA ad NL A) (hW : gWf NL) (hD0 : gD (fun _ => True) ad NL) (hrec : ∀ (p0 : Nat) (p1 : Int32) (p2 : Int32) (p3 : Int32) (p4 : Int32) (p5 : Int32) (Y : gM) {w : Int32} {Z : gM}, (14, p0) ∈ NL → rec p0 p1 p2 p3 p4 p5 Y = some (w, Z) → gC l yX7_seek cX7_seek 11 none rm0 D cA ad NL [.ref (ad 14 p0), .int p1, .int p2, .int p3, .int p4, .int p5] Y none Z) (hrm : gRm rm0 R 11) (hR : 2 ≤ R.frames ∧ 48 ≤ R.locals) {p0 : Nat} {p1 : Int32} {p2 : Int32} {p3 : Int32} {p4 : Int32} {p5 : Int32} (ha_l0 : (14, p0) ∈ NL) : ∀ (X : gM) (H : Heap) (locs : List Loc) (ls : Array Slot), gH D cA ad NL X H → va_S A s.heap H locs → lv_has ls 11 [(0, .ref (ad 14 p0)), (1, .int p1), (2, .int p2), (3, .int p3), (4, .int p4), (5, .int p5)] → X7_seek_B (gal NL) N rec p0 p1 p2 p3 p4 p5 X = some (rr, XX) → W p l e R s m args below meth c H locs 0 0 (MQ below (gQ D cA ad NL none XX A) args s 0 0 A) (F0 m 0 ls []) := by
  have hx := C.1
  have hb := C.2.1
  intro X H locs ls hP hS hl hf
  rw [X7_seek_B] at hf
  refine lv_iload_n hx hb dX7_seek_0 rfl (lv_at hl 2 rfl) ?_
  refine lv_if_ne (tgt := 11) hx hb dX7_seek_1 (by decide) (fun c1 => ?_) (fun c1 => ?_)
  · have hf := g_in c1 hf
    refine lv_iload_n hx hb dX7_seek_11 rfl (lv_at hl 1 rfl) ?_
    refine lv_aload_n hx hb dX7_seek_12 rfl (lv_at hl 0 rfl) ?_
    refine r_get C hP ha_l0 (ct_14 _ _ _ _) fx_X7_44 (fg_14_10 _ _ _) dX7_seek_13 ?_
    refine lv_icmp_ge (tgt := 29) hx hb dX7_seek_16 (by decide) (fun c2 => ?_) (fun c2 => ?_)
    · have hf := g_ip c2 hf
      exact s_X7_seek_J29 C hW hD0 hrec hrm hR X _ _ _ hP hS (lv_sub hl [] rfl) hf
    · have hf := g_in c2 hf
      refine lv_iload_n hx hb dX7_seek_19 rfl (lv_at hl 2 rfl) ?_
      refine lv_aload_n hx hb dX7_seek_20 rfl (lv_at hl 0 rfl) ?_
      refine r_get C hP ha_l0 (ct_14 _ _ _ _) fx_X7_44 (fg_14_10 _ _ _) dX7_seek_21 ?_
      refine lv_iload_n hx hb dX7_seek_24 rfl (lv_at hl 1 rfl) ?_
      refine lv_isub hx hb dX7_seek_25 ?_
      refine lv_icmp_le (tgt := 30) hx hb dX7_seek_26 (by decide) (fun c3 => ?_) (fun c3 => ?_)
      · have hf := g_ip c3 hf
        refine lv_aload_n hx hb dX7_seek_30 rfl (lv_at hl 0 rfl) ?_
        refine lv_iload_n hx hb dX7_seek_31 rfl (lv_at hl 1 rfl) ?_
        refine lv_iconst (v := 1) hx hb dX7_seek_32 (by decide) ?_
        refine lv_iadd hx hb dX7_seek_33 ?_
        refine lv_iload_n hx hb dX7_seek_34 rfl (lv_at hl 2 rfl) ?_
        refine lv_iload_n hx hb dX7_seek_35 rfl (lv_at hl 3 rfl) ?_
        refine lv_iload hx hb dX7_seek_36 (lv_at hl 4 rfl) ?_
        refine lv_iload hx hb dX7_seek_38 (lv_at hl 5 rfl) ?_
        obtain ⟨r4, X5, h6, hf⟩ := b2_in hf
        refine r_cSv (rest := []) C hP hS hl.1 (hrec _ _ _ _ _ _ _ ha_l0 h6) ix_X7_seek is_X7_seek ls_X7_84 hrm rfl rfl (Nat.le_of_ble_eq_true rfl) ⟨Nat.zero_le _, Nat.zero_le _⟩ dX7_seek_40 (fun H locs hP hS => ?_)
        refine lv_aload_n hx hb dX7_seek_43 rfl (lv_at hl 0 rfl) ?_
        refine r_get C hP ha_l0 (ct_14 _ _ _ _) fx_X7_40 (fg_14_9 _ _ _) dX7_seek_44 ?_
        obtain ⟨j7, h8, hf⟩ := dr_in hf
        rw [gsmr h8]
        refine lv_astore (i := 6) (lv' := [(6, .ref (ad 13 j7)), (0, .ref (ad 14 p0)), (1, .int p1), (2, .int p2), (3, .int p3), (4, .int p4), (5, .int p5)]) hx hb dX7_seek_47 hl (Nat.le_of_ble_eq_true rfl) rfl (fun ls hl => ?_)
        refine lv_aload hx hb dX7_seek_49 (lv_at hl 0 rfl) ?_
        refine r_alen C hP 6 h8.2.2 (ct_13 _ _ _ _) rfl rfl dX7_seek_51 ?_
        refine lv_istore (i := 7) (lv' := [(7, .int (6 : Int32)), (6, .ref (ad 13 j7)), (0, .ref (ad 14 p0)), (1, .int p1), (2, .int p2), (3, .int p3), (4, .int p4), (5, .int p5)]) hx hb dX7_seek_52 hl (Nat.le_of_ble_eq_true rfl) rfl (fun ls hl => ?_)
        refine lv_iconst (v := 0) hx hb dX7_seek_54 (by decide) ?_
        refine lv_istore (i := 8) (lv' := [(8, .int (0 : Int32)), (7, .int (6 : Int32)), (6, .ref (ad 13 j7)), (0, .ref (ad 14 p0)), (1, .int p1), (2, .int p2), (3, .int p3), (4, .int p4), (5, .int p5)]) hx hb dX7_seek_55 hl (Nat.le_of_ble_eq_true rfl) rfl (fun ls hl => ?_)
        exact s_X7_seek_L57 C hW hD0 hrec hrm hR (fun Y H locs ls hP hS hl hf => s_X7_seek_J185 C hW hD0 hrec hrm hR Y _ _ _ hP hS hl hf) N p0 p1 p2 p3 p4 p5 j7 (6 : Int32) (0 : Int32) X5 _ _ _ hP hS (lv_sub hl [3, 4, 5, 6, 7, 8, 2, 1, 0] rfl) ha_l0 h8.2.2 hf
      · have hf := g_in c3 hf
        exact s_X7_seek_J29 C hW hD0 hrec hrm hR X _ _ _ hP hS (lv_sub hl [] rfl) hf
  · have hf := g_ip c1 hf
    refine lv_aload_n hx hb dX7_seek_4 rfl (lv_at hl 0 rfl) ?_
    refine lv_iload hx hb dX7_seek_5 (lv_at hl 5 rfl) ?_
    obtain ⟨r9, X10, h11, hf⟩ := b2_in hf
    refine r_cVv (rest := []) C hP hS hl.1 (s_X7_keep hW hD0 ha_l0 h11) ix_X7_keep iv_X7_keep lk_X7_94 ⟨rfl, rfl, Nat.le_trans (Nat.le_of_ble_eq_true rfl) hR.1, Nat.le_trans (Nat.le_of_ble_eq_true rfl) hR.2⟩ ha_l0 (ct_14 _ _ _ _) rfl rfl rfl rfl (Nat.le_of_ble_eq_true rfl) ⟨Nat.zero_le _, Nat.zero_le _⟩ dX7_seek_7 (fun H locs hP hS => ?_)
    obtain ⟨rfl, rfl⟩ := g_s1 hf
    exact r_vret C hP hS dX7_seek_10

theorem d_X7_seek {l : Launch} {D : va_G} {cA : Nat → ClassId} {ad : Nat → Nat → Nat} {NL : List (Nat × Nat)} {N : Nat} (hW : gWf NL) (hD0 : gD (fun _ => True) ad NL) : ∀ (d : Nat) (p0 : Nat) (p1 : Int32) (p2 : Int32) (p3 : Int32) (p4 : Int32) (p5 : Int32) (X : gM) {rr : Int32} {XX : gM}, (14, p0) ∈ NL → X7_seek (gal NL) N d p0 p1 p2 p3 p4 p5 X = some (rr, XX) → gC l yX7_seek cX7_seek 11 none (rmd_X7_seek d) D cA ad NL [.ref (ad 14 p0), .int p1, .int p2, .int p3, .int p4, .int p5] X none XX := by
  intro d
  induction d with
  | zero =>
    intro p0 p1 p2 p3 p4 p5 X rr XX ha_l0 hf
    rw [X7_seek] at hf
    cases hf
  | succ d ih =>
    intro p0 p1 p2 p3 p4 p5 X rr XX ha_l0 hf
    rw [X7_seek] at hf
    exact g_ofW (by decide) hD0 (Nat.le_of_ble_eq_true rfl) rfl (fun p e s m below meth c ls C hP hS hl => w_X7_seek C hW hD0 (fun p0 p1 p2 p3 p4 p5 Y _ _ ha_l0 h => ih p0 p1 p2 p3 p4 p5 Y ha_l0 h) ⟨rfl, rfl, Nat.le_of_eq (by simp only [rmd_X7_seek]; omega), Nat.le_of_eq (by simp only [rmd_X7_seek]; omega)⟩ ⟨by simp only [rmd_X7_seek]; omega, by simp only [rmd_X7_seek]; omega⟩ ha_l0 X _ _ ls hP hS hl hf)
theorem s_X7_seek {l : Launch} {D : va_G} {cA : Nat → ClassId} {ad : Nat → Nat → Nat} {NL : List (Nat × Nat)} {N : Nat} {p0 : Nat} {p1 : Int32} {p2 : Int32} {p3 : Int32} {p4 : Int32} {p5 : Int32} {X : gM} {rr : Int32} {XX : gM} (hW : gWf NL) (hD0 : gD (fun _ => True) ad NL) (ha_l0 : (14, p0) ∈ NL) (hf : X7_seek (gal NL) N 10 p0 p1 p2 p3 p4 p5 X = some (rr, XX)) : gC l yX7_seek cX7_seek 11 none rm_X7_seek D cA ad NL [.ref (ad 14 p0), .int p1, .int p2, .int p3, .int p4, .int p5] X none XX := d_X7_seek hW hD0 10 p0 p1 p2 p3 p4 p5 X ha_l0 hf
def rm_X7_make : Room := { frames := 13, cells := 0, slots := 0, locals := 378 }
set_option maxRecDepth 100000 in
set_option maxHeartbeats 4000000 in
theorem w_X7_make {p : Program} {l : Launch} {e : Env} {s : State} {m : MethodId} {args : Array Value} {below : List Frame} {meth : Method} {c : Code} {D : va_G} {cA : Nat → ClassId} {ad : Nat → Nat → Nat} {NL : List (Nat × Nat)} {A : Nat → Prop} {rr : Int32} {XX : gM} {N : Nat} (C : gCx p c meth m s args cX7_make 3 none RX7 D cA ad NL A) (hW : gWf NL) (hD0 : gD (fun _ => True) ad NL) {p0 : Nat} {p1 : Nat} (ha_l0 : (14, p0) ∈ NL) (ha_l1 : (12, p1) ∈ NL) (ha_l2 : (22, 0) ∈ NL) : ∀ (X : gM) (H : Heap) (locs : List Loc) (ls : Array Slot), gH D cA ad NL X H → va_S A s.heap H locs → lv_has ls 3 [(0, .ref (ad 14 p0)), (1, .ref (ad 12 p1)), (2, .ref (ad 22 0))] → X7_make (gal NL) N p0 p1 X = some (rr, XX) → W p l e rm_X7_make s m args below meth c H locs 0 0 (MQ below (gQ D cA ad NL none XX A) args s 0 0 A) (F0 m 0 ls []) := by
  have hx := C.1
  have hb := C.2.1
  intro X H locs ls hP hS hl hf
  rw [X7_make] at hf
  refine lv_aload_n hx hb dX7_make_0 rfl (lv_at hl 0 rfl) ?_
  refine lv_iconst (v := 0) hx hb dX7_make_1 (by decide) ?_
  refine r_put C hP hS (0 : Int32) ha_l0 (ct_14 _ _ _ _) px_X7_15 (fp_14_3 _ _ _ _ _) (Nat.le_of_ble_eq_true rfl) rfl rfl dX7_make_2 (fun H locs hP hS => ?_)
  obtain ⟨X1, e2, hf⟩ := gl_in hf
  rw [← e2] at hP
  refine lv_aload_n hx hb dX7_make_5 rfl (lv_at hl 0 rfl) ?_
  refine r_get C hP ha_l0 (ct_14 _ _ _ _) fx_X7_19 (fg_14_4 _ _ _) dX7_make_6 ?_
  refine lv_iconst (v := 0) hx hb dX7_make_9 (by decide) ?_
  refine r_cSv (rest := []) C hP hS hl.1 (s_J7_fill_53178 hD0 (gs_14_4 hW ha_l0) (fun _ => ct_15 _ _ _ _) (by decide)) ix_J7_fill_53178 is_J7_fill_53178 ls_X7_59 ⟨rfl, rfl, Nat.le_of_ble_eq_true rfl, Nat.le_of_ble_eq_true rfl⟩ rfl rfl (Nat.le_of_ble_eq_true rfl) ⟨Nat.zero_le _, Nat.zero_le _⟩ dX7_make_10 (fun H locs hP hS => ?_)
  obtain ⟨X3, e4, hf⟩ := gl_in hf
  rw [← e4] at hP
  refine lv_aload_n hx hb dX7_make_13 rfl (lv_at hl 0 rfl) ?_
  refine r_get C hP ha_l0 (ct_14 _ _ _ _) fx_X7_23 (fg_14_5 _ _ _) dX7_make_14 ?_
  refine lv_iconst (v := 0) hx hb dX7_make_17 (by decide) ?_
  refine r_cSv (rest := []) C hP hS hl.1 (s_J7_fill_53178 hD0 (gs_14_5 hW ha_l0) (fun _ => ct_16 _ _ _ _) (by decide)) ix_J7_fill_53178 is_J7_fill_53178 ls_X7_59 ⟨rfl, rfl, Nat.le_of_ble_eq_true rfl, Nat.le_of_ble_eq_true rfl⟩ rfl rfl (Nat.le_of_ble_eq_true rfl) ⟨Nat.zero_le _, Nat.zero_le _⟩ dX7_make_18 (fun H locs hP hS => ?_)
  obtain ⟨X5, e6, hf⟩ := gl_in hf
  rw [← e6] at hP
  refine lv_aload_n hx hb dX7_make_21 rfl (lv_at hl 0 rfl) ?_
  refine r_get C hP ha_l0 (ct_14 _ _ _ _) fx_X7_26 (fg_14_6 _ _ _) dX7_make_22 ?_
  refine lv_iconst (v := 0) hx hb dX7_make_25 (by decide) ?_
  refine r_cSv (rest := []) C hP hS hl.1 (s_J7_fill_53178 hD0 (gs_14_6 hW ha_l0) (fun _ => ct_17 _ _ _ _) (by decide)) ix_J7_fill_53178 is_J7_fill_53178 ls_X7_59 ⟨rfl, rfl, Nat.le_of_ble_eq_true rfl, Nat.le_of_ble_eq_true rfl⟩ rfl rfl (Nat.le_of_ble_eq_true rfl) ⟨Nat.zero_le _, Nat.zero_le _⟩ dX7_make_26 (fun H locs hP hS => ?_)
  obtain ⟨X7, e8, hf⟩ := gl_in hf
  rw [← e8] at hP
  refine lv_aload_n hx hb dX7_make_29 rfl (lv_at hl 0 rfl) ?_
  refine r_get C hP ha_l0 (ct_14 _ _ _ _) fx_X7_47 (fg_14_11 _ _ _) dX7_make_30 ?_
  refine lv_iconst (v := -1) hx hb dX7_make_33 (by decide) ?_
  refine r_cSv (rest := []) C hP hS hl.1 (s_J7_fill_53178 hD0 (gs_14_11 hW ha_l0) (fun _ => ct_20 _ _ _ _) (by decide)) ix_J7_fill_53178 is_J7_fill_53178 ls_X7_59 ⟨rfl, rfl, Nat.le_of_ble_eq_true rfl, Nat.le_of_ble_eq_true rfl⟩ rfl rfl (Nat.le_of_ble_eq_true rfl) ⟨Nat.zero_le _, Nat.zero_le _⟩ dX7_make_34 (fun H locs hP hS => ?_)
  obtain ⟨X9, e10, hf⟩ := gl_in hf
  rw [← e10] at hP
  refine lv_aload_n hx hb dX7_make_37 rfl (lv_at hl 0 rfl) ?_
  refine lv_aload_n hx hb dX7_make_38 rfl (lv_at hl 1 rfl) ?_
  refine r_get C hP ha_l1 (ct_12 _ _ _ _) fx_X7_65 (fg_12_1 _ _ _) dX7_make_39 ?_
  obtain ⟨w13, h14, hf⟩ := rn_in hf
  rw [← gsmw (i := p0) h14]
  refine r_put C hP hS w13 ha_l0 (ct_14 _ _ _ _) px_X7_40 (fp_14_9 _ _ _ _ _) (Nat.le_of_ble_eq_true rfl) (by rw [gsmw h14]; rfl) (by rw [gsmw h14]; rfl) dX7_make_42 (fun H locs hP hS => ?_)
  obtain ⟨X11, e12, hf⟩ := gl_in hf
  rw [← e12] at hP
  refine lv_aload_n hx hb dX7_make_45 rfl (lv_at hl 0 rfl) ?_
  refine lv_iconst (v := 2) hx hb dX7_make_46 (by decide) ?_
  refine lv_aload_n hx hb dX7_make_47 rfl (lv_at hl 1 rfl) ?_
  refine r_get C hP ha_l1 (ct_12 _ _ _ _) fx_X7_68 (fg_12_0 _ _ _) dX7_make_48 ?_
  refine lv_imul hx hb dX7_make_51 ?_
  refine lv_bipush (v := 8) hx hb dX7_make_52 (by decide) ?_
  refine r_mmin C hl.1 jm_X7_71 jx_min.1 jx_min.2.1 jx_min.2.2 ⟨Nat.le_of_ble_eq_true rfl, Nat.le_of_ble_eq_true rfl, Nat.le_of_ble_eq_true rfl, Nat.le_of_ble_eq_true rfl⟩ dX7_make_54 ?_
  refine g_top hf (fun v15 e16 hf => ?_)
  refine r_put C hP hS v15 ha_l0 (ct_14 _ _ _ _) px_X7_44 (fp_14_10 _ _ _ _ _) (Nat.le_of_ble_eq_true rfl) rfl rfl dX7_make_57 (fun H locs hP hS => ?_)
  obtain ⟨X17, e18, hf⟩ := gl_in hf
  rw [← e18] at hP
  refine lv_aload_n hx hb dX7_make_60 rfl (lv_at hl 0 rfl) ?_
  refine lv_aload_n hx hb dX7_make_61 rfl (lv_at hl 2 rfl) ?_
  obtain ⟨r19, X20, h21, hf⟩ := b2_in hf
  refine r_cVv (rest := []) C hP hS hl.1 (s_X7_takeFacts hW hD0 ha_l0 ha_l2 h21) ix_X7_takeFacts iv_X7_takeFacts lk_X7_77 ⟨rfl, rfl, Nat.le_of_ble_eq_true rfl, Nat.le_of_ble_eq_true rfl⟩ ha_l0 (ct_14 _ _ _ _) rfl rfl rfl rfl (Nat.le_of_ble_eq_true rfl) ⟨Nat.zero_le _, Nat.zero_le _⟩ dX7_make_62 (fun H locs hP hS => ?_)
  refine lv_aload_n hx hb dX7_make_65 rfl (lv_at hl 0 rfl) ?_
  refine lv_iconst (v := 0) hx hb dX7_make_66 (by decide) ?_
  refine lv_aload_n hx hb dX7_make_67 rfl (lv_at hl 1 rfl) ?_
  refine r_get C hP ha_l1 (ct_12 _ _ _ _) fx_X7_81 (fg_12_2 _ _ _) dX7_make_68 ?_
  refine lv_iconst (v := 0) hx hb dX7_make_71 (by decide) ?_
  refine lv_iconst (v := 0) hx hb dX7_make_72 (by decide) ?_
  refine lv_iconst (v := -1) hx hb dX7_make_73 (by decide) ?_
  obtain ⟨r22, X23, h24, hf⟩ := b2_in hf
  refine r_cSv (rest := []) C hP hS hl.1 (s_X7_seek hW hD0 ha_l0 h24) ix_X7_seek is_X7_seek ls_X7_84 ⟨rfl, rfl, Nat.le_of_ble_eq_true rfl, Nat.le_of_ble_eq_true rfl⟩ rfl rfl (Nat.le_of_ble_eq_true rfl) ⟨Nat.zero_le _, Nat.zero_le _⟩ dX7_make_74 (fun H locs hP hS => ?_)
  refine lv_aload_n hx hb dX7_make_77 rfl (lv_at hl 0 rfl) ?_
  refine lv_iconst (v := 1) hx hb dX7_make_78 (by decide) ?_
  refine r_put C hP hS (1 : Int32) ha_l0 (ct_14 _ _ _ _) px_X7_9 (fp_14_2 _ _ _ _ _) (Nat.le_of_ble_eq_true rfl) rfl rfl dX7_make_79 (fun H locs hP hS => ?_)
  obtain ⟨X25, e26, hf⟩ := gl_in hf
  rw [← e26] at hP
  obtain ⟨rfl, rfl⟩ := g_s1 hf
  exact r_vret C hP hS dX7_make_82

theorem s_X7_make {l : Launch} {D : va_G} {cA : Nat → ClassId} {ad : Nat → Nat → Nat} {NL : List (Nat × Nat)} {N : Nat} {p0 : Nat} {p1 : Nat} {X : gM} {rr : Int32} {XX : gM} (hW : gWf NL) (hD0 : gD (fun _ => True) ad NL) (ha_l0 : (14, p0) ∈ NL) (ha_l1 : (12, p1) ∈ NL) (ha_l2 : (22, 0) ∈ NL) (hf : X7_make (gal NL) N p0 p1 X = some (rr, XX)) : gC l yX7_make cX7_make 3 none rm_X7_make D cA ad NL [.ref (ad 14 p0), .ref (ad 12 p1), .ref (ad 22 0)] X none XX :=
  g_ofW (by decide) hD0 (Nat.le_of_ble_eq_true rfl) rfl (fun p e s m below meth c ls C hP hS hl => w_X7_make C hW hD0 ha_l0 ha_l1 ha_l2 X _ _ ls hP hS hl hf)
def rm_X5_hasRoom : Room := { frames := 0, cells := 0, slots := 0, locals := 0 }
set_option maxRecDepth 100000 in
set_option maxHeartbeats 4000000 in
theorem s_X5_hasRoom_J30 {p : Program} {l : Launch} {e : Env} {s : State} {m : MethodId} {args : Array Value} {below : List Frame} {meth : Method} {c : Code} {D : va_G} {cA : Nat → ClassId} {ad : Nat → Nat → Nat} {NL : List (Nat × Nat)} {A : Nat → Prop} {rr : Int32} {XX : gM} {N : Nat} (C : gCx p c meth m s args cX5_hasRoom 1 (some .boolean) RX5 D cA ad NL A) (hW : gWf NL) (hD0 : gD (fun _ => True) ad NL) : ∀ (s0 : Int32) (X : gM) (H : Heap) (locs : List Loc) (ls : Array Slot), gH D cA ad NL X H → va_S A s.heap H locs → lv_has ls 1 [] → X5_hasRoom_J30 (gal NL) N s0 X = some (rr, XX) → W p l e rm_X5_hasRoom s m args below meth c H locs 0 0 (MQ below (gQ D cA ad NL (some (.int rr)) XX A) args s 0 0 A) (F0 m 30 ls [.int s0]) := by
  have hx := C.1
  have hb := C.2.1
  intro s0 X H locs ls hP hS hl hf
  rw [X5_hasRoom_J30] at hf
  obtain ⟨h1, hf⟩ := bz_in hf
  obtain ⟨rfl, rfl⟩ := g_s1 hf
  exact r_zret C hP hS h1 dX5_hasRoom_30

set_option maxRecDepth 100000 in
set_option maxHeartbeats 4000000 in
theorem s_X5_hasRoom_J29 {p : Program} {l : Launch} {e : Env} {s : State} {m : MethodId} {args : Array Value} {below : List Frame} {meth : Method} {c : Code} {D : va_G} {cA : Nat → ClassId} {ad : Nat → Nat → Nat} {NL : List (Nat × Nat)} {A : Nat → Prop} {rr : Int32} {XX : gM} {N : Nat} (C : gCx p c meth m s args cX5_hasRoom 1 (some .boolean) RX5 D cA ad NL A) (hW : gWf NL) (hD0 : gD (fun _ => True) ad NL) : ∀ (X : gM) (H : Heap) (locs : List Loc) (ls : Array Slot), gH D cA ad NL X H → va_S A s.heap H locs → lv_has ls 1 [] → X5_hasRoom_J29 (gal NL) N X = some (rr, XX) → W p l e rm_X5_hasRoom s m args below meth c H locs 0 0 (MQ below (gQ D cA ad NL (some (.int rr)) XX A) args s 0 0 A) (F0 m 29 ls []) := by
  have hx := C.1
  have hb := C.2.1
  intro X H locs ls hP hS hl hf
  rw [X5_hasRoom_J29] at hf
  refine lv_iconst (v := 0) hx hb dX5_hasRoom_29 (by decide) ?_
  exact s_X5_hasRoom_J30 C hW hD0 (0 : Int32) X _ _ _ hP hS (lv_sub hl [] rfl) hf

set_option maxRecDepth 100000 in
set_option maxHeartbeats 4000000 in
theorem w_X5_hasRoom {p : Program} {l : Launch} {e : Env} {s : State} {m : MethodId} {args : Array Value} {below : List Frame} {meth : Method} {c : Code} {D : va_G} {cA : Nat → ClassId} {ad : Nat → Nat → Nat} {NL : List (Nat × Nat)} {A : Nat → Prop} {rr : Int32} {XX : gM} {N : Nat} (C : gCx p c meth m s args cX5_hasRoom 1 (some .boolean) RX5 D cA ad NL A) (hW : gWf NL) (hD0 : gD (fun _ => True) ad NL) {p0 : Nat} (ha_l0 : (12, p0) ∈ NL) : ∀ (X : gM) (H : Heap) (locs : List Loc) (ls : Array Slot), gH D cA ad NL X H → va_S A s.heap H locs → lv_has ls 1 [(0, .ref (ad 12 p0))] → X5_hasRoom (gal NL) N p0 X = some (rr, XX) → W p l e rm_X5_hasRoom s m args below meth c H locs 0 0 (MQ below (gQ D cA ad NL (some (.int rr)) XX A) args s 0 0 A) (F0 m 0 ls []) := by
  have hx := C.1
  have hb := C.2.1
  intro X H locs ls hP hS hl hf
  rw [X5_hasRoom] at hf
  refine lv_aload_n hx hb dX5_hasRoom_0 rfl (lv_at hl 0 rfl) ?_
  refine r_get C hP ha_l0 (ct_12 _ _ _ _) fx_X5_21 (fg_12_2 _ _ _) dX5_hasRoom_1 ?_
  refine lv_aload_n hx hb dX5_hasRoom_4 rfl (lv_at hl 0 rfl) ?_
  refine r_get C hP ha_l0 (ct_12 _ _ _ _) fx_X5_17 (fg_12_1 _ _ _) dX5_hasRoom_5 ?_
  refine r_alen C hP 6 (gs_12_1 hW ha_l0) (ct_13 _ _ _ _) rfl rfl dX5_hasRoom_8 ?_
  refine lv_icmp_ge (tgt := 29) hx hb dX5_hasRoom_9 (by decide) (fun c1 => ?_) (fun c1 => ?_)
  · have hf := g_ip c1 hf
    exact s_X5_hasRoom_J29 C hW hD0 X _ _ _ hP hS (lv_sub hl [] rfl) hf
  · have hf := g_in c1 hf
    refine lv_aload_n hx hb dX5_hasRoom_12 rfl (lv_at hl 0 rfl) ?_
    refine r_get C hP ha_l0 (ct_12 _ _ _ _) fx_X5_21 (fg_12_2 _ _ _) dX5_hasRoom_13 ?_
    refine lv_iconst (v := 2) hx hb dX5_hasRoom_16 (by decide) ?_
    refine lv_aload_n hx hb dX5_hasRoom_17 rfl (lv_at hl 0 rfl) ?_
    refine r_get C hP ha_l0 (ct_12 _ _ _ _) fx_X5_9 (fg_12_0 _ _ _) dX5_hasRoom_18 ?_
    refine lv_imul hx hb dX5_hasRoom_21 ?_
    refine lv_icmp_ge (tgt := 29) hx hb dX5_hasRoom_22 (by decide) (fun c2 => ?_) (fun c2 => ?_)
    · have hf := g_ip c2 hf
      exact s_X5_hasRoom_J29 C hW hD0 X _ _ _ hP hS (lv_sub hl [] rfl) hf
    · have hf := g_in c2 hf
      refine lv_iconst (v := 1) hx hb dX5_hasRoom_25 (by decide) ?_
      refine lv_goto (tgt := 30) hx hb dX5_hasRoom_26 (by decide) ?_
      exact s_X5_hasRoom_J30 C hW hD0 (1 : Int32) X _ _ _ hP hS (lv_sub hl [] rfl) hf

theorem s_X5_hasRoom {l : Launch} {D : va_G} {cA : Nat → ClassId} {ad : Nat → Nat → Nat} {NL : List (Nat × Nat)} {N : Nat} {p0 : Nat} {X : gM} {rr : Int32} {XX : gM} (hW : gWf NL) (hD0 : gD (fun _ => True) ad NL) (ha_l0 : (12, p0) ∈ NL) (hf : X5_hasRoom (gal NL) N p0 X = some (rr, XX)) : gC l yX5_hasRoom cX5_hasRoom 1 (some .boolean) rm_X5_hasRoom D cA ad NL [.ref (ad 12 p0)] X (some (.int rr)) XX :=
  g_ofW (by decide) hD0 (Nat.le_of_ble_eq_true rfl) rfl (fun p e s m below meth c ls C hP hS hl => w_X5_hasRoom C hW hD0 ha_l0 X _ _ ls hP hS hl hf)
def rm_X5_hasPlace : Room := { frames := 0, cells := 0, slots := 0, locals := 0 }
set_option maxRecDepth 100000 in
set_option maxHeartbeats 4000000 in
theorem s_X5_hasPlace_J19 {p : Program} {l : Launch} {e : Env} {s : State} {m : MethodId} {args : Array Value} {below : List Frame} {meth : Method} {c : Code} {D : va_G} {cA : Nat → ClassId} {ad : Nat → Nat → Nat} {NL : List (Nat × Nat)} {A : Nat → Prop} {rr : Int32} {XX : gM} {N : Nat} (C : gCx p c meth m s args cX5_hasPlace 2 (some .boolean) RX5 D cA ad NL A) (hW : gWf NL) (hD0 : gD (fun _ => True) ad NL) : ∀ (s0 : Int32) (X : gM) (H : Heap) (locs : List Loc) (ls : Array Slot), gH D cA ad NL X H → va_S A s.heap H locs → lv_has ls 2 [] → X5_hasPlace_J19 (gal NL) N s0 X = some (rr, XX) → W p l e rm_X5_hasPlace s m args below meth c H locs 0 0 (MQ below (gQ D cA ad NL (some (.int rr)) XX A) args s 0 0 A) (F0 m 19 ls [.int s0]) := by
  have hx := C.1
  have hb := C.2.1
  intro s0 X H locs ls hP hS hl hf
  rw [X5_hasPlace_J19] at hf
  obtain ⟨h1, hf⟩ := bz_in hf
  obtain ⟨rfl, rfl⟩ := g_s1 hf
  exact r_zret C hP hS h1 dX5_hasPlace_19

set_option maxRecDepth 100000 in
set_option maxHeartbeats 4000000 in
theorem s_X5_hasPlace_J18 {p : Program} {l : Launch} {e : Env} {s : State} {m : MethodId} {args : Array Value} {below : List Frame} {meth : Method} {c : Code} {D : va_G} {cA : Nat → ClassId} {ad : Nat → Nat → Nat} {NL : List (Nat × Nat)} {A : Nat → Prop} {rr : Int32} {XX : gM} {N : Nat} (C : gCx p c meth m s args cX5_hasPlace 2 (some .boolean) RX5 D cA ad NL A) (hW : gWf NL) (hD0 : gD (fun _ => True) ad NL) : ∀ (X : gM) (H : Heap) (locs : List Loc) (ls : Array Slot), gH D cA ad NL X H → va_S A s.heap H locs → lv_has ls 2 [] → X5_hasPlace_J18 (gal NL) N X = some (rr, XX) → W p l e rm_X5_hasPlace s m args below meth c H locs 0 0 (MQ below (gQ D cA ad NL (some (.int rr)) XX A) args s 0 0 A) (F0 m 18 ls []) := by
  have hx := C.1
  have hb := C.2.1
  intro X H locs ls hP hS hl hf
  rw [X5_hasPlace_J18] at hf
  refine lv_iconst (v := 0) hx hb dX5_hasPlace_18 (by decide) ?_
  exact s_X5_hasPlace_J19 C hW hD0 (0 : Int32) X _ _ _ hP hS (lv_sub hl [] rfl) hf

set_option maxRecDepth 100000 in
set_option maxHeartbeats 4000000 in
theorem w_X5_hasPlace {p : Program} {l : Launch} {e : Env} {s : State} {m : MethodId} {args : Array Value} {below : List Frame} {meth : Method} {c : Code} {D : va_G} {cA : Nat → ClassId} {ad : Nat → Nat → Nat} {NL : List (Nat × Nat)} {A : Nat → Prop} {rr : Int32} {XX : gM} {N : Nat} (C : gCx p c meth m s args cX5_hasPlace 2 (some .boolean) RX5 D cA ad NL A) (hW : gWf NL) (hD0 : gD (fun _ => True) ad NL) {p0 : Nat} {p1 : Int32} (ha_l0 : (12, p0) ∈ NL) : ∀ (X : gM) (H : Heap) (locs : List Loc) (ls : Array Slot), gH D cA ad NL X H → va_S A s.heap H locs → lv_has ls 2 [(0, .ref (ad 12 p0)), (1, .int p1)] → X5_hasPlace (gal NL) N p0 p1 X = some (rr, XX) → W p l e rm_X5_hasPlace s m args below meth c H locs 0 0 (MQ below (gQ D cA ad NL (some (.int rr)) XX A) args s 0 0 A) (F0 m 0 ls []) := by
  have hx := C.1
  have hb := C.2.1
  intro X H locs ls hP hS hl hf
  rw [X5_hasPlace] at hf
  refine lv_iload_n hx hb dX5_hasPlace_0 rfl (lv_at hl 1 rfl) ?_
  refine lv_if_lt (tgt := 18) hx hb dX5_hasPlace_1 (by decide) (fun c1 => ?_) (fun c1 => ?_)
  · have hf := g_ip c1 hf
    exact s_X5_hasPlace_J18 C hW hD0 X _ _ _ hP hS (lv_sub hl [] rfl) hf
  · have hf := g_in c1 hf
    refine lv_iload_n hx hb dX5_hasPlace_4 rfl (lv_at hl 1 rfl) ?_
    refine lv_iconst (v := 2) hx hb dX5_hasPlace_5 (by decide) ?_
    refine lv_aload_n hx hb dX5_hasPlace_6 rfl (lv_at hl 0 rfl) ?_
    refine r_get C hP ha_l0 (ct_12 _ _ _ _) fx_X5_9 (fg_12_0 _ _ _) dX5_hasPlace_7 ?_
    refine lv_imul hx hb dX5_hasPlace_10 ?_
    refine lv_icmp_ge (tgt := 18) hx hb dX5_hasPlace_11 (by decide) (fun c2 => ?_) (fun c2 => ?_)
    · have hf := g_ip c2 hf
      exact s_X5_hasPlace_J18 C hW hD0 X _ _ _ hP hS (lv_sub hl [] rfl) hf
    · have hf := g_in c2 hf
      refine lv_iconst (v := 1) hx hb dX5_hasPlace_14 (by decide) ?_
      refine lv_goto (tgt := 19) hx hb dX5_hasPlace_15 (by decide) ?_
      exact s_X5_hasPlace_J19 C hW hD0 (1 : Int32) X _ _ _ hP hS (lv_sub hl [] rfl) hf

theorem s_X5_hasPlace {l : Launch} {D : va_G} {cA : Nat → ClassId} {ad : Nat → Nat → Nat} {NL : List (Nat × Nat)} {N : Nat} {p0 : Nat} {p1 : Int32} {X : gM} {rr : Int32} {XX : gM} (hW : gWf NL) (hD0 : gD (fun _ => True) ad NL) (ha_l0 : (12, p0) ∈ NL) (hf : X5_hasPlace (gal NL) N p0 p1 X = some (rr, XX)) : gC l yX5_hasPlace cX5_hasPlace 2 (some .boolean) rm_X5_hasPlace D cA ad NL [.ref (ad 12 p0), .int p1] X (some (.int rr)) XX :=
  g_ofW (by decide) hD0 (Nat.le_of_ble_eq_true rfl) rfl (fun p e s m below meth c ls C hP hS hl => w_X5_hasPlace C hW hD0 ha_l0 X _ _ ls hP hS hl hf)
def rm_X5_forget : Room := { frames := 0, cells := 0, slots := 0, locals := 0 }
set_option maxRecDepth 100000 in
set_option maxHeartbeats 4000000 in
theorem w_X5_forget {p : Program} {l : Launch} {e : Env} {s : State} {m : MethodId} {args : Array Value} {below : List Frame} {meth : Method} {c : Code} {D : va_G} {cA : Nat → ClassId} {ad : Nat → Nat → Nat} {NL : List (Nat × Nat)} {A : Nat → Prop} {rr : Int32} {XX : gM} {N : Nat} (C : gCx p c meth m s args cX5_forget 1 none RX5 D cA ad NL A) (hW : gWf NL) (hD0 : gD (fun _ => True) ad NL) {p0 : Nat} (ha_l0 : (12, p0) ∈ NL) : ∀ (X : gM) (H : Heap) (locs : List Loc) (ls : Array Slot), gH D cA ad NL X H → va_S A s.heap H locs → lv_has ls 1 [(0, .ref (ad 12 p0))] → X5_forget (gal NL) N p0 X = some (rr, XX) → W p l e rm_X5_forget s m args below meth c H locs 0 0 (MQ below (gQ D cA ad NL none XX A) args s 0 0 A) (F0 m 0 ls []) := by
  have hx := C.1
  have hb := C.2.1
  intro X H locs ls hP hS hl hf
  rw [X5_forget] at hf
  refine lv_aload_n hx hb dX5_forget_0 rfl (lv_at hl 0 rfl) ?_
  refine r_get C hP ha_l0 (ct_12 _ _ _ _) fx_X5_29 (fg_12_3 _ _ _) dX5_forget_1 ?_
  refine lv_iconst (v := 0) hx hb dX5_forget_4 (by decide) ?_
  refine r_put C hP hS (0 : Int32) (gs_12_3 hW ha_l0) (ct_14 _ _ _ _) px_X5_42 (fp_14_2 _ _ _ _ _) (Nat.le_of_ble_eq_true rfl) rfl rfl dX5_forget_5 (fun H locs hP hS => ?_)
  obtain ⟨X1, e2, hf⟩ := gl_in hf
  rw [← e2] at hP
  refine lv_aload_n hx hb dX5_forget_8 rfl (lv_at hl 0 rfl) ?_
  refine r_get C hP ha_l0 (ct_12 _ _ _ _) fx_X5_33 (fg_12_4 _ _ _) dX5_forget_9 ?_
  refine lv_iconst (v := 0) hx hb dX5_forget_12 (by decide) ?_
  refine r_put C hP hS (0 : Int32) (gs_12_4 hW ha_l0) (ct_14 _ _ _ _) px_X5_42 (fp_14_2 _ _ _ _ _) (Nat.le_of_ble_eq_true rfl) rfl rfl dX5_forget_13 (fun H locs hP hS => ?_)
  obtain ⟨X3, e4, hf⟩ := gl_in hf
  rw [← e4] at hP
  refine lv_aload_n hx hb dX5_forget_16 rfl (lv_at hl 0 rfl) ?_
  refine r_get C hP ha_l0 (ct_12 _ _ _ _) fx_X5_36 (fg_12_5 _ _ _) dX5_forget_17 ?_
  refine lv_iconst (v := 0) hx hb dX5_forget_20 (by decide) ?_
  refine r_put C hP hS (0 : Int32) (gs_12_5 hW ha_l0) (ct_14 _ _ _ _) px_X5_42 (fp_14_2 _ _ _ _ _) (Nat.le_of_ble_eq_true rfl) rfl rfl dX5_forget_21 (fun H locs hP hS => ?_)
  obtain ⟨X5, e6, hf⟩ := gl_in hf
  rw [← e6] at hP
  obtain ⟨rfl, rfl⟩ := g_s1 hf
  exact r_vret C hP hS dX5_forget_24

theorem s_X5_forget {l : Launch} {D : va_G} {cA : Nat → ClassId} {ad : Nat → Nat → Nat} {NL : List (Nat × Nat)} {N : Nat} {p0 : Nat} {X : gM} {rr : Int32} {XX : gM} (hW : gWf NL) (hD0 : gD (fun _ => True) ad NL) (ha_l0 : (12, p0) ∈ NL) (hf : X5_forget (gal NL) N p0 X = some (rr, XX)) : gC l yX5_forget cX5_forget 1 none rm_X5_forget D cA ad NL [.ref (ad 12 p0)] X none XX :=
  g_ofW (by decide) hD0 (Nat.le_of_ble_eq_true rfl) rfl (fun p e s m below meth c ls C hP hS hl => w_X5_forget C hW hD0 ha_l0 X _ _ ls hP hS hl hf)
def rm_X5_take : Room := { frames := 1, cells := 0, slots := 0, locals := 20 }
set_option maxRecDepth 100000 in
set_option maxHeartbeats 4000000 in
theorem w_X5_take {p : Program} {l : Launch} {e : Env} {s : State} {m : MethodId} {args : Array Value} {below : List Frame} {meth : Method} {c : Code} {D : va_G} {cA : Nat → ClassId} {ad : Nat → Nat → Nat} {NL : List (Nat × Nat)} {A : Nat → Prop} {rr : Int32} {XX : gM} {N : Nat} (C : gCx p c meth m s args cX5_take 2 none RX5 D cA ad NL A) (hW : gWf NL) (hD0 : gD (fun _ => True) ad NL) {p0 : Nat} {p1 : Int32} (ha_l0 : (12, p0) ∈ NL) : ∀ (X : gM) (H : Heap) (locs : List Loc) (ls : Array Slot), gH D cA ad NL X H → va_S A s.heap H locs → lv_has ls 2 [(0, .ref (ad 12 p0)), (1, va_rf (ro ad 5 p1))] → X5_take (gal NL) N p0 p1 X = some (rr, XX) → W p l e rm_X5_take s m args below meth c H locs 0 0 (MQ below (gQ D cA ad NL none XX A) args s 0 0 A) (F0 m 0 ls []) := by
  have hx := C.1
  have hb := C.2.1
  intro X H locs ls hP hS hl hf
  rw [X5_take] at hf
  refine lv_aload_n hx hb dX5_take_0 rfl (lv_at hl 0 rfl) ?_
  refine r_get C hP ha_l0 (ct_12 _ _ _ _) fx_X5_21 (fg_12_2 _ _ _) dX5_take_1 ?_
  refine lv_aload_n hx hb dX5_take_4 rfl (lv_at hl 0 rfl) ?_
  refine r_get C hP ha_l0 (ct_12 _ _ _ _) fx_X5_17 (fg_12_1 _ _ _) dX5_take_5 ?_
  refine r_alen C hP 6 (gs_12_1 hW ha_l0) (ct_13 _ _ _ _) rfl rfl dX5_take_8 ?_
  refine lv_icmp_lt (tgt := 13) hx hb dX5_take_9 (by decide) (fun c1 => ?_) (fun c1 => ?_)
  · have hf := g_ip c1 hf
    refine lv_aload_n hx hb dX5_take_13 rfl (lv_at hl 0 rfl) ?_
    refine r_get C hP ha_l0 (ct_12 _ _ _ _) fx_X5_17 (fg_12_1 _ _ _) dX5_take_14 ?_
    refine lv_aload_n hx hb dX5_take_17 rfl (lv_at hl 0 rfl) ?_
    refine r_get C hP ha_l0 (ct_12 _ _ _ _) fx_X5_21 (fg_12_2 _ _ _) dX5_take_18 ?_
    refine r_aloadn C dX5_take_21 rfl (lv_at hl 1 rfl) ?_
    obtain ⟨j2, h3, hf⟩ := dr_in hf
    rw [gref h3]
    obtain ⟨j4, h5, hf⟩ := rd_in hf
    refine r_astq C hP hS p1 h3.1 h3.2.1 (gs_12_1 hW ha_l0) (fun _ => ct_13 _ _ _ _) rfl h3.2.2 (ct_5 _ _ _ _) rfl h5 dX5_take_22 (fun H locs hP hS => ?_)
    obtain ⟨X6, e7, hf⟩ := gl_in hf
    rw [← e7] at hP
    refine lv_aload_n hx hb dX5_take_23 rfl (lv_at hl 0 rfl) ?_
    refine lv_dup hx hb dX5_take_24 rfl ?_
    refine r_get C hP ha_l0 (ct_12 _ _ _ _) fx_X5_21 (fg_12_2 _ _ _) dX5_take_25 ?_
    refine lv_iconst (v := 1) hx hb dX5_take_28 (by decide) ?_
    refine lv_iadd hx hb dX5_take_29 ?_
    refine r_put C hP hS ((X6 12 p0 2) + (1 : Int32)) ha_l0 (ct_12 _ _ _ _) px_X5_21 (fp_12_2 _ _ _ _ _) (Nat.le_of_ble_eq_true rfl) rfl rfl dX5_take_30 (fun H locs hP hS => ?_)
    obtain ⟨X8, e9, hf⟩ := gl_in hf
    rw [← e9] at hP
    refine lv_aload_n hx hb dX5_take_33 rfl (lv_at hl 0 rfl) ?_
    obtain ⟨r10, X11, h12, hf⟩ := b2_in hf
    refine r_cVv (rest := []) C hP hS hl.1 (s_X5_forget hW hD0 ha_l0 h12) ix_X5_forget iv_X5_forget lk_X5_39 ⟨rfl, rfl, Nat.le_of_ble_eq_true rfl, Nat.le_of_ble_eq_true rfl⟩ ha_l0 (ct_12 _ _ _ _) rfl rfl rfl rfl (Nat.le_of_ble_eq_true rfl) ⟨Nat.zero_le _, Nat.zero_le _⟩ dX5_take_34 (fun H locs hP hS => ?_)
    obtain ⟨rfl, rfl⟩ := g_s1 hf
    exact r_vret C hP hS dX5_take_37
  · have hf := g_in c1 hf
    obtain ⟨rfl, rfl⟩ := g_s1 hf
    exact r_vret C hP hS dX5_take_12

theorem s_X5_take {l : Launch} {D : va_G} {cA : Nat → ClassId} {ad : Nat → Nat → Nat} {NL : List (Nat × Nat)} {N : Nat} {p0 : Nat} {p1 : Int32} {X : gM} {rr : Int32} {XX : gM} (hW : gWf NL) (hD0 : gD (fun _ => True) ad NL) (ha_l0 : (12, p0) ∈ NL) (hf : X5_take (gal NL) N p0 p1 X = some (rr, XX)) : gC l yX5_take cX5_take 2 none rm_X5_take D cA ad NL [.ref (ad 12 p0), va_rf (ro ad 5 p1)] X none XX :=
  g_ofW (by decide) hD0 (by simp [lg_sl, g_cat, g_catr, g_cati]) (by simp [lv_args, g_cat, g_catr, g_cati]) (fun p e s m below meth c ls C hP hS hl => w_X5_take C hW hD0 ha_l0 X _ _ ls hP hS hl hf)
def rm_X5_surveyed : Room := { frames := 14, cells := 0, slots := 0, locals := 400 }
set_option maxRecDepth 100000 in
set_option maxHeartbeats 4000000 in
theorem s_X5_surveyed_J29 {p : Program} {l : Launch} {e : Env} {s : State} {m : MethodId} {args : Array Value} {below : List Frame} {meth : Method} {c : Code} {D : va_G} {cA : Nat → ClassId} {ad : Nat → Nat → Nat} {NL : List (Nat × Nat)} {A : Nat → Prop} {rr : Int32} {XX : gM} {N : Nat} (C : gCx p c meth m s args cX5_surveyed 4 (some (.object "Undertext$Survey")) RX5 D cA ad NL A) (hW : gWf NL) (hD0 : gD (fun _ => True) ad NL) : ∀ (p3 : Nat) (X : gM) (H : Heap) (locs : List Loc) (ls : Array Slot), gH D cA ad NL X H → va_S A s.heap H locs → lv_has ls 4 [(3, .ref (ad 14 p3))] → (14, p3) ∈ NL → X5_surveyed_J29 (gal NL) N p3 X = some (rr, XX) → W p l e rm_X5_surveyed s m args below meth c H locs 0 0 (MQ below (gQ D cA ad NL (some (va_rf (ro ad 14 rr))) XX A) args s 0 0 A) (F0 m 29 ls []) := by
  have hx := C.1
  have hb := C.2.1
  intro p3 X H locs ls hP hS hl ha_l3 hf
  rw [X5_surveyed_J29] at hf
  refine lv_aload_n hx hb dX5_surveyed_29 rfl (lv_at hl 0 rfl) ?_
  obtain ⟨w1, h2, hf⟩ := rn_in hf
  rw [show Value.ref (ad 14 p3) = va_rf (ro ad 14 w1) from by rw [ro_ref h2.1, h2.2]]
  obtain ⟨rfl, rfl⟩ := g_s1 hf
  exact r_aret C hP hS dX5_surveyed_30

set_option maxRecDepth 100000 in
set_option maxHeartbeats 4000000 in
theorem s_X5_surveyed_J15 {p : Program} {l : Launch} {e : Env} {s : State} {m : MethodId} {args : Array Value} {below : List Frame} {meth : Method} {c : Code} {D : va_G} {cA : Nat → ClassId} {ad : Nat → Nat → Nat} {NL : List (Nat × Nat)} {A : Nat → Prop} {rr : Int32} {XX : gM} {N : Nat} (C : gCx p c meth m s args cX5_surveyed 4 (some (.object "Undertext$Survey")) RX5 D cA ad NL A) (hW : gWf NL) (hD0 : gD (fun _ => True) ad NL) : ∀ (p0 : Nat) (s0 : Nat) (X : gM) (H : Heap) (locs : List Loc) (ls : Array Slot), gH D cA ad NL X H → va_S A s.heap H locs → lv_has ls 4 [(0, .ref (ad 12 p0)), (2, .ref (ad 22 0))] → (12, p0) ∈ NL → (22, 0) ∈ NL → (14, s0) ∈ NL → X5_surveyed_J15 (gal NL) N p0 s0 X = some (rr, XX) → W p l e rm_X5_surveyed s m args below meth c H locs 0 0 (MQ below (gQ D cA ad NL (some (va_rf (ro ad 14 rr))) XX A) args s 0 0 A) (F0 m 15 ls [.ref (ad 14 s0)]) := by
  have hx := C.1
  have hb := C.2.1
  intro p0 s0 X H locs ls hP hS hl ha_l0 ha_l2 ha_s0 hf
  rw [X5_surveyed_J15] at hf
  refine lv_astore_n (i := 3) (lv' := [(3, .ref (ad 14 s0)), (0, .ref (ad 12 p0)), (2, .ref (ad 22 0))]) hx hb dX5_surveyed_15 rfl hl (Nat.le_of_ble_eq_true rfl) rfl (fun ls hl => ?_)
  refine lv_aload_n hx hb dX5_surveyed_16 rfl (lv_at hl 0 rfl) ?_
  refine r_get C hP ha_s0 (ct_14 _ _ _ _) fx_X5_42 (fg_14_2 _ _ _) dX5_surveyed_17 ?_
  refine lv_if_ne (tgt := 29) hx hb dX5_surveyed_20 (by decide) (fun c1 => ?_) (fun c1 => ?_)
  · have hf := g_in c1 hf
    exact s_X5_surveyed_J29 C hW hD0 s0 X _ _ _ hP hS (lv_sub hl [0] rfl) ha_s0 hf
  · have hf := g_ip c1 hf
    refine lv_aload_n hx hb dX5_surveyed_23 rfl (lv_at hl 0 rfl) ?_
    refine lv_aload_n hx hb dX5_surveyed_24 rfl (lv_at hl 1 rfl) ?_
    refine lv_aload_n hx hb dX5_surveyed_25 rfl (lv_at hl 2 rfl) ?_
    obtain ⟨r2, X3, h4, hf⟩ := b2_in hf
    refine r_cVv (rest := []) C hP hS hl.1 (s_X7_make hW hD0 ha_s0 ha_l0 ha_l2 h4) ix_X7_make iv_X7_make lk_X5_46 ⟨rfl, rfl, Nat.le_of_ble_eq_true rfl, Nat.le_of_ble_eq_true rfl⟩ ha_s0 (ct_14 _ _ _ _) rfl rfl rfl rfl (Nat.le_of_ble_eq_true rfl) ⟨Nat.zero_le _, Nat.zero_le _⟩ dX5_surveyed_26 (fun H locs hP hS => ?_)
    exact s_X5_surveyed_J29 C hW hD0 s0 X3 _ _ _ hP hS (lv_sub hl [0] rfl) ha_s0 hf

set_option maxRecDepth 100000 in
set_option maxHeartbeats 4000000 in
theorem w_X5_surveyed {p : Program} {l : Launch} {e : Env} {s : State} {m : MethodId} {args : Array Value} {below : List Frame} {meth : Method} {c : Code} {D : va_G} {cA : Nat → ClassId} {ad : Nat → Nat → Nat} {NL : List (Nat × Nat)} {A : Nat → Prop} {rr : Int32} {XX : gM} {N : Nat} (C : gCx p c meth m s args cX5_surveyed 4 (some (.object "Undertext$Survey")) RX5 D cA ad NL A) (hW : gWf NL) (hD0 : gD (fun _ => True) ad NL) {p0 : Nat} {p1 : Int32} (ha_l0 : (12, p0) ∈ NL) (ha_l2 : (22, 0) ∈ NL) : ∀ (X : gM) (H : Heap) (locs : List Loc) (ls : Array Slot), gH D cA ad NL X H → va_S A s.heap H locs → lv_has ls 4 [(0, .ref (ad 12 p0)), (1, .int p1), (2, .ref (ad 22 0))] → X5_surveyed (gal NL) N p0 p1 X = some (rr, XX) → W p l e rm_X5_surveyed s m args below meth c H locs 0 0 (MQ below (gQ D cA ad NL (some (va_rf (ro ad 14 rr))) XX A) args s 0 0 A) (F0 m 0 ls []) := by
  have hx := C.1
  have hb := C.2.1
  intro X H locs ls hP hS hl hf
  rw [X5_surveyed] at hf
  refine lv_iload_n hx hb dX5_surveyed_0 rfl (lv_at hl 1 rfl) ?_
  refine lv_if_eq (tgt := 11) hx hb dX5_surveyed_1 (by decide) (fun c1 => ?_) (fun c1 => ?_)
  · have hf := g_ip c1 hf
    refine lv_aload_n hx hb dX5_surveyed_11 rfl (lv_at hl 0 rfl) ?_
    refine r_get C hP ha_l0 (ct_12 _ _ _ _) fx_X5_29 (fg_12_3 _ _ _) dX5_surveyed_12 ?_
    exact s_X5_surveyed_J15 C hW hD0 p0 ((3 * p0)) X _ _ _ hP hS (lv_sub hl [0, 2] rfl) ha_l0 ha_l2 (gs_12_3 hW ha_l0) hf
  · have hf := g_in c1 hf
    refine lv_aload_n hx hb dX5_surveyed_4 rfl (lv_at hl 0 rfl) ?_
    refine r_get C hP ha_l0 (ct_12 _ _ _ _) fx_X5_33 (fg_12_4 _ _ _) dX5_surveyed_5 ?_
    refine lv_goto (tgt := 15) hx hb dX5_surveyed_8 (by decide) ?_
    exact s_X5_surveyed_J15 C hW hD0 p0 ((3 * p0 + 1)) X _ _ _ hP hS (lv_sub hl [0, 2] rfl) ha_l0 ha_l2 (gs_12_4 hW ha_l0) hf

theorem s_X5_surveyed {l : Launch} {D : va_G} {cA : Nat → ClassId} {ad : Nat → Nat → Nat} {NL : List (Nat × Nat)} {N : Nat} {p0 : Nat} {p1 : Int32} {X : gM} {rr : Int32} {XX : gM} (hW : gWf NL) (hD0 : gD (fun _ => True) ad NL) (ha_l0 : (12, p0) ∈ NL) (ha_l2 : (22, 0) ∈ NL) (hf : X5_surveyed (gal NL) N p0 p1 X = some (rr, XX)) : gC l yX5_surveyed cX5_surveyed 4 (some (.object "Undertext$Survey")) rm_X5_surveyed D cA ad NL [.ref (ad 12 p0), .int p1, .ref (ad 22 0)] X (some (va_rf (ro ad 14 rr))) XX :=
  g_ofW (by decide) hD0 (Nat.le_of_ble_eq_true rfl) rfl (fun p e s m below meth c ls C hP hS hl => w_X5_surveyed C hW hD0 ha_l0 ha_l2 X _ _ ls hP hS hl hf)
def rm_X5_surveyedSparing : Room := { frames := 14, cells := 0, slots := 0, locals := 400 }
set_option maxRecDepth 100000 in
set_option maxHeartbeats 4000000 in
theorem s_X5_surveyedSparing_J19 {p : Program} {l : Launch} {e : Env} {s : State} {m : MethodId} {args : Array Value} {below : List Frame} {meth : Method} {c : Code} {D : va_G} {cA : Nat → ClassId} {ad : Nat → Nat → Nat} {NL : List (Nat × Nat)} {A : Nat → Prop} {rr : Int32} {XX : gM} {N : Nat} (C : gCx p c meth m s args cX5_surveyedSparing 2 (some (.object "Undertext$Survey")) RX5 D cA ad NL A) (hW : gWf NL) (hD0 : gD (fun _ => True) ad NL) : ∀ (p0 : Nat) (X : gM) (H : Heap) (locs : List Loc) (ls : Array Slot), gH D cA ad NL X H → va_S A s.heap H locs → lv_has ls 2 [(0, .ref (ad 12 p0))] → (12, p0) ∈ NL → X5_surveyedSparing_J19 (gal NL) N p0 X = some (rr, XX) → W p l e rm_X5_surveyedSparing s m args below meth c H locs 0 0 (MQ below (gQ D cA ad NL (some (va_rf (ro ad 14 rr))) XX A) args s 0 0 A) (F0 m 19 ls []) := by
  have hx := C.1
  have hb := C.2.1
  intro p0 X H locs ls hP hS hl ha_l0 hf
  rw [X5_surveyedSparing_J19] at hf
  refine lv_aload_n hx hb dX5_surveyedSparing_19 rfl (lv_at hl 0 rfl) ?_
  refine r_get C hP ha_l0 (ct_12 _ _ _ _) fx_X5_36 (fg_12_5 _ _ _) dX5_surveyedSparing_20 ?_
  obtain ⟨w1, h2, hf⟩ := rn_in hf
  rw [show Value.ref (ad 14 (3 * p0 + 2)) = va_rf (ro ad 14 w1) from by rw [ro_ref h2.1, h2.2]]
  obtain ⟨rfl, rfl⟩ := g_s1 hf
  exact r_aret C hP hS dX5_surveyedSparing_23

set_option maxRecDepth 100000 in
set_option maxHeartbeats 4000000 in
theorem w_X5_surveyedSparing {p : Program} {l : Launch} {e : Env} {s : State} {m : MethodId} {args : Array Value} {below : List Frame} {meth : Method} {c : Code} {D : va_G} {cA : Nat → ClassId} {ad : Nat → Nat → Nat} {NL : List (Nat × Nat)} {A : Nat → Prop} {rr : Int32} {XX : gM} {N : Nat} (C : gCx p c meth m s args cX5_surveyedSparing 2 (some (.object "Undertext$Survey")) RX5 D cA ad NL A) (hW : gWf NL) (hD0 : gD (fun _ => True) ad NL) {p0 : Nat} (ha_l0 : (12, p0) ∈ NL) (ha_l1 : (22, 0) ∈ NL) : ∀ (X : gM) (H : Heap) (locs : List Loc) (ls : Array Slot), gH D cA ad NL X H → va_S A s.heap H locs → lv_has ls 2 [(0, .ref (ad 12 p0)), (1, .ref (ad 22 0))] → X5_surveyedSparing (gal NL) N p0 X = some (rr, XX) → W p l e rm_X5_surveyedSparing s m args below meth c H locs 0 0 (MQ below (gQ D cA ad NL (some (va_rf (ro ad 14 rr))) XX A) args s 0 0 A) (F0 m 0 ls []) := by
  have hx := C.1
  have hb := C.2.1
  intro X H locs ls hP hS hl hf
  rw [X5_surveyedSparing] at hf
  refine lv_aload_n hx hb dX5_surveyedSparing_0 rfl (lv_at hl 0 rfl) ?_
  refine r_get C hP ha_l0 (ct_12 _ _ _ _) fx_X5_36 (fg_12_5 _ _ _) dX5_surveyedSparing_1 ?_
  refine r_get C hP (gs_12_5 hW ha_l0) (ct_14 _ _ _ _) fx_X5_42 (fg_14_2 _ _ _) dX5_surveyedSparing_4 ?_
  refine lv_if_ne (tgt := 19) hx hb dX5_surveyedSparing_7 (by decide) (fun c1 => ?_) (fun c1 => ?_)
  · have hf := g_in c1 hf
    exact s_X5_surveyedSparing_J19 C hW hD0 p0 X _ _ _ hP hS (lv_sub hl [0] rfl) ha_l0 hf
  · have hf := g_ip c1 hf
    refine lv_aload_n hx hb dX5_surveyedSparing_10 rfl (lv_at hl 0 rfl) ?_
    refine r_get C hP ha_l0 (ct_12 _ _ _ _) fx_X5_36 (fg_12_5 _ _ _) dX5_surveyedSparing_11 ?_
    refine lv_aload_n hx hb dX5_surveyedSparing_14 rfl (lv_at hl 0 rfl) ?_
    refine lv_aload_n hx hb dX5_surveyedSparing_15 rfl (lv_at hl 1 rfl) ?_
    obtain ⟨r2, X3, h4, hf⟩ := b2_in hf
    refine r_cVv (rest := []) C hP hS hl.1 (s_X7_make hW hD0 (gs_12_5 hW ha_l0) ha_l0 ha_l1 h4) ix_X7_make iv_X7_make lk_X5_46 ⟨rfl, rfl, Nat.le_of_ble_eq_true rfl, Nat.le_of_ble_eq_true rfl⟩ (gs_12_5 hW ha_l0) (ct_14 _ _ _ _) rfl rfl rfl rfl (Nat.le_of_ble_eq_true rfl) ⟨Nat.zero_le _, Nat.zero_le _⟩ dX5_surveyedSparing_16 (fun H locs hP hS => ?_)
    exact s_X5_surveyedSparing_J19 C hW hD0 p0 X3 _ _ _ hP hS (lv_sub hl [0] rfl) ha_l0 hf

theorem s_X5_surveyedSparing {l : Launch} {D : va_G} {cA : Nat → ClassId} {ad : Nat → Nat → Nat} {NL : List (Nat × Nat)} {N : Nat} {p0 : Nat} {X : gM} {rr : Int32} {XX : gM} (hW : gWf NL) (hD0 : gD (fun _ => True) ad NL) (ha_l0 : (12, p0) ∈ NL) (ha_l1 : (22, 0) ∈ NL) (hf : X5_surveyedSparing (gal NL) N p0 X = some (rr, XX)) : gC l yX5_surveyedSparing cX5_surveyedSparing 2 (some (.object "Undertext$Survey")) rm_X5_surveyedSparing D cA ad NL [.ref (ad 12 p0), .ref (ad 22 0)] X (some (va_rf (ro ad 14 rr))) XX :=
  g_ofW (by decide) hD0 (Nat.le_of_ble_eq_true rfl) rfl (fun p e s m below meth c ls C hP hS hl => w_X5_surveyedSparing C hW hD0 ha_l0 ha_l1 X _ _ ls hP hS hl hf)
