def rm_X9_isWithin : Room := { frames := 0, cells := 0, slots := 0, locals := 0 }
set_option maxRecDepth 100000 in
set_option maxHeartbeats 4000000 in
theorem s_X9_isWithin_J15 {p : Program} {l : Launch} {e : Env} {s : State} {m : MethodId} {args : Array Value} {below : List Frame} {meth : Method} {c : Code} {D : va_G} {cA : Nat → ClassId} {ad : Nat → Nat → Nat} {NL : List (Nat × Nat)} {A : Nat → Prop} {rr : Int32} {XX : gM} {N : Nat} (C : gCx p c meth m s args cX9_isWithin 3 (some .boolean) RX9 D cA ad NL A) (hW : gWf NL) (hD0 : gD (fun _ => True) ad NL) : ∀ (s0 : Int32) (X : gM) (H : Heap) (locs : List Loc) (ls : Array Slot), gH D cA ad NL X H → va_S A s.heap H locs → lv_has ls 3 [] → X9_isWithin_J15 (gal NL) N s0 X = some (rr, XX) → W p l e rm_X9_isWithin s m args below meth c H locs 0 0 (MQ below (gQ D cA ad NL (some (.int rr)) XX A) args s 0 0 A) (F0 m 15 ls [.int s0]) := by
  have hx := C.1
  have hb := C.2.1
  intro s0 X H locs ls hP hS hl hf
  rw [X9_isWithin_J15] at hf
  obtain ⟨h1, hf⟩ := bz_in hf
  obtain ⟨rfl, rfl⟩ := g_s1 hf
  exact r_zret C hP hS h1 dX9_isWithin_15

set_option maxRecDepth 100000 in
set_option maxHeartbeats 4000000 in
theorem s_X9_isWithin_J14 {p : Program} {l : Launch} {e : Env} {s : State} {m : MethodId} {args : Array Value} {below : List Frame} {meth : Method} {c : Code} {D : va_G} {cA : Nat → ClassId} {ad : Nat → Nat → Nat} {NL : List (Nat × Nat)} {A : Nat → Prop} {rr : Int32} {XX : gM} {N : Nat} (C : gCx p c meth m s args cX9_isWithin 3 (some .boolean) RX9 D cA ad NL A) (hW : gWf NL) (hD0 : gD (fun _ => True) ad NL) : ∀ (X : gM) (H : Heap) (locs : List Loc) (ls : Array Slot), gH D cA ad NL X H → va_S A s.heap H locs → lv_has ls 3 [] → X9_isWithin_J14 (gal NL) N X = some (rr, XX) → W p l e rm_X9_isWithin s m args below meth c H locs 0 0 (MQ below (gQ D cA ad NL (some (.int rr)) XX A) args s 0 0 A) (F0 m 14 ls []) := by
  have hx := C.1
  have hb := C.2.1
  intro X H locs ls hP hS hl hf
  rw [X9_isWithin_J14] at hf
  refine lv_iconst (v := 0) hx hb dX9_isWithin_14 (by decide) ?_
  exact s_X9_isWithin_J15 C hW hD0 (0 : Int32) X _ _ _ hP hS (lv_sub hl [] rfl) hf

set_option maxRecDepth 100000 in
set_option maxHeartbeats 4000000 in
theorem w_X9_isWithin {p : Program} {l : Launch} {e : Env} {s : State} {m : MethodId} {args : Array Value} {below : List Frame} {meth : Method} {c : Code} {D : va_G} {cA : Nat → ClassId} {ad : Nat → Nat → Nat} {NL : List (Nat × Nat)} {A : Nat → Prop} {rr : Int32} {XX : gM} {N : Nat} (C : gCx p c meth m s args cX9_isWithin 3 (some .boolean) RX9 D cA ad NL A) (hW : gWf NL) (hD0 : gD (fun _ => True) ad NL) {p0 : Int32} {p1 : Int32} {p2 : Int32} : ∀ (X : gM) (H : Heap) (locs : List Loc) (ls : Array Slot), gH D cA ad NL X H → va_S A s.heap H locs → lv_has ls 3 [(0, .int p0), (1, .int p1), (2, .int p2)] → X9_isWithin (gal NL) N p0 p1 p2 X = some (rr, XX) → W p l e rm_X9_isWithin s m args below meth c H locs 0 0 (MQ below (gQ D cA ad NL (some (.int rr)) XX A) args s 0 0 A) (F0 m 0 ls []) := by
  have hx := C.1
  have hb := C.2.1
  intro X H locs ls hP hS hl hf
  rw [X9_isWithin] at hf
  refine lv_iload_n hx hb dX9_isWithin_0 rfl (lv_at hl 0 rfl) ?_
  refine lv_iload_n hx hb dX9_isWithin_1 rfl (lv_at hl 1 rfl) ?_
  refine lv_icmp_lt (tgt := 14) hx hb dX9_isWithin_2 (by decide) (fun c1 => ?_) (fun c1 => ?_)
  · have hf := g_ip c1 hf
    exact s_X9_isWithin_J14 C hW hD0 X _ _ _ hP hS (lv_sub hl [] rfl) hf
  · have hf := g_in c1 hf
    refine lv_iload_n hx hb dX9_isWithin_5 rfl (lv_at hl 0 rfl) ?_
    refine lv_iload_n hx hb dX9_isWithin_6 rfl (lv_at hl 2 rfl) ?_
    refine lv_icmp_gt (tgt := 14) hx hb dX9_isWithin_7 (by decide) (fun c2 => ?_) (fun c2 => ?_)
    · have hf := g_ip c2 hf
      exact s_X9_isWithin_J14 C hW hD0 X _ _ _ hP hS (lv_sub hl [] rfl) hf
    · have hf := g_in c2 hf
      refine lv_iconst (v := 1) hx hb dX9_isWithin_10 (by decide) ?_
      refine lv_goto (tgt := 15) hx hb dX9_isWithin_11 (by decide) ?_
      exact s_X9_isWithin_J15 C hW hD0 (1 : Int32) X _ _ _ hP hS (lv_sub hl [] rfl) hf

theorem s_X9_isWithin {l : Launch} {D : va_G} {cA : Nat → ClassId} {ad : Nat → Nat → Nat} {NL : List (Nat × Nat)} {N : Nat} {p0 : Int32} {p1 : Int32} {p2 : Int32} {X : gM} {rr : Int32} {XX : gM} (hW : gWf NL) (hD0 : gD (fun _ => True) ad NL) (hf : X9_isWithin (gal NL) N p0 p1 p2 X = some (rr, XX)) : gC l yX9_isWithin cX9_isWithin 3 (some .boolean) rm_X9_isWithin D cA ad NL [.int p0, .int p1, .int p2] X (some (.int rr)) XX :=
  g_ofW (by decide) hD0 (Nat.le_of_ble_eq_true rfl) rfl (fun p e s m below meth c ls C hP hS hl => w_X9_isWithin C hW hD0  X _ _ ls hP hS hl hf)
def rm_X9_isLetter : Room := { frames := 0, cells := 0, slots := 0, locals := 0 }
set_option maxRecDepth 100000 in
set_option maxHeartbeats 4000000 in
theorem s_X9_isLetter_J15 {p : Program} {l : Launch} {e : Env} {s : State} {m : MethodId} {args : Array Value} {below : List Frame} {meth : Method} {c : Code} {D : va_G} {cA : Nat → ClassId} {ad : Nat → Nat → Nat} {NL : List (Nat × Nat)} {A : Nat → Prop} {rr : Int32} {XX : gM} {N : Nat} (C : gCx p c meth m s args cX9_isLetter 1 (some .boolean) RX9 D cA ad NL A) (hW : gWf NL) (hD0 : gD (fun _ => True) ad NL) : ∀ (s0 : Int32) (X : gM) (H : Heap) (locs : List Loc) (ls : Array Slot), gH D cA ad NL X H → va_S A s.heap H locs → lv_has ls 1 [] → X9_isLetter_J15 (gal NL) N s0 X = some (rr, XX) → W p l e rm_X9_isLetter s m args below meth c H locs 0 0 (MQ below (gQ D cA ad NL (some (.int rr)) XX A) args s 0 0 A) (F0 m 15 ls [.int s0]) := by
  have hx := C.1
  have hb := C.2.1
  intro s0 X H locs ls hP hS hl hf
  rw [X9_isLetter_J15] at hf
  obtain ⟨h1, hf⟩ := bz_in hf
  obtain ⟨rfl, rfl⟩ := g_s1 hf
  exact r_zret C hP hS h1 dX9_isLetter_15

set_option maxRecDepth 100000 in
set_option maxHeartbeats 4000000 in
theorem s_X9_isLetter_J14 {p : Program} {l : Launch} {e : Env} {s : State} {m : MethodId} {args : Array Value} {below : List Frame} {meth : Method} {c : Code} {D : va_G} {cA : Nat → ClassId} {ad : Nat → Nat → Nat} {NL : List (Nat × Nat)} {A : Nat → Prop} {rr : Int32} {XX : gM} {N : Nat} (C : gCx p c meth m s args cX9_isLetter 1 (some .boolean) RX9 D cA ad NL A) (hW : gWf NL) (hD0 : gD (fun _ => True) ad NL) : ∀ (X : gM) (H : Heap) (locs : List Loc) (ls : Array Slot), gH D cA ad NL X H → va_S A s.heap H locs → lv_has ls 1 [] → X9_isLetter_J14 (gal NL) N X = some (rr, XX) → W p l e rm_X9_isLetter s m args below meth c H locs 0 0 (MQ below (gQ D cA ad NL (some (.int rr)) XX A) args s 0 0 A) (F0 m 14 ls []) := by
  have hx := C.1
  have hb := C.2.1
  intro X H locs ls hP hS hl hf
  rw [X9_isLetter_J14] at hf
  refine lv_iconst (v := 0) hx hb dX9_isLetter_14 (by decide) ?_
  exact s_X9_isLetter_J15 C hW hD0 (0 : Int32) X _ _ _ hP hS (lv_sub hl [] rfl) hf

set_option maxRecDepth 100000 in
set_option maxHeartbeats 4000000 in
theorem w_X9_isLetter {p : Program} {l : Launch} {e : Env} {s : State} {m : MethodId} {args : Array Value} {below : List Frame} {meth : Method} {c : Code} {D : va_G} {cA : Nat → ClassId} {ad : Nat → Nat → Nat} {NL : List (Nat × Nat)} {A : Nat → Prop} {rr : Int32} {XX : gM} {N : Nat} (C : gCx p c meth m s args cX9_isLetter 1 (some .boolean) RX9 D cA ad NL A) (hW : gWf NL) (hD0 : gD (fun _ => True) ad NL) {p0 : Int32} : ∀ (X : gM) (H : Heap) (locs : List Loc) (ls : Array Slot), gH D cA ad NL X H → va_S A s.heap H locs → lv_has ls 1 [(0, .int p0)] → X9_isLetter (gal NL) N p0 X = some (rr, XX) → W p l e rm_X9_isLetter s m args below meth c H locs 0 0 (MQ below (gQ D cA ad NL (some (.int rr)) XX A) args s 0 0 A) (F0 m 0 ls []) := by
  have hx := C.1
  have hb := C.2.1
  intro X H locs ls hP hS hl hf
  rw [X9_isLetter] at hf
  refine lv_iload_n hx hb dX9_isLetter_0 rfl (lv_at hl 0 rfl) ?_
  refine lv_if_lt (tgt := 14) hx hb dX9_isLetter_1 (by decide) (fun c1 => ?_) (fun c1 => ?_)
  · have hf := g_ip c1 hf
    exact s_X9_isLetter_J14 C hW hD0 X _ _ _ hP hS (lv_sub hl [] rfl) hf
  · have hf := g_in c1 hf
    refine lv_iload_n hx hb dX9_isLetter_4 rfl (lv_at hl 0 rfl) ?_
    refine lv_bipush (v := 26) hx hb dX9_isLetter_5 (by decide) ?_
    refine lv_icmp_ge (tgt := 14) hx hb dX9_isLetter_7 (by decide) (fun c2 => ?_) (fun c2 => ?_)
    · have hf := g_ip c2 hf
      exact s_X9_isLetter_J14 C hW hD0 X _ _ _ hP hS (lv_sub hl [] rfl) hf
    · have hf := g_in c2 hf
      refine lv_iconst (v := 1) hx hb dX9_isLetter_10 (by decide) ?_
      refine lv_goto (tgt := 15) hx hb dX9_isLetter_11 (by decide) ?_
      exact s_X9_isLetter_J15 C hW hD0 (1 : Int32) X _ _ _ hP hS (lv_sub hl [] rfl) hf

theorem s_X9_isLetter {l : Launch} {D : va_G} {cA : Nat → ClassId} {ad : Nat → Nat → Nat} {NL : List (Nat × Nat)} {N : Nat} {p0 : Int32} {X : gM} {rr : Int32} {XX : gM} (hW : gWf NL) (hD0 : gD (fun _ => True) ad NL) (hf : X9_isLetter (gal NL) N p0 X = some (rr, XX)) : gC l yX9_isLetter cX9_isLetter 1 (some .boolean) rm_X9_isLetter D cA ad NL [.int p0] X (some (.int rr)) XX :=
  g_ofW (by decide) hD0 (Nat.le_of_ble_eq_true rfl) rfl (fun p e s m below meth c ls C hP hS hl => w_X9_isLetter C hW hD0  X _ _ ls hP hS hl hf)
def rm_X9_isLayer : Room := { frames := 0, cells := 0, slots := 0, locals := 0 }
set_option maxRecDepth 100000 in
set_option maxHeartbeats 4000000 in
theorem s_X9_isLayer_J15 {p : Program} {l : Launch} {e : Env} {s : State} {m : MethodId} {args : Array Value} {below : List Frame} {meth : Method} {c : Code} {D : va_G} {cA : Nat → ClassId} {ad : Nat → Nat → Nat} {NL : List (Nat × Nat)} {A : Nat → Prop} {rr : Int32} {XX : gM} {N : Nat} (C : gCx p c meth m s args cX9_isLayer 1 (some .boolean) RX9 D cA ad NL A) (hW : gWf NL) (hD0 : gD (fun _ => True) ad NL) : ∀ (s0 : Int32) (X : gM) (H : Heap) (locs : List Loc) (ls : Array Slot), gH D cA ad NL X H → va_S A s.heap H locs → lv_has ls 1 [] → X9_isLayer_J15 (gal NL) N s0 X = some (rr, XX) → W p l e rm_X9_isLayer s m args below meth c H locs 0 0 (MQ below (gQ D cA ad NL (some (.int rr)) XX A) args s 0 0 A) (F0 m 15 ls [.int s0]) := by
  have hx := C.1
  have hb := C.2.1
  intro s0 X H locs ls hP hS hl hf
  rw [X9_isLayer_J15] at hf
  obtain ⟨h1, hf⟩ := bz_in hf
  obtain ⟨rfl, rfl⟩ := g_s1 hf
  exact r_zret C hP hS h1 dX9_isLayer_15

set_option maxRecDepth 100000 in
set_option maxHeartbeats 4000000 in
theorem s_X9_isLayer_J14 {p : Program} {l : Launch} {e : Env} {s : State} {m : MethodId} {args : Array Value} {below : List Frame} {meth : Method} {c : Code} {D : va_G} {cA : Nat → ClassId} {ad : Nat → Nat → Nat} {NL : List (Nat × Nat)} {A : Nat → Prop} {rr : Int32} {XX : gM} {N : Nat} (C : gCx p c meth m s args cX9_isLayer 1 (some .boolean) RX9 D cA ad NL A) (hW : gWf NL) (hD0 : gD (fun _ => True) ad NL) : ∀ (X : gM) (H : Heap) (locs : List Loc) (ls : Array Slot), gH D cA ad NL X H → va_S A s.heap H locs → lv_has ls 1 [] → X9_isLayer_J14 (gal NL) N X = some (rr, XX) → W p l e rm_X9_isLayer s m args below meth c H locs 0 0 (MQ below (gQ D cA ad NL (some (.int rr)) XX A) args s 0 0 A) (F0 m 14 ls []) := by
  have hx := C.1
  have hb := C.2.1
  intro X H locs ls hP hS hl hf
  rw [X9_isLayer_J14] at hf
  refine lv_iconst (v := 0) hx hb dX9_isLayer_14 (by decide) ?_
  exact s_X9_isLayer_J15 C hW hD0 (0 : Int32) X _ _ _ hP hS (lv_sub hl [] rfl) hf

set_option maxRecDepth 100000 in
set_option maxHeartbeats 4000000 in
theorem w_X9_isLayer {p : Program} {l : Launch} {e : Env} {s : State} {m : MethodId} {args : Array Value} {below : List Frame} {meth : Method} {c : Code} {D : va_G} {cA : Nat → ClassId} {ad : Nat → Nat → Nat} {NL : List (Nat × Nat)} {A : Nat → Prop} {rr : Int32} {XX : gM} {N : Nat} (C : gCx p c meth m s args cX9_isLayer 1 (some .boolean) RX9 D cA ad NL A) (hW : gWf NL) (hD0 : gD (fun _ => True) ad NL) {p0 : Int32} : ∀ (X : gM) (H : Heap) (locs : List Loc) (ls : Array Slot), gH D cA ad NL X H → va_S A s.heap H locs → lv_has ls 1 [(0, .int p0)] → X9_isLayer (gal NL) N p0 X = some (rr, XX) → W p l e rm_X9_isLayer s m args below meth c H locs 0 0 (MQ below (gQ D cA ad NL (some (.int rr)) XX A) args s 0 0 A) (F0 m 0 ls []) := by
  have hx := C.1
  have hb := C.2.1
  intro X H locs ls hP hS hl hf
  rw [X9_isLayer] at hf
  refine lv_iload_n hx hb dX9_isLayer_0 rfl (lv_at hl 0 rfl) ?_
  refine lv_if_lt (tgt := 14) hx hb dX9_isLayer_1 (by decide) (fun c1 => ?_) (fun c1 => ?_)
  · have hf := g_ip c1 hf
    exact s_X9_isLayer_J14 C hW hD0 X _ _ _ hP hS (lv_sub hl [] rfl) hf
  · have hf := g_in c1 hf
    refine lv_iload_n hx hb dX9_isLayer_4 rfl (lv_at hl 0 rfl) ?_
    refine lv_bipush (v := 7) hx hb dX9_isLayer_5 (by decide) ?_
    refine lv_icmp_gt (tgt := 14) hx hb dX9_isLayer_7 (by decide) (fun c2 => ?_) (fun c2 => ?_)
    · have hf := g_ip c2 hf
      exact s_X9_isLayer_J14 C hW hD0 X _ _ _ hP hS (lv_sub hl [] rfl) hf
    · have hf := g_in c2 hf
      refine lv_iconst (v := 1) hx hb dX9_isLayer_10 (by decide) ?_
      refine lv_goto (tgt := 15) hx hb dX9_isLayer_11 (by decide) ?_
      exact s_X9_isLayer_J15 C hW hD0 (1 : Int32) X _ _ _ hP hS (lv_sub hl [] rfl) hf

theorem s_X9_isLayer {l : Launch} {D : va_G} {cA : Nat → ClassId} {ad : Nat → Nat → Nat} {NL : List (Nat × Nat)} {N : Nat} {p0 : Int32} {X : gM} {rr : Int32} {XX : gM} (hW : gWf NL) (hD0 : gD (fun _ => True) ad NL) (hf : X9_isLayer (gal NL) N p0 X = some (rr, XX)) : gC l yX9_isLayer cX9_isLayer 1 (some .boolean) rm_X9_isLayer D cA ad NL [.int p0] X (some (.int rr)) XX :=
  g_ofW (by decide) hD0 (Nat.le_of_ble_eq_true rfl) rfl (fun p e s m below meth c ls C hP hS hl => w_X9_isLayer C hW hD0  X _ _ ls hP hS hl hf)
def rm_X9_quireOf : Room := { frames := 0, cells := 0, slots := 0, locals := 0 }
set_option maxRecDepth 100000 in
set_option maxHeartbeats 4000000 in
theorem s_X9_quireOf_J28 {p : Program} {l : Launch} {e : Env} {s : State} {m : MethodId} {args : Array Value} {below : List Frame} {meth : Method} {c : Code} {D : va_G} {cA : Nat → ClassId} {ad : Nat → Nat → Nat} {NL : List (Nat × Nat)} {A : Nat → Prop} {rr : Int32} {XX : gM} {N : Nat} (C : gCx p c meth m s args cX9_quireOf 2 (some (.object "Undertext$Quire")) RX9 D cA ad NL A) (hW : gWf NL) (hD0 : gD (fun _ => True) ad NL) : ∀ (s0 : Int32) (X : gM) (H : Heap) (locs : List Loc) (ls : Array Slot), gH D cA ad NL X H → va_S A s.heap H locs → lv_has ls 2 [] → X9_quireOf_J28 (gal NL) N s0 X = some (rr, XX) → W p l e rm_X9_quireOf s m args below meth c H locs 0 0 (MQ below (gQ D cA ad NL (some (va_rf (ro ad 12 rr))) XX A) args s 0 0 A) (F0 m 28 ls [va_rf (ro ad 12 s0)]) := by
  have hx := C.1
  have hb := C.2.1
  intro s0 X H locs ls hP hS hl hf
  rw [X9_quireOf_J28] at hf
  obtain ⟨rfl, rfl⟩ := g_s1 hf
  exact r_aret C hP hS dX9_quireOf_28

set_option maxRecDepth 100000 in
set_option maxHeartbeats 4000000 in
theorem s_X9_quireOf_J27 {p : Program} {l : Launch} {e : Env} {s : State} {m : MethodId} {args : Array Value} {below : List Frame} {meth : Method} {c : Code} {D : va_G} {cA : Nat → ClassId} {ad : Nat → Nat → Nat} {NL : List (Nat × Nat)} {A : Nat → Prop} {rr : Int32} {XX : gM} {N : Nat} (C : gCx p c meth m s args cX9_quireOf 2 (some (.object "Undertext$Quire")) RX9 D cA ad NL A) (hW : gWf NL) (hD0 : gD (fun _ => True) ad NL) : ∀ (X : gM) (H : Heap) (locs : List Loc) (ls : Array Slot), gH D cA ad NL X H → va_S A s.heap H locs → lv_has ls 2 [] → X9_quireOf_J27 (gal NL) N X = some (rr, XX) → W p l e rm_X9_quireOf s m args below meth c H locs 0 0 (MQ below (gQ D cA ad NL (some (va_rf (ro ad 12 rr))) XX A) args s 0 0 A) (F0 m 27 ls []) := by
  have hx := C.1
  have hb := C.2.1
  intro X H locs ls hP hS hl hf
  rw [X9_quireOf_J27] at hf
  refine lv_null hx hb dX9_quireOf_27 ?_
  exact s_X9_quireOf_J28 C hW hD0 (-1 : Int32) X _ _ _ hP hS (lv_sub hl [] rfl) hf

set_option maxRecDepth 100000 in
set_option maxHeartbeats 4000000 in
theorem w_X9_quireOf {p : Program} {l : Launch} {e : Env} {s : State} {m : MethodId} {args : Array Value} {below : List Frame} {meth : Method} {c : Code} {D : va_G} {cA : Nat → ClassId} {ad : Nat → Nat → Nat} {NL : List (Nat × Nat)} {A : Nat → Prop} {rr : Int32} {XX : gM} {N : Nat} (C : gCx p c meth m s args cX9_quireOf 2 (some (.object "Undertext$Quire")) RX9 D cA ad NL A) (hW : gWf NL) (hD0 : gD (fun _ => True) ad NL) {p1 : Int32} (ha_l0 : (0, 0) ∈ NL) : ∀ (X : gM) (H : Heap) (locs : List Loc) (ls : Array Slot), gH D cA ad NL X H → va_S A s.heap H locs → lv_has ls 2 [(0, .ref (ad 0 0)), (1, .int p1)] → X9_quireOf (gal NL) N p1 X = some (rr, XX) → W p l e rm_X9_quireOf s m args below meth c H locs 0 0 (MQ below (gQ D cA ad NL (some (va_rf (ro ad 12 rr))) XX A) args s 0 0 A) (F0 m 0 ls []) := by
  have hx := C.1
  have hb := C.2.1
  intro X H locs ls hP hS hl hf
  rw [X9_quireOf] at hf
  refine lv_iload_n hx hb dX9_quireOf_0 rfl (lv_at hl 1 rfl) ?_
  refine lv_if_lt (tgt := 27) hx hb dX9_quireOf_1 (by decide) (fun c1 => ?_) (fun c1 => ?_)
  · have hf := g_ip c1 hf
    exact s_X9_quireOf_J27 C hW hD0 X _ _ _ hP hS (lv_sub hl [] rfl) hf
  · have hf := g_in c1 hf
    refine lv_iload_n hx hb dX9_quireOf_4 rfl (lv_at hl 1 rfl) ?_
    refine lv_iconst (v := 2) hx hb dX9_quireOf_5 (by decide) ?_
    refine lv_icmp_ge (tgt := 27) hx hb dX9_quireOf_6 (by decide) (fun c2 => ?_) (fun c2 => ?_)
    · have hf := g_ip c2 hf
      exact s_X9_quireOf_J27 C hW hD0 X _ _ _ hP hS (lv_sub hl [] rfl) hf
    · have hf := g_in c2 hf
      refine lv_iload_n hx hb dX9_quireOf_9 rfl (lv_at hl 1 rfl) ?_
      refine lv_aload_n hx hb dX9_quireOf_10 rfl (lv_at hl 0 rfl) ?_
      refine r_get C hP ha_l0 (ct_0 _ _ _ _) fx_X9_29 (fg_0_3 _ _ _) dX9_quireOf_11 ?_
      refine r_alen C hP 2 (gs_0_3 hW ha_l0) (ct_11 _ _ _ _) rfl rfl dX9_quireOf_14 ?_
      refine lv_icmp_ge (tgt := 27) hx hb dX9_quireOf_15 (by decide) (fun c3 => ?_) (fun c3 => ?_)
      · have hf := g_ip c3 hf
        exact s_X9_quireOf_J27 C hW hD0 X _ _ _ hP hS (lv_sub hl [] rfl) hf
      · have hf := g_in c3 hf
        refine lv_aload_n hx hb dX9_quireOf_18 rfl (lv_at hl 0 rfl) ?_
        refine r_get C hP ha_l0 (ct_0 _ _ _ _) fx_X9_29 (fg_0_3 _ _ _) dX9_quireOf_19 ?_
        refine lv_iload_n hx hb dX9_quireOf_22 rfl (lv_at hl 1 rfl) ?_
        obtain ⟨j4, h5, hf⟩ := rd_in hf
        refine r_aldq C hP (gs_0_3 hW ha_l0) (ct_11 _ _ _ _) rfl h5 dX9_quireOf_23 ?_
        refine lv_goto (tgt := 28) hx hb dX9_quireOf_24 (by decide) ?_
        exact s_X9_quireOf_J28 C hW hD0 ((X 11 0 j4)) X _ _ _ hP hS (lv_sub hl [] rfl) hf

theorem s_X9_quireOf {l : Launch} {D : va_G} {cA : Nat → ClassId} {ad : Nat → Nat → Nat} {NL : List (Nat × Nat)} {N : Nat} {p1 : Int32} {X : gM} {rr : Int32} {XX : gM} (hW : gWf NL) (hD0 : gD (fun _ => True) ad NL) (ha_l0 : (0, 0) ∈ NL) (hf : X9_quireOf (gal NL) N p1 X = some (rr, XX)) : gC l yX9_quireOf cX9_quireOf 2 (some (.object "Undertext$Quire")) rm_X9_quireOf D cA ad NL [.ref (ad 0 0), .int p1] X (some (va_rf (ro ad 12 rr))) XX :=
  g_ofW (by decide) hD0 (Nat.le_of_ble_eq_true rfl) rfl (fun p e s m below meth c ls C hP hS hl => w_X9_quireOf C hW hD0 ha_l0 X _ _ ls hP hS hl hf)
def rm_X9_leafOf : Room := { frames := 0, cells := 0, slots := 0, locals := 0 }
set_option maxRecDepth 100000 in
set_option maxHeartbeats 4000000 in
theorem s_X9_leafOf_J23 {p : Program} {l : Launch} {e : Env} {s : State} {m : MethodId} {args : Array Value} {below : List Frame} {meth : Method} {c : Code} {D : va_G} {cA : Nat → ClassId} {ad : Nat → Nat → Nat} {NL : List (Nat × Nat)} {A : Nat → Prop} {rr : Int32} {XX : gM} {N : Nat} (C : gCx p c meth m s args cX9_leafOf 2 (some (.object "Undertext$Leaf")) RX9 D cA ad NL A) (hW : gWf NL) (hD0 : gD (fun _ => True) ad NL) : ∀ (s0 : Int32) (X : gM) (H : Heap) (locs : List Loc) (ls : Array Slot), gH D cA ad NL X H → va_S A s.heap H locs → lv_has ls 2 [] → X9_leafOf_J23 (gal NL) N s0 X = some (rr, XX) → W p l e rm_X9_leafOf s m args below meth c H locs 0 0 (MQ below (gQ D cA ad NL (some (va_rf (ro ad 5 rr))) XX A) args s 0 0 A) (F0 m 23 ls [va_rf (ro ad 5 s0)]) := by
  have hx := C.1
  have hb := C.2.1
  intro s0 X H locs ls hP hS hl hf
  rw [X9_leafOf_J23] at hf
  obtain ⟨rfl, rfl⟩ := g_s1 hf
  exact r_aret C hP hS dX9_leafOf_23

set_option maxRecDepth 100000 in
set_option maxHeartbeats 4000000 in
theorem s_X9_leafOf_J22 {p : Program} {l : Launch} {e : Env} {s : State} {m : MethodId} {args : Array Value} {below : List Frame} {meth : Method} {c : Code} {D : va_G} {cA : Nat → ClassId} {ad : Nat → Nat → Nat} {NL : List (Nat × Nat)} {A : Nat → Prop} {rr : Int32} {XX : gM} {N : Nat} (C : gCx p c meth m s args cX9_leafOf 2 (some (.object "Undertext$Leaf")) RX9 D cA ad NL A) (hW : gWf NL) (hD0 : gD (fun _ => True) ad NL) : ∀ (X : gM) (H : Heap) (locs : List Loc) (ls : Array Slot), gH D cA ad NL X H → va_S A s.heap H locs → lv_has ls 2 [] → X9_leafOf_J22 (gal NL) N X = some (rr, XX) → W p l e rm_X9_leafOf s m args below meth c H locs 0 0 (MQ below (gQ D cA ad NL (some (va_rf (ro ad 5 rr))) XX A) args s 0 0 A) (F0 m 22 ls []) := by
  have hx := C.1
  have hb := C.2.1
  intro X H locs ls hP hS hl hf
  rw [X9_leafOf_J22] at hf
  refine lv_null hx hb dX9_leafOf_22 ?_
  exact s_X9_leafOf_J23 C hW hD0 (-1 : Int32) X _ _ _ hP hS (lv_sub hl [] rfl) hf

set_option maxRecDepth 100000 in
set_option maxHeartbeats 4000000 in
theorem w_X9_leafOf {p : Program} {l : Launch} {e : Env} {s : State} {m : MethodId} {args : Array Value} {below : List Frame} {meth : Method} {c : Code} {D : va_G} {cA : Nat → ClassId} {ad : Nat → Nat → Nat} {NL : List (Nat × Nat)} {A : Nat → Prop} {rr : Int32} {XX : gM} {N : Nat} (C : gCx p c meth m s args cX9_leafOf 2 (some (.object "Undertext$Leaf")) RX9 D cA ad NL A) (hW : gWf NL) (hD0 : gD (fun _ => True) ad NL) {p1 : Int32} (ha_l0 : (0, 0) ∈ NL) : ∀ (X : gM) (H : Heap) (locs : List Loc) (ls : Array Slot), gH D cA ad NL X H → va_S A s.heap H locs → lv_has ls 2 [(0, .ref (ad 0 0)), (1, .int p1)] → X9_leafOf (gal NL) N p1 X = some (rr, XX) → W p l e rm_X9_leafOf s m args below meth c H locs 0 0 (MQ below (gQ D cA ad NL (some (va_rf (ro ad 5 rr))) XX A) args s 0 0 A) (F0 m 0 ls []) := by
  have hx := C.1
  have hb := C.2.1
  intro X H locs ls hP hS hl hf
  rw [X9_leafOf] at hf
  refine lv_iload_n hx hb dX9_leafOf_0 rfl (lv_at hl 1 rfl) ?_
  refine lv_if_lt (tgt := 22) hx hb dX9_leafOf_1 (by decide) (fun c1 => ?_) (fun c1 => ?_)
  · have hf := g_ip c1 hf
    exact s_X9_leafOf_J22 C hW hD0 X _ _ _ hP hS (lv_sub hl [] rfl) hf
  · have hf := g_in c1 hf
    refine lv_iload_n hx hb dX9_leafOf_4 rfl (lv_at hl 1 rfl) ?_
    refine lv_aload_n hx hb dX9_leafOf_5 rfl (lv_at hl 0 rfl) ?_
    refine r_get C hP ha_l0 (ct_0 _ _ _ _) fx_X9_18 (fg_0_1 _ _ _) dX9_leafOf_6 ?_
    refine r_alen C hP 10 (gs_0_1 hW ha_l0) (ct_4 _ _ _ _) rfl rfl dX9_leafOf_9 ?_
    refine lv_icmp_ge (tgt := 22) hx hb dX9_leafOf_10 (by decide) (fun c2 => ?_) (fun c2 => ?_)
    · have hf := g_ip c2 hf
      exact s_X9_leafOf_J22 C hW hD0 X _ _ _ hP hS (lv_sub hl [] rfl) hf
    · have hf := g_in c2 hf
      refine lv_aload_n hx hb dX9_leafOf_13 rfl (lv_at hl 0 rfl) ?_
      refine r_get C hP ha_l0 (ct_0 _ _ _ _) fx_X9_18 (fg_0_1 _ _ _) dX9_leafOf_14 ?_
      refine lv_iload_n hx hb dX9_leafOf_17 rfl (lv_at hl 1 rfl) ?_
      obtain ⟨j3, h4, hf⟩ := rd_in hf
      refine r_aldq C hP (gs_0_1 hW ha_l0) (ct_4 _ _ _ _) rfl h4 dX9_leafOf_18 ?_
      refine lv_goto (tgt := 23) hx hb dX9_leafOf_19 (by decide) ?_
      exact s_X9_leafOf_J23 C hW hD0 ((X 4 0 j3)) X _ _ _ hP hS (lv_sub hl [] rfl) hf

theorem s_X9_leafOf {l : Launch} {D : va_G} {cA : Nat → ClassId} {ad : Nat → Nat → Nat} {NL : List (Nat × Nat)} {N : Nat} {p1 : Int32} {X : gM} {rr : Int32} {XX : gM} (hW : gWf NL) (hD0 : gD (fun _ => True) ad NL) (ha_l0 : (0, 0) ∈ NL) (hf : X9_leafOf (gal NL) N p1 X = some (rr, XX)) : gC l yX9_leafOf cX9_leafOf 2 (some (.object "Undertext$Leaf")) rm_X9_leafOf D cA ad NL [.ref (ad 0 0), .int p1] X (some (va_rf (ro ad 5 rr))) XX :=
  g_ofW (by decide) hD0 (Nat.le_of_ble_eq_true rfl) rfl (fun p e s m below meth c ls C hP hS hl => w_X9_leafOf C hW hD0 ha_l0 X _ _ ls hP hS hl hf)
def rm_X9_cellOf : Room := { frames := 2, cells := 0, slots := 0, locals := 43 }
set_option maxRecDepth 100000 in
set_option maxHeartbeats 4000000 in
theorem s_X9_cellOf_J23 {p : Program} {l : Launch} {e : Env} {s : State} {m : MethodId} {args : Array Value} {below : List Frame} {meth : Method} {c : Code} {D : va_G} {cA : Nat → ClassId} {ad : Nat → Nat → Nat} {NL : List (Nat × Nat)} {A : Nat → Prop} {rr : Int32} {XX : gM} {N : Nat} (C : gCx p c meth m s args cX9_cellOf 5 (some (.object "Undertext$Cell")) RX9 D cA ad NL A) (hW : gWf NL) (hD0 : gD (fun _ => True) ad NL) : ∀ (s0 : Int32) (X : gM) (H : Heap) (locs : List Loc) (ls : Array Slot), gH D cA ad NL X H → va_S A s.heap H locs → lv_has ls 5 [] → X9_cellOf_J23 (gal NL) N s0 X = some (rr, XX) → W p l e rm_X9_cellOf s m args below meth c H locs 0 0 (MQ below (gQ D cA ad NL (some (va_rf (ro ad 7 rr))) XX A) args s 0 0 A) (F0 m 23 ls [va_rf (ro ad 7 s0)]) := by
  have hx := C.1
  have hb := C.2.1
  intro s0 X H locs ls hP hS hl hf
  rw [X9_cellOf_J23] at hf
  obtain ⟨rfl, rfl⟩ := g_s1 hf
  exact r_aret C hP hS dX9_cellOf_23

set_option maxRecDepth 100000 in
set_option maxHeartbeats 4000000 in
theorem w_X9_cellOf {p : Program} {l : Launch} {e : Env} {s : State} {m : MethodId} {args : Array Value} {below : List Frame} {meth : Method} {c : Code} {D : va_G} {cA : Nat → ClassId} {ad : Nat → Nat → Nat} {NL : List (Nat × Nat)} {A : Nat → Prop} {rr : Int32} {XX : gM} {N : Nat} (C : gCx p c meth m s args cX9_cellOf 5 (some (.object "Undertext$Cell")) RX9 D cA ad NL A) (hW : gWf NL) (hD0 : gD (fun _ => True) ad NL) {p1 : Int32} {p2 : Int32} {p3 : Int32} (ha_l0 : (0, 0) ∈ NL) : ∀ (X : gM) (H : Heap) (locs : List Loc) (ls : Array Slot), gH D cA ad NL X H → va_S A s.heap H locs → lv_has ls 5 [(0, .ref (ad 0 0)), (1, .int p1), (2, .int p2), (3, .int p3)] → X9_cellOf (gal NL) N p1 p2 p3 X = some (rr, XX) → W p l e rm_X9_cellOf s m args below meth c H locs 0 0 (MQ below (gQ D cA ad NL (some (va_rf (ro ad 7 rr))) XX A) args s 0 0 A) (F0 m 0 ls []) := by
  have hx := C.1
  have hb := C.2.1
  intro X H locs ls hP hS hl hf
  rw [X9_cellOf] at hf
  refine lv_aload_n hx hb dX9_cellOf_0 rfl (lv_at hl 0 rfl) ?_
  refine lv_iload_n hx hb dX9_cellOf_1 rfl (lv_at hl 1 rfl) ?_
  obtain ⟨r1, X2, h3, hf⟩ := b2_in hf
  refine r_cVq (rest := []) C hP hS hl.1 (s_X9_leafOf hW hD0 ha_l0 h3) ix_X9_leafOf iv_X9_leafOf lk_X9_179 ⟨rfl, rfl, Nat.le_of_ble_eq_true rfl, Nat.le_of_ble_eq_true rfl⟩ ha_l0 (ct_0 _ _ _ _) rfl rfl rfl rfl (Nat.le_of_ble_eq_true rfl) ⟨Nat.zero_le _, Nat.zero_le _⟩ dX9_cellOf_2 (fun H locs hP hS => ?_)
  refine r_astore (i := 4) (lv' := [(4, va_rf (ro ad 5 r1)), (0, .ref (ad 0 0)), (1, .int p1), (2, .int p2), (3, .int p3)]) C dX9_cellOf_5 hl (Nat.le_of_ble_eq_true rfl) rfl (fun ls hl => ?_)
  refine r_aload C dX9_cellOf_7 (lv_at hl 0 rfl) ?_
  refine r_ifnonnull (tgt := 16) C dX9_cellOf_9 (by decide) (fun c4 => ?_) (fun c4 => ?_)
  · have hf := g_ip c4 hf
    refine lv_null hx hb dX9_cellOf_12 ?_
    refine lv_goto (tgt := 23) hx hb dX9_cellOf_13 (by decide) ?_
    exact s_X9_cellOf_J23 C hW hD0 (-1 : Int32) X2 _ _ _ hP hS (lv_sub hl [] rfl) hf
  · have hf := g_in c4 hf
    refine r_aload C dX9_cellOf_16 (lv_at hl 0 rfl) ?_
    refine lv_iload_n hx hb dX9_cellOf_18 rfl (lv_at hl 3 rfl) ?_
    refine lv_iload_n hx hb dX9_cellOf_19 rfl (lv_at hl 4 rfl) ?_
    obtain ⟨j5, h6, hf⟩ := dr_in hf
    rw [gref h6]
    obtain ⟨r7, X8, h9, hf⟩ := b2_in hf
    refine r_cVq (rest := []) C hP hS hl.1 (s_X2_cellAt hW hD0 h6.2.2 h9) ix_X2_cellAt iv_X2_cellAt lk_X9_199 ⟨rfl, rfl, Nat.le_of_ble_eq_true rfl, Nat.le_of_ble_eq_true rfl⟩ h6.2.2 (ct_5 _ _ _ _) rfl rfl rfl rfl (Nat.le_of_ble_eq_true rfl) ⟨Nat.zero_le _, Nat.zero_le _⟩ dX9_cellOf_20 (fun H locs hP hS => ?_)
    exact s_X9_cellOf_J23 C hW hD0 r7 X8 _ _ _ hP hS (lv_sub hl [] rfl) hf

theorem s_X9_cellOf {l : Launch} {D : va_G} {cA : Nat → ClassId} {ad : Nat → Nat → Nat} {NL : List (Nat × Nat)} {N : Nat} {p1 : Int32} {p2 : Int32} {p3 : Int32} {X : gM} {rr : Int32} {XX : gM} (hW : gWf NL) (hD0 : gD (fun _ => True) ad NL) (ha_l0 : (0, 0) ∈ NL) (hf : X9_cellOf (gal NL) N p1 p2 p3 X = some (rr, XX)) : gC l yX9_cellOf cX9_cellOf 5 (some (.object "Undertext$Cell")) rm_X9_cellOf D cA ad NL [.ref (ad 0 0), .int p1, .int p2, .int p3] X (some (va_rf (ro ad 7 rr))) XX :=
  g_ofW (by decide) hD0 (Nat.le_of_ble_eq_true rfl) rfl (fun p e s m below meth c ls C hP hS hl => w_X9_cellOf C hW hD0 ha_l0 X _ _ ls hP hS hl hf)
def rm_X9_wordLikeDraft : Room := { frames := 1, cells := 0, slots := 0, locals := 23 }
set_option maxRecDepth 100000 in
set_option maxHeartbeats 4000000 in
theorem s_X9_wordLikeDraft_J45 {p : Program} {l : Launch} {e : Env} {s : State} {m : MethodId} {args : Array Value} {below : List Frame} {meth : Method} {c : Code} {D : va_G} {cA : Nat → ClassId} {ad : Nat → Nat → Nat} {NL : List (Nat × Nat)} {A : Nat → Prop} {rr : Int32} {XX : gM} {N : Nat} (C : gCx p c meth m s args cX9_wordLikeDraft 3 (some .int) RX9 D cA ad NL A) (hW : gWf NL) (hD0 : gD (fun _ => True) ad NL) : ∀ (X : gM) (H : Heap) (locs : List Loc) (ls : Array Slot), gH D cA ad NL X H → va_S A s.heap H locs → lv_has ls 3 [] → X9_wordLikeDraft_J45 (gal NL) N X = some (rr, XX) → W p l e rm_X9_wordLikeDraft s m args below meth c H locs 0 0 (MQ below (gQ D cA ad NL (some (.int rr)) XX A) args s 0 0 A) (F0 m 45 ls []) := by
  have hx := C.1
  have hb := C.2.1
  intro X H locs ls hP hS hl hf
  rw [X9_wordLikeDraft_J45] at hf
  refine lv_iconst (v := -1) hx hb dX9_wordLikeDraft_45 (by decide) ?_
  obtain ⟨rfl, rfl⟩ := g_s1 hf
  exact r_iret C hP hS dX9_wordLikeDraft_46

set_option maxRecDepth 100000 in
set_option maxHeartbeats 4000000 in
theorem s_X9_wordLikeDraft_J39 {p : Program} {l : Launch} {e : Env} {s : State} {m : MethodId} {args : Array Value} {below : List Frame} {meth : Method} {c : Code} {D : va_G} {cA : Nat → ClassId} {ad : Nat → Nat → Nat} {NL : List (Nat × Nat)} {A : Nat → Prop} {rr : Int32} {XX : gM} {N : Nat} {kk : Int32 → gM → Option (Int32 × gM)} {k37 : Int32 → gM → Option (Int32 × gM)} {k45 : gM → Option (Int32 × gM)} (C : gCx p c meth m s args cX9_wordLikeDraft 3 (some .int) RX9 D cA ad NL A) (hW : gWf NL) (hD0 : gD (fun _ => True) ad NL) (hkk : ∀ (p1 : Int32) (Y : gM) (H : Heap) (locs : List Loc) (ls : Array Slot), gH D cA ad NL Y H → va_S A s.heap H locs → lv_has ls 3 [(0, .ref (ad 0 0)), (1, .int p1)] → (0, 0) ∈ NL → kk p1 Y = some (rr, XX) → W p l e rm_X9_wordLikeDraft s m args below meth c H locs 0 0 (MQ below (gQ D cA ad NL (some (.int rr)) XX A) args s 0 0 A) (F0 m 2 ls [])) (hk37 : ∀ (p1 : Int32) (Y : gM) (H : Heap) (locs : List Loc) (ls : Array Slot), gH D cA ad NL Y H → va_S A s.heap H locs → lv_has ls 3 [(1, .int p1)] → k37 p1 Y = some (rr, XX) → W p l e rm_X9_wordLikeDraft s m args below meth c H locs 0 0 (MQ below (gQ D cA ad NL (some (.int rr)) XX A) args s 0 0 A) (F0 m 37 ls [])) (hk45 : ∀ (Y : gM) (H : Heap) (locs : List Loc) (ls : Array Slot), gH D cA ad NL Y H → va_S A s.heap H locs → lv_has ls 3 [] → k45 Y = some (rr, XX) → W p l e rm_X9_wordLikeDraft s m args below meth c H locs 0 0 (MQ below (gQ D cA ad NL (some (.int rr)) XX A) args s 0 0 A) (F0 m 45 ls [])) : ∀ (p1 : Int32) (X : gM) (H : Heap) (locs : List Loc) (ls : Array Slot), gH D cA ad NL X H → va_S A s.heap H locs → lv_has ls 3 [(0, .ref (ad 0 0)), (1, .int p1)] → (0, 0) ∈ NL → X9_wordLikeDraft_J39 (gal NL) N kk k37 k45 p1 X = some (rr, XX) → W p l e rm_X9_wordLikeDraft s m args below meth c H locs 0 0 (MQ below (gQ D cA ad NL (some (.int rr)) XX A) args s 0 0 A) (F0 m 39 ls []) := by
  have hx := C.1
  have hb := C.2.1
  intro p1 X H locs ls hP hS hl ha_l0 hf
  rw [X9_wordLikeDraft_J39] at hf
  obtain ⟨v1, e2, hf⟩ := gl_in hf
  refine lv_iinc (v := v1) (lv' := [(1, .int v1), (0, .ref (ad 0 0))]) hx hb dX9_wordLikeDraft_39 hl (k := 1) rfl (by rw [e2]; rfl) (Nat.le_of_ble_eq_true rfl) rfl (fun ls hl => ?_)
  refine lv_goto (tgt := 2) hx hb dX9_wordLikeDraft_42 (by decide) ?_
  exact hkk v1 X _ _ _ hP hS (lv_sub hl [1, 0] rfl) ha_l0 hf

set_option maxRecDepth 100000 in
set_option maxHeartbeats 4000000 in
theorem s_X9_wordLikeDraft_J37 {p : Program} {l : Launch} {e : Env} {s : State} {m : MethodId} {args : Array Value} {below : List Frame} {meth : Method} {c : Code} {D : va_G} {cA : Nat → ClassId} {ad : Nat → Nat → Nat} {NL : List (Nat × Nat)} {A : Nat → Prop} {rr : Int32} {XX : gM} {N : Nat} (C : gCx p c meth m s args cX9_wordLikeDraft 3 (some .int) RX9 D cA ad NL A) (hW : gWf NL) (hD0 : gD (fun _ => True) ad NL) : ∀ (p1 : Int32) (X : gM) (H : Heap) (locs : List Loc) (ls : Array Slot), gH D cA ad NL X H → va_S A s.heap H locs → lv_has ls 3 [(1, .int p1)] → X9_wordLikeDraft_J37 (gal NL) N p1 X = some (rr, XX) → W p l e rm_X9_wordLikeDraft s m args below meth c H locs 0 0 (MQ below (gQ D cA ad NL (some (.int rr)) XX A) args s 0 0 A) (F0 m 37 ls []) := by
  have hx := C.1
  have hb := C.2.1
  intro p1 X H locs ls hP hS hl hf
  rw [X9_wordLikeDraft_J37] at hf
  refine lv_iload_n hx hb dX9_wordLikeDraft_37 rfl (lv_at hl 0 rfl) ?_
  obtain ⟨rfl, rfl⟩ := g_s1 hf
  exact r_iret C hP hS dX9_wordLikeDraft_38

set_option maxRecDepth 100000 in
set_option maxHeartbeats 4000000 in
theorem s_X9_wordLikeDraft_L2 {p : Program} {l : Launch} {e : Env} {s : State} {m : MethodId} {args : Array Value} {below : List Frame} {meth : Method} {c : Code} {D : va_G} {cA : Nat → ClassId} {ad : Nat → Nat → Nat} {NL : List (Nat × Nat)} {A : Nat → Prop} {rr : Int32} {XX : gM} {N : Nat} {k37 : Int32 → gM → Option (Int32 × gM)} {k45 : gM → Option (Int32 × gM)} (C : gCx p c meth m s args cX9_wordLikeDraft 3 (some .int) RX9 D cA ad NL A) (hW : gWf NL) (hD0 : gD (fun _ => True) ad NL) (hk37 : ∀ (p1 : Int32) (Y : gM) (H : Heap) (locs : List Loc) (ls : Array Slot), gH D cA ad NL Y H → va_S A s.heap H locs → lv_has ls 3 [(1, .int p1)] → k37 p1 Y = some (rr, XX) → W p l e rm_X9_wordLikeDraft s m args below meth c H locs 0 0 (MQ below (gQ D cA ad NL (some (.int rr)) XX A) args s 0 0 A) (F0 m 37 ls [])) (hk45 : ∀ (Y : gM) (H : Heap) (locs : List Loc) (ls : Array Slot), gH D cA ad NL Y H → va_S A s.heap H locs → lv_has ls 3 [] → k45 Y = some (rr, XX) → W p l e rm_X9_wordLikeDraft s m args below meth c H locs 0 0 (MQ below (gQ D cA ad NL (some (.int rr)) XX A) args s 0 0 A) (F0 m 45 ls [])) : ∀ (n : Nat) (p1 : Int32) (X : gM) (H : Heap) (locs : List Loc) (ls : Array Slot), gH D cA ad NL X H → va_S A s.heap H locs → lv_has ls 3 [(0, .ref (ad 0 0)), (1, .int p1)] → (0, 0) ∈ NL → X9_wordLikeDraft_L2 (gal NL) N k37 k45 n p1 X = some (rr, XX) → W p l e rm_X9_wordLikeDraft s m args below meth c H locs 0 0 (MQ below (gQ D cA ad NL (some (.int rr)) XX A) args s 0 0 A) (F0 m 2 ls []) := by
  have hx := C.1
  have hb := C.2.1
  intro n
  induction n with
  | zero =>
    intro p1 X H locs ls hP hS hl ha_l0 hf
    rw [X9_wordLikeDraft_L2] at hf
    cases hf
  | succ n ih =>
    intro p1 X H locs ls hP hS hl ha_l0 hf
    rw [X9_wordLikeDraft_L2] at hf
    refine lv_iload_n hx hb dX9_wordLikeDraft_2 rfl (lv_at hl 1 rfl) ?_
    refine lv_aload_n hx hb dX9_wordLikeDraft_3 rfl (lv_at hl 0 rfl) ?_
    refine r_get C hP ha_l0 (ct_0 _ _ _ _) fx_X9_51 (fg_0_8 _ _ _) dX9_wordLikeDraft_4 ?_
    refine r_alen C hP 12 (gs_0_8 hW ha_l0) (ct_25 _ _ _ _) rfl rfl dX9_wordLikeDraft_7 ?_
    refine lv_icmp_ge (tgt := 45) hx hb dX9_wordLikeDraft_8 (by decide) (fun c1 => ?_) (fun c1 => ?_)
    · have hf := g_ip c1 hf
      exact hk45 X _ _ _ hP hS (lv_sub hl [] rfl) hf
    · have hf := g_in c1 hf
      refine lv_aload_n hx hb dX9_wordLikeDraft_11 rfl (lv_at hl 0 rfl) ?_
      refine r_get C hP ha_l0 (ct_0 _ _ _ _) fx_X9_51 (fg_0_8 _ _ _) dX9_wordLikeDraft_12 ?_
      refine lv_iload_n hx hb dX9_wordLikeDraft_15 rfl (lv_at hl 1 rfl) ?_
      obtain ⟨j2, h3, hf⟩ := rd_in hf
      refine r_aldq C hP (gs_0_8 hW ha_l0) (ct_25 _ _ _ _) rfl h3 dX9_wordLikeDraft_16 ?_
      refine r_astoren (i := 2) (lv' := [(2, va_rf (ro ad 26 (X 25 0 j2))), (0, .ref (ad 0 0)), (1, .int p1)]) C dX9_wordLikeDraft_17 rfl hl (Nat.le_of_ble_eq_true rfl) rfl (fun ls hl => ?_)
      refine r_aloadn C dX9_wordLikeDraft_18 rfl (lv_at hl 0 rfl) ?_
      refine r_ifnull (tgt := 39) C dX9_wordLikeDraft_19 (by decide) (fun c4 => ?_) (fun c4 => ?_)
      · have hf := g_ip c4 hf
        exact s_X9_wordLikeDraft_J39 C hW hD0 ih hk37 hk45 p1 X _ _ _ hP hS (lv_sub hl [1, 2] rfl) ha_l0 hf
      · have hf := g_in c4 hf
        refine r_aloadn C dX9_wordLikeDraft_22 rfl (lv_at hl 0 rfl) ?_
        refine lv_aload_n hx hb dX9_wordLikeDraft_23 rfl (lv_at hl 1 rfl) ?_
        refine r_get C hP ha_l0 (ct_0 _ _ _ _) fx_X9_42 (fg_0_6 _ _ _) dX9_wordLikeDraft_24 ?_
        refine lv_aload_n hx hb dX9_wordLikeDraft_27 rfl (lv_at hl 1 rfl) ?_
        refine r_get C hP ha_l0 (ct_0 _ _ _ _) fx_X9_46 (fg_0_7 _ _ _) dX9_wordLikeDraft_28 ?_
        obtain ⟨j5, h6, hf⟩ := dr_in hf
        rw [gref h6]
        obtain ⟨r7, X8, h9, hf⟩ := b2_in hf
        refine r_cVi (rest := []) C hP hS hl.1 (s_X8_isSame hW hD0 h6.2.2 (gs_0_6 hW ha_l0) h9) ix_X8_isSame iv_X8_isSame lk_X9_301 ⟨rfl, rfl, Nat.le_of_ble_eq_true rfl, Nat.le_of_ble_eq_true rfl⟩ h6.2.2 (ct_26 _ _ _ _) rfl rfl rfl rfl (Nat.le_of_ble_eq_true rfl) ⟨Nat.zero_le _, Nat.zero_le _⟩ dX9_wordLikeDraft_31 (fun H locs hP hS => ?_)
        refine lv_if_eq (tgt := 39) hx hb dX9_wordLikeDraft_34 (by decide) (fun c10 => ?_) (fun c10 => ?_)
        · have hf := g_ip c10 hf
          exact s_X9_wordLikeDraft_J39 C hW hD0 ih hk37 hk45 p1 X8 _ _ _ hP hS (lv_sub hl [1, 2] rfl) ha_l0 hf
        · have hf := g_in c10 hf
          exact hk37 p1 X8 _ _ _ hP hS (lv_sub hl [2] rfl) hf

set_option maxRecDepth 100000 in
set_option maxHeartbeats 4000000 in
theorem w_X9_wordLikeDraft {p : Program} {l : Launch} {e : Env} {s : State} {m : MethodId} {args : Array Value} {below : List Frame} {meth : Method} {c : Code} {D : va_G} {cA : Nat → ClassId} {ad : Nat → Nat → Nat} {NL : List (Nat × Nat)} {A : Nat → Prop} {rr : Int32} {XX : gM} {N : Nat} (C : gCx p c meth m s args cX9_wordLikeDraft 3 (some .int) RX9 D cA ad NL A) (hW : gWf NL) (hD0 : gD (fun _ => True) ad NL) (ha_l0 : (0, 0) ∈ NL) : ∀ (X : gM) (H : Heap) (locs : List Loc) (ls : Array Slot), gH D cA ad NL X H → va_S A s.heap H locs → lv_has ls 3 [(0, .ref (ad 0 0))] → X9_wordLikeDraft (gal NL) N  X = some (rr, XX) → W p l e rm_X9_wordLikeDraft s m args below meth c H locs 0 0 (MQ below (gQ D cA ad NL (some (.int rr)) XX A) args s 0 0 A) (F0 m 0 ls []) := by
  have hx := C.1
  have hb := C.2.1
  intro X H locs ls hP hS hl hf
  rw [X9_wordLikeDraft] at hf
  refine lv_iconst (v := 0) hx hb dX9_wordLikeDraft_0 (by decide) ?_
  refine lv_istore_n (i := 1) (lv' := [(1, .int (0 : Int32)), (0, .ref (ad 0 0))]) hx hb dX9_wordLikeDraft_1 rfl hl (Nat.le_of_ble_eq_true rfl) rfl (fun ls hl => ?_)
  exact s_X9_wordLikeDraft_L2 C hW hD0 (fun p1 Y H locs ls hP hS hl hf => s_X9_wordLikeDraft_J37 C hW hD0 p1 Y _ _ _ hP hS hl hf) (fun Y H locs ls hP hS hl hf => s_X9_wordLikeDraft_J45 C hW hD0 Y _ _ _ hP hS hl hf) N (0 : Int32) X _ _ _ hP hS (lv_sub hl [1, 0] rfl) ha_l0 hf

theorem s_X9_wordLikeDraft {l : Launch} {D : va_G} {cA : Nat → ClassId} {ad : Nat → Nat → Nat} {NL : List (Nat × Nat)} {N : Nat} {X : gM} {rr : Int32} {XX : gM} (hW : gWf NL) (hD0 : gD (fun _ => True) ad NL) (ha_l0 : (0, 0) ∈ NL) (hf : X9_wordLikeDraft (gal NL) N  X = some (rr, XX)) : gC l yX9_wordLikeDraft cX9_wordLikeDraft 3 (some .int) rm_X9_wordLikeDraft D cA ad NL [.ref (ad 0 0)] X (some (.int rr)) XX :=
  g_ofW (by decide) hD0 (Nat.le_of_ble_eq_true rfl) rfl (fun p e s m below meth c ls C hP hS hl => w_X9_wordLikeDraft C hW hD0 ha_l0 X _ _ ls hP hS hl hf)
def rm_X9_placesOf : Room := { frames := 15, cells := 0, slots := 0, locals := 423 }
set_option maxRecDepth 100000 in
set_option maxHeartbeats 4000000 in
theorem w_X9_placesOf {p : Program} {l : Launch} {e : Env} {s : State} {m : MethodId} {args : Array Value} {below : List Frame} {meth : Method} {c : Code} {D : va_G} {cA : Nat → ClassId} {ad : Nat → Nat → Nat} {NL : List (Nat × Nat)} {A : Nat → Prop} {rr : Int32} {XX : gM} {N : Nat} (C : gCx p c meth m s args cX9_placesOf 3 (some .int) RX9 D cA ad NL A) (hW : gWf NL) (hD0 : gD (fun _ => True) ad NL) {p1 : Nat} {p2 : Int32} (ha_l0 : (0, 0) ∈ NL) (ha_l1 : (5, p1) ∈ NL) : ∀ (X : gM) (H : Heap) (locs : List Loc) (ls : Array Slot), gH D cA ad NL X H → va_S A s.heap H locs → lv_has ls 3 [(0, .ref (ad 0 0)), (1, .ref (ad 5 p1)), (2, .int p2)] → X9_placesOf (gal NL) N p1 p2 X = some (rr, XX) → W p l e rm_X9_placesOf s m args below meth c H locs 0 0 (MQ below (gQ D cA ad NL (some (.int rr)) XX A) args s 0 0 A) (F0 m 0 ls []) := by
  have hx := C.1
  have hb := C.2.1
  intro X H locs ls hP hS hl hf
  rw [X9_placesOf] at hf
  refine lv_aload_n hx hb dX9_placesOf_0 rfl (lv_at hl 1 rfl) ?_
  refine r_get C hP ha_l1 (ct_5 _ _ _ _) fx_X9_206 (fg_5_1 _ _ _) dX9_placesOf_1 ?_
  refine lv_iload_n hx hb dX9_placesOf_4 rfl (lv_at hl 2 rfl) ?_
  refine lv_aload_n hx hb dX9_placesOf_5 rfl (lv_at hl 0 rfl) ?_
  refine r_get C hP ha_l0 (ct_0 _ _ _ _) fx_X9_35 (fg_0_4 _ _ _) dX9_placesOf_6 ?_
  obtain ⟨j1, h2, hf⟩ := dr_in hf
  rw [gref h2]
  obtain ⟨r3, X4, h5, hf⟩ := b2_in hf
  refine r_cVq (rest := []) C hP hS hl.1 (s_X5_surveyed hW hD0 h2.2.2 (gs_0_4 hW ha_l0) h5) ix_X5_surveyed iv_X5_surveyed lk_X9_222 ⟨rfl, rfl, Nat.le_of_ble_eq_true rfl, Nat.le_of_ble_eq_true rfl⟩ h2.2.2 (ct_12 _ _ _ _) rfl rfl rfl rfl (Nat.le_of_ble_eq_true rfl) ⟨Nat.zero_le _, Nat.zero_le _⟩ dX9_placesOf_9 (fun H locs hP hS => ?_)
  obtain ⟨j6, h7, hf⟩ := dr_in hf
  rw [gref h7]
  refine r_get C hP h7.2.2 (ct_14 _ _ _ _) fx_X9_276 (fg_14_4 _ _ _) dX9_placesOf_12 ?_
  refine lv_aload_n hx hb dX9_placesOf_15 rfl (lv_at hl 1 rfl) ?_
  refine r_get C hP ha_l1 (ct_5 _ _ _ _) fx_X9_115 (fg_5_0 _ _ _) dX9_placesOf_16 ?_
  obtain ⟨j8, h9, hf⟩ := rd_in hf
  refine r_iald C hP (gs_14_4 hW h7.2.2) (ct_15 _ _ _ _) h9 dX9_placesOf_19 ?_
  obtain ⟨rfl, rfl⟩ := g_s1 hf
  exact r_iret C hP hS dX9_placesOf_20

theorem s_X9_placesOf {l : Launch} {D : va_G} {cA : Nat → ClassId} {ad : Nat → Nat → Nat} {NL : List (Nat × Nat)} {N : Nat} {p1 : Nat} {p2 : Int32} {X : gM} {rr : Int32} {XX : gM} (hW : gWf NL) (hD0 : gD (fun _ => True) ad NL) (ha_l0 : (0, 0) ∈ NL) (ha_l1 : (5, p1) ∈ NL) (hf : X9_placesOf (gal NL) N p1 p2 X = some (rr, XX)) : gC l yX9_placesOf cX9_placesOf 3 (some .int) rm_X9_placesOf D cA ad NL [.ref (ad 0 0), .ref (ad 5 p1), .int p2] X (some (.int rr)) XX :=
  g_ofW (by decide) hD0 (Nat.le_of_ble_eq_true rfl) rfl (fun p e s m below meth c ls C hP hS hl => w_X9_placesOf C hW hD0 ha_l0 ha_l1 X _ _ ls hP hS hl hf)
def rm_X9_takeLowest : Room := { frames := 2, cells := 0, slots := 0, locals := 43 }
set_option maxRecDepth 100000 in
set_option maxHeartbeats 4000000 in
theorem s_X9_takeLowest_J87 {p : Program} {l : Launch} {e : Env} {s : State} {m : MethodId} {args : Array Value} {below : List Frame} {meth : Method} {c : Code} {D : va_G} {cA : Nat → ClassId} {ad : Nat → Nat → Nat} {NL : List (Nat × Nat)} {A : Nat → Prop} {rr : Int32} {XX : gM} {N : Nat} (C : gCx p c meth m s args cX9_takeLowest 6 none RX9 D cA ad NL A) (hW : gWf NL) (hD0 : gD (fun _ => True) ad NL) : ∀ (X : gM) (H : Heap) (locs : List Loc) (ls : Array Slot), gH D cA ad NL X H → va_S A s.heap H locs → lv_has ls 6 [] → X9_takeLowest_J87 (gal NL) N X = some (rr, XX) → W p l e rm_X9_takeLowest s m args below meth c H locs 0 0 (MQ below (gQ D cA ad NL none XX A) args s 0 0 A) (F0 m 87 ls []) := by
  have hx := C.1
  have hb := C.2.1
  intro X H locs ls hP hS hl hf
  rw [X9_takeLowest_J87] at hf
  obtain ⟨rfl, rfl⟩ := g_s1 hf
  exact r_vret C hP hS dX9_takeLowest_87

set_option maxRecDepth 100000 in
set_option maxHeartbeats 4000000 in
theorem s_X9_takeLowest_J81 {p : Program} {l : Launch} {e : Env} {s : State} {m : MethodId} {args : Array Value} {below : List Frame} {meth : Method} {c : Code} {D : va_G} {cA : Nat → ClassId} {ad : Nat → Nat → Nat} {NL : List (Nat × Nat)} {A : Nat → Prop} {rr : Int32} {XX : gM} {N : Nat} {kk : Nat → Int32 → Int32 → gM → Option (Int32 × gM)} {k87 : gM → Option (Int32 × gM)} (C : gCx p c meth m s args cX9_takeLowest 6 none RX9 D cA ad NL A) (hW : gWf NL) (hD0 : gD (fun _ => True) ad NL) (hkk : ∀ (p1 : Nat) (p3 : Int32) (p4 : Int32) (Y : gM) (H : Heap) (locs : List Loc) (ls : Array Slot), gH D cA ad NL Y H → va_S A s.heap H locs → lv_has ls 6 [(0, .ref (ad 0 0)), (1, .ref (ad 5 p1)), (2, .ref (ad 4 0)), (3, .int p3), (4, .int p4)] → (0, 0) ∈ NL → (5, p1) ∈ NL → (4, 0) ∈ NL → kk p1 p3 p4 Y = some (rr, XX) → W p l e rm_X9_takeLowest s m args below meth c H locs 0 0 (MQ below (gQ D cA ad NL none XX A) args s 0 0 A) (F0 m 11 ls [])) (hk87 : ∀ (Y : gM) (H : Heap) (locs : List Loc) (ls : Array Slot), gH D cA ad NL Y H → va_S A s.heap H locs → lv_has ls 6 [] → k87 Y = some (rr, XX) → W p l e rm_X9_takeLowest s m args below meth c H locs 0 0 (MQ below (gQ D cA ad NL none XX A) args s 0 0 A) (F0 m 87 ls [])) : ∀ (p1 : Nat) (p3 : Int32) (p4 : Int32) (X : gM) (H : Heap) (locs : List Loc) (ls : Array Slot), gH D cA ad NL X H → va_S A s.heap H locs → lv_has ls 6 [(0, .ref (ad 0 0)), (1, .ref (ad 5 p1)), (2, .ref (ad 4 0)), (3, .int p3), (4, .int p4)] → (0, 0) ∈ NL → (5, p1) ∈ NL → (4, 0) ∈ NL → X9_takeLowest_J81 (gal NL) N kk k87 p1 p3 p4 X = some (rr, XX) → W p l e rm_X9_takeLowest s m args below meth c H locs 0 0 (MQ below (gQ D cA ad NL none XX A) args s 0 0 A) (F0 m 81 ls []) := by
  have hx := C.1
  have hb := C.2.1
  intro p1 p3 p4 X H locs ls hP hS hl ha_l0 ha_l1 ha_l2 hf
  rw [X9_takeLowest_J81] at hf
  obtain ⟨v1, e2, hf⟩ := gl_in hf
  refine lv_iinc (v := v1) (lv' := [(4, .int v1), (0, .ref (ad 0 0)), (1, .ref (ad 5 p1)), (2, .ref (ad 4 0)), (3, .int p3)]) hx hb dX9_takeLowest_81 hl (k := 4) rfl (by rw [e2]; rfl) (Nat.le_of_ble_eq_true rfl) rfl (fun ls hl => ?_)
  refine lv_goto (tgt := 11) hx hb dX9_takeLowest_84 (by decide) ?_
  exact hkk p1 p3 v1 X _ _ _ hP hS (lv_sub hl [1, 2, 3, 4, 0] rfl) ha_l0 ha_l1 ha_l2 hf

set_option maxRecDepth 100000 in
set_option maxHeartbeats 4000000 in
theorem s_X9_takeLowest_L11 {p : Program} {l : Launch} {e : Env} {s : State} {m : MethodId} {args : Array Value} {below : List Frame} {meth : Method} {c : Code} {D : va_G} {cA : Nat → ClassId} {ad : Nat → Nat → Nat} {NL : List (Nat × Nat)} {A : Nat → Prop} {rr : Int32} {XX : gM} {N : Nat} {k87 : gM → Option (Int32 × gM)} (C : gCx p c meth m s args cX9_takeLowest 6 none RX9 D cA ad NL A) (hW : gWf NL) (hD0 : gD (fun _ => True) ad NL) (hk87 : ∀ (Y : gM) (H : Heap) (locs : List Loc) (ls : Array Slot), gH D cA ad NL Y H → va_S A s.heap H locs → lv_has ls 6 [] → k87 Y = some (rr, XX) → W p l e rm_X9_takeLowest s m args below meth c H locs 0 0 (MQ below (gQ D cA ad NL none XX A) args s 0 0 A) (F0 m 87 ls [])) : ∀ (n : Nat) (p1 : Nat) (p3 : Int32) (p4 : Int32) (X : gM) (H : Heap) (locs : List Loc) (ls : Array Slot), gH D cA ad NL X H → va_S A s.heap H locs → lv_has ls 6 [(0, .ref (ad 0 0)), (1, .ref (ad 5 p1)), (2, .ref (ad 4 0)), (3, .int p3), (4, .int p4)] → (0, 0) ∈ NL → (5, p1) ∈ NL → (4, 0) ∈ NL → X9_takeLowest_L11 (gal NL) N k87 n p1 p3 p4 X = some (rr, XX) → W p l e rm_X9_takeLowest s m args below meth c H locs 0 0 (MQ below (gQ D cA ad NL none XX A) args s 0 0 A) (F0 m 11 ls []) := by
  have hx := C.1
  have hb := C.2.1
  intro n
  induction n with
  | zero =>
    intro p1 p3 p4 X H locs ls hP hS hl ha_l0 ha_l1 ha_l2 hf
    rw [X9_takeLowest_L11] at hf
    cases hf
  | succ n ih =>
    intro p1 p3 p4 X H locs ls hP hS hl ha_l0 ha_l1 ha_l2 hf
    rw [X9_takeLowest_L11] at hf
    refine lv_iload hx hb dX9_takeLowest_11 (lv_at hl 4 rfl) ?_
    refine lv_iload_n hx hb dX9_takeLowest_13 rfl (lv_at hl 3 rfl) ?_
    refine lv_icmp_ge (tgt := 87) hx hb dX9_takeLowest_14 (by decide) (fun c1 => ?_) (fun c1 => ?_)
    · have hf := g_ip c1 hf
      exact hk87 X _ _ _ hP hS (lv_sub hl [] rfl) hf
    · have hf := g_in c1 hf
      refine lv_aload_n hx hb dX9_takeLowest_17 rfl (lv_at hl 2 rfl) ?_
      refine lv_iload hx hb dX9_takeLowest_18 (lv_at hl 4 rfl) ?_
      obtain ⟨j2, h3, hf⟩ := rd_in hf
      refine r_aldq C hP ha_l2 (ct_4 _ _ _ _) rfl h3 dX9_takeLowest_20 ?_
      refine r_astore (i := 5) (lv' := [(5, va_rf (ro ad 5 (X 4 0 j2))), (0, .ref (ad 0 0)), (1, .ref (ad 5 p1)), (2, .ref (ad 4 0)), (3, .int p3), (4, .int p4)]) C dX9_takeLowest_21 hl (Nat.le_of_ble_eq_true rfl) rfl (fun ls hl => ?_)
      refine r_aload C dX9_takeLowest_23 (lv_at hl 0 rfl) ?_
      refine r_ifnull (tgt := 81) C dX9_takeLowest_25 (by decide) (fun c4 => ?_) (fun c4 => ?_)
      · have hf := g_ip c4 hf
        exact s_X9_takeLowest_J81 C hW hD0 ih hk87 p1 p3 p4 X _ _ _ hP hS (lv_sub hl [1, 2, 3, 4, 5] rfl) ha_l0 ha_l1 ha_l2 hf
      · have hf := g_in c4 hf
        refine lv_aload_n hx hb dX9_takeLowest_28 rfl (lv_at hl 1 rfl) ?_
        refine r_get C hP ha_l0 (ct_0 _ _ _ _) fx_X9_78 (fg_0_14 _ _ _) dX9_takeLowest_29 ?_
        refine r_aload C dX9_takeLowest_32 (lv_at hl 0 rfl) ?_
        obtain ⟨j5, h6, hf⟩ := dr_in hf
        rw [gref h6]
        refine r_get C hP h6.2.2 (ct_5 _ _ _ _) fx_X9_115 (fg_5_0 _ _ _) dX9_takeLowest_34 ?_
        obtain ⟨j7, h8, hf⟩ := rd_in hf
        refine r_iald C hP (gs_0_14 hW ha_l0) (ct_42 _ _ _ _) h8 dX9_takeLowest_37 ?_
        refine lv_aload_n hx hb dX9_takeLowest_38 rfl (lv_at hl 1 rfl) ?_
        refine r_get C hP ha_l0 (ct_0 _ _ _ _) fx_X9_78 (fg_0_14 _ _ _) dX9_takeLowest_39 ?_
        refine lv_aload_n hx hb dX9_takeLowest_42 rfl (lv_at hl 2 rfl) ?_
        refine r_get C hP ha_l1 (ct_5 _ _ _ _) fx_X9_115 (fg_5_0 _ _ _) dX9_takeLowest_43 ?_
        obtain ⟨j9, h10, hf⟩ := rd_in hf
        refine r_iald C hP (gs_0_14 hW ha_l0) (ct_42 _ _ _ _) h10 dX9_takeLowest_46 ?_
        refine lv_icmp_lt (tgt := 53) hx hb dX9_takeLowest_47 (by decide) (fun c11 => ?_) (fun c11 => ?_)
        · have hf := g_ip c11 hf
          refine lv_aload_n hx hb dX9_takeLowest_53 rfl (lv_at hl 2 rfl) ?_
          refine r_aload C dX9_takeLowest_54 (lv_at hl 0 rfl) ?_
          rw [gref h6]
          obtain ⟨r12, X13, h14, hf⟩ := b2_in hf
          refine r_cVi (rest := []) C hP hS hl.1 (s_X2_isAlike hW hD0 ha_l1 h6.2.2 h14) ix_X2_isAlike iv_X2_isAlike lk_X9_308 ⟨rfl, rfl, Nat.le_of_ble_eq_true rfl, Nat.le_of_ble_eq_true rfl⟩ ha_l1 (ct_5 _ _ _ _) rfl rfl rfl rfl (Nat.le_of_ble_eq_true rfl) ⟨Nat.zero_le _, Nat.zero_le _⟩ dX9_takeLowest_56 (fun H locs hP hS => ?_)
          refine lv_if_eq (tgt := 81) hx hb dX9_takeLowest_59 (by decide) (fun c15 => ?_) (fun c15 => ?_)
          · have hf := g_ip c15 hf
            exact s_X9_takeLowest_J81 C hW hD0 ih hk87 p1 p3 p4 X13 _ _ _ hP hS (lv_sub hl [1, 2, 3, 4, 5] rfl) ha_l0 ha_l1 ha_l2 hf
          · have hf := g_in c15 hf
            refine lv_aload_n hx hb dX9_takeLowest_62 rfl (lv_at hl 1 rfl) ?_
            refine r_get C hP ha_l0 (ct_0 _ _ _ _) fx_X9_78 (fg_0_14 _ _ _) dX9_takeLowest_63 ?_
            refine lv_aload_n hx hb dX9_takeLowest_66 rfl (lv_at hl 2 rfl) ?_
            refine r_get C hP ha_l1 (ct_5 _ _ _ _) fx_X9_115 (fg_5_0 _ _ _) dX9_takeLowest_67 ?_
            refine lv_aload_n hx hb dX9_takeLowest_70 rfl (lv_at hl 1 rfl) ?_
            refine r_get C hP ha_l0 (ct_0 _ _ _ _) fx_X9_78 (fg_0_14 _ _ _) dX9_takeLowest_71 ?_
            refine r_aload C dX9_takeLowest_74 (lv_at hl 0 rfl) ?_
            rw [gref h6]
            refine r_get C hP h6.2.2 (ct_5 _ _ _ _) fx_X9_115 (fg_5_0 _ _ _) dX9_takeLowest_76 ?_
            obtain ⟨j16, h17, hf⟩ := rd_in hf
            refine r_iald C hP (gs_0_14 hW ha_l0) (ct_42 _ _ _ _) h17 dX9_takeLowest_79 ?_
            obtain ⟨j18, h19, hf⟩ := rd_in hf
            refine r_iast C hP hS (gs_0_14 hW ha_l0) (fun _ => ct_42 _ _ _ _) h19 dX9_takeLowest_80 (fun H locs hP hS => ?_)
            obtain ⟨X20, e21, hf⟩ := gl_in hf
            rw [← e21] at hP
            exact s_X9_takeLowest_J81 C hW hD0 ih hk87 p1 p3 p4 X20 _ _ _ hP hS (lv_sub hl [1, 2, 3, 4, 5] rfl) ha_l0 ha_l1 ha_l2 hf
        · have hf := g_in c11 hf
          refine lv_goto (tgt := 81) hx hb dX9_takeLowest_50 (by decide) ?_
          exact s_X9_takeLowest_J81 C hW hD0 ih hk87 p1 p3 p4 X _ _ _ hP hS (lv_sub hl [1, 2, 3, 4, 5] rfl) ha_l0 ha_l1 ha_l2 hf

set_option maxRecDepth 100000 in
set_option maxHeartbeats 4000000 in
theorem w_X9_takeLowest {p : Program} {l : Launch} {e : Env} {s : State} {m : MethodId} {args : Array Value} {below : List Frame} {meth : Method} {c : Code} {D : va_G} {cA : Nat → ClassId} {ad : Nat → Nat → Nat} {NL : List (Nat × Nat)} {A : Nat → Prop} {rr : Int32} {XX : gM} {N : Nat} (C : gCx p c meth m s args cX9_takeLowest 6 none RX9 D cA ad NL A) (hW : gWf NL) (hD0 : gD (fun _ => True) ad NL) {p1 : Nat} (ha_l0 : (0, 0) ∈ NL) (ha_l1 : (5, p1) ∈ NL) : ∀ (X : gM) (H : Heap) (locs : List Loc) (ls : Array Slot), gH D cA ad NL X H → va_S A s.heap H locs → lv_has ls 6 [(0, .ref (ad 0 0)), (1, .ref (ad 5 p1))] → X9_takeLowest (gal NL) N p1 X = some (rr, XX) → W p l e rm_X9_takeLowest s m args below meth c H locs 0 0 (MQ below (gQ D cA ad NL none XX A) args s 0 0 A) (F0 m 0 ls []) := by
  have hx := C.1
  have hb := C.2.1
  intro X H locs ls hP hS hl hf
  rw [X9_takeLowest] at hf
  refine lv_aload_n hx hb dX9_takeLowest_0 rfl (lv_at hl 0 rfl) ?_
  refine r_get C hP ha_l0 (ct_0 _ _ _ _) fx_X9_18 (fg_0_1 _ _ _) dX9_takeLowest_1 ?_
  refine lv_astore_n (i := 2) (lv' := [(2, .ref (ad 4 0)), (0, .ref (ad 0 0)), (1, .ref (ad 5 p1))]) hx hb dX9_takeLowest_4 rfl hl (Nat.le_of_ble_eq_true rfl) rfl (fun ls hl => ?_)
  refine lv_aload_n hx hb dX9_takeLowest_5 rfl (lv_at hl 0 rfl) ?_
  refine r_alen C hP 10 (gs_0_1 hW ha_l0) (ct_4 _ _ _ _) rfl rfl dX9_takeLowest_6 ?_
  refine lv_istore_n (i := 3) (lv' := [(3, .int (10 : Int32)), (2, .ref (ad 4 0)), (0, .ref (ad 0 0)), (1, .ref (ad 5 p1))]) hx hb dX9_takeLowest_7 rfl hl (Nat.le_of_ble_eq_true rfl) rfl (fun ls hl => ?_)
  refine lv_iconst (v := 0) hx hb dX9_takeLowest_8 (by decide) ?_
  refine lv_istore (i := 4) (lv' := [(4, .int (0 : Int32)), (3, .int (10 : Int32)), (2, .ref (ad 4 0)), (0, .ref (ad 0 0)), (1, .ref (ad 5 p1))]) hx hb dX9_takeLowest_9 hl (Nat.le_of_ble_eq_true rfl) rfl (fun ls hl => ?_)
  exact s_X9_takeLowest_L11 C hW hD0 (fun Y H locs ls hP hS hl hf => s_X9_takeLowest_J87 C hW hD0 Y _ _ _ hP hS hl hf) N p1 (10 : Int32) (0 : Int32) X _ _ _ hP hS (lv_sub hl [3, 4, 2, 1, 0] rfl) ha_l0 ha_l1 (gs_0_1 hW ha_l0) hf

theorem s_X9_takeLowest {l : Launch} {D : va_G} {cA : Nat → ClassId} {ad : Nat → Nat → Nat} {NL : List (Nat × Nat)} {N : Nat} {p1 : Nat} {X : gM} {rr : Int32} {XX : gM} (hW : gWf NL) (hD0 : gD (fun _ => True) ad NL) (ha_l0 : (0, 0) ∈ NL) (ha_l1 : (5, p1) ∈ NL) (hf : X9_takeLowest (gal NL) N p1 X = some (rr, XX)) : gC l yX9_takeLowest cX9_takeLowest 6 none rm_X9_takeLowest D cA ad NL [.ref (ad 0 0), .ref (ad 5 p1)] X none XX :=
  g_ofW (by decide) hD0 (Nat.le_of_ble_eq_true rfl) rfl (fun p e s m below meth c ls C hP hS hl => w_X9_takeLowest C hW hD0 ha_l0 ha_l1 X _ _ ls hP hS hl hf)
def rm_X9_settleHands : Room := { frames := 3, cells := 0, slots := 0, locals := 68 }
set_option maxRecDepth 100000 in
set_option maxHeartbeats 4000000 in
theorem s_X9_settleHands_J78 {p : Program} {l : Launch} {e : Env} {s : State} {m : MethodId} {args : Array Value} {below : List Frame} {meth : Method} {c : Code} {D : va_G} {cA : Nat → ClassId} {ad : Nat → Nat → Nat} {NL : List (Nat × Nat)} {A : Nat → Prop} {rr : Int32} {XX : gM} {N : Nat} (C : gCx p c meth m s args cX9_settleHands 6 none RX9 D cA ad NL A) (hW : gWf NL) (hD0 : gD (fun _ => True) ad NL) : ∀ (X : gM) (H : Heap) (locs : List Loc) (ls : Array Slot), gH D cA ad NL X H → va_S A s.heap H locs → lv_has ls 6 [] → X9_settleHands_J78 (gal NL) N X = some (rr, XX) → W p l e rm_X9_settleHands s m args below meth c H locs 0 0 (MQ below (gQ D cA ad NL none XX A) args s 0 0 A) (F0 m 78 ls []) := by
  have hx := C.1
  have hb := C.2.1
  intro X H locs ls hP hS hl hf
  rw [X9_settleHands_J78] at hf
  obtain ⟨rfl, rfl⟩ := g_s1 hf
  exact r_vret C hP hS dX9_settleHands_78

set_option maxRecDepth 100000 in
set_option maxHeartbeats 4000000 in
theorem s_X9_settleHands_J72 {p : Program} {l : Launch} {e : Env} {s : State} {m : MethodId} {args : Array Value} {below : List Frame} {meth : Method} {c : Code} {D : va_G} {cA : Nat → ClassId} {ad : Nat → Nat → Nat} {NL : List (Nat × Nat)} {A : Nat → Prop} {rr : Int32} {XX : gM} {N : Nat} {kk : Int32 → gM → Option (Int32 × gM)} {k78 : gM → Option (Int32 × gM)} (C : gCx p c meth m s args cX9_settleHands 6 none RX9 D cA ad NL A) (hW : gWf NL) (hD0 : gD (fun _ => True) ad NL) (hkk : ∀ (p1 : Int32) (Y : gM) (H : Heap) (locs : List Loc) (ls : Array Slot), gH D cA ad NL Y H → va_S A s.heap H locs → lv_has ls 6 [(0, .ref (ad 0 0)), (1, .int p1)] → (0, 0) ∈ NL → kk p1 Y = some (rr, XX) → W p l e rm_X9_settleHands s m args below meth c H locs 0 0 (MQ below (gQ D cA ad NL none XX A) args s 0 0 A) (F0 m 26 ls [])) (hk78 : ∀ (Y : gM) (H : Heap) (locs : List Loc) (ls : Array Slot), gH D cA ad NL Y H → va_S A s.heap H locs → lv_has ls 6 [] → k78 Y = some (rr, XX) → W p l e rm_X9_settleHands s m args below meth c H locs 0 0 (MQ below (gQ D cA ad NL none XX A) args s 0 0 A) (F0 m 78 ls [])) : ∀ (p1 : Int32) (X : gM) (H : Heap) (locs : List Loc) (ls : Array Slot), gH D cA ad NL X H → va_S A s.heap H locs → lv_has ls 6 [(0, .ref (ad 0 0)), (1, .int p1)] → (0, 0) ∈ NL → X9_settleHands_J72 (gal NL) N kk k78 p1 X = some (rr, XX) → W p l e rm_X9_settleHands s m args below meth c H locs 0 0 (MQ below (gQ D cA ad NL none XX A) args s 0 0 A) (F0 m 72 ls []) := by
  have hx := C.1
  have hb := C.2.1
  intro p1 X H locs ls hP hS hl ha_l0 hf
  rw [X9_settleHands_J72] at hf
  obtain ⟨v1, e2, hf⟩ := gl_in hf
  refine lv_iinc (v := v1) (lv' := [(1, .int v1), (0, .ref (ad 0 0))]) hx hb dX9_settleHands_72 hl (k := 1) rfl (by rw [e2]; rfl) (Nat.le_of_ble_eq_true rfl) rfl (fun ls hl => ?_)
  refine lv_goto (tgt := 26) hx hb dX9_settleHands_75 (by decide) ?_
  exact hkk v1 X _ _ _ hP hS (lv_sub hl [1, 0] rfl) ha_l0 hf

set_option maxRecDepth 100000 in
set_option maxHeartbeats 4000000 in
theorem s_X9_settleHands_J66 {p : Program} {l : Launch} {e : Env} {s : State} {m : MethodId} {args : Array Value} {below : List Frame} {meth : Method} {c : Code} {D : va_G} {cA : Nat → ClassId} {ad : Nat → Nat → Nat} {NL : List (Nat × Nat)} {A : Nat → Prop} {rr : Int32} {XX : gM} {N : Nat} {kk : Int32 → Int32 → Int32 → gM → Option (Int32 × gM)} {k72 : Int32 → gM → Option (Int32 × gM)} (C : gCx p c meth m s args cX9_settleHands 6 none RX9 D cA ad NL A) (hW : gWf NL) (hD0 : gD (fun _ => True) ad NL) (hkk : ∀ (p1 : Int32) (p3 : Int32) (p4 : Int32) (Y : gM) (H : Heap) (locs : List Loc) (ls : Array Slot), gH D cA ad NL Y H → va_S A s.heap H locs → lv_has ls 6 [(0, .ref (ad 0 0)), (1, .int p1), (2, .ref (ad 4 0)), (3, .int p3), (4, .int p4)] → (0, 0) ∈ NL → (4, 0) ∈ NL → kk p1 p3 p4 Y = some (rr, XX) → W p l e rm_X9_settleHands s m args below meth c H locs 0 0 (MQ below (gQ D cA ad NL none XX A) args s 0 0 A) (F0 m 43 ls [])) (hk72 : ∀ (p1 : Int32) (Y : gM) (H : Heap) (locs : List Loc) (ls : Array Slot), gH D cA ad NL Y H → va_S A s.heap H locs → lv_has ls 6 [(0, .ref (ad 0 0)), (1, .int p1)] → (0, 0) ∈ NL → k72 p1 Y = some (rr, XX) → W p l e rm_X9_settleHands s m args below meth c H locs 0 0 (MQ below (gQ D cA ad NL none XX A) args s 0 0 A) (F0 m 72 ls [])) : ∀ (p1 : Int32) (p3 : Int32) (p4 : Int32) (X : gM) (H : Heap) (locs : List Loc) (ls : Array Slot), gH D cA ad NL X H → va_S A s.heap H locs → lv_has ls 6 [(0, .ref (ad 0 0)), (1, .int p1), (2, .ref (ad 4 0)), (3, .int p3), (4, .int p4)] → (0, 0) ∈ NL → (4, 0) ∈ NL → X9_settleHands_J66 (gal NL) N kk k72 p1 p3 p4 X = some (rr, XX) → W p l e rm_X9_settleHands s m args below meth c H locs 0 0 (MQ below (gQ D cA ad NL none XX A) args s 0 0 A) (F0 m 66 ls []) := by
  have hx := C.1
  have hb := C.2.1
  intro p1 p3 p4 X H locs ls hP hS hl ha_l0 ha_l2 hf
  rw [X9_settleHands_J66] at hf
  obtain ⟨v1, e2, hf⟩ := gl_in hf
  refine lv_iinc (v := v1) (lv' := [(4, .int v1), (0, .ref (ad 0 0)), (1, .int p1), (2, .ref (ad 4 0)), (3, .int p3)]) hx hb dX9_settleHands_66 hl (k := 4) rfl (by rw [e2]; rfl) (Nat.le_of_ble_eq_true rfl) rfl (fun ls hl => ?_)
  refine lv_goto (tgt := 43) hx hb dX9_settleHands_69 (by decide) ?_
  exact hkk p1 p3 v1 X _ _ _ hP hS (lv_sub hl [1, 2, 3, 4, 0] rfl) ha_l0 ha_l2 hf

set_option maxRecDepth 100000 in
set_option maxHeartbeats 4000000 in
theorem s_X9_settleHands_L43 {p : Program} {l : Launch} {e : Env} {s : State} {m : MethodId} {args : Array Value} {below : List Frame} {meth : Method} {c : Code} {D : va_G} {cA : Nat → ClassId} {ad : Nat → Nat → Nat} {NL : List (Nat × Nat)} {A : Nat → Prop} {rr : Int32} {XX : gM} {N : Nat} {k72 : Int32 → gM → Option (Int32 × gM)} (C : gCx p c meth m s args cX9_settleHands 6 none RX9 D cA ad NL A) (hW : gWf NL) (hD0 : gD (fun _ => True) ad NL) (hk72 : ∀ (p1 : Int32) (Y : gM) (H : Heap) (locs : List Loc) (ls : Array Slot), gH D cA ad NL Y H → va_S A s.heap H locs → lv_has ls 6 [(0, .ref (ad 0 0)), (1, .int p1)] → (0, 0) ∈ NL → k72 p1 Y = some (rr, XX) → W p l e rm_X9_settleHands s m args below meth c H locs 0 0 (MQ below (gQ D cA ad NL none XX A) args s 0 0 A) (F0 m 72 ls [])) : ∀ (n : Nat) (p1 : Int32) (p3 : Int32) (p4 : Int32) (X : gM) (H : Heap) (locs : List Loc) (ls : Array Slot), gH D cA ad NL X H → va_S A s.heap H locs → lv_has ls 6 [(0, .ref (ad 0 0)), (1, .int p1), (2, .ref (ad 4 0)), (3, .int p3), (4, .int p4)] → (0, 0) ∈ NL → (4, 0) ∈ NL → X9_settleHands_L43 (gal NL) N k72 n p1 p3 p4 X = some (rr, XX) → W p l e rm_X9_settleHands s m args below meth c H locs 0 0 (MQ below (gQ D cA ad NL none XX A) args s 0 0 A) (F0 m 43 ls []) := by
  have hx := C.1
  have hb := C.2.1
  intro n
  induction n with
  | zero =>
    intro p1 p3 p4 X H locs ls hP hS hl ha_l0 ha_l2 hf
    rw [X9_settleHands_L43] at hf
    cases hf
  | succ n ih =>
    intro p1 p3 p4 X H locs ls hP hS hl ha_l0 ha_l2 hf
    rw [X9_settleHands_L43] at hf
    refine lv_iload hx hb dX9_settleHands_43 (lv_at hl 4 rfl) ?_
    refine lv_iload_n hx hb dX9_settleHands_45 rfl (lv_at hl 3 rfl) ?_
    refine lv_icmp_ge (tgt := 72) hx hb dX9_settleHands_46 (by decide) (fun c1 => ?_) (fun c1 => ?_)
    · have hf := g_ip c1 hf
      exact hk72 p1 X _ _ _ hP hS (lv_sub hl [0, 1] rfl) ha_l0 hf
    · have hf := g_in c1 hf
      refine lv_aload_n hx hb dX9_settleHands_49 rfl (lv_at hl 2 rfl) ?_
      refine lv_iload hx hb dX9_settleHands_50 (lv_at hl 4 rfl) ?_
      obtain ⟨j2, h3, hf⟩ := rd_in hf
      refine r_aldq C hP ha_l2 (ct_4 _ _ _ _) rfl h3 dX9_settleHands_52 ?_
      refine r_astore (i := 5) (lv' := [(5, va_rf (ro ad 5 (X 4 0 j2))), (0, .ref (ad 0 0)), (1, .int p1), (2, .ref (ad 4 0)), (3, .int p3), (4, .int p4)]) C dX9_settleHands_53 hl (Nat.le_of_ble_eq_true rfl) rfl (fun ls hl => ?_)
      refine r_aload C dX9_settleHands_55 (lv_at hl 0 rfl) ?_
      refine r_ifnull (tgt := 66) C dX9_settleHands_57 (by decide) (fun c4 => ?_) (fun c4 => ?_)
      · have hf := g_ip c4 hf
        exact s_X9_settleHands_J66 C hW hD0 ih hk72 p1 p3 p4 X _ _ _ hP hS (lv_sub hl [1, 2, 3, 4, 5] rfl) ha_l0 ha_l2 hf
      · have hf := g_in c4 hf
        refine lv_aload_n hx hb dX9_settleHands_60 rfl (lv_at hl 1 rfl) ?_
        refine r_aload C dX9_settleHands_61 (lv_at hl 0 rfl) ?_
        obtain ⟨j5, h6, hf⟩ := dr_in hf
        rw [gref h6]
        obtain ⟨r7, X8, h9, hf⟩ := b2_in hf
        refine r_cVv (rest := []) C hP hS hl.1 (s_X9_takeLowest hW hD0 ha_l0 h6.2.2 h9) ix_X9_takeLowest iv_X9_takeLowest lk_X9_305 ⟨rfl, rfl, Nat.le_of_ble_eq_true rfl, Nat.le_of_ble_eq_true rfl⟩ ha_l0 (ct_0 _ _ _ _) rfl rfl rfl rfl (Nat.le_of_ble_eq_true rfl) ⟨Nat.zero_le _, Nat.zero_le _⟩ dX9_settleHands_63 (fun H locs hP hS => ?_)
        exact s_X9_settleHands_J66 C hW hD0 ih hk72 p1 p3 p4 X8 _ _ _ hP hS (lv_sub hl [1, 2, 3, 4, 5] rfl) ha_l0 ha_l2 hf

set_option maxRecDepth 100000 in
set_option maxHeartbeats 4000000 in
theorem s_X9_settleHands_L26 {p : Program} {l : Launch} {e : Env} {s : State} {m : MethodId} {args : Array Value} {below : List Frame} {meth : Method} {c : Code} {D : va_G} {cA : Nat → ClassId} {ad : Nat → Nat → Nat} {NL : List (Nat × Nat)} {A : Nat → Prop} {rr : Int32} {XX : gM} {N : Nat} {k78 : gM → Option (Int32 × gM)} (C : gCx p c meth m s args cX9_settleHands 6 none RX9 D cA ad NL A) (hW : gWf NL) (hD0 : gD (fun _ => True) ad NL) (hk78 : ∀ (Y : gM) (H : Heap) (locs : List Loc) (ls : Array Slot), gH D cA ad NL Y H → va_S A s.heap H locs → lv_has ls 6 [] → k78 Y = some (rr, XX) → W p l e rm_X9_settleHands s m args below meth c H locs 0 0 (MQ below (gQ D cA ad NL none XX A) args s 0 0 A) (F0 m 78 ls [])) : ∀ (n : Nat) (p1 : Int32) (X : gM) (H : Heap) (locs : List Loc) (ls : Array Slot), gH D cA ad NL X H → va_S A s.heap H locs → lv_has ls 6 [(0, .ref (ad 0 0)), (1, .int p1)] → (0, 0) ∈ NL → X9_settleHands_L26 (gal NL) N k78 n p1 X = some (rr, XX) → W p l e rm_X9_settleHands s m args below meth c H locs 0 0 (MQ below (gQ D cA ad NL none XX A) args s 0 0 A) (F0 m 26 ls []) := by
  have hx := C.1
  have hb := C.2.1
  intro n
  induction n with
  | zero =>
    intro p1 X H locs ls hP hS hl ha_l0 hf
    rw [X9_settleHands_L26] at hf
    cases hf
  | succ n ih =>
    intro p1 X H locs ls hP hS hl ha_l0 hf
    rw [X9_settleHands_L26] at hf
    refine lv_iload_n hx hb dX9_settleHands_26 rfl (lv_at hl 1 rfl) ?_
    refine lv_bipush (v := 10) hx hb dX9_settleHands_27 (by decide) ?_
    refine lv_icmp_ge (tgt := 78) hx hb dX9_settleHands_29 (by decide) (fun c1 => ?_) (fun c1 => ?_)
    · have hf := g_ip c1 hf
      exact hk78 X _ _ _ hP hS (lv_sub hl [] rfl) hf
    · have hf := g_in c1 hf
      refine lv_aload_n hx hb dX9_settleHands_32 rfl (lv_at hl 0 rfl) ?_
      refine r_get C hP ha_l0 (ct_0 _ _ _ _) fx_X9_18 (fg_0_1 _ _ _) dX9_settleHands_33 ?_
      refine lv_astore_n (i := 2) (lv' := [(2, .ref (ad 4 0)), (0, .ref (ad 0 0)), (1, .int p1)]) hx hb dX9_settleHands_36 rfl hl (Nat.le_of_ble_eq_true rfl) rfl (fun ls hl => ?_)
      refine lv_aload_n hx hb dX9_settleHands_37 rfl (lv_at hl 0 rfl) ?_
      refine r_alen C hP 10 (gs_0_1 hW ha_l0) (ct_4 _ _ _ _) rfl rfl dX9_settleHands_38 ?_
      refine lv_istore_n (i := 3) (lv' := [(3, .int (10 : Int32)), (2, .ref (ad 4 0)), (0, .ref (ad 0 0)), (1, .int p1)]) hx hb dX9_settleHands_39 rfl hl (Nat.le_of_ble_eq_true rfl) rfl (fun ls hl => ?_)
      refine lv_iconst (v := 0) hx hb dX9_settleHands_40 (by decide) ?_
      refine lv_istore (i := 4) (lv' := [(4, .int (0 : Int32)), (3, .int (10 : Int32)), (2, .ref (ad 4 0)), (0, .ref (ad 0 0)), (1, .int p1)]) hx hb dX9_settleHands_41 hl (Nat.le_of_ble_eq_true rfl) rfl (fun ls hl => ?_)
      exact s_X9_settleHands_L43 C hW hD0 (fun p1 Y H locs ls hP hS hl ha_l0 hf => s_X9_settleHands_J72 C hW hD0 ih hk78 p1 Y _ _ _ hP hS hl ha_l0 hf) N p1 (10 : Int32) (0 : Int32) X _ _ _ hP hS (lv_sub hl [3, 4, 2, 1, 0] rfl) ha_l0 (gs_0_1 hW ha_l0) hf

set_option maxRecDepth 100000 in
set_option maxHeartbeats 4000000 in
theorem s_X9_settleHands_J24 {p : Program} {l : Launch} {e : Env} {s : State} {m : MethodId} {args : Array Value} {below : List Frame} {meth : Method} {c : Code} {D : va_G} {cA : Nat → ClassId} {ad : Nat → Nat → Nat} {NL : List (Nat × Nat)} {A : Nat → Prop} {rr : Int32} {XX : gM} {N : Nat} (C : gCx p c meth m s args cX9_settleHands 6 none RX9 D cA ad NL A) (hW : gWf NL) (hD0 : gD (fun _ => True) ad NL) : ∀ (X : gM) (H : Heap) (locs : List Loc) (ls : Array Slot), gH D cA ad NL X H → va_S A s.heap H locs → lv_has ls 6 [(0, .ref (ad 0 0))] → (0, 0) ∈ NL → X9_settleHands_J24 (gal NL) N X = some (rr, XX) → W p l e rm_X9_settleHands s m args below meth c H locs 0 0 (MQ below (gQ D cA ad NL none XX A) args s 0 0 A) (F0 m 24 ls []) := by
  have hx := C.1
  have hb := C.2.1
  intro X H locs ls hP hS hl ha_l0 hf
  rw [X9_settleHands_J24] at hf
  refine lv_iconst (v := 0) hx hb dX9_settleHands_24 (by decide) ?_
  refine lv_istore_n (i := 1) (lv' := [(1, .int (0 : Int32)), (0, .ref (ad 0 0))]) hx hb dX9_settleHands_25 rfl hl (Nat.le_of_ble_eq_true rfl) rfl (fun ls hl => ?_)
  exact s_X9_settleHands_L26 C hW hD0 (fun Y H locs ls hP hS hl hf => s_X9_settleHands_J78 C hW hD0 Y _ _ _ hP hS hl hf) N (0 : Int32) X _ _ _ hP hS (lv_sub hl [1, 0] rfl) ha_l0 hf

set_option maxRecDepth 100000 in
set_option maxHeartbeats 4000000 in
theorem s_X9_settleHands_L2 {p : Program} {l : Launch} {e : Env} {s : State} {m : MethodId} {args : Array Value} {below : List Frame} {meth : Method} {c : Code} {D : va_G} {cA : Nat → ClassId} {ad : Nat → Nat → Nat} {NL : List (Nat × Nat)} {A : Nat → Prop} {rr : Int32} {XX : gM} {N : Nat} {k24 : gM → Option (Int32 × gM)} (C : gCx p c meth m s args cX9_settleHands 6 none RX9 D cA ad NL A) (hW : gWf NL) (hD0 : gD (fun _ => True) ad NL) (hk24 : ∀ (Y : gM) (H : Heap) (locs : List Loc) (ls : Array Slot), gH D cA ad NL Y H → va_S A s.heap H locs → lv_has ls 6 [(0, .ref (ad 0 0))] → (0, 0) ∈ NL → k24 Y = some (rr, XX) → W p l e rm_X9_settleHands s m args below meth c H locs 0 0 (MQ below (gQ D cA ad NL none XX A) args s 0 0 A) (F0 m 24 ls [])) : ∀ (n : Nat) (p1 : Int32) (X : gM) (H : Heap) (locs : List Loc) (ls : Array Slot), gH D cA ad NL X H → va_S A s.heap H locs → lv_has ls 6 [(0, .ref (ad 0 0)), (1, .int p1)] → (0, 0) ∈ NL → X9_settleHands_L2 (gal NL) N k24 n p1 X = some (rr, XX) → W p l e rm_X9_settleHands s m args below meth c H locs 0 0 (MQ below (gQ D cA ad NL none XX A) args s 0 0 A) (F0 m 2 ls []) := by
  have hx := C.1
  have hb := C.2.1
  intro n
  induction n with
  | zero =>
    intro p1 X H locs ls hP hS hl ha_l0 hf
    rw [X9_settleHands_L2] at hf
    cases hf
  | succ n ih =>
    intro p1 X H locs ls hP hS hl ha_l0 hf
    rw [X9_settleHands_L2] at hf
    refine lv_iload_n hx hb dX9_settleHands_2 rfl (lv_at hl 1 rfl) ?_
    refine lv_aload_n hx hb dX9_settleHands_3 rfl (lv_at hl 0 rfl) ?_
    refine r_get C hP ha_l0 (ct_0 _ _ _ _) fx_X9_78 (fg_0_14 _ _ _) dX9_settleHands_4 ?_
    refine r_alen C hP 10 (gs_0_14 hW ha_l0) (ct_42 _ _ _ _) rfl rfl dX9_settleHands_7 ?_
    refine lv_icmp_ge (tgt := 24) hx hb dX9_settleHands_8 (by decide) (fun c1 => ?_) (fun c1 => ?_)
    · have hf := g_ip c1 hf
      exact hk24 X _ _ _ hP hS (lv_sub hl [0] rfl) ha_l0 hf
    · have hf := g_in c1 hf
      refine lv_aload_n hx hb dX9_settleHands_11 rfl (lv_at hl 0 rfl) ?_
      refine r_get C hP ha_l0 (ct_0 _ _ _ _) fx_X9_78 (fg_0_14 _ _ _) dX9_settleHands_12 ?_
      refine lv_iload_n hx hb dX9_settleHands_15 rfl (lv_at hl 1 rfl) ?_
      refine lv_iload_n hx hb dX9_settleHands_16 rfl (lv_at hl 1 rfl) ?_
      obtain ⟨j2, h3, hf⟩ := rd_in hf
      refine r_iast C hP hS (gs_0_14 hW ha_l0) (fun _ => ct_42 _ _ _ _) h3 dX9_settleHands_17 (fun H locs hP hS => ?_)
      obtain ⟨X4, e5, hf⟩ := gl_in hf
      rw [← e5] at hP
      obtain ⟨v6, e7, hf⟩ := gl_in hf
      refine lv_iinc (v := v6) (lv' := [(1, .int v6), (0, .ref (ad 0 0))]) hx hb dX9_settleHands_18 hl (k := 1) rfl (by rw [e7]; rfl) (Nat.le_of_ble_eq_true rfl) rfl (fun ls hl => ?_)
      refine lv_goto (tgt := 2) hx hb dX9_settleHands_21 (by decide) ?_
      exact ih v6 X4 _ _ _ hP hS (lv_sub hl [1, 0] rfl) ha_l0 hf

set_option maxRecDepth 100000 in
set_option maxHeartbeats 4000000 in
theorem w_X9_settleHands {p : Program} {l : Launch} {e : Env} {s : State} {m : MethodId} {args : Array Value} {below : List Frame} {meth : Method} {c : Code} {D : va_G} {cA : Nat → ClassId} {ad : Nat → Nat → Nat} {NL : List (Nat × Nat)} {A : Nat → Prop} {rr : Int32} {XX : gM} {N : Nat} (C : gCx p c meth m s args cX9_settleHands 6 none RX9 D cA ad NL A) (hW : gWf NL) (hD0 : gD (fun _ => True) ad NL) (ha_l0 : (0, 0) ∈ NL) : ∀ (X : gM) (H : Heap) (locs : List Loc) (ls : Array Slot), gH D cA ad NL X H → va_S A s.heap H locs → lv_has ls 6 [(0, .ref (ad 0 0))] → X9_settleHands (gal NL) N  X = some (rr, XX) → W p l e rm_X9_settleHands s m args below meth c H locs 0 0 (MQ below (gQ D cA ad NL none XX A) args s 0 0 A) (F0 m 0 ls []) := by
  have hx := C.1
  have hb := C.2.1
  intro X H locs ls hP hS hl hf
  rw [X9_settleHands] at hf
  refine lv_iconst (v := 0) hx hb dX9_settleHands_0 (by decide) ?_
  refine lv_istore_n (i := 1) (lv' := [(1, .int (0 : Int32)), (0, .ref (ad 0 0))]) hx hb dX9_settleHands_1 rfl hl (Nat.le_of_ble_eq_true rfl) rfl (fun ls hl => ?_)
  exact s_X9_settleHands_L2 C hW hD0 (fun Y H locs ls hP hS hl ha_l0 hf => s_X9_settleHands_J24 C hW hD0 Y _ _ _ hP hS hl ha_l0 hf) N (0 : Int32) X _ _ _ hP hS (lv_sub hl [1, 0] rfl) ha_l0 hf

theorem s_X9_settleHands {l : Launch} {D : va_G} {cA : Nat → ClassId} {ad : Nat → Nat → Nat} {NL : List (Nat × Nat)} {N : Nat} {X : gM} {rr : Int32} {XX : gM} (hW : gWf NL) (hD0 : gD (fun _ => True) ad NL) (ha_l0 : (0, 0) ∈ NL) (hf : X9_settleHands (gal NL) N  X = some (rr, XX)) : gC l yX9_settleHands cX9_settleHands 6 none rm_X9_settleHands D cA ad NL [.ref (ad 0 0)] X none XX :=
  g_ofW (by decide) hD0 (Nat.le_of_ble_eq_true rfl) rfl (fun p e s m below meth c ls C hP hS hl => w_X9_settleHands C hW hD0 ha_l0 X _ _ ls hP hS hl hf)
def rm_X9_sheetGroup : Room := { frames := 0, cells := 0, slots := 0, locals := 0 }
set_option maxRecDepth 100000 in
set_option maxHeartbeats 4000000 in
theorem s_X9_sheetGroup_J113 {p : Program} {l : Launch} {e : Env} {s : State} {m : MethodId} {args : Array Value} {below : List Frame} {meth : Method} {c : Code} {D : va_G} {cA : Nat → ClassId} {ad : Nat → Nat → Nat} {NL : List (Nat × Nat)} {A : Nat → Prop} {rr : Int32} {XX : gM} {N : Nat} (C : gCx p c meth m s args cX9_sheetGroup 9 (some .int) RX9 D cA ad NL A) (hW : gWf NL) (hD0 : gD (fun _ => True) ad NL) : ∀ (p2 : Int32) (X : gM) (H : Heap) (locs : List Loc) (ls : Array Slot), gH D cA ad NL X H → va_S A s.heap H locs → lv_has ls 9 [(2, .int p2)] → X9_sheetGroup_J113 (gal NL) N p2 X = some (rr, XX) → W p l e rm_X9_sheetGroup s m args below meth c H locs 0 0 (MQ below (gQ D cA ad NL (some (.int rr)) XX A) args s 0 0 A) (F0 m 113 ls []) := by
  have hx := C.1
  have hb := C.2.1
  intro p2 X H locs ls hP hS hl hf
  rw [X9_sheetGroup_J113] at hf
  refine lv_iload_n hx hb dX9_sheetGroup_113 rfl (lv_at hl 0 rfl) ?_
  obtain ⟨rfl, rfl⟩ := g_s1 hf
  exact r_iret C hP hS dX9_sheetGroup_114

set_option maxRecDepth 100000 in
set_option maxHeartbeats 4000000 in
theorem s_X9_sheetGroup_J107 {p : Program} {l : Launch} {e : Env} {s : State} {m : MethodId} {args : Array Value} {below : List Frame} {meth : Method} {c : Code} {D : va_G} {cA : Nat → ClassId} {ad : Nat → Nat → Nat} {NL : List (Nat × Nat)} {A : Nat → Prop} {rr : Int32} {XX : gM} {N : Nat} {kk : Int32 → Int32 → gM → Option (Int32 × gM)} {k113 : Int32 → gM → Option (Int32 × gM)} (C : gCx p c meth m s args cX9_sheetGroup 9 (some .int) RX9 D cA ad NL A) (hW : gWf NL) (hD0 : gD (fun _ => True) ad NL) (hkk : ∀ (p2 : Int32) (p3 : Int32) (Y : gM) (H : Heap) (locs : List Loc) (ls : Array Slot), gH D cA ad NL Y H → va_S A s.heap H locs → lv_has ls 9 [(0, .ref (ad 0 0)), (2, .int p2), (3, .int p3)] → (0, 0) ∈ NL → kk p2 p3 Y = some (rr, XX) → W p l e rm_X9_sheetGroup s m args below meth c H locs 0 0 (MQ below (gQ D cA ad NL (some (.int rr)) XX A) args s 0 0 A) (F0 m 6 ls [])) (hk113 : ∀ (p2 : Int32) (Y : gM) (H : Heap) (locs : List Loc) (ls : Array Slot), gH D cA ad NL Y H → va_S A s.heap H locs → lv_has ls 9 [(2, .int p2)] → k113 p2 Y = some (rr, XX) → W p l e rm_X9_sheetGroup s m args below meth c H locs 0 0 (MQ below (gQ D cA ad NL (some (.int rr)) XX A) args s 0 0 A) (F0 m 113 ls [])) : ∀ (p2 : Int32) (p3 : Int32) (X : gM) (H : Heap) (locs : List Loc) (ls : Array Slot), gH D cA ad NL X H → va_S A s.heap H locs → lv_has ls 9 [(0, .ref (ad 0 0)), (2, .int p2), (3, .int p3)] → (0, 0) ∈ NL → X9_sheetGroup_J107 (gal NL) N kk k113 p2 p3 X = some (rr, XX) → W p l e rm_X9_sheetGroup s m args below meth c H locs 0 0 (MQ below (gQ D cA ad NL (some (.int rr)) XX A) args s 0 0 A) (F0 m 107 ls []) := by
  have hx := C.1
  have hb := C.2.1
  intro p2 p3 X H locs ls hP hS hl ha_l0 hf
  rw [X9_sheetGroup_J107] at hf
  obtain ⟨v1, e2, hf⟩ := gl_in hf
  refine lv_iinc (v := v1) (lv' := [(3, .int v1), (0, .ref (ad 0 0)), (2, .int p2)]) hx hb dX9_sheetGroup_107 hl (k := 2) rfl (by rw [e2]; rfl) (Nat.le_of_ble_eq_true rfl) rfl (fun ls hl => ?_)
  refine lv_goto (tgt := 6) hx hb dX9_sheetGroup_110 (by decide) ?_
  exact hkk p2 v1 X _ _ _ hP hS (lv_sub hl [1, 2, 0] rfl) ha_l0 hf

set_option maxRecDepth 100000 in
set_option maxHeartbeats 4000000 in
theorem s_X9_sheetGroup_J101 {p : Program} {l : Launch} {e : Env} {s : State} {m : MethodId} {args : Array Value} {below : List Frame} {meth : Method} {c : Code} {D : va_G} {cA : Nat → ClassId} {ad : Nat → Nat → Nat} {NL : List (Nat × Nat)} {A : Nat → Prop} {rr : Int32} {XX : gM} {N : Nat} {kk : Int32 → Int32 → Int32 → Int32 → gM → Option (Int32 × gM)} {k107 : Int32 → Int32 → gM → Option (Int32 × gM)} (C : gCx p c meth m s args cX9_sheetGroup 9 (some .int) RX9 D cA ad NL A) (hW : gWf NL) (hD0 : gD (fun _ => True) ad NL) (hkk : ∀ (p2 : Int32) (p3 : Int32) (p5 : Int32) (p6 : Int32) (Y : gM) (H : Heap) (locs : List Loc) (ls : Array Slot), gH D cA ad NL Y H → va_S A s.heap H locs → lv_has ls 9 [(0, .ref (ad 0 0)), (2, .int p2), (3, .int p3), (4, .ref (ad 22 0)), (5, .int p5), (6, .int p6)] → (0, 0) ∈ NL → (22, 0) ∈ NL → kk p2 p3 p5 p6 Y = some (rr, XX) → W p l e rm_X9_sheetGroup s m args below meth c H locs 0 0 (MQ below (gQ D cA ad NL (some (.int rr)) XX A) args s 0 0 A) (F0 m 26 ls [])) (hk107 : ∀ (p2 : Int32) (p3 : Int32) (Y : gM) (H : Heap) (locs : List Loc) (ls : Array Slot), gH D cA ad NL Y H → va_S A s.heap H locs → lv_has ls 9 [(0, .ref (ad 0 0)), (2, .int p2), (3, .int p3)] → (0, 0) ∈ NL → k107 p2 p3 Y = some (rr, XX) → W p l e rm_X9_sheetGroup s m args below meth c H locs 0 0 (MQ below (gQ D cA ad NL (some (.int rr)) XX A) args s 0 0 A) (F0 m 107 ls [])) : ∀ (p2 : Int32) (p3 : Int32) (p5 : Int32) (p6 : Int32) (X : gM) (H : Heap) (locs : List Loc) (ls : Array Slot), gH D cA ad NL X H → va_S A s.heap H locs → lv_has ls 9 [(0, .ref (ad 0 0)), (2, .int p2), (3, .int p3), (4, .ref (ad 22 0)), (5, .int p5), (6, .int p6)] → (0, 0) ∈ NL → (22, 0) ∈ NL → X9_sheetGroup_J101 (gal NL) N kk k107 p2 p3 p5 p6 X = some (rr, XX) → W p l e rm_X9_sheetGroup s m args below meth c H locs 0 0 (MQ below (gQ D cA ad NL (some (.int rr)) XX A) args s 0 0 A) (F0 m 101 ls []) := by
  have hx := C.1
  have hb := C.2.1
  intro p2 p3 p5 p6 X H locs ls hP hS hl ha_l0 ha_l4 hf
  rw [X9_sheetGroup_J101] at hf
  obtain ⟨v1, e2, hf⟩ := gl_in hf
  refine lv_iinc (v := v1) (lv' := [(6, .int v1), (0, .ref (ad 0 0)), (2, .int p2), (3, .int p3), (4, .ref (ad 22 0)), (5, .int p5)]) hx hb dX9_sheetGroup_101 hl (k := 5) rfl (by rw [e2]; rfl) (Nat.le_of_ble_eq_true rfl) rfl (fun ls hl => ?_)
  refine lv_goto (tgt := 26) hx hb dX9_sheetGroup_104 (by decide) ?_
  exact hkk p2 p3 p5 v1 X _ _ _ hP hS (lv_sub hl [1, 2, 3, 4, 5, 0] rfl) ha_l0 ha_l4 hf

set_option maxRecDepth 100000 in
set_option maxHeartbeats 4000000 in
theorem s_X9_sheetGroup_L26 {p : Program} {l : Launch} {e : Env} {s : State} {m : MethodId} {args : Array Value} {below : List Frame} {meth : Method} {c : Code} {D : va_G} {cA : Nat → ClassId} {ad : Nat → Nat → Nat} {NL : List (Nat × Nat)} {A : Nat → Prop} {rr : Int32} {XX : gM} {N : Nat} {k107 : Int32 → Int32 → gM → Option (Int32 × gM)} (C : gCx p c meth m s args cX9_sheetGroup 9 (some .int) RX9 D cA ad NL A) (hW : gWf NL) (hD0 : gD (fun _ => True) ad NL) (hk107 : ∀ (p2 : Int32) (p3 : Int32) (Y : gM) (H : Heap) (locs : List Loc) (ls : Array Slot), gH D cA ad NL Y H → va_S A s.heap H locs → lv_has ls 9 [(0, .ref (ad 0 0)), (2, .int p2), (3, .int p3)] → (0, 0) ∈ NL → k107 p2 p3 Y = some (rr, XX) → W p l e rm_X9_sheetGroup s m args below meth c H locs 0 0 (MQ below (gQ D cA ad NL (some (.int rr)) XX A) args s 0 0 A) (F0 m 107 ls [])) : ∀ (n : Nat) (p2 : Int32) (p3 : Int32) (p5 : Int32) (p6 : Int32) (X : gM) (H : Heap) (locs : List Loc) (ls : Array Slot), gH D cA ad NL X H → va_S A s.heap H locs → lv_has ls 9 [(0, .ref (ad 0 0)), (2, .int p2), (3, .int p3), (4, .ref (ad 22 0)), (5, .int p5), (6, .int p6)] → (0, 0) ∈ NL → (22, 0) ∈ NL → X9_sheetGroup_L26 (gal NL) N k107 n p2 p3 p5 p6 X = some (rr, XX) → W p l e rm_X9_sheetGroup s m args below meth c H locs 0 0 (MQ below (gQ D cA ad NL (some (.int rr)) XX A) args s 0 0 A) (F0 m 26 ls []) := by
  have hx := C.1
  have hb := C.2.1
  intro n
  induction n with
  | zero =>
    intro p2 p3 p5 p6 X H locs ls hP hS hl ha_l0 ha_l4 hf
    rw [X9_sheetGroup_L26] at hf
    cases hf
  | succ n ih =>
    intro p2 p3 p5 p6 X H locs ls hP hS hl ha_l0 ha_l4 hf
    rw [X9_sheetGroup_L26] at hf
    refine lv_iload hx hb dX9_sheetGroup_26 (lv_at hl 5 rfl) ?_
    refine lv_iload hx hb dX9_sheetGroup_28 (lv_at hl 4 rfl) ?_
    refine lv_icmp_ge (tgt := 107) hx hb dX9_sheetGroup_30 (by decide) (fun c1 => ?_) (fun c1 => ?_)
    · have hf := g_ip c1 hf
      exact hk107 p2 p3 X _ _ _ hP hS (lv_sub hl [0, 1, 2] rfl) ha_l0 hf
    · have hf := g_in c1 hf
      refine lv_aload hx hb dX9_sheetGroup_33 (lv_at hl 3 rfl) ?_
      refine lv_iload hx hb dX9_sheetGroup_35 (lv_at hl 5 rfl) ?_
      obtain ⟨j2, h3, hf⟩ := rd_in hf
      refine r_aldq C hP ha_l4 (ct_22 _ _ _ _) rfl h3 dX9_sheetGroup_37 ?_
      refine r_astore (i := 7) (lv' := [(7, va_rf (ro ad 23 (X 22 0 j2))), (0, .ref (ad 0 0)), (2, .int p2), (3, .int p3), (4, .ref (ad 22 0)), (5, .int p5), (6, .int p6)]) C dX9_sheetGroup_38 hl (Nat.le_of_ble_eq_true rfl) rfl (fun ls hl => ?_)
      refine r_aload C dX9_sheetGroup_40 (lv_at hl 0 rfl) ?_
      refine r_ifnull (tgt := 101) C dX9_sheetGroup_42 (by decide) (fun c4 => ?_) (fun c4 => ?_)
      · have hf := g_ip c4 hf
        exact s_X9_sheetGroup_J101 C hW hD0 ih hk107 p2 p3 p5 p6 X _ _ _ hP hS (lv_sub hl [1, 2, 3, 4, 5, 6] rfl) ha_l0 ha_l4 hf
      · have hf := g_in c4 hf
        refine r_aload C dX9_sheetGroup_45 (lv_at hl 0 rfl) ?_
        obtain ⟨j5, h6, hf⟩ := dr_in hf
        rw [gref h6]
        refine r_get C hP h6.2.2 (ct_23 _ _ _ _) fx_X9_315 (fg_23_2 _ _ _) dX9_sheetGroup_47 ?_
        refine lv_if_ne (tgt := 101) hx hb dX9_sheetGroup_50 (by decide) (fun c7 => ?_) (fun c7 => ?_)
        · have hf := g_in c7 hf
          exact s_X9_sheetGroup_J101 C hW hD0 ih hk107 p2 p3 p5 p6 X _ _ _ hP hS (lv_sub hl [1, 2, 3, 4, 5, 6] rfl) ha_l0 ha_l4 hf
        · have hf := g_ip c7 hf
          refine r_aload C dX9_sheetGroup_53 (lv_at hl 0 rfl) ?_
          rw [gref h6]
          refine r_get C hP h6.2.2 (ct_23 _ _ _ _) fx_X9_318 (fg_23_5 _ _ _) dX9_sheetGroup_55 ?_
          refine lv_if_eq (tgt := 101) hx hb dX9_sheetGroup_58 (by decide) (fun c8 => ?_) (fun c8 => ?_)
          · have hf := g_ip c8 hf
            exact s_X9_sheetGroup_J101 C hW hD0 ih hk107 p2 p3 p5 p6 X _ _ _ hP hS (lv_sub hl [1, 2, 3, 4, 5, 6] rfl) ha_l0 ha_l4 hf
          · have hf := g_in c8 hf
            refine r_aload C dX9_sheetGroup_61 (lv_at hl 0 rfl) ?_
            rw [gref h6]
            refine r_get C hP h6.2.2 (ct_23 _ _ _ _) fx_X9_217 (fg_23_6 _ _ _) dX9_sheetGroup_63 ?_
            refine lv_if_ne (tgt := 72) hx hb dX9_sheetGroup_66 (by decide) (fun c9 => ?_) (fun c9 => ?_)
            · have hf := g_in c9 hf
              refine lv_iconst (v := 1) hx hb dX9_sheetGroup_72 (by decide) ?_
              refine r_aload C dX9_sheetGroup_73 (lv_at hl 0 rfl) ?_
              rw [gref h6]
              refine r_get C hP h6.2.2 (ct_23 _ _ _ _) fx_X9_321 (fg_23_3 _ _ _) dX9_sheetGroup_75 ?_
              refine lv_ishl hx hb dX9_sheetGroup_78 ?_
              refine lv_iconst (v := 1) hx hb dX9_sheetGroup_79 (by decide) ?_
              refine r_aload C dX9_sheetGroup_80 (lv_at hl 0 rfl) ?_
              rw [gref h6]
              refine r_get C hP h6.2.2 (ct_23 _ _ _ _) fx_X9_324 (fg_23_4 _ _ _) dX9_sheetGroup_82 ?_
              refine lv_ishl hx hb dX9_sheetGroup_85 ?_
              refine lv_ior hx hb dX9_sheetGroup_86 ?_
              refine g_top hf (fun v10 e11 hf => ?_)
              refine lv_istore (i := 8) (lv' := [(8, .int v10), (7, va_rf (ro ad 23 (X 22 0 j2))), (0, .ref (ad 0 0)), (2, .int p2), (3, .int p3), (4, .ref (ad 22 0)), (5, .int p5), (6, .int p6)]) hx hb dX9_sheetGroup_87 hl (Nat.le_of_ble_eq_true rfl) (by simp [g_cat, g_catr, g_cati]) (fun ls hl => ?_)
              refine lv_iload_n hx hb dX9_sheetGroup_89 rfl (lv_at hl 3 rfl) ?_
              refine lv_iload hx hb dX9_sheetGroup_90 (lv_at hl 0 rfl) ?_
              refine lv_iand hx hb dX9_sheetGroup_92 ?_
              refine lv_if_eq (tgt := 101) hx hb dX9_sheetGroup_93 (by decide) (fun c12 => ?_) (fun c12 => ?_)
              · have hf := g_ip c12 hf
                exact s_X9_sheetGroup_J101 C hW hD0 ih hk107 p2 p3 p5 p6 X _ _ _ hP hS (lv_sub hl [2, 3, 4, 5, 6, 7] rfl) ha_l0 ha_l4 hf
              · have hf := g_in c12 hf
                refine lv_iload_n hx hb dX9_sheetGroup_96 rfl (lv_at hl 3 rfl) ?_
                refine lv_iload hx hb dX9_sheetGroup_97 (lv_at hl 0 rfl) ?_
                refine lv_ior hx hb dX9_sheetGroup_99 ?_
                refine g_top hf (fun v13 e14 hf => ?_)
                refine lv_istore_n (i := 2) (lv' := [(2, .int v13), (8, .int v10), (7, va_rf (ro ad 23 (X 22 0 j2))), (0, .ref (ad 0 0)), (3, .int p3), (4, .ref (ad 22 0)), (5, .int p5), (6, .int p6)]) hx hb dX9_sheetGroup_100 rfl hl (Nat.le_of_ble_eq_true rfl) rfl (fun ls hl => ?_)
                exact s_X9_sheetGroup_J101 C hW hD0 ih hk107 v13 p3 p5 p6 X _ _ _ hP hS (lv_sub hl [3, 0, 4, 5, 6, 7] rfl) ha_l0 ha_l4 hf
            · have hf := g_ip c9 hf
              refine lv_goto (tgt := 101) hx hb dX9_sheetGroup_69 (by decide) ?_
              exact s_X9_sheetGroup_J101 C hW hD0 ih hk107 p2 p3 p5 p6 X _ _ _ hP hS (lv_sub hl [1, 2, 3, 4, 5, 6] rfl) ha_l0 ha_l4 hf

set_option maxRecDepth 100000 in
set_option maxHeartbeats 4000000 in
theorem s_X9_sheetGroup_L6 {p : Program} {l : Launch} {e : Env} {s : State} {m : MethodId} {args : Array Value} {below : List Frame} {meth : Method} {c : Code} {D : va_G} {cA : Nat → ClassId} {ad : Nat → Nat → Nat} {NL : List (Nat × Nat)} {A : Nat → Prop} {rr : Int32} {XX : gM} {N : Nat} {k113 : Int32 → gM → Option (Int32 × gM)} (C : gCx p c meth m s args cX9_sheetGroup 9 (some .int) RX9 D cA ad NL A) (hW : gWf NL) (hD0 : gD (fun _ => True) ad NL) (hk113 : ∀ (p2 : Int32) (Y : gM) (H : Heap) (locs : List Loc) (ls : Array Slot), gH D cA ad NL Y H → va_S A s.heap H locs → lv_has ls 9 [(2, .int p2)] → k113 p2 Y = some (rr, XX) → W p l e rm_X9_sheetGroup s m args below meth c H locs 0 0 (MQ below (gQ D cA ad NL (some (.int rr)) XX A) args s 0 0 A) (F0 m 113 ls [])) : ∀ (n : Nat) (p2 : Int32) (p3 : Int32) (X : gM) (H : Heap) (locs : List Loc) (ls : Array Slot), gH D cA ad NL X H → va_S A s.heap H locs → lv_has ls 9 [(0, .ref (ad 0 0)), (2, .int p2), (3, .int p3)] → (0, 0) ∈ NL → X9_sheetGroup_L6 (gal NL) N k113 n p2 p3 X = some (rr, XX) → W p l e rm_X9_sheetGroup s m args below meth c H locs 0 0 (MQ below (gQ D cA ad NL (some (.int rr)) XX A) args s 0 0 A) (F0 m 6 ls []) := by
  have hx := C.1
  have hb := C.2.1
  intro n
  induction n with
  | zero =>
    intro p2 p3 X H locs ls hP hS hl ha_l0 hf
    rw [X9_sheetGroup_L6] at hf
    cases hf
  | succ n ih =>
    intro p2 p3 X H locs ls hP hS hl ha_l0 hf
    rw [X9_sheetGroup_L6] at hf
    refine lv_iload_n hx hb dX9_sheetGroup_6 rfl (lv_at hl 2 rfl) ?_
    refine lv_bipush (v := 10) hx hb dX9_sheetGroup_7 (by decide) ?_
    refine lv_icmp_ge (tgt := 113) hx hb dX9_sheetGroup_9 (by decide) (fun c1 => ?_) (fun c1 => ?_)
    · have hf := g_ip c1 hf
      exact hk113 p2 X _ _ _ hP hS (lv_sub hl [1] rfl) hf
    · have hf := g_in c1 hf
      refine lv_aload_n hx hb dX9_sheetGroup_12 rfl (lv_at hl 0 rfl) ?_
      refine r_get C hP ha_l0 (ct_0 _ _ _ _) fx_X9_35 (fg_0_4 _ _ _) dX9_sheetGroup_13 ?_
      refine lv_astore (i := 4) (lv' := [(4, .ref (ad 22 0)), (0, .ref (ad 0 0)), (2, .int p2), (3, .int p3)]) hx hb dX9_sheetGroup_16 hl (Nat.le_of_ble_eq_true rfl) rfl (fun ls hl => ?_)
      refine lv_aload hx hb dX9_sheetGroup_18 (lv_at hl 0 rfl) ?_
      refine r_alen C hP 12 (gs_0_4 hW ha_l0) (ct_22 _ _ _ _) rfl rfl dX9_sheetGroup_20 ?_
      refine lv_istore (i := 5) (lv' := [(5, .int (12 : Int32)), (4, .ref (ad 22 0)), (0, .ref (ad 0 0)), (2, .int p2), (3, .int p3)]) hx hb dX9_sheetGroup_21 hl (Nat.le_of_ble_eq_true rfl) rfl (fun ls hl => ?_)
      refine lv_iconst (v := 0) hx hb dX9_sheetGroup_23 (by decide) ?_
      refine lv_istore (i := 6) (lv' := [(6, .int (0 : Int32)), (5, .int (12 : Int32)), (4, .ref (ad 22 0)), (0, .ref (ad 0 0)), (2, .int p2), (3, .int p3)]) hx hb dX9_sheetGroup_24 hl (Nat.le_of_ble_eq_true rfl) rfl (fun ls hl => ?_)
      exact s_X9_sheetGroup_L26 C hW hD0 (fun p2 p3 Y H locs ls hP hS hl ha_l0 hf => s_X9_sheetGroup_J107 C hW hD0 ih hk113 p2 p3 Y _ _ _ hP hS hl ha_l0 hf) N p2 p3 (12 : Int32) (0 : Int32) X _ _ _ hP hS (lv_sub hl [3, 4, 5, 2, 1, 0] rfl) ha_l0 (gs_0_4 hW ha_l0) hf

set_option maxRecDepth 100000 in
set_option maxHeartbeats 4000000 in
theorem w_X9_sheetGroup {p : Program} {l : Launch} {e : Env} {s : State} {m : MethodId} {args : Array Value} {below : List Frame} {meth : Method} {c : Code} {D : va_G} {cA : Nat → ClassId} {ad : Nat → Nat → Nat} {NL : List (Nat × Nat)} {A : Nat → Prop} {rr : Int32} {XX : gM} {N : Nat} (C : gCx p c meth m s args cX9_sheetGroup 9 (some .int) RX9 D cA ad NL A) (hW : gWf NL) (hD0 : gD (fun _ => True) ad NL) {p1 : Int32} (ha_l0 : (0, 0) ∈ NL) : ∀ (X : gM) (H : Heap) (locs : List Loc) (ls : Array Slot), gH D cA ad NL X H → va_S A s.heap H locs → lv_has ls 9 [(0, .ref (ad 0 0)), (1, .int p1)] → X9_sheetGroup (gal NL) N p1 X = some (rr, XX) → W p l e rm_X9_sheetGroup s m args below meth c H locs 0 0 (MQ below (gQ D cA ad NL (some (.int rr)) XX A) args s 0 0 A) (F0 m 0 ls []) := by
  have hx := C.1
  have hb := C.2.1
  intro X H locs ls hP hS hl hf
  rw [X9_sheetGroup] at hf
  refine lv_iconst (v := 1) hx hb dX9_sheetGroup_0 (by decide) ?_
  refine lv_iload_n hx hb dX9_sheetGroup_1 rfl (lv_at hl 1 rfl) ?_
  refine lv_ishl hx hb dX9_sheetGroup_2 ?_
  refine g_top hf (fun v1 e2 hf => ?_)
  refine lv_istore_n (i := 2) (lv' := [(2, .int v1), (0, .ref (ad 0 0)), (1, .int p1)]) hx hb dX9_sheetGroup_3 rfl hl (Nat.le_of_ble_eq_true rfl) rfl (fun ls hl => ?_)
  refine lv_iconst (v := 0) hx hb dX9_sheetGroup_4 (by decide) ?_
  refine lv_istore_n (i := 3) (lv' := [(3, .int (0 : Int32)), (2, .int v1), (0, .ref (ad 0 0)), (1, .int p1)]) hx hb dX9_sheetGroup_5 rfl hl (Nat.le_of_ble_eq_true rfl) rfl (fun ls hl => ?_)
  exact s_X9_sheetGroup_L6 C hW hD0 (fun p2 Y H locs ls hP hS hl hf => s_X9_sheetGroup_J113 C hW hD0 p2 Y _ _ _ hP hS hl hf) N v1 (0 : Int32) X _ _ _ hP hS (lv_sub hl [2, 1, 0] rfl) ha_l0 hf

theorem s_X9_sheetGroup {l : Launch} {D : va_G} {cA : Nat → ClassId} {ad : Nat → Nat → Nat} {NL : List (Nat × Nat)} {N : Nat} {p1 : Int32} {X : gM} {rr : Int32} {XX : gM} (hW : gWf NL) (hD0 : gD (fun _ => True) ad NL) (ha_l0 : (0, 0) ∈ NL) (hf : X9_sheetGroup (gal NL) N p1 X = some (rr, XX)) : gC l yX9_sheetGroup cX9_sheetGroup 9 (some .int) rm_X9_sheetGroup D cA ad NL [.ref (ad 0 0), .int p1] X (some (.int rr)) XX :=
  g_ofW (by decide) hD0 (Nat.le_of_ble_eq_true rfl) rfl (fun p e s m below meth c ls C hP hS hl => w_X9_sheetGroup C hW hD0 ha_l0 X _ _ ls hP hS hl hf)
def rm_X9_spansOf : Room := { frames := 1, cells := 0, slots := 0, locals := 28 }
set_option maxRecDepth 100000 in
set_option maxHeartbeats 4000000 in
theorem s_X9_spansOf_J73 {p : Program} {l : Launch} {e : Env} {s : State} {m : MethodId} {args : Array Value} {below : List Frame} {meth : Method} {c : Code} {D : va_G} {cA : Nat → ClassId} {ad : Nat → Nat → Nat} {NL : List (Nat × Nat)} {A : Nat → Prop} {rr : Int32} {XX : gM} {N : Nat} (C : gCx p c meth m s args cX9_spansOf 8 (some .int) RX9 D cA ad NL A) (hW : gWf NL) (hD0 : gD (fun _ => True) ad NL) : ∀ (p3 : Int32) (X : gM) (H : Heap) (locs : List Loc) (ls : Array Slot), gH D cA ad NL X H → va_S A s.heap H locs → lv_has ls 8 [(3, .int p3)] → X9_spansOf_J73 (gal NL) N p3 X = some (rr, XX) → W p l e rm_X9_spansOf s m args below meth c H locs 0 0 (MQ below (gQ D cA ad NL (some (.int rr)) XX A) args s 0 0 A) (F0 m 73 ls []) := by
  have hx := C.1
  have hb := C.2.1
  intro p3 X H locs ls hP hS hl hf
  rw [X9_spansOf_J73] at hf
  refine lv_iload_n hx hb dX9_spansOf_73 rfl (lv_at hl 0 rfl) ?_
  obtain ⟨rfl, rfl⟩ := g_s1 hf
  exact r_iret C hP hS dX9_spansOf_74

set_option maxRecDepth 100000 in
set_option maxHeartbeats 4000000 in
theorem s_X9_spansOf_J67 {p : Program} {l : Launch} {e : Env} {s : State} {m : MethodId} {args : Array Value} {below : List Frame} {meth : Method} {c : Code} {D : va_G} {cA : Nat → ClassId} {ad : Nat → Nat → Nat} {NL : List (Nat × Nat)} {A : Nat → Prop} {rr : Int32} {XX : gM} {N : Nat} {kk : Int32 → Int32 → Int32 → Int32 → gM → Option (Int32 × gM)} {k73 : Int32 → gM → Option (Int32 × gM)} (C : gCx p c meth m s args cX9_spansOf 8 (some .int) RX9 D cA ad NL A) (hW : gWf NL) (hD0 : gD (fun _ => True) ad NL) (hkk : ∀ (p2 : Int32) (p3 : Int32) (p5 : Int32) (p6 : Int32) (Y : gM) (H : Heap) (locs : List Loc) (ls : Array Slot), gH D cA ad NL Y H → va_S A s.heap H locs → lv_has ls 8 [(2, .int p2), (3, .int p3), (4, .ref (ad 4 0)), (5, .int p5), (6, .int p6)] → (4, 0) ∈ NL → kk p2 p3 p5 p6 Y = some (rr, XX) → W p l e rm_X9_spansOf s m args below meth c H locs 0 0 (MQ below (gQ D cA ad NL (some (.int rr)) XX A) args s 0 0 A) (F0 m 27 ls [])) (hk73 : ∀ (p3 : Int32) (Y : gM) (H : Heap) (locs : List Loc) (ls : Array Slot), gH D cA ad NL Y H → va_S A s.heap H locs → lv_has ls 8 [(3, .int p3)] → k73 p3 Y = some (rr, XX) → W p l e rm_X9_spansOf s m args below meth c H locs 0 0 (MQ below (gQ D cA ad NL (some (.int rr)) XX A) args s 0 0 A) (F0 m 73 ls [])) : ∀ (p2 : Int32) (p3 : Int32) (p5 : Int32) (p6 : Int32) (X : gM) (H : Heap) (locs : List Loc) (ls : Array Slot), gH D cA ad NL X H → va_S A s.heap H locs → lv_has ls 8 [(2, .int p2), (3, .int p3), (4, .ref (ad 4 0)), (5, .int p5), (6, .int p6)] → (4, 0) ∈ NL → X9_spansOf_J67 (gal NL) N kk k73 p2 p3 p5 p6 X = some (rr, XX) → W p l e rm_X9_spansOf s m args below meth c H locs 0 0 (MQ below (gQ D cA ad NL (some (.int rr)) XX A) args s 0 0 A) (F0 m 67 ls []) := by
  have hx := C.1
  have hb := C.2.1
  intro p2 p3 p5 p6 X H locs ls hP hS hl ha_l4 hf
  rw [X9_spansOf_J67] at hf
  obtain ⟨v1, e2, hf⟩ := gl_in hf
  refine lv_iinc (v := v1) (lv' := [(6, .int v1), (2, .int p2), (3, .int p3), (4, .ref (ad 4 0)), (5, .int p5)]) hx hb dX9_spansOf_67 hl (k := 4) rfl (by rw [e2]; rfl) (Nat.le_of_ble_eq_true rfl) rfl (fun ls hl => ?_)
  refine lv_goto (tgt := 27) hx hb dX9_spansOf_70 (by decide) ?_
  exact hkk p2 p3 p5 v1 X _ _ _ hP hS (lv_sub hl [1, 2, 3, 4, 0] rfl) ha_l4 hf

set_option maxRecDepth 100000 in
set_option maxHeartbeats 4000000 in
theorem s_X9_spansOf_L27 {p : Program} {l : Launch} {e : Env} {s : State} {m : MethodId} {args : Array Value} {below : List Frame} {meth : Method} {c : Code} {D : va_G} {cA : Nat → ClassId} {ad : Nat → Nat → Nat} {NL : List (Nat × Nat)} {A : Nat → Prop} {rr : Int32} {XX : gM} {N : Nat} {k73 : Int32 → gM → Option (Int32 × gM)} (C : gCx p c meth m s args cX9_spansOf 8 (some .int) RX9 D cA ad NL A) (hW : gWf NL) (hD0 : gD (fun _ => True) ad NL) (hk73 : ∀ (p3 : Int32) (Y : gM) (H : Heap) (locs : List Loc) (ls : Array Slot), gH D cA ad NL Y H → va_S A s.heap H locs → lv_has ls 8 [(3, .int p3)] → k73 p3 Y = some (rr, XX) → W p l e rm_X9_spansOf s m args below meth c H locs 0 0 (MQ below (gQ D cA ad NL (some (.int rr)) XX A) args s 0 0 A) (F0 m 73 ls [])) : ∀ (n : Nat) (p2 : Int32) (p3 : Int32) (p5 : Int32) (p6 : Int32) (X : gM) (H : Heap) (locs : List Loc) (ls : Array Slot), gH D cA ad NL X H → va_S A s.heap H locs → lv_has ls 8 [(2, .int p2), (3, .int p3), (4, .ref (ad 4 0)), (5, .int p5), (6, .int p6)] → (4, 0) ∈ NL → X9_spansOf_L27 (gal NL) N k73 n p2 p3 p5 p6 X = some (rr, XX) → W p l e rm_X9_spansOf s m args below meth c H locs 0 0 (MQ below (gQ D cA ad NL (some (.int rr)) XX A) args s 0 0 A) (F0 m 27 ls []) := by
  have hx := C.1
  have hb := C.2.1
  intro n
  induction n with
  | zero =>
    intro p2 p3 p5 p6 X H locs ls hP hS hl ha_l4 hf
    rw [X9_spansOf_L27] at hf
    cases hf
  | succ n ih =>
    intro p2 p3 p5 p6 X H locs ls hP hS hl ha_l4 hf
    rw [X9_spansOf_L27] at hf
    refine lv_iload hx hb dX9_spansOf_27 (lv_at hl 4 rfl) ?_
    refine lv_iload hx hb dX9_spansOf_29 (lv_at hl 3 rfl) ?_
    refine lv_icmp_ge (tgt := 73) hx hb dX9_spansOf_31 (by decide) (fun c1 => ?_) (fun c1 => ?_)
    · have hf := g_ip c1 hf
      exact hk73 p3 X _ _ _ hP hS (lv_sub hl [1] rfl) hf
    · have hf := g_in c1 hf
      refine lv_aload hx hb dX9_spansOf_34 (lv_at hl 2 rfl) ?_
      refine lv_iload hx hb dX9_spansOf_36 (lv_at hl 4 rfl) ?_
      obtain ⟨j2, h3, hf⟩ := rd_in hf
      refine r_aldq C hP ha_l4 (ct_4 _ _ _ _) rfl h3 dX9_spansOf_38 ?_
      refine r_astore (i := 7) (lv' := [(7, va_rf (ro ad 5 (X 4 0 j2))), (2, .int p2), (3, .int p3), (4, .ref (ad 4 0)), (5, .int p5), (6, .int p6)]) C dX9_spansOf_39 hl (Nat.le_of_ble_eq_true rfl) rfl (fun ls hl => ?_)
      refine r_aload C dX9_spansOf_41 (lv_at hl 0 rfl) ?_
      refine r_ifnull (tgt := 67) C dX9_spansOf_43 (by decide) (fun c4 => ?_) (fun c4 => ?_)
      · have hf := g_ip c4 hf
        exact s_X9_spansOf_J67 C hW hD0 ih hk73 p2 p3 p5 p6 X _ _ _ hP hS (lv_sub hl [1, 2, 3, 4, 5] rfl) ha_l4 hf
      · have hf := g_in c4 hf
        refine lv_iload_n hx hb dX9_spansOf_46 rfl (lv_at hl 1 rfl) ?_
        refine r_aload C dX9_spansOf_47 (lv_at hl 0 rfl) ?_
        obtain ⟨j5, h6, hf⟩ := dr_in hf
        rw [gref h6]
        refine r_get C hP h6.2.2 (ct_5 _ _ _ _) fx_X9_115 (fg_5_0 _ _ _) dX9_spansOf_49 ?_
        refine lv_ishr hx hb dX9_spansOf_52 ?_
        refine lv_iconst (v := 1) hx hb dX9_spansOf_53 (by decide) ?_
        refine lv_iand hx hb dX9_spansOf_54 ?_
        refine lv_iconst (v := 1) hx hb dX9_spansOf_55 (by decide) ?_
        refine lv_icmp_ne (tgt := 67) hx hb dX9_spansOf_56 (by decide) (fun c7 => ?_) (fun c7 => ?_)
        · have hf := g_in c7 hf
          exact s_X9_spansOf_J67 C hW hD0 ih hk73 p2 p3 p5 p6 X _ _ _ hP hS (lv_sub hl [1, 2, 3, 4, 5] rfl) ha_l4 hf
        · have hf := g_ip c7 hf
          refine lv_iload_n hx hb dX9_spansOf_59 rfl (lv_at hl 2 rfl) ?_
          refine r_aload C dX9_spansOf_60 (lv_at hl 0 rfl) ?_
          rw [gref h6]
          refine r_get C hP h6.2.2 (ct_5 _ _ _ _) fx_X9_256 (fg_5_12 _ _ _) dX9_spansOf_62 ?_
          refine lv_iand hx hb dX9_spansOf_65 ?_
          refine g_top hf (fun v8 e9 hf => ?_)
          refine lv_istore_n (i := 3) (lv' := [(3, .int v8), (7, va_rf (ro ad 5 (X 4 0 j2))), (2, .int p2), (4, .ref (ad 4 0)), (5, .int p5), (6, .int p6)]) hx hb dX9_spansOf_66 rfl hl (Nat.le_of_ble_eq_true rfl) rfl (fun ls hl => ?_)
          exact s_X9_spansOf_J67 C hW hD0 ih hk73 p2 v8 p5 p6 X _ _ _ hP hS (lv_sub hl [2, 0, 3, 4, 5] rfl) ha_l4 hf

set_option maxRecDepth 100000 in
set_option maxHeartbeats 4000000 in
theorem w_X9_spansOf {p : Program} {l : Launch} {e : Env} {s : State} {m : MethodId} {args : Array Value} {below : List Frame} {meth : Method} {c : Code} {D : va_G} {cA : Nat → ClassId} {ad : Nat → Nat → Nat} {NL : List (Nat × Nat)} {A : Nat → Prop} {rr : Int32} {XX : gM} {N : Nat} (C : gCx p c meth m s args cX9_spansOf 8 (some .int) RX9 D cA ad NL A) (hW : gWf NL) (hD0 : gD (fun _ => True) ad NL) {p1 : Nat} (ha_l0 : (0, 0) ∈ NL) (ha_l1 : (5, p1) ∈ NL) : ∀ (X : gM) (H : Heap) (locs : List Loc) (ls : Array Slot), gH D cA ad NL X H → va_S A s.heap H locs → lv_has ls 8 [(0, .ref (ad 0 0)), (1, .ref (ad 5 p1))] → X9_spansOf (gal NL) N p1 X = some (rr, XX) → W p l e rm_X9_spansOf s m args below meth c H locs 0 0 (MQ below (gQ D cA ad NL (some (.int rr)) XX A) args s 0 0 A) (F0 m 0 ls []) := by
  have hx := C.1
  have hb := C.2.1
  intro X H locs ls hP hS hl hf
  rw [X9_spansOf] at hf
  refine lv_aload_n hx hb dX9_spansOf_0 rfl (lv_at hl 0 rfl) ?_
  refine lv_aload_n hx hb dX9_spansOf_1 rfl (lv_at hl 1 rfl) ?_
  refine r_get C hP ha_l1 (ct_5 _ _ _ _) fx_X9_115 (fg_5_0 _ _ _) dX9_spansOf_2 ?_
  obtain ⟨r1, X2, h3, hf⟩ := b2_in hf
  refine r_cVi (rest := []) C hP hS hl.1 (s_X9_sheetGroup hW hD0 ha_l0 h3) ix_X9_sheetGroup iv_X9_sheetGroup lk_X9_312 ⟨rfl, rfl, Nat.le_of_ble_eq_true rfl, Nat.le_of_ble_eq_true rfl⟩ ha_l0 (ct_0 _ _ _ _) rfl rfl rfl rfl (Nat.le_of_ble_eq_true rfl) ⟨Nat.zero_le _, Nat.zero_le _⟩ dX9_spansOf_5 (fun H locs hP hS => ?_)
  refine lv_istore_n (i := 2) (lv' := [(2, .int r1), (0, .ref (ad 0 0)), (1, .ref (ad 5 p1))]) hx hb dX9_spansOf_8 rfl hl (Nat.le_of_ble_eq_true rfl) rfl (fun ls hl => ?_)
  refine lv_sipush (v := 4095) hx hb dX9_spansOf_9 (by decide) ?_
  refine lv_istore_n (i := 3) (lv' := [(3, .int (4095 : Int32)), (2, .int r1), (0, .ref (ad 0 0)), (1, .ref (ad 5 p1))]) hx hb dX9_spansOf_12 rfl hl (Nat.le_of_ble_eq_true rfl) rfl (fun ls hl => ?_)
  refine lv_aload_n hx hb dX9_spansOf_13 rfl (lv_at hl 2 rfl) ?_
  refine r_get C hP ha_l0 (ct_0 _ _ _ _) fx_X9_18 (fg_0_1 _ _ _) dX9_spansOf_14 ?_
  refine lv_astore (i := 4) (lv' := [(4, .ref (ad 4 0)), (3, .int (4095 : Int32)), (2, .int r1), (0, .ref (ad 0 0)), (1, .ref (ad 5 p1))]) hx hb dX9_spansOf_17 hl (Nat.le_of_ble_eq_true rfl) rfl (fun ls hl => ?_)
  refine lv_aload hx hb dX9_spansOf_19 (lv_at hl 0 rfl) ?_
  refine r_alen C hP 10 (gs_0_1 hW ha_l0) (ct_4 _ _ _ _) rfl rfl dX9_spansOf_21 ?_
  refine lv_istore (i := 5) (lv' := [(5, .int (10 : Int32)), (4, .ref (ad 4 0)), (3, .int (4095 : Int32)), (2, .int r1), (0, .ref (ad 0 0)), (1, .ref (ad 5 p1))]) hx hb dX9_spansOf_22 hl (Nat.le_of_ble_eq_true rfl) rfl (fun ls hl => ?_)
  refine lv_iconst (v := 0) hx hb dX9_spansOf_24 (by decide) ?_
  refine lv_istore (i := 6) (lv' := [(6, .int (0 : Int32)), (5, .int (10 : Int32)), (4, .ref (ad 4 0)), (3, .int (4095 : Int32)), (2, .int r1), (0, .ref (ad 0 0)), (1, .ref (ad 5 p1))]) hx hb dX9_spansOf_25 hl (Nat.le_of_ble_eq_true rfl) rfl (fun ls hl => ?_)
  exact s_X9_spansOf_L27 C hW hD0 (fun p3 Y H locs ls hP hS hl hf => s_X9_spansOf_J73 C hW hD0 p3 Y _ _ _ hP hS hl hf) N r1 (4095 : Int32) (10 : Int32) (0 : Int32) X2 _ _ _ hP hS (lv_sub hl [4, 3, 2, 1, 0] rfl) (gs_0_1 hW ha_l0) hf

theorem s_X9_spansOf {l : Launch} {D : va_G} {cA : Nat → ClassId} {ad : Nat → Nat → Nat} {NL : List (Nat × Nat)} {N : Nat} {p1 : Nat} {X : gM} {rr : Int32} {XX : gM} (hW : gWf NL) (hD0 : gD (fun _ => True) ad NL) (ha_l0 : (0, 0) ∈ NL) (ha_l1 : (5, p1) ∈ NL) (hf : X9_spansOf (gal NL) N p1 X = some (rr, XX)) : gC l yX9_spansOf cX9_spansOf 8 (some .int) rm_X9_spansOf D cA ad NL [.ref (ad 0 0), .ref (ad 5 p1)] X (some (.int rr)) XX :=
  g_ofW (by decide) hD0 (Nat.le_of_ble_eq_true rfl) rfl (fun p e s m below meth c ls C hP hS hl => w_X9_spansOf C hW hD0 ha_l0 ha_l1 X _ _ ls hP hS hl hf)
def rm_X9_worth : Room := { frames := 16, cells := 0, slots := 0, locals := 445 }
set_option maxRecDepth 100000 in
set_option maxHeartbeats 4000000 in
theorem s_X9_worth_J89 {p : Program} {l : Launch} {e : Env} {s : State} {m : MethodId} {args : Array Value} {below : List Frame} {meth : Method} {c : Code} {D : va_G} {cA : Nat → ClassId} {ad : Nat → Nat → Nat} {NL : List (Nat × Nat)} {A : Nat → Prop} {rr : Int32} {XX : gM} {N : Nat} (C : gCx p c meth m s args cX9_worth 9 (some .int) RX9 D cA ad NL A) (hW : gWf NL) (hD0 : gD (fun _ => True) ad NL) : ∀ (p1 : Int32) (X : gM) (H : Heap) (locs : List Loc) (ls : Array Slot), gH D cA ad NL X H → va_S A s.heap H locs → lv_has ls 9 [(1, .int p1)] → X9_worth_J89 (gal NL) N p1 X = some (rr, XX) → W p l e rm_X9_worth s m args below meth c H locs 0 0 (MQ below (gQ D cA ad NL (some (.int rr)) XX A) args s 0 0 A) (F0 m 89 ls []) := by
  have hx := C.1
  have hb := C.2.1
  intro p1 X H locs ls hP hS hl hf
  rw [X9_worth_J89] at hf
  refine lv_iload_n hx hb dX9_worth_89 rfl (lv_at hl 0 rfl) ?_
  obtain ⟨rfl, rfl⟩ := g_s1 hf
  exact r_iret C hP hS dX9_worth_90

set_option maxRecDepth 100000 in
set_option maxHeartbeats 4000000 in
theorem s_X9_worth_J83 {p : Program} {l : Launch} {e : Env} {s : State} {m : MethodId} {args : Array Value} {below : List Frame} {meth : Method} {c : Code} {D : va_G} {cA : Nat → ClassId} {ad : Nat → Nat → Nat} {NL : List (Nat × Nat)} {A : Nat → Prop} {rr : Int32} {XX : gM} {N : Nat} {kk : Int32 → Int32 → Int32 → Int32 → gM → Option (Int32 × gM)} {k89 : Int32 → gM → Option (Int32 × gM)} (C : gCx p c meth m s args cX9_worth 9 (some .int) RX9 D cA ad NL A) (hW : gWf NL) (hD0 : gD (fun _ => True) ad NL) (hkk : ∀ (p1 : Int32) (p2 : Int32) (p4 : Int32) (p5 : Int32) (Y : gM) (H : Heap) (locs : List Loc) (ls : Array Slot), gH D cA ad NL Y H → va_S A s.heap H locs → lv_has ls 9 [(0, .ref (ad 0 0)), (1, .int p1), (2, .int p2), (3, .ref (ad 4 0)), (4, .int p4), (5, .int p5)] → (0, 0) ∈ NL → (4, 0) ∈ NL → kk p1 p2 p4 p5 Y = some (rr, XX) → W p l e rm_X9_worth s m args below meth c H locs 0 0 (MQ below (gQ D cA ad NL (some (.int rr)) XX A) args s 0 0 A) (F0 m 16 ls [])) (hk89 : ∀ (p1 : Int32) (Y : gM) (H : Heap) (locs : List Loc) (ls : Array Slot), gH D cA ad NL Y H → va_S A s.heap H locs → lv_has ls 9 [(1, .int p1)] → k89 p1 Y = some (rr, XX) → W p l e rm_X9_worth s m args below meth c H locs 0 0 (MQ below (gQ D cA ad NL (some (.int rr)) XX A) args s 0 0 A) (F0 m 89 ls [])) : ∀ (p1 : Int32) (p2 : Int32) (p4 : Int32) (p5 : Int32) (X : gM) (H : Heap) (locs : List Loc) (ls : Array Slot), gH D cA ad NL X H → va_S A s.heap H locs → lv_has ls 9 [(0, .ref (ad 0 0)), (1, .int p1), (2, .int p2), (3, .ref (ad 4 0)), (4, .int p4), (5, .int p5)] → (0, 0) ∈ NL → (4, 0) ∈ NL → X9_worth_J83 (gal NL) N kk k89 p1 p2 p4 p5 X = some (rr, XX) → W p l e rm_X9_worth s m args below meth c H locs 0 0 (MQ below (gQ D cA ad NL (some (.int rr)) XX A) args s 0 0 A) (F0 m 83 ls []) := by
  have hx := C.1
  have hb := C.2.1
  intro p1 p2 p4 p5 X H locs ls hP hS hl ha_l0 ha_l3 hf
  rw [X9_worth_J83] at hf
  obtain ⟨v1, e2, hf⟩ := gl_in hf
  refine lv_iinc (v := v1) (lv' := [(5, .int v1), (0, .ref (ad 0 0)), (1, .int p1), (2, .int p2), (3, .ref (ad 4 0)), (4, .int p4)]) hx hb dX9_worth_83 hl (k := 5) rfl (by rw [e2]; rfl) (Nat.le_of_ble_eq_true rfl) rfl (fun ls hl => ?_)
  refine lv_goto (tgt := 16) hx hb dX9_worth_86 (by decide) ?_
  exact hkk p1 p2 p4 v1 X _ _ _ hP hS (lv_sub hl [1, 2, 3, 4, 5, 0] rfl) ha_l0 ha_l3 hf

set_option maxRecDepth 100000 in
set_option maxHeartbeats 4000000 in
theorem s_X9_worth_J65 {p : Program} {l : Launch} {e : Env} {s : State} {m : MethodId} {args : Array Value} {below : List Frame} {meth : Method} {c : Code} {D : va_G} {cA : Nat → ClassId} {ad : Nat → Nat → Nat} {NL : List (Nat × Nat)} {A : Nat → Prop} {rr : Int32} {XX : gM} {N : Nat} {kk : Int32 → Int32 → Int32 → Int32 → gM → Option (Int32 × gM)} {k89 : Int32 → gM → Option (Int32 × gM)} (C : gCx p c meth m s args cX9_worth 9 (some .int) RX9 D cA ad NL A) (hW : gWf NL) (hD0 : gD (fun _ => True) ad NL) (hkk : ∀ (p1 : Int32) (p2 : Int32) (p4 : Int32) (p5 : Int32) (Y : gM) (H : Heap) (locs : List Loc) (ls : Array Slot), gH D cA ad NL Y H → va_S A s.heap H locs → lv_has ls 9 [(0, .ref (ad 0 0)), (1, .int p1), (2, .int p2), (3, .ref (ad 4 0)), (4, .int p4), (5, .int p5)] → (0, 0) ∈ NL → (4, 0) ∈ NL → kk p1 p2 p4 p5 Y = some (rr, XX) → W p l e rm_X9_worth s m args below meth c H locs 0 0 (MQ below (gQ D cA ad NL (some (.int rr)) XX A) args s 0 0 A) (F0 m 16 ls [])) (hk89 : ∀ (p1 : Int32) (Y : gM) (H : Heap) (locs : List Loc) (ls : Array Slot), gH D cA ad NL Y H → va_S A s.heap H locs → lv_has ls 9 [(1, .int p1)] → k89 p1 Y = some (rr, XX) → W p l e rm_X9_worth s m args below meth c H locs 0 0 (MQ below (gQ D cA ad NL (some (.int rr)) XX A) args s 0 0 A) (F0 m 89 ls [])) : ∀ (p1 : Int32) (p2 : Int32) (p4 : Int32) (p5 : Int32) (p6 : Int32) (s0 : Int32) (s1 : Int32) (X : gM) (H : Heap) (locs : List Loc) (ls : Array Slot), gH D cA ad NL X H → va_S A s.heap H locs → lv_has ls 9 [(0, .ref (ad 0 0)), (1, .int p1), (2, .int p2), (3, .ref (ad 4 0)), (4, .int p4), (5, .int p5), (6, va_rf (ro ad 5 p6))] → (0, 0) ∈ NL → (4, 0) ∈ NL → X9_worth_J65 (gal NL) N kk k89 p1 p2 p4 p5 p6 s0 s1 X = some (rr, XX) → W p l e rm_X9_worth s m args below meth c H locs 0 0 (MQ below (gQ D cA ad NL (some (.int rr)) XX A) args s 0 0 A) (F0 m 65 ls [.int s1, .int s0]) := by
  have hx := C.1
  have hb := C.2.1
  intro p1 p2 p4 p5 p6 s0 s1 X H locs ls hP hS hl ha_l0 ha_l3 hf
  rw [X9_worth_J65] at hf
  refine lv_imul hx hb dX9_worth_65 ?_
  refine g_top hf (fun v1 e2 hf => ?_)
  refine lv_istore (i := 8) (lv' := [(8, .int v1), (0, .ref (ad 0 0)), (1, .int p1), (2, .int p2), (3, .ref (ad 4 0)), (4, .int p4), (5, .int p5), (6, va_rf (ro ad 5 p6))]) hx hb dX9_worth_66 hl (Nat.le_of_ble_eq_true rfl) rfl (fun ls hl => ?_)
  refine lv_iload hx hb dX9_worth_68 (lv_at hl 0 rfl) ?_
  refine lv_iload_n hx hb dX9_worth_70 rfl (lv_at hl 3 rfl) ?_
  refine lv_icmp_le (tgt := 83) hx hb dX9_worth_71 (by decide) (fun c3 => ?_) (fun c3 => ?_)
  · have hf := g_ip c3 hf
    exact s_X9_worth_J83 C hW hD0 hkk hk89 p1 p2 p4 p5 X _ _ _ hP hS (lv_sub hl [1, 2, 3, 4, 5, 6] rfl) ha_l0 ha_l3 hf
  · have hf := g_in c3 hf
    refine lv_iload hx hb dX9_worth_74 (lv_at hl 0 rfl) ?_
    refine lv_istore_n (i := 2) (lv' := [(2, .int v1), (8, .int v1), (0, .ref (ad 0 0)), (1, .int p1), (3, .ref (ad 4 0)), (4, .int p4), (5, .int p5), (6, va_rf (ro ad 5 p6))]) hx hb dX9_worth_76 rfl hl (Nat.le_of_ble_eq_true rfl) rfl (fun ls hl => ?_)
    refine r_aload C dX9_worth_77 (lv_at hl 7 rfl) ?_
    obtain ⟨j4, h5, hf⟩ := dr_in hf
    rw [gref h5]
    refine r_get C hP h5.2.2 (ct_5 _ _ _ _) fx_X9_115 (fg_5_0 _ _ _) dX9_worth_79 ?_
    refine g_top hf (fun v6 e7 hf => ?_)
    refine lv_istore_n (i := 1) (lv' := [(1, .int v6), (2, .int v1), (8, .int v1), (0, .ref (ad 0 0)), (3, .ref (ad 4 0)), (4, .int p4), (5, .int p5), (6, va_rf (ro ad 5 p6))]) hx hb dX9_worth_82 rfl hl (Nat.le_of_ble_eq_true rfl) rfl (fun ls hl => ?_)
    exact s_X9_worth_J83 C hW hD0 hkk hk89 v6 v1 p4 p5 X _ _ _ hP hS (lv_sub hl [3, 0, 1, 4, 5, 6] rfl) ha_l0 ha_l3 hf

set_option maxRecDepth 100000 in
set_option maxHeartbeats 4000000 in
theorem s_X9_worth_L16 {p : Program} {l : Launch} {e : Env} {s : State} {m : MethodId} {args : Array Value} {below : List Frame} {meth : Method} {c : Code} {D : va_G} {cA : Nat → ClassId} {ad : Nat → Nat → Nat} {NL : List (Nat × Nat)} {A : Nat → Prop} {rr : Int32} {XX : gM} {N : Nat} {k89 : Int32 → gM → Option (Int32 × gM)} (C : gCx p c meth m s args cX9_worth 9 (some .int) RX9 D cA ad NL A) (hW : gWf NL) (hD0 : gD (fun _ => True) ad NL) (hk89 : ∀ (p1 : Int32) (Y : gM) (H : Heap) (locs : List Loc) (ls : Array Slot), gH D cA ad NL Y H → va_S A s.heap H locs → lv_has ls 9 [(1, .int p1)] → k89 p1 Y = some (rr, XX) → W p l e rm_X9_worth s m args below meth c H locs 0 0 (MQ below (gQ D cA ad NL (some (.int rr)) XX A) args s 0 0 A) (F0 m 89 ls [])) : ∀ (n : Nat) (p1 : Int32) (p2 : Int32) (p4 : Int32) (p5 : Int32) (X : gM) (H : Heap) (locs : List Loc) (ls : Array Slot), gH D cA ad NL X H → va_S A s.heap H locs → lv_has ls 9 [(0, .ref (ad 0 0)), (1, .int p1), (2, .int p2), (3, .ref (ad 4 0)), (4, .int p4), (5, .int p5)] → (0, 0) ∈ NL → (4, 0) ∈ NL → X9_worth_L16 (gal NL) N k89 n p1 p2 p4 p5 X = some (rr, XX) → W p l e rm_X9_worth s m args below meth c H locs 0 0 (MQ below (gQ D cA ad NL (some (.int rr)) XX A) args s 0 0 A) (F0 m 16 ls []) := by
  have hx := C.1
  have hb := C.2.1
  intro n
  induction n with
  | zero =>
    intro p1 p2 p4 p5 X H locs ls hP hS hl ha_l0 ha_l3 hf
    rw [X9_worth_L16] at hf
    cases hf
  | succ n ih =>
    intro p1 p2 p4 p5 X H locs ls hP hS hl ha_l0 ha_l3 hf
    rw [X9_worth_L16] at hf
    refine lv_iload hx hb dX9_worth_16 (lv_at hl 5 rfl) ?_
    refine lv_iload hx hb dX9_worth_18 (lv_at hl 4 rfl) ?_
    refine lv_icmp_ge (tgt := 89) hx hb dX9_worth_20 (by decide) (fun c1 => ?_) (fun c1 => ?_)
    · have hf := g_ip c1 hf
      exact hk89 p1 X _ _ _ hP hS (lv_sub hl [1] rfl) hf
    · have hf := g_in c1 hf
      refine lv_aload_n hx hb dX9_worth_23 rfl (lv_at hl 3 rfl) ?_
      refine lv_iload hx hb dX9_worth_24 (lv_at hl 5 rfl) ?_
      obtain ⟨j2, h3, hf⟩ := rd_in hf
      refine r_aldq C hP ha_l3 (ct_4 _ _ _ _) rfl h3 dX9_worth_26 ?_
      refine r_astore (i := 6) (lv' := [(6, va_rf (ro ad 5 (X 4 0 j2))), (0, .ref (ad 0 0)), (1, .int p1), (2, .int p2), (3, .ref (ad 4 0)), (4, .int p4), (5, .int p5)]) C dX9_worth_27 hl (Nat.le_of_ble_eq_true rfl) rfl (fun ls hl => ?_)
      refine r_aload C dX9_worth_29 (lv_at hl 0 rfl) ?_
      refine r_ifnonnull (tgt := 37) C dX9_worth_31 (by decide) (fun c4 => ?_) (fun c4 => ?_)
      · have hf := g_ip c4 hf
        refine lv_goto (tgt := 83) hx hb dX9_worth_34 (by decide) ?_
        exact s_X9_worth_J83 C hW hD0 ih hk89 p1 p2 p4 p5 X _ _ _ hP hS (lv_sub hl [1, 2, 3, 4, 5, 6] rfl) ha_l0 ha_l3 hf
      · have hf := g_in c4 hf
        refine lv_aload_n hx hb dX9_worth_37 rfl (lv_at hl 1 rfl) ?_
        refine r_aload C dX9_worth_38 (lv_at hl 0 rfl) ?_
        refine lv_iconst (v := 0) hx hb dX9_worth_40 (by decide) ?_
        obtain ⟨j5, h6, hf⟩ := dr_in hf
        rw [gref h6]
        obtain ⟨r7, X8, h9, hf⟩ := b2_in hf
        refine r_cVi (rest := []) C hP hS hl.1 (s_X9_placesOf hW hD0 ha_l0 h6.2.2 h9) ix_X9_placesOf iv_X9_placesOf lk_X9_231 ⟨rfl, rfl, Nat.le_of_ble_eq_true rfl, Nat.le_of_ble_eq_true rfl⟩ ha_l0 (ct_0 _ _ _ _) rfl rfl rfl rfl (Nat.le_of_ble_eq_true rfl) ⟨Nat.zero_le _, Nat.zero_le _⟩ dX9_worth_41 (fun H locs hP hS => ?_)
        refine lv_istore (i := 7) (lv' := [(7, .int r7), (6, va_rf (ro ad 5 (X 4 0 j2))), (0, .ref (ad 0 0)), (1, .int p1), (2, .int p2), (3, .ref (ad 4 0)), (4, .int p4), (5, .int p5)]) hx hb dX9_worth_44 hl (Nat.le_of_ble_eq_true rfl) (by simp [g_cat, g_catr, g_cati]) (fun ls hl => ?_)
        refine r_aload C dX9_worth_46 (lv_at hl 1 rfl) ?_
        rw [gref h6]
        obtain ⟨r10, X11, h12, hf⟩ := b2_in hf
        refine r_cVi (rest := []) C hP hS hl.1 (s_X2_mixedCells hW hD0 h6.2.2 h12) ix_X2_mixedCells iv_X2_mixedCells lk_X9_298 ⟨rfl, rfl, Nat.le_of_ble_eq_true rfl, Nat.le_of_ble_eq_true rfl⟩ h6.2.2 (ct_5 _ _ _ _) rfl rfl rfl rfl (Nat.le_of_ble_eq_true rfl) ⟨Nat.zero_le _, Nat.zero_le _⟩ dX9_worth_48 (fun H locs hP hS => ?_)
        refine lv_iload hx hb dX9_worth_51 (lv_at hl 0 rfl) ?_
        refine lv_if_ne (tgt := 60) hx hb dX9_worth_53 (by decide) (fun c13 => ?_) (fun c13 => ?_)
        · have hf := g_in c13 hf
          refine lv_iload hx hb dX9_worth_60 (lv_at hl 0 rfl) ?_
          obtain ⟨r14, X15, h16, hf⟩ := b2_in hf
          refine r_cSi (rest := [.int r10]) C hP hS hl.1 (s_J6_bitCount_0f7a4 hW hD0  h16) ix_J6_bitCount_0f7a4 is_J6_bitCount_0f7a4 ls_X9_286 ⟨rfl, rfl, Nat.le_of_ble_eq_true rfl, Nat.le_of_ble_eq_true rfl⟩ rfl rfl (Nat.le_of_ble_eq_true rfl) ⟨Nat.zero_le _, Nat.zero_le _⟩ dX9_worth_62 (fun H locs hP hS => ?_)
          exact s_X9_worth_J65 C hW hD0 ih hk89 p1 p2 p4 p5 ((X 4 0 j2)) r10 r14 X15 _ _ _ hP hS (lv_sub hl [2, 3, 4, 5, 6, 7, 1] rfl) ha_l0 ha_l3 hf
        · have hf := g_ip c13 hf
          refine lv_iconst (v := 1) hx hb dX9_worth_56 (by decide) ?_
          refine lv_goto (tgt := 65) hx hb dX9_worth_57 (by decide) ?_
          exact s_X9_worth_J65 C hW hD0 ih hk89 p1 p2 p4 p5 ((X 4 0 j2)) r10 (1 : Int32) X11 _ _ _ hP hS (lv_sub hl [2, 3, 4, 5, 6, 7, 1] rfl) ha_l0 ha_l3 hf

set_option maxRecDepth 100000 in
set_option maxHeartbeats 4000000 in
theorem w_X9_worth {p : Program} {l : Launch} {e : Env} {s : State} {m : MethodId} {args : Array Value} {below : List Frame} {meth : Method} {c : Code} {D : va_G} {cA : Nat → ClassId} {ad : Nat → Nat → Nat} {NL : List (Nat × Nat)} {A : Nat → Prop} {rr : Int32} {XX : gM} {N : Nat} (C : gCx p c meth m s args cX9_worth 9 (some .int) RX9 D cA ad NL A) (hW : gWf NL) (hD0 : gD (fun _ => True) ad NL) (ha_l0 : (0, 0) ∈ NL) : ∀ (X : gM) (H : Heap) (locs : List Loc) (ls : Array Slot), gH D cA ad NL X H → va_S A s.heap H locs → lv_has ls 9 [(0, .ref (ad 0 0))] → X9_worth (gal NL) N  X = some (rr, XX) → W p l e rm_X9_worth s m args below meth c H locs 0 0 (MQ below (gQ D cA ad NL (some (.int rr)) XX A) args s 0 0 A) (F0 m 0 ls []) := by
  have hx := C.1
  have hb := C.2.1
  intro X H locs ls hP hS hl hf
  rw [X9_worth] at hf
  refine lv_iconst (v := -1) hx hb dX9_worth_0 (by decide) ?_
  refine lv_istore_n (i := 1) (lv' := [(1, .int (-1 : Int32)), (0, .ref (ad 0 0))]) hx hb dX9_worth_1 rfl hl (Nat.le_of_ble_eq_true rfl) rfl (fun ls hl => ?_)
  refine lv_iconst (v := 0) hx hb dX9_worth_2 (by decide) ?_
  refine lv_istore_n (i := 2) (lv' := [(2, .int (0 : Int32)), (1, .int (-1 : Int32)), (0, .ref (ad 0 0))]) hx hb dX9_worth_3 rfl hl (Nat.le_of_ble_eq_true rfl) rfl (fun ls hl => ?_)
  refine lv_aload_n hx hb dX9_worth_4 rfl (lv_at hl 2 rfl) ?_
  refine r_get C hP ha_l0 (ct_0 _ _ _ _) fx_X9_18 (fg_0_1 _ _ _) dX9_worth_5 ?_
  refine lv_astore_n (i := 3) (lv' := [(3, .ref (ad 4 0)), (2, .int (0 : Int32)), (1, .int (-1 : Int32)), (0, .ref (ad 0 0))]) hx hb dX9_worth_8 rfl hl (Nat.le_of_ble_eq_true rfl) rfl (fun ls hl => ?_)
  refine lv_aload_n hx hb dX9_worth_9 rfl (lv_at hl 0 rfl) ?_
  refine r_alen C hP 10 (gs_0_1 hW ha_l0) (ct_4 _ _ _ _) rfl rfl dX9_worth_10 ?_
  refine lv_istore (i := 4) (lv' := [(4, .int (10 : Int32)), (3, .ref (ad 4 0)), (2, .int (0 : Int32)), (1, .int (-1 : Int32)), (0, .ref (ad 0 0))]) hx hb dX9_worth_11 hl (Nat.le_of_ble_eq_true rfl) rfl (fun ls hl => ?_)
  refine lv_iconst (v := 0) hx hb dX9_worth_13 (by decide) ?_
  refine lv_istore (i := 5) (lv' := [(5, .int (0 : Int32)), (4, .int (10 : Int32)), (3, .ref (ad 4 0)), (2, .int (0 : Int32)), (1, .int (-1 : Int32)), (0, .ref (ad 0 0))]) hx hb dX9_worth_14 hl (Nat.le_of_ble_eq_true rfl) rfl (fun ls hl => ?_)
  exact s_X9_worth_L16 C hW hD0 (fun p1 Y H locs ls hP hS hl hf => s_X9_worth_J89 C hW hD0 p1 Y _ _ _ hP hS hl hf) N (-1 : Int32) (0 : Int32) (10 : Int32) (0 : Int32) X _ _ _ hP hS (lv_sub hl [5, 4, 3, 2, 1, 0] rfl) ha_l0 (gs_0_1 hW ha_l0) hf

theorem s_X9_worth {l : Launch} {D : va_G} {cA : Nat → ClassId} {ad : Nat → Nat → Nat} {NL : List (Nat × Nat)} {N : Nat} {X : gM} {rr : Int32} {XX : gM} (hW : gWf NL) (hD0 : gD (fun _ => True) ad NL) (ha_l0 : (0, 0) ∈ NL) (hf : X9_worth (gal NL) N  X = some (rr, XX)) : gC l yX9_worth cX9_worth 9 (some .int) rm_X9_worth D cA ad NL [.ref (ad 0 0)] X (some (.int rr)) XX :=
  g_ofW (by decide) hD0 (Nat.le_of_ble_eq_true rfl) rfl (fun p e s m below meth c ls C hP hS hl => w_X9_worth C hW hD0 ha_l0 X _ _ ls hP hS hl hf)
