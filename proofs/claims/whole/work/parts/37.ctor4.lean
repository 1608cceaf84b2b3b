/-! the constructor of the reference -/
def nw_X10_init : List (Nat × Nat) := [(44, 0), (45, 0), (46, 0), (47, 0), (48, 0), (49, 0), (50, 0), (51, 0), (52, 0), (53, 0), (54, 0), (55, 0), (56, 0), (57, 0), (58, 0), (59, 0), (60, 0), (61, 0), (62, 0), (63, 0), (64, 0), (65, 0), (66, 0), (67, 0), (68, 0), (69, 0), (70, 0), (71, 0), (72, 0), (73, 0), (74, 0), (75, 0), (76, 0), (77, 0), (78, 0), (79, 0), (80, 0)]
theorem nwl_X10_init : (nw_X10_init).length = 37 := rfl
def X10_init_J363 (al : Nat → Nat → Bool) (N : Nat) (X : gM) : Option (Int32 × gM) := some ((0 : Int32), X)
def X10_init_L343 (al : Nat → Nat → Bool) (N : Nat) (k363 : gM → Option (Int32 × gM)) : Nat → Int32 → gM → Option (Int32 × gM)
  | 0, _, _ => none
  | n + 1, p1, X => if (960 : Int32) ≤ p1 then (k363 X) else ((dr al 56 (X 92 0 13)).bind fun j2 => (rd p1 960).bind fun j4 => gl (mset X 56 j2 j4 (-1 : Int32)) fun X6 => gl (p1 + (1 : Int32)) fun v8 => X10_init_L343 al N k363 n v8 X6)
def X10_init_J341 (al : Nat → Nat → Bool) (N : Nat) (X : gM) : Option (Int32 × gM) := X10_init_L343 al N (fun Y => X10_init_J363 al N Y) N (0 : Int32) X
def X10_init_L316 (al : Nat → Nat → Bool) (N : Nat) (k341 : gM → Option (Int32 × gM)) : Nat → Int32 → gM → Option (Int32 × gM)
  | 0, _, _ => none
  | n + 1, p1, X => if (3 : Int32) ≤ p1 then (k341 X) else ((dr al 54 (X 92 0 11)).bind fun j2 => (rd p1 3).bind fun j4 => gl (mset X 54 j2 j4 (1 : Int32)) fun X6 => (dr al 55 (X6 92 0 12)).bind fun j8 => (rd p1 3).bind fun j10 => gl (mset X6 55 j8 j10 (1 : Int32)) fun X12 => gl (p1 + (1 : Int32)) fun v14 => X10_init_L316 al N k341 n v14 X12)
def X10_init_T (al : Nat → Nat → Bool) (N : Nat) (X : gM) : Option (Int32 × gM) := (dr al 53 (X 92 0 10)).bind fun j1 => (rd (0 : Int32) 2).bind fun j3 => gl (mset X 53 j1 j3 (4 : Int32)) fun X5 => (dr al 53 (X5 92 0 10)).bind fun j7 => (rd (1 : Int32) 2).bind fun j9 => gl (mset X5 53 j7 j9 (4 : Int32)) fun X11 => X10_init_L316 al N (fun Y => X10_init_J341 al N Y) N (0 : Int32) X11
def X10_init (al : Nat → Nat → Bool) (N : Nat) (X : gM) : Option (Int32 × gM) := gl (msl X 44 0 (fun _ => 0)) fun X1 => (rn 0).bind fun w5 => gl (mset X1 92 0 1 w5) fun X3 => gl (msl X3 45 0 (fun _ => 0)) fun X7 => (rn 0).bind fun w11 => gl (mset X7 92 0 2 w11) fun X9 => gl (msl X9 46 0 (fun _ => 0)) fun X13 => (rn 0).bind fun w17 => gl (mset X13 92 0 3 w17) fun X15 => gl (msl X15 47 0 (fun _ => 0)) fun X19 => (rn 0).bind fun w23 => gl (mset X19 92 0 4 w23) fun X21 => gl (msl X21 48 0 (fun _ => 0)) fun X25 => (rn 0).bind fun w29 => gl (mset X25 92 0 5 w29) fun X27 => gl (msl X27 49 0 (fun _ => 0)) fun X31 => (rn 0).bind fun w35 => gl (mset X31 92 0 6 w35) fun X33 => gl (msl X33 50 0 (fun _ => 0)) fun X37 => (rn 0).bind fun w41 => gl (mset X37 92 0 7 w41) fun X39 => gl (msl X39 51 0 (fun _ => 0)) fun X43 => (rn 0).bind fun w47 => gl (mset X43 92 0 8 w47) fun X45 => gl (msl X45 52 0 (fun _ => 0)) fun X49 => (rn 0).bind fun w53 => gl (mset X49 92 0 9 w53) fun X51 => gl (msl X51 53 0 (fun _ => 0)) fun X55 => (rn 0).bind fun w59 => gl (mset X55 92 0 10 w59) fun X57 => gl (msl X57 54 0 (fun _ => 0)) fun X61 => (rn 0).bind fun w65 => gl (mset X61 92 0 11 w65) fun X63 => gl (msl X63 55 0 (fun _ => 0)) fun X67 => (rn 0).bind fun w71 => gl (mset X67 92 0 12 w71) fun X69 => gl (msl X69 56 0 (fun _ => 0)) fun X73 => (rn 0).bind fun w77 => gl (mset X73 92 0 13 w77) fun X75 => gl (msl X75 57 0 (fun _ => 0)) fun X79 => (rn 0).bind fun w83 => gl (mset X79 92 0 14 w83) fun X81 => gl (msl X81 58 0 (fun _ => 0)) fun X85 => (rn 0).bind fun w89 => gl (mset X85 92 0 16 w89) fun X87 => gl (msl X87 59 0 (fun _ => 0)) fun X91 => (rn 0).bind fun w95 => gl (mset X91 92 0 18 w95) fun X93 => gl (msl X93 60 0 (fun _ => 0)) fun X97 => (rn 0).bind fun w101 => gl (mset X97 92 0 19 w101) fun X99 => gl (msl X99 61 0 (fun _ => 0)) fun X103 => (rn 0).bind fun w107 => gl (mset X103 92 0 21 w107) fun X105 => gl (msl X105 62 0 (fun _ => 0)) fun X109 => (rn 0).bind fun w113 => gl (mset X109 92 0 22 w113) fun X111 => gl (msl X111 63 0 (fun _ => 0)) fun X115 => (rn 0).bind fun w119 => gl (mset X115 92 0 24 w119) fun X117 => gl (msl X117 64 0 (fun _ => 0)) fun X121 => (rn 0).bind fun w125 => gl (mset X121 92 0 25 w125) fun X123 => gl (msl X123 65 0 (fun _ => 0)) fun X127 => (rn 0).bind fun w131 => gl (mset X127 92 0 26 w131) fun X129 => gl (msl X129 66 0 (fun _ => 0)) fun X133 => (rn 0).bind fun w137 => gl (mset X133 92 0 27 w137) fun X135 => gl (msl X135 67 0 (fun _ => 0)) fun X139 => (rn 0).bind fun w143 => gl (mset X139 92 0 28 w143) fun X141 => gl (msl X141 68 0 (fun _ => 0)) fun X145 => (rn 0).bind fun w149 => gl (mset X145 92 0 31 w149) fun X147 => gl (msl X147 69 0 (fun _ => 0)) fun X151 => (rn 0).bind fun w155 => gl (mset X151 92 0 32 w155) fun X153 => gl (msl X153 70 0 (fun _ => 0)) fun X157 => (rn 0).bind fun w161 => gl (mset X157 92 0 33 w161) fun X159 => gl (msl X159 71 0 (fun _ => 0)) fun X163 => (rn 0).bind fun w167 => gl (mset X163 92 0 34 w167) fun X165 => gl (msl X165 72 0 (fun _ => 0)) fun X169 => (rn 0).bind fun w173 => gl (mset X169 92 0 35 w173) fun X171 => gl (msl X171 73 0 (fun _ => 0)) fun X175 => (rn 0).bind fun w179 => gl (mset X175 92 0 36 w179) fun X177 => gl (msl X177 74 0 (fun _ => 0)) fun X181 => (rn 0).bind fun w185 => gl (mset X181 92 0 37 w185) fun X183 => gl (msl X183 75 0 (fun _ => 0)) fun X187 => (rn 0).bind fun w191 => gl (mset X187 92 0 38 w191) fun X189 => gl (msl X189 76 0 (fun _ => 0)) fun X193 => (rn 0).bind fun w197 => gl (mset X193 92 0 39 w197) fun X195 => gl (msl X195 77 0 (fun _ => 0)) fun X199 => (rn 0).bind fun w203 => gl (mset X199 92 0 41 w203) fun X201 => gl (msl X201 78 0 (fun _ => 0)) fun X205 => (rn 0).bind fun w209 => gl (mset X205 92 0 43 w209) fun X207 => gl (msl X207 79 0 (fun _ => 0)) fun X211 => (rn 0).bind fun w215 => gl (mset X211 92 0 44 w215) fun X213 => gl (msl X213 80 0 (fun _ => 0)) fun X217 => (rn 0).bind fun w221 => gl (mset X217 92 0 45 w221) fun X219 => X10_init_T al N X219
def rm_X10_init : Room := { frames := 1, cells := 37, slots := 26847, locals := 20 }
set_option maxRecDepth 100000 in
set_option maxHeartbeats 4000000 in
theorem s_X10_init_J363 {p : Program} {l : Launch} {e : Env} {s : State} {m : MethodId} {args : Array Value} {below : List Frame} {meth : Method} {c : Code} {D : va_G} {cA : Nat → ClassId} {ad : Nat → Nat → Nat} {NL : List (Nat × Nat)} {A : Nat → Prop} {rr : Int32} {XX : gM} {N : Nat} (C : gCx p c meth m s args cX10_init 2 none RX10 D cA ad NL A) (hW : gWf NL) (hD0 : gD (fun _ => True) ad NL) : ∀ (X : gM) (H : Heap) (locs : List Loc) (ls : Array Slot), gH D cA ad NL X H → va_S A s.heap H locs → lv_has ls 2 [] → X10_init_J363 (gal NL) N X = some (rr, XX) → W p l e rm_X10_init s m args below meth c H locs 37 26847 (MQ below (gQ D cA ad NL none XX A) args s 37 26847 A) (F0 m 363 ls []) := by
  have hx := C.1
  have hb := C.2.1
  intro X H locs ls hP hS hl hf
  rw [X10_init_J363] at hf
  obtain ⟨rfl, rfl⟩ := g_s1 hf
  exact r_vret C hP hS dX10_init_363

set_option maxRecDepth 100000 in
set_option maxHeartbeats 4000000 in
theorem s_X10_init_L343 {p : Program} {l : Launch} {e : Env} {s : State} {m : MethodId} {args : Array Value} {below : List Frame} {meth : Method} {c : Code} {D : va_G} {cA : Nat → ClassId} {ad : Nat → Nat → Nat} {NL : List (Nat × Nat)} {A : Nat → Prop} {rr : Int32} {XX : gM} {N : Nat} {k363 : gM → Option (Int32 × gM)} (C : gCx p c meth m s args cX10_init 2 none RX10 D cA ad NL A) (hW : gWf NL) (hD0 : gD (fun _ => True) ad NL) (hk363 : ∀ (Y : gM) (H : Heap) (locs : List Loc) (ls : Array Slot), gH D cA ad NL Y H → va_S A s.heap H locs → lv_has ls 2 [] → k363 Y = some (rr, XX) → W p l e rm_X10_init s m args below meth c H locs 37 26847 (MQ below (gQ D cA ad NL none XX A) args s 37 26847 A) (F0 m 363 ls [])) : ∀ (n : Nat) (p1 : Int32) (X : gM) (H : Heap) (locs : List Loc) (ls : Array Slot), gH D cA ad NL X H → va_S A s.heap H locs → lv_has ls 2 [(0, .ref (ad 92 0)), (1, .int p1)] → (92, 0) ∈ NL → X10_init_L343 (gal NL) N k363 n p1 X = some (rr, XX) → W p l e rm_X10_init s m args below meth c H locs 37 26847 (MQ below (gQ D cA ad NL none XX A) args s 37 26847 A) (F0 m 343 ls []) := by
  have hx := C.1
  have hb := C.2.1
  intro n
  induction n with
  | zero =>
    intro p1 X H locs ls hP hS hl ha_l0 hf
    rw [X10_init_L343] at hf
    cases hf
  | succ n ih =>
    intro p1 X H locs ls hP hS hl ha_l0 hf
    rw [X10_init_L343] at hf
    refine lv_iload_n hx hb dX10_init_343 rfl (lv_at hl 1 rfl) ?_
    refine lv_sipush (v := 960) hx hb dX10_init_344 (by decide) ?_
    refine lv_icmp_ge (tgt := 363) hx hb dX10_init_347 (by decide) (fun c1 => ?_) (fun c1 => ?_)
    · have hf := g_ip c1 hf
      exact hk363 X _ _ _ hP hS (lv_sub hl [] rfl) hf
    · have hf := g_in c1 hf
      refine lv_aload_n hx hb dX10_init_350 rfl (lv_at hl 0 rfl) ?_
      refine r_get C hP ha_l0 (ct_92 _ _ _ _) fx_X10_46 (fg_92_13 _ _ _) dX10_init_351 ?_
      refine lv_iload_n hx hb dX10_init_354 rfl (lv_at hl 1 rfl) ?_
      refine lv_iconst (v := -1) hx hb dX10_init_355 (by decide) ?_
      obtain ⟨j2, h3, hf⟩ := dr_in hf
      rw [gref h3]
      obtain ⟨j4, h5, hf⟩ := rd_in hf
      refine r_iast C hP hS h3.2.2 (fun _ => ct_56 _ _ _ _) h5 dX10_init_356 (fun H locs hP hS => ?_)
      obtain ⟨X6, e7, hf⟩ := gl_in hf
      rw [← e7] at hP
      obtain ⟨v8, e9, hf⟩ := gl_in hf
      refine lv_iinc (v := v8) (lv' := [(1, .int v8), (0, .ref (ad 92 0))]) hx hb dX10_init_357 hl (k := 1) rfl (by rw [e9]; rfl) (Nat.le_of_ble_eq_true rfl) rfl (fun ls hl => ?_)
      refine lv_goto (tgt := 343) hx hb dX10_init_360 (by decide) ?_
      exact ih v8 X6 _ _ _ hP hS (lv_sub hl [1, 0] rfl) ha_l0 hf

set_option maxRecDepth 100000 in
set_option maxHeartbeats 4000000 in
theorem s_X10_init_J341 {p : Program} {l : Launch} {e : Env} {s : State} {m : MethodId} {args : Array Value} {below : List Frame} {meth : Method} {c : Code} {D : va_G} {cA : Nat → ClassId} {ad : Nat → Nat → Nat} {NL : List (Nat × Nat)} {A : Nat → Prop} {rr : Int32} {XX : gM} {N : Nat} (C : gCx p c meth m s args cX10_init 2 none RX10 D cA ad NL A) (hW : gWf NL) (hD0 : gD (fun _ => True) ad NL) : ∀ (X : gM) (H : Heap) (locs : List Loc) (ls : Array Slot), gH D cA ad NL X H → va_S A s.heap H locs → lv_has ls 2 [(0, .ref (ad 92 0))] → (92, 0) ∈ NL → X10_init_J341 (gal NL) N X = some (rr, XX) → W p l e rm_X10_init s m args below meth c H locs 37 26847 (MQ below (gQ D cA ad NL none XX A) args s 37 26847 A) (F0 m 341 ls []) := by
  have hx := C.1
  have hb := C.2.1
  intro X H locs ls hP hS hl ha_l0 hf
  rw [X10_init_J341] at hf
  refine lv_iconst (v := 0) hx hb dX10_init_341 (by decide) ?_
  refine lv_istore_n (i := 1) (lv' := [(1, .int (0 : Int32)), (0, .ref (ad 92 0))]) hx hb dX10_init_342 rfl hl (Nat.le_of_ble_eq_true rfl) rfl (fun ls hl => ?_)
  exact s_X10_init_L343 C hW hD0 (fun Y H locs ls hP hS hl hf => s_X10_init_J363 C hW hD0 Y _ _ _ hP hS hl hf) N (0 : Int32) X _ _ _ hP hS (lv_sub hl [1, 0] rfl) ha_l0 hf

set_option maxRecDepth 100000 in
set_option maxHeartbeats 4000000 in
theorem s_X10_init_L316 {p : Program} {l : Launch} {e : Env} {s : State} {m : MethodId} {args : Array Value} {below : List Frame} {meth : Method} {c : Code} {D : va_G} {cA : Nat → ClassId} {ad : Nat → Nat → Nat} {NL : List (Nat × Nat)} {A : Nat → Prop} {rr : Int32} {XX : gM} {N : Nat} {k341 : gM → Option (Int32 × gM)} (C : gCx p c meth m s args cX10_init 2 none RX10 D cA ad NL A) (hW : gWf NL) (hD0 : gD (fun _ => True) ad NL) (hk341 : ∀ (Y : gM) (H : Heap) (locs : List Loc) (ls : Array Slot), gH D cA ad NL Y H → va_S A s.heap H locs → lv_has ls 2 [(0, .ref (ad 92 0))] → (92, 0) ∈ NL → k341 Y = some (rr, XX) → W p l e rm_X10_init s m args below meth c H locs 37 26847 (MQ below (gQ D cA ad NL none XX A) args s 37 26847 A) (F0 m 341 ls [])) : ∀ (n : Nat) (p1 : Int32) (X : gM) (H : Heap) (locs : List Loc) (ls : Array Slot), gH D cA ad NL X H → va_S A s.heap H locs → lv_has ls 2 [(0, .ref (ad 92 0)), (1, .int p1)] → (92, 0) ∈ NL → X10_init_L316 (gal NL) N k341 n p1 X = some (rr, XX) → W p l e rm_X10_init s m args below meth c H locs 37 26847 (MQ below (gQ D cA ad NL none XX A) args s 37 26847 A) (F0 m 316 ls []) := by
  have hx := C.1
  have hb := C.2.1
  intro n
  induction n with
  | zero =>
    intro p1 X H locs ls hP hS hl ha_l0 hf
    rw [X10_init_L316] at hf
    cases hf
  | succ n ih =>
    intro p1 X H locs ls hP hS hl ha_l0 hf
    rw [X10_init_L316] at hf
    refine lv_iload_n hx hb dX10_init_316 rfl (lv_at hl 1 rfl) ?_
    refine lv_iconst (v := 3) hx hb dX10_init_317 (by decide) ?_
    refine lv_icmp_ge (tgt := 341) hx hb dX10_init_318 (by decide) (fun c1 => ?_) (fun c1 => ?_)
    · have hf := g_ip c1 hf
      exact hk341 X _ _ _ hP hS (lv_sub hl [0] rfl) ha_l0 hf
    · have hf := g_in c1 hf
      refine lv_aload_n hx hb dX10_init_321 rfl (lv_at hl 0 rfl) ?_
      refine r_get C hP ha_l0 (ct_92 _ _ _ _) fx_X10_40 (fg_92_11 _ _ _) dX10_init_322 ?_
      refine lv_iload_n hx hb dX10_init_325 rfl (lv_at hl 1 rfl) ?_
      refine lv_iconst (v := 1) hx hb dX10_init_326 (by decide) ?_
      obtain ⟨j2, h3, hf⟩ := dr_in hf
      rw [gref h3]
      obtain ⟨j4, h5, hf⟩ := rd_in hf
      refine r_iast C hP hS h3.2.2 (fun _ => ct_54 _ _ _ _) h5 dX10_init_327 (fun H locs hP hS => ?_)
      obtain ⟨X6, e7, hf⟩ := gl_in hf
      rw [← e7] at hP
      refine lv_aload_n hx hb dX10_init_328 rfl (lv_at hl 0 rfl) ?_
      refine r_get C hP ha_l0 (ct_92 _ _ _ _) fx_X10_43 (fg_92_12 _ _ _) dX10_init_329 ?_
      refine lv_iload_n hx hb dX10_init_332 rfl (lv_at hl 1 rfl) ?_
      refine lv_iconst (v := 1) hx hb dX10_init_333 (by decide) ?_
      obtain ⟨j8, h9, hf⟩ := dr_in hf
      rw [gref h9]
      obtain ⟨j10, h11, hf⟩ := rd_in hf
      refine r_iast C hP hS h9.2.2 (fun _ => ct_55 _ _ _ _) h11 dX10_init_334 (fun H locs hP hS => ?_)
      obtain ⟨X12, e13, hf⟩ := gl_in hf
      rw [← e13] at hP
      obtain ⟨v14, e15, hf⟩ := gl_in hf
      refine lv_iinc (v := v14) (lv' := [(1, .int v14), (0, .ref (ad 92 0))]) hx hb dX10_init_335 hl (k := 1) rfl (by rw [e15]; rfl) (Nat.le_of_ble_eq_true rfl) rfl (fun ls hl => ?_)
      refine lv_goto (tgt := 316) hx hb dX10_init_338 (by decide) ?_
      exact ih v14 X12 _ _ _ hP hS (lv_sub hl [1, 0] rfl) ha_l0 hf

set_option maxRecDepth 100000 in
set_option maxHeartbeats 4000000 in
theorem w_X10_init {p : Program} {l : Launch} {e : Env} {s : State} {m : MethodId} {args : Array Value} {below : List Frame} {meth : Method} {c : Code} {D : va_G} {cA : Nat → ClassId} {ad : Nat → Nat → Nat} {NL : List (Nat × Nat)} {A : Nat → Prop} {rr : Int32} {XX : gM} {N : Nat} (C : gCx p c meth m s args cX10_init 2 none RX10 D cA ad NL A) (hW : gWf NL) (hD0 : gD (fun _ => True) ad NL) (ha_l0 : (92, 0) ∈ NL) : ∀ (X : gM) (H : Heap) (locs : List Loc) (ls : Array Slot), gH D cA ad NL X H → va_S A s.heap H locs → lv_has ls 2 [(0, .ref (ad 92 0))] → X10_init_T (gal NL) N  X = some (rr, XX) → W p l e rm_X10_init s m args below meth c H locs 37 26847 (MQ below (gQ D cA ad NL none XX A) args s 37 26847 A) (F0 m 300 ls []) := by
  have hx := C.1
  have hb := C.2.1
  intro X H locs ls hP hS hl hf
  rw [X10_init_T] at hf
  refine lv_aload_n hx hb dX10_init_300 rfl (lv_at hl 0 rfl) ?_
  refine r_get C hP ha_l0 (ct_92 _ _ _ _) fx_X10_37 (fg_92_10 _ _ _) dX10_init_301 ?_
  refine lv_iconst (v := 0) hx hb dX10_init_304 (by decide) ?_
  refine lv_iconst (v := 4) hx hb dX10_init_305 (by decide) ?_
  obtain ⟨j1, h2, hf⟩ := dr_in hf
  rw [gref h2]
  obtain ⟨j3, h4, hf⟩ := rd_in hf
  refine r_iast C hP hS h2.2.2 (fun _ => ct_53 _ _ _ _) h4 dX10_init_306 (fun H locs hP hS => ?_)
  obtain ⟨X5, e6, hf⟩ := gl_in hf
  rw [← e6] at hP
  refine lv_aload_n hx hb dX10_init_307 rfl (lv_at hl 0 rfl) ?_
  refine r_get C hP ha_l0 (ct_92 _ _ _ _) fx_X10_37 (fg_92_10 _ _ _) dX10_init_308 ?_
  refine lv_iconst (v := 1) hx hb dX10_init_311 (by decide) ?_
  refine lv_iconst (v := 4) hx hb dX10_init_312 (by decide) ?_
  obtain ⟨j7, h8, hf⟩ := dr_in hf
  rw [gref h8]
  obtain ⟨j9, h10, hf⟩ := rd_in hf
  refine r_iast C hP hS h8.2.2 (fun _ => ct_53 _ _ _ _) h10 dX10_init_313 (fun H locs hP hS => ?_)
  obtain ⟨X11, e12, hf⟩ := gl_in hf
  rw [← e12] at hP
  refine lv_iconst (v := 0) hx hb dX10_init_314 (by decide) ?_
  refine lv_istore_n (i := 1) (lv' := [(1, .int (0 : Int32)), (0, .ref (ad 92 0))]) hx hb dX10_init_315 rfl hl (Nat.le_of_ble_eq_true rfl) rfl (fun ls hl => ?_)
  exact s_X10_init_L316 C hW hD0 (fun Y H locs ls hP hS hl ha_l0 hf => s_X10_init_J341 C hW hD0 Y _ _ _ hP hS hl ha_l0 hf) N (0 : Int32) X11 _ _ _ hP hS (lv_sub hl [1, 0] rfl) ha_l0 hf

set_option maxRecDepth 100000 in
set_option maxHeartbeats 4000000 in
theorem s_X10_init {l : Launch} {D : va_G} {cA : Nat → ClassId} {ad : Nat → Nat → Nat} {NL : List (Nat × Nat)} {al : Nat → Nat → Bool} {N sz : Nat} {X : gM} {rr : Int32} {XX : gM} (hD0 : gD (fun _ => True) ad NL) (hal : gAl ad) (ha : (92, 0) ∈ NL) (hW2 : gWf (NL ++ (nw_X10_init))) (hA : gAdr ad sz (nw_X10_init)) (hf : X10_init (gal (NL ++ (nw_X10_init))) N  X = some (rr, XX)) : gCa l yX10_init cX10_init 2 none rm_X10_init 37 26847 D cA ad NL [.ref (ad 92 0)] X none (NL ++ (nw_X10_init)) XX sz := by
  refine g_ofA (by decide) hD0 (Nat.le_of_ble_eq_true rfl) rfl (fun p e s m below meth c ls hsz hin hAW C hP hS hl => ?_)
  have hx := C.1
  have hb := C.2.1
  have hA2 := hA
  simp only [nw_X10_init, gAdr_app, gAdr, List.length_append, List.length_cons, List.length_nil, nwl_X0_init, nwl_X1_init, nwl_X3_init, nwl_X4_init, nwl_X7_init, nwl_X5_init, nwl_X6_init, nwl_X9_init, nwl_mna, Nat.add_assoc, Nat.reduceAdd, and_true, true_and] at hA2
  rw [X10_init] at hf
  refine lv_aload_n hx hb dX10_init_0 rfl (lv_at hl 0 rfl) ?_
  refine W.objInit hx hb C.2.2.2.1 (C.2.2.2.2.1 _ ob_X10_1) (C.2.2.2.2.1 _ ob_i.1) (C.2.2.2.2.1 _ ob_i.2) rfl (by rw [C.2.2.1]; exact hl.1) rfl dX10_init_1 (Nat.le_of_ble_eq_true rfl) (Nat.le_of_ble_eq_true rfl) ?_
  refine W.eq (g2 := F0 m 4 ls []) rfl ?_
  refine lv_aload_n hx hb dX10_init_4 rfl (lv_at hl 0 rfl) ?_
  refine lv_bipush (v := 10) hx hb dX10_init_5 (by decide) ?_
  refine r_newa (K := 44) (i := 0) (t := 0) (N := 10) (x := fun _ => 0) C hP hS ac_int rfl rfl (fun h => h) rfl rfl (by simp only [hsz, hA2, Nat.add_assoc, Nat.reduceAdd, Nat.add_zero, Nat.zero_add]) (by have := hS.1; omega) (by decide) (by decide) (by decide) (by decide) dX10_init_7 (fun C H hP hS => ?_)
  obtain ⟨X1, e2, hf⟩ := gl_in hf
  rw [← e2] at hP
  obtain ⟨w5, h6, hf⟩ := rn_in hf
  refine r_putF C hin hP hS w5 (by simp [ha]) (ct_92 _ _ _ _) pf_X10_7 (by rw [fp_92_1, gwref h6]) (Nat.le_of_ble_eq_true rfl) rfl rfl dX10_init_9 (fun H locs hP hS => ?_)
  obtain ⟨X3, e4, hf⟩ := gl_in hf
  rw [← e4] at hP
  refine lv_aload_n hx hb dX10_init_12 rfl (lv_at hl 0 rfl) ?_
  refine lv_bipush (v := 10) hx hb dX10_init_13 (by decide) ?_
  refine r_newa (K := 45) (i := 0) (t := 0) (N := 10) (x := fun _ => 0) C hP hS ac_int rfl rfl (fun h => h) rfl rfl (by simp only [hsz, hA2, Nat.add_assoc, Nat.reduceAdd, Nat.add_zero, Nat.zero_add]) (g_lo hP (K := 44) (i := 0) (by simp) (by simp only [hsz, hA2, Nat.add_assoc, Nat.reduceAdd, Nat.add_zero, Nat.zero_add])) (by decide) (by decide) (by decide) (by decide) dX10_init_15 (fun C H hP hS => ?_)
  obtain ⟨X7, e8, hf⟩ := gl_in hf
  rw [← e8] at hP
  obtain ⟨w11, h12, hf⟩ := rn_in hf
  refine r_putF C hin hP hS w11 (by simp [ha]) (ct_92 _ _ _ _) pf_X10_13 (by rw [fp_92_2, gwref h12]) (Nat.le_of_ble_eq_true rfl) rfl rfl dX10_init_17 (fun H locs hP hS => ?_)
  obtain ⟨X9, e10, hf⟩ := gl_in hf
  rw [← e10] at hP
  refine lv_aload_n hx hb dX10_init_20 rfl (lv_at hl 0 rfl) ?_
  refine lv_bipush (v := 10) hx hb dX10_init_21 (by decide) ?_
  refine r_newa (K := 46) (i := 0) (t := 0) (N := 10) (x := fun _ => 0) C hP hS ac_int rfl rfl (fun h => h) rfl rfl (by simp only [hsz, hA2, Nat.add_assoc, Nat.reduceAdd, Nat.add_zero, Nat.zero_add]) (g_lo hP (K := 45) (i := 0) (by simp) (by simp only [hsz, hA2, Nat.add_assoc, Nat.reduceAdd, Nat.add_zero, Nat.zero_add])) (by decide) (by decide) (by decide) (by decide) dX10_init_23 (fun C H hP hS => ?_)
  obtain ⟨X13, e14, hf⟩ := gl_in hf
  rw [← e14] at hP
  obtain ⟨w17, h18, hf⟩ := rn_in hf
  refine r_putF C hin hP hS w17 (by simp [ha]) (ct_92 _ _ _ _) pf_X10_16 (by rw [fp_92_3, gwref h18]) (Nat.le_of_ble_eq_true rfl) rfl rfl dX10_init_25 (fun H locs hP hS => ?_)
  obtain ⟨X15, e16, hf⟩ := gl_in hf
  rw [← e16] at hP
  refine lv_aload_n hx hb dX10_init_28 rfl (lv_at hl 0 rfl) ?_
  refine lv_bipush (v := 10) hx hb dX10_init_29 (by decide) ?_
  refine r_newa (K := 47) (i := 0) (t := 0) (N := 10) (x := fun _ => 0) C hP hS ac_int rfl rfl (fun h => h) rfl rfl (by simp only [hsz, hA2, Nat.add_assoc, Nat.reduceAdd, Nat.add_zero, Nat.zero_add]) (g_lo hP (K := 46) (i := 0) (by simp) (by simp only [hsz, hA2, Nat.add_assoc, Nat.reduceAdd, Nat.add_zero, Nat.zero_add])) (by decide) (by decide) (by decide) (by decide) dX10_init_31 (fun C H hP hS => ?_)
  obtain ⟨X19, e20, hf⟩ := gl_in hf
  rw [← e20] at hP
  obtain ⟨w23, h24, hf⟩ := rn_in hf
  refine r_putF C hin hP hS w23 (by simp [ha]) (ct_92 _ _ _ _) pf_X10_19 (by rw [fp_92_4, gwref h24]) (Nat.le_of_ble_eq_true rfl) rfl rfl dX10_init_33 (fun H locs hP hS => ?_)
  obtain ⟨X21, e22, hf⟩ := gl_in hf
  rw [← e22] at hP
  refine lv_aload_n hx hb dX10_init_36 rfl (lv_at hl 0 rfl) ?_
  refine lv_bipush (v := 10) hx hb dX10_init_37 (by decide) ?_
  refine r_newa (K := 48) (i := 0) (t := 0) (N := 10) (x := fun _ => 0) C hP hS ac_int rfl rfl (fun h => h) rfl rfl (by simp only [hsz, hA2, Nat.add_assoc, Nat.reduceAdd, Nat.add_zero, Nat.zero_add]) (g_lo hP (K := 47) (i := 0) (by simp) (by simp only [hsz, hA2, Nat.add_assoc, Nat.reduceAdd, Nat.add_zero, Nat.zero_add])) (by decide) (by decide) (by decide) (by decide) dX10_init_39 (fun C H hP hS => ?_)
  obtain ⟨X25, e26, hf⟩ := gl_in hf
  rw [← e26] at hP
  obtain ⟨w29, h30, hf⟩ := rn_in hf
  refine r_putF C hin hP hS w29 (by simp [ha]) (ct_92 _ _ _ _) pf_X10_22 (by rw [fp_92_5, gwref h30]) (Nat.le_of_ble_eq_true rfl) rfl rfl dX10_init_41 (fun H locs hP hS => ?_)
  obtain ⟨X27, e28, hf⟩ := gl_in hf
  rw [← e28] at hP
  refine lv_aload_n hx hb dX10_init_44 rfl (lv_at hl 0 rfl) ?_
  refine lv_bipush (v := 30) hx hb dX10_init_45 (by decide) ?_
  refine r_newa (K := 49) (i := 0) (t := 0) (N := 30) (x := fun _ => 0) C hP hS ac_int rfl rfl (fun h => h) rfl rfl (by simp only [hsz, hA2, Nat.add_assoc, Nat.reduceAdd, Nat.add_zero, Nat.zero_add]) (g_lo hP (K := 48) (i := 0) (by simp) (by simp only [hsz, hA2, Nat.add_assoc, Nat.reduceAdd, Nat.add_zero, Nat.zero_add])) (by decide) (by decide) (by decide) (by decide) dX10_init_47 (fun C H hP hS => ?_)
  obtain ⟨X31, e32, hf⟩ := gl_in hf
  rw [← e32] at hP
  obtain ⟨w35, h36, hf⟩ := rn_in hf
  refine r_putF C hin hP hS w35 (by simp [ha]) (ct_92 _ _ _ _) pf_X10_25 (by rw [fp_92_6, gwref h36]) (Nat.le_of_ble_eq_true rfl) rfl rfl dX10_init_49 (fun H locs hP hS => ?_)
  obtain ⟨X33, e34, hf⟩ := gl_in hf
  rw [← e34] at hP
  refine lv_aload_n hx hb dX10_init_52 rfl (lv_at hl 0 rfl) ?_
  refine lv_bipush (v := 10) hx hb dX10_init_53 (by decide) ?_
  refine r_newa (K := 50) (i := 0) (t := 0) (N := 10) (x := fun _ => 0) C hP hS ac_int rfl rfl (fun h => h) rfl rfl (by simp only [hsz, hA2, Nat.add_assoc, Nat.reduceAdd, Nat.add_zero, Nat.zero_add]) (g_lo hP (K := 49) (i := 0) (by simp) (by simp only [hsz, hA2, Nat.add_assoc, Nat.reduceAdd, Nat.add_zero, Nat.zero_add])) (by decide) (by decide) (by decide) (by decide) dX10_init_55 (fun C H hP hS => ?_)
  obtain ⟨X37, e38, hf⟩ := gl_in hf
  rw [← e38] at hP
  obtain ⟨w41, h42, hf⟩ := rn_in hf
  refine r_putF C hin hP hS w41 (by simp [ha]) (ct_92 _ _ _ _) pf_X10_28 (by rw [fp_92_7, gwref h42]) (Nat.le_of_ble_eq_true rfl) rfl rfl dX10_init_57 (fun H locs hP hS => ?_)
  obtain ⟨X39, e40, hf⟩ := gl_in hf
  rw [← e40] at hP
  refine lv_aload_n hx hb dX10_init_60 rfl (lv_at hl 0 rfl) ?_
  refine lv_bipush (v := 10) hx hb dX10_init_61 (by decide) ?_
  refine r_newa (K := 51) (i := 0) (t := 0) (N := 10) (x := fun _ => 0) C hP hS ac_int rfl rfl (fun h => h) rfl rfl (by simp only [hsz, hA2, Nat.add_assoc, Nat.reduceAdd, Nat.add_zero, Nat.zero_add]) (g_lo hP (K := 50) (i := 0) (by simp) (by simp only [hsz, hA2, Nat.add_assoc, Nat.reduceAdd, Nat.add_zero, Nat.zero_add])) (by decide) (by decide) (by decide) (by decide) dX10_init_63 (fun C H hP hS => ?_)
  obtain ⟨X43, e44, hf⟩ := gl_in hf
  rw [← e44] at hP
  obtain ⟨w47, h48, hf⟩ := rn_in hf
  refine r_putF C hin hP hS w47 (by simp [ha]) (ct_92 _ _ _ _) pf_X10_31 (by rw [fp_92_8, gwref h48]) (Nat.le_of_ble_eq_true rfl) rfl rfl dX10_init_65 (fun H locs hP hS => ?_)
  obtain ⟨X45, e46, hf⟩ := gl_in hf
  rw [← e46] at hP
  refine lv_aload_n hx hb dX10_init_68 rfl (lv_at hl 0 rfl) ?_
  refine lv_bipush (v := 10) hx hb dX10_init_69 (by decide) ?_
  refine r_newa (K := 52) (i := 0) (t := 0) (N := 10) (x := fun _ => 0) C hP hS ac_int rfl rfl (fun h => h) rfl rfl (by simp only [hsz, hA2, Nat.add_assoc, Nat.reduceAdd, Nat.add_zero, Nat.zero_add]) (g_lo hP (K := 51) (i := 0) (by simp) (by simp only [hsz, hA2, Nat.add_assoc, Nat.reduceAdd, Nat.add_zero, Nat.zero_add])) (by decide) (by decide) (by decide) (by decide) dX10_init_71 (fun C H hP hS => ?_)
  obtain ⟨X49, e50, hf⟩ := gl_in hf
  rw [← e50] at hP
  obtain ⟨w53, h54, hf⟩ := rn_in hf
  refine r_putF C hin hP hS w53 (by simp [ha]) (ct_92 _ _ _ _) pf_X10_34 (by rw [fp_92_9, gwref h54]) (Nat.le_of_ble_eq_true rfl) rfl rfl dX10_init_73 (fun H locs hP hS => ?_)
  obtain ⟨X51, e52, hf⟩ := gl_in hf
  rw [← e52] at hP
  refine lv_aload_n hx hb dX10_init_76 rfl (lv_at hl 0 rfl) ?_
  refine lv_iconst (v := 2) hx hb dX10_init_77 (by decide) ?_
  refine r_newa (K := 53) (i := 0) (t := 0) (N := 2) (x := fun _ => 0) C hP hS ac_int rfl rfl (fun h => h) rfl rfl (by simp only [hsz, hA2, Nat.add_assoc, Nat.reduceAdd, Nat.add_zero, Nat.zero_add]) (g_lo hP (K := 52) (i := 0) (by simp) (by simp only [hsz, hA2, Nat.add_assoc, Nat.reduceAdd, Nat.add_zero, Nat.zero_add])) (by decide) (by decide) (by decide) (by decide) dX10_init_78 (fun C H hP hS => ?_)
  obtain ⟨X55, e56, hf⟩ := gl_in hf
  rw [← e56] at hP
  obtain ⟨w59, h60, hf⟩ := rn_in hf
  refine r_putF C hin hP hS w59 (by simp [ha]) (ct_92 _ _ _ _) pf_X10_37 (by rw [fp_92_10, gwref h60]) (Nat.le_of_ble_eq_true rfl) rfl rfl dX10_init_80 (fun H locs hP hS => ?_)
  obtain ⟨X57, e58, hf⟩ := gl_in hf
  rw [← e58] at hP
  refine lv_aload_n hx hb dX10_init_83 rfl (lv_at hl 0 rfl) ?_
  refine lv_iconst (v := 3) hx hb dX10_init_84 (by decide) ?_
  refine r_newa (K := 54) (i := 0) (t := 0) (N := 3) (x := fun _ => 0) C hP hS ac_int rfl rfl (fun h => h) rfl rfl (by simp only [hsz, hA2, Nat.add_assoc, Nat.reduceAdd, Nat.add_zero, Nat.zero_add]) (g_lo hP (K := 53) (i := 0) (by simp) (by simp only [hsz, hA2, Nat.add_assoc, Nat.reduceAdd, Nat.add_zero, Nat.zero_add])) (by decide) (by decide) (by decide) (by decide) dX10_init_85 (fun C H hP hS => ?_)
  obtain ⟨X61, e62, hf⟩ := gl_in hf
  rw [← e62] at hP
  obtain ⟨w65, h66, hf⟩ := rn_in hf
  refine r_putF C hin hP hS w65 (by simp [ha]) (ct_92 _ _ _ _) pf_X10_40 (by rw [fp_92_11, gwref h66]) (Nat.le_of_ble_eq_true rfl) rfl rfl dX10_init_87 (fun H locs hP hS => ?_)
  obtain ⟨X63, e64, hf⟩ := gl_in hf
  rw [← e64] at hP
  refine lv_aload_n hx hb dX10_init_90 rfl (lv_at hl 0 rfl) ?_
  refine lv_iconst (v := 3) hx hb dX10_init_91 (by decide) ?_
  refine r_newa (K := 55) (i := 0) (t := 0) (N := 3) (x := fun _ => 0) C hP hS ac_int rfl rfl (fun h => h) rfl rfl (by simp only [hsz, hA2, Nat.add_assoc, Nat.reduceAdd, Nat.add_zero, Nat.zero_add]) (g_lo hP (K := 54) (i := 0) (by simp) (by simp only [hsz, hA2, Nat.add_assoc, Nat.reduceAdd, Nat.add_zero, Nat.zero_add])) (by decide) (by decide) (by decide) (by decide) dX10_init_92 (fun C H hP hS => ?_)
  obtain ⟨X67, e68, hf⟩ := gl_in hf
  rw [← e68] at hP
  obtain ⟨w71, h72, hf⟩ := rn_in hf
  refine r_putF C hin hP hS w71 (by simp [ha]) (ct_92 _ _ _ _) pf_X10_43 (by rw [fp_92_12, gwref h72]) (Nat.le_of_ble_eq_true rfl) rfl rfl dX10_init_94 (fun H locs hP hS => ?_)
  obtain ⟨X69, e70, hf⟩ := gl_in hf
  rw [← e70] at hP
  refine lv_aload_n hx hb dX10_init_97 rfl (lv_at hl 0 rfl) ?_
  refine lv_sipush (v := 960) hx hb dX10_init_98 (by decide) ?_
  refine r_newa (K := 56) (i := 0) (t := 0) (N := 960) (x := fun _ => 0) C hP hS ac_int rfl rfl (fun h => h) rfl rfl (by simp only [hsz, hA2, Nat.add_assoc, Nat.reduceAdd, Nat.add_zero, Nat.zero_add]) (g_lo hP (K := 55) (i := 0) (by simp) (by simp only [hsz, hA2, Nat.add_assoc, Nat.reduceAdd, Nat.add_zero, Nat.zero_add])) (by decide) (by decide) (by decide) (by decide) dX10_init_101 (fun C H hP hS => ?_)
  obtain ⟨X73, e74, hf⟩ := gl_in hf
  rw [← e74] at hP
  obtain ⟨w77, h78, hf⟩ := rn_in hf
  refine r_putF C hin hP hS w77 (by simp [ha]) (ct_92 _ _ _ _) pf_X10_46 (by rw [fp_92_13, gwref h78]) (Nat.le_of_ble_eq_true rfl) rfl rfl dX10_init_103 (fun H locs hP hS => ?_)
  obtain ⟨X75, e76, hf⟩ := gl_in hf
  rw [← e76] at hP
  refine lv_aload_n hx hb dX10_init_106 rfl (lv_at hl 0 rfl) ?_
  refine lv_sipush (v := 24960) hx hb dX10_init_107 (by decide) ?_
  refine r_newa (K := 57) (i := 0) (t := 0) (N := 24960) (x := fun _ => 0) C hP hS ac_int rfl rfl (fun h => h) rfl rfl (by simp only [hsz, hA2, Nat.add_assoc, Nat.reduceAdd, Nat.add_zero, Nat.zero_add]) (g_lo hP (K := 56) (i := 0) (by simp) (by simp only [hsz, hA2, Nat.add_assoc, Nat.reduceAdd, Nat.add_zero, Nat.zero_add])) (by decide) (by decide) (by decide) (by decide) dX10_init_110 (fun C H hP hS => ?_)
  obtain ⟨X79, e80, hf⟩ := gl_in hf
  rw [← e80] at hP
  obtain ⟨w83, h84, hf⟩ := rn_in hf
  refine r_putF C hin hP hS w83 (by simp [ha]) (ct_92 _ _ _ _) pf_X10_49 (by rw [fp_92_14, gwref h84]) (Nat.le_of_ble_eq_true rfl) rfl rfl dX10_init_112 (fun H locs hP hS => ?_)
  obtain ⟨X81, e82, hf⟩ := gl_in hf
  rw [← e82] at hP
  refine lv_aload_n hx hb dX10_init_115 rfl (lv_at hl 0 rfl) ?_
  refine lv_bipush (v := 40) hx hb dX10_init_116 (by decide) ?_
  refine r_newa (K := 58) (i := 0) (t := 0) (N := 40) (x := fun _ => 0) C hP hS ac_int rfl rfl (fun h => h) rfl rfl (by simp only [hsz, hA2, Nat.add_assoc, Nat.reduceAdd, Nat.add_zero, Nat.zero_add]) (g_lo hP (K := 57) (i := 0) (by simp) (by simp only [hsz, hA2, Nat.add_assoc, Nat.reduceAdd, Nat.add_zero, Nat.zero_add])) (by decide) (by decide) (by decide) (by decide) dX10_init_118 (fun C H hP hS => ?_)
  obtain ⟨X85, e86, hf⟩ := gl_in hf
  rw [← e86] at hP
  obtain ⟨w89, h90, hf⟩ := rn_in hf
  refine r_putF C hin hP hS w89 (by simp [ha]) (ct_92 _ _ _ _) pf_X10_52 (by rw [fp_92_16, gwref h90]) (Nat.le_of_ble_eq_true rfl) rfl rfl dX10_init_120 (fun H locs hP hS => ?_)
  obtain ⟨X87, e88, hf⟩ := gl_in hf
  rw [← e88] at hP
  refine lv_aload_n hx hb dX10_init_123 rfl (lv_at hl 0 rfl) ?_
  refine lv_bipush (v := 12) hx hb dX10_init_124 (by decide) ?_
  refine r_newa (K := 59) (i := 0) (t := 0) (N := 12) (x := fun _ => 0) C hP hS ac_int rfl rfl (fun h => h) rfl rfl (by simp only [hsz, hA2, Nat.add_assoc, Nat.reduceAdd, Nat.add_zero, Nat.zero_add]) (g_lo hP (K := 58) (i := 0) (by simp) (by simp only [hsz, hA2, Nat.add_assoc, Nat.reduceAdd, Nat.add_zero, Nat.zero_add])) (by decide) (by decide) (by decide) (by decide) dX10_init_126 (fun C H hP hS => ?_)
  obtain ⟨X91, e92, hf⟩ := gl_in hf
  rw [← e92] at hP
  obtain ⟨w95, h96, hf⟩ := rn_in hf
  refine r_putF C hin hP hS w95 (by simp [ha]) (ct_92 _ _ _ _) pf_X10_55 (by rw [fp_92_18, gwref h96]) (Nat.le_of_ble_eq_true rfl) rfl rfl dX10_init_128 (fun H locs hP hS => ?_)
  obtain ⟨X93, e94, hf⟩ := gl_in hf
  rw [← e94] at hP
  refine lv_aload_n hx hb dX10_init_131 rfl (lv_at hl 0 rfl) ?_
  refine lv_bipush (v := 96) hx hb dX10_init_132 (by decide) ?_
  refine r_newa (K := 60) (i := 0) (t := 0) (N := 96) (x := fun _ => 0) C hP hS ac_int rfl rfl (fun h => h) rfl rfl (by simp only [hsz, hA2, Nat.add_assoc, Nat.reduceAdd, Nat.add_zero, Nat.zero_add]) (g_lo hP (K := 59) (i := 0) (by simp) (by simp only [hsz, hA2, Nat.add_assoc, Nat.reduceAdd, Nat.add_zero, Nat.zero_add])) (by decide) (by decide) (by decide) (by decide) dX10_init_134 (fun C H hP hS => ?_)
  obtain ⟨X97, e98, hf⟩ := gl_in hf
  rw [← e98] at hP
  obtain ⟨w101, h102, hf⟩ := rn_in hf
  refine r_putF C hin hP hS w101 (by simp [ha]) (ct_92 _ _ _ _) pf_X10_58 (by rw [fp_92_19, gwref h102]) (Nat.le_of_ble_eq_true rfl) rfl rfl dX10_init_136 (fun H locs hP hS => ?_)
  obtain ⟨X99, e100, hf⟩ := gl_in hf
  rw [← e100] at hP
  refine lv_aload_n hx hb dX10_init_139 rfl (lv_at hl 0 rfl) ?_
  refine lv_iconst (v := 4) hx hb dX10_init_140 (by decide) ?_
  refine r_newa (K := 61) (i := 0) (t := 0) (N := 4) (x := fun _ => 0) C hP hS ac_int rfl rfl (fun h => h) rfl rfl (by simp only [hsz, hA2, Nat.add_assoc, Nat.reduceAdd, Nat.add_zero, Nat.zero_add]) (g_lo hP (K := 60) (i := 0) (by simp) (by simp only [hsz, hA2, Nat.add_assoc, Nat.reduceAdd, Nat.add_zero, Nat.zero_add])) (by decide) (by decide) (by decide) (by decide) dX10_init_141 (fun C H hP hS => ?_)
  obtain ⟨X103, e104, hf⟩ := gl_in hf
  rw [← e104] at hP
  obtain ⟨w107, h108, hf⟩ := rn_in hf
  refine r_putF C hin hP hS w107 (by simp [ha]) (ct_92 _ _ _ _) pf_X10_61 (by rw [fp_92_21, gwref h108]) (Nat.le_of_ble_eq_true rfl) rfl rfl dX10_init_143 (fun H locs hP hS => ?_)
  obtain ⟨X105, e106, hf⟩ := gl_in hf
  rw [← e106] at hP
  refine lv_aload_n hx hb dX10_init_146 rfl (lv_at hl 0 rfl) ?_
  refine lv_sipush (v := 160) hx hb dX10_init_147 (by decide) ?_
  refine r_newa (K := 62) (i := 0) (t := 0) (N := 160) (x := fun _ => 0) C hP hS ac_int rfl rfl (fun h => h) rfl rfl (by simp only [hsz, hA2, Nat.add_assoc, Nat.reduceAdd, Nat.add_zero, Nat.zero_add]) (g_lo hP (K := 61) (i := 0) (by simp) (by simp only [hsz, hA2, Nat.add_assoc, Nat.reduceAdd, Nat.add_zero, Nat.zero_add])) (by decide) (by decide) (by decide) (by decide) dX10_init_150 (fun C H hP hS => ?_)
  obtain ⟨X109, e110, hf⟩ := gl_in hf
  rw [← e110] at hP
  obtain ⟨w113, h114, hf⟩ := rn_in hf
  refine r_putF C hin hP hS w113 (by simp [ha]) (ct_92 _ _ _ _) pf_X10_64 (by rw [fp_92_22, gwref h114]) (Nat.le_of_ble_eq_true rfl) rfl rfl dX10_init_152 (fun H locs hP hS => ?_)
  obtain ⟨X111, e112, hf⟩ := gl_in hf
  rw [← e112] at hP
  refine lv_aload_n hx hb dX10_init_155 rfl (lv_at hl 0 rfl) ?_
  refine lv_bipush (v := 12) hx hb dX10_init_156 (by decide) ?_
  refine r_newa (K := 63) (i := 0) (t := 0) (N := 12) (x := fun _ => 0) C hP hS ac_int rfl rfl (fun h => h) rfl rfl (by simp only [hsz, hA2, Nat.add_assoc, Nat.reduceAdd, Nat.add_zero, Nat.zero_add]) (g_lo hP (K := 62) (i := 0) (by simp) (by simp only [hsz, hA2, Nat.add_assoc, Nat.reduceAdd, Nat.add_zero, Nat.zero_add])) (by decide) (by decide) (by decide) (by decide) dX10_init_158 (fun C H hP hS => ?_)
  obtain ⟨X115, e116, hf⟩ := gl_in hf
  rw [← e116] at hP
  obtain ⟨w119, h120, hf⟩ := rn_in hf
  refine r_putF C hin hP hS w119 (by simp [ha]) (ct_92 _ _ _ _) pf_X10_67 (by rw [fp_92_24, gwref h120]) (Nat.le_of_ble_eq_true rfl) rfl rfl dX10_init_160 (fun H locs hP hS => ?_)
  obtain ⟨X117, e118, hf⟩ := gl_in hf
  rw [← e118] at hP
  refine lv_aload_n hx hb dX10_init_163 rfl (lv_at hl 0 rfl) ?_
  refine lv_bipush (v := 12) hx hb dX10_init_164 (by decide) ?_
  refine r_newa (K := 64) (i := 0) (t := 0) (N := 12) (x := fun _ => 0) C hP hS ac_int rfl rfl (fun h => h) rfl rfl (by simp only [hsz, hA2, Nat.add_assoc, Nat.reduceAdd, Nat.add_zero, Nat.zero_add]) (g_lo hP (K := 63) (i := 0) (by simp) (by simp only [hsz, hA2, Nat.add_assoc, Nat.reduceAdd, Nat.add_zero, Nat.zero_add])) (by decide) (by decide) (by decide) (by decide) dX10_init_166 (fun C H hP hS => ?_)
  obtain ⟨X121, e122, hf⟩ := gl_in hf
  rw [← e122] at hP
  obtain ⟨w125, h126, hf⟩ := rn_in hf
  refine r_putF C hin hP hS w125 (by simp [ha]) (ct_92 _ _ _ _) pf_X10_70 (by rw [fp_92_25, gwref h126]) (Nat.le_of_ble_eq_true rfl) rfl rfl dX10_init_168 (fun H locs hP hS => ?_)
  obtain ⟨X123, e124, hf⟩ := gl_in hf
  rw [← e124] at hP
  refine lv_aload_n hx hb dX10_init_171 rfl (lv_at hl 0 rfl) ?_
  refine lv_bipush (v := 12) hx hb dX10_init_172 (by decide) ?_
  refine r_newa (K := 65) (i := 0) (t := 0) (N := 12) (x := fun _ => 0) C hP hS ac_int rfl rfl (fun h => h) rfl rfl (by simp only [hsz, hA2, Nat.add_assoc, Nat.reduceAdd, Nat.add_zero, Nat.zero_add]) (g_lo hP (K := 64) (i := 0) (by simp) (by simp only [hsz, hA2, Nat.add_assoc, Nat.reduceAdd, Nat.add_zero, Nat.zero_add])) (by decide) (by decide) (by decide) (by decide) dX10_init_174 (fun C H hP hS => ?_)
  obtain ⟨X127, e128, hf⟩ := gl_in hf
  rw [← e128] at hP
  obtain ⟨w131, h132, hf⟩ := rn_in hf
  refine r_putF C hin hP hS w131 (by simp [ha]) (ct_92 _ _ _ _) pf_X10_73 (by rw [fp_92_26, gwref h132]) (Nat.le_of_ble_eq_true rfl) rfl rfl dX10_init_176 (fun H locs hP hS => ?_)
  obtain ⟨X129, e130, hf⟩ := gl_in hf
  rw [← e130] at hP
  refine lv_aload_n hx hb dX10_init_179 rfl (lv_at hl 0 rfl) ?_
  refine lv_bipush (v := 12) hx hb dX10_init_180 (by decide) ?_
  refine r_newa (K := 66) (i := 0) (t := 1) (N := 12) (x := fun _ => 0) C hP hS ac_bool rfl rfl (fun h => h) rfl rfl (by simp only [hsz, hA2, Nat.add_assoc, Nat.reduceAdd, Nat.add_zero, Nat.zero_add]) (g_lo hP (K := 65) (i := 0) (by simp) (by simp only [hsz, hA2, Nat.add_assoc, Nat.reduceAdd, Nat.add_zero, Nat.zero_add])) (by decide) (by decide) (by decide) (by decide) dX10_init_182 (fun C H hP hS => ?_)
  obtain ⟨X133, e134, hf⟩ := gl_in hf
  rw [← e134] at hP
  obtain ⟨w137, h138, hf⟩ := rn_in hf
  refine r_putF C hin hP hS w137 (by simp [ha]) (ct_92 _ _ _ _) pf_X10_76 (by rw [fp_92_27, gwref h138]) (Nat.le_of_ble_eq_true rfl) rfl rfl dX10_init_184 (fun H locs hP hS => ?_)
  obtain ⟨X135, e136, hf⟩ := gl_in hf
  rw [← e136] at hP
  refine lv_aload_n hx hb dX10_init_187 rfl (lv_at hl 0 rfl) ?_
  refine lv_bipush (v := 12) hx hb dX10_init_188 (by decide) ?_
  refine r_newa (K := 67) (i := 0) (t := 1) (N := 12) (x := fun _ => 0) C hP hS ac_bool rfl rfl (fun h => h) rfl rfl (by simp only [hsz, hA2, Nat.add_assoc, Nat.reduceAdd, Nat.add_zero, Nat.zero_add]) (g_lo hP (K := 66) (i := 0) (by simp) (by simp only [hsz, hA2, Nat.add_assoc, Nat.reduceAdd, Nat.add_zero, Nat.zero_add])) (by decide) (by decide) (by decide) (by decide) dX10_init_190 (fun C H hP hS => ?_)
  obtain ⟨X139, e140, hf⟩ := gl_in hf
  rw [← e140] at hP
  obtain ⟨w143, h144, hf⟩ := rn_in hf
  refine r_putF C hin hP hS w143 (by simp [ha]) (ct_92 _ _ _ _) pf_X10_80 (by rw [fp_92_28, gwref h144]) (Nat.le_of_ble_eq_true rfl) rfl rfl dX10_init_192 (fun H locs hP hS => ?_)
  obtain ⟨X141, e142, hf⟩ := gl_in hf
  rw [← e142] at hP
  refine lv_aload_n hx hb dX10_init_195 rfl (lv_at hl 0 rfl) ?_
  refine lv_bipush (v := 9) hx hb dX10_init_196 (by decide) ?_
  refine r_newa (K := 68) (i := 0) (t := 0) (N := 9) (x := fun _ => 0) C hP hS ac_int rfl rfl (fun h => h) rfl rfl (by simp only [hsz, hA2, Nat.add_assoc, Nat.reduceAdd, Nat.add_zero, Nat.zero_add]) (g_lo hP (K := 67) (i := 0) (by simp) (by simp only [hsz, hA2, Nat.add_assoc, Nat.reduceAdd, Nat.add_zero, Nat.zero_add])) (by decide) (by decide) (by decide) (by decide) dX10_init_198 (fun C H hP hS => ?_)
  obtain ⟨X145, e146, hf⟩ := gl_in hf
  rw [← e146] at hP
  obtain ⟨w149, h150, hf⟩ := rn_in hf
  refine r_putF C hin hP hS w149 (by simp [ha]) (ct_92 _ _ _ _) pf_X10_83 (by rw [fp_92_31, gwref h150]) (Nat.le_of_ble_eq_true rfl) rfl rfl dX10_init_200 (fun H locs hP hS => ?_)
  obtain ⟨X147, e148, hf⟩ := gl_in hf
  rw [← e148] at hP
  refine lv_aload_n hx hb dX10_init_203 rfl (lv_at hl 0 rfl) ?_
  refine lv_bipush (v := 9) hx hb dX10_init_204 (by decide) ?_
  refine r_newa (K := 69) (i := 0) (t := 0) (N := 9) (x := fun _ => 0) C hP hS ac_int rfl rfl (fun h => h) rfl rfl (by simp only [hsz, hA2, Nat.add_assoc, Nat.reduceAdd, Nat.add_zero, Nat.zero_add]) (g_lo hP (K := 68) (i := 0) (by simp) (by simp only [hsz, hA2, Nat.add_assoc, Nat.reduceAdd, Nat.add_zero, Nat.zero_add])) (by decide) (by decide) (by decide) (by decide) dX10_init_206 (fun C H hP hS => ?_)
  obtain ⟨X151, e152, hf⟩ := gl_in hf
  rw [← e152] at hP
  obtain ⟨w155, h156, hf⟩ := rn_in hf
  refine r_putF C hin hP hS w155 (by simp [ha]) (ct_92 _ _ _ _) pf_X10_86 (by rw [fp_92_32, gwref h156]) (Nat.le_of_ble_eq_true rfl) rfl rfl dX10_init_208 (fun H locs hP hS => ?_)
  obtain ⟨X153, e154, hf⟩ := gl_in hf
  rw [← e154] at hP
  refine lv_aload_n hx hb dX10_init_211 rfl (lv_at hl 0 rfl) ?_
  refine lv_bipush (v := 9) hx hb dX10_init_212 (by decide) ?_
  refine r_newa (K := 70) (i := 0) (t := 0) (N := 9) (x := fun _ => 0) C hP hS ac_int rfl rfl (fun h => h) rfl rfl (by simp only [hsz, hA2, Nat.add_assoc, Nat.reduceAdd, Nat.add_zero, Nat.zero_add]) (g_lo hP (K := 69) (i := 0) (by simp) (by simp only [hsz, hA2, Nat.add_assoc, Nat.reduceAdd, Nat.add_zero, Nat.zero_add])) (by decide) (by decide) (by decide) (by decide) dX10_init_214 (fun C H hP hS => ?_)
  obtain ⟨X157, e158, hf⟩ := gl_in hf
  rw [← e158] at hP
  obtain ⟨w161, h162, hf⟩ := rn_in hf
  refine r_putF C hin hP hS w161 (by simp [ha]) (ct_92 _ _ _ _) pf_X10_89 (by rw [fp_92_33, gwref h162]) (Nat.le_of_ble_eq_true rfl) rfl rfl dX10_init_216 (fun H locs hP hS => ?_)
  obtain ⟨X159, e160, hf⟩ := gl_in hf
  rw [← e160] at hP
  refine lv_aload_n hx hb dX10_init_219 rfl (lv_at hl 0 rfl) ?_
  refine lv_bipush (v := 72) hx hb dX10_init_220 (by decide) ?_
  refine r_newa (K := 71) (i := 0) (t := 0) (N := 72) (x := fun _ => 0) C hP hS ac_int rfl rfl (fun h => h) rfl rfl (by simp only [hsz, hA2, Nat.add_assoc, Nat.reduceAdd, Nat.add_zero, Nat.zero_add]) (g_lo hP (K := 70) (i := 0) (by simp) (by simp only [hsz, hA2, Nat.add_assoc, Nat.reduceAdd, Nat.add_zero, Nat.zero_add])) (by decide) (by decide) (by decide) (by decide) dX10_init_222 (fun C H hP hS => ?_)
  obtain ⟨X163, e164, hf⟩ := gl_in hf
  rw [← e164] at hP
  obtain ⟨w167, h168, hf⟩ := rn_in hf
  refine r_putF C hin hP hS w167 (by simp [ha]) (ct_92 _ _ _ _) pf_X10_92 (by rw [fp_92_34, gwref h168]) (Nat.le_of_ble_eq_true rfl) rfl rfl dX10_init_224 (fun H locs hP hS => ?_)
  obtain ⟨X165, e166, hf⟩ := gl_in hf
  rw [← e166] at hP
  refine lv_aload_n hx hb dX10_init_227 rfl (lv_at hl 0 rfl) ?_
  refine lv_bipush (v := 8) hx hb dX10_init_228 (by decide) ?_
  refine r_newa (K := 72) (i := 0) (t := 1) (N := 8) (x := fun _ => 0) C hP hS ac_bool rfl rfl (fun h => h) rfl rfl (by simp only [hsz, hA2, Nat.add_assoc, Nat.reduceAdd, Nat.add_zero, Nat.zero_add]) (g_lo hP (K := 71) (i := 0) (by simp) (by simp only [hsz, hA2, Nat.add_assoc, Nat.reduceAdd, Nat.add_zero, Nat.zero_add])) (by decide) (by decide) (by decide) (by decide) dX10_init_230 (fun C H hP hS => ?_)
  obtain ⟨X169, e170, hf⟩ := gl_in hf
  rw [← e170] at hP
  obtain ⟨w173, h174, hf⟩ := rn_in hf
  refine r_putF C hin hP hS w173 (by simp [ha]) (ct_92 _ _ _ _) pf_X10_95 (by rw [fp_92_35, gwref h174]) (Nat.le_of_ble_eq_true rfl) rfl rfl dX10_init_232 (fun H locs hP hS => ?_)
  obtain ⟨X171, e172, hf⟩ := gl_in hf
  rw [← e172] at hP
  refine lv_aload_n hx hb dX10_init_235 rfl (lv_at hl 0 rfl) ?_
  refine lv_sipush (v := 208) hx hb dX10_init_236 (by decide) ?_
  refine r_newa (K := 73) (i := 0) (t := 0) (N := 208) (x := fun _ => 0) C hP hS ac_int rfl rfl (fun h => h) rfl rfl (by simp only [hsz, hA2, Nat.add_assoc, Nat.reduceAdd, Nat.add_zero, Nat.zero_add]) (g_lo hP (K := 72) (i := 0) (by simp) (by simp only [hsz, hA2, Nat.add_assoc, Nat.reduceAdd, Nat.add_zero, Nat.zero_add])) (by decide) (by decide) (by decide) (by decide) dX10_init_239 (fun C H hP hS => ?_)
  obtain ⟨X175, e176, hf⟩ := gl_in hf
  rw [← e176] at hP
  obtain ⟨w179, h180, hf⟩ := rn_in hf
  refine r_putF C hin hP hS w179 (by simp [ha]) (ct_92 _ _ _ _) pf_X10_98 (by rw [fp_92_36, gwref h180]) (Nat.le_of_ble_eq_true rfl) rfl rfl dX10_init_241 (fun H locs hP hS => ?_)
  obtain ⟨X177, e178, hf⟩ := gl_in hf
  rw [← e178] at hP
  refine lv_aload_n hx hb dX10_init_244 rfl (lv_at hl 0 rfl) ?_
  refine lv_bipush (v := 8) hx hb dX10_init_245 (by decide) ?_
  refine r_newa (K := 74) (i := 0) (t := 0) (N := 8) (x := fun _ => 0) C hP hS ac_int rfl rfl (fun h => h) rfl rfl (by simp only [hsz, hA2, Nat.add_assoc, Nat.reduceAdd, Nat.add_zero, Nat.zero_add]) (g_lo hP (K := 73) (i := 0) (by simp) (by simp only [hsz, hA2, Nat.add_assoc, Nat.reduceAdd, Nat.add_zero, Nat.zero_add])) (by decide) (by decide) (by decide) (by decide) dX10_init_247 (fun C H hP hS => ?_)
  obtain ⟨X181, e182, hf⟩ := gl_in hf
  rw [← e182] at hP
  obtain ⟨w185, h186, hf⟩ := rn_in hf
  refine r_putF C hin hP hS w185 (by simp [ha]) (ct_92 _ _ _ _) pf_X10_101 (by rw [fp_92_37, gwref h186]) (Nat.le_of_ble_eq_true rfl) rfl rfl dX10_init_249 (fun H locs hP hS => ?_)
  obtain ⟨X183, e184, hf⟩ := gl_in hf
  rw [← e184] at hP
  refine lv_aload_n hx hb dX10_init_252 rfl (lv_at hl 0 rfl) ?_
  refine lv_bipush (v := 6) hx hb dX10_init_253 (by decide) ?_
  refine r_newa (K := 75) (i := 0) (t := 0) (N := 6) (x := fun _ => 0) C hP hS ac_int rfl rfl (fun h => h) rfl rfl (by simp only [hsz, hA2, Nat.add_assoc, Nat.reduceAdd, Nat.add_zero, Nat.zero_add]) (g_lo hP (K := 74) (i := 0) (by simp) (by simp only [hsz, hA2, Nat.add_assoc, Nat.reduceAdd, Nat.add_zero, Nat.zero_add])) (by decide) (by decide) (by decide) (by decide) dX10_init_255 (fun C H hP hS => ?_)
  obtain ⟨X187, e188, hf⟩ := gl_in hf
  rw [← e188] at hP
  obtain ⟨w191, h192, hf⟩ := rn_in hf
  refine r_putF C hin hP hS w191 (by simp [ha]) (ct_92 _ _ _ _) pf_X10_104 (by rw [fp_92_38, gwref h192]) (Nat.le_of_ble_eq_true rfl) rfl rfl dX10_init_257 (fun H locs hP hS => ?_)
  obtain ⟨X189, e190, hf⟩ := gl_in hf
  rw [← e190] at hP
  refine lv_aload_n hx hb dX10_init_260 rfl (lv_at hl 0 rfl) ?_
  refine lv_bipush (v := 6) hx hb dX10_init_261 (by decide) ?_
  refine r_newa (K := 76) (i := 0) (t := 0) (N := 6) (x := fun _ => 0) C hP hS ac_int rfl rfl (fun h => h) rfl rfl (by simp only [hsz, hA2, Nat.add_assoc, Nat.reduceAdd, Nat.add_zero, Nat.zero_add]) (g_lo hP (K := 75) (i := 0) (by simp) (by simp only [hsz, hA2, Nat.add_assoc, Nat.reduceAdd, Nat.add_zero, Nat.zero_add])) (by decide) (by decide) (by decide) (by decide) dX10_init_263 (fun C H hP hS => ?_)
  obtain ⟨X193, e194, hf⟩ := gl_in hf
  rw [← e194] at hP
  obtain ⟨w197, h198, hf⟩ := rn_in hf
  refine r_putF C hin hP hS w197 (by simp [ha]) (ct_92 _ _ _ _) pf_X10_107 (by rw [fp_92_39, gwref h198]) (Nat.le_of_ble_eq_true rfl) rfl rfl dX10_init_265 (fun H locs hP hS => ?_)
  obtain ⟨X195, e196, hf⟩ := gl_in hf
  rw [← e196] at hP
  refine lv_aload_n hx hb dX10_init_268 rfl (lv_at hl 0 rfl) ?_
  refine lv_bipush (v := 10) hx hb dX10_init_269 (by decide) ?_
  refine r_newa (K := 77) (i := 0) (t := 0) (N := 10) (x := fun _ => 0) C hP hS ac_int rfl rfl (fun h => h) rfl rfl (by simp only [hsz, hA2, Nat.add_assoc, Nat.reduceAdd, Nat.add_zero, Nat.zero_add]) (g_lo hP (K := 76) (i := 0) (by simp) (by simp only [hsz, hA2, Nat.add_assoc, Nat.reduceAdd, Nat.add_zero, Nat.zero_add])) (by decide) (by decide) (by decide) (by decide) dX10_init_271 (fun C H hP hS => ?_)
  obtain ⟨X199, e200, hf⟩ := gl_in hf
  rw [← e200] at hP
  obtain ⟨w203, h204, hf⟩ := rn_in hf
  refine r_putF C hin hP hS w203 (by simp [ha]) (ct_92 _ _ _ _) pf_X10_110 (by rw [fp_92_41, gwref h204]) (Nat.le_of_ble_eq_true rfl) rfl rfl dX10_init_273 (fun H locs hP hS => ?_)
  obtain ⟨X201, e202, hf⟩ := gl_in hf
  rw [← e202] at hP
  refine lv_aload_n hx hb dX10_init_276 rfl (lv_at hl 0 rfl) ?_
  refine lv_bipush (v := 10) hx hb dX10_init_277 (by decide) ?_
  refine r_newa (K := 78) (i := 0) (t := 0) (N := 10) (x := fun _ => 0) C hP hS ac_int rfl rfl (fun h => h) rfl rfl (by simp only [hsz, hA2, Nat.add_assoc, Nat.reduceAdd, Nat.add_zero, Nat.zero_add]) (g_lo hP (K := 77) (i := 0) (by simp) (by simp only [hsz, hA2, Nat.add_assoc, Nat.reduceAdd, Nat.add_zero, Nat.zero_add])) (by decide) (by decide) (by decide) (by decide) dX10_init_279 (fun C H hP hS => ?_)
  obtain ⟨X205, e206, hf⟩ := gl_in hf
  rw [← e206] at hP
  obtain ⟨w209, h210, hf⟩ := rn_in hf
  refine r_putF C hin hP hS w209 (by simp [ha]) (ct_92 _ _ _ _) pf_X10_113 (by rw [fp_92_43, gwref h210]) (Nat.le_of_ble_eq_true rfl) rfl rfl dX10_init_281 (fun H locs hP hS => ?_)
  obtain ⟨X207, e208, hf⟩ := gl_in hf
  rw [← e208] at hP
  refine lv_aload_n hx hb dX10_init_284 rfl (lv_at hl 0 rfl) ?_
  refine lv_bipush (v := 41) hx hb dX10_init_285 (by decide) ?_
  refine r_newa (K := 79) (i := 0) (t := 0) (N := 41) (x := fun _ => 0) C hP hS ac_int rfl rfl (fun h => h) rfl rfl (by simp only [hsz, hA2, Nat.add_assoc, Nat.reduceAdd, Nat.add_zero, Nat.zero_add]) (g_lo hP (K := 78) (i := 0) (by simp) (by simp only [hsz, hA2, Nat.add_assoc, Nat.reduceAdd, Nat.add_zero, Nat.zero_add])) (by decide) (by decide) (by decide) (by decide) dX10_init_287 (fun C H hP hS => ?_)
  obtain ⟨X211, e212, hf⟩ := gl_in hf
  rw [← e212] at hP
  obtain ⟨w215, h216, hf⟩ := rn_in hf
  refine r_putF C hin hP hS w215 (by simp [ha]) (ct_92 _ _ _ _) pf_X10_116 (by rw [fp_92_44, gwref h216]) (Nat.le_of_ble_eq_true rfl) rfl rfl dX10_init_289 (fun H locs hP hS => ?_)
  obtain ⟨X213, e214, hf⟩ := gl_in hf
  rw [← e214] at hP
  refine lv_aload_n hx hb dX10_init_292 rfl (lv_at hl 0 rfl) ?_
  refine lv_bipush (v := 41) hx hb dX10_init_293 (by decide) ?_
  refine r_newa (K := 80) (i := 0) (t := 0) (N := 41) (x := fun _ => 0) C hP hS ac_int rfl rfl (fun h => h) rfl rfl (by simp only [hsz, hA2, Nat.add_assoc, Nat.reduceAdd, Nat.add_zero, Nat.zero_add]) (g_lo hP (K := 79) (i := 0) (by simp) (by simp only [hsz, hA2, Nat.add_assoc, Nat.reduceAdd, Nat.add_zero, Nat.zero_add])) (by decide) (by decide) (by decide) (by decide) dX10_init_295 (fun C H hP hS => ?_)
  obtain ⟨X217, e218, hf⟩ := gl_in hf
  rw [← e218] at hP
  obtain ⟨w221, h222, hf⟩ := rn_in hf
  refine r_putF C hin hP hS w221 (by simp [ha]) (ct_92 _ _ _ _) pf_X10_119 (by rw [fp_92_45, gwref h222]) (Nat.le_of_ble_eq_true rfl) rfl rfl dX10_init_297 (fun H locs hP hS => ?_)
  obtain ⟨X219, e220, hf⟩ := gl_in hf
  rw [← e220] at hP
  have eNL : (((((((((((((((((((((((((((((((((((((NL ++ [(44, 0)]) ++ [(45, 0)]) ++ [(46, 0)]) ++ [(47, 0)]) ++ [(48, 0)]) ++ [(49, 0)]) ++ [(50, 0)]) ++ [(51, 0)]) ++ [(52, 0)]) ++ [(53, 0)]) ++ [(54, 0)]) ++ [(55, 0)]) ++ [(56, 0)]) ++ [(57, 0)]) ++ [(58, 0)]) ++ [(59, 0)]) ++ [(60, 0)]) ++ [(61, 0)]) ++ [(62, 0)]) ++ [(63, 0)]) ++ [(64, 0)]) ++ [(65, 0)]) ++ [(66, 0)]) ++ [(67, 0)]) ++ [(68, 0)]) ++ [(69, 0)]) ++ [(70, 0)]) ++ [(71, 0)]) ++ [(72, 0)]) ++ [(73, 0)]) ++ [(74, 0)]) ++ [(75, 0)]) ++ [(76, 0)]) ++ [(77, 0)]) ++ [(78, 0)]) ++ [(79, 0)]) ++ [(80, 0)]) = NL ++ nw_X10_init := by simp [nw_X10_init]
  rw [eNL] at C hP
  exact w_X10_init C hW2 (gD_in C.2.2.2.2.2.2.2.2.2.1 (fun _ _ => trivial)) (by simp [ha]) X219 _ _ ls hP hS hl hf

