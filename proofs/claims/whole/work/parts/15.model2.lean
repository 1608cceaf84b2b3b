def rm_X10_word : Room := { frames := 0, cells := 0, slots := 0, locals := 0 }
set_option maxRecDepth 100000 in
set_option maxHeartbeats 4000000 in
theorem s_X10_word_J231 {p : Program} {l : Launch} {e : Env} {s : State} {m : MethodId} {args : Array Value} {below : List Frame} {meth : Method} {c : Code} {D : va_G} {cA : Nat → ClassId} {ad : Nat → Nat → Nat} {NL : List (Nat × Nat)} {A : Nat → Prop} {rr : Int32} {XX : gM} {N : Nat} (C : gCx p c meth m s args cX10_word 5 (some .int) RX10 D cA ad NL A) (hW : gWf NL) (hD0 : gD (fun _ => True) ad NL) : ∀ (p1 : Int32) (X : gM) (H : Heap) (locs : List Loc) (ls : Array Slot), gH D cA ad NL X H → va_S A s.heap H locs → lv_has ls 5 [(0, .ref (ad 43 0)), (1, .int p1)] → (43, 0) ∈ NL → X10_word_J231 (gal NL) N p1 X = some (rr, XX) → W p l e rm_X10_word s m args below meth c H locs 0 0 (MQ below (gQ D cA ad NL (some (.int rr)) XX A) args s 0 0 A) (F0 m 231 ls []) := by
  have hx := C.1
  have hb := C.2.1
  intro p1 X H locs ls hP hS hl ha_l0 hf
  rw [X10_word_J231] at hf
  refine lv_aload_n hx hb dX10_word_231 rfl (lv_at hl 0 rfl) ?_
  refine lv_iconst (v := 0) hx hb dX10_word_232 (by decide) ?_
  refine r_put C hP hS (0 : Int32) ha_l0 (ct_43 _ _ _ _) px_X10_160 (fp_43_15 _ _ _ _ _) (Nat.le_of_ble_eq_true rfl) rfl rfl dX10_word_233 (fun H locs hP hS => ?_)
  obtain ⟨X1, e2, hf⟩ := gl_in hf
  rw [← e2] at hP
  refine lv_iload_n hx hb dX10_word_236 rfl (lv_at hl 1 rfl) ?_
  obtain ⟨rfl, rfl⟩ := g_s1 hf
  exact r_iret C hP hS dX10_word_237

set_option maxRecDepth 100000 in
set_option maxHeartbeats 4000000 in
theorem s_X10_word_J208 {p : Program} {l : Launch} {e : Env} {s : State} {m : MethodId} {args : Array Value} {below : List Frame} {meth : Method} {c : Code} {D : va_G} {cA : Nat → ClassId} {ad : Nat → Nat → Nat} {NL : List (Nat × Nat)} {A : Nat → Prop} {rr : Int32} {XX : gM} {N : Nat} (C : gCx p c meth m s args cX10_word 5 (some .int) RX10 D cA ad NL A) (hW : gWf NL) (hD0 : gD (fun _ => True) ad NL) : ∀ (p1 : Int32) (X : gM) (H : Heap) (locs : List Loc) (ls : Array Slot), gH D cA ad NL X H → va_S A s.heap H locs → lv_has ls 5 [(0, .ref (ad 43 0)), (1, .int p1)] → (43, 0) ∈ NL → X10_word_J208 (gal NL) N p1 X = some (rr, XX) → W p l e rm_X10_word s m args below meth c H locs 0 0 (MQ below (gQ D cA ad NL (some (.int rr)) XX A) args s 0 0 A) (F0 m 208 ls []) := by
  have hx := C.1
  have hb := C.2.1
  intro p1 X H locs ls hP hS hl ha_l0 hf
  rw [X10_word_J208] at hf
  refine lv_aload_n hx hb dX10_word_208 rfl (lv_at hl 0 rfl) ?_
  refine r_get C hP ha_l0 (ct_43 _ _ _ _) fx_X10_55 (fg_43_18 _ _ _) dX10_word_209 ?_
  refine lv_aload_n hx hb dX10_word_212 rfl (lv_at hl 0 rfl) ?_
  refine r_get C hP ha_l0 (ct_43 _ _ _ _) fx_X10_163 (fg_43_17 _ _ _) dX10_word_213 ?_
  refine lv_aload_n hx hb dX10_word_216 rfl (lv_at hl 0 rfl) ?_
  refine r_get C hP ha_l0 (ct_43 _ _ _ _) fx_X10_160 (fg_43_15 _ _ _) dX10_word_217 ?_
  obtain ⟨j1, h2, hf⟩ := rd_in hf
  refine r_iast C hP hS (gs_43_18 hW ha_l0) (fun _ => ct_59 _ _ _ _) h2 dX10_word_220 (fun H locs hP hS => ?_)
  obtain ⟨X3, e4, hf⟩ := gl_in hf
  rw [← e4] at hP
  refine lv_aload_n hx hb dX10_word_221 rfl (lv_at hl 0 rfl) ?_
  refine lv_dup hx hb dX10_word_222 rfl ?_
  refine r_get C hP ha_l0 (ct_43 _ _ _ _) fx_X10_163 (fg_43_17 _ _ _) dX10_word_223 ?_
  refine lv_iconst (v := 1) hx hb dX10_word_226 (by decide) ?_
  refine lv_iadd hx hb dX10_word_227 ?_
  refine r_put C hP hS ((X3 43 0 17) + (1 : Int32)) ha_l0 (ct_43 _ _ _ _) px_X10_163 (fp_43_17 _ _ _ _ _) (Nat.le_of_ble_eq_true rfl) rfl rfl dX10_word_228 (fun H locs hP hS => ?_)
  obtain ⟨X5, e6, hf⟩ := gl_in hf
  rw [← e6] at hP
  exact s_X10_word_J231 C hW hD0 p1 X5 _ _ _ hP hS (lv_sub hl [0, 1] rfl) ha_l0 hf

set_option maxRecDepth 100000 in
set_option maxHeartbeats 4000000 in
theorem s_X10_word_L174 {p : Program} {l : Launch} {e : Env} {s : State} {m : MethodId} {args : Array Value} {below : List Frame} {meth : Method} {c : Code} {D : va_G} {cA : Nat → ClassId} {ad : Nat → Nat → Nat} {NL : List (Nat × Nat)} {A : Nat → Prop} {rr : Int32} {XX : gM} {N : Nat} {k208 : Int32 → gM → Option (Int32 × gM)} (C : gCx p c meth m s args cX10_word 5 (some .int) RX10 D cA ad NL A) (hW : gWf NL) (hD0 : gD (fun _ => True) ad NL) (hk208 : ∀ (p1 : Int32) (Y : gM) (H : Heap) (locs : List Loc) (ls : Array Slot), gH D cA ad NL Y H → va_S A s.heap H locs → lv_has ls 5 [(0, .ref (ad 43 0)), (1, .int p1)] → (43, 0) ∈ NL → k208 p1 Y = some (rr, XX) → W p l e rm_X10_word s m args below meth c H locs 0 0 (MQ below (gQ D cA ad NL (some (.int rr)) XX A) args s 0 0 A) (F0 m 208 ls [])) : ∀ (n : Nat) (p1 : Int32) (p2 : Int32) (X : gM) (H : Heap) (locs : List Loc) (ls : Array Slot), gH D cA ad NL X H → va_S A s.heap H locs → lv_has ls 5 [(0, .ref (ad 43 0)), (1, .int p1), (2, .int p2)] → (43, 0) ∈ NL → X10_word_L174 (gal NL) N k208 n p1 p2 X = some (rr, XX) → W p l e rm_X10_word s m args below meth c H locs 0 0 (MQ below (gQ D cA ad NL (some (.int rr)) XX A) args s 0 0 A) (F0 m 174 ls []) := by
  have hx := C.1
  have hb := C.2.1
  intro n
  induction n with
  | zero =>
    intro p1 p2 X H locs ls hP hS hl ha_l0 hf
    rw [X10_word_L174] at hf
    cases hf
  | succ n ih =>
    intro p1 p2 X H locs ls hP hS hl ha_l0 hf
    rw [X10_word_L174] at hf
    refine lv_iload_n hx hb dX10_word_174 rfl (lv_at hl 2 rfl) ?_
    refine lv_aload_n hx hb dX10_word_175 rfl (lv_at hl 0 rfl) ?_
    refine r_get C hP ha_l0 (ct_43 _ _ _ _) fx_X10_160 (fg_43_15 _ _ _) dX10_word_176 ?_
    refine lv_icmp_ge (tgt := 208) hx hb dX10_word_179 (by decide) (fun c1 => ?_) (fun c1 => ?_)
    · have hf := g_ip c1 hf
      exact hk208 p1 X _ _ _ hP hS (lv_sub hl [0, 1] rfl) ha_l0 hf
    · have hf := g_in c1 hf
      refine lv_aload_n hx hb dX10_word_182 rfl (lv_at hl 0 rfl) ?_
      refine r_get C hP ha_l0 (ct_43 _ _ _ _) fx_X10_58 (fg_43_19 _ _ _) dX10_word_183 ?_
      refine lv_bipush (v := 8) hx hb dX10_word_186 (by decide) ?_
      refine lv_aload_n hx hb dX10_word_188 rfl (lv_at hl 0 rfl) ?_
      refine r_get C hP ha_l0 (ct_43 _ _ _ _) fx_X10_163 (fg_43_17 _ _ _) dX10_word_189 ?_
      refine lv_imul hx hb dX10_word_192 ?_
      refine lv_iload_n hx hb dX10_word_193 rfl (lv_at hl 2 rfl) ?_
      refine lv_iadd hx hb dX10_word_194 ?_
      refine lv_aload_n hx hb dX10_word_195 rfl (lv_at hl 0 rfl) ?_
      refine r_get C hP ha_l0 (ct_43 _ _ _ _) fx_X10_52 (fg_43_16 _ _ _) dX10_word_196 ?_
      refine lv_iload_n hx hb dX10_word_199 rfl (lv_at hl 2 rfl) ?_
      obtain ⟨j2, h3, hf⟩ := rd_in hf
      refine r_iald C hP (gs_43_16 hW ha_l0) (ct_58 _ _ _ _) h3 dX10_word_200 ?_
      obtain ⟨j4, h5, hf⟩ := rd_in hf
      refine r_iast C hP hS (gs_43_19 hW ha_l0) (fun _ => ct_60 _ _ _ _) h5 dX10_word_201 (fun H locs hP hS => ?_)
      obtain ⟨X6, e7, hf⟩ := gl_in hf
      rw [← e7] at hP
      obtain ⟨v8, e9, hf⟩ := gl_in hf
      refine lv_iinc (v := v8) (lv' := [(2, .int v8), (0, .ref (ad 43 0)), (1, .int p1)]) hx hb dX10_word_202 hl (k := 2) rfl (by rw [e9]; rfl) (Nat.le_of_ble_eq_true rfl) rfl (fun ls hl => ?_)
      refine lv_goto (tgt := 174) hx hb dX10_word_205 (by decide) ?_
      exact ih p1 v8 X6 _ _ _ hP hS (lv_sub hl [1, 2, 0] rfl) ha_l0 hf

set_option maxRecDepth 100000 in
set_option maxHeartbeats 4000000 in
theorem s_X10_word_J152 {p : Program} {l : Launch} {e : Env} {s : State} {m : MethodId} {args : Array Value} {below : List Frame} {meth : Method} {c : Code} {D : va_G} {cA : Nat → ClassId} {ad : Nat → Nat → Nat} {NL : List (Nat × Nat)} {A : Nat → Prop} {rr : Int32} {XX : gM} {N : Nat} (C : gCx p c meth m s args cX10_word 5 (some .int) RX10 D cA ad NL A) (hW : gWf NL) (hD0 : gD (fun _ => True) ad NL) : ∀ (p1 : Int32) (s1 : Int32) (X : gM) (H : Heap) (locs : List Loc) (ls : Array Slot), gH D cA ad NL X H → va_S A s.heap H locs → lv_has ls 5 [(0, .ref (ad 43 0)), (1, .int p1)] → (43, 0) ∈ NL → (43, 0) ∈ NL → X10_word_J152 (gal NL) N p1 s1 X = some (rr, XX) → W p l e rm_X10_word s m args below meth c H locs 0 0 (MQ below (gQ D cA ad NL (some (.int rr)) XX A) args s 0 0 A) (F0 m 152 ls [.int s1, .ref (ad 43 0)]) := by
  have hx := C.1
  have hb := C.2.1
  intro p1 s1 X H locs ls hP hS hl ha_l0 ha_s0 hf
  rw [X10_word_J152] at hf
  refine r_put C hP hS s1 ha_s0 (ct_43 _ _ _ _) px_X10_122 (fp_43_46 _ _ _ _ _) (Nat.le_of_ble_eq_true rfl) rfl rfl dX10_word_152 (fun H locs hP hS => ?_)
  obtain ⟨X1, e2, hf⟩ := gl_in hf
  rw [← e2] at hP
  refine lv_aload_n hx hb dX10_word_155 rfl (lv_at hl 0 rfl) ?_
  refine r_get C hP ha_l0 (ct_43 _ _ _ _) fx_X10_122 (fg_43_46 _ _ _) dX10_word_156 ?_
  refine lv_if_le (tgt := 164) hx hb dX10_word_159 (by decide) (fun c3 => ?_) (fun c3 => ?_)
  · have hf := g_ip c3 hf
    refine lv_iload_n hx hb dX10_word_164 rfl (lv_at hl 1 rfl) ?_
    refine lv_aload_n hx hb dX10_word_165 rfl (lv_at hl 0 rfl) ?_
    refine r_get C hP ha_l0 (ct_43 _ _ _ _) fx_X10_163 (fg_43_17 _ _ _) dX10_word_166 ?_
    refine lv_icmp_ne (tgt := 231) hx hb dX10_word_169 (by decide) (fun c4 => ?_) (fun c4 => ?_)
    · have hf := g_in c4 hf
      exact s_X10_word_J231 C hW hD0 p1 X1 _ _ _ hP hS (lv_sub hl [0, 1] rfl) ha_l0 hf
    · have hf := g_ip c4 hf
      refine lv_iconst (v := 0) hx hb dX10_word_172 (by decide) ?_
      refine lv_istore_n (i := 2) (lv' := [(2, .int (0 : Int32)), (0, .ref (ad 43 0)), (1, .int p1)]) hx hb dX10_word_173 rfl hl (Nat.le_of_ble_eq_true rfl) rfl (fun ls hl => ?_)
      exact s_X10_word_L174 C hW hD0 (fun p1 Y H locs ls hP hS hl ha_l0 hf => s_X10_word_J208 C hW hD0 p1 Y _ _ _ hP hS hl ha_l0 hf) N p1 (0 : Int32) X1 _ _ _ hP hS (lv_sub hl [1, 2, 0] rfl) ha_l0 hf
  · have hf := g_in c3 hf
    refine lv_iconst (v := 0) hx hb dX10_word_162 (by decide) ?_
    obtain ⟨rfl, rfl⟩ := g_s1 hf
    exact r_iret C hP hS dX10_word_163

set_option maxRecDepth 100000 in
set_option maxHeartbeats 4000000 in
theorem s_X10_word_J147 {p : Program} {l : Launch} {e : Env} {s : State} {m : MethodId} {args : Array Value} {below : List Frame} {meth : Method} {c : Code} {D : va_G} {cA : Nat → ClassId} {ad : Nat → Nat → Nat} {NL : List (Nat × Nat)} {A : Nat → Prop} {rr : Int32} {XX : gM} {N : Nat} (C : gCx p c meth m s args cX10_word 5 (some .int) RX10 D cA ad NL A) (hW : gWf NL) (hD0 : gD (fun _ => True) ad NL) : ∀ (p1 : Int32) (X : gM) (H : Heap) (locs : List Loc) (ls : Array Slot), gH D cA ad NL X H → va_S A s.heap H locs → lv_has ls 5 [(0, .ref (ad 43 0)), (1, .int p1)] → (43, 0) ∈ NL → (43, 0) ∈ NL → X10_word_J147 (gal NL) N p1 X = some (rr, XX) → W p l e rm_X10_word s m args below meth c H locs 0 0 (MQ below (gQ D cA ad NL (some (.int rr)) XX A) args s 0 0 A) (F0 m 147 ls [.ref (ad 43 0)]) := by
  have hx := C.1
  have hb := C.2.1
  intro p1 X H locs ls hP hS hl ha_l0 ha_s0 hf
  rw [X10_word_J147] at hf
  refine lv_iconst (v := 1) hx hb dX10_word_147 (by decide) ?_
  refine lv_goto (tgt := 152) hx hb dX10_word_148 (by decide) ?_
  exact s_X10_word_J152 C hW hD0 p1 (1 : Int32) X _ _ _ hP hS (lv_sub hl [0, 1] rfl) ha_l0 ha_s0 hf

set_option maxRecDepth 100000 in
set_option maxHeartbeats 4000000 in
theorem s_X10_word_J133 {p : Program} {l : Launch} {e : Env} {s : State} {m : MethodId} {args : Array Value} {below : List Frame} {meth : Method} {c : Code} {D : va_G} {cA : Nat → ClassId} {ad : Nat → Nat → Nat} {NL : List (Nat × Nat)} {A : Nat → Prop} {rr : Int32} {XX : gM} {N : Nat} (C : gCx p c meth m s args cX10_word 5 (some .int) RX10 D cA ad NL A) (hW : gWf NL) (hD0 : gD (fun _ => True) ad NL) : ∀ (p1 : Int32) (X : gM) (H : Heap) (locs : List Loc) (ls : Array Slot), gH D cA ad NL X H → va_S A s.heap H locs → lv_has ls 5 [(0, .ref (ad 43 0)), (1, .int p1)] → (43, 0) ∈ NL → X10_word_J133 (gal NL) N p1 X = some (rr, XX) → W p l e rm_X10_word s m args below meth c H locs 0 0 (MQ below (gQ D cA ad NL (some (.int rr)) XX A) args s 0 0 A) (F0 m 133 ls []) := by
  have hx := C.1
  have hb := C.2.1
  intro p1 X H locs ls hP hS hl ha_l0 hf
  rw [X10_word_J133] at hf
  refine lv_aload_n hx hb dX10_word_133 rfl (lv_at hl 0 rfl) ?_
  refine lv_aload_n hx hb dX10_word_134 rfl (lv_at hl 0 rfl) ?_
  refine r_get C hP ha_l0 (ct_43 _ _ _ _) fx_X10_122 (fg_43_46 _ _ _) dX10_word_135 ?_
  refine lv_if_gt (tgt := 147) hx hb dX10_word_138 (by decide) (fun c1 => ?_) (fun c1 => ?_)
  · have hf := g_ip c1 hf
    exact s_X10_word_J147 C hW hD0 p1 X _ _ _ hP hS (lv_sub hl [0, 1] rfl) ha_l0 ha_l0 hf
  · have hf := g_in c1 hf
    refine lv_iload_n hx hb dX10_word_141 rfl (lv_at hl 1 rfl) ?_
    refine lv_bipush (v := 12) hx hb dX10_word_142 (by decide) ?_
    refine lv_icmp_ne (tgt := 151) hx hb dX10_word_144 (by decide) (fun c2 => ?_) (fun c2 => ?_)
    · have hf := g_in c2 hf
      refine lv_iconst (v := 0) hx hb dX10_word_151 (by decide) ?_
      exact s_X10_word_J152 C hW hD0 p1 (0 : Int32) X _ _ _ hP hS (lv_sub hl [0, 1] rfl) ha_l0 ha_l0 hf
    · have hf := g_ip c2 hf
      exact s_X10_word_J147 C hW hD0 p1 X _ _ _ hP hS (lv_sub hl [0, 1] rfl) ha_l0 ha_l0 hf

set_option maxRecDepth 100000 in
set_option maxHeartbeats 4000000 in
theorem s_X10_word_J126 {p : Program} {l : Launch} {e : Env} {s : State} {m : MethodId} {args : Array Value} {below : List Frame} {meth : Method} {c : Code} {D : va_G} {cA : Nat → ClassId} {ad : Nat → Nat → Nat} {NL : List (Nat × Nat)} {A : Nat → Prop} {rr : Int32} {XX : gM} {N : Nat} {kk : Int32 → Int32 → gM → Option (Int32 × gM)} {k133 : Int32 → gM → Option (Int32 × gM)} (C : gCx p c meth m s args cX10_word 5 (some .int) RX10 D cA ad NL A) (hW : gWf NL) (hD0 : gD (fun _ => True) ad NL) (hkk : ∀ (p1 : Int32) (p2 : Int32) (Y : gM) (H : Heap) (locs : List Loc) (ls : Array Slot), gH D cA ad NL Y H → va_S A s.heap H locs → lv_has ls 5 [(0, .ref (ad 43 0)), (1, .int p1), (2, .int p2)] → (43, 0) ∈ NL → kk p1 p2 Y = some (rr, XX) → W p l e rm_X10_word s m args below meth c H locs 0 0 (MQ below (gQ D cA ad NL (some (.int rr)) XX A) args s 0 0 A) (F0 m 37 ls [])) (hk133 : ∀ (p1 : Int32) (Y : gM) (H : Heap) (locs : List Loc) (ls : Array Slot), gH D cA ad NL Y H → va_S A s.heap H locs → lv_has ls 5 [(0, .ref (ad 43 0)), (1, .int p1)] → (43, 0) ∈ NL → k133 p1 Y = some (rr, XX) → W p l e rm_X10_word s m args below meth c H locs 0 0 (MQ below (gQ D cA ad NL (some (.int rr)) XX A) args s 0 0 A) (F0 m 133 ls [])) : ∀ (p2 : Int32) (s0 : Int32) (X : gM) (H : Heap) (locs : List Loc) (ls : Array Slot), gH D cA ad NL X H → va_S A s.heap H locs → lv_has ls 5 [(0, .ref (ad 43 0)), (2, .int p2)] → (43, 0) ∈ NL → X10_word_J126 (gal NL) N kk k133 p2 s0 X = some (rr, XX) → W p l e rm_X10_word s m args below meth c H locs 0 0 (MQ below (gQ D cA ad NL (some (.int rr)) XX A) args s 0 0 A) (F0 m 126 ls [.int s0]) := by
  have hx := C.1
  have hb := C.2.1
  intro p2 s0 X H locs ls hP hS hl ha_l0 hf
  rw [X10_word_J126] at hf
  refine lv_istore_n (i := 1) (lv' := [(1, .int s0), (0, .ref (ad 43 0)), (2, .int p2)]) hx hb dX10_word_126 rfl hl (Nat.le_of_ble_eq_true rfl) rfl (fun ls hl => ?_)
  obtain ⟨v1, e2, hf⟩ := gl_in hf
  refine lv_iinc (v := v1) (lv' := [(2, .int v1), (1, .int s0), (0, .ref (ad 43 0))]) hx hb dX10_word_127 hl (k := 2) rfl (by rw [e2]; rfl) (Nat.le_of_ble_eq_true rfl) rfl (fun ls hl => ?_)
  refine lv_goto (tgt := 37) hx hb dX10_word_130 (by decide) ?_
  exact hkk s0 v1 X _ _ _ hP hS (lv_sub hl [2, 1, 0] rfl) ha_l0 hf

set_option maxRecDepth 100000 in
set_option maxHeartbeats 4000000 in
theorem s_X10_word_J117 {p : Program} {l : Launch} {e : Env} {s : State} {m : MethodId} {args : Array Value} {below : List Frame} {meth : Method} {c : Code} {D : va_G} {cA : Nat → ClassId} {ad : Nat → Nat → Nat} {NL : List (Nat × Nat)} {A : Nat → Prop} {rr : Int32} {XX : gM} {N : Nat} {kk : Int32 → Int32 → gM → Option (Int32 × gM)} {k133 : Int32 → gM → Option (Int32 × gM)} (C : gCx p c meth m s args cX10_word 5 (some .int) RX10 D cA ad NL A) (hW : gWf NL) (hD0 : gD (fun _ => True) ad NL) (hkk : ∀ (p1 : Int32) (p2 : Int32) (Y : gM) (H : Heap) (locs : List Loc) (ls : Array Slot), gH D cA ad NL Y H → va_S A s.heap H locs → lv_has ls 5 [(0, .ref (ad 43 0)), (1, .int p1), (2, .int p2)] → (43, 0) ∈ NL → kk p1 p2 Y = some (rr, XX) → W p l e rm_X10_word s m args below meth c H locs 0 0 (MQ below (gQ D cA ad NL (some (.int rr)) XX A) args s 0 0 A) (F0 m 37 ls [])) (hk133 : ∀ (p1 : Int32) (Y : gM) (H : Heap) (locs : List Loc) (ls : Array Slot), gH D cA ad NL Y H → va_S A s.heap H locs → lv_has ls 5 [(0, .ref (ad 43 0)), (1, .int p1)] → (43, 0) ∈ NL → k133 p1 Y = some (rr, XX) → W p l e rm_X10_word s m args below meth c H locs 0 0 (MQ below (gQ D cA ad NL (some (.int rr)) XX A) args s 0 0 A) (F0 m 133 ls [])) : ∀ (p1 : Int32) (p2 : Int32) (p3 : Int32) (X : gM) (H : Heap) (locs : List Loc) (ls : Array Slot), gH D cA ad NL X H → va_S A s.heap H locs → lv_has ls 5 [(0, .ref (ad 43 0)), (1, .int p1), (2, .int p2), (3, .int p3)] → (43, 0) ∈ NL → X10_word_J117 (gal NL) N kk k133 p1 p2 p3 X = some (rr, XX) → W p l e rm_X10_word s m args below meth c H locs 0 0 (MQ below (gQ D cA ad NL (some (.int rr)) XX A) args s 0 0 A) (F0 m 117 ls []) := by
  have hx := C.1
  have hb := C.2.1
  intro p1 p2 p3 X H locs ls hP hS hl ha_l0 hf
  rw [X10_word_J117] at hf
  refine lv_iload_n hx hb dX10_word_117 rfl (lv_at hl 3 rfl) ?_
  refine lv_if_eq (tgt := 125) hx hb dX10_word_118 (by decide) (fun c1 => ?_) (fun c1 => ?_)
  · have hf := g_ip c1 hf
    refine lv_iload_n hx hb dX10_word_125 rfl (lv_at hl 1 rfl) ?_
    exact s_X10_word_J126 C hW hD0 hkk hk133 p2 p1 X _ _ _ hP hS (lv_sub hl [0, 2] rfl) ha_l0 hf
  · have hf := g_in c1 hf
    refine lv_iload_n hx hb dX10_word_121 rfl (lv_at hl 2 rfl) ?_
    refine lv_goto (tgt := 126) hx hb dX10_word_122 (by decide) ?_
    exact s_X10_word_J126 C hW hD0 hkk hk133 p2 p2 X _ _ _ hP hS (lv_sub hl [0, 2] rfl) ha_l0 hf

set_option maxRecDepth 100000 in
set_option maxHeartbeats 4000000 in
theorem s_X10_word_J110 {p : Program} {l : Launch} {e : Env} {s : State} {m : MethodId} {args : Array Value} {below : List Frame} {meth : Method} {c : Code} {D : va_G} {cA : Nat → ClassId} {ad : Nat → Nat → Nat} {NL : List (Nat × Nat)} {A : Nat → Prop} {rr : Int32} {XX : gM} {N : Nat} {kk : Int32 → Int32 → Int32 → Int32 → gM → Option (Int32 × gM)} {k117 : Int32 → Int32 → Int32 → gM → Option (Int32 × gM)} (C : gCx p c meth m s args cX10_word 5 (some .int) RX10 D cA ad NL A) (hW : gWf NL) (hD0 : gD (fun _ => True) ad NL) (hkk : ∀ (p1 : Int32) (p2 : Int32) (p3 : Int32) (p4 : Int32) (Y : gM) (H : Heap) (locs : List Loc) (ls : Array Slot), gH D cA ad NL Y H → va_S A s.heap H locs → lv_has ls 5 [(0, .ref (ad 43 0)), (1, .int p1), (2, .int p2), (3, .int p3), (4, .int p4)] → (43, 0) ∈ NL → kk p1 p2 p3 p4 Y = some (rr, XX) → W p l e rm_X10_word s m args below meth c H locs 0 0 (MQ below (gQ D cA ad NL (some (.int rr)) XX A) args s 0 0 A) (F0 m 70 ls [])) (hk117 : ∀ (p1 : Int32) (p2 : Int32) (p3 : Int32) (Y : gM) (H : Heap) (locs : List Loc) (ls : Array Slot), gH D cA ad NL Y H → va_S A s.heap H locs → lv_has ls 5 [(0, .ref (ad 43 0)), (1, .int p1), (2, .int p2), (3, .int p3)] → (43, 0) ∈ NL → k117 p1 p2 p3 Y = some (rr, XX) → W p l e rm_X10_word s m args below meth c H locs 0 0 (MQ below (gQ D cA ad NL (some (.int rr)) XX A) args s 0 0 A) (F0 m 117 ls [])) : ∀ (p1 : Int32) (p2 : Int32) (p4 : Int32) (s0 : Int32) (X : gM) (H : Heap) (locs : List Loc) (ls : Array Slot), gH D cA ad NL X H → va_S A s.heap H locs → lv_has ls 5 [(0, .ref (ad 43 0)), (1, .int p1), (2, .int p2), (4, .int p4)] → (43, 0) ∈ NL → X10_word_J110 (gal NL) N kk k117 p1 p2 p4 s0 X = some (rr, XX) → W p l e rm_X10_word s m args below meth c H locs 0 0 (MQ below (gQ D cA ad NL (some (.int rr)) XX A) args s 0 0 A) (F0 m 110 ls [.int s0]) := by
  have hx := C.1
  have hb := C.2.1
  intro p1 p2 p4 s0 X H locs ls hP hS hl ha_l0 hf
  rw [X10_word_J110] at hf
  refine lv_istore_n (i := 3) (lv' := [(3, .int s0), (0, .ref (ad 43 0)), (1, .int p1), (2, .int p2), (4, .int p4)]) hx hb dX10_word_110 rfl hl (Nat.le_of_ble_eq_true rfl) rfl (fun ls hl => ?_)
  obtain ⟨v1, e2, hf⟩ := gl_in hf
  refine lv_iinc (v := v1) (lv' := [(4, .int v1), (3, .int s0), (0, .ref (ad 43 0)), (1, .int p1), (2, .int p2)]) hx hb dX10_word_111 hl (k := 4) rfl (by rw [e2]; rfl) (Nat.le_of_ble_eq_true rfl) rfl (fun ls hl => ?_)
  refine lv_goto (tgt := 70) hx hb dX10_word_114 (by decide) ?_
  exact hkk p1 p2 s0 v1 X _ _ _ hP hS (lv_sub hl [2, 3, 4, 1, 0] rfl) ha_l0 hf

set_option maxRecDepth 100000 in
set_option maxHeartbeats 4000000 in
theorem s_X10_word_L70 {p : Program} {l : Launch} {e : Env} {s : State} {m : MethodId} {args : Array Value} {below : List Frame} {meth : Method} {c : Code} {D : va_G} {cA : Nat → ClassId} {ad : Nat → Nat → Nat} {NL : List (Nat × Nat)} {A : Nat → Prop} {rr : Int32} {XX : gM} {N : Nat} {k117 : Int32 → Int32 → Int32 → gM → Option (Int32 × gM)} (C : gCx p c meth m s args cX10_word 5 (some .int) RX10 D cA ad NL A) (hW : gWf NL) (hD0 : gD (fun _ => True) ad NL) (hk117 : ∀ (p1 : Int32) (p2 : Int32) (p3 : Int32) (Y : gM) (H : Heap) (locs : List Loc) (ls : Array Slot), gH D cA ad NL Y H → va_S A s.heap H locs → lv_has ls 5 [(0, .ref (ad 43 0)), (1, .int p1), (2, .int p2), (3, .int p3)] → (43, 0) ∈ NL → k117 p1 p2 p3 Y = some (rr, XX) → W p l e rm_X10_word s m args below meth c H locs 0 0 (MQ below (gQ D cA ad NL (some (.int rr)) XX A) args s 0 0 A) (F0 m 117 ls [])) : ∀ (n : Nat) (p1 : Int32) (p2 : Int32) (p3 : Int32) (p4 : Int32) (X : gM) (H : Heap) (locs : List Loc) (ls : Array Slot), gH D cA ad NL X H → va_S A s.heap H locs → lv_has ls 5 [(0, .ref (ad 43 0)), (1, .int p1), (2, .int p2), (3, .int p3), (4, .int p4)] → (43, 0) ∈ NL → X10_word_L70 (gal NL) N k117 n p1 p2 p3 p4 X = some (rr, XX) → W p l e rm_X10_word s m args below meth c H locs 0 0 (MQ below (gQ D cA ad NL (some (.int rr)) XX A) args s 0 0 A) (F0 m 70 ls []) := by
  have hx := C.1
  have hb := C.2.1
  intro n
  induction n with
  | zero =>
    intro p1 p2 p3 p4 X H locs ls hP hS hl ha_l0 hf
    rw [X10_word_L70] at hf
    cases hf
  | succ n ih =>
    intro p1 p2 p3 p4 X H locs ls hP hS hl ha_l0 hf
    rw [X10_word_L70] at hf
    refine lv_iload hx hb dX10_word_70 (lv_at hl 4 rfl) ?_
    refine lv_aload_n hx hb dX10_word_72 rfl (lv_at hl 0 rfl) ?_
    refine r_get C hP ha_l0 (ct_43 _ _ _ _) fx_X10_160 (fg_43_15 _ _ _) dX10_word_73 ?_
    refine lv_icmp_ge (tgt := 117) hx hb dX10_word_76 (by decide) (fun c1 => ?_) (fun c1 => ?_)
    · have hf := g_ip c1 hf
      exact hk117 p1 p2 p3 X _ _ _ hP hS (lv_sub hl [0, 1, 2, 3] rfl) ha_l0 hf
    · have hf := g_in c1 hf
      refine lv_iload_n hx hb dX10_word_79 rfl (lv_at hl 3 rfl) ?_
      refine lv_if_eq (tgt := 117) hx hb dX10_word_80 (by decide) (fun c2 => ?_) (fun c2 => ?_)
      · have hf := g_ip c2 hf
        exact hk117 p1 p2 p3 X _ _ _ hP hS (lv_sub hl [0, 1, 2, 3] rfl) ha_l0 hf
      · have hf := g_in c2 hf
        refine lv_aload_n hx hb dX10_word_83 rfl (lv_at hl 0 rfl) ?_
        refine r_get C hP ha_l0 (ct_43 _ _ _ _) fx_X10_58 (fg_43_19 _ _ _) dX10_word_84 ?_
        refine lv_bipush (v := 8) hx hb dX10_word_87 (by decide) ?_
        refine lv_iload_n hx hb dX10_word_89 rfl (lv_at hl 2 rfl) ?_
        refine lv_imul hx hb dX10_word_90 ?_
        refine lv_iload hx hb dX10_word_91 (lv_at hl 4 rfl) ?_
        refine lv_iadd hx hb dX10_word_93 ?_
        obtain ⟨j3, h4, hf⟩ := rd_in hf
        refine r_iald C hP (gs_43_19 hW ha_l0) (ct_60 _ _ _ _) h4 dX10_word_94 ?_
        refine lv_aload_n hx hb dX10_word_95 rfl (lv_at hl 0 rfl) ?_
        refine r_get C hP ha_l0 (ct_43 _ _ _ _) fx_X10_52 (fg_43_16 _ _ _) dX10_word_96 ?_
        refine lv_iload hx hb dX10_word_99 (lv_at hl 4 rfl) ?_
        obtain ⟨j5, h6, hf⟩ := rd_in hf
        refine r_iald C hP (gs_43_16 hW ha_l0) (ct_58 _ _ _ _) h6 dX10_word_101 ?_
        refine lv_icmp_ne (tgt := 109) hx hb dX10_word_102 (by decide) (fun c7 => ?_) (fun c7 => ?_)
        · have hf := g_in c7 hf
          refine lv_iconst (v := 0) hx hb dX10_word_109 (by decide) ?_
          exact s_X10_word_J110 C hW hD0 ih hk117 p1 p2 p4 (0 : Int32) X _ _ _ hP hS (lv_sub hl [0, 1, 2, 4] rfl) ha_l0 hf
        · have hf := g_ip c7 hf
          refine lv_iconst (v := 1) hx hb dX10_word_105 (by decide) ?_
          refine lv_goto (tgt := 110) hx hb dX10_word_106 (by decide) ?_
          exact s_X10_word_J110 C hW hD0 ih hk117 p1 p2 p4 (1 : Int32) X _ _ _ hP hS (lv_sub hl [0, 1, 2, 4] rfl) ha_l0 hf

set_option maxRecDepth 100000 in
set_option maxHeartbeats 4000000 in
theorem s_X10_word_J66 {p : Program} {l : Launch} {e : Env} {s : State} {m : MethodId} {args : Array Value} {below : List Frame} {meth : Method} {c : Code} {D : va_G} {cA : Nat → ClassId} {ad : Nat → Nat → Nat} {NL : List (Nat × Nat)} {A : Nat → Prop} {rr : Int32} {XX : gM} {N : Nat} {kk : Int32 → Int32 → gM → Option (Int32 × gM)} {k133 : Int32 → gM → Option (Int32 × gM)} (C : gCx p c meth m s args cX10_word 5 (some .int) RX10 D cA ad NL A) (hW : gWf NL) (hD0 : gD (fun _ => True) ad NL) (hkk : ∀ (p1 : Int32) (p2 : Int32) (Y : gM) (H : Heap) (locs : List Loc) (ls : Array Slot), gH D cA ad NL Y H → va_S A s.heap H locs → lv_has ls 5 [(0, .ref (ad 43 0)), (1, .int p1), (2, .int p2)] → (43, 0) ∈ NL → kk p1 p2 Y = some (rr, XX) → W p l e rm_X10_word s m args below meth c H locs 0 0 (MQ below (gQ D cA ad NL (some (.int rr)) XX A) args s 0 0 A) (F0 m 37 ls [])) (hk133 : ∀ (p1 : Int32) (Y : gM) (H : Heap) (locs : List Loc) (ls : Array Slot), gH D cA ad NL Y H → va_S A s.heap H locs → lv_has ls 5 [(0, .ref (ad 43 0)), (1, .int p1)] → (43, 0) ∈ NL → k133 p1 Y = some (rr, XX) → W p l e rm_X10_word s m args below meth c H locs 0 0 (MQ below (gQ D cA ad NL (some (.int rr)) XX A) args s 0 0 A) (F0 m 133 ls [])) : ∀ (p1 : Int32) (p2 : Int32) (s0 : Int32) (X : gM) (H : Heap) (locs : List Loc) (ls : Array Slot), gH D cA ad NL X H → va_S A s.heap H locs → lv_has ls 5 [(0, .ref (ad 43 0)), (1, .int p1), (2, .int p2)] → (43, 0) ∈ NL → X10_word_J66 (gal NL) N kk k133 p1 p2 s0 X = some (rr, XX) → W p l e rm_X10_word s m args below meth c H locs 0 0 (MQ below (gQ D cA ad NL (some (.int rr)) XX A) args s 0 0 A) (F0 m 66 ls [.int s0]) := by
  have hx := C.1
  have hb := C.2.1
  intro p1 p2 s0 X H locs ls hP hS hl ha_l0 hf
  rw [X10_word_J66] at hf
  refine lv_istore_n (i := 3) (lv' := [(3, .int s0), (0, .ref (ad 43 0)), (1, .int p1), (2, .int p2)]) hx hb dX10_word_66 rfl hl (Nat.le_of_ble_eq_true rfl) rfl (fun ls hl => ?_)
  refine lv_iconst (v := 0) hx hb dX10_word_67 (by decide) ?_
  refine lv_istore (i := 4) (lv' := [(4, .int (0 : Int32)), (3, .int s0), (0, .ref (ad 43 0)), (1, .int p1), (2, .int p2)]) hx hb dX10_word_68 hl (Nat.le_of_ble_eq_true rfl) rfl (fun ls hl => ?_)
  exact s_X10_word_L70 C hW hD0 (fun p1 p2 p3 Y H locs ls hP hS hl ha_l0 hf => s_X10_word_J117 C hW hD0 hkk hk133 p1 p2 p3 Y _ _ _ hP hS hl ha_l0 hf) N p1 p2 s0 (0 : Int32) X _ _ _ hP hS (lv_sub hl [2, 3, 4, 1, 0] rfl) ha_l0 hf

set_option maxRecDepth 100000 in
set_option maxHeartbeats 4000000 in
theorem s_X10_word_L37 {p : Program} {l : Launch} {e : Env} {s : State} {m : MethodId} {args : Array Value} {below : List Frame} {meth : Method} {c : Code} {D : va_G} {cA : Nat → ClassId} {ad : Nat → Nat → Nat} {NL : List (Nat × Nat)} {A : Nat → Prop} {rr : Int32} {XX : gM} {N : Nat} {k133 : Int32 → gM → Option (Int32 × gM)} (C : gCx p c meth m s args cX10_word 5 (some .int) RX10 D cA ad NL A) (hW : gWf NL) (hD0 : gD (fun _ => True) ad NL) (hk133 : ∀ (p1 : Int32) (Y : gM) (H : Heap) (locs : List Loc) (ls : Array Slot), gH D cA ad NL Y H → va_S A s.heap H locs → lv_has ls 5 [(0, .ref (ad 43 0)), (1, .int p1)] → (43, 0) ∈ NL → k133 p1 Y = some (rr, XX) → W p l e rm_X10_word s m args below meth c H locs 0 0 (MQ below (gQ D cA ad NL (some (.int rr)) XX A) args s 0 0 A) (F0 m 133 ls [])) : ∀ (n : Nat) (p1 : Int32) (p2 : Int32) (X : gM) (H : Heap) (locs : List Loc) (ls : Array Slot), gH D cA ad NL X H → va_S A s.heap H locs → lv_has ls 5 [(0, .ref (ad 43 0)), (1, .int p1), (2, .int p2)] → (43, 0) ∈ NL → X10_word_L37 (gal NL) N k133 n p1 p2 X = some (rr, XX) → W p l e rm_X10_word s m args below meth c H locs 0 0 (MQ below (gQ D cA ad NL (some (.int rr)) XX A) args s 0 0 A) (F0 m 37 ls []) := by
  have hx := C.1
  have hb := C.2.1
  intro n
  induction n with
  | zero =>
    intro p1 p2 X H locs ls hP hS hl ha_l0 hf
    rw [X10_word_L37] at hf
    cases hf
  | succ n ih =>
    intro p1 p2 X H locs ls hP hS hl ha_l0 hf
    rw [X10_word_L37] at hf
    refine lv_iload_n hx hb dX10_word_37 rfl (lv_at hl 2 rfl) ?_
    refine lv_if_lt (tgt := 133) hx hb dX10_word_38 (by decide) (fun c1 => ?_) (fun c1 => ?_)
    · have hf := g_ip c1 hf
      exact hk133 p1 X _ _ _ hP hS (lv_sub hl [0, 1] rfl) ha_l0 hf
    · have hf := g_in c1 hf
      refine lv_aload_n hx hb dX10_word_41 rfl (lv_at hl 0 rfl) ?_
      refine r_get C hP ha_l0 (ct_43 _ _ _ _) fx_X10_122 (fg_43_46 _ _ _) dX10_word_42 ?_
      refine lv_if_ne (tgt := 133) hx hb dX10_word_45 (by decide) (fun c2 => ?_) (fun c2 => ?_)
      · have hf := g_in c2 hf
        exact hk133 p1 X _ _ _ hP hS (lv_sub hl [0, 1] rfl) ha_l0 hf
      · have hf := g_ip c2 hf
        refine lv_aload_n hx hb dX10_word_48 rfl (lv_at hl 0 rfl) ?_
        refine r_get C hP ha_l0 (ct_43 _ _ _ _) fx_X10_55 (fg_43_18 _ _ _) dX10_word_49 ?_
        refine lv_iload_n hx hb dX10_word_52 rfl (lv_at hl 2 rfl) ?_
        obtain ⟨j3, h4, hf⟩ := rd_in hf
        refine r_iald C hP (gs_43_18 hW ha_l0) (ct_59 _ _ _ _) h4 dX10_word_53 ?_
        refine lv_aload_n hx hb dX10_word_54 rfl (lv_at hl 0 rfl) ?_
        refine r_get C hP ha_l0 (ct_43 _ _ _ _) fx_X10_160 (fg_43_15 _ _ _) dX10_word_55 ?_
        refine lv_icmp_ne (tgt := 65) hx hb dX10_word_58 (by decide) (fun c5 => ?_) (fun c5 => ?_)
        · have hf := g_in c5 hf
          refine lv_iconst (v := 0) hx hb dX10_word_65 (by decide) ?_
          exact s_X10_word_J66 C hW hD0 ih hk133 p1 p2 (0 : Int32) X _ _ _ hP hS (lv_sub hl [0, 1, 2] rfl) ha_l0 hf
        · have hf := g_ip c5 hf
          refine lv_iconst (v := 1) hx hb dX10_word_61 (by decide) ?_
          refine lv_goto (tgt := 66) hx hb dX10_word_62 (by decide) ?_
          exact s_X10_word_J66 C hW hD0 ih hk133 p1 p2 (1 : Int32) X _ _ _ hP hS (lv_sub hl [0, 1, 2] rfl) ha_l0 hf

set_option maxRecDepth 100000 in
set_option maxHeartbeats 4000000 in
theorem s_X10_word_J22 {p : Program} {l : Launch} {e : Env} {s : State} {m : MethodId} {args : Array Value} {below : List Frame} {meth : Method} {c : Code} {D : va_G} {cA : Nat → ClassId} {ad : Nat → Nat → Nat} {NL : List (Nat × Nat)} {A : Nat → Prop} {rr : Int32} {XX : gM} {N : Nat} (C : gCx p c meth m s args cX10_word 5 (some .int) RX10 D cA ad NL A) (hW : gWf NL) (hD0 : gD (fun _ => True) ad NL) : ∀ (s1 : Int32) (X : gM) (H : Heap) (locs : List Loc) (ls : Array Slot), gH D cA ad NL X H → va_S A s.heap H locs → lv_has ls 5 [(0, .ref (ad 43 0))] → (43, 0) ∈ NL → (43, 0) ∈ NL → X10_word_J22 (gal NL) N s1 X = some (rr, XX) → W p l e rm_X10_word s m args below meth c H locs 0 0 (MQ below (gQ D cA ad NL (some (.int rr)) XX A) args s 0 0 A) (F0 m 22 ls [.int s1, .ref (ad 43 0)]) := by
  have hx := C.1
  have hb := C.2.1
  intro s1 X H locs ls hP hS hl ha_l0 ha_s0 hf
  rw [X10_word_J22] at hf
  refine r_put C hP hS s1 ha_s0 (ct_43 _ _ _ _) px_X10_122 (fp_43_46 _ _ _ _ _) (Nat.le_of_ble_eq_true rfl) rfl rfl dX10_word_22 (fun H locs hP hS => ?_)
  obtain ⟨X1, e2, hf⟩ := gl_in hf
  rw [← e2] at hP
  refine lv_aload_n hx hb dX10_word_25 rfl (lv_at hl 0 rfl) ?_
  refine r_get C hP ha_l0 (ct_43 _ _ _ _) fx_X10_163 (fg_43_17 _ _ _) dX10_word_26 ?_
  refine g_top hf (fun v3 e4 hf => ?_)
  refine lv_istore_n (i := 1) (lv' := [(1, .int v3), (0, .ref (ad 43 0))]) hx hb dX10_word_29 rfl hl (Nat.le_of_ble_eq_true rfl) rfl (fun ls hl => ?_)
  refine lv_aload_n hx hb dX10_word_30 rfl (lv_at hl 1 rfl) ?_
  refine r_get C hP ha_l0 (ct_43 _ _ _ _) fx_X10_163 (fg_43_17 _ _ _) dX10_word_31 ?_
  refine lv_iconst (v := 1) hx hb dX10_word_34 (by decide) ?_
  refine lv_isub hx hb dX10_word_35 ?_
  refine g_top hf (fun v5 e6 hf => ?_)
  refine lv_istore_n (i := 2) (lv' := [(2, .int v5), (1, .int v3), (0, .ref (ad 43 0))]) hx hb dX10_word_36 rfl hl (Nat.le_of_ble_eq_true rfl) rfl (fun ls hl => ?_)
  exact s_X10_word_L37 C hW hD0 (fun p1 Y H locs ls hP hS hl ha_l0 hf => s_X10_word_J133 C hW hD0 p1 Y _ _ _ hP hS hl ha_l0 hf) N v3 v5 X1 _ _ _ hP hS (lv_sub hl [2, 1, 0] rfl) ha_l0 hf

set_option maxRecDepth 100000 in
set_option maxHeartbeats 4000000 in
theorem s_X10_word_J17 {p : Program} {l : Launch} {e : Env} {s : State} {m : MethodId} {args : Array Value} {below : List Frame} {meth : Method} {c : Code} {D : va_G} {cA : Nat → ClassId} {ad : Nat → Nat → Nat} {NL : List (Nat × Nat)} {A : Nat → Prop} {rr : Int32} {XX : gM} {N : Nat} (C : gCx p c meth m s args cX10_word 5 (some .int) RX10 D cA ad NL A) (hW : gWf NL) (hD0 : gD (fun _ => True) ad NL) : ∀ (X : gM) (H : Heap) (locs : List Loc) (ls : Array Slot), gH D cA ad NL X H → va_S A s.heap H locs → lv_has ls 5 [(0, .ref (ad 43 0))] → (43, 0) ∈ NL → (43, 0) ∈ NL → X10_word_J17 (gal NL) N X = some (rr, XX) → W p l e rm_X10_word s m args below meth c H locs 0 0 (MQ below (gQ D cA ad NL (some (.int rr)) XX A) args s 0 0 A) (F0 m 17 ls [.ref (ad 43 0)]) := by
  have hx := C.1
  have hb := C.2.1
  intro X H locs ls hP hS hl ha_l0 ha_s0 hf
  rw [X10_word_J17] at hf
  refine lv_iconst (v := 1) hx hb dX10_word_17 (by decide) ?_
  refine lv_goto (tgt := 22) hx hb dX10_word_18 (by decide) ?_
  exact s_X10_word_J22 C hW hD0 (1 : Int32) X _ _ _ hP hS (lv_sub hl [0] rfl) ha_l0 ha_s0 hf

set_option maxRecDepth 100000 in
set_option maxHeartbeats 4000000 in
theorem w_X10_word {p : Program} {l : Launch} {e : Env} {s : State} {m : MethodId} {args : Array Value} {below : List Frame} {meth : Method} {c : Code} {D : va_G} {cA : Nat → ClassId} {ad : Nat → Nat → Nat} {NL : List (Nat × Nat)} {A : Nat → Prop} {rr : Int32} {XX : gM} {N : Nat} (C : gCx p c meth m s args cX10_word 5 (some .int) RX10 D cA ad NL A) (hW : gWf NL) (hD0 : gD (fun _ => True) ad NL) (ha_l0 : (43, 0) ∈ NL) : ∀ (X : gM) (H : Heap) (locs : List Loc) (ls : Array Slot), gH D cA ad NL X H → va_S A s.heap H locs → lv_has ls 5 [(0, .ref (ad 43 0))] → X10_word (gal NL) N  X = some (rr, XX) → W p l e rm_X10_word s m args below meth c H locs 0 0 (MQ below (gQ D cA ad NL (some (.int rr)) XX A) args s 0 0 A) (F0 m 0 ls []) := by
  have hx := C.1
  have hb := C.2.1
  intro X H locs ls hP hS hl hf
  rw [X10_word] at hf
  refine lv_aload_n hx hb dX10_word_0 rfl (lv_at hl 0 rfl) ?_
  refine lv_aload_n hx hb dX10_word_1 rfl (lv_at hl 0 rfl) ?_
  refine r_get C hP ha_l0 (ct_43 _ _ _ _) fx_X10_160 (fg_43_15 _ _ _) dX10_word_2 ?_
  refine lv_if_eq (tgt := 17) hx hb dX10_word_5 (by decide) (fun c1 => ?_) (fun c1 => ?_)
  · have hf := g_ip c1 hf
    exact s_X10_word_J17 C hW hD0 X _ _ _ hP hS (lv_sub hl [0] rfl) ha_l0 ha_l0 hf
  · have hf := g_in c1 hf
    refine lv_aload_n hx hb dX10_word_8 rfl (lv_at hl 0 rfl) ?_
    refine r_get C hP ha_l0 (ct_43 _ _ _ _) fx_X10_160 (fg_43_15 _ _ _) dX10_word_9 ?_
    refine lv_bipush (v := 8) hx hb dX10_word_12 (by decide) ?_
    refine lv_icmp_le (tgt := 21) hx hb dX10_word_14 (by decide) (fun c2 => ?_) (fun c2 => ?_)
    · have hf := g_ip c2 hf
      refine lv_iconst (v := 0) hx hb dX10_word_21 (by decide) ?_
      exact s_X10_word_J22 C hW hD0 (0 : Int32) X _ _ _ hP hS (lv_sub hl [0] rfl) ha_l0 ha_l0 hf
    · have hf := g_in c2 hf
      exact s_X10_word_J17 C hW hD0 X _ _ _ hP hS (lv_sub hl [0] rfl) ha_l0 ha_l0 hf

theorem s_X10_word {l : Launch} {D : va_G} {cA : Nat → ClassId} {ad : Nat → Nat → Nat} {NL : List (Nat × Nat)} {N : Nat} {X : gM} {rr : Int32} {XX : gM} (hW : gWf NL) (hD0 : gD (fun _ => True) ad NL) (ha_l0 : (43, 0) ∈ NL) (hf : X10_word (gal NL) N  X = some (rr, XX)) : gC l yX10_word cX10_word 5 (some .int) rm_X10_word D cA ad NL [.ref (ad 43 0)] X (some (.int rr)) XX :=
  g_ofW (by decide) hD0 (Nat.le_of_ble_eq_true rfl) rfl (fun p e s m below meth c ls C hP hS hl => w_X10_word C hW hD0 ha_l0 X _ _ ls hP hS hl hf)
def rm_X10_work : Room := { frames := 0, cells := 0, slots := 0, locals := 0 }
set_option maxRecDepth 100000 in
set_option maxHeartbeats 4000000 in
theorem s_X10_work_J69 {p : Program} {l : Launch} {e : Env} {s : State} {m : MethodId} {args : Array Value} {below : List Frame} {meth : Method} {c : Code} {D : va_G} {cA : Nat → ClassId} {ad : Nat → Nat → Nat} {NL : List (Nat × Nat)} {A : Nat → Prop} {rr : Int32} {XX : gM} {N : Nat} (C : gCx p c meth m s args cX10_work 2 (some .int) RX10 D cA ad NL A) (hW : gWf NL) (hD0 : gD (fun _ => True) ad NL) : ∀ (X : gM) (H : Heap) (locs : List Loc) (ls : Array Slot), gH D cA ad NL X H → va_S A s.heap H locs → lv_has ls 2 [(0, .ref (ad 43 0))] → (43, 0) ∈ NL → X10_work_J69 (gal NL) N X = some (rr, XX) → W p l e rm_X10_work s m args below meth c H locs 0 0 (MQ below (gQ D cA ad NL (some (.int rr)) XX A) args s 0 0 A) (F0 m 69 ls []) := by
  have hx := C.1
  have hb := C.2.1
  intro X H locs ls hP hS hl ha_l0 hf
  rw [X10_work_J69] at hf
  refine lv_aload_n hx hb dX10_work_69 rfl (lv_at hl 0 rfl) ?_
  refine r_get C hP ha_l0 (ct_43 _ _ _ _) fx_X10_61 (fg_43_21 _ _ _) dX10_work_70 ?_
  refine lv_aload_n hx hb dX10_work_73 rfl (lv_at hl 0 rfl) ?_
  refine r_get C hP ha_l0 (ct_43 _ _ _ _) fx_X10_166 (fg_43_20 _ _ _) dX10_work_74 ?_
  refine lv_aload_n hx hb dX10_work_77 rfl (lv_at hl 0 rfl) ?_
  refine r_get C hP ha_l0 (ct_43 _ _ _ _) fx_X10_160 (fg_43_15 _ _ _) dX10_work_78 ?_
  obtain ⟨j1, h2, hf⟩ := rd_in hf
  refine r_iast C hP hS (gs_43_21 hW ha_l0) (fun _ => ct_61 _ _ _ _) h2 dX10_work_81 (fun H locs hP hS => ?_)
  obtain ⟨X3, e4, hf⟩ := gl_in hf
  rw [← e4] at hP
  refine lv_aload_n hx hb dX10_work_82 rfl (lv_at hl 0 rfl) ?_
  refine lv_iconst (v := 0) hx hb dX10_work_83 (by decide) ?_
  refine r_put C hP hS (0 : Int32) ha_l0 (ct_43 _ _ _ _) px_X10_160 (fp_43_15 _ _ _ _ _) (Nat.le_of_ble_eq_true rfl) rfl rfl dX10_work_84 (fun H locs hP hS => ?_)
  obtain ⟨X5, e6, hf⟩ := gl_in hf
  rw [← e6] at hP
  refine lv_aload_n hx hb dX10_work_87 rfl (lv_at hl 0 rfl) ?_
  refine lv_dup hx hb dX10_work_88 rfl ?_
  refine r_get C hP ha_l0 (ct_43 _ _ _ _) fx_X10_166 (fg_43_20 _ _ _) dX10_work_89 ?_
  refine lv_iconst (v := 1) hx hb dX10_work_92 (by decide) ?_
  refine lv_iadd hx hb dX10_work_93 ?_
  refine r_put C hP hS ((X5 43 0 20) + (1 : Int32)) ha_l0 (ct_43 _ _ _ _) px_X10_166 (fp_43_20 _ _ _ _ _) (Nat.le_of_ble_eq_true rfl) rfl rfl dX10_work_94 (fun H locs hP hS => ?_)
  obtain ⟨X7, e8, hf⟩ := gl_in hf
  rw [← e8] at hP
  refine lv_aload_n hx hb dX10_work_97 rfl (lv_at hl 0 rfl) ?_
  refine r_get C hP ha_l0 (ct_43 _ _ _ _) fx_X10_166 (fg_43_20 _ _ _) dX10_work_98 ?_
  refine lv_iconst (v := 1) hx hb dX10_work_101 (by decide) ?_
  refine lv_isub hx hb dX10_work_102 ?_
  obtain ⟨rfl, rfl⟩ := g_s1 hf
  exact r_iret C hP hS dX10_work_103

set_option maxRecDepth 100000 in
set_option maxHeartbeats 4000000 in
theorem s_X10_work_L35 {p : Program} {l : Launch} {e : Env} {s : State} {m : MethodId} {args : Array Value} {below : List Frame} {meth : Method} {c : Code} {D : va_G} {cA : Nat → ClassId} {ad : Nat → Nat → Nat} {NL : List (Nat × Nat)} {A : Nat → Prop} {rr : Int32} {XX : gM} {N : Nat} {k69 : gM → Option (Int32 × gM)} (C : gCx p c meth m s args cX10_work 2 (some .int) RX10 D cA ad NL A) (hW : gWf NL) (hD0 : gD (fun _ => True) ad NL) (hk69 : ∀ (Y : gM) (H : Heap) (locs : List Loc) (ls : Array Slot), gH D cA ad NL Y H → va_S A s.heap H locs → lv_has ls 2 [(0, .ref (ad 43 0))] → (43, 0) ∈ NL → k69 Y = some (rr, XX) → W p l e rm_X10_work s m args below meth c H locs 0 0 (MQ below (gQ D cA ad NL (some (.int rr)) XX A) args s 0 0 A) (F0 m 69 ls [])) : ∀ (n : Nat) (p1 : Int32) (X : gM) (H : Heap) (locs : List Loc) (ls : Array Slot), gH D cA ad NL X H → va_S A s.heap H locs → lv_has ls 2 [(0, .ref (ad 43 0)), (1, .int p1)] → (43, 0) ∈ NL → X10_work_L35 (gal NL) N k69 n p1 X = some (rr, XX) → W p l e rm_X10_work s m args below meth c H locs 0 0 (MQ below (gQ D cA ad NL (some (.int rr)) XX A) args s 0 0 A) (F0 m 35 ls []) := by
  have hx := C.1
  have hb := C.2.1
  intro n
  induction n with
  | zero =>
    intro p1 X H locs ls hP hS hl ha_l0 hf
    rw [X10_work_L35] at hf
    cases hf
  | succ n ih =>
    intro p1 X H locs ls hP hS hl ha_l0 hf
    rw [X10_work_L35] at hf
    refine lv_iload_n hx hb dX10_work_35 rfl (lv_at hl 1 rfl) ?_
    refine lv_aload_n hx hb dX10_work_36 rfl (lv_at hl 0 rfl) ?_
    refine r_get C hP ha_l0 (ct_43 _ _ _ _) fx_X10_160 (fg_43_15 _ _ _) dX10_work_37 ?_
    refine lv_icmp_ge (tgt := 69) hx hb dX10_work_40 (by decide) (fun c1 => ?_) (fun c1 => ?_)
    · have hf := g_ip c1 hf
      exact hk69 X _ _ _ hP hS (lv_sub hl [0] rfl) ha_l0 hf
    · have hf := g_in c1 hf
      refine lv_aload_n hx hb dX10_work_43 rfl (lv_at hl 0 rfl) ?_
      refine r_get C hP ha_l0 (ct_43 _ _ _ _) fx_X10_64 (fg_43_22 _ _ _) dX10_work_44 ?_
      refine lv_bipush (v := 40) hx hb dX10_work_47 (by decide) ?_
      refine lv_aload_n hx hb dX10_work_49 rfl (lv_at hl 0 rfl) ?_
      refine r_get C hP ha_l0 (ct_43 _ _ _ _) fx_X10_166 (fg_43_20 _ _ _) dX10_work_50 ?_
      refine lv_imul hx hb dX10_work_53 ?_
      refine lv_iload_n hx hb dX10_work_54 rfl (lv_at hl 1 rfl) ?_
      refine lv_iadd hx hb dX10_work_55 ?_
      refine lv_aload_n hx hb dX10_work_56 rfl (lv_at hl 0 rfl) ?_
      refine r_get C hP ha_l0 (ct_43 _ _ _ _) fx_X10_52 (fg_43_16 _ _ _) dX10_work_57 ?_
      refine lv_iload_n hx hb dX10_work_60 rfl (lv_at hl 1 rfl) ?_
      obtain ⟨j2, h3, hf⟩ := rd_in hf
      refine r_iald C hP (gs_43_16 hW ha_l0) (ct_58 _ _ _ _) h3 dX10_work_61 ?_
      obtain ⟨j4, h5, hf⟩ := rd_in hf
      refine r_iast C hP hS (gs_43_22 hW ha_l0) (fun _ => ct_62 _ _ _ _) h5 dX10_work_62 (fun H locs hP hS => ?_)
      obtain ⟨X6, e7, hf⟩ := gl_in hf
      rw [← e7] at hP
      obtain ⟨v8, e9, hf⟩ := gl_in hf
      refine lv_iinc (v := v8) (lv' := [(1, .int v8), (0, .ref (ad 43 0))]) hx hb dX10_work_63 hl (k := 1) rfl (by rw [e9]; rfl) (Nat.le_of_ble_eq_true rfl) rfl (fun ls hl => ?_)
      refine lv_goto (tgt := 35) hx hb dX10_work_66 (by decide) ?_
      exact ih v8 X6 _ _ _ hP hS (lv_sub hl [1, 0] rfl) ha_l0 hf

set_option maxRecDepth 100000 in
set_option maxHeartbeats 4000000 in
theorem s_X10_work_J21 {p : Program} {l : Launch} {e : Env} {s : State} {m : MethodId} {args : Array Value} {below : List Frame} {meth : Method} {c : Code} {D : va_G} {cA : Nat → ClassId} {ad : Nat → Nat → Nat} {NL : List (Nat × Nat)} {A : Nat → Prop} {rr : Int32} {XX : gM} {N : Nat} (C : gCx p c meth m s args cX10_work 2 (some .int) RX10 D cA ad NL A) (hW : gWf NL) (hD0 : gD (fun _ => True) ad NL) : ∀ (s1 : Int32) (X : gM) (H : Heap) (locs : List Loc) (ls : Array Slot), gH D cA ad NL X H → va_S A s.heap H locs → lv_has ls 2 [(0, .ref (ad 43 0))] → (43, 0) ∈ NL → (43, 0) ∈ NL → X10_work_J21 (gal NL) N s1 X = some (rr, XX) → W p l e rm_X10_work s m args below meth c H locs 0 0 (MQ below (gQ D cA ad NL (some (.int rr)) XX A) args s 0 0 A) (F0 m 21 ls [.int s1, .ref (ad 43 0)]) := by
  have hx := C.1
  have hb := C.2.1
  intro s1 X H locs ls hP hS hl ha_l0 ha_s0 hf
  rw [X10_work_J21] at hf
  refine r_put C hP hS s1 ha_s0 (ct_43 _ _ _ _) px_X10_122 (fp_43_46 _ _ _ _ _) (Nat.le_of_ble_eq_true rfl) rfl rfl dX10_work_21 (fun H locs hP hS => ?_)
  obtain ⟨X1, e2, hf⟩ := gl_in hf
  rw [← e2] at hP
  refine lv_aload_n hx hb dX10_work_24 rfl (lv_at hl 0 rfl) ?_
  refine r_get C hP ha_l0 (ct_43 _ _ _ _) fx_X10_122 (fg_43_46 _ _ _) dX10_work_25 ?_
  refine lv_if_le (tgt := 33) hx hb dX10_work_28 (by decide) (fun c3 => ?_) (fun c3 => ?_)
  · have hf := g_ip c3 hf
    refine lv_iconst (v := 0) hx hb dX10_work_33 (by decide) ?_
    refine lv_istore_n (i := 1) (lv' := [(1, .int (0 : Int32)), (0, .ref (ad 43 0))]) hx hb dX10_work_34 rfl hl (Nat.le_of_ble_eq_true rfl) rfl (fun ls hl => ?_)
    exact s_X10_work_L35 C hW hD0 (fun Y H locs ls hP hS hl ha_l0 hf => s_X10_work_J69 C hW hD0 Y _ _ _ hP hS hl ha_l0 hf) N (0 : Int32) X1 _ _ _ hP hS (lv_sub hl [1, 0] rfl) ha_l0 hf
  · have hf := g_in c3 hf
    refine lv_iconst (v := 0) hx hb dX10_work_31 (by decide) ?_
    obtain ⟨rfl, rfl⟩ := g_s1 hf
    exact r_iret C hP hS dX10_work_32

set_option maxRecDepth 100000 in
set_option maxHeartbeats 4000000 in
theorem s_X10_work_J16 {p : Program} {l : Launch} {e : Env} {s : State} {m : MethodId} {args : Array Value} {below : List Frame} {meth : Method} {c : Code} {D : va_G} {cA : Nat → ClassId} {ad : Nat → Nat → Nat} {NL : List (Nat × Nat)} {A : Nat → Prop} {rr : Int32} {XX : gM} {N : Nat} (C : gCx p c meth m s args cX10_work 2 (some .int) RX10 D cA ad NL A) (hW : gWf NL) (hD0 : gD (fun _ => True) ad NL) : ∀ (X : gM) (H : Heap) (locs : List Loc) (ls : Array Slot), gH D cA ad NL X H → va_S A s.heap H locs → lv_has ls 2 [(0, .ref (ad 43 0))] → (43, 0) ∈ NL → (43, 0) ∈ NL → X10_work_J16 (gal NL) N X = some (rr, XX) → W p l e rm_X10_work s m args below meth c H locs 0 0 (MQ below (gQ D cA ad NL (some (.int rr)) XX A) args s 0 0 A) (F0 m 16 ls [.ref (ad 43 0)]) := by
  have hx := C.1
  have hb := C.2.1
  intro X H locs ls hP hS hl ha_l0 ha_s0 hf
  rw [X10_work_J16] at hf
  refine lv_iconst (v := 1) hx hb dX10_work_16 (by decide) ?_
  refine lv_goto (tgt := 21) hx hb dX10_work_17 (by decide) ?_
  exact s_X10_work_J21 C hW hD0 (1 : Int32) X _ _ _ hP hS (lv_sub hl [0] rfl) ha_l0 ha_s0 hf

set_option maxRecDepth 100000 in
set_option maxHeartbeats 4000000 in
theorem w_X10_work {p : Program} {l : Launch} {e : Env} {s : State} {m : MethodId} {args : Array Value} {below : List Frame} {meth : Method} {c : Code} {D : va_G} {cA : Nat → ClassId} {ad : Nat → Nat → Nat} {NL : List (Nat × Nat)} {A : Nat → Prop} {rr : Int32} {XX : gM} {N : Nat} (C : gCx p c meth m s args cX10_work 2 (some .int) RX10 D cA ad NL A) (hW : gWf NL) (hD0 : gD (fun _ => True) ad NL) (ha_l0 : (43, 0) ∈ NL) : ∀ (X : gM) (H : Heap) (locs : List Loc) (ls : Array Slot), gH D cA ad NL X H → va_S A s.heap H locs → lv_has ls 2 [(0, .ref (ad 43 0))] → X10_work (gal NL) N  X = some (rr, XX) → W p l e rm_X10_work s m args below meth c H locs 0 0 (MQ below (gQ D cA ad NL (some (.int rr)) XX A) args s 0 0 A) (F0 m 0 ls []) := by
  have hx := C.1
  have hb := C.2.1
  intro X H locs ls hP hS hl hf
  rw [X10_work] at hf
  refine lv_aload_n hx hb dX10_work_0 rfl (lv_at hl 0 rfl) ?_
  refine lv_aload_n hx hb dX10_work_1 rfl (lv_at hl 0 rfl) ?_
  refine r_get C hP ha_l0 (ct_43 _ _ _ _) fx_X10_160 (fg_43_15 _ _ _) dX10_work_2 ?_
  refine lv_if_eq (tgt := 16) hx hb dX10_work_5 (by decide) (fun c1 => ?_) (fun c1 => ?_)
  · have hf := g_ip c1 hf
    exact s_X10_work_J16 C hW hD0 X _ _ _ hP hS (lv_sub hl [0] rfl) ha_l0 ha_l0 hf
  · have hf := g_in c1 hf
    refine lv_aload_n hx hb dX10_work_8 rfl (lv_at hl 0 rfl) ?_
    refine r_get C hP ha_l0 (ct_43 _ _ _ _) fx_X10_166 (fg_43_20 _ _ _) dX10_work_9 ?_
    refine lv_iconst (v := 4) hx hb dX10_work_12 (by decide) ?_
    refine lv_icmp_ne (tgt := 20) hx hb dX10_work_13 (by decide) (fun c2 => ?_) (fun c2 => ?_)
    · have hf := g_in c2 hf
      refine lv_iconst (v := 0) hx hb dX10_work_20 (by decide) ?_
      exact s_X10_work_J21 C hW hD0 (0 : Int32) X _ _ _ hP hS (lv_sub hl [0] rfl) ha_l0 ha_l0 hf
    · have hf := g_ip c2 hf
      exact s_X10_work_J16 C hW hD0 X _ _ _ hP hS (lv_sub hl [0] rfl) ha_l0 ha_l0 hf

theorem s_X10_work {l : Launch} {D : va_G} {cA : Nat → ClassId} {ad : Nat → Nat → Nat} {NL : List (Nat × Nat)} {N : Nat} {X : gM} {rr : Int32} {XX : gM} (hW : gWf NL) (hD0 : gD (fun _ => True) ad NL) (ha_l0 : (43, 0) ∈ NL) (hf : X10_work (gal NL) N  X = some (rr, XX)) : gC l yX10_work cX10_work 2 (some .int) rm_X10_work D cA ad NL [.ref (ad 43 0)] X (some (.int rr)) XX :=
  g_ofW (by decide) hD0 (Nat.le_of_ble_eq_true rfl) rfl (fun p e s m below meth c ls C hP hS hl => w_X10_work C hW hD0 ha_l0 X _ _ ls hP hS hl hf)
def rm_X10_weightAt : Room := { frames := 0, cells := 0, slots := 0, locals := 0 }
set_option maxRecDepth 100000 in
set_option maxHeartbeats 4000000 in
theorem s_X10_weightAt_J96 {p : Program} {l : Launch} {e : Env} {s : State} {m : MethodId} {args : Array Value} {below : List Frame} {meth : Method} {c : Code} {D : va_G} {cA : Nat → ClassId} {ad : Nat → Nat → Nat} {NL : List (Nat × Nat)} {A : Nat → Prop} {rr : Int32} {XX : gM} {N : Nat} (C : gCx p c meth m s args cX10_weightAt 8 (some .int) RX10 D cA ad NL A) (hW : gWf NL) (hD0 : gD (fun _ => True) ad NL) : ∀ (p4 : Int32) (X : gM) (H : Heap) (locs : List Loc) (ls : Array Slot), gH D cA ad NL X H → va_S A s.heap H locs → lv_has ls 8 [(4, .int p4)] → X10_weightAt_J96 (gal NL) N p4 X = some (rr, XX) → W p l e rm_X10_weightAt s m args below meth c H locs 0 0 (MQ below (gQ D cA ad NL (some (.int rr)) XX A) args s 0 0 A) (F0 m 96 ls []) := by
  have hx := C.1
  have hb := C.2.1
  intro p4 X H locs ls hP hS hl hf
  rw [X10_weightAt_J96] at hf
  refine lv_iload hx hb dX10_weightAt_96 (lv_at hl 0 rfl) ?_
  obtain ⟨rfl, rfl⟩ := g_s1 hf
  exact r_iret C hP hS dX10_weightAt_98

set_option maxRecDepth 100000 in
set_option maxHeartbeats 4000000 in
theorem s_X10_weightAt_J83 {p : Program} {l : Launch} {e : Env} {s : State} {m : MethodId} {args : Array Value} {below : List Frame} {meth : Method} {c : Code} {D : va_G} {cA : Nat → ClassId} {ad : Nat → Nat → Nat} {NL : List (Nat × Nat)} {A : Nat → Prop} {rr : Int32} {XX : gM} {N : Nat} {kk : Int32 → Int32 → Int32 → Int32 → Int32 → gM → Option (Int32 × gM)} {k39 : gM → Option (Int32 × gM)} {k81 : gM → Option (Int32 × gM)} {k96 : Int32 → gM → Option (Int32 × gM)} (C : gCx p c meth m s args cX10_weightAt 8 (some .int) RX10 D cA ad NL A) (hW : gWf NL) (hD0 : gD (fun _ => True) ad NL) (hkk : ∀ (p1 : Int32) (p2 : Int32) (p3 : Int32) (p4 : Int32) (p5 : Int32) (Y : gM) (H : Heap) (locs : List Loc) (ls : Array Slot), gH D cA ad NL Y H → va_S A s.heap H locs → lv_has ls 8 [(0, .ref (ad 43 0)), (1, .int p1), (2, .int p2), (3, .int p3), (4, .int p4), (5, .int p5)] → (43, 0) ∈ NL → kk p1 p2 p3 p4 p5 Y = some (rr, XX) → W p l e rm_X10_weightAt s m args below meth c H locs 0 0 (MQ below (gQ D cA ad NL (some (.int rr)) XX A) args s 0 0 A) (F0 m 6 ls [])) (hk39 : ∀ (Y : gM) (H : Heap) (locs : List Loc) (ls : Array Slot), gH D cA ad NL Y H → va_S A s.heap H locs → lv_has ls 8 [] → k39 Y = some (rr, XX) → W p l e rm_X10_weightAt s m args below meth c H locs 0 0 (MQ below (gQ D cA ad NL (some (.int rr)) XX A) args s 0 0 A) (F0 m 39 ls [])) (hk81 : ∀ (Y : gM) (H : Heap) (locs : List Loc) (ls : Array Slot), gH D cA ad NL Y H → va_S A s.heap H locs → lv_has ls 8 [] → k81 Y = some (rr, XX) → W p l e rm_X10_weightAt s m args below meth c H locs 0 0 (MQ below (gQ D cA ad NL (some (.int rr)) XX A) args s 0 0 A) (F0 m 81 ls [])) (hk96 : ∀ (p4 : Int32) (Y : gM) (H : Heap) (locs : List Loc) (ls : Array Slot), gH D cA ad NL Y H → va_S A s.heap H locs → lv_has ls 8 [(4, .int p4)] → k96 p4 Y = some (rr, XX) → W p l e rm_X10_weightAt s m args below meth c H locs 0 0 (MQ below (gQ D cA ad NL (some (.int rr)) XX A) args s 0 0 A) (F0 m 96 ls [])) : ∀ (p1 : Int32) (p2 : Int32) (p3 : Int32) (p4 : Int32) (p5 : Int32) (p7 : Int32) (X : gM) (H : Heap) (locs : List Loc) (ls : Array Slot), gH D cA ad NL X H → va_S A s.heap H locs → lv_has ls 8 [(0, .ref (ad 43 0)), (1, .int p1), (2, .int p2), (3, .int p3), (4, .int p4), (5, .int p5), (7, .int p7)] → (43, 0) ∈ NL → X10_weightAt_J83 (gal NL) N kk k39 k81 k96 p1 p2 p3 p4 p5 p7 X = some (rr, XX) → W p l e rm_X10_weightAt s m args below meth c H locs 0 0 (MQ below (gQ D cA ad NL (some (.int rr)) XX A) args s 0 0 A) (F0 m 83 ls []) := by
  have hx := C.1
  have hb := C.2.1
  intro p1 p2 p3 p4 p5 p7 X H locs ls hP hS hl ha_l0 hf
  rw [X10_weightAt_J83] at hf
  refine lv_iload hx hb dX10_weightAt_83 (lv_at hl 4 rfl) ?_
  refine lv_iload hx hb dX10_weightAt_85 (lv_at hl 6 rfl) ?_
  refine lv_iadd hx hb dX10_weightAt_87 ?_
  refine g_top hf (fun v1 e2 hf => ?_)
  refine lv_istore (i := 4) (lv' := [(4, .int v1), (0, .ref (ad 43 0)), (1, .int p1), (2, .int p2), (3, .int p3), (5, .int p5), (7, .int p7)]) hx hb dX10_weightAt_88 hl (Nat.le_of_ble_eq_true rfl) rfl (fun ls hl => ?_)
  obtain ⟨v3, e4, hf⟩ := gl_in hf
  refine lv_iinc (v := v3) (lv' := [(5, .int v3), (4, .int v1), (0, .ref (ad 43 0)), (1, .int p1), (2, .int p2), (3, .int p3), (7, .int p7)]) hx hb dX10_weightAt_90 hl (k := 5) rfl (by rw [e4]; rfl) (Nat.le_of_ble_eq_true rfl) rfl (fun ls hl => ?_)
  refine lv_goto (tgt := 6) hx hb dX10_weightAt_93 (by decide) ?_
  exact hkk p1 p2 p3 v1 v3 X _ _ _ hP hS (lv_sub hl [2, 3, 4, 5, 1, 0] rfl) ha_l0 hf

set_option maxRecDepth 100000 in
set_option maxHeartbeats 4000000 in
theorem s_X10_weightAt_J81 {p : Program} {l : Launch} {e : Env} {s : State} {m : MethodId} {args : Array Value} {below : List Frame} {meth : Method} {c : Code} {D : va_G} {cA : Nat → ClassId} {ad : Nat → Nat → Nat} {NL : List (Nat × Nat)} {A : Nat → Prop} {rr : Int32} {XX : gM} {N : Nat} (C : gCx p c meth m s args cX10_weightAt 8 (some .int) RX10 D cA ad NL A) (hW : gWf NL) (hD0 : gD (fun _ => True) ad NL) : ∀ (X : gM) (H : Heap) (locs : List Loc) (ls : Array Slot), gH D cA ad NL X H → va_S A s.heap H locs → lv_has ls 8 [] → X10_weightAt_J81 (gal NL) N X = some (rr, XX) → W p l e rm_X10_weightAt s m args below meth c H locs 0 0 (MQ below (gQ D cA ad NL (some (.int rr)) XX A) args s 0 0 A) (F0 m 81 ls []) := by
  have hx := C.1
  have hb := C.2.1
  intro X H locs ls hP hS hl hf
  rw [X10_weightAt_J81] at hf
  refine lv_iconst (v := -1) hx hb dX10_weightAt_81 (by decide) ?_
  obtain ⟨rfl, rfl⟩ := g_s1 hf
  exact r_iret C hP hS dX10_weightAt_82

set_option maxRecDepth 100000 in
set_option maxHeartbeats 4000000 in
theorem s_X10_weightAt_J39 {p : Program} {l : Launch} {e : Env} {s : State} {m : MethodId} {args : Array Value} {below : List Frame} {meth : Method} {c : Code} {D : va_G} {cA : Nat → ClassId} {ad : Nat → Nat → Nat} {NL : List (Nat × Nat)} {A : Nat → Prop} {rr : Int32} {XX : gM} {N : Nat} (C : gCx p c meth m s args cX10_weightAt 8 (some .int) RX10 D cA ad NL A) (hW : gWf NL) (hD0 : gD (fun _ => True) ad NL) : ∀ (X : gM) (H : Heap) (locs : List Loc) (ls : Array Slot), gH D cA ad NL X H → va_S A s.heap H locs → lv_has ls 8 [] → X10_weightAt_J39 (gal NL) N X = some (rr, XX) → W p l e rm_X10_weightAt s m args below meth c H locs 0 0 (MQ below (gQ D cA ad NL (some (.int rr)) XX A) args s 0 0 A) (F0 m 39 ls []) := by
  have hx := C.1
  have hb := C.2.1
  intro X H locs ls hP hS hl hf
  rw [X10_weightAt_J39] at hf
  refine lv_iconst (v := -1) hx hb dX10_weightAt_39 (by decide) ?_
  obtain ⟨rfl, rfl⟩ := g_s1 hf
  exact r_iret C hP hS dX10_weightAt_40

set_option maxRecDepth 100000 in
set_option maxHeartbeats 4000000 in
theorem s_X10_weightAt_L6 {p : Program} {l : Launch} {e : Env} {s : State} {m : MethodId} {args : Array Value} {below : List Frame} {meth : Method} {c : Code} {D : va_G} {cA : Nat → ClassId} {ad : Nat → Nat → Nat} {NL : List (Nat × Nat)} {A : Nat → Prop} {rr : Int32} {XX : gM} {N : Nat} {k39 : gM → Option (Int32 × gM)} {k81 : gM → Option (Int32 × gM)} {k96 : Int32 → gM → Option (Int32 × gM)} (C : gCx p c meth m s args cX10_weightAt 8 (some .int) RX10 D cA ad NL A) (hW : gWf NL) (hD0 : gD (fun _ => True) ad NL) (hk39 : ∀ (Y : gM) (H : Heap) (locs : List Loc) (ls : Array Slot), gH D cA ad NL Y H → va_S A s.heap H locs → lv_has ls 8 [] → k39 Y = some (rr, XX) → W p l e rm_X10_weightAt s m args below meth c H locs 0 0 (MQ below (gQ D cA ad NL (some (.int rr)) XX A) args s 0 0 A) (F0 m 39 ls [])) (hk81 : ∀ (Y : gM) (H : Heap) (locs : List Loc) (ls : Array Slot), gH D cA ad NL Y H → va_S A s.heap H locs → lv_has ls 8 [] → k81 Y = some (rr, XX) → W p l e rm_X10_weightAt s m args below meth c H locs 0 0 (MQ below (gQ D cA ad NL (some (.int rr)) XX A) args s 0 0 A) (F0 m 81 ls [])) (hk96 : ∀ (p4 : Int32) (Y : gM) (H : Heap) (locs : List Loc) (ls : Array Slot), gH D cA ad NL Y H → va_S A s.heap H locs → lv_has ls 8 [(4, .int p4)] → k96 p4 Y = some (rr, XX) → W p l e rm_X10_weightAt s m args below meth c H locs 0 0 (MQ below (gQ D cA ad NL (some (.int rr)) XX A) args s 0 0 A) (F0 m 96 ls [])) : ∀ (n : Nat) (p1 : Int32) (p2 : Int32) (p3 : Int32) (p4 : Int32) (p5 : Int32) (X : gM) (H : Heap) (locs : List Loc) (ls : Array Slot), gH D cA ad NL X H → va_S A s.heap H locs → lv_has ls 8 [(0, .ref (ad 43 0)), (1, .int p1), (2, .int p2), (3, .int p3), (4, .int p4), (5, .int p5)] → (43, 0) ∈ NL → X10_weightAt_L6 (gal NL) N k39 k81 k96 n p1 p2 p3 p4 p5 X = some (rr, XX) → W p l e rm_X10_weightAt s m args below meth c H locs 0 0 (MQ below (gQ D cA ad NL (some (.int rr)) XX A) args s 0 0 A) (F0 m 6 ls []) := by
  have hx := C.1
  have hb := C.2.1
  intro n
  induction n with
  | zero =>
    intro p1 p2 p3 p4 p5 X H locs ls hP hS hl ha_l0 hf
    rw [X10_weightAt_L6] at hf
    cases hf
  | succ n ih =>
    intro p1 p2 p3 p4 p5 X H locs ls hP hS hl ha_l0 hf
    rw [X10_weightAt_L6] at hf
    refine lv_iload hx hb dX10_weightAt_6 (lv_at hl 5 rfl) ?_
    refine lv_aload_n hx hb dX10_weightAt_8 rfl (lv_at hl 0 rfl) ?_
    refine r_get C hP ha_l0 (ct_43 _ _ _ _) fx_X10_55 (fg_43_18 _ _ _) dX10_weightAt_9 ?_
    refine lv_iload_n hx hb dX10_weightAt_12 rfl (lv_at hl 1 rfl) ?_
    obtain ⟨j1, h2, hf⟩ := rd_in hf
    refine r_iald C hP (gs_43_18 hW ha_l0) (ct_59 _ _ _ _) h2 dX10_weightAt_13 ?_
    refine lv_icmp_ge (tgt := 96) hx hb dX10_weightAt_14 (by decide) (fun c3 => ?_) (fun c3 => ?_)
    · have hf := g_ip c3 hf
      exact hk96 p4 X _ _ _ hP hS (lv_sub hl [4] rfl) hf
    · have hf := g_in c3 hf
      refine lv_iload_n hx hb dX10_weightAt_17 rfl (lv_at hl 2 rfl) ?_
      refine lv_iload hx hb dX10_weightAt_18 (lv_at hl 5 rfl) ?_
      refine lv_iadd hx hb dX10_weightAt_20 ?_
      refine g_top hf (fun v4 e5 hf => ?_)
      refine lv_istore (i := 6) (lv' := [(6, .int v4), (0, .ref (ad 43 0)), (1, .int p1), (2, .int p2), (3, .int p3), (4, .int p4), (5, .int p5)]) hx hb dX10_weightAt_21 hl (Nat.le_of_ble_eq_true rfl) rfl (fun ls hl => ?_)
      refine lv_iload hx hb dX10_weightAt_23 (lv_at hl 0 rfl) ?_
      refine lv_iload_n hx hb dX10_weightAt_25 rfl (lv_at hl 4 rfl) ?_
      refine lv_icmp_ge (tgt := 39) hx hb dX10_weightAt_26 (by decide) (fun c6 => ?_) (fun c6 => ?_)
      · have hf := g_ip c6 hf
        exact hk39 X _ _ _ hP hS (lv_sub hl [] rfl) hf
      · have hf := g_in c6 hf
        refine lv_aload_n hx hb dX10_weightAt_29 rfl (lv_at hl 1 rfl) ?_
        refine r_get C hP ha_l0 (ct_43 _ _ _ _) fx_X10_95 (fg_43_35 _ _ _) dX10_weightAt_30 ?_
        refine lv_iload hx hb dX10_weightAt_33 (lv_at hl 0 rfl) ?_
        obtain ⟨j7, h8, hf⟩ := rd_in hf
        refine r_zald C hP (gs_43_35 hW ha_l0) (ct_72 _ _ _ _) h8 dX10_weightAt_35 ?_
        refine lv_if_eq (tgt := 41) hx hb dX10_weightAt_36 (by decide) (fun c9 => ?_) (fun c9 => ?_)
        · have hf := g_ip c9 hf
          refine lv_aload_n hx hb dX10_weightAt_41 rfl (lv_at hl 1 rfl) ?_
          refine r_get C hP ha_l0 (ct_43 _ _ _ _) fx_X10_98 (fg_43_36 _ _ _) dX10_weightAt_42 ?_
          refine lv_bipush (v := 26) hx hb dX10_weightAt_45 (by decide) ?_
          refine lv_iload hx hb dX10_weightAt_47 (lv_at hl 0 rfl) ?_
          refine lv_imul hx hb dX10_weightAt_49 ?_
          refine lv_aload_n hx hb dX10_weightAt_50 rfl (lv_at hl 1 rfl) ?_
          refine r_get C hP ha_l0 (ct_43 _ _ _ _) fx_X10_58 (fg_43_19 _ _ _) dX10_weightAt_51 ?_
          refine lv_bipush (v := 8) hx hb dX10_weightAt_54 (by decide) ?_
          refine lv_iload_n hx hb dX10_weightAt_56 rfl (lv_at hl 2 rfl) ?_
          refine lv_imul hx hb dX10_weightAt_57 ?_
          refine lv_iload hx hb dX10_weightAt_58 (lv_at hl 6 rfl) ?_
          refine lv_iadd hx hb dX10_weightAt_60 ?_
          obtain ⟨j10, h11, hf⟩ := rd_in hf
          refine r_iald C hP (gs_43_19 hW ha_l0) (ct_60 _ _ _ _) h11 dX10_weightAt_61 ?_
          refine lv_iadd hx hb dX10_weightAt_62 ?_
          obtain ⟨j12, h13, hf⟩ := rd_in hf
          refine r_iald C hP (gs_43_36 hW ha_l0) (ct_73 _ _ _ _) h13 dX10_weightAt_63 ?_
          refine g_top hf (fun v14 e15 hf => ?_)
          refine lv_istore (i := 7) (lv' := [(7, .int v14), (6, .int v4), (0, .ref (ad 43 0)), (1, .int p1), (2, .int p2), (3, .int p3), (4, .int p4), (5, .int p5)]) hx hb dX10_weightAt_64 hl (Nat.le_of_ble_eq_true rfl) rfl (fun ls hl => ?_)
          refine lv_aload_n hx hb dX10_weightAt_66 rfl (lv_at hl 2 rfl) ?_
          refine r_get C hP ha_l0 (ct_43 _ _ _ _) fx_X10_101 (fg_43_37 _ _ _) dX10_weightAt_67 ?_
          refine lv_iload hx hb dX10_weightAt_70 (lv_at hl 1 rfl) ?_
          obtain ⟨j16, h17, hf⟩ := rd_in hf
          refine r_iald C hP (gs_43_37 hW ha_l0) (ct_74 _ _ _ _) h17 dX10_weightAt_72 ?_
          refine lv_if_le (tgt := 83) hx hb dX10_weightAt_73 (by decide) (fun c18 => ?_) (fun c18 => ?_)
          · have hf := g_ip c18 hf
            exact s_X10_weightAt_J83 C hW hD0 ih hk39 hk81 hk96 p1 p2 p3 p4 p5 v14 X _ _ _ hP hS (lv_sub hl [2, 3, 4, 5, 6, 7, 0] rfl) ha_l0 hf
          · have hf := g_in c18 hf
            refine lv_iload hx hb dX10_weightAt_76 (lv_at hl 0 rfl) ?_
            refine lv_if_ne (tgt := 83) hx hb dX10_weightAt_78 (by decide) (fun c19 => ?_) (fun c19 => ?_)
            · have hf := g_in c19 hf
              exact s_X10_weightAt_J83 C hW hD0 ih hk39 hk81 hk96 p1 p2 p3 p4 p5 v14 X _ _ _ hP hS (lv_sub hl [2, 3, 4, 5, 6, 7, 0] rfl) ha_l0 hf
            · have hf := g_ip c19 hf
              exact hk81 X _ _ _ hP hS (lv_sub hl [] rfl) hf
        · have hf := g_in c9 hf
          exact hk39 X _ _ _ hP hS (lv_sub hl [] rfl) hf

set_option maxRecDepth 100000 in
set_option maxHeartbeats 4000000 in
theorem w_X10_weightAt {p : Program} {l : Launch} {e : Env} {s : State} {m : MethodId} {args : Array Value} {below : List Frame} {meth : Method} {c : Code} {D : va_G} {cA : Nat → ClassId} {ad : Nat → Nat → Nat} {NL : List (Nat × Nat)} {A : Nat → Prop} {rr : Int32} {XX : gM} {N : Nat} (C : gCx p c meth m s args cX10_weightAt 8 (some .int) RX10 D cA ad NL A) (hW : gWf NL) (hD0 : gD (fun _ => True) ad NL) {p1 : Int32} {p2 : Int32} {p3 : Int32} (ha_l0 : (43, 0) ∈ NL) : ∀ (X : gM) (H : Heap) (locs : List Loc) (ls : Array Slot), gH D cA ad NL X H → va_S A s.heap H locs → lv_has ls 8 [(0, .ref (ad 43 0)), (1, .int p1), (2, .int p2), (3, .int p3)] → X10_weightAt (gal NL) N p1 p2 p3 X = some (rr, XX) → W p l e rm_X10_weightAt s m args below meth c H locs 0 0 (MQ below (gQ D cA ad NL (some (.int rr)) XX A) args s 0 0 A) (F0 m 0 ls []) := by
  have hx := C.1
  have hb := C.2.1
  intro X H locs ls hP hS hl hf
  rw [X10_weightAt] at hf
  refine lv_iconst (v := 0) hx hb dX10_weightAt_0 (by decide) ?_
  refine lv_istore (i := 4) (lv' := [(4, .int (0 : Int32)), (0, .ref (ad 43 0)), (1, .int p1), (2, .int p2), (3, .int p3)]) hx hb dX10_weightAt_1 hl (Nat.le_of_ble_eq_true rfl) rfl (fun ls hl => ?_)
  refine lv_iconst (v := 0) hx hb dX10_weightAt_3 (by decide) ?_
  refine lv_istore (i := 5) (lv' := [(5, .int (0 : Int32)), (4, .int (0 : Int32)), (0, .ref (ad 43 0)), (1, .int p1), (2, .int p2), (3, .int p3)]) hx hb dX10_weightAt_4 hl (Nat.le_of_ble_eq_true rfl) rfl (fun ls hl => ?_)
  exact s_X10_weightAt_L6 C hW hD0 (fun Y H locs ls hP hS hl hf => s_X10_weightAt_J39 C hW hD0 Y _ _ _ hP hS hl hf) (fun Y H locs ls hP hS hl hf => s_X10_weightAt_J81 C hW hD0 Y _ _ _ hP hS hl hf) (fun p4 Y H locs ls hP hS hl hf => s_X10_weightAt_J96 C hW hD0 p4 Y _ _ _ hP hS hl hf) N p1 p2 p3 (0 : Int32) (0 : Int32) X _ _ _ hP hS (lv_sub hl [2, 3, 4, 5, 1, 0] rfl) ha_l0 hf

theorem s_X10_weightAt {l : Launch} {D : va_G} {cA : Nat → ClassId} {ad : Nat → Nat → Nat} {NL : List (Nat × Nat)} {N : Nat} {p1 : Int32} {p2 : Int32} {p3 : Int32} {X : gM} {rr : Int32} {XX : gM} (hW : gWf NL) (hD0 : gD (fun _ => True) ad NL) (ha_l0 : (43, 0) ∈ NL) (hf : X10_weightAt (gal NL) N p1 p2 p3 X = some (rr, XX)) : gC l yX10_weightAt cX10_weightAt 8 (some .int) rm_X10_weightAt D cA ad NL [.ref (ad 43 0), .int p1, .int p2, .int p3] X (some (.int rr)) XX :=
  g_ofW (by decide) hD0 (Nat.le_of_ble_eq_true rfl) rfl (fun p e s m below meth c ls C hP hS hl => w_X10_weightAt C hW hD0 ha_l0 X _ _ ls hP hS hl hf)
def rm_X10_isLower : Room := { frames := 0, cells := 0, slots := 0, locals := 0 }
set_option maxRecDepth 100000 in
set_option maxHeartbeats 4000000 in
theorem s_X10_isLower_J102 {p : Program} {l : Launch} {e : Env} {s : State} {m : MethodId} {args : Array Value} {below : List Frame} {meth : Method} {c : Code} {D : va_G} {cA : Nat → ClassId} {ad : Nat → Nat → Nat} {NL : List (Nat × Nat)} {A : Nat → Prop} {rr : Int32} {XX : gM} {N : Nat} (C : gCx p c meth m s args cX10_isLower 7 (some .boolean) RX10 D cA ad NL A) (hW : gWf NL) (hD0 : gD (fun _ => True) ad NL) : ∀ (X : gM) (H : Heap) (locs : List Loc) (ls : Array Slot), gH D cA ad NL X H → va_S A s.heap H locs → lv_has ls 7 [] → X10_isLower_J102 (gal NL) N X = some (rr, XX) → W p l e rm_X10_isLower s m args below meth c H locs 0 0 (MQ below (gQ D cA ad NL (some (.int rr)) XX A) args s 0 0 A) (F0 m 102 ls []) := by
  have hx := C.1
  have hb := C.2.1
  intro X H locs ls hP hS hl hf
  rw [X10_isLower_J102] at hf
  refine lv_iconst (v := 0) hx hb dX10_isLower_102 (by decide) ?_
  obtain ⟨rfl, rfl⟩ := g_s1 hf
  exact r_zret C hP hS (by decide) dX10_isLower_103

set_option maxRecDepth 100000 in
set_option maxHeartbeats 4000000 in
theorem s_X10_isLower_J95 {p : Program} {l : Launch} {e : Env} {s : State} {m : MethodId} {args : Array Value} {below : List Frame} {meth : Method} {c : Code} {D : va_G} {cA : Nat → ClassId} {ad : Nat → Nat → Nat} {NL : List (Nat × Nat)} {A : Nat → Prop} {rr : Int32} {XX : gM} {N : Nat} (C : gCx p c meth m s args cX10_isLower 7 (some .boolean) RX10 D cA ad NL A) (hW : gWf NL) (hD0 : gD (fun _ => True) ad NL) : ∀ (s0 : Int32) (X : gM) (H : Heap) (locs : List Loc) (ls : Array Slot), gH D cA ad NL X H → va_S A s.heap H locs → lv_has ls 7 [] → X10_isLower_J95 (gal NL) N s0 X = some (rr, XX) → W p l e rm_X10_isLower s m args below meth c H locs 0 0 (MQ below (gQ D cA ad NL (some (.int rr)) XX A) args s 0 0 A) (F0 m 95 ls [.int s0]) := by
  have hx := C.1
  have hb := C.2.1
  intro s0 X H locs ls hP hS hl hf
  rw [X10_isLower_J95] at hf
  obtain ⟨h1, hf⟩ := bz_in hf
  obtain ⟨rfl, rfl⟩ := g_s1 hf
  exact r_zret C hP hS h1 dX10_isLower_95

set_option maxRecDepth 100000 in
set_option maxHeartbeats 4000000 in
theorem s_X10_isLower_J83 {p : Program} {l : Launch} {e : Env} {s : State} {m : MethodId} {args : Array Value} {below : List Frame} {meth : Method} {c : Code} {D : va_G} {cA : Nat → ClassId} {ad : Nat → Nat → Nat} {NL : List (Nat × Nat)} {A : Nat → Prop} {rr : Int32} {XX : gM} {N : Nat} (C : gCx p c meth m s args cX10_isLower 7 (some .boolean) RX10 D cA ad NL A) (hW : gWf NL) (hD0 : gD (fun _ => True) ad NL) : ∀ (p5 : Int32) (p6 : Int32) (X : gM) (H : Heap) (locs : List Loc) (ls : Array Slot), gH D cA ad NL X H → va_S A s.heap H locs → lv_has ls 7 [(5, .int p5), (6, .int p6)] → X10_isLower_J83 (gal NL) N p5 p6 X = some (rr, XX) → W p l e rm_X10_isLower s m args below meth c H locs 0 0 (MQ below (gQ D cA ad NL (some (.int rr)) XX A) args s 0 0 A) (F0 m 83 ls []) := by
  have hx := C.1
  have hb := C.2.1
  intro p5 p6 X H locs ls hP hS hl hf
  rw [X10_isLower_J83] at hf
  refine lv_iload hx hb dX10_isLower_83 (lv_at hl 0 rfl) ?_
  refine lv_iload hx hb dX10_isLower_85 (lv_at hl 1 rfl) ?_
  refine lv_icmp_ge (tgt := 94) hx hb dX10_isLower_87 (by decide) (fun c1 => ?_) (fun c1 => ?_)
  · have hf := g_ip c1 hf
    refine lv_iconst (v := 0) hx hb dX10_isLower_94 (by decide) ?_
    exact s_X10_isLower_J95 C hW hD0 (0 : Int32) X _ _ _ hP hS (lv_sub hl [] rfl) hf
  · have hf := g_in c1 hf
    refine lv_iconst (v := 1) hx hb dX10_isLower_90 (by decide) ?_
    refine lv_goto (tgt := 95) hx hb dX10_isLower_91 (by decide) ?_
    exact s_X10_isLower_J95 C hW hD0 (1 : Int32) X _ _ _ hP hS (lv_sub hl [] rfl) hf

set_option maxRecDepth 100000 in
set_option maxHeartbeats 4000000 in
theorem s_X10_isLower_J58 {p : Program} {l : Launch} {e : Env} {s : State} {m : MethodId} {args : Array Value} {below : List Frame} {meth : Method} {c : Code} {D : va_G} {cA : Nat → ClassId} {ad : Nat → Nat → Nat} {NL : List (Nat × Nat)} {A : Nat → Prop} {rr : Int32} {XX : gM} {N : Nat} {kk : Int32 → Int32 → Int32 → Int32 → gM → Option (Int32 × gM)} {k83 : Int32 → Int32 → gM → Option (Int32 × gM)} {k102 : gM → Option (Int32 × gM)} (C : gCx p c meth m s args cX10_isLower 7 (some .boolean) RX10 D cA ad NL A) (hW : gWf NL) (hD0 : gD (fun _ => True) ad NL) (hkk : ∀ (p1 : Int32) (p2 : Int32) (p3 : Int32) (p4 : Int32) (Y : gM) (H : Heap) (locs : List Loc) (ls : Array Slot), gH D cA ad NL Y H → va_S A s.heap H locs → lv_has ls 7 [(0, .ref (ad 43 0)), (1, .int p1), (2, .int p2), (3, .int p3), (4, .int p4)] → (43, 0) ∈ NL → kk p1 p2 p3 p4 Y = some (rr, XX) → W p l e rm_X10_isLower s m args below meth c H locs 0 0 (MQ below (gQ D cA ad NL (some (.int rr)) XX A) args s 0 0 A) (F0 m 3 ls [])) (hk83 : ∀ (p5 : Int32) (p6 : Int32) (Y : gM) (H : Heap) (locs : List Loc) (ls : Array Slot), gH D cA ad NL Y H → va_S A s.heap H locs → lv_has ls 7 [(5, .int p5), (6, .int p6)] → k83 p5 p6 Y = some (rr, XX) → W p l e rm_X10_isLower s m args below meth c H locs 0 0 (MQ below (gQ D cA ad NL (some (.int rr)) XX A) args s 0 0 A) (F0 m 83 ls [])) (hk102 : ∀ (Y : gM) (H : Heap) (locs : List Loc) (ls : Array Slot), gH D cA ad NL Y H → va_S A s.heap H locs → lv_has ls 7 [] → k102 Y = some (rr, XX) → W p l e rm_X10_isLower s m args below meth c H locs 0 0 (MQ below (gQ D cA ad NL (some (.int rr)) XX A) args s 0 0 A) (F0 m 102 ls [])) : ∀ (p1 : Int32) (p2 : Int32) (p3 : Int32) (p4 : Int32) (s0 : Int32) (X : gM) (H : Heap) (locs : List Loc) (ls : Array Slot), gH D cA ad NL X H → va_S A s.heap H locs → lv_has ls 7 [(0, .ref (ad 43 0)), (1, .int p1), (2, .int p2), (3, .int p3), (4, .int p4)] → (43, 0) ∈ NL → X10_isLower_J58 (gal NL) N kk k83 k102 p1 p2 p3 p4 s0 X = some (rr, XX) → W p l e rm_X10_isLower s m args below meth c H locs 0 0 (MQ below (gQ D cA ad NL (some (.int rr)) XX A) args s 0 0 A) (F0 m 58 ls [.int s0]) := by
  have hx := C.1
  have hb := C.2.1
  intro p1 p2 p3 p4 s0 X H locs ls hP hS hl ha_l0 hf
  rw [X10_isLower_J58] at hf
  refine lv_istore (i := 5) (lv' := [(5, .int s0), (0, .ref (ad 43 0)), (1, .int p1), (2, .int p2), (3, .int p3), (4, .int p4)]) hx hb dX10_isLower_58 hl (Nat.le_of_ble_eq_true rfl) rfl (fun ls hl => ?_)
  refine lv_aload_n hx hb dX10_isLower_60 rfl (lv_at hl 1 rfl) ?_
  refine r_get C hP ha_l0 (ct_43 _ _ _ _) fx_X10_92 (fg_43_34 _ _ _) dX10_isLower_61 ?_
  refine lv_bipush (v := 8) hx hb dX10_isLower_64 (by decide) ?_
  refine lv_iload_n hx hb dX10_isLower_66 rfl (lv_at hl 3 rfl) ?_
  refine lv_imul hx hb dX10_isLower_67 ?_
  refine lv_iload_n hx hb dX10_isLower_68 rfl (lv_at hl 3 rfl) ?_
  refine lv_iadd hx hb dX10_isLower_69 ?_
  refine lv_iload hx hb dX10_isLower_70 (lv_at hl 5 rfl) ?_
  refine lv_iadd hx hb dX10_isLower_72 ?_
  obtain ⟨j1, h2, hf⟩ := rd_in hf
  refine r_iald C hP (gs_43_34 hW ha_l0) (ct_71 _ _ _ _) h2 dX10_isLower_73 ?_
  refine g_top hf (fun v3 e4 hf => ?_)
  refine lv_istore (i := 6) (lv' := [(6, .int v3), (5, .int s0), (0, .ref (ad 43 0)), (1, .int p1), (2, .int p2), (3, .int p3), (4, .int p4)]) hx hb dX10_isLower_74 hl (Nat.le_of_ble_eq_true rfl) rfl (fun ls hl => ?_)
  refine lv_iload hx hb dX10_isLower_76 (lv_at hl 1 rfl) ?_
  refine lv_iload hx hb dX10_isLower_78 (lv_at hl 0 rfl) ?_
  refine lv_icmp_eq (tgt := 96) hx hb dX10_isLower_80 (by decide) (fun c5 => ?_) (fun c5 => ?_)
  · have hf := g_ip c5 hf
    obtain ⟨v6, e7, hf⟩ := gl_in hf
    refine lv_iinc (v := v6) (lv' := [(4, .int v6), (6, .int v3), (5, .int s0), (0, .ref (ad 43 0)), (1, .int p1), (2, .int p2), (3, .int p3)]) hx hb dX10_isLower_96 hl (k := 6) rfl (by rw [e7]; rfl) (Nat.le_of_ble_eq_true rfl) rfl (fun ls hl => ?_)
    refine lv_goto (tgt := 3) hx hb dX10_isLower_99 (by decide) ?_
    exact hkk p1 p2 p3 v6 X _ _ _ hP hS (lv_sub hl [3, 4, 5, 6, 0] rfl) ha_l0 hf
  · have hf := g_in c5 hf
    exact hk83 s0 v3 X _ _ _ hP hS (lv_sub hl [1, 0] rfl) hf

set_option maxRecDepth 100000 in
set_option maxHeartbeats 4000000 in
theorem s_X10_isLower_L3 {p : Program} {l : Launch} {e : Env} {s : State} {m : MethodId} {args : Array Value} {below : List Frame} {meth : Method} {c : Code} {D : va_G} {cA : Nat → ClassId} {ad : Nat → Nat → Nat} {NL : List (Nat × Nat)} {A : Nat → Prop} {rr : Int32} {XX : gM} {N : Nat} {k83 : Int32 → Int32 → gM → Option (Int32 × gM)} {k102 : gM → Option (Int32 × gM)} (C : gCx p c meth m s args cX10_isLower 7 (some .boolean) RX10 D cA ad NL A) (hW : gWf NL) (hD0 : gD (fun _ => True) ad NL) (hk83 : ∀ (p5 : Int32) (p6 : Int32) (Y : gM) (H : Heap) (locs : List Loc) (ls : Array Slot), gH D cA ad NL Y H → va_S A s.heap H locs → lv_has ls 7 [(5, .int p5), (6, .int p6)] → k83 p5 p6 Y = some (rr, XX) → W p l e rm_X10_isLower s m args below meth c H locs 0 0 (MQ below (gQ D cA ad NL (some (.int rr)) XX A) args s 0 0 A) (F0 m 83 ls [])) (hk102 : ∀ (Y : gM) (H : Heap) (locs : List Loc) (ls : Array Slot), gH D cA ad NL Y H → va_S A s.heap H locs → lv_has ls 7 [] → k102 Y = some (rr, XX) → W p l e rm_X10_isLower s m args below meth c H locs 0 0 (MQ below (gQ D cA ad NL (some (.int rr)) XX A) args s 0 0 A) (F0 m 102 ls [])) : ∀ (n : Nat) (p1 : Int32) (p2 : Int32) (p3 : Int32) (p4 : Int32) (X : gM) (H : Heap) (locs : List Loc) (ls : Array Slot), gH D cA ad NL X H → va_S A s.heap H locs → lv_has ls 7 [(0, .ref (ad 43 0)), (1, .int p1), (2, .int p2), (3, .int p3), (4, .int p4)] → (43, 0) ∈ NL → X10_isLower_L3 (gal NL) N k83 k102 n p1 p2 p3 p4 X = some (rr, XX) → W p l e rm_X10_isLower s m args below meth c H locs 0 0 (MQ below (gQ D cA ad NL (some (.int rr)) XX A) args s 0 0 A) (F0 m 3 ls []) := by
  have hx := C.1
  have hb := C.2.1
  intro n
  induction n with
  | zero =>
    intro p1 p2 p3 p4 X H locs ls hP hS hl ha_l0 hf
    rw [X10_isLower_L3] at hf
    cases hf
  | succ n ih =>
    intro p1 p2 p3 p4 X H locs ls hP hS hl ha_l0 hf
    rw [X10_isLower_L3] at hf
    refine lv_iload_n hx hb dX10_isLower_3 rfl (lv_at hl 2 rfl) ?_
    refine lv_iload hx hb dX10_isLower_4 (lv_at hl 4 rfl) ?_
    refine lv_iadd hx hb dX10_isLower_6 ?_
    refine lv_iload_n hx hb dX10_isLower_7 rfl (lv_at hl 3 rfl) ?_
    refine lv_icmp_ge (tgt := 102) hx hb dX10_isLower_8 (by decide) (fun c1 => ?_) (fun c1 => ?_)
    · have hf := g_ip c1 hf
      exact hk102 X _ _ _ hP hS (lv_sub hl [] rfl) hf
    · have hf := g_in c1 hf
      refine lv_iload hx hb dX10_isLower_11 (lv_at hl 4 rfl) ?_
      refine lv_aload_n hx hb dX10_isLower_13 rfl (lv_at hl 0 rfl) ?_
      refine r_get C hP ha_l0 (ct_43 _ _ _ _) fx_X10_55 (fg_43_18 _ _ _) dX10_isLower_14 ?_
      refine lv_iload_n hx hb dX10_isLower_17 rfl (lv_at hl 1 rfl) ?_
      obtain ⟨j2, h3, hf⟩ := rd_in hf
      refine r_iald C hP (gs_43_18 hW ha_l0) (ct_59 _ _ _ _) h3 dX10_isLower_18 ?_
      refine lv_icmp_ge (tgt := 37) hx hb dX10_isLower_19 (by decide) (fun c4 => ?_) (fun c4 => ?_)
      · have hf := g_ip c4 hf
        refine lv_aload_n hx hb dX10_isLower_37 rfl (lv_at hl 0 rfl) ?_
        refine r_get C hP ha_l0 (ct_43 _ _ _ _) fx_X10_92 (fg_43_34 _ _ _) dX10_isLower_38 ?_
        refine lv_bipush (v := 8) hx hb dX10_isLower_41 (by decide) ?_
        refine lv_iload_n hx hb dX10_isLower_43 rfl (lv_at hl 2 rfl) ?_
        refine lv_aload_n hx hb dX10_isLower_44 rfl (lv_at hl 0 rfl) ?_
        refine r_get C hP ha_l0 (ct_43 _ _ _ _) fx_X10_55 (fg_43_18 _ _ _) dX10_isLower_45 ?_
        refine lv_iload_n hx hb dX10_isLower_48 rfl (lv_at hl 1 rfl) ?_
        obtain ⟨j5, h6, hf⟩ := rd_in hf
        refine r_iald C hP (gs_43_18 hW ha_l0) (ct_59 _ _ _ _) h6 dX10_isLower_49 ?_
        refine lv_iadd hx hb dX10_isLower_50 ?_
        refine lv_imul hx hb dX10_isLower_51 ?_
        refine lv_iload_n hx hb dX10_isLower_52 rfl (lv_at hl 2 rfl) ?_
        refine lv_iadd hx hb dX10_isLower_53 ?_
        refine lv_iload hx hb dX10_isLower_54 (lv_at hl 4 rfl) ?_
        refine lv_iadd hx hb dX10_isLower_56 ?_
        obtain ⟨j7, h8, hf⟩ := rd_in hf
        refine r_iald C hP (gs_43_34 hW ha_l0) (ct_71 _ _ _ _) h8 dX10_isLower_57 ?_
        exact s_X10_isLower_J58 C hW hD0 ih hk83 hk102 p1 p2 p3 p4 ((X 71 0 j7)) X _ _ _ hP hS (lv_sub hl [0, 1, 2, 3, 4] rfl) ha_l0 hf
      · have hf := g_in c4 hf
        refine lv_aload_n hx hb dX10_isLower_22 rfl (lv_at hl 0 rfl) ?_
        refine r_get C hP ha_l0 (ct_43 _ _ _ _) fx_X10_58 (fg_43_19 _ _ _) dX10_isLower_23 ?_
        refine lv_bipush (v := 8) hx hb dX10_isLower_26 (by decide) ?_
        refine lv_iload_n hx hb dX10_isLower_28 rfl (lv_at hl 1 rfl) ?_
        refine lv_imul hx hb dX10_isLower_29 ?_
        refine lv_iload hx hb dX10_isLower_30 (lv_at hl 4 rfl) ?_
        refine lv_iadd hx hb dX10_isLower_32 ?_
        obtain ⟨j9, h10, hf⟩ := rd_in hf
        refine r_iald C hP (gs_43_19 hW ha_l0) (ct_60 _ _ _ _) h10 dX10_isLower_33 ?_
        refine lv_goto (tgt := 58) hx hb dX10_isLower_34 (by decide) ?_
        exact s_X10_isLower_J58 C hW hD0 ih hk83 hk102 p1 p2 p3 p4 ((X 60 0 j9)) X _ _ _ hP hS (lv_sub hl [0, 1, 2, 3, 4] rfl) ha_l0 hf

set_option maxRecDepth 100000 in
set_option maxHeartbeats 4000000 in
theorem w_X10_isLower {p : Program} {l : Launch} {e : Env} {s : State} {m : MethodId} {args : Array Value} {below : List Frame} {meth : Method} {c : Code} {D : va_G} {cA : Nat → ClassId} {ad : Nat → Nat → Nat} {NL : List (Nat × Nat)} {A : Nat → Prop} {rr : Int32} {XX : gM} {N : Nat} (C : gCx p c meth m s args cX10_isLower 7 (some .boolean) RX10 D cA ad NL A) (hW : gWf NL) (hD0 : gD (fun _ => True) ad NL) {p1 : Int32} {p2 : Int32} {p3 : Int32} (ha_l0 : (43, 0) ∈ NL) : ∀ (X : gM) (H : Heap) (locs : List Loc) (ls : Array Slot), gH D cA ad NL X H → va_S A s.heap H locs → lv_has ls 7 [(0, .ref (ad 43 0)), (1, .int p1), (2, .int p2), (3, .int p3)] → X10_isLower (gal NL) N p1 p2 p3 X = some (rr, XX) → W p l e rm_X10_isLower s m args below meth c H locs 0 0 (MQ below (gQ D cA ad NL (some (.int rr)) XX A) args s 0 0 A) (F0 m 0 ls []) := by
  have hx := C.1
  have hb := C.2.1
  intro X H locs ls hP hS hl hf
  rw [X10_isLower] at hf
  refine lv_iconst (v := 0) hx hb dX10_isLower_0 (by decide) ?_
  refine lv_istore (i := 4) (lv' := [(4, .int (0 : Int32)), (0, .ref (ad 43 0)), (1, .int p1), (2, .int p2), (3, .int p3)]) hx hb dX10_isLower_1 hl (Nat.le_of_ble_eq_true rfl) rfl (fun ls hl => ?_)
  exact s_X10_isLower_L3 C hW hD0 (fun p5 p6 Y H locs ls hP hS hl hf => s_X10_isLower_J83 C hW hD0 p5 p6 Y _ _ _ hP hS hl hf) (fun Y H locs ls hP hS hl hf => s_X10_isLower_J102 C hW hD0 Y _ _ _ hP hS hl hf) N p1 p2 p3 (0 : Int32) X _ _ _ hP hS (lv_sub hl [1, 2, 3, 4, 0] rfl) ha_l0 hf

theorem s_X10_isLower {l : Launch} {D : va_G} {cA : Nat → ClassId} {ad : Nat → Nat → Nat} {NL : List (Nat × Nat)} {N : Nat} {p1 : Int32} {p2 : Int32} {p3 : Int32} {X : gM} {rr : Int32} {XX : gM} (hW : gWf NL) (hD0 : gD (fun _ => True) ad NL) (ha_l0 : (43, 0) ∈ NL) (hf : X10_isLower (gal NL) N p1 p2 p3 X = some (rr, XX)) : gC l yX10_isLower cX10_isLower 7 (some .boolean) rm_X10_isLower D cA ad NL [.ref (ad 43 0), .int p1, .int p2, .int p3] X (some (.int rr)) XX :=
  g_ofW (by decide) hD0 (Nat.le_of_ble_eq_true rfl) rfl (fun p e s m below meth c ls C hP hS hl => w_X10_isLower C hW hD0 ha_l0 X _ _ ls hP hS hl hf)
def rm_X10_takes : Room := { frames := 0, cells := 0, slots := 0, locals := 0 }
set_option maxRecDepth 100000 in
set_option maxHeartbeats 4000000 in
theorem s_X10_takes_J78 {p : Program} {l : Launch} {e : Env} {s : State} {m : MethodId} {args : Array Value} {below : List Frame} {meth : Method} {c : Code} {D : va_G} {cA : Nat → ClassId} {ad : Nat → Nat → Nat} {NL : List (Nat × Nat)} {A : Nat → Prop} {rr : Int32} {XX : gM} {N : Nat} (C : gCx p c meth m s args cX10_takes 5 none RX10 D cA ad NL A) (hW : gWf NL) (hD0 : gD (fun _ => True) ad NL) : ∀ (X : gM) (H : Heap) (locs : List Loc) (ls : Array Slot), gH D cA ad NL X H → va_S A s.heap H locs → lv_has ls 5 [] → X10_takes_J78 (gal NL) N X = some (rr, XX) → W p l e rm_X10_takes s m args below meth c H locs 0 0 (MQ below (gQ D cA ad NL none XX A) args s 0 0 A) (F0 m 78 ls []) := by
  have hx := C.1
  have hb := C.2.1
  intro X H locs ls hP hS hl hf
  rw [X10_takes_J78] at hf
  obtain ⟨rfl, rfl⟩ := g_s1 hf
  exact r_vret C hP hS dX10_takes_78

set_option maxRecDepth 100000 in
set_option maxHeartbeats 4000000 in
theorem s_X10_takes_J71 {p : Program} {l : Launch} {e : Env} {s : State} {m : MethodId} {args : Array Value} {below : List Frame} {meth : Method} {c : Code} {D : va_G} {cA : Nat → ClassId} {ad : Nat → Nat → Nat} {NL : List (Nat × Nat)} {A : Nat → Prop} {rr : Int32} {XX : gM} {N : Nat} {kk : Int32 → Int32 → Int32 → Int32 → gM → Option (Int32 × gM)} {k78 : gM → Option (Int32 × gM)} (C : gCx p c meth m s args cX10_takes 5 none RX10 D cA ad NL A) (hW : gWf NL) (hD0 : gD (fun _ => True) ad NL) (hkk : ∀ (p1 : Int32) (p2 : Int32) (p3 : Int32) (p4 : Int32) (Y : gM) (H : Heap) (locs : List Loc) (ls : Array Slot), gH D cA ad NL Y H → va_S A s.heap H locs → lv_has ls 5 [(0, .ref (ad 43 0)), (1, .int p1), (2, .int p2), (3, .int p3), (4, .int p4)] → (43, 0) ∈ NL → kk p1 p2 p3 p4 Y = some (rr, XX) → W p l e rm_X10_takes s m args below meth c H locs 0 0 (MQ below (gQ D cA ad NL none XX A) args s 0 0 A) (F0 m 3 ls [])) (hk78 : ∀ (Y : gM) (H : Heap) (locs : List Loc) (ls : Array Slot), gH D cA ad NL Y H → va_S A s.heap H locs → lv_has ls 5 [] → k78 Y = some (rr, XX) → W p l e rm_X10_takes s m args below meth c H locs 0 0 (MQ below (gQ D cA ad NL none XX A) args s 0 0 A) (F0 m 78 ls [])) : ∀ (p1 : Int32) (p2 : Int32) (p3 : Int32) (p4 : Int32) (s1 : Int32) (s2 : Int32) (X : gM) (H : Heap) (locs : List Loc) (ls : Array Slot), gH D cA ad NL X H → va_S A s.heap H locs → lv_has ls 5 [(0, .ref (ad 43 0)), (1, .int p1), (2, .int p2), (3, .int p3), (4, .int p4)] → (43, 0) ∈ NL → (71, 0) ∈ NL → X10_takes_J71 (gal NL) N kk k78 p1 p2 p3 p4 s1 s2 X = some (rr, XX) → W p l e rm_X10_takes s m args below meth c H locs 0 0 (MQ below (gQ D cA ad NL none XX A) args s 0 0 A) (F0 m 71 ls [.int s2, .int s1, .ref (ad 71 0)]) := by
  have hx := C.1
  have hb := C.2.1
  intro p1 p2 p3 p4 s1 s2 X H locs ls hP hS hl ha_l0 ha_s0 hf
  rw [X10_takes_J71] at hf
  obtain ⟨j1, h2, hf⟩ := rd_in hf
  refine r_iast C hP hS ha_s0 (fun _ => ct_71 _ _ _ _) h2 dX10_takes_71 (fun H locs hP hS => ?_)
  obtain ⟨X3, e4, hf⟩ := gl_in hf
  rw [← e4] at hP
  obtain ⟨v5, e6, hf⟩ := gl_in hf
  refine lv_iinc (v := v5) (lv' := [(4, .int v5), (0, .ref (ad 43 0)), (1, .int p1), (2, .int p2), (3, .int p3)]) hx hb dX10_takes_72 hl (k := 4) rfl (by rw [e6]; rfl) (Nat.le_of_ble_eq_true rfl) rfl (fun ls hl => ?_)
  refine lv_goto (tgt := 3) hx hb dX10_takes_75 (by decide) ?_
  exact hkk p1 p2 p3 v5 X3 _ _ _ hP hS (lv_sub hl [1, 2, 3, 4, 0] rfl) ha_l0 hf

set_option maxRecDepth 100000 in
set_option maxHeartbeats 4000000 in
theorem s_X10_takes_L3 {p : Program} {l : Launch} {e : Env} {s : State} {m : MethodId} {args : Array Value} {below : List Frame} {meth : Method} {c : Code} {D : va_G} {cA : Nat → ClassId} {ad : Nat → Nat → Nat} {NL : List (Nat × Nat)} {A : Nat → Prop} {rr : Int32} {XX : gM} {N : Nat} {k78 : gM → Option (Int32 × gM)} (C : gCx p c meth m s args cX10_takes 5 none RX10 D cA ad NL A) (hW : gWf NL) (hD0 : gD (fun _ => True) ad NL) (hk78 : ∀ (Y : gM) (H : Heap) (locs : List Loc) (ls : Array Slot), gH D cA ad NL Y H → va_S A s.heap H locs → lv_has ls 5 [] → k78 Y = some (rr, XX) → W p l e rm_X10_takes s m args below meth c H locs 0 0 (MQ below (gQ D cA ad NL none XX A) args s 0 0 A) (F0 m 78 ls [])) : ∀ (n : Nat) (p1 : Int32) (p2 : Int32) (p3 : Int32) (p4 : Int32) (X : gM) (H : Heap) (locs : List Loc) (ls : Array Slot), gH D cA ad NL X H → va_S A s.heap H locs → lv_has ls 5 [(0, .ref (ad 43 0)), (1, .int p1), (2, .int p2), (3, .int p3), (4, .int p4)] → (43, 0) ∈ NL → X10_takes_L3 (gal NL) N k78 n p1 p2 p3 p4 X = some (rr, XX) → W p l e rm_X10_takes s m args below meth c H locs 0 0 (MQ below (gQ D cA ad NL none XX A) args s 0 0 A) (F0 m 3 ls []) := by
  have hx := C.1
  have hb := C.2.1
  intro n
  induction n with
  | zero =>
    intro p1 p2 p3 p4 X H locs ls hP hS hl ha_l0 hf
    rw [X10_takes_L3] at hf
    cases hf
  | succ n ih =>
    intro p1 p2 p3 p4 X H locs ls hP hS hl ha_l0 hf
    rw [X10_takes_L3] at hf
    refine lv_iload_n hx hb dX10_takes_3 rfl (lv_at hl 2 rfl) ?_
    refine lv_iload hx hb dX10_takes_4 (lv_at hl 4 rfl) ?_
    refine lv_iadd hx hb dX10_takes_6 ?_
    refine lv_iload_n hx hb dX10_takes_7 rfl (lv_at hl 3 rfl) ?_
    refine lv_icmp_ge (tgt := 78) hx hb dX10_takes_8 (by decide) (fun c1 => ?_) (fun c1 => ?_)
    · have hf := g_ip c1 hf
      exact hk78 X _ _ _ hP hS (lv_sub hl [] rfl) hf
    · have hf := g_in c1 hf
      refine lv_aload_n hx hb dX10_takes_11 rfl (lv_at hl 0 rfl) ?_
      refine r_get C hP ha_l0 (ct_43 _ _ _ _) fx_X10_92 (fg_43_34 _ _ _) dX10_takes_12 ?_
      refine lv_bipush (v := 8) hx hb dX10_takes_15 (by decide) ?_
      refine lv_iload_n hx hb dX10_takes_17 rfl (lv_at hl 2 rfl) ?_
      refine lv_imul hx hb dX10_takes_18 ?_
      refine lv_iload_n hx hb dX10_takes_19 rfl (lv_at hl 2 rfl) ?_
      refine lv_iadd hx hb dX10_takes_20 ?_
      refine lv_iload hx hb dX10_takes_21 (lv_at hl 4 rfl) ?_
      refine lv_iadd hx hb dX10_takes_23 ?_
      refine lv_iload hx hb dX10_takes_24 (lv_at hl 4 rfl) ?_
      refine lv_aload_n hx hb dX10_takes_26 rfl (lv_at hl 0 rfl) ?_
      refine r_get C hP ha_l0 (ct_43 _ _ _ _) fx_X10_55 (fg_43_18 _ _ _) dX10_takes_27 ?_
      refine lv_iload_n hx hb dX10_takes_30 rfl (lv_at hl 1 rfl) ?_
      obtain ⟨j2, h3, hf⟩ := rd_in hf
      refine r_iald C hP (gs_43_18 hW ha_l0) (ct_59 _ _ _ _) h3 dX10_takes_31 ?_
      refine lv_icmp_ge (tgt := 50) hx hb dX10_takes_32 (by decide) (fun c4 => ?_) (fun c4 => ?_)
      · have hf := g_ip c4 hf
        refine lv_aload_n hx hb dX10_takes_50 rfl (lv_at hl 0 rfl) ?_
        refine r_get C hP ha_l0 (ct_43 _ _ _ _) fx_X10_92 (fg_43_34 _ _ _) dX10_takes_51 ?_
        refine lv_bipush (v := 8) hx hb dX10_takes_54 (by decide) ?_
        refine lv_iload_n hx hb dX10_takes_56 rfl (lv_at hl 2 rfl) ?_
        refine lv_aload_n hx hb dX10_takes_57 rfl (lv_at hl 0 rfl) ?_
        refine r_get C hP ha_l0 (ct_43 _ _ _ _) fx_X10_55 (fg_43_18 _ _ _) dX10_takes_58 ?_
        refine lv_iload_n hx hb dX10_takes_61 rfl (lv_at hl 1 rfl) ?_
        obtain ⟨j5, h6, hf⟩ := rd_in hf
        refine r_iald C hP (gs_43_18 hW ha_l0) (ct_59 _ _ _ _) h6 dX10_takes_62 ?_
        refine lv_iadd hx hb dX10_takes_63 ?_
        refine lv_imul hx hb dX10_takes_64 ?_
        refine lv_iload_n hx hb dX10_takes_65 rfl (lv_at hl 2 rfl) ?_
        refine lv_iadd hx hb dX10_takes_66 ?_
        refine lv_iload hx hb dX10_takes_67 (lv_at hl 4 rfl) ?_
        refine lv_iadd hx hb dX10_takes_69 ?_
        obtain ⟨j7, h8, hf⟩ := rd_in hf
        refine r_iald C hP (gs_43_34 hW ha_l0) (ct_71 _ _ _ _) h8 dX10_takes_70 ?_
        exact s_X10_takes_J71 C hW hD0 ih hk78 p1 p2 p3 p4 (((((8 : Int32) * p2) + p2) + p4)) ((X 71 0 j7)) X _ _ _ hP hS (lv_sub hl [0, 1, 2, 3, 4] rfl) ha_l0 (gs_43_34 hW ha_l0) hf
      · have hf := g_in c4 hf
        refine lv_aload_n hx hb dX10_takes_35 rfl (lv_at hl 0 rfl) ?_
        refine r_get C hP ha_l0 (ct_43 _ _ _ _) fx_X10_58 (fg_43_19 _ _ _) dX10_takes_36 ?_
        refine lv_bipush (v := 8) hx hb dX10_takes_39 (by decide) ?_
        refine lv_iload_n hx hb dX10_takes_41 rfl (lv_at hl 1 rfl) ?_
        refine lv_imul hx hb dX10_takes_42 ?_
        refine lv_iload hx hb dX10_takes_43 (lv_at hl 4 rfl) ?_
        refine lv_iadd hx hb dX10_takes_45 ?_
        obtain ⟨j9, h10, hf⟩ := rd_in hf
        refine r_iald C hP (gs_43_19 hW ha_l0) (ct_60 _ _ _ _) h10 dX10_takes_46 ?_
        refine lv_goto (tgt := 71) hx hb dX10_takes_47 (by decide) ?_
        exact s_X10_takes_J71 C hW hD0 ih hk78 p1 p2 p3 p4 (((((8 : Int32) * p2) + p2) + p4)) ((X 60 0 j9)) X _ _ _ hP hS (lv_sub hl [0, 1, 2, 3, 4] rfl) ha_l0 (gs_43_34 hW ha_l0) hf

set_option maxRecDepth 100000 in
set_option maxHeartbeats 4000000 in
theorem w_X10_takes {p : Program} {l : Launch} {e : Env} {s : State} {m : MethodId} {args : Array Value} {below : List Frame} {meth : Method} {c : Code} {D : va_G} {cA : Nat → ClassId} {ad : Nat → Nat → Nat} {NL : List (Nat × Nat)} {A : Nat → Prop} {rr : Int32} {XX : gM} {N : Nat} (C : gCx p c meth m s args cX10_takes 5 none RX10 D cA ad NL A) (hW : gWf NL) (hD0 : gD (fun _ => True) ad NL) {p1 : Int32} {p2 : Int32} {p3 : Int32} (ha_l0 : (43, 0) ∈ NL) : ∀ (X : gM) (H : Heap) (locs : List Loc) (ls : Array Slot), gH D cA ad NL X H → va_S A s.heap H locs → lv_has ls 5 [(0, .ref (ad 43 0)), (1, .int p1), (2, .int p2), (3, .int p3)] → X10_takes (gal NL) N p1 p2 p3 X = some (rr, XX) → W p l e rm_X10_takes s m args below meth c H locs 0 0 (MQ below (gQ D cA ad NL none XX A) args s 0 0 A) (F0 m 0 ls []) := by
  have hx := C.1
  have hb := C.2.1
  intro X H locs ls hP hS hl hf
  rw [X10_takes] at hf
  refine lv_iconst (v := 0) hx hb dX10_takes_0 (by decide) ?_
  refine lv_istore (i := 4) (lv' := [(4, .int (0 : Int32)), (0, .ref (ad 43 0)), (1, .int p1), (2, .int p2), (3, .int p3)]) hx hb dX10_takes_1 hl (Nat.le_of_ble_eq_true rfl) rfl (fun ls hl => ?_)
  exact s_X10_takes_L3 C hW hD0 (fun Y H locs ls hP hS hl hf => s_X10_takes_J78 C hW hD0 Y _ _ _ hP hS hl hf) N p1 p2 p3 (0 : Int32) X _ _ _ hP hS (lv_sub hl [1, 2, 3, 4, 0] rfl) ha_l0 hf

theorem s_X10_takes {l : Launch} {D : va_G} {cA : Nat → ClassId} {ad : Nat → Nat → Nat} {NL : List (Nat × Nat)} {N : Nat} {p1 : Int32} {p2 : Int32} {p3 : Int32} {X : gM} {rr : Int32} {XX : gM} (hW : gWf NL) (hD0 : gD (fun _ => True) ad NL) (ha_l0 : (43, 0) ∈ NL) (hf : X10_takes (gal NL) N p1 p2 p3 X = some (rr, XX)) : gC l yX10_takes cX10_takes 5 none rm_X10_takes D cA ad NL [.ref (ad 43 0), .int p1, .int p2, .int p3] X none XX :=
  g_ofW (by decide) hD0 (Nat.le_of_ble_eq_true rfl) rfl (fun p e s m below meth c ls C hP hS hl => w_X10_takes C hW hD0 ha_l0 X _ _ ls hP hS hl hf)
def rm_X10_reads : Room := { frames := 2, cells := 0, slots := 0, locals := 47 }
set_option maxRecDepth 100000 in
set_option maxHeartbeats 4000000 in
theorem s_X10_reads_J503 {p : Program} {l : Launch} {e : Env} {s : State} {m : MethodId} {args : Array Value} {below : List Frame} {meth : Method} {c : Code} {D : va_G} {cA : Nat → ClassId} {ad : Nat → Nat → Nat} {NL : List (Nat × Nat)} {A : Nat → Prop} {rr : Int32} {XX : gM} {N : Nat} (C : gCx p c meth m s args cX10_reads 10 none RX10 D cA ad NL A) (hW : gWf NL) (hD0 : gD (fun _ => True) ad NL) : ∀ (X : gM) (H : Heap) (locs : List Loc) (ls : Array Slot), gH D cA ad NL X H → va_S A s.heap H locs → lv_has ls 10 [] → X10_reads_J503 (gal NL) N X = some (rr, XX) → W p l e rm_X10_reads s m args below meth c H locs 0 0 (MQ below (gQ D cA ad NL none XX A) args s 0 0 A) (F0 m 503 ls []) := by
  have hx := C.1
  have hb := C.2.1
  intro X H locs ls hP hS hl hf
  rw [X10_reads_J503] at hf
  obtain ⟨rfl, rfl⟩ := g_s1 hf
  exact r_vret C hP hS dX10_reads_503

set_option maxRecDepth 100000 in
set_option maxHeartbeats 4000000 in
theorem s_X10_reads_J497 {p : Program} {l : Launch} {e : Env} {s : State} {m : MethodId} {args : Array Value} {below : List Frame} {meth : Method} {c : Code} {D : va_G} {cA : Nat → ClassId} {ad : Nat → Nat → Nat} {NL : List (Nat × Nat)} {A : Nat → Prop} {rr : Int32} {XX : gM} {N : Nat} {kk : Int32 → Int32 → gM → Option (Int32 × gM)} {k503 : gM → Option (Int32 × gM)} (C : gCx p c meth m s args cX10_reads 10 none RX10 D cA ad NL A) (hW : gWf NL) (hD0 : gD (fun _ => True) ad NL) (hkk : ∀ (p4 : Int32) (p5 : Int32) (Y : gM) (H : Heap) (locs : List Loc) (ls : Array Slot), gH D cA ad NL Y H → va_S A s.heap H locs → lv_has ls 10 [(0, .ref (ad 43 0)), (4, .int p4), (5, .int p5)] → (43, 0) ∈ NL → kk p4 p5 Y = some (rr, XX) → W p l e rm_X10_reads s m args below meth c H locs 0 0 (MQ below (gQ D cA ad NL none XX A) args s 0 0 A) (F0 m 184 ls [])) (hk503 : ∀ (Y : gM) (H : Heap) (locs : List Loc) (ls : Array Slot), gH D cA ad NL Y H → va_S A s.heap H locs → lv_has ls 10 [] → k503 Y = some (rr, XX) → W p l e rm_X10_reads s m args below meth c H locs 0 0 (MQ below (gQ D cA ad NL none XX A) args s 0 0 A) (F0 m 503 ls [])) : ∀ (p4 : Int32) (p5 : Int32) (X : gM) (H : Heap) (locs : List Loc) (ls : Array Slot), gH D cA ad NL X H → va_S A s.heap H locs → lv_has ls 10 [(0, .ref (ad 43 0)), (4, .int p4), (5, .int p5)] → (43, 0) ∈ NL → X10_reads_J497 (gal NL) N kk k503 p4 p5 X = some (rr, XX) → W p l e rm_X10_reads s m args below meth c H locs 0 0 (MQ below (gQ D cA ad NL none XX A) args s 0 0 A) (F0 m 497 ls []) := by
  have hx := C.1
  have hb := C.2.1
  intro p4 p5 X H locs ls hP hS hl ha_l0 hf
  rw [X10_reads_J497] at hf
  obtain ⟨v1, e2, hf⟩ := gl_in hf
  refine lv_iinc (v := v1) (lv' := [(5, .int v1), (0, .ref (ad 43 0)), (4, .int p4)]) hx hb dX10_reads_497 hl (k := 2) rfl (by rw [e2]; rfl) (Nat.le_of_ble_eq_true rfl) rfl (fun ls hl => ?_)
  refine lv_goto (tgt := 184) hx hb dX10_reads_500 (by decide) ?_
  exact hkk p4 v1 X _ _ _ hP hS (lv_sub hl [1, 2, 0] rfl) ha_l0 hf

set_option maxRecDepth 100000 in
set_option maxHeartbeats 4000000 in
theorem s_X10_reads_J491 {p : Program} {l : Launch} {e : Env} {s : State} {m : MethodId} {args : Array Value} {below : List Frame} {meth : Method} {c : Code} {D : va_G} {cA : Nat → ClassId} {ad : Nat → Nat → Nat} {NL : List (Nat × Nat)} {A : Nat → Prop} {rr : Int32} {XX : gM} {N : Nat} {kk : Int32 → Int32 → Int32 → gM → Option (Int32 × gM)} {k497 : Int32 → Int32 → gM → Option (Int32 × gM)} (C : gCx p c meth m s args cX10_reads 10 none RX10 D cA ad NL A) (hW : gWf NL) (hD0 : gD (fun _ => True) ad NL) (hkk : ∀ (p4 : Int32) (p5 : Int32) (p6 : Int32) (Y : gM) (H : Heap) (locs : List Loc) (ls : Array Slot), gH D cA ad NL Y H → va_S A s.heap H locs → lv_has ls 10 [(0, .ref (ad 43 0)), (4, .int p4), (5, .int p5), (6, .int p6)] → (43, 0) ∈ NL → kk p4 p5 p6 Y = some (rr, XX) → W p l e rm_X10_reads s m args below meth c H locs 0 0 (MQ below (gQ D cA ad NL none XX A) args s 0 0 A) (F0 m 311 ls [])) (hk497 : ∀ (p4 : Int32) (p5 : Int32) (Y : gM) (H : Heap) (locs : List Loc) (ls : Array Slot), gH D cA ad NL Y H → va_S A s.heap H locs → lv_has ls 10 [(0, .ref (ad 43 0)), (4, .int p4), (5, .int p5)] → (43, 0) ∈ NL → k497 p4 p5 Y = some (rr, XX) → W p l e rm_X10_reads s m args below meth c H locs 0 0 (MQ below (gQ D cA ad NL none XX A) args s 0 0 A) (F0 m 497 ls [])) : ∀ (p4 : Int32) (p5 : Int32) (p6 : Int32) (X : gM) (H : Heap) (locs : List Loc) (ls : Array Slot), gH D cA ad NL X H → va_S A s.heap H locs → lv_has ls 10 [(0, .ref (ad 43 0)), (4, .int p4), (5, .int p5), (6, .int p6)] → (43, 0) ∈ NL → X10_reads_J491 (gal NL) N kk k497 p4 p5 p6 X = some (rr, XX) → W p l e rm_X10_reads s m args below meth c H locs 0 0 (MQ below (gQ D cA ad NL none XX A) args s 0 0 A) (F0 m 491 ls []) := by
  have hx := C.1
  have hb := C.2.1
  intro p4 p5 p6 X H locs ls hP hS hl ha_l0 hf
  rw [X10_reads_J491] at hf
  obtain ⟨v1, e2, hf⟩ := gl_in hf
  refine lv_iinc (v := v1) (lv' := [(6, .int v1), (0, .ref (ad 43 0)), (4, .int p4), (5, .int p5)]) hx hb dX10_reads_491 hl (k := 3) rfl (by rw [e2]; rfl) (Nat.le_of_ble_eq_true rfl) rfl (fun ls hl => ?_)
  refine lv_goto (tgt := 311) hx hb dX10_reads_494 (by decide) ?_
  exact hkk p4 p5 v1 X _ _ _ hP hS (lv_sub hl [1, 2, 3, 0] rfl) ha_l0 hf

set_option maxRecDepth 100000 in
set_option maxHeartbeats 4000000 in
theorem s_X10_reads_J481 {p : Program} {l : Launch} {e : Env} {s : State} {m : MethodId} {args : Array Value} {below : List Frame} {meth : Method} {c : Code} {D : va_G} {cA : Nat → ClassId} {ad : Nat → Nat → Nat} {NL : List (Nat × Nat)} {A : Nat → Prop} {rr : Int32} {XX : gM} {N : Nat} {kk : Int32 → Int32 → Int32 → gM → Option (Int32 × gM)} {k497 : Int32 → Int32 → gM → Option (Int32 × gM)} (C : gCx p c meth m s args cX10_reads 10 none RX10 D cA ad NL A) (hW : gWf NL) (hD0 : gD (fun _ => True) ad NL) (hkk : ∀ (p4 : Int32) (p5 : Int32) (p6 : Int32) (Y : gM) (H : Heap) (locs : List Loc) (ls : Array Slot), gH D cA ad NL Y H → va_S A s.heap H locs → lv_has ls 10 [(0, .ref (ad 43 0)), (4, .int p4), (5, .int p5), (6, .int p6)] → (43, 0) ∈ NL → kk p4 p5 p6 Y = some (rr, XX) → W p l e rm_X10_reads s m args below meth c H locs 0 0 (MQ below (gQ D cA ad NL none XX A) args s 0 0 A) (F0 m 311 ls [])) (hk497 : ∀ (p4 : Int32) (p5 : Int32) (Y : gM) (H : Heap) (locs : List Loc) (ls : Array Slot), gH D cA ad NL Y H → va_S A s.heap H locs → lv_has ls 10 [(0, .ref (ad 43 0)), (4, .int p4), (5, .int p5)] → (43, 0) ∈ NL → k497 p4 p5 Y = some (rr, XX) → W p l e rm_X10_reads s m args below meth c H locs 0 0 (MQ below (gQ D cA ad NL none XX A) args s 0 0 A) (F0 m 497 ls [])) : ∀ (p4 : Int32) (p5 : Int32) (p6 : Int32) (X : gM) (H : Heap) (locs : List Loc) (ls : Array Slot), gH D cA ad NL X H → va_S A s.heap H locs → lv_has ls 10 [(0, .ref (ad 43 0)), (4, .int p4), (5, .int p5), (6, .int p6)] → (43, 0) ∈ NL → X10_reads_J481 (gal NL) N kk k497 p4 p5 p6 X = some (rr, XX) → W p l e rm_X10_reads s m args below meth c H locs 0 0 (MQ below (gQ D cA ad NL none XX A) args s 0 0 A) (F0 m 481 ls []) := by
  have hx := C.1
  have hb := C.2.1
  intro p4 p5 p6 X H locs ls hP hS hl ha_l0 hf
  rw [X10_reads_J481] at hf
  refine lv_aload_n hx hb dX10_reads_481 rfl (lv_at hl 0 rfl) ?_
  refine lv_iload hx hb dX10_reads_482 (lv_at hl 3 rfl) ?_
  refine lv_iload hx hb dX10_reads_484 (lv_at hl 2 rfl) ?_
  refine lv_iload hx hb dX10_reads_486 (lv_at hl 1 rfl) ?_
  obtain ⟨r1, X2, h3, hf⟩ := b2_in hf
  refine r_cVv (rest := []) C hP hS hl.1 (s_X10_takes hW hD0 ha_l0 h3) ix_X10_takes iv_X10_takes lk_X10_175 ⟨rfl, rfl, Nat.le_of_ble_eq_true rfl, Nat.le_of_ble_eq_true rfl⟩ ha_l0 (ct_43 _ _ _ _) rfl rfl rfl rfl (Nat.le_of_ble_eq_true rfl) ⟨Nat.zero_le _, Nat.zero_le _⟩ dX10_reads_488 (fun H locs hP hS => ?_)
  exact s_X10_reads_J491 C hW hD0 hkk hk497 p4 p5 p6 X2 _ _ _ hP hS (lv_sub hl [0, 1, 2, 3] rfl) ha_l0 hf

set_option maxRecDepth 100000 in
set_option maxHeartbeats 4000000 in
theorem s_X10_reads_J434 {p : Program} {l : Launch} {e : Env} {s : State} {m : MethodId} {args : Array Value} {below : List Frame} {meth : Method} {c : Code} {D : va_G} {cA : Nat → ClassId} {ad : Nat → Nat → Nat} {NL : List (Nat × Nat)} {A : Nat → Prop} {rr : Int32} {XX : gM} {N : Nat} {kk : Int32 → Int32 → Int32 → gM → Option (Int32 × gM)} {k497 : Int32 → Int32 → gM → Option (Int32 × gM)} (C : gCx p c meth m s args cX10_reads 10 none RX10 D cA ad NL A) (hW : gWf NL) (hD0 : gD (fun _ => True) ad NL) (hkk : ∀ (p4 : Int32) (p5 : Int32) (p6 : Int32) (Y : gM) (H : Heap) (locs : List Loc) (ls : Array Slot), gH D cA ad NL Y H → va_S A s.heap H locs → lv_has ls 10 [(0, .ref (ad 43 0)), (4, .int p4), (5, .int p5), (6, .int p6)] → (43, 0) ∈ NL → kk p4 p5 p6 Y = some (rr, XX) → W p l e rm_X10_reads s m args below meth c H locs 0 0 (MQ below (gQ D cA ad NL none XX A) args s 0 0 A) (F0 m 311 ls [])) (hk497 : ∀ (p4 : Int32) (p5 : Int32) (Y : gM) (H : Heap) (locs : List Loc) (ls : Array Slot), gH D cA ad NL Y H → va_S A s.heap H locs → lv_has ls 10 [(0, .ref (ad 43 0)), (4, .int p4), (5, .int p5)] → (43, 0) ∈ NL → k497 p4 p5 Y = some (rr, XX) → W p l e rm_X10_reads s m args below meth c H locs 0 0 (MQ below (gQ D cA ad NL none XX A) args s 0 0 A) (F0 m 497 ls [])) : ∀ (p4 : Int32) (p5 : Int32) (p6 : Int32) (p7 : Int32) (p8 : Int32) (p9 : Int32) (s1 : Int32) (s2 : Int32) (X : gM) (H : Heap) (locs : List Loc) (ls : Array Slot), gH D cA ad NL X H → va_S A s.heap H locs → lv_has ls 10 [(0, .ref (ad 43 0)), (4, .int p4), (5, .int p5), (6, .int p6), (7, .int p7), (8, .int p8), (9, .int p9)] → (43, 0) ∈ NL → (70, 0) ∈ NL → X10_reads_J434 (gal NL) N kk k497 p4 p5 p6 p7 p8 p9 s1 s2 X = some (rr, XX) → W p l e rm_X10_reads s m args below meth c H locs 0 0 (MQ below (gQ D cA ad NL none XX A) args s 0 0 A) (F0 m 434 ls [.int s2, .int s1, .ref (ad 70 0)]) := by
  have hx := C.1
  have hb := C.2.1
  intro p4 p5 p6 p7 p8 p9 s1 s2 X H locs ls hP hS hl ha_l0 ha_s0 hf
  rw [X10_reads_J434] at hf
  refine lv_aload_n hx hb dX10_reads_434 rfl (lv_at hl 0 rfl) ?_
  refine r_get C hP ha_l0 (ct_43 _ _ _ _) fx_X10_89 (fg_43_33 _ _ _) dX10_reads_435 ?_
  refine lv_iload hx hb dX10_reads_438 (lv_at hl 2 rfl) ?_
  refine lv_aload_n hx hb dX10_reads_440 rfl (lv_at hl 0 rfl) ?_
  refine r_get C hP ha_l0 (ct_43 _ _ _ _) fx_X10_55 (fg_43_18 _ _ _) dX10_reads_441 ?_
  refine lv_iload hx hb dX10_reads_444 (lv_at hl 3 rfl) ?_
  obtain ⟨j1, h2, hf⟩ := rd_in hf
  refine r_iald C hP (gs_43_18 hW ha_l0) (ct_59 _ _ _ _) h2 dX10_reads_446 ?_
  refine lv_iadd hx hb dX10_reads_447 ?_
  obtain ⟨j3, h4, hf⟩ := rd_in hf
  refine r_iald C hP (gs_43_33 hW ha_l0) (ct_70 _ _ _ _) h4 dX10_reads_448 ?_
  refine lv_iadd hx hb dX10_reads_449 ?_
  obtain ⟨j5, h6, hf⟩ := rd_in hf
  refine r_iast C hP hS ha_s0 (fun _ => ct_70 _ _ _ _) h6 dX10_reads_450 (fun H locs hP hS => ?_)
  obtain ⟨X7, e8, hf⟩ := gl_in hf
  rw [← e8] at hP
  refine lv_aload_n hx hb dX10_reads_451 rfl (lv_at hl 0 rfl) ?_
  refine r_get C hP ha_l0 (ct_43 _ _ _ _) fx_X10_83 (fg_43_31 _ _ _) dX10_reads_452 ?_
  refine lv_iload hx hb dX10_reads_455 (lv_at hl 2 rfl) ?_
  refine lv_iload hx hb dX10_reads_457 (lv_at hl 4 rfl) ?_
  refine lv_iload hx hb dX10_reads_459 (lv_at hl 5 rfl) ?_
  refine lv_iadd hx hb dX10_reads_461 ?_
  obtain ⟨j9, h10, hf⟩ := rd_in hf
  refine r_iast C hP hS (gs_43_31 hW ha_l0) (fun _ => ct_68 _ _ _ _) h10 dX10_reads_462 (fun H locs hP hS => ?_)
  obtain ⟨X11, e12, hf⟩ := gl_in hf
  rw [← e12] at hP
  refine lv_iload hx hb dX10_reads_463 (lv_at hl 6 rfl) ?_
  refine lv_if_ne (tgt := 481) hx hb dX10_reads_465 (by decide) (fun c13 => ?_) (fun c13 => ?_)
  · have hf := g_in c13 hf
    exact s_X10_reads_J481 C hW hD0 hkk hk497 p4 p5 p6 X11 _ _ _ hP hS (lv_sub hl [0, 1, 2, 3] rfl) ha_l0 hf
  · have hf := g_ip c13 hf
    refine lv_aload_n hx hb dX10_reads_468 rfl (lv_at hl 0 rfl) ?_
    refine lv_iload hx hb dX10_reads_469 (lv_at hl 3 rfl) ?_
    refine lv_iload hx hb dX10_reads_471 (lv_at hl 2 rfl) ?_
    refine lv_iload hx hb dX10_reads_473 (lv_at hl 1 rfl) ?_
    obtain ⟨r14, X15, h16, hf⟩ := b2_in hf
    refine r_cVi (rest := []) C hP hS hl.1 (s_X10_isLower hW hD0 ha_l0 h16) ix_X10_isLower iv_X10_isLower lk_X10_172 ⟨rfl, rfl, Nat.le_of_ble_eq_true rfl, Nat.le_of_ble_eq_true rfl⟩ ha_l0 (ct_43 _ _ _ _) rfl rfl rfl rfl (Nat.le_of_ble_eq_true rfl) ⟨Nat.zero_le _, Nat.zero_le _⟩ dX10_reads_475 (fun H locs hP hS => ?_)
    refine lv_if_eq (tgt := 491) hx hb dX10_reads_478 (by decide) (fun c17 => ?_) (fun c17 => ?_)
    · have hf := g_ip c17 hf
      exact s_X10_reads_J491 C hW hD0 hkk hk497 p4 p5 p6 X15 _ _ _ hP hS (lv_sub hl [0, 1, 2, 3] rfl) ha_l0 hf
    · have hf := g_in c17 hf
      exact s_X10_reads_J481 C hW hD0 hkk hk497 p4 p5 p6 X15 _ _ _ hP hS (lv_sub hl [0, 1, 2, 3] rfl) ha_l0 hf

set_option maxRecDepth 100000 in
set_option maxHeartbeats 4000000 in
theorem s_X10_reads_J410 {p : Program} {l : Launch} {e : Env} {s : State} {m : MethodId} {args : Array Value} {below : List Frame} {meth : Method} {c : Code} {D : va_G} {cA : Nat → ClassId} {ad : Nat → Nat → Nat} {NL : List (Nat × Nat)} {A : Nat → Prop} {rr : Int32} {XX : gM} {N : Nat} {kk : Int32 → Int32 → Int32 → gM → Option (Int32 × gM)} {k497 : Int32 → Int32 → gM → Option (Int32 × gM)} (C : gCx p c meth m s args cX10_reads 10 none RX10 D cA ad NL A) (hW : gWf NL) (hD0 : gD (fun _ => True) ad NL) (hkk : ∀ (p4 : Int32) (p5 : Int32) (p6 : Int32) (Y : gM) (H : Heap) (locs : List Loc) (ls : Array Slot), gH D cA ad NL Y H → va_S A s.heap H locs → lv_has ls 10 [(0, .ref (ad 43 0)), (4, .int p4), (5, .int p5), (6, .int p6)] → (43, 0) ∈ NL → kk p4 p5 p6 Y = some (rr, XX) → W p l e rm_X10_reads s m args below meth c H locs 0 0 (MQ below (gQ D cA ad NL none XX A) args s 0 0 A) (F0 m 311 ls [])) (hk497 : ∀ (p4 : Int32) (p5 : Int32) (Y : gM) (H : Heap) (locs : List Loc) (ls : Array Slot), gH D cA ad NL Y H → va_S A s.heap H locs → lv_has ls 10 [(0, .ref (ad 43 0)), (4, .int p4), (5, .int p5)] → (43, 0) ∈ NL → k497 p4 p5 Y = some (rr, XX) → W p l e rm_X10_reads s m args below meth c H locs 0 0 (MQ below (gQ D cA ad NL none XX A) args s 0 0 A) (F0 m 497 ls [])) : ∀ (p4 : Int32) (p5 : Int32) (p6 : Int32) (p7 : Int32) (p8 : Int32) (s0 : Int32) (X : gM) (H : Heap) (locs : List Loc) (ls : Array Slot), gH D cA ad NL X H → va_S A s.heap H locs → lv_has ls 10 [(0, .ref (ad 43 0)), (4, .int p4), (5, .int p5), (6, .int p6), (7, .int p7), (8, .int p8)] → (43, 0) ∈ NL → X10_reads_J410 (gal NL) N kk k497 p4 p5 p6 p7 p8 s0 X = some (rr, XX) → W p l e rm_X10_reads s m args below meth c H locs 0 0 (MQ below (gQ D cA ad NL none XX A) args s 0 0 A) (F0 m 410 ls [.int s0]) := by
  have hx := C.1
  have hb := C.2.1
  intro p4 p5 p6 p7 p8 s0 X H locs ls hP hS hl ha_l0 hf
  rw [X10_reads_J410] at hf
  refine lv_istore (i := 9) (lv' := [(9, .int s0), (0, .ref (ad 43 0)), (4, .int p4), (5, .int p5), (6, .int p6), (7, .int p7), (8, .int p8)]) hx hb dX10_reads_410 hl (Nat.le_of_ble_eq_true rfl) rfl (fun ls hl => ?_)
  refine lv_aload_n hx hb dX10_reads_412 rfl (lv_at hl 1 rfl) ?_
  refine r_get C hP ha_l0 (ct_43 _ _ _ _) fx_X10_89 (fg_43_33 _ _ _) dX10_reads_413 ?_
  refine lv_iload hx hb dX10_reads_416 (lv_at hl 3 rfl) ?_
  refine lv_iload hx hb dX10_reads_418 (lv_at hl 0 rfl) ?_
  refine lv_if_eq (tgt := 427) hx hb dX10_reads_420 (by decide) (fun c1 => ?_) (fun c1 => ?_)
  · have hf := g_ip c1 hf
    refine lv_aload_n hx hb dX10_reads_427 rfl (lv_at hl 1 rfl) ?_
    refine r_get C hP ha_l0 (ct_43 _ _ _ _) fx_X10_89 (fg_43_33 _ _ _) dX10_reads_428 ?_
    refine lv_iload hx hb dX10_reads_431 (lv_at hl 3 rfl) ?_
    obtain ⟨j2, h3, hf⟩ := rd_in hf
    refine r_iald C hP (gs_43_33 hW ha_l0) (ct_70 _ _ _ _) h3 dX10_reads_433 ?_
    exact s_X10_reads_J434 C hW hD0 hkk hk497 p4 p5 p6 p7 p8 s0 p5 ((X 70 0 j2)) X _ _ _ hP hS (lv_sub hl [1, 2, 3, 4, 5, 6, 0] rfl) ha_l0 (gs_43_33 hW ha_l0) hf
  · have hf := g_in c1 hf
    refine lv_iconst (v := 0) hx hb dX10_reads_423 (by decide) ?_
    refine lv_goto (tgt := 434) hx hb dX10_reads_424 (by decide) ?_
    exact s_X10_reads_J434 C hW hD0 hkk hk497 p4 p5 p6 p7 p8 s0 p5 (0 : Int32) X _ _ _ hP hS (lv_sub hl [1, 2, 3, 4, 5, 6, 0] rfl) ha_l0 (gs_43_33 hW ha_l0) hf

set_option maxRecDepth 100000 in
set_option maxHeartbeats 4000000 in
theorem s_X10_reads_J367 {p : Program} {l : Launch} {e : Env} {s : State} {m : MethodId} {args : Array Value} {below : List Frame} {meth : Method} {c : Code} {D : va_G} {cA : Nat → ClassId} {ad : Nat → Nat → Nat} {NL : List (Nat × Nat)} {A : Nat → Prop} {rr : Int32} {XX : gM} {N : Nat} {kk : Int32 → Int32 → Int32 → gM → Option (Int32 × gM)} {k497 : Int32 → Int32 → gM → Option (Int32 × gM)} (C : gCx p c meth m s args cX10_reads 10 none RX10 D cA ad NL A) (hW : gWf NL) (hD0 : gD (fun _ => True) ad NL) (hkk : ∀ (p4 : Int32) (p5 : Int32) (p6 : Int32) (Y : gM) (H : Heap) (locs : List Loc) (ls : Array Slot), gH D cA ad NL Y H → va_S A s.heap H locs → lv_has ls 10 [(0, .ref (ad 43 0)), (4, .int p4), (5, .int p5), (6, .int p6)] → (43, 0) ∈ NL → kk p4 p5 p6 Y = some (rr, XX) → W p l e rm_X10_reads s m args below meth c H locs 0 0 (MQ below (gQ D cA ad NL none XX A) args s 0 0 A) (F0 m 311 ls [])) (hk497 : ∀ (p4 : Int32) (p5 : Int32) (Y : gM) (H : Heap) (locs : List Loc) (ls : Array Slot), gH D cA ad NL Y H → va_S A s.heap H locs → lv_has ls 10 [(0, .ref (ad 43 0)), (4, .int p4), (5, .int p5)] → (43, 0) ∈ NL → k497 p4 p5 Y = some (rr, XX) → W p l e rm_X10_reads s m args below meth c H locs 0 0 (MQ below (gQ D cA ad NL none XX A) args s 0 0 A) (F0 m 497 ls [])) : ∀ (p4 : Int32) (p5 : Int32) (p6 : Int32) (p7 : Int32) (s0 : Int32) (X : gM) (H : Heap) (locs : List Loc) (ls : Array Slot), gH D cA ad NL X H → va_S A s.heap H locs → lv_has ls 10 [(0, .ref (ad 43 0)), (4, .int p4), (5, .int p5), (6, .int p6), (7, .int p7)] → (43, 0) ∈ NL → X10_reads_J367 (gal NL) N kk k497 p4 p5 p6 p7 s0 X = some (rr, XX) → W p l e rm_X10_reads s m args below meth c H locs 0 0 (MQ below (gQ D cA ad NL none XX A) args s 0 0 A) (F0 m 367 ls [.int s0]) := by
  have hx := C.1
  have hb := C.2.1
  intro p4 p5 p6 p7 s0 X H locs ls hP hS hl ha_l0 hf
  rw [X10_reads_J367] at hf
  refine lv_istore (i := 8) (lv' := [(8, .int s0), (0, .ref (ad 43 0)), (4, .int p4), (5, .int p5), (6, .int p6), (7, .int p7)]) hx hb dX10_reads_367 hl (Nat.le_of_ble_eq_true rfl) rfl (fun ls hl => ?_)
  refine lv_iload hx hb dX10_reads_369 (lv_at hl 0 rfl) ?_
  refine lv_iconst (v := -1) hx hb dX10_reads_371 (by decide) ?_
  refine lv_icmp_eq (tgt := 491) hx hb dX10_reads_372 (by decide) (fun c1 => ?_) (fun c1 => ?_)
  · have hf := g_ip c1 hf
    exact s_X10_reads_J491 C hW hD0 hkk hk497 p4 p5 p6 X _ _ _ hP hS (lv_sub hl [1, 2, 3, 4] rfl) ha_l0 hf
  · have hf := g_in c1 hf
    refine lv_iload hx hb dX10_reads_375 (lv_at hl 5 rfl) ?_
    refine lv_iload hx hb dX10_reads_377 (lv_at hl 0 rfl) ?_
    refine lv_iadd hx hb dX10_reads_379 ?_
    refine lv_aload_n hx hb dX10_reads_380 rfl (lv_at hl 1 rfl) ?_
    refine r_get C hP ha_l0 (ct_43 _ _ _ _) fx_X10_83 (fg_43_31 _ _ _) dX10_reads_381 ?_
    refine lv_iload hx hb dX10_reads_384 (lv_at hl 3 rfl) ?_
    obtain ⟨j2, h3, hf⟩ := rd_in hf
    refine r_iald C hP (gs_43_31 hW ha_l0) (ct_68 _ _ _ _) h3 dX10_reads_386 ?_
    refine lv_icmp_lt (tgt := 491) hx hb dX10_reads_387 (by decide) (fun c4 => ?_) (fun c4 => ?_)
    · have hf := g_ip c4 hf
      exact s_X10_reads_J491 C hW hD0 hkk hk497 p4 p5 p6 X _ _ _ hP hS (lv_sub hl [1, 2, 3, 4] rfl) ha_l0 hf
    · have hf := g_in c4 hf
      refine lv_iload hx hb dX10_reads_390 (lv_at hl 5 rfl) ?_
      refine lv_iload hx hb dX10_reads_392 (lv_at hl 0 rfl) ?_
      refine lv_iadd hx hb dX10_reads_394 ?_
      refine lv_aload_n hx hb dX10_reads_395 rfl (lv_at hl 1 rfl) ?_
      refine r_get C hP ha_l0 (ct_43 _ _ _ _) fx_X10_83 (fg_43_31 _ _ _) dX10_reads_396 ?_
      refine lv_iload hx hb dX10_reads_399 (lv_at hl 3 rfl) ?_
      obtain ⟨j5, h6, hf⟩ := rd_in hf
      refine r_iald C hP (gs_43_31 hW ha_l0) (ct_68 _ _ _ _) h6 dX10_reads_401 ?_
      refine lv_icmp_le (tgt := 409) hx hb dX10_reads_402 (by decide) (fun c7 => ?_) (fun c7 => ?_)
      · have hf := g_ip c7 hf
        refine lv_iconst (v := 0) hx hb dX10_reads_409 (by decide) ?_
        exact s_X10_reads_J410 C hW hD0 hkk hk497 p4 p5 p6 p7 s0 (0 : Int32) X _ _ _ hP hS (lv_sub hl [1, 2, 3, 4, 5, 0] rfl) ha_l0 hf
      · have hf := g_in c7 hf
        refine lv_iconst (v := 1) hx hb dX10_reads_405 (by decide) ?_
        refine lv_goto (tgt := 410) hx hb dX10_reads_406 (by decide) ?_
        exact s_X10_reads_J410 C hW hD0 hkk hk497 p4 p5 p6 p7 s0 (1 : Int32) X _ _ _ hP hS (lv_sub hl [1, 2, 3, 4, 5, 0] rfl) ha_l0 hf

set_option maxRecDepth 100000 in
set_option maxHeartbeats 4000000 in
theorem s_X10_reads_L311 {p : Program} {l : Launch} {e : Env} {s : State} {m : MethodId} {args : Array Value} {below : List Frame} {meth : Method} {c : Code} {D : va_G} {cA : Nat → ClassId} {ad : Nat → Nat → Nat} {NL : List (Nat × Nat)} {A : Nat → Prop} {rr : Int32} {XX : gM} {N : Nat} {k497 : Int32 → Int32 → gM → Option (Int32 × gM)} (C : gCx p c meth m s args cX10_reads 10 none RX10 D cA ad NL A) (hW : gWf NL) (hD0 : gD (fun _ => True) ad NL) (hk497 : ∀ (p4 : Int32) (p5 : Int32) (Y : gM) (H : Heap) (locs : List Loc) (ls : Array Slot), gH D cA ad NL Y H → va_S A s.heap H locs → lv_has ls 10 [(0, .ref (ad 43 0)), (4, .int p4), (5, .int p5)] → (43, 0) ∈ NL → k497 p4 p5 Y = some (rr, XX) → W p l e rm_X10_reads s m args below meth c H locs 0 0 (MQ below (gQ D cA ad NL none XX A) args s 0 0 A) (F0 m 497 ls [])) : ∀ (n : Nat) (p4 : Int32) (p5 : Int32) (p6 : Int32) (X : gM) (H : Heap) (locs : List Loc) (ls : Array Slot), gH D cA ad NL X H → va_S A s.heap H locs → lv_has ls 10 [(0, .ref (ad 43 0)), (4, .int p4), (5, .int p5), (6, .int p6)] → (43, 0) ∈ NL → X10_reads_L311 (gal NL) N k497 n p4 p5 p6 X = some (rr, XX) → W p l e rm_X10_reads s m args below meth c H locs 0 0 (MQ below (gQ D cA ad NL none XX A) args s 0 0 A) (F0 m 311 ls []) := by
  have hx := C.1
  have hb := C.2.1
  intro n
  induction n with
  | zero =>
    intro p4 p5 p6 X H locs ls hP hS hl ha_l0 hf
    rw [X10_reads_L311] at hf
    cases hf
  | succ n ih =>
    intro p4 p5 p6 X H locs ls hP hS hl ha_l0 hf
    rw [X10_reads_L311] at hf
    refine lv_iload hx hb dX10_reads_311 (lv_at hl 3 rfl) ?_
    refine lv_aload_n hx hb dX10_reads_313 rfl (lv_at hl 0 rfl) ?_
    refine r_get C hP ha_l0 (ct_43 _ _ _ _) fx_X10_163 (fg_43_17 _ _ _) dX10_reads_314 ?_
    refine lv_icmp_ge (tgt := 497) hx hb dX10_reads_317 (by decide) (fun c1 => ?_) (fun c1 => ?_)
    · have hf := g_ip c1 hf
      exact hk497 p4 p5 X _ _ _ hP hS (lv_sub hl [0, 1, 2] rfl) ha_l0 hf
    · have hf := g_in c1 hf
      refine lv_aload_n hx hb dX10_reads_320 rfl (lv_at hl 0 rfl) ?_
      refine r_get C hP ha_l0 (ct_43 _ _ _ _) fx_X10_95 (fg_43_35 _ _ _) dX10_reads_321 ?_
      refine lv_iload hx hb dX10_reads_324 (lv_at hl 2 rfl) ?_
      obtain ⟨j2, h3, hf⟩ := rd_in hf
      refine r_zald C hP (gs_43_35 hW ha_l0) (ct_72 _ _ _ _) h3 dX10_reads_326 ?_
      refine lv_if_ne (tgt := 497) hx hb dX10_reads_327 (by decide) (fun c4 => ?_) (fun c4 => ?_)
      · have hf := g_in c4 hf
        exact hk497 p4 p5 X _ _ _ hP hS (lv_sub hl [0, 1, 2] rfl) ha_l0 hf
      · have hf := g_ip c4 hf
        refine lv_aload_n hx hb dX10_reads_330 rfl (lv_at hl 0 rfl) ?_
        refine lv_iload hx hb dX10_reads_331 (lv_at hl 3 rfl) ?_
        refine lv_iload hx hb dX10_reads_333 (lv_at hl 2 rfl) ?_
        refine lv_iload hx hb dX10_reads_335 (lv_at hl 1 rfl) ?_
        obtain ⟨r5, X6, h7, hf⟩ := b2_in hf
        refine r_cVi (rest := []) C hP hS hl.1 (s_X10_weightAt hW hD0 ha_l0 h7) ix_X10_weightAt iv_X10_weightAt lk_X10_169 ⟨rfl, rfl, Nat.le_of_ble_eq_true rfl, Nat.le_of_ble_eq_true rfl⟩ ha_l0 (ct_43 _ _ _ _) rfl rfl rfl rfl (Nat.le_of_ble_eq_true rfl) ⟨Nat.zero_le _, Nat.zero_le _⟩ dX10_reads_337 (fun H locs hP hS => ?_)
        refine lv_istore (i := 7) (lv' := [(7, .int r5), (0, .ref (ad 43 0)), (4, .int p4), (5, .int p5), (6, .int p6)]) hx hb dX10_reads_340 hl (Nat.le_of_ble_eq_true rfl) rfl (fun ls hl => ?_)
        refine lv_iload hx hb dX10_reads_342 (lv_at hl 0 rfl) ?_
        refine lv_iconst (v := -1) hx hb dX10_reads_344 (by decide) ?_
        refine lv_icmp_ne (tgt := 352) hx hb dX10_reads_345 (by decide) (fun c8 => ?_) (fun c8 => ?_)
        · have hf := g_in c8 hf
          refine lv_aload_n hx hb dX10_reads_352 rfl (lv_at hl 1 rfl) ?_
          refine r_get C hP ha_l0 (ct_43 _ _ _ _) fx_X10_83 (fg_43_31 _ _ _) dX10_reads_353 ?_
          refine lv_iload hx hb dX10_reads_356 (lv_at hl 3 rfl) ?_
          refine lv_aload_n hx hb dX10_reads_358 rfl (lv_at hl 1 rfl) ?_
          refine r_get C hP ha_l0 (ct_43 _ _ _ _) fx_X10_55 (fg_43_18 _ _ _) dX10_reads_359 ?_
          refine lv_iload hx hb dX10_reads_362 (lv_at hl 4 rfl) ?_
          obtain ⟨j9, h10, hf⟩ := rd_in hf
          refine r_iald C hP (gs_43_18 hW ha_l0) (ct_59 _ _ _ _) h10 dX10_reads_364 ?_
          refine lv_iadd hx hb dX10_reads_365 ?_
          obtain ⟨j11, h12, hf⟩ := rd_in hf
          refine r_iald C hP (gs_43_31 hW ha_l0) (ct_68 _ _ _ _) h12 dX10_reads_366 ?_
          exact s_X10_reads_J367 C hW hD0 ih hk497 p4 p5 p6 r5 ((X6 68 0 j11)) X6 _ _ _ hP hS (lv_sub hl [1, 2, 3, 4, 0] rfl) ha_l0 hf
        · have hf := g_ip c8 hf
          refine lv_iconst (v := -1) hx hb dX10_reads_348 (by decide) ?_
          refine lv_goto (tgt := 367) hx hb dX10_reads_349 (by decide) ?_
          exact s_X10_reads_J367 C hW hD0 ih hk497 p4 p5 p6 r5 (-1 : Int32) X6 _ _ _ hP hS (lv_sub hl [1, 2, 3, 4, 0] rfl) ha_l0 hf

set_option maxRecDepth 100000 in
set_option maxHeartbeats 4000000 in
theorem s_X10_reads_J308 {p : Program} {l : Launch} {e : Env} {s : State} {m : MethodId} {args : Array Value} {below : List Frame} {meth : Method} {c : Code} {D : va_G} {cA : Nat → ClassId} {ad : Nat → Nat → Nat} {NL : List (Nat × Nat)} {A : Nat → Prop} {rr : Int32} {XX : gM} {N : Nat} {kk : Int32 → Int32 → gM → Option (Int32 × gM)} {k503 : gM → Option (Int32 × gM)} (C : gCx p c meth m s args cX10_reads 10 none RX10 D cA ad NL A) (hW : gWf NL) (hD0 : gD (fun _ => True) ad NL) (hkk : ∀ (p4 : Int32) (p5 : Int32) (Y : gM) (H : Heap) (locs : List Loc) (ls : Array Slot), gH D cA ad NL Y H → va_S A s.heap H locs → lv_has ls 10 [(0, .ref (ad 43 0)), (4, .int p4), (5, .int p5)] → (43, 0) ∈ NL → kk p4 p5 Y = some (rr, XX) → W p l e rm_X10_reads s m args below meth c H locs 0 0 (MQ below (gQ D cA ad NL none XX A) args s 0 0 A) (F0 m 184 ls [])) (hk503 : ∀ (Y : gM) (H : Heap) (locs : List Loc) (ls : Array Slot), gH D cA ad NL Y H → va_S A s.heap H locs → lv_has ls 10 [] → k503 Y = some (rr, XX) → W p l e rm_X10_reads s m args below meth c H locs 0 0 (MQ below (gQ D cA ad NL none XX A) args s 0 0 A) (F0 m 503 ls [])) : ∀ (p4 : Int32) (p5 : Int32) (X : gM) (H : Heap) (locs : List Loc) (ls : Array Slot), gH D cA ad NL X H → va_S A s.heap H locs → lv_has ls 10 [(0, .ref (ad 43 0)), (4, .int p4), (5, .int p5)] → (43, 0) ∈ NL → X10_reads_J308 (gal NL) N kk k503 p4 p5 X = some (rr, XX) → W p l e rm_X10_reads s m args below meth c H locs 0 0 (MQ below (gQ D cA ad NL none XX A) args s 0 0 A) (F0 m 308 ls []) := by
  have hx := C.1
  have hb := C.2.1
  intro p4 p5 X H locs ls hP hS hl ha_l0 hf
  rw [X10_reads_J308] at hf
  refine lv_iconst (v := 0) hx hb dX10_reads_308 (by decide) ?_
  refine lv_istore (i := 6) (lv' := [(6, .int (0 : Int32)), (0, .ref (ad 43 0)), (4, .int p4), (5, .int p5)]) hx hb dX10_reads_309 hl (Nat.le_of_ble_eq_true rfl) rfl (fun ls hl => ?_)
  exact s_X10_reads_L311 C hW hD0 (fun p4 p5 Y H locs ls hP hS hl ha_l0 hf => s_X10_reads_J497 C hW hD0 hkk hk503 p4 p5 Y _ _ _ hP hS hl ha_l0 hf) N p4 p5 (0 : Int32) X _ _ _ hP hS (lv_sub hl [1, 2, 3, 0] rfl) ha_l0 hf

set_option maxRecDepth 100000 in
set_option maxHeartbeats 4000000 in
theorem s_X10_reads_L267 {p : Program} {l : Launch} {e : Env} {s : State} {m : MethodId} {args : Array Value} {below : List Frame} {meth : Method} {c : Code} {D : va_G} {cA : Nat → ClassId} {ad : Nat → Nat → Nat} {NL : List (Nat × Nat)} {A : Nat → Prop} {rr : Int32} {XX : gM} {N : Nat} {k308 : Int32 → Int32 → gM → Option (Int32 × gM)} (C : gCx p c meth m s args cX10_reads 10 none RX10 D cA ad NL A) (hW : gWf NL) (hD0 : gD (fun _ => True) ad NL) (hk308 : ∀ (p4 : Int32) (p5 : Int32) (Y : gM) (H : Heap) (locs : List Loc) (ls : Array Slot), gH D cA ad NL Y H → va_S A s.heap H locs → lv_has ls 10 [(0, .ref (ad 43 0)), (4, .int p4), (5, .int p5)] → (43, 0) ∈ NL → k308 p4 p5 Y = some (rr, XX) → W p l e rm_X10_reads s m args below meth c H locs 0 0 (MQ below (gQ D cA ad NL none XX A) args s 0 0 A) (F0 m 308 ls [])) : ∀ (n : Nat) (p4 : Int32) (p5 : Int32) (p6 : Int32) (X : gM) (H : Heap) (locs : List Loc) (ls : Array Slot), gH D cA ad NL X H → va_S A s.heap H locs → lv_has ls 10 [(0, .ref (ad 43 0)), (4, .int p4), (5, .int p5), (6, .int p6)] → (43, 0) ∈ NL → X10_reads_L267 (gal NL) N k308 n p4 p5 p6 X = some (rr, XX) → W p l e rm_X10_reads s m args below meth c H locs 0 0 (MQ below (gQ D cA ad NL none XX A) args s 0 0 A) (F0 m 267 ls []) := by
  have hx := C.1
  have hb := C.2.1
  intro n
  induction n with
  | zero =>
    intro p4 p5 p6 X H locs ls hP hS hl ha_l0 hf
    rw [X10_reads_L267] at hf
    cases hf
  | succ n ih =>
    intro p4 p5 p6 X H locs ls hP hS hl ha_l0 hf
    rw [X10_reads_L267] at hf
    refine lv_iload hx hb dX10_reads_267 (lv_at hl 3 rfl) ?_
    refine lv_iload hx hb dX10_reads_269 (lv_at hl 1 rfl) ?_
    refine lv_icmp_ge (tgt := 308) hx hb dX10_reads_271 (by decide) (fun c1 => ?_) (fun c1 => ?_)
    · have hf := g_ip c1 hf
      exact hk308 p4 p5 X _ _ _ hP hS (lv_sub hl [0, 1, 2] rfl) ha_l0 hf
    · have hf := g_in c1 hf
      refine lv_aload_n hx hb dX10_reads_274 rfl (lv_at hl 0 rfl) ?_
      refine r_get C hP ha_l0 (ct_43 _ _ _ _) fx_X10_92 (fg_43_34 _ _ _) dX10_reads_275 ?_
      refine lv_bipush (v := 8) hx hb dX10_reads_278 (by decide) ?_
      refine lv_iload hx hb dX10_reads_280 (lv_at hl 2 rfl) ?_
      refine lv_imul hx hb dX10_reads_282 ?_
      refine lv_iload hx hb dX10_reads_283 (lv_at hl 3 rfl) ?_
      refine lv_iadd hx hb dX10_reads_285 ?_
      refine lv_aload_n hx hb dX10_reads_286 rfl (lv_at hl 0 rfl) ?_
      refine r_get C hP ha_l0 (ct_43 _ _ _ _) fx_X10_92 (fg_43_34 _ _ _) dX10_reads_287 ?_
      refine lv_bipush (v := 8) hx hb dX10_reads_290 (by decide) ?_
      refine lv_iload hx hb dX10_reads_292 (lv_at hl 2 rfl) ?_
      refine lv_iconst (v := 1) hx hb dX10_reads_294 (by decide) ?_
      refine lv_iadd hx hb dX10_reads_295 ?_
      refine lv_imul hx hb dX10_reads_296 ?_
      refine lv_iload hx hb dX10_reads_297 (lv_at hl 3 rfl) ?_
      refine lv_iadd hx hb dX10_reads_299 ?_
      obtain ⟨j2, h3, hf⟩ := rd_in hf
      refine r_iald C hP (gs_43_34 hW ha_l0) (ct_71 _ _ _ _) h3 dX10_reads_300 ?_
      obtain ⟨j4, h5, hf⟩ := rd_in hf
      refine r_iast C hP hS (gs_43_34 hW ha_l0) (fun _ => ct_71 _ _ _ _) h5 dX10_reads_301 (fun H locs hP hS => ?_)
      obtain ⟨X6, e7, hf⟩ := gl_in hf
      rw [← e7] at hP
      obtain ⟨v8, e9, hf⟩ := gl_in hf
      refine lv_iinc (v := v8) (lv' := [(6, .int v8), (0, .ref (ad 43 0)), (4, .int p4), (5, .int p5)]) hx hb dX10_reads_302 hl (k := 3) rfl (by rw [e9]; rfl) (Nat.le_of_ble_eq_true rfl) rfl (fun ls hl => ?_)
      refine lv_goto (tgt := 267) hx hb dX10_reads_305 (by decide) ?_
      exact ih p4 p5 v8 X6 _ _ _ hP hS (lv_sub hl [1, 2, 3, 0] rfl) ha_l0 hf

set_option maxRecDepth 100000 in
set_option maxHeartbeats 4000000 in
theorem s_X10_reads_L184 {p : Program} {l : Launch} {e : Env} {s : State} {m : MethodId} {args : Array Value} {below : List Frame} {meth : Method} {c : Code} {D : va_G} {cA : Nat → ClassId} {ad : Nat → Nat → Nat} {NL : List (Nat × Nat)} {A : Nat → Prop} {rr : Int32} {XX : gM} {N : Nat} {k503 : gM → Option (Int32 × gM)} (C : gCx p c meth m s args cX10_reads 10 none RX10 D cA ad NL A) (hW : gWf NL) (hD0 : gD (fun _ => True) ad NL) (hk503 : ∀ (Y : gM) (H : Heap) (locs : List Loc) (ls : Array Slot), gH D cA ad NL Y H → va_S A s.heap H locs → lv_has ls 10 [] → k503 Y = some (rr, XX) → W p l e rm_X10_reads s m args below meth c H locs 0 0 (MQ below (gQ D cA ad NL none XX A) args s 0 0 A) (F0 m 503 ls [])) : ∀ (n : Nat) (p4 : Int32) (p5 : Int32) (X : gM) (H : Heap) (locs : List Loc) (ls : Array Slot), gH D cA ad NL X H → va_S A s.heap H locs → lv_has ls 10 [(0, .ref (ad 43 0)), (4, .int p4), (5, .int p5)] → (43, 0) ∈ NL → X10_reads_L184 (gal NL) N k503 n p4 p5 X = some (rr, XX) → W p l e rm_X10_reads s m args below meth c H locs 0 0 (MQ below (gQ D cA ad NL none XX A) args s 0 0 A) (F0 m 184 ls []) := by
  have hx := C.1
  have hb := C.2.1
  intro n
  induction n with
  | zero =>
    intro p4 p5 X H locs ls hP hS hl ha_l0 hf
    rw [X10_reads_L184] at hf
    cases hf
  | succ n ih =>
    intro p4 p5 X H locs ls hP hS hl ha_l0 hf
    rw [X10_reads_L184] at hf
    refine lv_iload hx hb dX10_reads_184 (lv_at hl 2 rfl) ?_
    refine lv_if_lt (tgt := 503) hx hb dX10_reads_186 (by decide) (fun c1 => ?_) (fun c1 => ?_)
    · have hf := g_ip c1 hf
      exact hk503 X _ _ _ hP hS (lv_sub hl [] rfl) hf
    · have hf := g_in c1 hf
      refine lv_aload_n hx hb dX10_reads_189 rfl (lv_at hl 0 rfl) ?_
      refine r_get C hP ha_l0 (ct_43 _ _ _ _) fx_X10_83 (fg_43_31 _ _ _) dX10_reads_190 ?_
      refine lv_iload hx hb dX10_reads_193 (lv_at hl 2 rfl) ?_
      refine lv_iconst (v := -1) hx hb dX10_reads_195 (by decide) ?_
      obtain ⟨j2, h3, hf⟩ := rd_in hf
      refine r_iast C hP hS (gs_43_31 hW ha_l0) (fun _ => ct_68 _ _ _ _) h3 dX10_reads_196 (fun H locs hP hS => ?_)
      obtain ⟨X4, e5, hf⟩ := gl_in hf
      rw [← e5] at hP
      refine lv_aload_n hx hb dX10_reads_197 rfl (lv_at hl 0 rfl) ?_
      refine r_get C hP ha_l0 (ct_43 _ _ _ _) fx_X10_89 (fg_43_33 _ _ _) dX10_reads_198 ?_
      refine lv_iload hx hb dX10_reads_201 (lv_at hl 2 rfl) ?_
      refine lv_iconst (v := 0) hx hb dX10_reads_203 (by decide) ?_
      obtain ⟨j6, h7, hf⟩ := rd_in hf
      refine r_iast C hP hS (gs_43_33 hW ha_l0) (fun _ => ct_70 _ _ _ _) h7 dX10_reads_204 (fun H locs hP hS => ?_)
      obtain ⟨X8, e9, hf⟩ := gl_in hf
      rw [← e9] at hP
      refine lv_aload_n hx hb dX10_reads_205 rfl (lv_at hl 0 rfl) ?_
      refine r_get C hP ha_l0 (ct_43 _ _ _ _) fx_X10_95 (fg_43_35 _ _ _) dX10_reads_206 ?_
      refine lv_iload hx hb dX10_reads_209 (lv_at hl 2 rfl) ?_
      obtain ⟨j10, h11, hf⟩ := rd_in hf
      refine r_zald C hP (gs_43_35 hW ha_l0) (ct_72 _ _ _ _) h11 dX10_reads_211 ?_
      refine lv_if_eq (tgt := 308) hx hb dX10_reads_212 (by decide) (fun c12 => ?_) (fun c12 => ?_)
      · have hf := g_ip c12 hf
        exact s_X10_reads_J308 C hW hD0 ih hk503 p4 p5 X8 _ _ _ hP hS (lv_sub hl [0, 1, 2] rfl) ha_l0 hf
      · have hf := g_in c12 hf
        refine lv_aload_n hx hb dX10_reads_215 rfl (lv_at hl 0 rfl) ?_
        refine r_get C hP ha_l0 (ct_43 _ _ _ _) fx_X10_83 (fg_43_31 _ _ _) dX10_reads_216 ?_
        refine lv_iload hx hb dX10_reads_219 (lv_at hl 2 rfl) ?_
        refine lv_aload_n hx hb dX10_reads_221 rfl (lv_at hl 0 rfl) ?_
        refine r_get C hP ha_l0 (ct_43 _ _ _ _) fx_X10_83 (fg_43_31 _ _ _) dX10_reads_222 ?_
        refine lv_iload hx hb dX10_reads_225 (lv_at hl 2 rfl) ?_
        refine lv_iconst (v := 1) hx hb dX10_reads_227 (by decide) ?_
        refine lv_iadd hx hb dX10_reads_228 ?_
        obtain ⟨j13, h14, hf⟩ := rd_in hf
        refine r_iald C hP (gs_43_31 hW ha_l0) (ct_68 _ _ _ _) h14 dX10_reads_229 ?_
        obtain ⟨j15, h16, hf⟩ := rd_in hf
        refine r_iast C hP hS (gs_43_31 hW ha_l0) (fun _ => ct_68 _ _ _ _) h16 dX10_reads_230 (fun H locs hP hS => ?_)
        obtain ⟨X17, e18, hf⟩ := gl_in hf
        rw [← e18] at hP
        refine lv_aload_n hx hb dX10_reads_231 rfl (lv_at hl 0 rfl) ?_
        refine r_get C hP ha_l0 (ct_43 _ _ _ _) fx_X10_89 (fg_43_33 _ _ _) dX10_reads_232 ?_
        refine lv_iload hx hb dX10_reads_235 (lv_at hl 2 rfl) ?_
        refine lv_aload_n hx hb dX10_reads_237 rfl (lv_at hl 0 rfl) ?_
        refine r_get C hP ha_l0 (ct_43 _ _ _ _) fx_X10_89 (fg_43_33 _ _ _) dX10_reads_238 ?_
        refine lv_iload hx hb dX10_reads_241 (lv_at hl 2 rfl) ?_
        refine lv_iconst (v := 1) hx hb dX10_reads_243 (by decide) ?_
        refine lv_iadd hx hb dX10_reads_244 ?_
        obtain ⟨j19, h20, hf⟩ := rd_in hf
        refine r_iald C hP (gs_43_33 hW ha_l0) (ct_70 _ _ _ _) h20 dX10_reads_245 ?_
        obtain ⟨j21, h22, hf⟩ := rd_in hf
        refine r_iast C hP hS (gs_43_33 hW ha_l0) (fun _ => ct_70 _ _ _ _) h22 dX10_reads_246 (fun H locs hP hS => ?_)
        obtain ⟨X23, e24, hf⟩ := gl_in hf
        rw [← e24] at hP
        refine lv_aload_n hx hb dX10_reads_247 rfl (lv_at hl 0 rfl) ?_
        refine r_get C hP ha_l0 (ct_43 _ _ _ _) fx_X10_92 (fg_43_34 _ _ _) dX10_reads_248 ?_
        refine lv_bipush (v := 8) hx hb dX10_reads_251 (by decide) ?_
        refine lv_iload hx hb dX10_reads_253 (lv_at hl 2 rfl) ?_
        refine lv_imul hx hb dX10_reads_255 ?_
        refine lv_iload hx hb dX10_reads_256 (lv_at hl 2 rfl) ?_
        refine lv_iadd hx hb dX10_reads_258 ?_
        refine lv_iconst (v := -1) hx hb dX10_reads_259 (by decide) ?_
        obtain ⟨j25, h26, hf⟩ := rd_in hf
        refine r_iast C hP hS (gs_43_34 hW ha_l0) (fun _ => ct_71 _ _ _ _) h26 dX10_reads_260 (fun H locs hP hS => ?_)
        obtain ⟨X27, e28, hf⟩ := gl_in hf
        rw [← e28] at hP
        refine lv_iload hx hb dX10_reads_261 (lv_at hl 2 rfl) ?_
        refine lv_iconst (v := 1) hx hb dX10_reads_263 (by decide) ?_
        refine lv_iadd hx hb dX10_reads_264 ?_
        refine g_top hf (fun v29 e30 hf => ?_)
        refine lv_istore (i := 6) (lv' := [(6, .int v29), (0, .ref (ad 43 0)), (4, .int p4), (5, .int p5)]) hx hb dX10_reads_265 hl (Nat.le_of_ble_eq_true rfl) rfl (fun ls hl => ?_)
        exact s_X10_reads_L267 C hW hD0 (fun p4 p5 Y H locs ls hP hS hl ha_l0 hf => s_X10_reads_J308 C hW hD0 ih hk503 p4 p5 Y _ _ _ hP hS hl ha_l0 hf) N p4 p5 v29 X27 _ _ _ hP hS (lv_sub hl [1, 2, 3, 0] rfl) ha_l0 hf

set_option maxRecDepth 100000 in
set_option maxHeartbeats 4000000 in
theorem s_X10_reads_J162 {p : Program} {l : Launch} {e : Env} {s : State} {m : MethodId} {args : Array Value} {below : List Frame} {meth : Method} {c : Code} {D : va_G} {cA : Nat → ClassId} {ad : Nat → Nat → Nat} {NL : List (Nat × Nat)} {A : Nat → Prop} {rr : Int32} {XX : gM} {N : Nat} (C : gCx p c meth m s args cX10_reads 10 none RX10 D cA ad NL A) (hW : gWf NL) (hD0 : gD (fun _ => True) ad NL) : ∀ (p4 : Int32) (X : gM) (H : Heap) (locs : List Loc) (ls : Array Slot), gH D cA ad NL X H → va_S A s.heap H locs → lv_has ls 10 [(0, .ref (ad 43 0)), (4, .int p4)] → (43, 0) ∈ NL → X10_reads_J162 (gal NL) N p4 X = some (rr, XX) → W p l e rm_X10_reads s m args below meth c H locs 0 0 (MQ below (gQ D cA ad NL none XX A) args s 0 0 A) (F0 m 162 ls []) := by
  have hx := C.1
  have hb := C.2.1
  intro p4 X H locs ls hP hS hl ha_l0 hf
  rw [X10_reads_J162] at hf
  refine lv_aload_n hx hb dX10_reads_162 rfl (lv_at hl 0 rfl) ?_
  refine r_get C hP ha_l0 (ct_43 _ _ _ _) fx_X10_83 (fg_43_31 _ _ _) dX10_reads_163 ?_
  refine lv_iload hx hb dX10_reads_166 (lv_at hl 1 rfl) ?_
  refine lv_iconst (v := 0) hx hb dX10_reads_168 (by decide) ?_
  obtain ⟨j1, h2, hf⟩ := rd_in hf
  refine r_iast C hP hS (gs_43_31 hW ha_l0) (fun _ => ct_68 _ _ _ _) h2 dX10_reads_169 (fun H locs hP hS => ?_)
  obtain ⟨X3, e4, hf⟩ := gl_in hf
  rw [← e4] at hP
  refine lv_aload_n hx hb dX10_reads_170 rfl (lv_at hl 0 rfl) ?_
  refine r_get C hP ha_l0 (ct_43 _ _ _ _) fx_X10_89 (fg_43_33 _ _ _) dX10_reads_171 ?_
  refine lv_iload hx hb dX10_reads_174 (lv_at hl 1 rfl) ?_
  refine lv_iconst (v := 1) hx hb dX10_reads_176 (by decide) ?_
  obtain ⟨j5, h6, hf⟩ := rd_in hf
  refine r_iast C hP hS (gs_43_33 hW ha_l0) (fun _ => ct_70 _ _ _ _) h6 dX10_reads_177 (fun H locs hP hS => ?_)
  obtain ⟨X7, e8, hf⟩ := gl_in hf
  rw [← e8] at hP
  refine lv_iload hx hb dX10_reads_178 (lv_at hl 1 rfl) ?_
  refine lv_iconst (v := 1) hx hb dX10_reads_180 (by decide) ?_
  refine lv_isub hx hb dX10_reads_181 ?_
  refine g_top hf (fun v9 e10 hf => ?_)
  refine lv_istore (i := 5) (lv' := [(5, .int v9), (0, .ref (ad 43 0)), (4, .int p4)]) hx hb dX10_reads_182 hl (Nat.le_of_ble_eq_true rfl) rfl (fun ls hl => ?_)
  exact s_X10_reads_L184 C hW hD0 (fun Y H locs ls hP hS hl hf => s_X10_reads_J503 C hW hD0 Y _ _ _ hP hS hl hf) N p4 v9 X7 _ _ _ hP hS (lv_sub hl [1, 2, 0] rfl) ha_l0 hf

set_option maxRecDepth 100000 in
set_option maxHeartbeats 4000000 in
theorem s_X10_reads_J156 {p : Program} {l : Launch} {e : Env} {s : State} {m : MethodId} {args : Array Value} {below : List Frame} {meth : Method} {c : Code} {D : va_G} {cA : Nat → ClassId} {ad : Nat → Nat → Nat} {NL : List (Nat × Nat)} {A : Nat → Prop} {rr : Int32} {XX : gM} {N : Nat} {kk : Int32 → Int32 → Int32 → Int32 → Int32 → gM → Option (Int32 × gM)} {k162 : Int32 → gM → Option (Int32 × gM)} (C : gCx p c meth m s args cX10_reads 10 none RX10 D cA ad NL A) (hW : gWf NL) (hD0 : gD (fun _ => True) ad NL) (hkk : ∀ (p1 : Int32) (p2 : Int32) (p3 : Int32) (p4 : Int32) (p5 : Int32) (Y : gM) (H : Heap) (locs : List Loc) (ls : Array Slot), gH D cA ad NL Y H → va_S A s.heap H locs → lv_has ls 10 [(0, .ref (ad 43 0)), (1, .int p1), (2, .int p2), (3, .int p3), (4, .int p4), (5, .int p5)] → (43, 0) ∈ NL → kk p1 p2 p3 p4 p5 Y = some (rr, XX) → W p l e rm_X10_reads s m args below meth c H locs 0 0 (MQ below (gQ D cA ad NL none XX A) args s 0 0 A) (F0 m 11 ls [])) (hk162 : ∀ (p4 : Int32) (Y : gM) (H : Heap) (locs : List Loc) (ls : Array Slot), gH D cA ad NL Y H → va_S A s.heap H locs → lv_has ls 10 [(0, .ref (ad 43 0)), (4, .int p4)] → (43, 0) ∈ NL → k162 p4 Y = some (rr, XX) → W p l e rm_X10_reads s m args below meth c H locs 0 0 (MQ below (gQ D cA ad NL none XX A) args s 0 0 A) (F0 m 162 ls [])) : ∀ (p1 : Int32) (p2 : Int32) (p3 : Int32) (p4 : Int32) (p5 : Int32) (X : gM) (H : Heap) (locs : List Loc) (ls : Array Slot), gH D cA ad NL X H → va_S A s.heap H locs → lv_has ls 10 [(0, .ref (ad 43 0)), (1, .int p1), (2, .int p2), (3, .int p3), (4, .int p4), (5, .int p5)] → (43, 0) ∈ NL → X10_reads_J156 (gal NL) N kk k162 p1 p2 p3 p4 p5 X = some (rr, XX) → W p l e rm_X10_reads s m args below meth c H locs 0 0 (MQ below (gQ D cA ad NL none XX A) args s 0 0 A) (F0 m 156 ls []) := by
  have hx := C.1
  have hb := C.2.1
  intro p1 p2 p3 p4 p5 X H locs ls hP hS hl ha_l0 hf
  rw [X10_reads_J156] at hf
  obtain ⟨v1, e2, hf⟩ := gl_in hf
  refine lv_iinc (v := v1) (lv' := [(5, .int v1), (0, .ref (ad 43 0)), (1, .int p1), (2, .int p2), (3, .int p3), (4, .int p4)]) hx hb dX10_reads_156 hl (k := 5) rfl (by rw [e2]; rfl) (Nat.le_of_ble_eq_true rfl) rfl (fun ls hl => ?_)
  refine lv_goto (tgt := 11) hx hb dX10_reads_159 (by decide) ?_
  exact hkk p1 p2 p3 p4 v1 X _ _ _ hP hS (lv_sub hl [1, 2, 3, 4, 5, 0] rfl) ha_l0 hf

set_option maxRecDepth 100000 in
set_option maxHeartbeats 4000000 in
theorem s_X10_reads_J148 {p : Program} {l : Launch} {e : Env} {s : State} {m : MethodId} {args : Array Value} {below : List Frame} {meth : Method} {c : Code} {D : va_G} {cA : Nat → ClassId} {ad : Nat → Nat → Nat} {NL : List (Nat × Nat)} {A : Nat → Prop} {rr : Int32} {XX : gM} {N : Nat} {kk : Int32 → Int32 → Int32 → Int32 → Int32 → Int32 → Int32 → gM → Option (Int32 × gM)} {k156 : Int32 → Int32 → Int32 → Int32 → Int32 → gM → Option (Int32 × gM)} (C : gCx p c meth m s args cX10_reads 10 none RX10 D cA ad NL A) (hW : gWf NL) (hD0 : gD (fun _ => True) ad NL) (hkk : ∀ (p1 : Int32) (p2 : Int32) (p3 : Int32) (p4 : Int32) (p5 : Int32) (p6 : Int32) (p7 : Int32) (Y : gM) (H : Heap) (locs : List Loc) (ls : Array Slot), gH D cA ad NL Y H → va_S A s.heap H locs → lv_has ls 10 [(0, .ref (ad 43 0)), (1, .int p1), (2, .int p2), (3, .int p3), (4, .int p4), (5, .int p5), (6, .int p6), (7, .int p7)] → (43, 0) ∈ NL → kk p1 p2 p3 p4 p5 p6 p7 Y = some (rr, XX) → W p l e rm_X10_reads s m args below meth c H locs 0 0 (MQ below (gQ D cA ad NL none XX A) args s 0 0 A) (F0 m 51 ls [])) (hk156 : ∀ (p1 : Int32) (p2 : Int32) (p3 : Int32) (p4 : Int32) (p5 : Int32) (Y : gM) (H : Heap) (locs : List Loc) (ls : Array Slot), gH D cA ad NL Y H → va_S A s.heap H locs → lv_has ls 10 [(0, .ref (ad 43 0)), (1, .int p1), (2, .int p2), (3, .int p3), (4, .int p4), (5, .int p5)] → (43, 0) ∈ NL → k156 p1 p2 p3 p4 p5 Y = some (rr, XX) → W p l e rm_X10_reads s m args below meth c H locs 0 0 (MQ below (gQ D cA ad NL none XX A) args s 0 0 A) (F0 m 156 ls [])) : ∀ (p1 : Int32) (p2 : Int32) (p3 : Int32) (p4 : Int32) (p5 : Int32) (p6 : Int32) (p7 : Int32) (s1 : Int32) (s2 : Int32) (s3 : Int32) (X : gM) (H : Heap) (locs : List Loc) (ls : Array Slot), gH D cA ad NL X H → va_S A s.heap H locs → lv_has ls 10 [(0, .ref (ad 43 0)), (1, .int p1), (2, .int p2), (3, .int p3), (4, .int p4), (5, .int p5), (6, .int p6), (7, .int p7)] → (43, 0) ∈ NL → (74, 0) ∈ NL → X10_reads_J148 (gal NL) N kk k156 p1 p2 p3 p4 p5 p6 p7 s1 s2 s3 X = some (rr, XX) → W p l e rm_X10_reads s m args below meth c H locs 0 0 (MQ below (gQ D cA ad NL none XX A) args s 0 0 A) (F0 m 148 ls [.int s3, .int s2, .int s1, .ref (ad 74 0)]) := by
  have hx := C.1
  have hb := C.2.1
  intro p1 p2 p3 p4 p5 p6 p7 s1 s2 s3 X H locs ls hP hS hl ha_l0 ha_s0 hf
  rw [X10_reads_J148] at hf
  refine lv_iadd hx hb dX10_reads_148 ?_
  obtain ⟨j1, h2, hf⟩ := rd_in hf
  refine r_iast C hP hS ha_s0 (fun _ => ct_74 _ _ _ _) h2 dX10_reads_149 (fun H locs hP hS => ?_)
  obtain ⟨X3, e4, hf⟩ := gl_in hf
  rw [← e4] at hP
  obtain ⟨v5, e6, hf⟩ := gl_in hf
  refine lv_iinc (v := v5) (lv' := [(7, .int v5), (0, .ref (ad 43 0)), (1, .int p1), (2, .int p2), (3, .int p3), (4, .int p4), (5, .int p5), (6, .int p6)]) hx hb dX10_reads_150 hl (k := 7) rfl (by rw [e6]; rfl) (Nat.le_of_ble_eq_true rfl) rfl (fun ls hl => ?_)
  refine lv_goto (tgt := 51) hx hb dX10_reads_153 (by decide) ?_
  exact hkk p1 p2 p3 p4 p5 p6 v5 X3 _ _ _ hP hS (lv_sub hl [1, 2, 3, 4, 5, 6, 7, 0] rfl) ha_l0 hf

set_option maxRecDepth 100000 in
set_option maxHeartbeats 4000000 in
theorem s_X10_reads_J115 {p : Program} {l : Launch} {e : Env} {s : State} {m : MethodId} {args : Array Value} {below : List Frame} {meth : Method} {c : Code} {D : va_G} {cA : Nat → ClassId} {ad : Nat → Nat → Nat} {NL : List (Nat × Nat)} {A : Nat → Prop} {rr : Int32} {XX : gM} {N : Nat} {kk : Int32 → Int32 → Int32 → Int32 → Int32 → Int32 → Int32 → gM → Option (Int32 × gM)} {k156 : Int32 → Int32 → Int32 → Int32 → Int32 → gM → Option (Int32 × gM)} (C : gCx p c meth m s args cX10_reads 10 none RX10 D cA ad NL A) (hW : gWf NL) (hD0 : gD (fun _ => True) ad NL) (hkk : ∀ (p1 : Int32) (p2 : Int32) (p3 : Int32) (p4 : Int32) (p5 : Int32) (p6 : Int32) (p7 : Int32) (Y : gM) (H : Heap) (locs : List Loc) (ls : Array Slot), gH D cA ad NL Y H → va_S A s.heap H locs → lv_has ls 10 [(0, .ref (ad 43 0)), (1, .int p1), (2, .int p2), (3, .int p3), (4, .int p4), (5, .int p5), (6, .int p6), (7, .int p7)] → (43, 0) ∈ NL → kk p1 p2 p3 p4 p5 p6 p7 Y = some (rr, XX) → W p l e rm_X10_reads s m args below meth c H locs 0 0 (MQ below (gQ D cA ad NL none XX A) args s 0 0 A) (F0 m 51 ls [])) (hk156 : ∀ (p1 : Int32) (p2 : Int32) (p3 : Int32) (p4 : Int32) (p5 : Int32) (Y : gM) (H : Heap) (locs : List Loc) (ls : Array Slot), gH D cA ad NL Y H → va_S A s.heap H locs → lv_has ls 10 [(0, .ref (ad 43 0)), (1, .int p1), (2, .int p2), (3, .int p3), (4, .int p4), (5, .int p5)] → (43, 0) ∈ NL → k156 p1 p2 p3 p4 p5 Y = some (rr, XX) → W p l e rm_X10_reads s m args below meth c H locs 0 0 (MQ below (gQ D cA ad NL none XX A) args s 0 0 A) (F0 m 156 ls [])) : ∀ (p1 : Int32) (p2 : Int32) (p3 : Int32) (p4 : Int32) (p5 : Int32) (p6 : Int32) (p7 : Int32) (p8 : Int32) (X : gM) (H : Heap) (locs : List Loc) (ls : Array Slot), gH D cA ad NL X H → va_S A s.heap H locs → lv_has ls 10 [(0, .ref (ad 43 0)), (1, .int p1), (2, .int p2), (3, .int p3), (4, .int p4), (5, .int p5), (6, .int p6), (7, .int p7), (8, .int p8)] → (43, 0) ∈ NL → X10_reads_J115 (gal NL) N kk k156 p1 p2 p3 p4 p5 p6 p7 p8 X = some (rr, XX) → W p l e rm_X10_reads s m args below meth c H locs 0 0 (MQ below (gQ D cA ad NL none XX A) args s 0 0 A) (F0 m 115 ls []) := by
  have hx := C.1
  have hb := C.2.1
  intro p1 p2 p3 p4 p5 p6 p7 p8 X H locs ls hP hS hl ha_l0 hf
  rw [X10_reads_J115] at hf
  refine lv_aload_n hx hb dX10_reads_115 rfl (lv_at hl 0 rfl) ?_
  refine r_get C hP ha_l0 (ct_43 _ _ _ _) fx_X10_98 (fg_43_36 _ _ _) dX10_reads_116 ?_
  refine lv_bipush (v := 26) hx hb dX10_reads_119 (by decide) ?_
  refine lv_iload hx hb dX10_reads_121 (lv_at hl 5 rfl) ?_
  refine lv_imul hx hb dX10_reads_123 ?_
  refine lv_iload hx hb dX10_reads_124 (lv_at hl 7 rfl) ?_
  refine lv_iadd hx hb dX10_reads_126 ?_
  refine lv_iload hx hb dX10_reads_127 (lv_at hl 8 rfl) ?_
  obtain ⟨j1, h2, hf⟩ := rd_in hf
  refine r_iast C hP hS (gs_43_36 hW ha_l0) (fun _ => ct_73 _ _ _ _) h2 dX10_reads_129 (fun H locs hP hS => ?_)
  obtain ⟨X3, e4, hf⟩ := gl_in hf
  rw [← e4] at hP
  refine lv_aload_n hx hb dX10_reads_130 rfl (lv_at hl 0 rfl) ?_
  refine r_get C hP ha_l0 (ct_43 _ _ _ _) fx_X10_101 (fg_43_37 _ _ _) dX10_reads_131 ?_
  refine lv_iload hx hb dX10_reads_134 (lv_at hl 5 rfl) ?_
  refine lv_dup2_11 hx hb dX10_reads_136 rfl rfl ?_
  obtain ⟨j5, h6, hf⟩ := rd_in hf
  refine r_iald C hP (gs_43_37 hW ha_l0) (ct_74 _ _ _ _) h6 dX10_reads_137 ?_
  refine lv_iload hx hb dX10_reads_138 (lv_at hl 8 rfl) ?_
  refine lv_if_le (tgt := 147) hx hb dX10_reads_140 (by decide) (fun c7 => ?_) (fun c7 => ?_)
  · have hf := g_ip c7 hf
    refine lv_iconst (v := 0) hx hb dX10_reads_147 (by decide) ?_
    exact s_X10_reads_J148 C hW hD0 hkk hk156 p1 p2 p3 p4 p5 p6 p7 p5 ((X3 74 0 j5)) (0 : Int32) X3 _ _ _ hP hS (lv_sub hl [0, 1, 2, 3, 4, 5, 6, 7] rfl) ha_l0 (gs_43_37 hW ha_l0) hf
  · have hf := g_in c7 hf
    refine lv_iconst (v := 1) hx hb dX10_reads_143 (by decide) ?_
    refine lv_goto (tgt := 148) hx hb dX10_reads_144 (by decide) ?_
    exact s_X10_reads_J148 C hW hD0 hkk hk156 p1 p2 p3 p4 p5 p6 p7 p5 ((X3 74 0 j5)) (1 : Int32) X3 _ _ _ hP hS (lv_sub hl [0, 1, 2, 3, 4, 5, 6, 7] rfl) ha_l0 (gs_43_37 hW ha_l0) hf

set_option maxRecDepth 100000 in
set_option maxHeartbeats 4000000 in
theorem s_X10_reads_J106 {p : Program} {l : Launch} {e : Env} {s : State} {m : MethodId} {args : Array Value} {below : List Frame} {meth : Method} {c : Code} {D : va_G} {cA : Nat → ClassId} {ad : Nat → Nat → Nat} {NL : List (Nat × Nat)} {A : Nat → Prop} {rr : Int32} {XX : gM} {N : Nat} {kk : Int32 → Int32 → Int32 → Int32 → Int32 → Int32 → Int32 → Int32 → Int32 → gM → Option (Int32 × gM)} {k115 : Int32 → Int32 → Int32 → Int32 → Int32 → Int32 → Int32 → Int32 → gM → Option (Int32 × gM)} (C : gCx p c meth m s args cX10_reads 10 none RX10 D cA ad NL A) (hW : gWf NL) (hD0 : gD (fun _ => True) ad NL) (hkk : ∀ (p1 : Int32) (p2 : Int32) (p3 : Int32) (p4 : Int32) (p5 : Int32) (p6 : Int32) (p7 : Int32) (p8 : Int32) (p9 : Int32) (Y : gM) (H : Heap) (locs : List Loc) (ls : Array Slot), gH D cA ad NL Y H → va_S A s.heap H locs → lv_has ls 10 [(0, .ref (ad 43 0)), (1, .int p1), (2, .int p2), (3, .int p3), (4, .int p4), (5, .int p5), (6, .int p6), (7, .int p7), (8, .int p8), (9, .int p9)] → (43, 0) ∈ NL → kk p1 p2 p3 p4 p5 p6 p7 p8 p9 Y = some (rr, XX) → W p l e rm_X10_reads s m args below meth c H locs 0 0 (MQ below (gQ D cA ad NL none XX A) args s 0 0 A) (F0 m 64 ls [])) (hk115 : ∀ (p1 : Int32) (p2 : Int32) (p3 : Int32) (p4 : Int32) (p5 : Int32) (p6 : Int32) (p7 : Int32) (p8 : Int32) (Y : gM) (H : Heap) (locs : List Loc) (ls : Array Slot), gH D cA ad NL Y H → va_S A s.heap H locs → lv_has ls 10 [(0, .ref (ad 43 0)), (1, .int p1), (2, .int p2), (3, .int p3), (4, .int p4), (5, .int p5), (6, .int p6), (7, .int p7), (8, .int p8)] → (43, 0) ∈ NL → k115 p1 p2 p3 p4 p5 p6 p7 p8 Y = some (rr, XX) → W p l e rm_X10_reads s m args below meth c H locs 0 0 (MQ below (gQ D cA ad NL none XX A) args s 0 0 A) (F0 m 115 ls [])) : ∀ (p1 : Int32) (p2 : Int32) (p3 : Int32) (p4 : Int32) (p5 : Int32) (p6 : Int32) (p7 : Int32) (p9 : Int32) (s0 : Int32) (s1 : Int32) (X : gM) (H : Heap) (locs : List Loc) (ls : Array Slot), gH D cA ad NL X H → va_S A s.heap H locs → lv_has ls 10 [(0, .ref (ad 43 0)), (1, .int p1), (2, .int p2), (3, .int p3), (4, .int p4), (5, .int p5), (6, .int p6), (7, .int p7), (9, .int p9)] → (43, 0) ∈ NL → X10_reads_J106 (gal NL) N kk k115 p1 p2 p3 p4 p5 p6 p7 p9 s0 s1 X = some (rr, XX) → W p l e rm_X10_reads s m args below meth c H locs 0 0 (MQ below (gQ D cA ad NL none XX A) args s 0 0 A) (F0 m 106 ls [.int s1, .int s0]) := by
  have hx := C.1
  have hb := C.2.1
  intro p1 p2 p3 p4 p5 p6 p7 p9 s0 s1 X H locs ls hP hS hl ha_l0 hf
  rw [X10_reads_J106] at hf
  refine lv_iadd hx hb dX10_reads_106 ?_
  refine g_top hf (fun v1 e2 hf => ?_)
  refine lv_istore (i := 8) (lv' := [(8, .int v1), (0, .ref (ad 43 0)), (1, .int p1), (2, .int p2), (3, .int p3), (4, .int p4), (5, .int p5), (6, .int p6), (7, .int p7), (9, .int p9)]) hx hb dX10_reads_107 hl (Nat.le_of_ble_eq_true rfl) rfl (fun ls hl => ?_)
  obtain ⟨v3, e4, hf⟩ := gl_in hf
  refine lv_iinc (v := v3) (lv' := [(9, .int v3), (8, .int v1), (0, .ref (ad 43 0)), (1, .int p1), (2, .int p2), (3, .int p3), (4, .int p4), (5, .int p5), (6, .int p6), (7, .int p7)]) hx hb dX10_reads_109 hl (k := 9) rfl (by rw [e4]; rfl) (Nat.le_of_ble_eq_true rfl) rfl (fun ls hl => ?_)
  refine lv_goto (tgt := 64) hx hb dX10_reads_112 (by decide) ?_
  exact hkk p1 p2 p3 p4 p5 p6 p7 v1 v3 X _ _ _ hP hS (lv_sub hl [2, 3, 4, 5, 6, 7, 8, 9, 1, 0] rfl) ha_l0 hf

set_option maxRecDepth 100000 in
set_option maxHeartbeats 4000000 in
theorem s_X10_reads_L64 {p : Program} {l : Launch} {e : Env} {s : State} {m : MethodId} {args : Array Value} {below : List Frame} {meth : Method} {c : Code} {D : va_G} {cA : Nat → ClassId} {ad : Nat → Nat → Nat} {NL : List (Nat × Nat)} {A : Nat → Prop} {rr : Int32} {XX : gM} {N : Nat} {k115 : Int32 → Int32 → Int32 → Int32 → Int32 → Int32 → Int32 → Int32 → gM → Option (Int32 × gM)} (C : gCx p c meth m s args cX10_reads 10 none RX10 D cA ad NL A) (hW : gWf NL) (hD0 : gD (fun _ => True) ad NL) (hk115 : ∀ (p1 : Int32) (p2 : Int32) (p3 : Int32) (p4 : Int32) (p5 : Int32) (p6 : Int32) (p7 : Int32) (p8 : Int32) (Y : gM) (H : Heap) (locs : List Loc) (ls : Array Slot), gH D cA ad NL Y H → va_S A s.heap H locs → lv_has ls 10 [(0, .ref (ad 43 0)), (1, .int p1), (2, .int p2), (3, .int p3), (4, .int p4), (5, .int p5), (6, .int p6), (7, .int p7), (8, .int p8)] → (43, 0) ∈ NL → k115 p1 p2 p3 p4 p5 p6 p7 p8 Y = some (rr, XX) → W p l e rm_X10_reads s m args below meth c H locs 0 0 (MQ below (gQ D cA ad NL none XX A) args s 0 0 A) (F0 m 115 ls [])) : ∀ (n : Nat) (p1 : Int32) (p2 : Int32) (p3 : Int32) (p4 : Int32) (p5 : Int32) (p6 : Int32) (p7 : Int32) (p8 : Int32) (p9 : Int32) (X : gM) (H : Heap) (locs : List Loc) (ls : Array Slot), gH D cA ad NL X H → va_S A s.heap H locs → lv_has ls 10 [(0, .ref (ad 43 0)), (1, .int p1), (2, .int p2), (3, .int p3), (4, .int p4), (5, .int p5), (6, .int p6), (7, .int p7), (8, .int p8), (9, .int p9)] → (43, 0) ∈ NL → X10_reads_L64 (gal NL) N k115 n p1 p2 p3 p4 p5 p6 p7 p8 p9 X = some (rr, XX) → W p l e rm_X10_reads s m args below meth c H locs 0 0 (MQ below (gQ D cA ad NL none XX A) args s 0 0 A) (F0 m 64 ls []) := by
  have hx := C.1
  have hb := C.2.1
  intro n
  induction n with
  | zero =>
    intro p1 p2 p3 p4 p5 p6 p7 p8 p9 X H locs ls hP hS hl ha_l0 hf
    rw [X10_reads_L64] at hf
    cases hf
  | succ n ih =>
    intro p1 p2 p3 p4 p5 p6 p7 p8 p9 X H locs ls hP hS hl ha_l0 hf
    rw [X10_reads_L64] at hf
    refine lv_iload hx hb dX10_reads_64 (lv_at hl 9 rfl) ?_
    refine lv_iconst (v := 3) hx hb dX10_reads_66 (by decide) ?_
    refine lv_icmp_ge (tgt := 115) hx hb dX10_reads_67 (by decide) (fun c1 => ?_) (fun c1 => ?_)
    · have hf := g_ip c1 hf
      exact hk115 p1 p2 p3 p4 p5 p6 p7 p8 X _ _ _ hP hS (lv_sub hl [0, 1, 2, 3, 4, 5, 6, 7, 8] rfl) ha_l0 hf
    · have hf := g_in c1 hf
      refine lv_iload hx hb dX10_reads_70 (lv_at hl 8 rfl) ?_
      refine lv_iload_n hx hb dX10_reads_72 rfl (lv_at hl 3 rfl) ?_
      refine lv_iload hx hb dX10_reads_73 (lv_at hl 9 rfl) ?_
      refine lv_ishr hx hb dX10_reads_75 ?_
      refine lv_iconst (v := 1) hx hb dX10_reads_76 (by decide) ?_
      refine lv_iand hx hb dX10_reads_77 ?_
      refine lv_iconst (v := 1) hx hb dX10_reads_78 (by decide) ?_
      refine lv_icmp_ne (tgt := 105) hx hb dX10_reads_79 (by decide) (fun c2 => ?_) (fun c2 => ?_)
      · have hf := g_in c2 hf
        refine lv_iconst (v := 0) hx hb dX10_reads_105 (by decide) ?_
        exact s_X10_reads_J106 C hW hD0 ih hk115 p1 p2 p3 p4 p5 p6 p7 p9 p8 (0 : Int32) X _ _ _ hP hS (lv_sub hl [0, 1, 2, 3, 4, 5, 6, 7, 9] rfl) ha_l0 hf
      · have hf := g_ip c2 hf
        refine lv_aload_n hx hb dX10_reads_82 rfl (lv_at hl 0 rfl) ?_
        refine r_get C hP ha_l0 (ct_43 _ _ _ _) fx_X10_49 (fg_43_14 _ _ _) dX10_reads_83 ?_
        refine lv_bipush (v := 26) hx hb dX10_reads_86 (by decide) ?_
        refine lv_sipush (v := 320) hx hb dX10_reads_88 (by decide) ?_
        refine lv_iload hx hb dX10_reads_91 (lv_at hl 9 rfl) ?_
        refine lv_imul hx hb dX10_reads_93 ?_
        refine lv_iload hx hb dX10_reads_94 (lv_at hl 6 rfl) ?_
        refine lv_iadd hx hb dX10_reads_96 ?_
        refine lv_imul hx hb dX10_reads_97 ?_
        refine lv_iload hx hb dX10_reads_98 (lv_at hl 7 rfl) ?_
        refine lv_iadd hx hb dX10_reads_100 ?_
        obtain ⟨j3, h4, hf⟩ := rd_in hf
        refine r_iald C hP (gs_43_14 hW ha_l0) (ct_57 _ _ _ _) h4 dX10_reads_101 ?_
        refine lv_goto (tgt := 106) hx hb dX10_reads_102 (by decide) ?_
        exact s_X10_reads_J106 C hW hD0 ih hk115 p1 p2 p3 p4 p5 p6 p7 p9 p8 ((X 57 0 j3)) X _ _ _ hP hS (lv_sub hl [0, 1, 2, 3, 4, 5, 6, 7, 9] rfl) ha_l0 hf

set_option maxRecDepth 100000 in
set_option maxHeartbeats 4000000 in
theorem s_X10_reads_L51 {p : Program} {l : Launch} {e : Env} {s : State} {m : MethodId} {args : Array Value} {below : List Frame} {meth : Method} {c : Code} {D : va_G} {cA : Nat → ClassId} {ad : Nat → Nat → Nat} {NL : List (Nat × Nat)} {A : Nat → Prop} {rr : Int32} {XX : gM} {N : Nat} {k156 : Int32 → Int32 → Int32 → Int32 → Int32 → gM → Option (Int32 × gM)} (C : gCx p c meth m s args cX10_reads 10 none RX10 D cA ad NL A) (hW : gWf NL) (hD0 : gD (fun _ => True) ad NL) (hk156 : ∀ (p1 : Int32) (p2 : Int32) (p3 : Int32) (p4 : Int32) (p5 : Int32) (Y : gM) (H : Heap) (locs : List Loc) (ls : Array Slot), gH D cA ad NL Y H → va_S A s.heap H locs → lv_has ls 10 [(0, .ref (ad 43 0)), (1, .int p1), (2, .int p2), (3, .int p3), (4, .int p4), (5, .int p5)] → (43, 0) ∈ NL → k156 p1 p2 p3 p4 p5 Y = some (rr, XX) → W p l e rm_X10_reads s m args below meth c H locs 0 0 (MQ below (gQ D cA ad NL none XX A) args s 0 0 A) (F0 m 156 ls [])) : ∀ (n : Nat) (p1 : Int32) (p2 : Int32) (p3 : Int32) (p4 : Int32) (p5 : Int32) (p6 : Int32) (p7 : Int32) (X : gM) (H : Heap) (locs : List Loc) (ls : Array Slot), gH D cA ad NL X H → va_S A s.heap H locs → lv_has ls 10 [(0, .ref (ad 43 0)), (1, .int p1), (2, .int p2), (3, .int p3), (4, .int p4), (5, .int p5), (6, .int p6), (7, .int p7)] → (43, 0) ∈ NL → X10_reads_L51 (gal NL) N k156 n p1 p2 p3 p4 p5 p6 p7 X = some (rr, XX) → W p l e rm_X10_reads s m args below meth c H locs 0 0 (MQ below (gQ D cA ad NL none XX A) args s 0 0 A) (F0 m 51 ls []) := by
  have hx := C.1
  have hb := C.2.1
  intro n
  induction n with
  | zero =>
    intro p1 p2 p3 p4 p5 p6 p7 X H locs ls hP hS hl ha_l0 hf
    rw [X10_reads_L51] at hf
    cases hf
  | succ n ih =>
    intro p1 p2 p3 p4 p5 p6 p7 X H locs ls hP hS hl ha_l0 hf
    rw [X10_reads_L51] at hf
    refine lv_iload hx hb dX10_reads_51 (lv_at hl 7 rfl) ?_
    refine lv_bipush (v := 26) hx hb dX10_reads_53 (by decide) ?_
    refine lv_icmp_ge (tgt := 156) hx hb dX10_reads_55 (by decide) (fun c1 => ?_) (fun c1 => ?_)
    · have hf := g_ip c1 hf
      exact hk156 p1 p2 p3 p4 p5 X _ _ _ hP hS (lv_sub hl [0, 1, 2, 3, 4, 5] rfl) ha_l0 hf
    · have hf := g_in c1 hf
      refine lv_iconst (v := 0) hx hb dX10_reads_58 (by decide) ?_
      refine lv_istore (i := 8) (lv' := [(8, .int (0 : Int32)), (0, .ref (ad 43 0)), (1, .int p1), (2, .int p2), (3, .int p3), (4, .int p4), (5, .int p5), (6, .int p6), (7, .int p7)]) hx hb dX10_reads_59 hl (Nat.le_of_ble_eq_true rfl) rfl (fun ls hl => ?_)
      refine lv_iconst (v := 0) hx hb dX10_reads_61 (by decide) ?_
      refine lv_istore (i := 9) (lv' := [(9, .int (0 : Int32)), (8, .int (0 : Int32)), (0, .ref (ad 43 0)), (1, .int p1), (2, .int p2), (3, .int p3), (4, .int p4), (5, .int p5), (6, .int p6), (7, .int p7)]) hx hb dX10_reads_62 hl (Nat.le_of_ble_eq_true rfl) rfl (fun ls hl => ?_)
      exact s_X10_reads_L64 C hW hD0 (fun p1 p2 p3 p4 p5 p6 p7 p8 Y H locs ls hP hS hl ha_l0 hf => s_X10_reads_J115 C hW hD0 ih hk156 p1 p2 p3 p4 p5 p6 p7 p8 Y _ _ _ hP hS hl ha_l0 hf) N p1 p2 p3 p4 p5 p6 p7 (0 : Int32) (0 : Int32) X _ _ _ hP hS (lv_sub hl [2, 3, 4, 5, 6, 7, 8, 9, 1, 0] rfl) ha_l0 hf

set_option maxRecDepth 100000 in
set_option maxHeartbeats 4000000 in
theorem s_X10_reads_L11 {p : Program} {l : Launch} {e : Env} {s : State} {m : MethodId} {args : Array Value} {below : List Frame} {meth : Method} {c : Code} {D : va_G} {cA : Nat → ClassId} {ad : Nat → Nat → Nat} {NL : List (Nat × Nat)} {A : Nat → Prop} {rr : Int32} {XX : gM} {N : Nat} {k162 : Int32 → gM → Option (Int32 × gM)} (C : gCx p c meth m s args cX10_reads 10 none RX10 D cA ad NL A) (hW : gWf NL) (hD0 : gD (fun _ => True) ad NL) (hk162 : ∀ (p4 : Int32) (Y : gM) (H : Heap) (locs : List Loc) (ls : Array Slot), gH D cA ad NL Y H → va_S A s.heap H locs → lv_has ls 10 [(0, .ref (ad 43 0)), (4, .int p4)] → (43, 0) ∈ NL → k162 p4 Y = some (rr, XX) → W p l e rm_X10_reads s m args below meth c H locs 0 0 (MQ below (gQ D cA ad NL none XX A) args s 0 0 A) (F0 m 162 ls [])) : ∀ (n : Nat) (p1 : Int32) (p2 : Int32) (p3 : Int32) (p4 : Int32) (p5 : Int32) (X : gM) (H : Heap) (locs : List Loc) (ls : Array Slot), gH D cA ad NL X H → va_S A s.heap H locs → lv_has ls 10 [(0, .ref (ad 43 0)), (1, .int p1), (2, .int p2), (3, .int p3), (4, .int p4), (5, .int p5)] → (43, 0) ∈ NL → X10_reads_L11 (gal NL) N k162 n p1 p2 p3 p4 p5 X = some (rr, XX) → W p l e rm_X10_reads s m args below meth c H locs 0 0 (MQ below (gQ D cA ad NL none XX A) args s 0 0 A) (F0 m 11 ls []) := by
  have hx := C.1
  have hb := C.2.1
  intro n
  induction n with
  | zero =>
    intro p1 p2 p3 p4 p5 X H locs ls hP hS hl ha_l0 hf
    rw [X10_reads_L11] at hf
    cases hf
  | succ n ih =>
    intro p1 p2 p3 p4 p5 X H locs ls hP hS hl ha_l0 hf
    rw [X10_reads_L11] at hf
    refine lv_iload hx hb dX10_reads_11 (lv_at hl 5 rfl) ?_
    refine lv_iload hx hb dX10_reads_13 (lv_at hl 4 rfl) ?_
    refine lv_icmp_ge (tgt := 162) hx hb dX10_reads_15 (by decide) (fun c1 => ?_) (fun c1 => ?_)
    · have hf := g_ip c1 hf
      exact hk162 p4 X _ _ _ hP hS (lv_sub hl [0, 4] rfl) ha_l0 hf
    · have hf := g_in c1 hf
      refine lv_iload_n hx hb dX10_reads_18 rfl (lv_at hl 1 rfl) ?_
      refine lv_iload_n hx hb dX10_reads_19 rfl (lv_at hl 2 rfl) ?_
      refine lv_iload hx hb dX10_reads_20 (lv_at hl 5 rfl) ?_
      obtain ⟨r2, X3, h4, hf⟩ := b2_in hf
      refine r_cSi (rest := []) C hP hS hl.1 (s_X10_cellAt hW hD0  h4) ix_X10_cellAt is_X10_cellAt ls_X10_153 ⟨rfl, rfl, Nat.le_of_ble_eq_true rfl, Nat.le_of_ble_eq_true rfl⟩ rfl rfl (Nat.le_of_ble_eq_true rfl) ⟨Nat.zero_le _, Nat.zero_le _⟩ dX10_reads_22 (fun H locs hP hS => ?_)
      refine lv_istore (i := 6) (lv' := [(6, .int r2), (0, .ref (ad 43 0)), (1, .int p1), (2, .int p2), (3, .int p3), (4, .int p4), (5, .int p5)]) hx hb dX10_reads_25 hl (Nat.le_of_ble_eq_true rfl) rfl (fun ls hl => ?_)
      refine lv_aload_n hx hb dX10_reads_27 rfl (lv_at hl 1 rfl) ?_
      refine r_get C hP ha_l0 (ct_43 _ _ _ _) fx_X10_95 (fg_43_35 _ _ _) dX10_reads_28 ?_
      refine lv_iload hx hb dX10_reads_31 (lv_at hl 6 rfl) ?_
      refine lv_aload_n hx hb dX10_reads_33 rfl (lv_at hl 1 rfl) ?_
      refine lv_iload hx hb dX10_reads_34 (lv_at hl 0 rfl) ?_
      obtain ⟨r5, X6, h7, hf⟩ := b2_in hf
      refine r_cVi (rest := [.int p5, .ref (ad 72 0)]) C hP hS hl.1 (s_X10_isBlankCell hW hD0 ha_l0 h7) ix_X10_isBlankCell iv_X10_isBlankCell lk_X10_157 ⟨rfl, rfl, Nat.le_of_ble_eq_true rfl, Nat.le_of_ble_eq_true rfl⟩ ha_l0 (ct_43 _ _ _ _) rfl rfl rfl rfl (Nat.le_of_ble_eq_true rfl) ⟨Nat.zero_le _, Nat.zero_le _⟩ dX10_reads_36 (fun H locs hP hS => ?_)
      obtain ⟨j8, h9, hf⟩ := rd_in hf
      obtain ⟨h10, hf⟩ := bz_in hf
      refine r_zast C hP hS h10 (gs_43_35 hW ha_l0) (fun _ => ct_72 _ _ _ _) h9 dX10_reads_39 (fun H locs hP hS => ?_)
      obtain ⟨X11, e12, hf⟩ := gl_in hf
      rw [← e12] at hP
      refine lv_aload_n hx hb dX10_reads_40 rfl (lv_at hl 1 rfl) ?_
      refine r_get C hP ha_l0 (ct_43 _ _ _ _) fx_X10_101 (fg_43_37 _ _ _) dX10_reads_41 ?_
      refine lv_iload hx hb dX10_reads_44 (lv_at hl 6 rfl) ?_
      refine lv_iconst (v := 0) hx hb dX10_reads_46 (by decide) ?_
      obtain ⟨j13, h14, hf⟩ := rd_in hf
      refine r_iast C hP hS (gs_43_37 hW ha_l0) (fun _ => ct_74 _ _ _ _) h14 dX10_reads_47 (fun H locs hP hS => ?_)
      obtain ⟨X15, e16, hf⟩ := gl_in hf
      rw [← e16] at hP
      refine lv_iconst (v := 0) hx hb dX10_reads_48 (by decide) ?_
      refine lv_istore (i := 7) (lv' := [(7, .int (0 : Int32)), (6, .int r2), (0, .ref (ad 43 0)), (1, .int p1), (2, .int p2), (3, .int p3), (4, .int p4), (5, .int p5)]) hx hb dX10_reads_49 hl (Nat.le_of_ble_eq_true rfl) rfl (fun ls hl => ?_)
      exact s_X10_reads_L51 C hW hD0 (fun p1 p2 p3 p4 p5 Y H locs ls hP hS hl ha_l0 hf => s_X10_reads_J156 C hW hD0 ih hk162 p1 p2 p3 p4 p5 Y _ _ _ hP hS hl ha_l0 hf) N p1 p2 p3 p4 p5 r2 (0 : Int32) X15 _ _ _ hP hS (lv_sub hl [2, 3, 4, 5, 6, 7, 1, 0] rfl) ha_l0 hf

set_option maxRecDepth 100000 in
set_option maxHeartbeats 4000000 in
theorem w_X10_reads {p : Program} {l : Launch} {e : Env} {s : State} {m : MethodId} {args : Array Value} {below : List Frame} {meth : Method} {c : Code} {D : va_G} {cA : Nat → ClassId} {ad : Nat → Nat → Nat} {NL : List (Nat × Nat)} {A : Nat → Prop} {rr : Int32} {XX : gM} {N : Nat} (C : gCx p c meth m s args cX10_reads 10 none RX10 D cA ad NL A) (hW : gWf NL) (hD0 : gD (fun _ => True) ad NL) {p1 : Int32} {p2 : Int32} {p3 : Int32} (ha_l0 : (43, 0) ∈ NL) : ∀ (X : gM) (H : Heap) (locs : List Loc) (ls : Array Slot), gH D cA ad NL X H → va_S A s.heap H locs → lv_has ls 10 [(0, .ref (ad 43 0)), (1, .int p1), (2, .int p2), (3, .int p3)] → X10_reads (gal NL) N p1 p2 p3 X = some (rr, XX) → W p l e rm_X10_reads s m args below meth c H locs 0 0 (MQ below (gQ D cA ad NL none XX A) args s 0 0 A) (F0 m 0 ls []) := by
  have hx := C.1
  have hb := C.2.1
  intro X H locs ls hP hS hl hf
  rw [X10_reads] at hf
  refine lv_aload_n hx hb dX10_reads_0 rfl (lv_at hl 0 rfl) ?_
  refine r_get C hP ha_l0 (ct_43 _ _ _ _) fx_X10_16 (fg_43_3 _ _ _) dX10_reads_1 ?_
  refine lv_iload_n hx hb dX10_reads_4 rfl (lv_at hl 1 rfl) ?_
  obtain ⟨j1, h2, hf⟩ := rd_in hf
  refine r_iald C hP (gs_43_3 hW ha_l0) (ct_46 _ _ _ _) h2 dX10_reads_5 ?_
  refine g_top hf (fun v3 e4 hf => ?_)
  refine lv_istore (i := 4) (lv' := [(4, .int v3), (0, .ref (ad 43 0)), (1, .int p1), (2, .int p2), (3, .int p3)]) hx hb dX10_reads_6 hl (Nat.le_of_ble_eq_true rfl) rfl (fun ls hl => ?_)
  refine lv_iconst (v := 0) hx hb dX10_reads_8 (by decide) ?_
  refine lv_istore (i := 5) (lv' := [(5, .int (0 : Int32)), (4, .int v3), (0, .ref (ad 43 0)), (1, .int p1), (2, .int p2), (3, .int p3)]) hx hb dX10_reads_9 hl (Nat.le_of_ble_eq_true rfl) rfl (fun ls hl => ?_)
  exact s_X10_reads_L11 C hW hD0 (fun p4 Y H locs ls hP hS hl ha_l0 hf => s_X10_reads_J162 C hW hD0 p4 Y _ _ _ hP hS hl ha_l0 hf) N p1 p2 p3 v3 (0 : Int32) X _ _ _ hP hS (lv_sub hl [2, 3, 4, 5, 1, 0] rfl) ha_l0 hf

theorem s_X10_reads {l : Launch} {D : va_G} {cA : Nat → ClassId} {ad : Nat → Nat → Nat} {NL : List (Nat × Nat)} {N : Nat} {p1 : Int32} {p2 : Int32} {p3 : Int32} {X : gM} {rr : Int32} {XX : gM} (hW : gWf NL) (hD0 : gD (fun _ => True) ad NL) (ha_l0 : (43, 0) ∈ NL) (hf : X10_reads (gal NL) N p1 p2 p3 X = some (rr, XX)) : gC l yX10_reads cX10_reads 10 none rm_X10_reads D cA ad NL [.ref (ad 43 0), .int p1, .int p2, .int p3] X none XX :=
  g_ofW (by decide) hD0 (Nat.le_of_ble_eq_true rfl) rfl (fun p e s m below meth c ls C hP hS hl => w_X10_reads C hW hD0 ha_l0 X _ _ ls hP hS hl hf)
def rm_X10_asks : Room := { frames := 3, cells := 0, slots := 0, locals := 76 }
set_option maxRecDepth 100000 in
set_option maxHeartbeats 4000000 in
theorem s_X10_asks_J85 {p : Program} {l : Launch} {e : Env} {s : State} {m : MethodId} {args : Array Value} {below : List Frame} {meth : Method} {c : Code} {D : va_G} {cA : Nat → ClassId} {ad : Nat → Nat → Nat} {NL : List (Nat × Nat)} {A : Nat → Prop} {rr : Int32} {XX : gM} {N : Nat} (C : gCx p c meth m s args cX10_asks 4 (some .boolean) RX10 D cA ad NL A) (hW : gWf NL) (hD0 : gD (fun _ => True) ad NL) : ∀ (s0 : Int32) (X : gM) (H : Heap) (locs : List Loc) (ls : Array Slot), gH D cA ad NL X H → va_S A s.heap H locs → lv_has ls 4 [] → X10_asks_J85 (gal NL) N s0 X = some (rr, XX) → W p l e rm_X10_asks s m args below meth c H locs 0 0 (MQ below (gQ D cA ad NL (some (.int rr)) XX A) args s 0 0 A) (F0 m 85 ls [.int s0]) := by
  have hx := C.1
  have hb := C.2.1
  intro s0 X H locs ls hP hS hl hf
  rw [X10_asks_J85] at hf
  obtain ⟨h1, hf⟩ := bz_in hf
  obtain ⟨rfl, rfl⟩ := g_s1 hf
  exact r_zret C hP hS h1 dX10_asks_85

set_option maxRecDepth 100000 in
set_option maxHeartbeats 4000000 in
theorem s_X10_asks_J73 {p : Program} {l : Launch} {e : Env} {s : State} {m : MethodId} {args : Array Value} {below : List Frame} {meth : Method} {c : Code} {D : va_G} {cA : Nat → ClassId} {ad : Nat → Nat → Nat} {NL : List (Nat × Nat)} {A : Nat → Prop} {rr : Int32} {XX : gM} {N : Nat} (C : gCx p c meth m s args cX10_asks 4 (some .boolean) RX10 D cA ad NL A) (hW : gWf NL) (hD0 : gD (fun _ => True) ad NL) : ∀ (X : gM) (H : Heap) (locs : List Loc) (ls : Array Slot), gH D cA ad NL X H → va_S A s.heap H locs → lv_has ls 4 [(0, .ref (ad 43 0))] → (43, 0) ∈ NL → X10_asks_J73 (gal NL) N X = some (rr, XX) → W p l e rm_X10_asks s m args below meth c H locs 0 0 (MQ below (gQ D cA ad NL (some (.int rr)) XX A) args s 0 0 A) (F0 m 73 ls []) := by
  have hx := C.1
  have hb := C.2.1
  intro X H locs ls hP hS hl ha_l0 hf
  rw [X10_asks_J73] at hf
  refine lv_aload_n hx hb dX10_asks_73 rfl (lv_at hl 0 rfl) ?_
  refine r_get C hP ha_l0 (ct_43 _ _ _ _) fx_X10_122 (fg_43_46 _ _ _) dX10_asks_74 ?_
  refine lv_if_ne (tgt := 84) hx hb dX10_asks_77 (by decide) (fun c1 => ?_) (fun c1 => ?_)
  · have hf := g_in c1 hf
    refine lv_iconst (v := 0) hx hb dX10_asks_84 (by decide) ?_
    exact s_X10_asks_J85 C hW hD0 (0 : Int32) X _ _ _ hP hS (lv_sub hl [] rfl) hf
  · have hf := g_ip c1 hf
    refine lv_iconst (v := 1) hx hb dX10_asks_80 (by decide) ?_
    refine lv_goto (tgt := 85) hx hb dX10_asks_81 (by decide) ?_
    exact s_X10_asks_J85 C hW hD0 (1 : Int32) X _ _ _ hP hS (lv_sub hl [] rfl) hf

set_option maxRecDepth 100000 in
set_option maxHeartbeats 4000000 in
theorem s_X10_asks_J56 {p : Program} {l : Launch} {e : Env} {s : State} {m : MethodId} {args : Array Value} {below : List Frame} {meth : Method} {c : Code} {D : va_G} {cA : Nat → ClassId} {ad : Nat → Nat → Nat} {NL : List (Nat × Nat)} {A : Nat → Prop} {rr : Int32} {XX : gM} {N : Nat} (C : gCx p c meth m s args cX10_asks 4 (some .boolean) RX10 D cA ad NL A) (hW : gWf NL) (hD0 : gD (fun _ => True) ad NL) : ∀ (p1 : Int32) (p2 : Int32) (p3 : Int32) (s1 : Int32) (X : gM) (H : Heap) (locs : List Loc) (ls : Array Slot), gH D cA ad NL X H → va_S A s.heap H locs → lv_has ls 4 [(0, .ref (ad 43 0)), (1, .int p1), (2, .int p2), (3, .int p3)] → (43, 0) ∈ NL → (43, 0) ∈ NL → X10_asks_J56 (gal NL) N p1 p2 p3 s1 X = some (rr, XX) → W p l e rm_X10_asks s m args below meth c H locs 0 0 (MQ below (gQ D cA ad NL (some (.int rr)) XX A) args s 0 0 A) (F0 m 56 ls [.int s1, .ref (ad 43 0)]) := by
  have hx := C.1
  have hb := C.2.1
  intro p1 p2 p3 s1 X H locs ls hP hS hl ha_l0 ha_s0 hf
  rw [X10_asks_J56] at hf
  refine r_put C hP hS s1 ha_s0 (ct_43 _ _ _ _) px_X10_122 (fp_43_46 _ _ _ _ _) (Nat.le_of_ble_eq_true rfl) rfl rfl dX10_asks_56 (fun H locs hP hS => ?_)
  obtain ⟨X1, e2, hf⟩ := gl_in hf
  rw [← e2] at hP
  refine lv_aload_n hx hb dX10_asks_59 rfl (lv_at hl 0 rfl) ?_
  refine r_get C hP ha_l0 (ct_43 _ _ _ _) fx_X10_122 (fg_43_46 _ _ _) dX10_asks_60 ?_
  refine lv_if_ne (tgt := 73) hx hb dX10_asks_63 (by decide) (fun c3 => ?_) (fun c3 => ?_)
  · have hf := g_in c3 hf
    exact s_X10_asks_J73 C hW hD0 X1 _ _ _ hP hS (lv_sub hl [0] rfl) ha_l0 hf
  · have hf := g_ip c3 hf
    refine lv_aload_n hx hb dX10_asks_66 rfl (lv_at hl 0 rfl) ?_
    refine lv_iload_n hx hb dX10_asks_67 rfl (lv_at hl 1 rfl) ?_
    refine lv_iload_n hx hb dX10_asks_68 rfl (lv_at hl 2 rfl) ?_
    refine lv_iload_n hx hb dX10_asks_69 rfl (lv_at hl 3 rfl) ?_
    obtain ⟨r4, X5, h6, hf⟩ := b2_in hf
    refine r_cVv (rest := []) C hP hS hl.1 (s_X10_reads hW hD0 ha_l0 h6) ix_X10_reads iv_X10_reads lk_X10_179 ⟨rfl, rfl, Nat.le_of_ble_eq_true rfl, Nat.le_of_ble_eq_true rfl⟩ ha_l0 (ct_43 _ _ _ _) rfl rfl rfl rfl (Nat.le_of_ble_eq_true rfl) ⟨Nat.zero_le _, Nat.zero_le _⟩ dX10_asks_70 (fun H locs hP hS => ?_)
    exact s_X10_asks_J73 C hW hD0 X5 _ _ _ hP hS (lv_sub hl [0] rfl) ha_l0 hf

set_option maxRecDepth 100000 in
set_option maxHeartbeats 4000000 in
theorem s_X10_asks_J37 {p : Program} {l : Launch} {e : Env} {s : State} {m : MethodId} {args : Array Value} {below : List Frame} {meth : Method} {c : Code} {D : va_G} {cA : Nat → ClassId} {ad : Nat → Nat → Nat} {NL : List (Nat × Nat)} {A : Nat → Prop} {rr : Int32} {XX : gM} {N : Nat} (C : gCx p c meth m s args cX10_asks 4 (some .boolean) RX10 D cA ad NL A) (hW : gWf NL) (hD0 : gD (fun _ => True) ad NL) : ∀ (p1 : Int32) (p2 : Int32) (p3 : Int32) (X : gM) (H : Heap) (locs : List Loc) (ls : Array Slot), gH D cA ad NL X H → va_S A s.heap H locs → lv_has ls 4 [(0, .ref (ad 43 0)), (1, .int p1), (2, .int p2), (3, .int p3)] → (43, 0) ∈ NL → (43, 0) ∈ NL → X10_asks_J37 (gal NL) N p1 p2 p3 X = some (rr, XX) → W p l e rm_X10_asks s m args below meth c H locs 0 0 (MQ below (gQ D cA ad NL (some (.int rr)) XX A) args s 0 0 A) (F0 m 37 ls [.ref (ad 43 0)]) := by
  have hx := C.1
  have hb := C.2.1
  intro p1 p2 p3 X H locs ls hP hS hl ha_l0 ha_s0 hf
  rw [X10_asks_J37] at hf
  refine lv_iconst (v := 1) hx hb dX10_asks_37 (by decide) ?_
  refine lv_goto (tgt := 56) hx hb dX10_asks_38 (by decide) ?_
  exact s_X10_asks_J56 C hW hD0 p1 p2 p3 (1 : Int32) X _ _ _ hP hS (lv_sub hl [0, 1, 2, 3] rfl) ha_l0 ha_s0 hf

set_option maxRecDepth 100000 in
set_option maxHeartbeats 4000000 in
theorem s_X10_asks_J28 {p : Program} {l : Launch} {e : Env} {s : State} {m : MethodId} {args : Array Value} {below : List Frame} {meth : Method} {c : Code} {D : va_G} {cA : Nat → ClassId} {ad : Nat → Nat → Nat} {NL : List (Nat × Nat)} {A : Nat → Prop} {rr : Int32} {XX : gM} {N : Nat} (C : gCx p c meth m s args cX10_asks 4 (some .boolean) RX10 D cA ad NL A) (hW : gWf NL) (hD0 : gD (fun _ => True) ad NL) : ∀ (p1 : Int32) (p2 : Int32) (p3 : Int32) (s1 : Int32) (s2 : Int32) (s4 : Int32) (X : gM) (H : Heap) (locs : List Loc) (ls : Array Slot), gH D cA ad NL X H → va_S A s.heap H locs → lv_has ls 4 [(0, .ref (ad 43 0)), (1, .int p1), (2, .int p2), (3, .int p3)] → (43, 0) ∈ NL → (43, 0) ∈ NL → (45, 0) ∈ NL → X10_asks_J28 (gal NL) N p1 p2 p3 s1 s2 s4 X = some (rr, XX) → W p l e rm_X10_asks s m args below meth c H locs 0 0 (MQ below (gQ D cA ad NL (some (.int rr)) XX A) args s 0 0 A) (F0 m 28 ls [.int s4, .ref (ad 45 0), .int s2, .int s1, .ref (ad 43 0)]) := by
  have hx := C.1
  have hb := C.2.1
  intro p1 p2 p3 s1 s2 s4 X H locs ls hP hS hl ha_l0 ha_s0 ha_s3 hf
  rw [X10_asks_J28] at hf
  obtain ⟨j1, h2, hf⟩ := rd_in hf
  refine r_iald C hP ha_s3 (ct_45 _ _ _ _) h2 dX10_asks_28 ?_
  refine lv_iconst (v := 1) hx hb dX10_asks_29 (by decide) ?_
  refine lv_isub hx hb dX10_asks_30 ?_
  obtain ⟨r3, X4, h5, hf⟩ := b2_in hf
  refine r_cSi (rest := [.ref (ad 43 0)]) C hP hS hl.1 (s_X10_in hW hD0  h5) ix_X10_in is_X10_in ls_X10_129 ⟨rfl, rfl, Nat.le_of_ble_eq_true rfl, Nat.le_of_ble_eq_true rfl⟩ rfl rfl (Nat.le_of_ble_eq_true rfl) ⟨Nat.zero_le _, Nat.zero_le _⟩ dX10_asks_31 (fun H locs hP hS => ?_)
  refine lv_if_ne (tgt := 41) hx hb dX10_asks_34 (by decide) (fun c6 => ?_) (fun c6 => ?_)
  · have hf := g_in c6 hf
    refine lv_iload_n hx hb dX10_asks_41 rfl (lv_at hl 3 rfl) ?_
    refine lv_iconst (v := 0) hx hb dX10_asks_42 (by decide) ?_
    refine lv_bipush (v := 7) hx hb dX10_asks_43 (by decide) ?_
    obtain ⟨r7, X8, h9, hf⟩ := b2_in hf
    refine r_cSi (rest := [.ref (ad 43 0)]) C hP hS hl.1 (s_X10_in hW hD0  h9) ix_X10_in is_X10_in ls_X10_129 ⟨rfl, rfl, Nat.le_of_ble_eq_true rfl, Nat.le_of_ble_eq_true rfl⟩ rfl rfl (Nat.le_of_ble_eq_true rfl) ⟨Nat.zero_le _, Nat.zero_le _⟩ dX10_asks_45 (fun H locs hP hS => ?_)
    refine lv_if_ne (tgt := 55) hx hb dX10_asks_48 (by decide) (fun c10 => ?_) (fun c10 => ?_)
    · have hf := g_in c10 hf
      refine lv_iconst (v := 0) hx hb dX10_asks_55 (by decide) ?_
      exact s_X10_asks_J56 C hW hD0 p1 p2 p3 (0 : Int32) X8 _ _ _ hP hS (lv_sub hl [0, 1, 2, 3] rfl) ha_l0 ha_s0 hf
    · have hf := g_ip c10 hf
      refine lv_iconst (v := 2) hx hb dX10_asks_51 (by decide) ?_
      refine lv_goto (tgt := 56) hx hb dX10_asks_52 (by decide) ?_
      exact s_X10_asks_J56 C hW hD0 p1 p2 p3 (2 : Int32) X8 _ _ _ hP hS (lv_sub hl [0, 1, 2, 3] rfl) ha_l0 ha_s0 hf
  · have hf := g_ip c6 hf
    exact s_X10_asks_J37 C hW hD0 p1 p2 p3 X4 _ _ _ hP hS (lv_sub hl [0, 1, 2, 3] rfl) ha_l0 ha_s0 hf

set_option maxRecDepth 100000 in
set_option maxHeartbeats 4000000 in
theorem w_X10_asks {p : Program} {l : Launch} {e : Env} {s : State} {m : MethodId} {args : Array Value} {below : List Frame} {meth : Method} {c : Code} {D : va_G} {cA : Nat → ClassId} {ad : Nat → Nat → Nat} {NL : List (Nat × Nat)} {A : Nat → Prop} {rr : Int32} {XX : gM} {N : Nat} (C : gCx p c meth m s args cX10_asks 4 (some .boolean) RX10 D cA ad NL A) (hW : gWf NL) (hD0 : gD (fun _ => True) ad NL) {p1 : Int32} {p2 : Int32} {p3 : Int32} (ha_l0 : (43, 0) ∈ NL) : ∀ (X : gM) (H : Heap) (locs : List Loc) (ls : Array Slot), gH D cA ad NL X H → va_S A s.heap H locs → lv_has ls 4 [(0, .ref (ad 43 0)), (1, .int p1), (2, .int p2), (3, .int p3)] → X10_asks (gal NL) N p1 p2 p3 X = some (rr, XX) → W p l e rm_X10_asks s m args below meth c H locs 0 0 (MQ below (gQ D cA ad NL (some (.int rr)) XX A) args s 0 0 A) (F0 m 0 ls []) := by
  have hx := C.1
  have hb := C.2.1
  intro X H locs ls hP hS hl hf
  rw [X10_asks] at hf
  refine lv_aload_n hx hb dX10_asks_0 rfl (lv_at hl 0 rfl) ?_
  refine lv_aload_n hx hb dX10_asks_1 rfl (lv_at hl 0 rfl) ?_
  refine lv_iload_n hx hb dX10_asks_2 rfl (lv_at hl 1 rfl) ?_
  obtain ⟨r1, X2, h3, hf⟩ := b2_in hf
  refine r_cVi (rest := [.ref (ad 43 0)]) C hP hS hl.1 (s_X10_isLeaf hW hD0 ha_l0 h3) ix_X10_isLeaf iv_X10_isLeaf lk_X10_133 ⟨rfl, rfl, Nat.le_of_ble_eq_true rfl, Nat.le_of_ble_eq_true rfl⟩ ha_l0 (ct_43 _ _ _ _) rfl rfl rfl rfl (Nat.le_of_ble_eq_true rfl) ⟨Nat.zero_le _, Nat.zero_le _⟩ dX10_asks_3 (fun H locs hP hS => ?_)
  refine lv_if_eq (tgt := 37) hx hb dX10_asks_6 (by decide) (fun c4 => ?_) (fun c4 => ?_)
  · have hf := g_ip c4 hf
    exact s_X10_asks_J37 C hW hD0 p1 p2 p3 X2 _ _ _ hP hS (lv_sub hl [0, 1, 2, 3] rfl) ha_l0 ha_l0 hf
  · have hf := g_in c4 hf
    refine lv_iload_n hx hb dX10_asks_9 rfl (lv_at hl 2 rfl) ?_
    refine lv_iconst (v := 0) hx hb dX10_asks_10 (by decide) ?_
    refine lv_aload_n hx hb dX10_asks_11 rfl (lv_at hl 0 rfl) ?_
    refine r_get C hP ha_l0 (ct_43 _ _ _ _) fx_X10_13 (fg_43_2 _ _ _) dX10_asks_12 ?_
    refine lv_aload_n hx hb dX10_asks_15 rfl (lv_at hl 0 rfl) ?_
    refine lv_iload_n hx hb dX10_asks_16 rfl (lv_at hl 1 rfl) ?_
    obtain ⟨r5, X6, h7, hf⟩ := b2_in hf
    refine r_cVi (rest := [.ref (ad 45 0), .int (0 : Int32), .int p2, .ref (ad 43 0)]) C hP hS hl.1 (s_X10_isLeaf hW hD0 ha_l0 h7) ix_X10_isLeaf iv_X10_isLeaf lk_X10_133 ⟨rfl, rfl, Nat.le_of_ble_eq_true rfl, Nat.le_of_ble_eq_true rfl⟩ ha_l0 (ct_43 _ _ _ _) rfl rfl rfl rfl (Nat.le_of_ble_eq_true rfl) ⟨Nat.zero_le _, Nat.zero_le _⟩ dX10_asks_17 (fun H locs hP hS => ?_)
    refine lv_if_eq (tgt := 27) hx hb dX10_asks_20 (by decide) (fun c8 => ?_) (fun c8 => ?_)
    · have hf := g_ip c8 hf
      refine lv_iconst (v := 0) hx hb dX10_asks_27 (by decide) ?_
      exact s_X10_asks_J28 C hW hD0 p1 p2 p3 p2 (0 : Int32) (0 : Int32) X6 _ _ _ hP hS (lv_sub hl [0, 1, 2, 3] rfl) ha_l0 ha_l0 (gs_43_2 hW ha_l0) hf
    · have hf := g_in c8 hf
      refine lv_iload_n hx hb dX10_asks_23 rfl (lv_at hl 1 rfl) ?_
      refine lv_goto (tgt := 28) hx hb dX10_asks_24 (by decide) ?_
      exact s_X10_asks_J28 C hW hD0 p1 p2 p3 p2 (0 : Int32) p1 X6 _ _ _ hP hS (lv_sub hl [0, 1, 2, 3] rfl) ha_l0 ha_l0 (gs_43_2 hW ha_l0) hf

theorem s_X10_asks {l : Launch} {D : va_G} {cA : Nat → ClassId} {ad : Nat → Nat → Nat} {NL : List (Nat × Nat)} {N : Nat} {p1 : Int32} {p2 : Int32} {p3 : Int32} {X : gM} {rr : Int32} {XX : gM} (hW : gWf NL) (hD0 : gD (fun _ => True) ad NL) (ha_l0 : (43, 0) ∈ NL) (hf : X10_asks (gal NL) N p1 p2 p3 X = some (rr, XX)) : gC l yX10_asks cX10_asks 4 (some .boolean) rm_X10_asks D cA ad NL [.ref (ad 43 0), .int p1, .int p2, .int p3] X (some (.int rr)) XX :=
  g_ofW (by decide) hD0 (Nat.le_of_ble_eq_true rfl) rfl (fun p e s m below meth c ls C hP hS hl => w_X10_asks C hW hD0 ha_l0 X _ _ ls hP hS hl hf)
def rm_X10_weight : Room := { frames := 4, cells := 0, slots := 0, locals := 99 }
set_option maxRecDepth 100000 in
set_option maxHeartbeats 4000000 in
theorem s_X10_weight_J20 {p : Program} {l : Launch} {e : Env} {s : State} {m : MethodId} {args : Array Value} {below : List Frame} {meth : Method} {c : Code} {D : va_G} {cA : Nat → ClassId} {ad : Nat → Nat → Nat} {NL : List (Nat × Nat)} {A : Nat → Prop} {rr : Int32} {XX : gM} {N : Nat} (C : gCx p c meth m s args cX10_weight 4 (some .int) RX10 D cA ad NL A) (hW : gWf NL) (hD0 : gD (fun _ => True) ad NL) : ∀ (s0 : Int32) (X : gM) (H : Heap) (locs : List Loc) (ls : Array Slot), gH D cA ad NL X H → va_S A s.heap H locs → lv_has ls 4 [] → X10_weight_J20 (gal NL) N s0 X = some (rr, XX) → W p l e rm_X10_weight s m args below meth c H locs 0 0 (MQ below (gQ D cA ad NL (some (.int rr)) XX A) args s 0 0 A) (F0 m 20 ls [.int s0]) := by
  have hx := C.1
  have hb := C.2.1
  intro s0 X H locs ls hP hS hl hf
  rw [X10_weight_J20] at hf
  obtain ⟨rfl, rfl⟩ := g_s1 hf
  exact r_iret C hP hS dX10_weight_20

set_option maxRecDepth 100000 in
set_option maxHeartbeats 4000000 in
theorem w_X10_weight {p : Program} {l : Launch} {e : Env} {s : State} {m : MethodId} {args : Array Value} {below : List Frame} {meth : Method} {c : Code} {D : va_G} {cA : Nat → ClassId} {ad : Nat → Nat → Nat} {NL : List (Nat × Nat)} {A : Nat → Prop} {rr : Int32} {XX : gM} {N : Nat} (C : gCx p c meth m s args cX10_weight 4 (some .int) RX10 D cA ad NL A) (hW : gWf NL) (hD0 : gD (fun _ => True) ad NL) {p1 : Int32} {p2 : Int32} {p3 : Int32} (ha_l0 : (43, 0) ∈ NL) : ∀ (X : gM) (H : Heap) (locs : List Loc) (ls : Array Slot), gH D cA ad NL X H → va_S A s.heap H locs → lv_has ls 4 [(0, .ref (ad 43 0)), (1, .int p1), (2, .int p2), (3, .int p3)] → X10_weight (gal NL) N p1 p2 p3 X = some (rr, XX) → W p l e rm_X10_weight s m args below meth c H locs 0 0 (MQ below (gQ D cA ad NL (some (.int rr)) XX A) args s 0 0 A) (F0 m 0 ls []) := by
  have hx := C.1
  have hb := C.2.1
  intro X H locs ls hP hS hl hf
  rw [X10_weight] at hf
  refine lv_aload_n hx hb dX10_weight_0 rfl (lv_at hl 0 rfl) ?_
  refine lv_iload_n hx hb dX10_weight_1 rfl (lv_at hl 1 rfl) ?_
  refine lv_iload_n hx hb dX10_weight_2 rfl (lv_at hl 2 rfl) ?_
  refine lv_iload_n hx hb dX10_weight_3 rfl (lv_at hl 3 rfl) ?_
  obtain ⟨r1, X2, h3, hf⟩ := b2_in hf
  refine r_cVi (rest := []) C hP hS hl.1 (s_X10_asks hW hD0 ha_l0 h3) ix_X10_asks iv_X10_asks lk_X10_182 ⟨rfl, rfl, Nat.le_of_ble_eq_true rfl, Nat.le_of_ble_eq_true rfl⟩ ha_l0 (ct_43 _ _ _ _) rfl rfl rfl rfl (Nat.le_of_ble_eq_true rfl) ⟨Nat.zero_le _, Nat.zero_le _⟩ dX10_weight_4 (fun H locs hP hS => ?_)
  refine lv_if_eq (tgt := 19) hx hb dX10_weight_7 (by decide) (fun c4 => ?_) (fun c4 => ?_)
  · have hf := g_ip c4 hf
    refine lv_iconst (v := 0) hx hb dX10_weight_19 (by decide) ?_
    exact s_X10_weight_J20 C hW hD0 (0 : Int32) X2 _ _ _ hP hS (lv_sub hl [] rfl) hf
  · have hf := g_in c4 hf
    refine lv_aload_n hx hb dX10_weight_10 rfl (lv_at hl 0 rfl) ?_
    refine r_get C hP ha_l0 (ct_43 _ _ _ _) fx_X10_83 (fg_43_31 _ _ _) dX10_weight_11 ?_
    refine lv_iconst (v := 0) hx hb dX10_weight_14 (by decide) ?_
    obtain ⟨j5, h6, hf⟩ := rd_in hf
    refine r_iald C hP (gs_43_31 hW ha_l0) (ct_68 _ _ _ _) h6 dX10_weight_15 ?_
    refine lv_goto (tgt := 20) hx hb dX10_weight_16 (by decide) ?_
    exact s_X10_weight_J20 C hW hD0 ((X2 68 0 j5)) X2 _ _ _ hP hS (lv_sub hl [] rfl) hf

theorem s_X10_weight {l : Launch} {D : va_G} {cA : Nat → ClassId} {ad : Nat → Nat → Nat} {NL : List (Nat × Nat)} {N : Nat} {p1 : Int32} {p2 : Int32} {p3 : Int32} {X : gM} {rr : Int32} {XX : gM} (hW : gWf NL) (hD0 : gD (fun _ => True) ad NL) (ha_l0 : (43, 0) ∈ NL) (hf : X10_weight (gal NL) N p1 p2 p3 X = some (rr, XX)) : gC l yX10_weight cX10_weight 4 (some .int) rm_X10_weight D cA ad NL [.ref (ad 43 0), .int p1, .int p2, .int p3] X (some (.int rr)) XX :=
  g_ofW (by decide) hD0 (Nat.le_of_ble_eq_true rfl) rfl (fun p e s m below meth c ls C hP hS hl => w_X10_weight C hW hD0 ha_l0 X _ _ ls hP hS hl hf)
def rm_X10_readings : Room := { frames := 4, cells := 0, slots := 0, locals := 99 }
set_option maxRecDepth 100000 in
set_option maxHeartbeats 4000000 in
theorem s_X10_readings_J20 {p : Program} {l : Launch} {e : Env} {s : State} {m : MethodId} {args : Array Value} {below : List Frame} {meth : Method} {c : Code} {D : va_G} {cA : Nat → ClassId} {ad : Nat → Nat → Nat} {NL : List (Nat × Nat)} {A : Nat → Prop} {rr : Int32} {XX : gM} {N : Nat} (C : gCx p c meth m s args cX10_readings 4 (some .int) RX10 D cA ad NL A) (hW : gWf NL) (hD0 : gD (fun _ => True) ad NL) : ∀ (s0 : Int32) (X : gM) (H : Heap) (locs : List Loc) (ls : Array Slot), gH D cA ad NL X H → va_S A s.heap H locs → lv_has ls 4 [] → X10_readings_J20 (gal NL) N s0 X = some (rr, XX) → W p l e rm_X10_readings s m args below meth c H locs 0 0 (MQ below (gQ D cA ad NL (some (.int rr)) XX A) args s 0 0 A) (F0 m 20 ls [.int s0]) := by
  have hx := C.1
  have hb := C.2.1
  intro s0 X H locs ls hP hS hl hf
  rw [X10_readings_J20] at hf
  obtain ⟨rfl, rfl⟩ := g_s1 hf
  exact r_iret C hP hS dX10_readings_20

set_option maxRecDepth 100000 in
set_option maxHeartbeats 4000000 in
theorem w_X10_readings {p : Program} {l : Launch} {e : Env} {s : State} {m : MethodId} {args : Array Value} {below : List Frame} {meth : Method} {c : Code} {D : va_G} {cA : Nat → ClassId} {ad : Nat → Nat → Nat} {NL : List (Nat × Nat)} {A : Nat → Prop} {rr : Int32} {XX : gM} {N : Nat} (C : gCx p c meth m s args cX10_readings 4 (some .int) RX10 D cA ad NL A) (hW : gWf NL) (hD0 : gD (fun _ => True) ad NL) {p1 : Int32} {p2 : Int32} {p3 : Int32} (ha_l0 : (43, 0) ∈ NL) : ∀ (X : gM) (H : Heap) (locs : List Loc) (ls : Array Slot), gH D cA ad NL X H → va_S A s.heap H locs → lv_has ls 4 [(0, .ref (ad 43 0)), (1, .int p1), (2, .int p2), (3, .int p3)] → X10_readings (gal NL) N p1 p2 p3 X = some (rr, XX) → W p l e rm_X10_readings s m args below meth c H locs 0 0 (MQ below (gQ D cA ad NL (some (.int rr)) XX A) args s 0 0 A) (F0 m 0 ls []) := by
  have hx := C.1
  have hb := C.2.1
  intro X H locs ls hP hS hl hf
  rw [X10_readings] at hf
  refine lv_aload_n hx hb dX10_readings_0 rfl (lv_at hl 0 rfl) ?_
  refine lv_iload_n hx hb dX10_readings_1 rfl (lv_at hl 1 rfl) ?_
  refine lv_iload_n hx hb dX10_readings_2 rfl (lv_at hl 2 rfl) ?_
  refine lv_iload_n hx hb dX10_readings_3 rfl (lv_at hl 3 rfl) ?_
  obtain ⟨r1, X2, h3, hf⟩ := b2_in hf
  refine r_cVi (rest := []) C hP hS hl.1 (s_X10_asks hW hD0 ha_l0 h3) ix_X10_asks iv_X10_asks lk_X10_182 ⟨rfl, rfl, Nat.le_of_ble_eq_true rfl, Nat.le_of_ble_eq_true rfl⟩ ha_l0 (ct_43 _ _ _ _) rfl rfl rfl rfl (Nat.le_of_ble_eq_true rfl) ⟨Nat.zero_le _, Nat.zero_le _⟩ dX10_readings_4 (fun H locs hP hS => ?_)
  refine lv_if_eq (tgt := 19) hx hb dX10_readings_7 (by decide) (fun c4 => ?_) (fun c4 => ?_)
  · have hf := g_ip c4 hf
    refine lv_iconst (v := 0) hx hb dX10_readings_19 (by decide) ?_
    exact s_X10_readings_J20 C hW hD0 (0 : Int32) X2 _ _ _ hP hS (lv_sub hl [] rfl) hf
  · have hf := g_in c4 hf
    refine lv_aload_n hx hb dX10_readings_10 rfl (lv_at hl 0 rfl) ?_
    refine r_get C hP ha_l0 (ct_43 _ _ _ _) fx_X10_89 (fg_43_33 _ _ _) dX10_readings_11 ?_
    refine lv_iconst (v := 0) hx hb dX10_readings_14 (by decide) ?_
    obtain ⟨j5, h6, hf⟩ := rd_in hf
    refine r_iald C hP (gs_43_33 hW ha_l0) (ct_70 _ _ _ _) h6 dX10_readings_15 ?_
    refine lv_goto (tgt := 20) hx hb dX10_readings_16 (by decide) ?_
    exact s_X10_readings_J20 C hW hD0 ((X2 70 0 j5)) X2 _ _ _ hP hS (lv_sub hl [] rfl) hf

theorem s_X10_readings {l : Launch} {D : va_G} {cA : Nat → ClassId} {ad : Nat → Nat → Nat} {NL : List (Nat × Nat)} {N : Nat} {p1 : Int32} {p2 : Int32} {p3 : Int32} {X : gM} {rr : Int32} {XX : gM} (hW : gWf NL) (hD0 : gD (fun _ => True) ad NL) (ha_l0 : (43, 0) ∈ NL) (hf : X10_readings (gal NL) N p1 p2 p3 X = some (rr, XX)) : gC l yX10_readings cX10_readings 4 (some .int) rm_X10_readings D cA ad NL [.ref (ad 43 0), .int p1, .int p2, .int p3] X (some (.int rr)) XX :=
  g_ofW (by decide) hD0 (Nat.le_of_ble_eq_true rfl) rfl (fun p e s m below meth c ls C hP hS hl => w_X10_readings C hW hD0 ha_l0 X _ _ ls hP hS hl hf)
def rm_X10_letter : Room := { frames := 3, cells := 0, slots := 0, locals := 76 }
set_option maxRecDepth 100000 in
set_option maxHeartbeats 4000000 in
theorem s_X10_letter_J71 {p : Program} {l : Launch} {e : Env} {s : State} {m : MethodId} {args : Array Value} {below : List Frame} {meth : Method} {c : Code} {D : va_G} {cA : Nat → ClassId} {ad : Nat → Nat → Nat} {NL : List (Nat × Nat)} {A : Nat → Prop} {rr : Int32} {XX : gM} {N : Nat} (C : gCx p c meth m s args cX10_letter 5 (some .int) RX10 D cA ad NL A) (hW : gWf NL) (hD0 : gD (fun _ => True) ad NL) : ∀ (s0 : Int32) (X : gM) (H : Heap) (locs : List Loc) (ls : Array Slot), gH D cA ad NL X H → va_S A s.heap H locs → lv_has ls 5 [] → X10_letter_J71 (gal NL) N s0 X = some (rr, XX) → W p l e rm_X10_letter s m args below meth c H locs 0 0 (MQ below (gQ D cA ad NL (some (.int rr)) XX A) args s 0 0 A) (F0 m 71 ls [.int s0]) := by
  have hx := C.1
  have hb := C.2.1
  intro s0 X H locs ls hP hS hl hf
  rw [X10_letter_J71] at hf
  obtain ⟨rfl, rfl⟩ := g_s1 hf
  exact r_iret C hP hS dX10_letter_71

set_option maxRecDepth 100000 in
set_option maxHeartbeats 4000000 in
theorem s_X10_letter_J31 {p : Program} {l : Launch} {e : Env} {s : State} {m : MethodId} {args : Array Value} {below : List Frame} {meth : Method} {c : Code} {D : va_G} {cA : Nat → ClassId} {ad : Nat → Nat → Nat} {NL : List (Nat × Nat)} {A : Nat → Prop} {rr : Int32} {XX : gM} {N : Nat} (C : gCx p c meth m s args cX10_letter 5 (some .int) RX10 D cA ad NL A) (hW : gWf NL) (hD0 : gD (fun _ => True) ad NL) : ∀ (p1 : Int32) (p2 : Int32) (p3 : Int32) (p4 : Int32) (s1 : Int32) (X : gM) (H : Heap) (locs : List Loc) (ls : Array Slot), gH D cA ad NL X H → va_S A s.heap H locs → lv_has ls 5 [(0, .ref (ad 43 0)), (1, .int p1), (2, .int p2), (3, .int p3), (4, .int p4)] → (43, 0) ∈ NL → (43, 0) ∈ NL → X10_letter_J31 (gal NL) N p1 p2 p3 p4 s1 X = some (rr, XX) → W p l e rm_X10_letter s m args below meth c H locs 0 0 (MQ below (gQ D cA ad NL (some (.int rr)) XX A) args s 0 0 A) (F0 m 31 ls [.int s1, .ref (ad 43 0)]) := by
  have hx := C.1
  have hb := C.2.1
  intro p1 p2 p3 p4 s1 X H locs ls hP hS hl ha_l0 ha_s0 hf
  rw [X10_letter_J31] at hf
  refine r_put C hP hS s1 ha_s0 (ct_43 _ _ _ _) px_X10_122 (fp_43_46 _ _ _ _ _) (Nat.le_of_ble_eq_true rfl) rfl rfl dX10_letter_31 (fun H locs hP hS => ?_)
  obtain ⟨X1, e2, hf⟩ := gl_in hf
  rw [← e2] at hP
  refine lv_aload_n hx hb dX10_letter_34 rfl (lv_at hl 0 rfl) ?_
  refine r_get C hP ha_l0 (ct_43 _ _ _ _) fx_X10_122 (fg_43_46 _ _ _) dX10_letter_35 ?_
  refine lv_if_le (tgt := 43) hx hb dX10_letter_38 (by decide) (fun c3 => ?_) (fun c3 => ?_)
  · have hf := g_ip c3 hf
    refine lv_aload_n hx hb dX10_letter_43 rfl (lv_at hl 0 rfl) ?_
    refine lv_iload_n hx hb dX10_letter_44 rfl (lv_at hl 1 rfl) ?_
    refine lv_iload_n hx hb dX10_letter_45 rfl (lv_at hl 2 rfl) ?_
    refine lv_iload hx hb dX10_letter_46 (lv_at hl 4 rfl) ?_
    obtain ⟨r4, X5, h6, hf⟩ := b2_in hf
    refine r_cVv (rest := []) C hP hS hl.1 (s_X10_reads hW hD0 ha_l0 h6) ix_X10_reads iv_X10_reads lk_X10_179 ⟨rfl, rfl, Nat.le_of_ble_eq_true rfl, Nat.le_of_ble_eq_true rfl⟩ ha_l0 (ct_43 _ _ _ _) rfl rfl rfl rfl (Nat.le_of_ble_eq_true rfl) ⟨Nat.zero_le _, Nat.zero_le _⟩ dX10_letter_48 (fun H locs hP hS => ?_)
    refine lv_aload_n hx hb dX10_letter_51 rfl (lv_at hl 0 rfl) ?_
    refine r_get C hP ha_l0 (ct_43 _ _ _ _) fx_X10_83 (fg_43_31 _ _ _) dX10_letter_52 ?_
    refine lv_iconst (v := 0) hx hb dX10_letter_55 (by decide) ?_
    obtain ⟨j7, h8, hf⟩ := rd_in hf
    refine r_iald C hP (gs_43_31 hW ha_l0) (ct_68 _ _ _ _) h8 dX10_letter_56 ?_
    refine lv_iconst (v := -1) hx hb dX10_letter_57 (by decide) ?_
    refine lv_icmp_ne (tgt := 65) hx hb dX10_letter_58 (by decide) (fun c9 => ?_) (fun c9 => ?_)
    · have hf := g_in c9 hf
      refine lv_aload_n hx hb dX10_letter_65 rfl (lv_at hl 0 rfl) ?_
      refine r_get C hP ha_l0 (ct_43 _ _ _ _) fx_X10_92 (fg_43_34 _ _ _) dX10_letter_66 ?_
      refine lv_iload_n hx hb dX10_letter_69 rfl (lv_at hl 3 rfl) ?_
      obtain ⟨j10, h11, hf⟩ := rd_in hf
      refine r_iald C hP (gs_43_34 hW ha_l0) (ct_71 _ _ _ _) h11 dX10_letter_70 ?_
      exact s_X10_letter_J71 C hW hD0 ((X5 71 0 j10)) X5 _ _ _ hP hS (lv_sub hl [] rfl) hf
    · have hf := g_ip c9 hf
      refine lv_iconst (v := -1) hx hb dX10_letter_61 (by decide) ?_
      refine lv_goto (tgt := 71) hx hb dX10_letter_62 (by decide) ?_
      exact s_X10_letter_J71 C hW hD0 (-1 : Int32) X5 _ _ _ hP hS (lv_sub hl [] rfl) hf
  · have hf := g_in c3 hf
    refine lv_iconst (v := 0) hx hb dX10_letter_41 (by decide) ?_
    obtain ⟨rfl, rfl⟩ := g_s1 hf
    exact r_iret C hP hS dX10_letter_42

set_option maxRecDepth 100000 in
set_option maxHeartbeats 4000000 in
theorem w_X10_letter {p : Program} {l : Launch} {e : Env} {s : State} {m : MethodId} {args : Array Value} {below : List Frame} {meth : Method} {c : Code} {D : va_G} {cA : Nat → ClassId} {ad : Nat → Nat → Nat} {NL : List (Nat × Nat)} {A : Nat → Prop} {rr : Int32} {XX : gM} {N : Nat} (C : gCx p c meth m s args cX10_letter 5 (some .int) RX10 D cA ad NL A) (hW : gWf NL) (hD0 : gD (fun _ => True) ad NL) {p1 : Int32} {p2 : Int32} {p3 : Int32} {p4 : Int32} (ha_l0 : (43, 0) ∈ NL) : ∀ (X : gM) (H : Heap) (locs : List Loc) (ls : Array Slot), gH D cA ad NL X H → va_S A s.heap H locs → lv_has ls 5 [(0, .ref (ad 43 0)), (1, .int p1), (2, .int p2), (3, .int p3), (4, .int p4)] → X10_letter (gal NL) N p1 p2 p3 p4 X = some (rr, XX) → W p l e rm_X10_letter s m args below meth c H locs 0 0 (MQ below (gQ D cA ad NL (some (.int rr)) XX A) args s 0 0 A) (F0 m 0 ls []) := by
  have hx := C.1
  have hb := C.2.1
  intro X H locs ls hP hS hl hf
  rw [X10_letter] at hf
  refine lv_aload_n hx hb dX10_letter_0 rfl (lv_at hl 0 rfl) ?_
  refine lv_aload_n hx hb dX10_letter_1 rfl (lv_at hl 0 rfl) ?_
  refine lv_iload_n hx hb dX10_letter_2 rfl (lv_at hl 1 rfl) ?_
  refine lv_iload_n hx hb dX10_letter_3 rfl (lv_at hl 2 rfl) ?_
  refine lv_iload_n hx hb dX10_letter_4 rfl (lv_at hl 3 rfl) ?_
  obtain ⟨r1, X2, h3, hf⟩ := b2_in hf
  refine r_cVi (rest := [.ref (ad 43 0)]) C hP hS hl.1 (s_X10_isCell hW hD0 ha_l0 h3) ix_X10_isCell iv_X10_isCell lk_X10_150 ⟨rfl, rfl, Nat.le_of_ble_eq_true rfl, Nat.le_of_ble_eq_true rfl⟩ ha_l0 (ct_43 _ _ _ _) rfl rfl rfl rfl (Nat.le_of_ble_eq_true rfl) ⟨Nat.zero_le _, Nat.zero_le _⟩ dX10_letter_5 (fun H locs hP hS => ?_)
  refine lv_if_ne (tgt := 15) hx hb dX10_letter_8 (by decide) (fun c4 => ?_) (fun c4 => ?_)
  · have hf := g_in c4 hf
    refine lv_iload hx hb dX10_letter_15 (lv_at hl 4 rfl) ?_
    refine lv_iconst (v := 0) hx hb dX10_letter_17 (by decide) ?_
    refine lv_bipush (v := 7) hx hb dX10_letter_18 (by decide) ?_
    obtain ⟨r5, X6, h7, hf⟩ := b2_in hf
    refine r_cSi (rest := [.ref (ad 43 0)]) C hP hS hl.1 (s_X10_in hW hD0  h7) ix_X10_in is_X10_in ls_X10_129 ⟨rfl, rfl, Nat.le_of_ble_eq_true rfl, Nat.le_of_ble_eq_true rfl⟩ rfl rfl (Nat.le_of_ble_eq_true rfl) ⟨Nat.zero_le _, Nat.zero_le _⟩ dX10_letter_20 (fun H locs hP hS => ?_)
    refine lv_if_ne (tgt := 30) hx hb dX10_letter_23 (by decide) (fun c8 => ?_) (fun c8 => ?_)
    · have hf := g_in c8 hf
      refine lv_iconst (v := 0) hx hb dX10_letter_30 (by decide) ?_
      exact s_X10_letter_J31 C hW hD0 p1 p2 p3 p4 (0 : Int32) X6 _ _ _ hP hS (lv_sub hl [0, 1, 2, 3, 4] rfl) ha_l0 ha_l0 hf
    · have hf := g_ip c8 hf
      refine lv_iconst (v := 2) hx hb dX10_letter_26 (by decide) ?_
      refine lv_goto (tgt := 31) hx hb dX10_letter_27 (by decide) ?_
      exact s_X10_letter_J31 C hW hD0 p1 p2 p3 p4 (2 : Int32) X6 _ _ _ hP hS (lv_sub hl [0, 1, 2, 3, 4] rfl) ha_l0 ha_l0 hf
  · have hf := g_ip c4 hf
    refine lv_iconst (v := 1) hx hb dX10_letter_11 (by decide) ?_
    refine lv_goto (tgt := 31) hx hb dX10_letter_12 (by decide) ?_
    exact s_X10_letter_J31 C hW hD0 p1 p2 p3 p4 (1 : Int32) X2 _ _ _ hP hS (lv_sub hl [0, 1, 2, 3, 4] rfl) ha_l0 ha_l0 hf

theorem s_X10_letter {l : Launch} {D : va_G} {cA : Nat → ClassId} {ad : Nat → Nat → Nat} {NL : List (Nat × Nat)} {N : Nat} {p1 : Int32} {p2 : Int32} {p3 : Int32} {p4 : Int32} {X : gM} {rr : Int32} {XX : gM} (hW : gWf NL) (hD0 : gD (fun _ => True) ad NL) (ha_l0 : (43, 0) ∈ NL) (hf : X10_letter (gal NL) N p1 p2 p3 p4 X = some (rr, XX)) : gC l yX10_letter cX10_letter 5 (some .int) rm_X10_letter D cA ad NL [.ref (ad 43 0), .int p1, .int p2, .int p3, .int p4] X (some (.int rr)) XX :=
  g_ofW (by decide) hD0 (Nat.le_of_ble_eq_true rfl) rfl (fun p e s m below meth c ls C hP hS hl => w_X10_letter C hW hD0 ha_l0 X _ _ ls hP hS hl hf)
def rm_X10_fact : Room := { frames := 2, cells := 0, slots := 0, locals := 43 }
set_option maxRecDepth 100000 in
set_option maxHeartbeats 4000000 in
theorem s_X10_fact_J134 {p : Program} {l : Launch} {e : Env} {s : State} {m : MethodId} {args : Array Value} {below : List Frame} {meth : Method} {c : Code} {D : va_G} {cA : Nat → ClassId} {ad : Nat → Nat → Nat} {NL : List (Nat × Nat)} {A : Nat → Prop} {rr : Int32} {XX : gM} {N : Nat} (C : gCx p c meth m s args cX10_fact 7 (some .int) RX10 D cA ad NL A) (hW : gWf NL) (hD0 : gD (fun _ => True) ad NL) : ∀ (p1 : Int32) (p2 : Int32) (p3 : Int32) (p4 : Int32) (s1 : Int32) (X : gM) (H : Heap) (locs : List Loc) (ls : Array Slot), gH D cA ad NL X H → va_S A s.heap H locs → lv_has ls 7 [(0, .ref (ad 43 0)), (1, .int p1), (2, .int p2), (3, .int p3), (4, .int p4)] → (43, 0) ∈ NL → (43, 0) ∈ NL → X10_fact_J134 (gal NL) N p1 p2 p3 p4 s1 X = some (rr, XX) → W p l e rm_X10_fact s m args below meth c H locs 0 0 (MQ below (gQ D cA ad NL (some (.int rr)) XX A) args s 0 0 A) (F0 m 134 ls [.int s1, .ref (ad 43 0)]) := by
  have hx := C.1
  have hb := C.2.1
  intro p1 p2 p3 p4 s1 X H locs ls hP hS hl ha_l0 ha_s0 hf
  rw [X10_fact_J134] at hf
  refine r_put C hP hS s1 ha_s0 (ct_43 _ _ _ _) px_X10_122 (fp_43_46 _ _ _ _ _) (Nat.le_of_ble_eq_true rfl) rfl rfl dX10_fact_134 (fun H locs hP hS => ?_)
  obtain ⟨X1, e2, hf⟩ := gl_in hf
  rw [← e2] at hP
  refine lv_aload_n hx hb dX10_fact_137 rfl (lv_at hl 0 rfl) ?_
  refine r_get C hP ha_l0 (ct_43 _ _ _ _) fx_X10_122 (fg_43_46 _ _ _) dX10_fact_138 ?_
  refine lv_if_le (tgt := 146) hx hb dX10_fact_141 (by decide) (fun c3 => ?_) (fun c3 => ?_)
  · have hf := g_ip c3 hf
    refine lv_aload_n hx hb dX10_fact_146 rfl (lv_at hl 0 rfl) ?_
    refine r_get C hP ha_l0 (ct_43 _ _ _ _) fx_X10_67 (fg_43_24 _ _ _) dX10_fact_147 ?_
    refine lv_aload_n hx hb dX10_fact_150 rfl (lv_at hl 0 rfl) ?_
    refine r_get C hP ha_l0 (ct_43 _ _ _ _) fx_X10_185 (fg_43_23 _ _ _) dX10_fact_151 ?_
    refine lv_iload_n hx hb dX10_fact_154 rfl (lv_at hl 1 rfl) ?_
    obtain ⟨j4, h5, hf⟩ := rd_in hf
    refine r_iast C hP hS (gs_43_24 hW ha_l0) (fun _ => ct_63 _ _ _ _) h5 dX10_fact_155 (fun H locs hP hS => ?_)
    obtain ⟨X6, e7, hf⟩ := gl_in hf
    rw [← e7] at hP
    refine lv_aload_n hx hb dX10_fact_156 rfl (lv_at hl 0 rfl) ?_
    refine r_get C hP ha_l0 (ct_43 _ _ _ _) fx_X10_70 (fg_43_25 _ _ _) dX10_fact_157 ?_
    refine lv_aload_n hx hb dX10_fact_160 rfl (lv_at hl 0 rfl) ?_
    refine r_get C hP ha_l0 (ct_43 _ _ _ _) fx_X10_185 (fg_43_23 _ _ _) dX10_fact_161 ?_
    refine lv_iload_n hx hb dX10_fact_164 rfl (lv_at hl 2 rfl) ?_
    obtain ⟨j8, h9, hf⟩ := rd_in hf
    refine r_iast C hP hS (gs_43_25 hW ha_l0) (fun _ => ct_64 _ _ _ _) h9 dX10_fact_165 (fun H locs hP hS => ?_)
    obtain ⟨X10, e11, hf⟩ := gl_in hf
    rw [← e11] at hP
    refine lv_aload_n hx hb dX10_fact_166 rfl (lv_at hl 0 rfl) ?_
    refine r_get C hP ha_l0 (ct_43 _ _ _ _) fx_X10_73 (fg_43_26 _ _ _) dX10_fact_167 ?_
    refine lv_aload_n hx hb dX10_fact_170 rfl (lv_at hl 0 rfl) ?_
    refine r_get C hP ha_l0 (ct_43 _ _ _ _) fx_X10_185 (fg_43_23 _ _ _) dX10_fact_171 ?_
    refine lv_iload_n hx hb dX10_fact_174 rfl (lv_at hl 3 rfl) ?_
    obtain ⟨j12, h13, hf⟩ := rd_in hf
    refine r_iast C hP hS (gs_43_26 hW ha_l0) (fun _ => ct_65 _ _ _ _) h13 dX10_fact_175 (fun H locs hP hS => ?_)
    obtain ⟨X14, e15, hf⟩ := gl_in hf
    rw [← e15] at hP
    refine lv_aload_n hx hb dX10_fact_176 rfl (lv_at hl 0 rfl) ?_
    refine r_get C hP ha_l0 (ct_43 _ _ _ _) fx_X10_76 (fg_43_27 _ _ _) dX10_fact_177 ?_
    refine lv_aload_n hx hb dX10_fact_180 rfl (lv_at hl 0 rfl) ?_
    refine r_get C hP ha_l0 (ct_43 _ _ _ _) fx_X10_185 (fg_43_23 _ _ _) dX10_fact_181 ?_
    refine lv_iload hx hb dX10_fact_184 (lv_at hl 4 rfl) ?_
    obtain ⟨j16, h17, hf⟩ := rd_in hf
    obtain ⟨h18, hf⟩ := bz_in hf
    refine r_zast C hP hS h18 (gs_43_27 hW ha_l0) (fun _ => ct_66 _ _ _ _) h17 dX10_fact_186 (fun H locs hP hS => ?_)
    obtain ⟨X19, e20, hf⟩ := gl_in hf
    rw [← e20] at hP
    refine lv_aload_n hx hb dX10_fact_187 rfl (lv_at hl 0 rfl) ?_
    refine r_get C hP ha_l0 (ct_43 _ _ _ _) fx_X10_80 (fg_43_28 _ _ _) dX10_fact_188 ?_
    refine lv_aload_n hx hb dX10_fact_191 rfl (lv_at hl 0 rfl) ?_
    refine r_get C hP ha_l0 (ct_43 _ _ _ _) fx_X10_185 (fg_43_23 _ _ _) dX10_fact_192 ?_
    refine lv_iconst (v := 1) hx hb dX10_fact_195 (by decide) ?_
    obtain ⟨j21, h22, hf⟩ := rd_in hf
    refine r_zast C hP hS (by decide) (gs_43_28 hW ha_l0) (fun _ => ct_67 _ _ _ _) h22 dX10_fact_196 (fun H locs hP hS => ?_)
    obtain ⟨X23, e24, hf⟩ := gl_in hf
    rw [← e24] at hP
    refine lv_aload_n hx hb dX10_fact_197 rfl (lv_at hl 0 rfl) ?_
    refine lv_dup hx hb dX10_fact_198 rfl ?_
    refine r_get C hP ha_l0 (ct_43 _ _ _ _) fx_X10_185 (fg_43_23 _ _ _) dX10_fact_199 ?_
    refine lv_iconst (v := 1) hx hb dX10_fact_202 (by decide) ?_
    refine lv_iadd hx hb dX10_fact_203 ?_
    refine r_put C hP hS ((X23 43 0 23) + (1 : Int32)) ha_l0 (ct_43 _ _ _ _) px_X10_185 (fp_43_23 _ _ _ _ _) (Nat.le_of_ble_eq_true rfl) rfl rfl dX10_fact_204 (fun H locs hP hS => ?_)
    obtain ⟨X25, e26, hf⟩ := gl_in hf
    rw [← e26] at hP
    refine lv_aload_n hx hb dX10_fact_207 rfl (lv_at hl 0 rfl) ?_
    refine r_get C hP ha_l0 (ct_43 _ _ _ _) fx_X10_185 (fg_43_23 _ _ _) dX10_fact_208 ?_
    refine lv_iconst (v := 1) hx hb dX10_fact_211 (by decide) ?_
    refine lv_isub hx hb dX10_fact_212 ?_
    obtain ⟨rfl, rfl⟩ := g_s1 hf
    exact r_iret C hP hS dX10_fact_213
  · have hf := g_in c3 hf
    refine lv_iconst (v := 0) hx hb dX10_fact_144 (by decide) ?_
    obtain ⟨rfl, rfl⟩ := g_s1 hf
    exact r_iret C hP hS dX10_fact_145

set_option maxRecDepth 100000 in
set_option maxHeartbeats 4000000 in
theorem s_X10_fact_J120 {p : Program} {l : Launch} {e : Env} {s : State} {m : MethodId} {args : Array Value} {below : List Frame} {meth : Method} {c : Code} {D : va_G} {cA : Nat → ClassId} {ad : Nat → Nat → Nat} {NL : List (Nat × Nat)} {A : Nat → Prop} {rr : Int32} {XX : gM} {N : Nat} (C : gCx p c meth m s args cX10_fact 7 (some .int) RX10 D cA ad NL A) (hW : gWf NL) (hD0 : gD (fun _ => True) ad NL) : ∀ (p1 : Int32) (p2 : Int32) (p3 : Int32) (p4 : Int32) (X : gM) (H : Heap) (locs : List Loc) (ls : Array Slot), gH D cA ad NL X H → va_S A s.heap H locs → lv_has ls 7 [(0, .ref (ad 43 0)), (1, .int p1), (2, .int p2), (3, .int p3), (4, .int p4)] → (43, 0) ∈ NL → (43, 0) ∈ NL → X10_fact_J120 (gal NL) N p1 p2 p3 p4 X = some (rr, XX) → W p l e rm_X10_fact s m args below meth c H locs 0 0 (MQ below (gQ D cA ad NL (some (.int rr)) XX A) args s 0 0 A) (F0 m 120 ls [.ref (ad 43 0)]) := by
  have hx := C.1
  have hb := C.2.1
  intro p1 p2 p3 p4 X H locs ls hP hS hl ha_l0 ha_s0 hf
  rw [X10_fact_J120] at hf
  refine lv_aload_n hx hb dX10_fact_120 rfl (lv_at hl 0 rfl) ?_
  refine r_get C hP ha_l0 (ct_43 _ _ _ _) fx_X10_185 (fg_43_23 _ _ _) dX10_fact_121 ?_
  refine lv_bipush (v := 12) hx hb dX10_fact_124 (by decide) ?_
  refine lv_icmp_ne (tgt := 133) hx hb dX10_fact_126 (by decide) (fun c1 => ?_) (fun c1 => ?_)
  · have hf := g_in c1 hf
    refine lv_iconst (v := 0) hx hb dX10_fact_133 (by decide) ?_
    exact s_X10_fact_J134 C hW hD0 p1 p2 p3 p4 (0 : Int32) X _ _ _ hP hS (lv_sub hl [0, 1, 2, 3, 4] rfl) ha_l0 ha_s0 hf
  · have hf := g_ip c1 hf
    refine lv_iconst (v := 3) hx hb dX10_fact_129 (by decide) ?_
    refine lv_goto (tgt := 134) hx hb dX10_fact_130 (by decide) ?_
    exact s_X10_fact_J134 C hW hD0 p1 p2 p3 p4 (3 : Int32) X _ _ _ hP hS (lv_sub hl [0, 1, 2, 3, 4] rfl) ha_l0 ha_s0 hf

set_option maxRecDepth 100000 in
set_option maxHeartbeats 4000000 in
theorem s_X10_fact_J116 {p : Program} {l : Launch} {e : Env} {s : State} {m : MethodId} {args : Array Value} {below : List Frame} {meth : Method} {c : Code} {D : va_G} {cA : Nat → ClassId} {ad : Nat → Nat → Nat} {NL : List (Nat × Nat)} {A : Nat → Prop} {rr : Int32} {XX : gM} {N : Nat} (C : gCx p c meth m s args cX10_fact 7 (some .int) RX10 D cA ad NL A) (hW : gWf NL) (hD0 : gD (fun _ => True) ad NL) : ∀ (p1 : Int32) (p2 : Int32) (p3 : Int32) (p4 : Int32) (X : gM) (H : Heap) (locs : List Loc) (ls : Array Slot), gH D cA ad NL X H → va_S A s.heap H locs → lv_has ls 7 [(0, .ref (ad 43 0)), (1, .int p1), (2, .int p2), (3, .int p3), (4, .int p4)] → (43, 0) ∈ NL → (43, 0) ∈ NL → X10_fact_J116 (gal NL) N p1 p2 p3 p4 X = some (rr, XX) → W p l e rm_X10_fact s m args below meth c H locs 0 0 (MQ below (gQ D cA ad NL (some (.int rr)) XX A) args s 0 0 A) (F0 m 116 ls [.ref (ad 43 0)]) := by
  have hx := C.1
  have hb := C.2.1
  intro p1 p2 p3 p4 X H locs ls hP hS hl ha_l0 ha_s0 hf
  rw [X10_fact_J116] at hf
  refine lv_iconst (v := 2) hx hb dX10_fact_116 (by decide) ?_
  refine lv_goto (tgt := 134) hx hb dX10_fact_117 (by decide) ?_
  exact s_X10_fact_J134 C hW hD0 p1 p2 p3 p4 (2 : Int32) X _ _ _ hP hS (lv_sub hl [0, 1, 2, 3, 4] rfl) ha_l0 ha_s0 hf

set_option maxRecDepth 100000 in
set_option maxHeartbeats 4000000 in
theorem s_X10_fact_J78 {p : Program} {l : Launch} {e : Env} {s : State} {m : MethodId} {args : Array Value} {below : List Frame} {meth : Method} {c : Code} {D : va_G} {cA : Nat → ClassId} {ad : Nat → Nat → Nat} {NL : List (Nat × Nat)} {A : Nat → Prop} {rr : Int32} {XX : gM} {N : Nat} (C : gCx p c meth m s args cX10_fact 7 (some .int) RX10 D cA ad NL A) (hW : gWf NL) (hD0 : gD (fun _ => True) ad NL) : ∀ (p1 : Int32) (p2 : Int32) (p3 : Int32) (p4 : Int32) (X : gM) (H : Heap) (locs : List Loc) (ls : Array Slot), gH D cA ad NL X H → va_S A s.heap H locs → lv_has ls 7 [(0, .ref (ad 43 0)), (1, .int p1), (2, .int p2), (3, .int p3), (4, .int p4)] → (43, 0) ∈ NL → (43, 0) ∈ NL → X10_fact_J78 (gal NL) N p1 p2 p3 p4 X = some (rr, XX) → W p l e rm_X10_fact s m args below meth c H locs 0 0 (MQ below (gQ D cA ad NL (some (.int rr)) XX A) args s 0 0 A) (F0 m 78 ls [.ref (ad 43 0)]) := by
  have hx := C.1
  have hb := C.2.1
  intro p1 p2 p3 p4 X H locs ls hP hS hl ha_l0 ha_s0 hf
  rw [X10_fact_J78] at hf
  refine lv_iconst (v := 1) hx hb dX10_fact_78 (by decide) ?_
  refine lv_goto (tgt := 134) hx hb dX10_fact_79 (by decide) ?_
  exact s_X10_fact_J134 C hW hD0 p1 p2 p3 p4 (1 : Int32) X _ _ _ hP hS (lv_sub hl [0, 1, 2, 3, 4] rfl) ha_l0 ha_s0 hf

set_option maxRecDepth 100000 in
set_option maxHeartbeats 4000000 in
theorem s_X10_fact_J65 {p : Program} {l : Launch} {e : Env} {s : State} {m : MethodId} {args : Array Value} {below : List Frame} {meth : Method} {c : Code} {D : va_G} {cA : Nat → ClassId} {ad : Nat → Nat → Nat} {NL : List (Nat × Nat)} {A : Nat → Prop} {rr : Int32} {XX : gM} {N : Nat} (C : gCx p c meth m s args cX10_fact 7 (some .int) RX10 D cA ad NL A) (hW : gWf NL) (hD0 : gD (fun _ => True) ad NL) : ∀ (p1 : Int32) (p2 : Int32) (p3 : Int32) (p4 : Int32) (p5 : Int32) (s0 : Int32) (X : gM) (H : Heap) (locs : List Loc) (ls : Array Slot), gH D cA ad NL X H → va_S A s.heap H locs → lv_has ls 7 [(0, .ref (ad 43 0)), (1, .int p1), (2, .int p2), (3, .int p3), (4, .int p4), (5, .int p5)] → (43, 0) ∈ NL → X10_fact_J65 (gal NL) N p1 p2 p3 p4 p5 s0 X = some (rr, XX) → W p l e rm_X10_fact s m args below meth c H locs 0 0 (MQ below (gQ D cA ad NL (some (.int rr)) XX A) args s 0 0 A) (F0 m 65 ls [.int s0]) := by
  have hx := C.1
  have hb := C.2.1
  intro p1 p2 p3 p4 p5 s0 X H locs ls hP hS hl ha_l0 hf
  rw [X10_fact_J65] at hf
  refine lv_istore (i := 6) (lv' := [(6, .int s0), (0, .ref (ad 43 0)), (1, .int p1), (2, .int p2), (3, .int p3), (4, .int p4), (5, .int p5)]) hx hb dX10_fact_65 hl (Nat.le_of_ble_eq_true rfl) rfl (fun ls hl => ?_)
  refine lv_aload_n hx hb dX10_fact_67 rfl (lv_at hl 1 rfl) ?_
  refine lv_iload hx hb dX10_fact_68 (lv_at hl 6 rfl) ?_
  refine lv_if_eq (tgt := 78) hx hb dX10_fact_70 (by decide) (fun c1 => ?_) (fun c1 => ?_)
  · have hf := g_ip c1 hf
    exact s_X10_fact_J78 C hW hD0 p1 p2 p3 p4 X _ _ _ hP hS (lv_sub hl [1, 2, 3, 4, 5] rfl) ha_l0 ha_l0 hf
  · have hf := g_in c1 hf
    refine lv_iload hx hb dX10_fact_73 (lv_at hl 0 rfl) ?_
    refine lv_if_ne (tgt := 82) hx hb dX10_fact_75 (by decide) (fun c2 => ?_) (fun c2 => ?_)
    · have hf := g_in c2 hf
      refine lv_iload_n hx hb dX10_fact_82 rfl (lv_at hl 2 rfl) ?_
      refine lv_iconst (v := 0) hx hb dX10_fact_83 (by decide) ?_
      refine lv_iconst (v := 4) hx hb dX10_fact_84 (by decide) ?_
      obtain ⟨r3, X4, h5, hf⟩ := b2_in hf
      refine r_cSi (rest := [.ref (ad 43 0)]) C hP hS hl.1 (s_X10_in hW hD0  h5) ix_X10_in is_X10_in ls_X10_129 ⟨rfl, rfl, Nat.le_of_ble_eq_true rfl, Nat.le_of_ble_eq_true rfl⟩ rfl rfl (Nat.le_of_ble_eq_true rfl) ⟨Nat.zero_le _, Nat.zero_le _⟩ dX10_fact_85 (fun H locs hP hS => ?_)
      refine lv_if_eq (tgt := 116) hx hb dX10_fact_88 (by decide) (fun c6 => ?_) (fun c6 => ?_)
      · have hf := g_ip c6 hf
        exact s_X10_fact_J116 C hW hD0 p1 p2 p3 p4 X4 _ _ _ hP hS (lv_sub hl [1, 2, 3, 4, 5] rfl) ha_l0 ha_l0 hf
      · have hf := g_in c6 hf
        refine lv_iload_n hx hb dX10_fact_91 rfl (lv_at hl 2 rfl) ?_
        refine lv_iconst (v := 3) hx hb dX10_fact_92 (by decide) ?_
        refine lv_icmp_eq (tgt := 120) hx hb dX10_fact_93 (by decide) (fun c7 => ?_) (fun c7 => ?_)
        · have hf := g_ip c7 hf
          exact s_X10_fact_J120 C hW hD0 p1 p2 p3 p4 X4 _ _ _ hP hS (lv_sub hl [1, 2, 3, 4, 5] rfl) ha_l0 ha_l0 hf
        · have hf := g_in c7 hf
          refine lv_iload_n hx hb dX10_fact_96 rfl (lv_at hl 3 rfl) ?_
          refine lv_iload_n hx hb dX10_fact_97 rfl (lv_at hl 4 rfl) ?_
          refine lv_icmp_eq (tgt := 116) hx hb dX10_fact_98 (by decide) (fun c8 => ?_) (fun c8 => ?_)
          · have hf := g_ip c8 hf
            exact s_X10_fact_J116 C hW hD0 p1 p2 p3 p4 X4 _ _ _ hP hS (lv_sub hl [1, 2, 3, 4, 5] rfl) ha_l0 ha_l0 hf
          · have hf := g_in c8 hf
            refine lv_aload_n hx hb dX10_fact_101 rfl (lv_at hl 1 rfl) ?_
            refine r_get C hP ha_l0 (ct_43 _ _ _ _) fx_X10_7 (fg_43_1 _ _ _) dX10_fact_102 ?_
            refine lv_iload_n hx hb dX10_fact_105 rfl (lv_at hl 3 rfl) ?_
            obtain ⟨j9, h10, hf⟩ := rd_in hf
            refine r_iald C hP (gs_43_1 hW ha_l0) (ct_44 _ _ _ _) h10 dX10_fact_106 ?_
            refine lv_aload_n hx hb dX10_fact_107 rfl (lv_at hl 1 rfl) ?_
            refine r_get C hP ha_l0 (ct_43 _ _ _ _) fx_X10_7 (fg_43_1 _ _ _) dX10_fact_108 ?_
            refine lv_iload_n hx hb dX10_fact_111 rfl (lv_at hl 4 rfl) ?_
            obtain ⟨j11, h12, hf⟩ := rd_in hf
            refine r_iald C hP (gs_43_1 hW ha_l0) (ct_44 _ _ _ _) h12 dX10_fact_112 ?_
            refine lv_icmp_eq (tgt := 120) hx hb dX10_fact_113 (by decide) (fun c13 => ?_) (fun c13 => ?_)
            · have hf := g_ip c13 hf
              exact s_X10_fact_J120 C hW hD0 p1 p2 p3 p4 X4 _ _ _ hP hS (lv_sub hl [1, 2, 3, 4, 5] rfl) ha_l0 ha_l0 hf
            · have hf := g_in c13 hf
              exact s_X10_fact_J116 C hW hD0 p1 p2 p3 p4 X4 _ _ _ hP hS (lv_sub hl [1, 2, 3, 4, 5] rfl) ha_l0 ha_l0 hf
    · have hf := g_ip c2 hf
      exact s_X10_fact_J78 C hW hD0 p1 p2 p3 p4 X _ _ _ hP hS (lv_sub hl [1, 2, 3, 4, 5] rfl) ha_l0 ha_l0 hf

set_option maxRecDepth 100000 in
set_option maxHeartbeats 4000000 in
theorem s_X10_fact_J64 {p : Program} {l : Launch} {e : Env} {s : State} {m : MethodId} {args : Array Value} {below : List Frame} {meth : Method} {c : Code} {D : va_G} {cA : Nat → ClassId} {ad : Nat → Nat → Nat} {NL : List (Nat × Nat)} {A : Nat → Prop} {rr : Int32} {XX : gM} {N : Nat} (C : gCx p c meth m s args cX10_fact 7 (some .int) RX10 D cA ad NL A) (hW : gWf NL) (hD0 : gD (fun _ => True) ad NL) : ∀ (p1 : Int32) (p2 : Int32) (p3 : Int32) (p4 : Int32) (p5 : Int32) (X : gM) (H : Heap) (locs : List Loc) (ls : Array Slot), gH D cA ad NL X H → va_S A s.heap H locs → lv_has ls 7 [(0, .ref (ad 43 0)), (1, .int p1), (2, .int p2), (3, .int p3), (4, .int p4), (5, .int p5)] → (43, 0) ∈ NL → X10_fact_J64 (gal NL) N p1 p2 p3 p4 p5 X = some (rr, XX) → W p l e rm_X10_fact s m args below meth c H locs 0 0 (MQ below (gQ D cA ad NL (some (.int rr)) XX A) args s 0 0 A) (F0 m 64 ls []) := by
  have hx := C.1
  have hb := C.2.1
  intro p1 p2 p3 p4 p5 X H locs ls hP hS hl ha_l0 hf
  rw [X10_fact_J64] at hf
  refine lv_iconst (v := 0) hx hb dX10_fact_64 (by decide) ?_
  exact s_X10_fact_J65 C hW hD0 p1 p2 p3 p4 p5 (0 : Int32) X _ _ _ hP hS (lv_sub hl [0, 1, 2, 3, 4, 5] rfl) ha_l0 hf

set_option maxRecDepth 100000 in
set_option maxHeartbeats 4000000 in
theorem s_X10_fact_J60 {p : Program} {l : Launch} {e : Env} {s : State} {m : MethodId} {args : Array Value} {below : List Frame} {meth : Method} {c : Code} {D : va_G} {cA : Nat → ClassId} {ad : Nat → Nat → Nat} {NL : List (Nat × Nat)} {A : Nat → Prop} {rr : Int32} {XX : gM} {N : Nat} (C : gCx p c meth m s args cX10_fact 7 (some .int) RX10 D cA ad NL A) (hW : gWf NL) (hD0 : gD (fun _ => True) ad NL) : ∀ (p1 : Int32) (p2 : Int32) (p3 : Int32) (p4 : Int32) (p5 : Int32) (X : gM) (H : Heap) (locs : List Loc) (ls : Array Slot), gH D cA ad NL X H → va_S A s.heap H locs → lv_has ls 7 [(0, .ref (ad 43 0)), (1, .int p1), (2, .int p2), (3, .int p3), (4, .int p4), (5, .int p5)] → (43, 0) ∈ NL → X10_fact_J60 (gal NL) N p1 p2 p3 p4 p5 X = some (rr, XX) → W p l e rm_X10_fact s m args below meth c H locs 0 0 (MQ below (gQ D cA ad NL (some (.int rr)) XX A) args s 0 0 A) (F0 m 60 ls []) := by
  have hx := C.1
  have hb := C.2.1
  intro p1 p2 p3 p4 p5 X H locs ls hP hS hl ha_l0 hf
  rw [X10_fact_J60] at hf
  refine lv_iconst (v := 1) hx hb dX10_fact_60 (by decide) ?_
  refine lv_goto (tgt := 65) hx hb dX10_fact_61 (by decide) ?_
  exact s_X10_fact_J65 C hW hD0 p1 p2 p3 p4 p5 (1 : Int32) X _ _ _ hP hS (lv_sub hl [0, 1, 2, 3, 4, 5] rfl) ha_l0 hf

set_option maxRecDepth 100000 in
set_option maxHeartbeats 4000000 in
theorem w_X10_fact {p : Program} {l : Launch} {e : Env} {s : State} {m : MethodId} {args : Array Value} {below : List Frame} {meth : Method} {c : Code} {D : va_G} {cA : Nat → ClassId} {ad : Nat → Nat → Nat} {NL : List (Nat × Nat)} {A : Nat → Prop} {rr : Int32} {XX : gM} {N : Nat} (C : gCx p c meth m s args cX10_fact 7 (some .int) RX10 D cA ad NL A) (hW : gWf NL) (hD0 : gD (fun _ => True) ad NL) {p1 : Int32} {p2 : Int32} {p3 : Int32} {p4 : Int32} (ha_l0 : (43, 0) ∈ NL) : ∀ (X : gM) (H : Heap) (locs : List Loc) (ls : Array Slot), gH D cA ad NL X H → va_S A s.heap H locs → lv_has ls 7 [(0, .ref (ad 43 0)), (1, .int p1), (2, .int p2), (3, .int p3), (4, .int p4)] → X10_fact (gal NL) N p1 p2 p3 p4 X = some (rr, XX) → W p l e rm_X10_fact s m args below meth c H locs 0 0 (MQ below (gQ D cA ad NL (some (.int rr)) XX A) args s 0 0 A) (F0 m 0 ls []) := by
  have hx := C.1
  have hb := C.2.1
  intro X H locs ls hP hS hl hf
  rw [X10_fact] at hf
  refine lv_aload_n hx hb dX10_fact_0 rfl (lv_at hl 0 rfl) ?_
  refine lv_iload_n hx hb dX10_fact_1 rfl (lv_at hl 2 rfl) ?_
  obtain ⟨r1, X2, h3, hf⟩ := b2_in hf
  refine r_cVi (rest := []) C hP hS hl.1 (s_X10_isLeaf hW hD0 ha_l0 h3) ix_X10_isLeaf iv_X10_isLeaf lk_X10_133 ⟨rfl, rfl, Nat.le_of_ble_eq_true rfl, Nat.le_of_ble_eq_true rfl⟩ ha_l0 (ct_43 _ _ _ _) rfl rfl rfl rfl (Nat.le_of_ble_eq_true rfl) ⟨Nat.zero_le _, Nat.zero_le _⟩ dX10_fact_2 (fun H locs hP hS => ?_)
  refine lv_istore (i := 5) (lv' := [(5, .int r1), (0, .ref (ad 43 0)), (1, .int p1), (2, .int p2), (3, .int p3), (4, .int p4)]) hx hb dX10_fact_5 hl (Nat.le_of_ble_eq_true rfl) rfl (fun ls hl => ?_)
  refine lv_iload_n hx hb dX10_fact_7 rfl (lv_at hl 2 rfl) ?_
  refine lv_iconst (v := 0) hx hb dX10_fact_8 (by decide) ?_
  refine lv_iconst (v := 4) hx hb dX10_fact_9 (by decide) ?_
  obtain ⟨r4, X5, h6, hf⟩ := b2_in hf
  refine r_cSi (rest := []) C hP hS hl.1 (s_X10_in hW hD0  h6) ix_X10_in is_X10_in ls_X10_129 ⟨rfl, rfl, Nat.le_of_ble_eq_true rfl, Nat.le_of_ble_eq_true rfl⟩ rfl rfl (Nat.le_of_ble_eq_true rfl) ⟨Nat.zero_le _, Nat.zero_le _⟩ dX10_fact_10 (fun H locs hP hS => ?_)
  refine lv_if_eq (tgt := 60) hx hb dX10_fact_13 (by decide) (fun c7 => ?_) (fun c7 => ?_)
  · have hf := g_ip c7 hf
    exact s_X10_fact_J60 C hW hD0 p1 p2 p3 p4 r1 X5 _ _ _ hP hS (lv_sub hl [1, 2, 3, 4, 5, 0] rfl) ha_l0 hf
  · have hf := g_in c7 hf
    refine lv_iload_n hx hb dX10_fact_16 rfl (lv_at hl 2 rfl) ?_
    refine lv_iconst (v := 3) hx hb dX10_fact_17 (by decide) ?_
    refine lv_icmp_ne (tgt := 52) hx hb dX10_fact_18 (by decide) (fun c8 => ?_) (fun c8 => ?_)
    · have hf := g_in c8 hf
      refine lv_aload_n hx hb dX10_fact_52 rfl (lv_at hl 1 rfl) ?_
      refine lv_iload_n hx hb dX10_fact_53 rfl (lv_at hl 4 rfl) ?_
      obtain ⟨r9, X10, h11, hf⟩ := b2_in hf
      refine r_cVi (rest := []) C hP hS hl.1 (s_X10_isLeaf hW hD0 ha_l0 h11) ix_X10_isLeaf iv_X10_isLeaf lk_X10_133 ⟨rfl, rfl, Nat.le_of_ble_eq_true rfl, Nat.le_of_ble_eq_true rfl⟩ ha_l0 (ct_43 _ _ _ _) rfl rfl rfl rfl (Nat.le_of_ble_eq_true rfl) ⟨Nat.zero_le _, Nat.zero_le _⟩ dX10_fact_54 (fun H locs hP hS => ?_)
      refine lv_if_eq (tgt := 64) hx hb dX10_fact_57 (by decide) (fun c12 => ?_) (fun c12 => ?_)
      · have hf := g_ip c12 hf
        exact s_X10_fact_J64 C hW hD0 p1 p2 p3 p4 r1 X10 _ _ _ hP hS (lv_sub hl [1, 2, 3, 4, 5, 0] rfl) ha_l0 hf
      · have hf := g_in c12 hf
        exact s_X10_fact_J60 C hW hD0 p1 p2 p3 p4 r1 X10 _ _ _ hP hS (lv_sub hl [1, 2, 3, 4, 5, 0] rfl) ha_l0 hf
    · have hf := g_ip c8 hf
      refine lv_iload hx hb dX10_fact_21 (lv_at hl 0 rfl) ?_
      refine lv_if_eq (tgt := 64) hx hb dX10_fact_23 (by decide) (fun c13 => ?_) (fun c13 => ?_)
      · have hf := g_ip c13 hf
        exact s_X10_fact_J64 C hW hD0 p1 p2 p3 p4 r1 X5 _ _ _ hP hS (lv_sub hl [1, 2, 3, 4, 5, 0] rfl) ha_l0 hf
      · have hf := g_in c13 hf
        refine lv_iload_n hx hb dX10_fact_26 rfl (lv_at hl 4 rfl) ?_
        refine lv_iconst (v := 0) hx hb dX10_fact_27 (by decide) ?_
        refine lv_iconst (v := 2) hx hb dX10_fact_28 (by decide) ?_
        refine lv_aload_n hx hb dX10_fact_29 rfl (lv_at hl 1 rfl) ?_
        refine r_get C hP ha_l0 (ct_43 _ _ _ _) fx_X10_37 (fg_43_10 _ _ _) dX10_fact_30 ?_
        refine lv_aload_n hx hb dX10_fact_33 rfl (lv_at hl 1 rfl) ?_
        refine r_get C hP ha_l0 (ct_43 _ _ _ _) fx_X10_7 (fg_43_1 _ _ _) dX10_fact_34 ?_
        refine lv_iload_n hx hb dX10_fact_37 rfl (lv_at hl 3 rfl) ?_
        obtain ⟨j14, h15, hf⟩ := rd_in hf
        refine r_iald C hP (gs_43_1 hW ha_l0) (ct_44 _ _ _ _) h15 dX10_fact_38 ?_
        obtain ⟨j16, h17, hf⟩ := rd_in hf
        refine r_iald C hP (gs_43_10 hW ha_l0) (ct_53 _ _ _ _) h17 dX10_fact_39 ?_
        refine lv_imul hx hb dX10_fact_40 ?_
        refine lv_iconst (v := 1) hx hb dX10_fact_41 (by decide) ?_
        refine lv_isub hx hb dX10_fact_42 ?_
        obtain ⟨r18, X19, h20, hf⟩ := b2_in hf
        refine r_cSi (rest := []) C hP hS hl.1 (s_X10_in hW hD0  h20) ix_X10_in is_X10_in ls_X10_129 ⟨rfl, rfl, Nat.le_of_ble_eq_true rfl, Nat.le_of_ble_eq_true rfl⟩ rfl rfl (Nat.le_of_ble_eq_true rfl) ⟨Nat.zero_le _, Nat.zero_le _⟩ dX10_fact_43 (fun H locs hP hS => ?_)
        refine lv_if_eq (tgt := 64) hx hb dX10_fact_46 (by decide) (fun c21 => ?_) (fun c21 => ?_)
        · have hf := g_ip c21 hf
          exact s_X10_fact_J64 C hW hD0 p1 p2 p3 p4 r1 X19 _ _ _ hP hS (lv_sub hl [1, 2, 3, 4, 5, 0] rfl) ha_l0 hf
        · have hf := g_in c21 hf
          refine lv_goto (tgt := 60) hx hb dX10_fact_49 (by decide) ?_
          exact s_X10_fact_J60 C hW hD0 p1 p2 p3 p4 r1 X19 _ _ _ hP hS (lv_sub hl [1, 2, 3, 4, 5, 0] rfl) ha_l0 hf

theorem s_X10_fact {l : Launch} {D : va_G} {cA : Nat → ClassId} {ad : Nat → Nat → Nat} {NL : List (Nat × Nat)} {N : Nat} {p1 : Int32} {p2 : Int32} {p3 : Int32} {p4 : Int32} {X : gM} {rr : Int32} {XX : gM} (hW : gWf NL) (hD0 : gD (fun _ => True) ad NL) (ha_l0 : (43, 0) ∈ NL) (hf : X10_fact (gal NL) N p1 p2 p3 p4 X = some (rr, XX)) : gC l yX10_fact cX10_fact 7 (some .int) rm_X10_fact D cA ad NL [.ref (ad 43 0), .int p1, .int p2, .int p3, .int p4] X (some (.int rr)) XX :=
  g_ofW (by decide) hD0 (Nat.le_of_ble_eq_true rfl) rfl (fun p e s m below meth c ls C hP hS hl => w_X10_fact C hW hD0 ha_l0 X _ _ ls hP hS hl hf)
