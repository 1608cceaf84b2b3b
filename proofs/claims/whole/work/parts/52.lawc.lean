set_option maxRecDepth 100000 in
set_option maxHeartbeats 4000000 in
theorem s_K0 {p : Program} {l : Launch} {e : Env} {s : State} {m : MethodId} {args : Array Value} {below : List Frame} {meth : Method} {c : Code} {H : Heap} {locs : List Loc} {cells slots : Nat} {Q : State → Prop} {rt : Option FieldType} {ls : Array Slot} {D : va_G} {cA : Nat → ClassId} {ad : Nat → Nat → Nat} {NL nw : List (Nat × Nat)} {A : Nat → Prop} {X X' : gM} {N b L iN : Nat} {xs : Nat → Int32} {rr : Int32} (C : gCx p c meth m s args cL_law 7 rt RL D cA ad NL A) (hWd : gWd A s) (htr : l.stackTraces = false) (hW : gWf NL) (hW2 : gWf (NL ++ nw)) (ha0 : (0, 0) ∈ NL) (ha43 : (43, 0) ∈ NL) (ha81 : (81, 0) ∈ NL) (hX : va_X b L xs s s.heap) (hbl : b < s.heap.size) (hbA : ¬ A b) (hL : L ≤ 3584) (hi : iN + 7 ≤ L) (hal : gAl ad) (hadr : gAdr ad H.size nw) (hP : gH D cA ad NL X H) (hS : va_S A s.heap H locs) (hl : lv_has ls 7 [(4, .int (nI iN)), (0, .ref b), (1, .ref (ad 0 0)), (2, .ref (ad 43 0)), (3, .ref (ad 81 0))]) (hrc : cells + 130 ≤ room_1.cells ∧ slots + 877 ≤ room_1.slots)
    (hf : K0 (gal NL) (gal (NL ++ nw)) N nw (xs (iN + 1)) (xs (iN + 2)) (xs (iN + 3)) (xs (iN + 4)) (xs (iN + 5)) (xs (iN + 6)) X = some (rr, X'))
    (kk : gCx p c meth m s args cL_law 7 rt RL D cA ad (NL ++ nw) A → ∀ (H : Heap) (locs : List Loc) (ls : Array Slot), gH D cA ad (NL ++ nw) X' H → va_S A s.heap H locs → lv_has ls 7 [(4, .int (nI iN)), (0, .ref b), (1, .ref (ad 0 0)), (2, .ref (ad 43 0)), (3, .ref (ad 81 0))] → W p l e room_1 s m args below meth c H locs (cells + 130) (slots + 877) Q (F0 m 2186 ls [])) : W p l e room_1 s m args below meth c H locs cells slots Q (F0 m 160 ls []) := by
  have hx := C.1
  have hb := C.2.1
  have hD0 : gD (fun _ => True) ad NL := gD_in C.2.2.2.2.2.2.2.2.2.1 (fun _ _ => True.intro)
  have hrc0 : cells ≤ room_1.cells ∧ slots ≤ room_1.slots := ⟨Nat.le_trans (Nat.le_add_right _ _) hrc.1, Nat.le_trans (Nat.le_add_right _ _) hrc.2⟩
  have ha43' : (43, 0) ∈ NL ++ nw := List.mem_append_left _ ha43
  have ha81' : (81, 0) ∈ NL ++ nw := List.mem_append_left _ ha81
  rw [K0] at hf
  refine lv_aload_n hx hb dL_law_160 rfl (lv_at hl 2 rfl) ?_
  refine r_scr (j := 1) hx hb hX hbl hbA hS hL hl (k0 := 1) (k4 := 0) rfl rfl (by omega) (by decide) dL_law_161 dL_law_162 dL_law_164 dL_law_165 dL_law_166 ?_
  refine r_scr (j := 2) hx hb hX hbl hbA hS hL hl (k0 := 1) (k4 := 0) rfl rfl (by omega) (by decide) dL_law_167 dL_law_168 dL_law_170 dL_law_171 dL_law_172 ?_
  refine r_scr (j := 3) hx hb hX hbl hbA hS hL hl (k0 := 1) (k4 := 0) rfl rfl (by omega) (by decide) dL_law_173 dL_law_174 dL_law_176 dL_law_177 dL_law_178 ?_
  refine r_scr (j := 4) hx hb hX hbl hbA hS hL hl (k0 := 1) (k4 := 0) rfl rfl (by omega) (by decide) dL_law_179 dL_law_180 dL_law_182 dL_law_183 dL_law_184 ?_
  refine r_scr (j := 5) hx hb hX hbl hbA hS hL hl (k0 := 1) (k4 := 0) rfl rfl (by omega) (by decide) dL_law_185 dL_law_186 dL_law_188 dL_law_189 dL_law_190 ?_
  refine lv_aload_n hx hb dL_law_191 rfl (lv_at hl 4 rfl) ?_
  obtain ⟨k1, X1, h1, hf⟩ := b2_in hf
  refine r_callL (nw := nw) (rest := []) C hWd hP hS hl.1 rfl (s_L_leaf htr hW hD0 hal hadr ha0 ha81 h1) hadr il_L_leaf ls_L_106 ⟨rfl, rfl, Nat.le_of_ble_eq_true rfl, Nat.le_of_ble_eq_true rfl⟩ rfl rfl (Nat.le_of_ble_eq_true rfl) ⟨Nat.le_trans (Nat.add_le_add_left (Nat.le_of_ble_eq_true rfl) _) hrc.1, Nat.le_trans (Nat.add_le_add_left (Nat.le_of_ble_eq_true rfl) _) hrc.2⟩ dL_law_192 (fun C H locs hP hS => ?_)
  refine lv_istore (lv' := [(5, .int k1), (4, .int (nI iN)), (0, .ref b), (1, .ref (ad 0 0)), (2, .ref (ad 43 0)), (3, .ref (ad 81 0))]) hx hb dL_law_195 hl (Nat.le_of_ble_eq_true rfl) rfl (fun ls hl => ?_)
  refine lv_aload_n hx hb dL_law_197 rfl (lv_at hl 4 rfl) ?_
  refine r_scr (j := 1) hx hb hX hbl hbA hS hL hl (k0 := 2) (k4 := 1) rfl rfl (by omega) (by decide) dL_law_198 dL_law_199 dL_law_201 dL_law_202 dL_law_203 ?_
  refine r_scr (j := 2) hx hb hX hbl hbA hS hL hl (k0 := 2) (k4 := 1) rfl rfl (by omega) (by decide) dL_law_204 dL_law_205 dL_law_207 dL_law_208 dL_law_209 ?_
  refine r_scr (j := 3) hx hb hX hbl hbA hS hL hl (k0 := 2) (k4 := 1) rfl rfl (by omega) (by decide) dL_law_210 dL_law_211 dL_law_213 dL_law_214 dL_law_215 ?_
  refine r_scr (j := 4) hx hb hX hbl hbA hS hL hl (k0 := 2) (k4 := 1) rfl rfl (by omega) (by decide) dL_law_216 dL_law_217 dL_law_219 dL_law_220 dL_law_221 ?_
  refine r_scr (j := 5) hx hb hX hbl hbA hS hL hl (k0 := 2) (k4 := 1) rfl rfl (by omega) (by decide) dL_law_222 dL_law_223 dL_law_225 dL_law_226 dL_law_227 ?_
  obtain ⟨k2, X2, h2, hf⟩ := b2_in hf
  refine r_cVi (rest := []) C hP hS hl.1 (s_X10_leaf hW2 (gD_in C.2.2.2.2.2.2.2.2.2.1 (fun _ _ => True.intro)) ha43' h2) ix_X10_leaf iv_X10_leaf lk_L_111 ⟨rfl, rfl, Nat.le_of_ble_eq_true rfl, Nat.le_of_ble_eq_true rfl⟩ ha43' (ct_43 _ _ _ _) rfl rfl rfl rfl (Nat.le_of_ble_eq_true rfl) ⟨Nat.le_trans (Nat.add_le_add_left (Nat.le_of_ble_eq_true rfl) _) hrc.1, Nat.le_trans (Nat.add_le_add_left (Nat.le_of_ble_eq_true rfl) _) hrc.2⟩ dL_law_228 (fun H locs hP hS => ?_)
  refine lv_istore (lv' := [(6, .int k2), (5, .int k1), (4, .int (nI iN)), (0, .ref b), (1, .ref (ad 0 0)), (2, .ref (ad 43 0)), (3, .ref (ad 81 0))]) hx hb dL_law_231 hl (Nat.le_of_ble_eq_true rfl) rfl (fun ls hl => ?_)
  refine lv_aload_n hx hb dL_law_233 rfl (lv_at hl 5 rfl) ?_
  obtain ⟨k3, X3, h3, hf⟩ := b2_in hf
  refine r_cVi (rest := []) C hP hS hl.1 (s_X10_thrown hW2 (gD_in C.2.2.2.2.2.2.2.2.2.1 (fun _ _ => True.intro)) ha43' h3) ix_X10_thrown iv_X10_thrown lk_L_112 ⟨rfl, rfl, Nat.le_of_ble_eq_true rfl, Nat.le_of_ble_eq_true rfl⟩ ha43' (ct_43 _ _ _ _) rfl rfl rfl rfl (Nat.le_of_ble_eq_true rfl) ⟨Nat.le_trans (Nat.add_le_add_left (Nat.le_of_ble_eq_true rfl) _) hrc.1, Nat.le_trans (Nat.add_le_add_left (Nat.le_of_ble_eq_true rfl) _) hrc.2⟩ dL_law_234 (fun H locs hP hS => ?_)
  refine lv_iload hx hb dL_law_237 (lv_at hl 1 rfl) ?_
  refine lv_icmp_eq (tgt := 244) hx hb dL_law_239 (by decide) (fun c1 => ?_) (fun c1 => ?_)
  · have hf := g_ip c1 hf
    refine lv_iload hx hb dL_law_244 (lv_at hl 1 rfl) ?_
    refine lv_if_ne (tgt := 261) hx hb dL_law_246 (by decide) (fun c2 => ?_) (fun c2 => ?_)
    · have hf := g_in c2 hf
      obtain ⟨-, rfl⟩ := g_s1 hf
      refine lv_goto (tgt := 2186) hx hb dL_law_261 (by decide) ?_
      refine W.widen (k := cells + 130) (n := slots + 877) (Nat.add_le_add_left (Nat.le_of_ble_eq_true rfl) _) (Nat.add_le_add_left (Nat.le_of_ble_eq_true rfl) _) ?_
      exact kk C H locs ls hP hS (lv_sub hl [2, 3, 4, 5, 6] rfl)
    · have hf := g_ip c2 hf
      refine lv_aload_n hx hb dL_law_249 rfl (lv_at hl 6 rfl) ?_
      refine lv_iconst (v := 0) hx hb dL_law_250 (by decide) ?_
      refine r_lald (jj := 0) C hP ha81' gIn01 dL_law_251 ?_
      refine lv_iload hx hb dL_law_252 (lv_at hl 0 rfl) ?_
      refine lv_i2l (v := k2.toInt64) hx hb dL_law_254 rfl ?_
      by_cases c3 : X3 81 0 0 = k2
      · have hf := g_ip c3 hf
        obtain ⟨-, rfl⟩ := g_s1 hf
        refine r_lcmp_eq hx hb (congrArg Int32.toInt64 c3) dL_law_255 ?_
        refine lv_if_eq (tgt := 261) hx hb dL_law_256 (by decide) (fun _ => ?_) (fun c4 => absurd rfl c4)
        refine lv_goto (tgt := 2186) hx hb dL_law_261 (by decide) ?_
        refine W.widen (k := cells + 130) (n := slots + 877) (Nat.add_le_add_left (Nat.le_of_ble_eq_true rfl) _) (Nat.add_le_add_left (Nat.le_of_ble_eq_true rfl) _) ?_
        exact kk C H locs ls hP hS (lv_sub hl [2, 3, 4, 5, 6] rfl)
      · have hf := g_in c3 hf
        cases hf
  · have hf := g_in c1 hf
    cases hf

set_option maxRecDepth 100000 in
set_option maxHeartbeats 4000000 in
theorem s_K1 {p : Program} {l : Launch} {e : Env} {s : State} {m : MethodId} {args : Array Value} {below : List Frame} {meth : Method} {c : Code} {H : Heap} {locs : List Loc} {cells slots : Nat} {Q : State → Prop} {rt : Option FieldType} {ls : Array Slot} {D : va_G} {cA : Nat → ClassId} {ad : Nat → Nat → Nat} {NL nw : List (Nat × Nat)} {A : Nat → Prop} {X X' : gM} {N b L iN : Nat} {xs : Nat → Int32} {rr : Int32} (C : gCx p c meth m s args cL_law 7 rt RL D cA ad NL A) (hWd : gWd A s) (htr : l.stackTraces = false) (hW : gWf NL) (hW2 : gWf (NL ++ nw)) (ha0 : (0, 0) ∈ NL) (ha43 : (43, 0) ∈ NL) (ha81 : (81, 0) ∈ NL) (hX : va_X b L xs s s.heap) (hbl : b < s.heap.size) (hbA : ¬ A b) (hL : L ≤ 3584) (hi : iN + 7 ≤ L) (hal : gAl ad) (hadr : gAdr ad H.size nw) (hP : gH D cA ad NL X H) (hS : va_S A s.heap H locs) (hl : lv_has ls 7 [(4, .int (nI iN)), (0, .ref b), (1, .ref (ad 0 0)), (2, .ref (ad 43 0)), (3, .ref (ad 81 0))]) (hrc : cells + 130 ≤ room_1.cells ∧ slots + 877 ≤ room_1.slots)
    (hf : K1 (gal NL) (gal (NL ++ nw)) N nw (xs (iN + 1)) (xs (iN + 2)) (xs (iN + 3)) (xs (iN + 4)) (xs (iN + 5)) (xs (iN + 6)) X = some (rr, X'))
    (kk : gCx p c meth m s args cL_law 7 rt RL D cA ad (NL ++ nw) A → ∀ (H : Heap) (locs : List Loc) (ls : Array Slot), gH D cA ad (NL ++ nw) X' H → va_S A s.heap H locs → lv_has ls 7 [(4, .int (nI iN)), (0, .ref b), (1, .ref (ad 0 0)), (2, .ref (ad 43 0)), (3, .ref (ad 81 0))] → W p l e room_1 s m args below meth c H locs (cells + 130) (slots + 877) Q (F0 m 2186 ls [])) : W p l e room_1 s m args below meth c H locs cells slots Q (F0 m 264 ls []) := by
  have hx := C.1
  have hb := C.2.1
  have hD0 : gD (fun _ => True) ad NL := gD_in C.2.2.2.2.2.2.2.2.2.1 (fun _ _ => True.intro)
  have hrc0 : cells ≤ room_1.cells ∧ slots ≤ room_1.slots := ⟨Nat.le_trans (Nat.le_add_right _ _) hrc.1, Nat.le_trans (Nat.le_add_right _ _) hrc.2⟩
  have ha43' : (43, 0) ∈ NL ++ nw := List.mem_append_left _ ha43
  have ha81' : (81, 0) ∈ NL ++ nw := List.mem_append_left _ ha81
  rw [K1] at hf
  replace hf := eqn_in hf
  obtain ⟨hnw, hf⟩ := hf
  subst hnw
  refine lv_aload_n hx hb dL_law_264 rfl (lv_at hl 2 rfl) ?_
  refine r_scr (j := 1) hx hb hX hbl hbA hS hL hl (k0 := 1) (k4 := 0) rfl rfl (by omega) (by decide) dL_law_265 dL_law_266 dL_law_268 dL_law_269 dL_law_270 ?_
  refine r_scr (j := 2) hx hb hX hbl hbA hS hL hl (k0 := 1) (k4 := 0) rfl rfl (by omega) (by decide) dL_law_271 dL_law_272 dL_law_274 dL_law_275 dL_law_276 ?_
  refine lv_aload_n hx hb dL_law_277 rfl (lv_at hl 4 rfl) ?_
  obtain ⟨k1, X1, h1, hf⟩ := b2_in hf
  refine r_callL (nw := []) (rest := []) C hWd hP hS hl.1 rfl (s_L_sheets (nw := []) htr hW hD0 ha0 ha81 h1) True.intro il_L_sheets ls_L_115 ⟨rfl, rfl, Nat.le_of_ble_eq_true rfl, Nat.le_of_ble_eq_true rfl⟩ rfl rfl (Nat.le_of_ble_eq_true rfl) ⟨Nat.le_trans (Nat.add_le_add_left (Nat.le_of_ble_eq_true rfl) _) hrc.1, Nat.le_trans (Nat.add_le_add_left (Nat.le_of_ble_eq_true rfl) _) hrc.2⟩ dL_law_278 (fun C H locs hP hS => ?_)
  refine lv_istore (lv' := [(5, .int k1), (4, .int (nI iN)), (0, .ref b), (1, .ref (ad 0 0)), (2, .ref (ad 43 0)), (3, .ref (ad 81 0))]) hx hb dL_law_281 hl (Nat.le_of_ble_eq_true rfl) rfl (fun ls hl => ?_)
  refine lv_aload_n hx hb dL_law_283 rfl (lv_at hl 4 rfl) ?_
  refine r_scr (j := 1) hx hb hX hbl hbA hS hL hl (k0 := 2) (k4 := 1) rfl rfl (by omega) (by decide) dL_law_284 dL_law_285 dL_law_287 dL_law_288 dL_law_289 ?_
  refine r_scr (j := 2) hx hb hX hbl hbA hS hL hl (k0 := 2) (k4 := 1) rfl rfl (by omega) (by decide) dL_law_290 dL_law_291 dL_law_293 dL_law_294 dL_law_295 ?_
  obtain ⟨k2, X2, h2, hf⟩ := b2_in hf
  refine r_cVi (rest := []) C hP hS hl.1 (s_X10_sheets hW2 (gD_in C.2.2.2.2.2.2.2.2.2.1 (fun _ _ => True.intro)) ha43' h2) ix_X10_sheets iv_X10_sheets lk_L_118 ⟨rfl, rfl, Nat.le_of_ble_eq_true rfl, Nat.le_of_ble_eq_true rfl⟩ ha43' (ct_43 _ _ _ _) rfl rfl rfl rfl (Nat.le_of_ble_eq_true rfl) ⟨Nat.le_trans (Nat.add_le_add_left (Nat.le_of_ble_eq_true rfl) _) hrc.1, Nat.le_trans (Nat.add_le_add_left (Nat.le_of_ble_eq_true rfl) _) hrc.2⟩ dL_law_296 (fun H locs hP hS => ?_)
  refine lv_istore (lv' := [(6, .int k2), (5, .int k1), (4, .int (nI iN)), (0, .ref b), (1, .ref (ad 0 0)), (2, .ref (ad 43 0)), (3, .ref (ad 81 0))]) hx hb dL_law_299 hl (Nat.le_of_ble_eq_true rfl) rfl (fun ls hl => ?_)
  refine lv_aload_n hx hb dL_law_301 rfl (lv_at hl 5 rfl) ?_
  obtain ⟨k3, X3, h3, hf⟩ := b2_in hf
  refine r_cVi (rest := []) C hP hS hl.1 (s_X10_thrown hW2 (gD_in C.2.2.2.2.2.2.2.2.2.1 (fun _ _ => True.intro)) ha43' h3) ix_X10_thrown iv_X10_thrown lk_L_112 ⟨rfl, rfl, Nat.le_of_ble_eq_true rfl, Nat.le_of_ble_eq_true rfl⟩ ha43' (ct_43 _ _ _ _) rfl rfl rfl rfl (Nat.le_of_ble_eq_true rfl) ⟨Nat.le_trans (Nat.add_le_add_left (Nat.le_of_ble_eq_true rfl) _) hrc.1, Nat.le_trans (Nat.add_le_add_left (Nat.le_of_ble_eq_true rfl) _) hrc.2⟩ dL_law_302 (fun H locs hP hS => ?_)
  refine lv_iload hx hb dL_law_305 (lv_at hl 1 rfl) ?_
  refine lv_icmp_eq (tgt := 312) hx hb dL_law_307 (by decide) (fun c1 => ?_) (fun c1 => ?_)
  · have hf := g_ip c1 hf
    refine lv_iload hx hb dL_law_312 (lv_at hl 1 rfl) ?_
    refine lv_if_ne (tgt := 329) hx hb dL_law_314 (by decide) (fun c2 => ?_) (fun c2 => ?_)
    · have hf := g_in c2 hf
      obtain ⟨-, rfl⟩ := g_s1 hf
      refine lv_goto (tgt := 2186) hx hb dL_law_329 (by decide) ?_
      refine W.widen (k := cells + 130) (n := slots + 877) (Nat.add_le_add_left (Nat.le_of_ble_eq_true rfl) _) (Nat.add_le_add_left (Nat.le_of_ble_eq_true rfl) _) ?_
      exact kk C H locs ls hP hS (lv_sub hl [2, 3, 4, 5, 6] rfl)
    · have hf := g_ip c2 hf
      refine lv_aload_n hx hb dL_law_317 rfl (lv_at hl 6 rfl) ?_
      refine lv_iconst (v := 0) hx hb dL_law_318 (by decide) ?_
      refine r_lald (jj := 0) C hP ha81' gIn01 dL_law_319 ?_
      refine lv_iload hx hb dL_law_320 (lv_at hl 0 rfl) ?_
      refine lv_i2l (v := k2.toInt64) hx hb dL_law_322 rfl ?_
      by_cases c3 : X3 81 0 0 = k2
      · have hf := g_ip c3 hf
        obtain ⟨-, rfl⟩ := g_s1 hf
        refine r_lcmp_eq hx hb (congrArg Int32.toInt64 c3) dL_law_323 ?_
        refine lv_if_eq (tgt := 329) hx hb dL_law_324 (by decide) (fun _ => ?_) (fun c4 => absurd rfl c4)
        refine lv_goto (tgt := 2186) hx hb dL_law_329 (by decide) ?_
        refine W.widen (k := cells + 130) (n := slots + 877) (Nat.add_le_add_left (Nat.le_of_ble_eq_true rfl) _) (Nat.add_le_add_left (Nat.le_of_ble_eq_true rfl) _) ?_
        exact kk C H locs ls hP hS (lv_sub hl [2, 3, 4, 5, 6] rfl)
      · have hf := g_in c3 hf
        cases hf
  · have hf := g_in c1 hf
    cases hf

set_option maxRecDepth 100000 in
set_option maxHeartbeats 4000000 in
theorem s_K2 {p : Program} {l : Launch} {e : Env} {s : State} {m : MethodId} {args : Array Value} {below : List Frame} {meth : Method} {c : Code} {H : Heap} {locs : List Loc} {cells slots : Nat} {Q : State → Prop} {rt : Option FieldType} {ls : Array Slot} {D : va_G} {cA : Nat → ClassId} {ad : Nat → Nat → Nat} {NL nw : List (Nat × Nat)} {A : Nat → Prop} {X X' : gM} {N b L iN : Nat} {xs : Nat → Int32} {rr : Int32} (C : gCx p c meth m s args cL_law 7 rt RL D cA ad NL A) (hWd : gWd A s) (htr : l.stackTraces = false) (hW : gWf NL) (hW2 : gWf (NL ++ nw)) (ha0 : (0, 0) ∈ NL) (ha43 : (43, 0) ∈ NL) (ha81 : (81, 0) ∈ NL) (hX : va_X b L xs s s.heap) (hbl : b < s.heap.size) (hbA : ¬ A b) (hL : L ≤ 3584) (hi : iN + 7 ≤ L) (hal : gAl ad) (hadr : gAdr ad H.size nw) (hP : gH D cA ad NL X H) (hS : va_S A s.heap H locs) (hl : lv_has ls 7 [(4, .int (nI iN)), (0, .ref b), (1, .ref (ad 0 0)), (2, .ref (ad 43 0)), (3, .ref (ad 81 0))]) (hrc : cells + 130 ≤ room_1.cells ∧ slots + 877 ≤ room_1.slots)
    (hf : K2 (gal NL) (gal (NL ++ nw)) N nw (xs (iN + 1)) (xs (iN + 2)) (xs (iN + 3)) (xs (iN + 4)) (xs (iN + 5)) (xs (iN + 6)) X = some (rr, X'))
    (kk : gCx p c meth m s args cL_law 7 rt RL D cA ad (NL ++ nw) A → ∀ (H : Heap) (locs : List Loc) (ls : Array Slot), gH D cA ad (NL ++ nw) X' H → va_S A s.heap H locs → lv_has ls 7 [(4, .int (nI iN)), (0, .ref b), (1, .ref (ad 0 0)), (2, .ref (ad 43 0)), (3, .ref (ad 81 0))] → W p l e room_1 s m args below meth c H locs (cells + 130) (slots + 877) Q (F0 m 2186 ls [])) : W p l e room_1 s m args below meth c H locs cells slots Q (F0 m 332 ls []) := by
  have hx := C.1
  have hb := C.2.1
  have hD0 : gD (fun _ => True) ad NL := gD_in C.2.2.2.2.2.2.2.2.2.1 (fun _ _ => True.intro)
  have hrc0 : cells ≤ room_1.cells ∧ slots ≤ room_1.slots := ⟨Nat.le_trans (Nat.le_add_right _ _) hrc.1, Nat.le_trans (Nat.le_add_right _ _) hrc.2⟩
  have ha43' : (43, 0) ∈ NL ++ nw := List.mem_append_left _ ha43
  have ha81' : (81, 0) ∈ NL ++ nw := List.mem_append_left _ ha81
  rw [K2] at hf
  replace hf := eqn_in hf
  obtain ⟨hnw, hf⟩ := hf
  subst hnw
  refine lv_aload_n hx hb dL_law_332 rfl (lv_at hl 2 rfl) ?_
  refine r_scr (j := 1) hx hb hX hbl hbA hS hL hl (k0 := 1) (k4 := 0) rfl rfl (by omega) (by decide) dL_law_333 dL_law_334 dL_law_336 dL_law_337 dL_law_338 ?_
  refine r_scr (j := 2) hx hb hX hbl hbA hS hL hl (k0 := 1) (k4 := 0) rfl rfl (by omega) (by decide) dL_law_339 dL_law_340 dL_law_342 dL_law_343 dL_law_344 ?_
  refine r_scr (j := 3) hx hb hX hbl hbA hS hL hl (k0 := 1) (k4 := 0) rfl rfl (by omega) (by decide) dL_law_345 dL_law_346 dL_law_348 dL_law_349 dL_law_350 ?_
  obtain ⟨k1, X1, h1, hf⟩ := b2_in hf
  refine r_callL (nw := []) (rest := []) C hWd hP hS hl.1 rfl (s_L_light (nw := []) htr hW hD0 ha0 ha81 h1) True.intro il_L_light ls_L_119 ⟨rfl, rfl, Nat.le_of_ble_eq_true rfl, Nat.le_of_ble_eq_true rfl⟩ rfl rfl (Nat.le_of_ble_eq_true rfl) ⟨Nat.le_trans (Nat.add_le_add_left (Nat.le_of_ble_eq_true rfl) _) hrc.1, Nat.le_trans (Nat.add_le_add_left (Nat.le_of_ble_eq_true rfl) _) hrc.2⟩ dL_law_351 (fun C H locs hP hS => ?_)
  refine lv_istore (lv' := [(5, .int k1), (4, .int (nI iN)), (0, .ref b), (1, .ref (ad 0 0)), (2, .ref (ad 43 0)), (3, .ref (ad 81 0))]) hx hb dL_law_354 hl (Nat.le_of_ble_eq_true rfl) rfl (fun ls hl => ?_)
  refine lv_aload_n hx hb dL_law_356 rfl (lv_at hl 4 rfl) ?_
  refine r_scr (j := 1) hx hb hX hbl hbA hS hL hl (k0 := 2) (k4 := 1) rfl rfl (by omega) (by decide) dL_law_357 dL_law_358 dL_law_360 dL_law_361 dL_law_362 ?_
  refine r_scr (j := 2) hx hb hX hbl hbA hS hL hl (k0 := 2) (k4 := 1) rfl rfl (by omega) (by decide) dL_law_363 dL_law_364 dL_law_366 dL_law_367 dL_law_368 ?_
  refine r_scr (j := 3) hx hb hX hbl hbA hS hL hl (k0 := 2) (k4 := 1) rfl rfl (by omega) (by decide) dL_law_369 dL_law_370 dL_law_372 dL_law_373 dL_law_374 ?_
  obtain ⟨k2, X2, h2, hf⟩ := b2_in hf
  refine r_cVv (rest := []) C hP hS hl.1 (s_X10_light hW2 (gD_in C.2.2.2.2.2.2.2.2.2.1 (fun _ _ => True.intro)) ha43' h2) ix_X10_light iv_X10_light lk_L_122 ⟨rfl, rfl, Nat.le_of_ble_eq_true rfl, Nat.le_of_ble_eq_true rfl⟩ ha43' (ct_43 _ _ _ _) rfl rfl rfl rfl (Nat.le_of_ble_eq_true rfl) ⟨Nat.le_trans (Nat.add_le_add_left (Nat.le_of_ble_eq_true rfl) _) hrc.1, Nat.le_trans (Nat.add_le_add_left (Nat.le_of_ble_eq_true rfl) _) hrc.2⟩ dL_law_375 (fun H locs hP hS => ?_)
  refine lv_aload_n hx hb dL_law_378 rfl (lv_at hl 4 rfl) ?_
  obtain ⟨k3, X3, h3, hf⟩ := b2_in hf
  refine r_cVi (rest := []) C hP hS hl.1 (s_X10_thrown hW2 (gD_in C.2.2.2.2.2.2.2.2.2.1 (fun _ _ => True.intro)) ha43' h3) ix_X10_thrown iv_X10_thrown lk_L_112 ⟨rfl, rfl, Nat.le_of_ble_eq_true rfl, Nat.le_of_ble_eq_true rfl⟩ ha43' (ct_43 _ _ _ _) rfl rfl rfl rfl (Nat.le_of_ble_eq_true rfl) ⟨Nat.le_trans (Nat.add_le_add_left (Nat.le_of_ble_eq_true rfl) _) hrc.1, Nat.le_trans (Nat.add_le_add_left (Nat.le_of_ble_eq_true rfl) _) hrc.2⟩ dL_law_379 (fun H locs hP hS => ?_)
  refine lv_iload hx hb dL_law_382 (lv_at hl 0 rfl) ?_
  refine lv_icmp_eq (tgt := 389) hx hb dL_law_384 (by decide) (fun c1 => ?_) (fun c1 => ?_)
  · have hf := g_ip c1 hf
    obtain ⟨-, rfl⟩ := g_s1 hf
    refine lv_goto (tgt := 2186) hx hb dL_law_389 (by decide) ?_
    refine W.widen (k := cells + 130) (n := slots + 877) (Nat.add_le_add_left (Nat.le_of_ble_eq_true rfl) _) (Nat.add_le_add_left (Nat.le_of_ble_eq_true rfl) _) ?_
    exact kk C H locs ls hP hS (lv_sub hl [1, 2, 3, 4, 5] rfl)
  · have hf := g_in c1 hf
    cases hf

set_option maxRecDepth 100000 in
set_option maxHeartbeats 4000000 in
theorem s_K3 {p : Program} {l : Launch} {e : Env} {s : State} {m : MethodId} {args : Array Value} {below : List Frame} {meth : Method} {c : Code} {H : Heap} {locs : List Loc} {cells slots : Nat} {Q : State → Prop} {rt : Option FieldType} {ls : Array Slot} {D : va_G} {cA : Nat → ClassId} {ad : Nat → Nat → Nat} {NL nw : List (Nat × Nat)} {A : Nat → Prop} {X X' : gM} {N b L iN : Nat} {xs : Nat → Int32} {rr : Int32} (C : gCx p c meth m s args cL_law 7 rt RL D cA ad NL A) (hWd : gWd A s) (htr : l.stackTraces = false) (hW : gWf NL) (hW2 : gWf (NL ++ nw)) (ha0 : (0, 0) ∈ NL) (ha43 : (43, 0) ∈ NL) (ha81 : (81, 0) ∈ NL) (hX : va_X b L xs s s.heap) (hbl : b < s.heap.size) (hbA : ¬ A b) (hL : L ≤ 3584) (hi : iN + 7 ≤ L) (hal : gAl ad) (hadr : gAdr ad H.size nw) (hP : gH D cA ad NL X H) (hS : va_S A s.heap H locs) (hl : lv_has ls 7 [(4, .int (nI iN)), (0, .ref b), (1, .ref (ad 0 0)), (2, .ref (ad 43 0)), (3, .ref (ad 81 0))]) (hrc : cells + 130 ≤ room_1.cells ∧ slots + 877 ≤ room_1.slots)
    (hf : K3 (gal NL) (gal (NL ++ nw)) N nw (xs (iN + 1)) (xs (iN + 2)) (xs (iN + 3)) (xs (iN + 4)) (xs (iN + 5)) (xs (iN + 6)) X = some (rr, X'))
    (kk : gCx p c meth m s args cL_law 7 rt RL D cA ad (NL ++ nw) A → ∀ (H : Heap) (locs : List Loc) (ls : Array Slot), gH D cA ad (NL ++ nw) X' H → va_S A s.heap H locs → lv_has ls 7 [(4, .int (nI iN)), (0, .ref b), (1, .ref (ad 0 0)), (2, .ref (ad 43 0)), (3, .ref (ad 81 0))] → W p l e room_1 s m args below meth c H locs (cells + 130) (slots + 877) Q (F0 m 2186 ls [])) : W p l e room_1 s m args below meth c H locs cells slots Q (F0 m 392 ls []) := by
  have hx := C.1
  have hb := C.2.1
  have hD0 : gD (fun _ => True) ad NL := gD_in C.2.2.2.2.2.2.2.2.2.1 (fun _ _ => True.intro)
  have hrc0 : cells ≤ room_1.cells ∧ slots ≤ room_1.slots := ⟨Nat.le_trans (Nat.le_add_right _ _) hrc.1, Nat.le_trans (Nat.le_add_right _ _) hrc.2⟩
  have ha43' : (43, 0) ∈ NL ++ nw := List.mem_append_left _ ha43
  have ha81' : (81, 0) ∈ NL ++ nw := List.mem_append_left _ ha81
  rw [K3] at hf
  replace hf := eqn_in hf
  obtain ⟨hnw, hf⟩ := hf
  subst hnw
  refine lv_aload_n hx hb dL_law_392 rfl (lv_at hl 2 rfl) ?_
  refine r_scr (j := 1) hx hb hX hbl hbA hS hL hl (k0 := 1) (k4 := 0) rfl rfl (by omega) (by decide) dL_law_393 dL_law_394 dL_law_396 dL_law_397 dL_law_398 ?_
  refine r_scr (j := 2) hx hb hX hbl hbA hS hL hl (k0 := 1) (k4 := 0) rfl rfl (by omega) (by decide) dL_law_399 dL_law_400 dL_law_402 dL_law_403 dL_law_404 ?_
  refine r_scr (j := 3) hx hb hX hbl hbA hS hL hl (k0 := 1) (k4 := 0) rfl rfl (by omega) (by decide) dL_law_405 dL_law_406 dL_law_408 dL_law_409 dL_law_410 ?_
  refine r_scr (j := 4) hx hb hX hbl hbA hS hL hl (k0 := 1) (k4 := 0) rfl rfl (by omega) (by decide) dL_law_411 dL_law_412 dL_law_414 dL_law_415 dL_law_416 ?_
  refine r_scr (j := 5) hx hb hX hbl hbA hS hL hl (k0 := 1) (k4 := 0) rfl rfl (by omega) (by decide) dL_law_417 dL_law_418 dL_law_420 dL_law_421 dL_law_422 ?_
  refine lv_aload_n hx hb dL_law_423 rfl (lv_at hl 4 rfl) ?_
  obtain ⟨k1, X1, h1, hf⟩ := b2_in hf
  refine r_callL (nw := []) (rest := []) C hWd hP hS hl.1 rfl (s_L_image (nw := []) htr hW hD0 ha0 ha81 h1) True.intro il_L_image ls_L_123 ⟨rfl, rfl, Nat.le_of_ble_eq_true rfl, Nat.le_of_ble_eq_true rfl⟩ rfl rfl (Nat.le_of_ble_eq_true rfl) ⟨Nat.le_trans (Nat.add_le_add_left (Nat.le_of_ble_eq_true rfl) _) hrc.1, Nat.le_trans (Nat.add_le_add_left (Nat.le_of_ble_eq_true rfl) _) hrc.2⟩ dL_law_424 (fun C H locs hP hS => ?_)
  refine lv_istore (lv' := [(5, .int k1), (4, .int (nI iN)), (0, .ref b), (1, .ref (ad 0 0)), (2, .ref (ad 43 0)), (3, .ref (ad 81 0))]) hx hb dL_law_427 hl (Nat.le_of_ble_eq_true rfl) rfl (fun ls hl => ?_)
  refine lv_aload_n hx hb dL_law_429 rfl (lv_at hl 4 rfl) ?_
  refine r_scr (j := 1) hx hb hX hbl hbA hS hL hl (k0 := 2) (k4 := 1) rfl rfl (by omega) (by decide) dL_law_430 dL_law_431 dL_law_433 dL_law_434 dL_law_435 ?_
  refine r_scr (j := 2) hx hb hX hbl hbA hS hL hl (k0 := 2) (k4 := 1) rfl rfl (by omega) (by decide) dL_law_436 dL_law_437 dL_law_439 dL_law_440 dL_law_441 ?_
  refine r_scr (j := 3) hx hb hX hbl hbA hS hL hl (k0 := 2) (k4 := 1) rfl rfl (by omega) (by decide) dL_law_442 dL_law_443 dL_law_445 dL_law_446 dL_law_447 ?_
  refine r_scr (j := 4) hx hb hX hbl hbA hS hL hl (k0 := 2) (k4 := 1) rfl rfl (by omega) (by decide) dL_law_448 dL_law_449 dL_law_451 dL_law_452 dL_law_453 ?_
  refine r_scr (j := 5) hx hb hX hbl hbA hS hL hl (k0 := 2) (k4 := 1) rfl rfl (by omega) (by decide) dL_law_454 dL_law_455 dL_law_457 dL_law_458 dL_law_459 ?_
  obtain ⟨k2, X2, h2, hf⟩ := b2_in hf
  refine r_cVi (rest := []) C hP hS hl.1 (s_X10_image hW2 (gD_in C.2.2.2.2.2.2.2.2.2.1 (fun _ _ => True.intro)) ha43' h2) ix_X10_image iv_X10_image lk_L_125 ⟨rfl, rfl, Nat.le_of_ble_eq_true rfl, Nat.le_of_ble_eq_true rfl⟩ ha43' (ct_43 _ _ _ _) rfl rfl rfl rfl (Nat.le_of_ble_eq_true rfl) ⟨Nat.le_trans (Nat.add_le_add_left (Nat.le_of_ble_eq_true rfl) _) hrc.1, Nat.le_trans (Nat.add_le_add_left (Nat.le_of_ble_eq_true rfl) _) hrc.2⟩ dL_law_460 (fun H locs hP hS => ?_)
  refine lv_istore (lv' := [(6, .int k2), (5, .int k1), (4, .int (nI iN)), (0, .ref b), (1, .ref (ad 0 0)), (2, .ref (ad 43 0)), (3, .ref (ad 81 0))]) hx hb dL_law_463 hl (Nat.le_of_ble_eq_true rfl) rfl (fun ls hl => ?_)
  refine lv_aload_n hx hb dL_law_465 rfl (lv_at hl 5 rfl) ?_
  obtain ⟨k3, X3, h3, hf⟩ := b2_in hf
  refine r_cVi (rest := []) C hP hS hl.1 (s_X10_thrown hW2 (gD_in C.2.2.2.2.2.2.2.2.2.1 (fun _ _ => True.intro)) ha43' h3) ix_X10_thrown iv_X10_thrown lk_L_112 ⟨rfl, rfl, Nat.le_of_ble_eq_true rfl, Nat.le_of_ble_eq_true rfl⟩ ha43' (ct_43 _ _ _ _) rfl rfl rfl rfl (Nat.le_of_ble_eq_true rfl) ⟨Nat.le_trans (Nat.add_le_add_left (Nat.le_of_ble_eq_true rfl) _) hrc.1, Nat.le_trans (Nat.add_le_add_left (Nat.le_of_ble_eq_true rfl) _) hrc.2⟩ dL_law_466 (fun H locs hP hS => ?_)
  refine lv_iload hx hb dL_law_469 (lv_at hl 1 rfl) ?_
  refine lv_icmp_eq (tgt := 476) hx hb dL_law_471 (by decide) (fun c1 => ?_) (fun c1 => ?_)
  · have hf := g_ip c1 hf
    refine lv_iload hx hb dL_law_476 (lv_at hl 1 rfl) ?_
    refine lv_if_ne (tgt := 493) hx hb dL_law_478 (by decide) (fun c2 => ?_) (fun c2 => ?_)
    · have hf := g_in c2 hf
      obtain ⟨-, rfl⟩ := g_s1 hf
      refine lv_goto (tgt := 2186) hx hb dL_law_493 (by decide) ?_
      refine W.widen (k := cells + 130) (n := slots + 877) (Nat.add_le_add_left (Nat.le_of_ble_eq_true rfl) _) (Nat.add_le_add_left (Nat.le_of_ble_eq_true rfl) _) ?_
      exact kk C H locs ls hP hS (lv_sub hl [2, 3, 4, 5, 6] rfl)
    · have hf := g_ip c2 hf
      refine lv_aload_n hx hb dL_law_481 rfl (lv_at hl 6 rfl) ?_
      refine lv_iconst (v := 0) hx hb dL_law_482 (by decide) ?_
      refine r_lald (jj := 0) C hP ha81' gIn01 dL_law_483 ?_
      refine lv_iload hx hb dL_law_484 (lv_at hl 0 rfl) ?_
      refine lv_i2l (v := k2.toInt64) hx hb dL_law_486 rfl ?_
      by_cases c3 : X3 81 0 0 = k2
      · have hf := g_ip c3 hf
        obtain ⟨-, rfl⟩ := g_s1 hf
        refine r_lcmp_eq hx hb (congrArg Int32.toInt64 c3) dL_law_487 ?_
        refine lv_if_eq (tgt := 493) hx hb dL_law_488 (by decide) (fun _ => ?_) (fun c4 => absurd rfl c4)
        refine lv_goto (tgt := 2186) hx hb dL_law_493 (by decide) ?_
        refine W.widen (k := cells + 130) (n := slots + 877) (Nat.add_le_add_left (Nat.le_of_ble_eq_true rfl) _) (Nat.add_le_add_left (Nat.le_of_ble_eq_true rfl) _) ?_
        exact kk C H locs ls hP hS (lv_sub hl [2, 3, 4, 5, 6] rfl)
      · have hf := g_in c3 hf
        cases hf
  · have hf := g_in c1 hf
    cases hf

set_option maxRecDepth 100000 in
set_option maxHeartbeats 4000000 in
theorem s_K4 {p : Program} {l : Launch} {e : Env} {s : State} {m : MethodId} {args : Array Value} {below : List Frame} {meth : Method} {c : Code} {H : Heap} {locs : List Loc} {cells slots : Nat} {Q : State → Prop} {rt : Option FieldType} {ls : Array Slot} {D : va_G} {cA : Nat → ClassId} {ad : Nat → Nat → Nat} {NL nw : List (Nat × Nat)} {A : Nat → Prop} {X X' : gM} {N b L iN : Nat} {xs : Nat → Int32} {rr : Int32} (C : gCx p c meth m s args cL_law 7 rt RL D cA ad NL A) (hWd : gWd A s) (htr : l.stackTraces = false) (hW : gWf NL) (hW2 : gWf (NL ++ nw)) (ha0 : (0, 0) ∈ NL) (ha43 : (43, 0) ∈ NL) (ha81 : (81, 0) ∈ NL) (hX : va_X b L xs s s.heap) (hbl : b < s.heap.size) (hbA : ¬ A b) (hL : L ≤ 3584) (hi : iN + 7 ≤ L) (hal : gAl ad) (hadr : gAdr ad H.size nw) (hP : gH D cA ad NL X H) (hS : va_S A s.heap H locs) (hl : lv_has ls 7 [(4, .int (nI iN)), (0, .ref b), (1, .ref (ad 0 0)), (2, .ref (ad 43 0)), (3, .ref (ad 81 0))]) (hrc : cells + 130 ≤ room_1.cells ∧ slots + 877 ≤ room_1.slots)
    (hf : K4 (gal NL) (gal (NL ++ nw)) N nw (xs (iN + 1)) (xs (iN + 2)) (xs (iN + 3)) (xs (iN + 4)) (xs (iN + 5)) (xs (iN + 6)) X = some (rr, X'))
    (kk : gCx p c meth m s args cL_law 7 rt RL D cA ad (NL ++ nw) A → ∀ (H : Heap) (locs : List Loc) (ls : Array Slot), gH D cA ad (NL ++ nw) X' H → va_S A s.heap H locs → lv_has ls 7 [(4, .int (nI iN)), (0, .ref b), (1, .ref (ad 0 0)), (2, .ref (ad 43 0)), (3, .ref (ad 81 0))] → W p l e room_1 s m args below meth c H locs (cells + 130) (slots + 877) Q (F0 m 2186 ls [])) : W p l e room_1 s m args below meth c H locs cells slots Q (F0 m 496 ls []) := by
  have hx := C.1
  have hb := C.2.1
  have hD0 : gD (fun _ => True) ad NL := gD_in C.2.2.2.2.2.2.2.2.2.1 (fun _ _ => True.intro)
  have hrc0 : cells ≤ room_1.cells ∧ slots ≤ room_1.slots := ⟨Nat.le_trans (Nat.le_add_right _ _) hrc.1, Nat.le_trans (Nat.le_add_right _ _) hrc.2⟩
  have ha43' : (43, 0) ∈ NL ++ nw := List.mem_append_left _ ha43
  have ha81' : (81, 0) ∈ NL ++ nw := List.mem_append_left _ ha81
  rw [K4] at hf
  replace hf := eqn_in hf
  obtain ⟨hnw, hf⟩ := hf
  subst hnw
  refine lv_aload_n hx hb dL_law_496 rfl (lv_at hl 2 rfl) ?_
  refine r_scr (j := 1) hx hb hX hbl hbA hS hL hl (k0 := 1) (k4 := 0) rfl rfl (by omega) (by decide) dL_law_497 dL_law_498 dL_law_500 dL_law_501 dL_law_502 ?_
  refine r_scr (j := 2) hx hb hX hbl hbA hS hL hl (k0 := 1) (k4 := 0) rfl rfl (by omega) (by decide) dL_law_503 dL_law_504 dL_law_506 dL_law_507 dL_law_508 ?_
  refine r_scr (j := 3) hx hb hX hbl hbA hS hL hl (k0 := 1) (k4 := 0) rfl rfl (by omega) (by decide) dL_law_509 dL_law_510 dL_law_512 dL_law_513 dL_law_514 ?_
  refine r_scr (j := 4) hx hb hX hbl hbA hS hL hl (k0 := 1) (k4 := 0) rfl rfl (by omega) (by decide) dL_law_515 dL_law_516 dL_law_518 dL_law_519 dL_law_520 ?_
  refine r_bool (t1 := 528) (t2 := 529) hx hb dL_law_521 (by decide) dL_law_524 dL_law_525 (by decide) dL_law_528 rfl ?_
  refine lv_aload_n hx hb dL_law_529 rfl (lv_at hl 4 rfl) ?_
  obtain ⟨k1, X1, h1, hf⟩ := b2_in hf
  refine r_callL (nw := []) (rest := []) C hWd hP hS hl.1 rfl (s_L_unmix (nw := []) htr hW hD0 ha0 ha81 h1) True.intro il_L_unmix ls_L_126 ⟨rfl, rfl, Nat.le_of_ble_eq_true rfl, Nat.le_of_ble_eq_true rfl⟩ rfl rfl (Nat.le_of_ble_eq_true rfl) ⟨Nat.le_trans (Nat.add_le_add_left (Nat.le_of_ble_eq_true rfl) _) hrc.1, Nat.le_trans (Nat.add_le_add_left (Nat.le_of_ble_eq_true rfl) _) hrc.2⟩ dL_law_530 (fun C H locs hP hS => ?_)
  refine lv_istore (lv' := [(5, .int k1), (4, .int (nI iN)), (0, .ref b), (1, .ref (ad 0 0)), (2, .ref (ad 43 0)), (3, .ref (ad 81 0))]) hx hb dL_law_533 hl (Nat.le_of_ble_eq_true rfl) rfl (fun ls hl => ?_)
  refine lv_aload_n hx hb dL_law_535 rfl (lv_at hl 4 rfl) ?_
  refine r_scr (j := 1) hx hb hX hbl hbA hS hL hl (k0 := 2) (k4 := 1) rfl rfl (by omega) (by decide) dL_law_536 dL_law_537 dL_law_539 dL_law_540 dL_law_541 ?_
  refine r_scr (j := 2) hx hb hX hbl hbA hS hL hl (k0 := 2) (k4 := 1) rfl rfl (by omega) (by decide) dL_law_542 dL_law_543 dL_law_545 dL_law_546 dL_law_547 ?_
  refine r_scr (j := 3) hx hb hX hbl hbA hS hL hl (k0 := 2) (k4 := 1) rfl rfl (by omega) (by decide) dL_law_548 dL_law_549 dL_law_551 dL_law_552 dL_law_553 ?_
  refine r_scr (j := 4) hx hb hX hbl hbA hS hL hl (k0 := 2) (k4 := 1) rfl rfl (by omega) (by decide) dL_law_554 dL_law_555 dL_law_557 dL_law_558 dL_law_559 ?_
  refine r_bool (t1 := 567) (t2 := 568) hx hb dL_law_560 (by decide) dL_law_563 dL_law_564 (by decide) dL_law_567 rfl ?_
  obtain ⟨k2, X2, h2, hf⟩ := b2_in hf
  refine r_cVi (rest := []) C hP hS hl.1 (s_X10_unmix hW2 (gD_in C.2.2.2.2.2.2.2.2.2.1 (fun _ _ => True.intro)) ha43' h2) ix_X10_unmix iv_X10_unmix lk_L_129 ⟨rfl, rfl, Nat.le_of_ble_eq_true rfl, Nat.le_of_ble_eq_true rfl⟩ ha43' (ct_43 _ _ _ _) rfl rfl rfl rfl (Nat.le_of_ble_eq_true rfl) ⟨Nat.le_trans (Nat.add_le_add_left (Nat.le_of_ble_eq_true rfl) _) hrc.1, Nat.le_trans (Nat.add_le_add_left (Nat.le_of_ble_eq_true rfl) _) hrc.2⟩ dL_law_568 (fun H locs hP hS => ?_)
  refine lv_istore (lv' := [(6, .int k2), (5, .int k1), (4, .int (nI iN)), (0, .ref b), (1, .ref (ad 0 0)), (2, .ref (ad 43 0)), (3, .ref (ad 81 0))]) hx hb dL_law_571 hl (Nat.le_of_ble_eq_true rfl) rfl (fun ls hl => ?_)
  refine lv_aload_n hx hb dL_law_573 rfl (lv_at hl 5 rfl) ?_
  obtain ⟨k3, X3, h3, hf⟩ := b2_in hf
  refine r_cVi (rest := []) C hP hS hl.1 (s_X10_thrown hW2 (gD_in C.2.2.2.2.2.2.2.2.2.1 (fun _ _ => True.intro)) ha43' h3) ix_X10_thrown iv_X10_thrown lk_L_112 ⟨rfl, rfl, Nat.le_of_ble_eq_true rfl, Nat.le_of_ble_eq_true rfl⟩ ha43' (ct_43 _ _ _ _) rfl rfl rfl rfl (Nat.le_of_ble_eq_true rfl) ⟨Nat.le_trans (Nat.add_le_add_left (Nat.le_of_ble_eq_true rfl) _) hrc.1, Nat.le_trans (Nat.add_le_add_left (Nat.le_of_ble_eq_true rfl) _) hrc.2⟩ dL_law_574 (fun H locs hP hS => ?_)
  refine lv_iload hx hb dL_law_577 (lv_at hl 1 rfl) ?_
  refine lv_icmp_eq (tgt := 584) hx hb dL_law_579 (by decide) (fun c1 => ?_) (fun c1 => ?_)
  · have hf := g_ip c1 hf
    refine lv_iload hx hb dL_law_584 (lv_at hl 1 rfl) ?_
    refine lv_if_ne (tgt := 601) hx hb dL_law_586 (by decide) (fun c2 => ?_) (fun c2 => ?_)
    · have hf := g_in c2 hf
      obtain ⟨-, rfl⟩ := g_s1 hf
      refine lv_goto (tgt := 2186) hx hb dL_law_601 (by decide) ?_
      refine W.widen (k := cells + 130) (n := slots + 877) (Nat.add_le_add_left (Nat.le_of_ble_eq_true rfl) _) (Nat.add_le_add_left (Nat.le_of_ble_eq_true rfl) _) ?_
      exact kk C H locs ls hP hS (lv_sub hl [2, 3, 4, 5, 6] rfl)
    · have hf := g_ip c2 hf
      refine lv_aload_n hx hb dL_law_589 rfl (lv_at hl 6 rfl) ?_
      refine lv_iconst (v := 0) hx hb dL_law_590 (by decide) ?_
      refine r_lald (jj := 0) C hP ha81' gIn01 dL_law_591 ?_
      refine lv_iload hx hb dL_law_592 (lv_at hl 0 rfl) ?_
      refine lv_i2l (v := k2.toInt64) hx hb dL_law_594 rfl ?_
      by_cases c3 : X3 81 0 0 = k2
      · have hf := g_ip c3 hf
        obtain ⟨-, rfl⟩ := g_s1 hf
        refine r_lcmp_eq hx hb (congrArg Int32.toInt64 c3) dL_law_595 ?_
        refine lv_if_eq (tgt := 601) hx hb dL_law_596 (by decide) (fun _ => ?_) (fun c4 => absurd rfl c4)
        refine lv_goto (tgt := 2186) hx hb dL_law_601 (by decide) ?_
        refine W.widen (k := cells + 130) (n := slots + 877) (Nat.add_le_add_left (Nat.le_of_ble_eq_true rfl) _) (Nat.add_le_add_left (Nat.le_of_ble_eq_true rfl) _) ?_
        exact kk C H locs ls hP hS (lv_sub hl [2, 3, 4, 5, 6] rfl)
      · have hf := g_in c3 hf
        cases hf
  · have hf := g_in c1 hf
    cases hf

set_option maxRecDepth 100000 in
set_option maxHeartbeats 4000000 in
theorem s_K5 {p : Program} {l : Launch} {e : Env} {s : State} {m : MethodId} {args : Array Value} {below : List Frame} {meth : Method} {c : Code} {H : Heap} {locs : List Loc} {cells slots : Nat} {Q : State → Prop} {rt : Option FieldType} {ls : Array Slot} {D : va_G} {cA : Nat → ClassId} {ad : Nat → Nat → Nat} {NL nw : List (Nat × Nat)} {A : Nat → Prop} {X X' : gM} {N b L iN : Nat} {xs : Nat → Int32} {rr : Int32} (C : gCx p c meth m s args cL_law 7 rt RL D cA ad NL A) (hWd : gWd A s) (htr : l.stackTraces = false) (hW : gWf NL) (hW2 : gWf (NL ++ nw)) (ha0 : (0, 0) ∈ NL) (ha43 : (43, 0) ∈ NL) (ha81 : (81, 0) ∈ NL) (hX : va_X b L xs s s.heap) (hbl : b < s.heap.size) (hbA : ¬ A b) (hL : L ≤ 3584) (hi : iN + 7 ≤ L) (hal : gAl ad) (hadr : gAdr ad H.size nw) (hP : gH D cA ad NL X H) (hS : va_S A s.heap H locs) (hl : lv_has ls 7 [(4, .int (nI iN)), (0, .ref b), (1, .ref (ad 0 0)), (2, .ref (ad 43 0)), (3, .ref (ad 81 0))]) (hrc : cells + 130 ≤ room_1.cells ∧ slots + 877 ≤ room_1.slots)
    (hf : K5 (gal NL) (gal (NL ++ nw)) N nw (xs (iN + 1)) (xs (iN + 2)) (xs (iN + 3)) (xs (iN + 4)) (xs (iN + 5)) (xs (iN + 6)) X = some (rr, X'))
    (kk : gCx p c meth m s args cL_law 7 rt RL D cA ad (NL ++ nw) A → ∀ (H : Heap) (locs : List Loc) (ls : Array Slot), gH D cA ad (NL ++ nw) X' H → va_S A s.heap H locs → lv_has ls 7 [(4, .int (nI iN)), (0, .ref b), (1, .ref (ad 0 0)), (2, .ref (ad 43 0)), (3, .ref (ad 81 0))] → W p l e room_1 s m args below meth c H locs (cells + 130) (slots + 877) Q (F0 m 2186 ls [])) : W p l e room_1 s m args below meth c H locs cells slots Q (F0 m 604 ls []) := by
  have hx := C.1
  have hb := C.2.1
  have hD0 : gD (fun _ => True) ad NL := gD_in C.2.2.2.2.2.2.2.2.2.1 (fun _ _ => True.intro)
  have hrc0 : cells ≤ room_1.cells ∧ slots ≤ room_1.slots := ⟨Nat.le_trans (Nat.le_add_right _ _) hrc.1, Nat.le_trans (Nat.le_add_right _ _) hrc.2⟩
  have ha43' : (43, 0) ∈ NL ++ nw := List.mem_append_left _ ha43
  have ha81' : (81, 0) ∈ NL ++ nw := List.mem_append_left _ ha81
  rw [K5] at hf
  replace hf := eqn_in hf
  obtain ⟨hnw, hf⟩ := hf
  subst hnw
  refine lv_aload_n hx hb dL_law_604 rfl (lv_at hl 2 rfl) ?_
  refine r_scr (j := 1) hx hb hX hbl hbA hS hL hl (k0 := 1) (k4 := 0) rfl rfl (by omega) (by decide) dL_law_605 dL_law_606 dL_law_608 dL_law_609 dL_law_610 ?_
  refine r_scr (j := 2) hx hb hX hbl hbA hS hL hl (k0 := 1) (k4 := 0) rfl rfl (by omega) (by decide) dL_law_611 dL_law_612 dL_law_614 dL_law_615 dL_law_616 ?_
  refine r_scr (j := 3) hx hb hX hbl hbA hS hL hl (k0 := 1) (k4 := 0) rfl rfl (by omega) (by decide) dL_law_617 dL_law_618 dL_law_620 dL_law_621 dL_law_622 ?_
  refine r_scr (j := 4) hx hb hX hbl hbA hS hL hl (k0 := 1) (k4 := 0) rfl rfl (by omega) (by decide) dL_law_623 dL_law_624 dL_law_626 dL_law_627 dL_law_628 ?_
  refine r_scr (j := 5) hx hb hX hbl hbA hS hL hl (k0 := 1) (k4 := 0) rfl rfl (by omega) (by decide) dL_law_629 dL_law_630 dL_law_632 dL_law_633 dL_law_634 ?_
  refine r_scr6 (j := 6) hx hb hX hbl hbA hS hL hl (k0 := 1) (k4 := 0) rfl rfl (by omega) (by decide) dL_law_635 dL_law_636 dL_law_638 dL_law_640 dL_law_641 ?_
  refine lv_aload_n hx hb dL_law_642 rfl (lv_at hl 4 rfl) ?_
  obtain ⟨k1, X1, h1, hf⟩ := b2_in hf
  refine r_callL (nw := []) (rest := []) C hWd hP hS hl.1 rfl (s_L_give (nw := []) htr hW hD0 ha0 ha81 h1) True.intro il_L_give ls_L_130 ⟨rfl, rfl, Nat.le_of_ble_eq_true rfl, Nat.le_of_ble_eq_true rfl⟩ rfl rfl (Nat.le_of_ble_eq_true rfl) ⟨Nat.le_trans (Nat.add_le_add_left (Nat.le_of_ble_eq_true rfl) _) hrc.1, Nat.le_trans (Nat.add_le_add_left (Nat.le_of_ble_eq_true rfl) _) hrc.2⟩ dL_law_643 (fun C H locs hP hS => ?_)
  refine lv_istore (lv' := [(5, .int k1), (4, .int (nI iN)), (0, .ref b), (1, .ref (ad 0 0)), (2, .ref (ad 43 0)), (3, .ref (ad 81 0))]) hx hb dL_law_646 hl (Nat.le_of_ble_eq_true rfl) rfl (fun ls hl => ?_)
  refine lv_aload_n hx hb dL_law_648 rfl (lv_at hl 4 rfl) ?_
  refine r_scr (j := 1) hx hb hX hbl hbA hS hL hl (k0 := 2) (k4 := 1) rfl rfl (by omega) (by decide) dL_law_649 dL_law_650 dL_law_652 dL_law_653 dL_law_654 ?_
  refine r_scr (j := 2) hx hb hX hbl hbA hS hL hl (k0 := 2) (k4 := 1) rfl rfl (by omega) (by decide) dL_law_655 dL_law_656 dL_law_658 dL_law_659 dL_law_660 ?_
  refine r_scr (j := 3) hx hb hX hbl hbA hS hL hl (k0 := 2) (k4 := 1) rfl rfl (by omega) (by decide) dL_law_661 dL_law_662 dL_law_664 dL_law_665 dL_law_666 ?_
  refine r_scr (j := 4) hx hb hX hbl hbA hS hL hl (k0 := 2) (k4 := 1) rfl rfl (by omega) (by decide) dL_law_667 dL_law_668 dL_law_670 dL_law_671 dL_law_672 ?_
  refine r_scr (j := 5) hx hb hX hbl hbA hS hL hl (k0 := 2) (k4 := 1) rfl rfl (by omega) (by decide) dL_law_673 dL_law_674 dL_law_676 dL_law_677 dL_law_678 ?_
  refine r_scr6 (j := 6) hx hb hX hbl hbA hS hL hl (k0 := 2) (k4 := 1) rfl rfl (by omega) (by decide) dL_law_679 dL_law_680 dL_law_682 dL_law_684 dL_law_685 ?_
  obtain ⟨k2, X2, h2, hf⟩ := b2_in hf
  refine r_cVi (rest := []) C hP hS hl.1 (s_X10_give hW2 (gD_in C.2.2.2.2.2.2.2.2.2.1 (fun _ _ => True.intro)) ha43' h2) ix_X10_give iv_X10_give lk_L_133 ⟨rfl, rfl, Nat.le_of_ble_eq_true rfl, Nat.le_of_ble_eq_true rfl⟩ ha43' (ct_43 _ _ _ _) rfl rfl rfl rfl (Nat.le_of_ble_eq_true rfl) ⟨Nat.le_trans (Nat.add_le_add_left (Nat.le_of_ble_eq_true rfl) _) hrc.1, Nat.le_trans (Nat.add_le_add_left (Nat.le_of_ble_eq_true rfl) _) hrc.2⟩ dL_law_686 (fun H locs hP hS => ?_)
  refine lv_istore (lv' := [(6, .int k2), (5, .int k1), (4, .int (nI iN)), (0, .ref b), (1, .ref (ad 0 0)), (2, .ref (ad 43 0)), (3, .ref (ad 81 0))]) hx hb dL_law_689 hl (Nat.le_of_ble_eq_true rfl) rfl (fun ls hl => ?_)
  refine lv_aload_n hx hb dL_law_691 rfl (lv_at hl 5 rfl) ?_
  obtain ⟨k3, X3, h3, hf⟩ := b2_in hf
  refine r_cVi (rest := []) C hP hS hl.1 (s_X10_thrown hW2 (gD_in C.2.2.2.2.2.2.2.2.2.1 (fun _ _ => True.intro)) ha43' h3) ix_X10_thrown iv_X10_thrown lk_L_112 ⟨rfl, rfl, Nat.le_of_ble_eq_true rfl, Nat.le_of_ble_eq_true rfl⟩ ha43' (ct_43 _ _ _ _) rfl rfl rfl rfl (Nat.le_of_ble_eq_true rfl) ⟨Nat.le_trans (Nat.add_le_add_left (Nat.le_of_ble_eq_true rfl) _) hrc.1, Nat.le_trans (Nat.add_le_add_left (Nat.le_of_ble_eq_true rfl) _) hrc.2⟩ dL_law_692 (fun H locs hP hS => ?_)
  refine lv_iload hx hb dL_law_695 (lv_at hl 1 rfl) ?_
  refine lv_icmp_eq (tgt := 702) hx hb dL_law_697 (by decide) (fun c1 => ?_) (fun c1 => ?_)
  · have hf := g_ip c1 hf
    refine lv_iload hx hb dL_law_702 (lv_at hl 1 rfl) ?_
    refine lv_if_ne (tgt := 719) hx hb dL_law_704 (by decide) (fun c2 => ?_) (fun c2 => ?_)
    · have hf := g_in c2 hf
      obtain ⟨-, rfl⟩ := g_s1 hf
      refine lv_goto (tgt := 2186) hx hb dL_law_719 (by decide) ?_
      refine W.widen (k := cells + 130) (n := slots + 877) (Nat.add_le_add_left (Nat.le_of_ble_eq_true rfl) _) (Nat.add_le_add_left (Nat.le_of_ble_eq_true rfl) _) ?_
      exact kk C H locs ls hP hS (lv_sub hl [2, 3, 4, 5, 6] rfl)
    · have hf := g_ip c2 hf
      refine lv_aload_n hx hb dL_law_707 rfl (lv_at hl 6 rfl) ?_
      refine lv_iconst (v := 0) hx hb dL_law_708 (by decide) ?_
      refine r_lald (jj := 0) C hP ha81' gIn01 dL_law_709 ?_
      refine lv_iload hx hb dL_law_710 (lv_at hl 0 rfl) ?_
      refine lv_i2l (v := k2.toInt64) hx hb dL_law_712 rfl ?_
      by_cases c3 : X3 81 0 0 = k2
      · have hf := g_ip c3 hf
        obtain ⟨-, rfl⟩ := g_s1 hf
        refine r_lcmp_eq hx hb (congrArg Int32.toInt64 c3) dL_law_713 ?_
        refine lv_if_eq (tgt := 719) hx hb dL_law_714 (by decide) (fun _ => ?_) (fun c4 => absurd rfl c4)
        refine lv_goto (tgt := 2186) hx hb dL_law_719 (by decide) ?_
        refine W.widen (k := cells + 130) (n := slots + 877) (Nat.add_le_add_left (Nat.le_of_ble_eq_true rfl) _) (Nat.add_le_add_left (Nat.le_of_ble_eq_true rfl) _) ?_
        exact kk C H locs ls hP hS (lv_sub hl [2, 3, 4, 5, 6] rfl)
      · have hf := g_in c3 hf
        cases hf
  · have hf := g_in c1 hf
    cases hf

set_option maxRecDepth 100000 in
set_option maxHeartbeats 4000000 in
theorem s_K6 {p : Program} {l : Launch} {e : Env} {s : State} {m : MethodId} {args : Array Value} {below : List Frame} {meth : Method} {c : Code} {H : Heap} {locs : List Loc} {cells slots : Nat} {Q : State → Prop} {rt : Option FieldType} {ls : Array Slot} {D : va_G} {cA : Nat → ClassId} {ad : Nat → Nat → Nat} {NL nw : List (Nat × Nat)} {A : Nat → Prop} {X X' : gM} {N b L iN : Nat} {xs : Nat → Int32} {rr : Int32} (C : gCx p c meth m s args cL_law 7 rt RL D cA ad NL A) (hWd : gWd A s) (htr : l.stackTraces = false) (hW : gWf NL) (hW2 : gWf (NL ++ nw)) (ha0 : (0, 0) ∈ NL) (ha43 : (43, 0) ∈ NL) (ha81 : (81, 0) ∈ NL) (hX : va_X b L xs s s.heap) (hbl : b < s.heap.size) (hbA : ¬ A b) (hL : L ≤ 3584) (hi : iN + 7 ≤ L) (hal : gAl ad) (hadr : gAdr ad H.size nw) (hP : gH D cA ad NL X H) (hS : va_S A s.heap H locs) (hl : lv_has ls 7 [(4, .int (nI iN)), (0, .ref b), (1, .ref (ad 0 0)), (2, .ref (ad 43 0)), (3, .ref (ad 81 0))]) (hrc : cells + 130 ≤ room_1.cells ∧ slots + 877 ≤ room_1.slots)
    (hf : K6 (gal NL) (gal (NL ++ nw)) N nw (xs (iN + 1)) (xs (iN + 2)) (xs (iN + 3)) (xs (iN + 4)) (xs (iN + 5)) (xs (iN + 6)) X = some (rr, X'))
    (kk : gCx p c meth m s args cL_law 7 rt RL D cA ad (NL ++ nw) A → ∀ (H : Heap) (locs : List Loc) (ls : Array Slot), gH D cA ad (NL ++ nw) X' H → va_S A s.heap H locs → lv_has ls 7 [(4, .int (nI iN)), (0, .ref b), (1, .ref (ad 0 0)), (2, .ref (ad 43 0)), (3, .ref (ad 81 0))] → W p l e room_1 s m args below meth c H locs (cells + 130) (slots + 877) Q (F0 m 2186 ls [])) : W p l e room_1 s m args below meth c H locs cells slots Q (F0 m 722 ls []) := by
  have hx := C.1
  have hb := C.2.1
  have hD0 : gD (fun _ => True) ad NL := gD_in C.2.2.2.2.2.2.2.2.2.1 (fun _ _ => True.intro)
  have hrc0 : cells ≤ room_1.cells ∧ slots ≤ room_1.slots := ⟨Nat.le_trans (Nat.le_add_right _ _) hrc.1, Nat.le_trans (Nat.le_add_right _ _) hrc.2⟩
  have ha43' : (43, 0) ∈ NL ++ nw := List.mem_append_left _ ha43
  have ha81' : (81, 0) ∈ NL ++ nw := List.mem_append_left _ ha81
  rw [K6] at hf
  replace hf := eqn_in hf
  obtain ⟨hnw, hf⟩ := hf
  subst hnw
  refine lv_aload_n hx hb dL_law_722 rfl (lv_at hl 2 rfl) ?_
  refine r_scr (j := 1) hx hb hX hbl hbA hS hL hl (k0 := 1) (k4 := 0) rfl rfl (by omega) (by decide) dL_law_723 dL_law_724 dL_law_726 dL_law_727 dL_law_728 ?_
  refine lv_aload_n hx hb dL_law_729 rfl (lv_at hl 4 rfl) ?_
  obtain ⟨k1, X1, h1, hf⟩ := b2_in hf
  refine r_callL (nw := []) (rest := []) C hWd hP hS hl.1 rfl (s_L_type (nw := []) htr hW hD0 ha0 ha81 h1) True.intro il_L_type ls_L_134 ⟨rfl, rfl, Nat.le_of_ble_eq_true rfl, Nat.le_of_ble_eq_true rfl⟩ rfl rfl (Nat.le_of_ble_eq_true rfl) ⟨Nat.le_trans (Nat.add_le_add_left (Nat.le_of_ble_eq_true rfl) _) hrc.1, Nat.le_trans (Nat.add_le_add_left (Nat.le_of_ble_eq_true rfl) _) hrc.2⟩ dL_law_730 (fun C H locs hP hS => ?_)
  refine lv_istore (lv' := [(5, .int k1), (4, .int (nI iN)), (0, .ref b), (1, .ref (ad 0 0)), (2, .ref (ad 43 0)), (3, .ref (ad 81 0))]) hx hb dL_law_733 hl (Nat.le_of_ble_eq_true rfl) rfl (fun ls hl => ?_)
  refine lv_aload_n hx hb dL_law_735 rfl (lv_at hl 4 rfl) ?_
  refine r_scr (j := 1) hx hb hX hbl hbA hS hL hl (k0 := 2) (k4 := 1) rfl rfl (by omega) (by decide) dL_law_736 dL_law_737 dL_law_739 dL_law_740 dL_law_741 ?_
  obtain ⟨k2, X2, h2, hf⟩ := b2_in hf
  refine r_cVi (rest := []) C hP hS hl.1 (s_X10_type hW2 (gD_in C.2.2.2.2.2.2.2.2.2.1 (fun _ _ => True.intro)) ha43' h2) ix_X10_type iv_X10_type lk_L_137 ⟨rfl, rfl, Nat.le_of_ble_eq_true rfl, Nat.le_of_ble_eq_true rfl⟩ ha43' (ct_43 _ _ _ _) rfl rfl rfl rfl (Nat.le_of_ble_eq_true rfl) ⟨Nat.le_trans (Nat.add_le_add_left (Nat.le_of_ble_eq_true rfl) _) hrc.1, Nat.le_trans (Nat.add_le_add_left (Nat.le_of_ble_eq_true rfl) _) hrc.2⟩ dL_law_742 (fun H locs hP hS => ?_)
  refine lv_istore (lv' := [(6, .int k2), (5, .int k1), (4, .int (nI iN)), (0, .ref b), (1, .ref (ad 0 0)), (2, .ref (ad 43 0)), (3, .ref (ad 81 0))]) hx hb dL_law_745 hl (Nat.le_of_ble_eq_true rfl) rfl (fun ls hl => ?_)
  refine lv_aload_n hx hb dL_law_747 rfl (lv_at hl 5 rfl) ?_
  obtain ⟨k3, X3, h3, hf⟩ := b2_in hf
  refine r_cVi (rest := []) C hP hS hl.1 (s_X10_thrown hW2 (gD_in C.2.2.2.2.2.2.2.2.2.1 (fun _ _ => True.intro)) ha43' h3) ix_X10_thrown iv_X10_thrown lk_L_112 ⟨rfl, rfl, Nat.le_of_ble_eq_true rfl, Nat.le_of_ble_eq_true rfl⟩ ha43' (ct_43 _ _ _ _) rfl rfl rfl rfl (Nat.le_of_ble_eq_true rfl) ⟨Nat.le_trans (Nat.add_le_add_left (Nat.le_of_ble_eq_true rfl) _) hrc.1, Nat.le_trans (Nat.add_le_add_left (Nat.le_of_ble_eq_true rfl) _) hrc.2⟩ dL_law_748 (fun H locs hP hS => ?_)
  refine lv_iload hx hb dL_law_751 (lv_at hl 1 rfl) ?_
  refine lv_icmp_eq (tgt := 758) hx hb dL_law_753 (by decide) (fun c1 => ?_) (fun c1 => ?_)
  · have hf := g_ip c1 hf
    refine lv_iload hx hb dL_law_758 (lv_at hl 1 rfl) ?_
    refine lv_if_ne (tgt := 775) hx hb dL_law_760 (by decide) (fun c2 => ?_) (fun c2 => ?_)
    · have hf := g_in c2 hf
      obtain ⟨-, rfl⟩ := g_s1 hf
      refine lv_goto (tgt := 2186) hx hb dL_law_775 (by decide) ?_
      refine W.widen (k := cells + 130) (n := slots + 877) (Nat.add_le_add_left (Nat.le_of_ble_eq_true rfl) _) (Nat.add_le_add_left (Nat.le_of_ble_eq_true rfl) _) ?_
      exact kk C H locs ls hP hS (lv_sub hl [2, 3, 4, 5, 6] rfl)
    · have hf := g_ip c2 hf
      refine lv_aload_n hx hb dL_law_763 rfl (lv_at hl 6 rfl) ?_
      refine lv_iconst (v := 0) hx hb dL_law_764 (by decide) ?_
      refine r_lald (jj := 0) C hP ha81' gIn01 dL_law_765 ?_
      refine lv_iload hx hb dL_law_766 (lv_at hl 0 rfl) ?_
      refine lv_i2l (v := k2.toInt64) hx hb dL_law_768 rfl ?_
      by_cases c3 : X3 81 0 0 = k2
      · have hf := g_ip c3 hf
        obtain ⟨-, rfl⟩ := g_s1 hf
        refine r_lcmp_eq hx hb (congrArg Int32.toInt64 c3) dL_law_769 ?_
        refine lv_if_eq (tgt := 775) hx hb dL_law_770 (by decide) (fun _ => ?_) (fun c4 => absurd rfl c4)
        refine lv_goto (tgt := 2186) hx hb dL_law_775 (by decide) ?_
        refine W.widen (k := cells + 130) (n := slots + 877) (Nat.add_le_add_left (Nat.le_of_ble_eq_true rfl) _) (Nat.add_le_add_left (Nat.le_of_ble_eq_true rfl) _) ?_
        exact kk C H locs ls hP hS (lv_sub hl [2, 3, 4, 5, 6] rfl)
      · have hf := g_in c3 hf
        cases hf
  · have hf := g_in c1 hf
    cases hf

set_option maxRecDepth 100000 in
set_option maxHeartbeats 4000000 in
theorem s_K7 {p : Program} {l : Launch} {e : Env} {s : State} {m : MethodId} {args : Array Value} {below : List Frame} {meth : Method} {c : Code} {H : Heap} {locs : List Loc} {cells slots : Nat} {Q : State → Prop} {rt : Option FieldType} {ls : Array Slot} {D : va_G} {cA : Nat → ClassId} {ad : Nat → Nat → Nat} {NL nw : List (Nat × Nat)} {A : Nat → Prop} {X X' : gM} {N b L iN : Nat} {xs : Nat → Int32} {rr : Int32} (C : gCx p c meth m s args cL_law 7 rt RL D cA ad NL A) (hWd : gWd A s) (htr : l.stackTraces = false) (hW : gWf NL) (hW2 : gWf (NL ++ nw)) (ha0 : (0, 0) ∈ NL) (ha43 : (43, 0) ∈ NL) (ha81 : (81, 0) ∈ NL) (hX : va_X b L xs s s.heap) (hbl : b < s.heap.size) (hbA : ¬ A b) (hL : L ≤ 3584) (hi : iN + 7 ≤ L) (hal : gAl ad) (hadr : gAdr ad H.size nw) (hP : gH D cA ad NL X H) (hS : va_S A s.heap H locs) (hl : lv_has ls 7 [(4, .int (nI iN)), (0, .ref b), (1, .ref (ad 0 0)), (2, .ref (ad 43 0)), (3, .ref (ad 81 0))]) (hrc : cells + 130 ≤ room_1.cells ∧ slots + 877 ≤ room_1.slots)
    (hf : K7 (gal NL) (gal (NL ++ nw)) N nw (xs (iN + 1)) (xs (iN + 2)) (xs (iN + 3)) (xs (iN + 4)) (xs (iN + 5)) (xs (iN + 6)) X = some (rr, X'))
    (kk : gCx p c meth m s args cL_law 7 rt RL D cA ad (NL ++ nw) A → ∀ (H : Heap) (locs : List Loc) (ls : Array Slot), gH D cA ad (NL ++ nw) X' H → va_S A s.heap H locs → lv_has ls 7 [(4, .int (nI iN)), (0, .ref b), (1, .ref (ad 0 0)), (2, .ref (ad 43 0)), (3, .ref (ad 81 0))] → W p l e room_1 s m args below meth c H locs (cells + 130) (slots + 877) Q (F0 m 2186 ls [])) : W p l e room_1 s m args below meth c H locs cells slots Q (F0 m 778 ls []) := by
  have hx := C.1
  have hb := C.2.1
  have hD0 : gD (fun _ => True) ad NL := gD_in C.2.2.2.2.2.2.2.2.2.1 (fun _ _ => True.intro)
  have hrc0 : cells ≤ room_1.cells ∧ slots ≤ room_1.slots := ⟨Nat.le_trans (Nat.le_add_right _ _) hrc.1, Nat.le_trans (Nat.le_add_right _ _) hrc.2⟩
  have ha43' : (43, 0) ∈ NL ++ nw := List.mem_append_left _ ha43
  have ha81' : (81, 0) ∈ NL ++ nw := List.mem_append_left _ ha81
  rw [K7] at hf
  refine lv_aload_n hx hb dL_law_778 rfl (lv_at hl 2 rfl) ?_
  refine lv_aload_n hx hb dL_law_779 rfl (lv_at hl 4 rfl) ?_
  obtain ⟨k1, X1, h1, hf⟩ := b2_in hf
  refine r_callL (nw := nw) (rest := []) C hWd hP hS hl.1 rfl (s_L_word htr hW hD0 hal hadr ha0 ha81 h1) hadr il_L_word ls_L_138 ⟨rfl, rfl, Nat.le_of_ble_eq_true rfl, Nat.le_of_ble_eq_true rfl⟩ rfl rfl (Nat.le_of_ble_eq_true rfl) ⟨Nat.le_trans (Nat.add_le_add_left (Nat.le_of_ble_eq_true rfl) _) hrc.1, Nat.le_trans (Nat.add_le_add_left (Nat.le_of_ble_eq_true rfl) _) hrc.2⟩ dL_law_780 (fun C H locs hP hS => ?_)
  refine lv_istore (lv' := [(5, .int k1), (4, .int (nI iN)), (0, .ref b), (1, .ref (ad 0 0)), (2, .ref (ad 43 0)), (3, .ref (ad 81 0))]) hx hb dL_law_783 hl (Nat.le_of_ble_eq_true rfl) rfl (fun ls hl => ?_)
  refine lv_aload_n hx hb dL_law_785 rfl (lv_at hl 4 rfl) ?_
  obtain ⟨k2, X2, h2, hf⟩ := b2_in hf
  refine r_cVi (rest := []) C hP hS hl.1 (s_X10_word hW2 (gD_in C.2.2.2.2.2.2.2.2.2.1 (fun _ _ => True.intro)) ha43' h2) ix_X10_word iv_X10_word lk_L_141 ⟨rfl, rfl, Nat.le_of_ble_eq_true rfl, Nat.le_of_ble_eq_true rfl⟩ ha43' (ct_43 _ _ _ _) rfl rfl rfl rfl (Nat.le_of_ble_eq_true rfl) ⟨Nat.le_trans (Nat.add_le_add_left (Nat.le_of_ble_eq_true rfl) _) hrc.1, Nat.le_trans (Nat.add_le_add_left (Nat.le_of_ble_eq_true rfl) _) hrc.2⟩ dL_law_786 (fun H locs hP hS => ?_)
  refine lv_istore (lv' := [(6, .int k2), (5, .int k1), (4, .int (nI iN)), (0, .ref b), (1, .ref (ad 0 0)), (2, .ref (ad 43 0)), (3, .ref (ad 81 0))]) hx hb dL_law_789 hl (Nat.le_of_ble_eq_true rfl) rfl (fun ls hl => ?_)
  refine lv_aload_n hx hb dL_law_791 rfl (lv_at hl 5 rfl) ?_
  obtain ⟨k3, X3, h3, hf⟩ := b2_in hf
  refine r_cVi (rest := []) C hP hS hl.1 (s_X10_thrown hW2 (gD_in C.2.2.2.2.2.2.2.2.2.1 (fun _ _ => True.intro)) ha43' h3) ix_X10_thrown iv_X10_thrown lk_L_112 ⟨rfl, rfl, Nat.le_of_ble_eq_true rfl, Nat.le_of_ble_eq_true rfl⟩ ha43' (ct_43 _ _ _ _) rfl rfl rfl rfl (Nat.le_of_ble_eq_true rfl) ⟨Nat.le_trans (Nat.add_le_add_left (Nat.le_of_ble_eq_true rfl) _) hrc.1, Nat.le_trans (Nat.add_le_add_left (Nat.le_of_ble_eq_true rfl) _) hrc.2⟩ dL_law_792 (fun H locs hP hS => ?_)
  refine lv_iload hx hb dL_law_795 (lv_at hl 1 rfl) ?_
  refine lv_icmp_eq (tgt := 802) hx hb dL_law_797 (by decide) (fun c1 => ?_) (fun c1 => ?_)
  · have hf := g_ip c1 hf
    refine lv_iload hx hb dL_law_802 (lv_at hl 1 rfl) ?_
    refine lv_if_ne (tgt := 819) hx hb dL_law_804 (by decide) (fun c2 => ?_) (fun c2 => ?_)
    · have hf := g_in c2 hf
      obtain ⟨-, rfl⟩ := g_s1 hf
      refine lv_goto (tgt := 2186) hx hb dL_law_819 (by decide) ?_
      refine W.widen (k := cells + 130) (n := slots + 877) (Nat.add_le_add_left (Nat.le_of_ble_eq_true rfl) _) (Nat.add_le_add_left (Nat.le_of_ble_eq_true rfl) _) ?_
      exact kk C H locs ls hP hS (lv_sub hl [2, 3, 4, 5, 6] rfl)
    · have hf := g_ip c2 hf
      refine lv_aload_n hx hb dL_law_807 rfl (lv_at hl 6 rfl) ?_
      refine lv_iconst (v := 0) hx hb dL_law_808 (by decide) ?_
      refine r_lald (jj := 0) C hP ha81' gIn01 dL_law_809 ?_
      refine lv_iload hx hb dL_law_810 (lv_at hl 0 rfl) ?_
      refine lv_i2l (v := k2.toInt64) hx hb dL_law_812 rfl ?_
      by_cases c3 : X3 81 0 0 = k2
      · have hf := g_ip c3 hf
        obtain ⟨-, rfl⟩ := g_s1 hf
        refine r_lcmp_eq hx hb (congrArg Int32.toInt64 c3) dL_law_813 ?_
        refine lv_if_eq (tgt := 819) hx hb dL_law_814 (by decide) (fun _ => ?_) (fun c4 => absurd rfl c4)
        refine lv_goto (tgt := 2186) hx hb dL_law_819 (by decide) ?_
        refine W.widen (k := cells + 130) (n := slots + 877) (Nat.add_le_add_left (Nat.le_of_ble_eq_true rfl) _) (Nat.add_le_add_left (Nat.le_of_ble_eq_true rfl) _) ?_
        exact kk C H locs ls hP hS (lv_sub hl [2, 3, 4, 5, 6] rfl)
      · have hf := g_in c3 hf
        cases hf
  · have hf := g_in c1 hf
    cases hf

set_option maxRecDepth 100000 in
set_option maxHeartbeats 4000000 in
theorem s_K8 {p : Program} {l : Launch} {e : Env} {s : State} {m : MethodId} {args : Array Value} {below : List Frame} {meth : Method} {c : Code} {H : Heap} {locs : List Loc} {cells slots : Nat} {Q : State → Prop} {rt : Option FieldType} {ls : Array Slot} {D : va_G} {cA : Nat → ClassId} {ad : Nat → Nat → Nat} {NL nw : List (Nat × Nat)} {A : Nat → Prop} {X X' : gM} {N b L iN : Nat} {xs : Nat → Int32} {rr : Int32} (C : gCx p c meth m s args cL_law 7 rt RL D cA ad NL A) (hWd : gWd A s) (htr : l.stackTraces = false) (hW : gWf NL) (hW2 : gWf (NL ++ nw)) (ha0 : (0, 0) ∈ NL) (ha43 : (43, 0) ∈ NL) (ha81 : (81, 0) ∈ NL) (hX : va_X b L xs s s.heap) (hbl : b < s.heap.size) (hbA : ¬ A b) (hL : L ≤ 3584) (hi : iN + 7 ≤ L) (hal : gAl ad) (hadr : gAdr ad H.size nw) (hP : gH D cA ad NL X H) (hS : va_S A s.heap H locs) (hl : lv_has ls 7 [(4, .int (nI iN)), (0, .ref b), (1, .ref (ad 0 0)), (2, .ref (ad 43 0)), (3, .ref (ad 81 0))]) (hrc : cells + 130 ≤ room_1.cells ∧ slots + 877 ≤ room_1.slots)
    (hf : K8 (gal NL) (gal (NL ++ nw)) N nw (xs (iN + 1)) (xs (iN + 2)) (xs (iN + 3)) (xs (iN + 4)) (xs (iN + 5)) (xs (iN + 6)) X = some (rr, X'))
    (kk : gCx p c meth m s args cL_law 7 rt RL D cA ad (NL ++ nw) A → ∀ (H : Heap) (locs : List Loc) (ls : Array Slot), gH D cA ad (NL ++ nw) X' H → va_S A s.heap H locs → lv_has ls 7 [(4, .int (nI iN)), (0, .ref b), (1, .ref (ad 0 0)), (2, .ref (ad 43 0)), (3, .ref (ad 81 0))] → W p l e room_1 s m args below meth c H locs (cells + 130) (slots + 877) Q (F0 m 2186 ls [])) : W p l e room_1 s m args below meth c H locs cells slots Q (F0 m 822 ls []) := by
  have hx := C.1
  have hb := C.2.1
  have hD0 : gD (fun _ => True) ad NL := gD_in C.2.2.2.2.2.2.2.2.2.1 (fun _ _ => True.intro)
  have hrc0 : cells ≤ room_1.cells ∧ slots ≤ room_1.slots := ⟨Nat.le_trans (Nat.le_add_right _ _) hrc.1, Nat.le_trans (Nat.le_add_right _ _) hrc.2⟩
  have ha43' : (43, 0) ∈ NL ++ nw := List.mem_append_left _ ha43
  have ha81' : (81, 0) ∈ NL ++ nw := List.mem_append_left _ ha81
  rw [K8] at hf
  refine lv_aload_n hx hb dL_law_822 rfl (lv_at hl 2 rfl) ?_
  refine lv_aload_n hx hb dL_law_823 rfl (lv_at hl 4 rfl) ?_
  obtain ⟨k1, X1, h1, hf⟩ := b2_in hf
  refine r_callL (nw := nw) (rest := []) C hWd hP hS hl.1 rfl (s_L_work htr hW hD0 hal hadr ha0 ha81 h1) hadr il_L_work ls_L_142 ⟨rfl, rfl, Nat.le_of_ble_eq_true rfl, Nat.le_of_ble_eq_true rfl⟩ rfl rfl (Nat.le_of_ble_eq_true rfl) ⟨Nat.le_trans (Nat.add_le_add_left (Nat.le_of_ble_eq_true rfl) _) hrc.1, Nat.le_trans (Nat.add_le_add_left (Nat.le_of_ble_eq_true rfl) _) hrc.2⟩ dL_law_824 (fun C H locs hP hS => ?_)
  refine lv_istore (lv' := [(5, .int k1), (4, .int (nI iN)), (0, .ref b), (1, .ref (ad 0 0)), (2, .ref (ad 43 0)), (3, .ref (ad 81 0))]) hx hb dL_law_827 hl (Nat.le_of_ble_eq_true rfl) rfl (fun ls hl => ?_)
  refine lv_aload_n hx hb dL_law_829 rfl (lv_at hl 4 rfl) ?_
  obtain ⟨k2, X2, h2, hf⟩ := b2_in hf
  refine r_cVi (rest := []) C hP hS hl.1 (s_X10_work hW2 (gD_in C.2.2.2.2.2.2.2.2.2.1 (fun _ _ => True.intro)) ha43' h2) ix_X10_work iv_X10_work lk_L_144 ⟨rfl, rfl, Nat.le_of_ble_eq_true rfl, Nat.le_of_ble_eq_true rfl⟩ ha43' (ct_43 _ _ _ _) rfl rfl rfl rfl (Nat.le_of_ble_eq_true rfl) ⟨Nat.le_trans (Nat.add_le_add_left (Nat.le_of_ble_eq_true rfl) _) hrc.1, Nat.le_trans (Nat.add_le_add_left (Nat.le_of_ble_eq_true rfl) _) hrc.2⟩ dL_law_830 (fun H locs hP hS => ?_)
  refine lv_istore (lv' := [(6, .int k2), (5, .int k1), (4, .int (nI iN)), (0, .ref b), (1, .ref (ad 0 0)), (2, .ref (ad 43 0)), (3, .ref (ad 81 0))]) hx hb dL_law_833 hl (Nat.le_of_ble_eq_true rfl) rfl (fun ls hl => ?_)
  refine lv_aload_n hx hb dL_law_835 rfl (lv_at hl 5 rfl) ?_
  obtain ⟨k3, X3, h3, hf⟩ := b2_in hf
  refine r_cVi (rest := []) C hP hS hl.1 (s_X10_thrown hW2 (gD_in C.2.2.2.2.2.2.2.2.2.1 (fun _ _ => True.intro)) ha43' h3) ix_X10_thrown iv_X10_thrown lk_L_112 ⟨rfl, rfl, Nat.le_of_ble_eq_true rfl, Nat.le_of_ble_eq_true rfl⟩ ha43' (ct_43 _ _ _ _) rfl rfl rfl rfl (Nat.le_of_ble_eq_true rfl) ⟨Nat.le_trans (Nat.add_le_add_left (Nat.le_of_ble_eq_true rfl) _) hrc.1, Nat.le_trans (Nat.add_le_add_left (Nat.le_of_ble_eq_true rfl) _) hrc.2⟩ dL_law_836 (fun H locs hP hS => ?_)
  refine lv_iload hx hb dL_law_839 (lv_at hl 1 rfl) ?_
  refine lv_icmp_eq (tgt := 846) hx hb dL_law_841 (by decide) (fun c1 => ?_) (fun c1 => ?_)
  · have hf := g_ip c1 hf
    refine lv_iload hx hb dL_law_846 (lv_at hl 1 rfl) ?_
    refine lv_if_ne (tgt := 863) hx hb dL_law_848 (by decide) (fun c2 => ?_) (fun c2 => ?_)
    · have hf := g_in c2 hf
      obtain ⟨-, rfl⟩ := g_s1 hf
      refine lv_goto (tgt := 2186) hx hb dL_law_863 (by decide) ?_
      refine W.widen (k := cells + 130) (n := slots + 877) (Nat.add_le_add_left (Nat.le_of_ble_eq_true rfl) _) (Nat.add_le_add_left (Nat.le_of_ble_eq_true rfl) _) ?_
      exact kk C H locs ls hP hS (lv_sub hl [2, 3, 4, 5, 6] rfl)
    · have hf := g_ip c2 hf
      refine lv_aload_n hx hb dL_law_851 rfl (lv_at hl 6 rfl) ?_
      refine lv_iconst (v := 0) hx hb dL_law_852 (by decide) ?_
      refine r_lald (jj := 0) C hP ha81' gIn01 dL_law_853 ?_
      refine lv_iload hx hb dL_law_854 (lv_at hl 0 rfl) ?_
      refine lv_i2l (v := k2.toInt64) hx hb dL_law_856 rfl ?_
      by_cases c3 : X3 81 0 0 = k2
      · have hf := g_ip c3 hf
        obtain ⟨-, rfl⟩ := g_s1 hf
        refine r_lcmp_eq hx hb (congrArg Int32.toInt64 c3) dL_law_857 ?_
        refine lv_if_eq (tgt := 863) hx hb dL_law_858 (by decide) (fun _ => ?_) (fun c4 => absurd rfl c4)
        refine lv_goto (tgt := 2186) hx hb dL_law_863 (by decide) ?_
        refine W.widen (k := cells + 130) (n := slots + 877) (Nat.add_le_add_left (Nat.le_of_ble_eq_true rfl) _) (Nat.add_le_add_left (Nat.le_of_ble_eq_true rfl) _) ?_
        exact kk C H locs ls hP hS (lv_sub hl [2, 3, 4, 5, 6] rfl)
      · have hf := g_in c3 hf
        cases hf
  · have hf := g_in c1 hf
    cases hf

set_option maxRecDepth 100000 in
set_option maxHeartbeats 4000000 in
theorem s_K9 {p : Program} {l : Launch} {e : Env} {s : State} {m : MethodId} {args : Array Value} {below : List Frame} {meth : Method} {c : Code} {H : Heap} {locs : List Loc} {cells slots : Nat} {Q : State → Prop} {rt : Option FieldType} {ls : Array Slot} {D : va_G} {cA : Nat → ClassId} {ad : Nat → Nat → Nat} {NL nw : List (Nat × Nat)} {A : Nat → Prop} {X X' : gM} {N b L iN : Nat} {xs : Nat → Int32} {rr : Int32} (C : gCx p c meth m s args cL_law 7 rt RL D cA ad NL A) (hWd : gWd A s) (htr : l.stackTraces = false) (hW : gWf NL) (hW2 : gWf (NL ++ nw)) (ha0 : (0, 0) ∈ NL) (ha43 : (43, 0) ∈ NL) (ha81 : (81, 0) ∈ NL) (hX : va_X b L xs s s.heap) (hbl : b < s.heap.size) (hbA : ¬ A b) (hL : L ≤ 3584) (hi : iN + 7 ≤ L) (hal : gAl ad) (hadr : gAdr ad H.size nw) (hP : gH D cA ad NL X H) (hS : va_S A s.heap H locs) (hl : lv_has ls 7 [(4, .int (nI iN)), (0, .ref b), (1, .ref (ad 0 0)), (2, .ref (ad 43 0)), (3, .ref (ad 81 0))]) (hrc : cells + 130 ≤ room_1.cells ∧ slots + 877 ≤ room_1.slots)
    (hf : K9 (gal NL) (gal (NL ++ nw)) N nw (xs (iN + 1)) (xs (iN + 2)) (xs (iN + 3)) (xs (iN + 4)) (xs (iN + 5)) (xs (iN + 6)) X = some (rr, X'))
    (kk : gCx p c meth m s args cL_law 7 rt RL D cA ad (NL ++ nw) A → ∀ (H : Heap) (locs : List Loc) (ls : Array Slot), gH D cA ad (NL ++ nw) X' H → va_S A s.heap H locs → lv_has ls 7 [(4, .int (nI iN)), (0, .ref b), (1, .ref (ad 0 0)), (2, .ref (ad 43 0)), (3, .ref (ad 81 0))] → W p l e room_1 s m args below meth c H locs (cells + 130) (slots + 877) Q (F0 m 2186 ls [])) : W p l e room_1 s m args below meth c H locs cells slots Q (F0 m 866 ls []) := by
  have hx := C.1
  have hb := C.2.1
  have hD0 : gD (fun _ => True) ad NL := gD_in C.2.2.2.2.2.2.2.2.2.1 (fun _ _ => True.intro)
  have hrc0 : cells ≤ room_1.cells ∧ slots ≤ room_1.slots := ⟨Nat.le_trans (Nat.le_add_right _ _) hrc.1, Nat.le_trans (Nat.le_add_right _ _) hrc.2⟩
  have ha43' : (43, 0) ∈ NL ++ nw := List.mem_append_left _ ha43
  have ha81' : (81, 0) ∈ NL ++ nw := List.mem_append_left _ ha81
  rw [K9] at hf
  replace hf := eqn_in hf
  obtain ⟨hnw, hf⟩ := hf
  subst hnw
  refine lv_aload_n hx hb dL_law_866 rfl (lv_at hl 2 rfl) ?_
  refine r_scr (j := 1) hx hb hX hbl hbA hS hL hl (k0 := 1) (k4 := 0) rfl rfl (by omega) (by decide) dL_law_867 dL_law_868 dL_law_870 dL_law_871 dL_law_872 ?_
  refine r_scr (j := 2) hx hb hX hbl hbA hS hL hl (k0 := 1) (k4 := 0) rfl rfl (by omega) (by decide) dL_law_873 dL_law_874 dL_law_876 dL_law_877 dL_law_878 ?_
  refine r_scr (j := 3) hx hb hX hbl hbA hS hL hl (k0 := 1) (k4 := 0) rfl rfl (by omega) (by decide) dL_law_879 dL_law_880 dL_law_882 dL_law_883 dL_law_884 ?_
  refine lv_aload_n hx hb dL_law_885 rfl (lv_at hl 4 rfl) ?_
  obtain ⟨k1, X1, h1, hf⟩ := b2_in hf
  refine r_callL (nw := []) (rest := []) C hWd hP hS hl.1 rfl (s_L_weight (nw := []) htr hW hD0 ha0 ha81 h1) True.intro il_L_weight ls_L_145 ⟨rfl, rfl, Nat.le_of_ble_eq_true rfl, Nat.le_of_ble_eq_true rfl⟩ rfl rfl (Nat.le_of_ble_eq_true rfl) ⟨Nat.le_trans (Nat.add_le_add_left (Nat.le_of_ble_eq_true rfl) _) hrc.1, Nat.le_trans (Nat.add_le_add_left (Nat.le_of_ble_eq_true rfl) _) hrc.2⟩ dL_law_886 (fun C H locs hP hS => ?_)
  refine lv_istore (lv' := [(5, .int k1), (4, .int (nI iN)), (0, .ref b), (1, .ref (ad 0 0)), (2, .ref (ad 43 0)), (3, .ref (ad 81 0))]) hx hb dL_law_889 hl (Nat.le_of_ble_eq_true rfl) rfl (fun ls hl => ?_)
  refine lv_aload_n hx hb dL_law_891 rfl (lv_at hl 4 rfl) ?_
  refine r_scr (j := 1) hx hb hX hbl hbA hS hL hl (k0 := 2) (k4 := 1) rfl rfl (by omega) (by decide) dL_law_892 dL_law_893 dL_law_895 dL_law_896 dL_law_897 ?_
  refine r_scr (j := 2) hx hb hX hbl hbA hS hL hl (k0 := 2) (k4 := 1) rfl rfl (by omega) (by decide) dL_law_898 dL_law_899 dL_law_901 dL_law_902 dL_law_903 ?_
  refine r_scr (j := 3) hx hb hX hbl hbA hS hL hl (k0 := 2) (k4 := 1) rfl rfl (by omega) (by decide) dL_law_904 dL_law_905 dL_law_907 dL_law_908 dL_law_909 ?_
  obtain ⟨k2, X2, h2, hf⟩ := b2_in hf
  refine r_cVi (rest := []) C hP hS hl.1 (s_X10_weight hW2 (gD_in C.2.2.2.2.2.2.2.2.2.1 (fun _ _ => True.intro)) ha43' h2) ix_X10_weight iv_X10_weight lk_L_148 ⟨rfl, rfl, Nat.le_of_ble_eq_true rfl, Nat.le_of_ble_eq_true rfl⟩ ha43' (ct_43 _ _ _ _) rfl rfl rfl rfl (Nat.le_of_ble_eq_true rfl) ⟨Nat.le_trans (Nat.add_le_add_left (Nat.le_of_ble_eq_true rfl) _) hrc.1, Nat.le_trans (Nat.add_le_add_left (Nat.le_of_ble_eq_true rfl) _) hrc.2⟩ dL_law_910 (fun H locs hP hS => ?_)
  refine lv_istore (lv' := [(6, .int k2), (5, .int k1), (4, .int (nI iN)), (0, .ref b), (1, .ref (ad 0 0)), (2, .ref (ad 43 0)), (3, .ref (ad 81 0))]) hx hb dL_law_913 hl (Nat.le_of_ble_eq_true rfl) rfl (fun ls hl => ?_)
  refine lv_aload_n hx hb dL_law_915 rfl (lv_at hl 5 rfl) ?_
  obtain ⟨k3, X3, h3, hf⟩ := b2_in hf
  refine r_cVi (rest := []) C hP hS hl.1 (s_X10_thrown hW2 (gD_in C.2.2.2.2.2.2.2.2.2.1 (fun _ _ => True.intro)) ha43' h3) ix_X10_thrown iv_X10_thrown lk_L_112 ⟨rfl, rfl, Nat.le_of_ble_eq_true rfl, Nat.le_of_ble_eq_true rfl⟩ ha43' (ct_43 _ _ _ _) rfl rfl rfl rfl (Nat.le_of_ble_eq_true rfl) ⟨Nat.le_trans (Nat.add_le_add_left (Nat.le_of_ble_eq_true rfl) _) hrc.1, Nat.le_trans (Nat.add_le_add_left (Nat.le_of_ble_eq_true rfl) _) hrc.2⟩ dL_law_916 (fun H locs hP hS => ?_)
  refine lv_iload hx hb dL_law_919 (lv_at hl 1 rfl) ?_
  refine lv_icmp_eq (tgt := 926) hx hb dL_law_921 (by decide) (fun c1 => ?_) (fun c1 => ?_)
  · have hf := g_ip c1 hf
    refine lv_iload hx hb dL_law_926 (lv_at hl 1 rfl) ?_
    refine lv_if_ne (tgt := 943) hx hb dL_law_928 (by decide) (fun c2 => ?_) (fun c2 => ?_)
    · have hf := g_in c2 hf
      obtain ⟨-, rfl⟩ := g_s1 hf
      refine lv_goto (tgt := 2186) hx hb dL_law_943 (by decide) ?_
      refine W.widen (k := cells + 130) (n := slots + 877) (Nat.add_le_add_left (Nat.le_of_ble_eq_true rfl) _) (Nat.add_le_add_left (Nat.le_of_ble_eq_true rfl) _) ?_
      exact kk C H locs ls hP hS (lv_sub hl [2, 3, 4, 5, 6] rfl)
    · have hf := g_ip c2 hf
      refine lv_aload_n hx hb dL_law_931 rfl (lv_at hl 6 rfl) ?_
      refine lv_iconst (v := 0) hx hb dL_law_932 (by decide) ?_
      refine r_lald (jj := 0) C hP ha81' gIn01 dL_law_933 ?_
      refine lv_iload hx hb dL_law_934 (lv_at hl 0 rfl) ?_
      refine lv_i2l (v := k2.toInt64) hx hb dL_law_936 rfl ?_
      by_cases c3 : X3 81 0 0 = k2
      · have hf := g_ip c3 hf
        obtain ⟨-, rfl⟩ := g_s1 hf
        refine r_lcmp_eq hx hb (congrArg Int32.toInt64 c3) dL_law_937 ?_
        refine lv_if_eq (tgt := 943) hx hb dL_law_938 (by decide) (fun _ => ?_) (fun c4 => absurd rfl c4)
        refine lv_goto (tgt := 2186) hx hb dL_law_943 (by decide) ?_
        refine W.widen (k := cells + 130) (n := slots + 877) (Nat.add_le_add_left (Nat.le_of_ble_eq_true rfl) _) (Nat.add_le_add_left (Nat.le_of_ble_eq_true rfl) _) ?_
        exact kk C H locs ls hP hS (lv_sub hl [2, 3, 4, 5, 6] rfl)
      · have hf := g_in c3 hf
        cases hf
  · have hf := g_in c1 hf
    cases hf

set_option maxRecDepth 100000 in
set_option maxHeartbeats 4000000 in
theorem s_K10 {p : Program} {l : Launch} {e : Env} {s : State} {m : MethodId} {args : Array Value} {below : List Frame} {meth : Method} {c : Code} {H : Heap} {locs : List Loc} {cells slots : Nat} {Q : State → Prop} {rt : Option FieldType} {ls : Array Slot} {D : va_G} {cA : Nat → ClassId} {ad : Nat → Nat → Nat} {NL nw : List (Nat × Nat)} {A : Nat → Prop} {X X' : gM} {N b L iN : Nat} {xs : Nat → Int32} {rr : Int32} (C : gCx p c meth m s args cL_law 7 rt RL D cA ad NL A) (hWd : gWd A s) (htr : l.stackTraces = false) (hW : gWf NL) (hW2 : gWf (NL ++ nw)) (ha0 : (0, 0) ∈ NL) (ha43 : (43, 0) ∈ NL) (ha81 : (81, 0) ∈ NL) (hX : va_X b L xs s s.heap) (hbl : b < s.heap.size) (hbA : ¬ A b) (hL : L ≤ 3584) (hi : iN + 7 ≤ L) (hal : gAl ad) (hadr : gAdr ad H.size nw) (hP : gH D cA ad NL X H) (hS : va_S A s.heap H locs) (hl : lv_has ls 7 [(4, .int (nI iN)), (0, .ref b), (1, .ref (ad 0 0)), (2, .ref (ad 43 0)), (3, .ref (ad 81 0))]) (hrc : cells + 130 ≤ room_1.cells ∧ slots + 877 ≤ room_1.slots)
    (hf : K10 (gal NL) (gal (NL ++ nw)) N nw (xs (iN + 1)) (xs (iN + 2)) (xs (iN + 3)) (xs (iN + 4)) (xs (iN + 5)) (xs (iN + 6)) X = some (rr, X'))
    (kk : gCx p c meth m s args cL_law 7 rt RL D cA ad (NL ++ nw) A → ∀ (H : Heap) (locs : List Loc) (ls : Array Slot), gH D cA ad (NL ++ nw) X' H → va_S A s.heap H locs → lv_has ls 7 [(4, .int (nI iN)), (0, .ref b), (1, .ref (ad 0 0)), (2, .ref (ad 43 0)), (3, .ref (ad 81 0))] → W p l e room_1 s m args below meth c H locs (cells + 130) (slots + 877) Q (F0 m 2186 ls [])) : W p l e room_1 s m args below meth c H locs cells slots Q (F0 m 946 ls []) := by
  have hx := C.1
  have hb := C.2.1
  have hD0 : gD (fun _ => True) ad NL := gD_in C.2.2.2.2.2.2.2.2.2.1 (fun _ _ => True.intro)
  have hrc0 : cells ≤ room_1.cells ∧ slots ≤ room_1.slots := ⟨Nat.le_trans (Nat.le_add_right _ _) hrc.1, Nat.le_trans (Nat.le_add_right _ _) hrc.2⟩
  have ha43' : (43, 0) ∈ NL ++ nw := List.mem_append_left _ ha43
  have ha81' : (81, 0) ∈ NL ++ nw := List.mem_append_left _ ha81
  rw [K10] at hf
  replace hf := eqn_in hf
  obtain ⟨hnw, hf⟩ := hf
  subst hnw
  refine lv_aload_n hx hb dL_law_946 rfl (lv_at hl 2 rfl) ?_
  refine r_scr (j := 1) hx hb hX hbl hbA hS hL hl (k0 := 1) (k4 := 0) rfl rfl (by omega) (by decide) dL_law_947 dL_law_948 dL_law_950 dL_law_951 dL_law_952 ?_
  refine r_scr (j := 2) hx hb hX hbl hbA hS hL hl (k0 := 1) (k4 := 0) rfl rfl (by omega) (by decide) dL_law_953 dL_law_954 dL_law_956 dL_law_957 dL_law_958 ?_
  refine r_scr (j := 3) hx hb hX hbl hbA hS hL hl (k0 := 1) (k4 := 0) rfl rfl (by omega) (by decide) dL_law_959 dL_law_960 dL_law_962 dL_law_963 dL_law_964 ?_
  refine lv_aload_n hx hb dL_law_965 rfl (lv_at hl 4 rfl) ?_
  obtain ⟨k1, X1, h1, hf⟩ := b2_in hf
  refine r_callL (nw := []) (rest := []) C hWd hP hS hl.1 rfl (s_L_readings (nw := []) htr hW hD0 ha0 ha81 h1) True.intro il_L_readings ls_L_149 ⟨rfl, rfl, Nat.le_of_ble_eq_true rfl, Nat.le_of_ble_eq_true rfl⟩ rfl rfl (Nat.le_of_ble_eq_true rfl) ⟨Nat.le_trans (Nat.add_le_add_left (Nat.le_of_ble_eq_true rfl) _) hrc.1, Nat.le_trans (Nat.add_le_add_left (Nat.le_of_ble_eq_true rfl) _) hrc.2⟩ dL_law_966 (fun C H locs hP hS => ?_)
  refine lv_istore (lv' := [(5, .int k1), (4, .int (nI iN)), (0, .ref b), (1, .ref (ad 0 0)), (2, .ref (ad 43 0)), (3, .ref (ad 81 0))]) hx hb dL_law_969 hl (Nat.le_of_ble_eq_true rfl) rfl (fun ls hl => ?_)
  refine lv_aload_n hx hb dL_law_971 rfl (lv_at hl 4 rfl) ?_
  refine r_scr (j := 1) hx hb hX hbl hbA hS hL hl (k0 := 2) (k4 := 1) rfl rfl (by omega) (by decide) dL_law_972 dL_law_973 dL_law_975 dL_law_976 dL_law_977 ?_
  refine r_scr (j := 2) hx hb hX hbl hbA hS hL hl (k0 := 2) (k4 := 1) rfl rfl (by omega) (by decide) dL_law_978 dL_law_979 dL_law_981 dL_law_982 dL_law_983 ?_
  refine r_scr (j := 3) hx hb hX hbl hbA hS hL hl (k0 := 2) (k4 := 1) rfl rfl (by omega) (by decide) dL_law_984 dL_law_985 dL_law_987 dL_law_988 dL_law_989 ?_
  obtain ⟨k2, X2, h2, hf⟩ := b2_in hf
  refine r_cVi (rest := []) C hP hS hl.1 (s_X10_readings hW2 (gD_in C.2.2.2.2.2.2.2.2.2.1 (fun _ _ => True.intro)) ha43' h2) ix_X10_readings iv_X10_readings lk_L_151 ⟨rfl, rfl, Nat.le_of_ble_eq_true rfl, Nat.le_of_ble_eq_true rfl⟩ ha43' (ct_43 _ _ _ _) rfl rfl rfl rfl (Nat.le_of_ble_eq_true rfl) ⟨Nat.le_trans (Nat.add_le_add_left (Nat.le_of_ble_eq_true rfl) _) hrc.1, Nat.le_trans (Nat.add_le_add_left (Nat.le_of_ble_eq_true rfl) _) hrc.2⟩ dL_law_990 (fun H locs hP hS => ?_)
  refine lv_istore (lv' := [(6, .int k2), (5, .int k1), (4, .int (nI iN)), (0, .ref b), (1, .ref (ad 0 0)), (2, .ref (ad 43 0)), (3, .ref (ad 81 0))]) hx hb dL_law_993 hl (Nat.le_of_ble_eq_true rfl) rfl (fun ls hl => ?_)
  refine lv_aload_n hx hb dL_law_995 rfl (lv_at hl 5 rfl) ?_
  obtain ⟨k3, X3, h3, hf⟩ := b2_in hf
  refine r_cVi (rest := []) C hP hS hl.1 (s_X10_thrown hW2 (gD_in C.2.2.2.2.2.2.2.2.2.1 (fun _ _ => True.intro)) ha43' h3) ix_X10_thrown iv_X10_thrown lk_L_112 ⟨rfl, rfl, Nat.le_of_ble_eq_true rfl, Nat.le_of_ble_eq_true rfl⟩ ha43' (ct_43 _ _ _ _) rfl rfl rfl rfl (Nat.le_of_ble_eq_true rfl) ⟨Nat.le_trans (Nat.add_le_add_left (Nat.le_of_ble_eq_true rfl) _) hrc.1, Nat.le_trans (Nat.add_le_add_left (Nat.le_of_ble_eq_true rfl) _) hrc.2⟩ dL_law_996 (fun H locs hP hS => ?_)
  refine lv_iload hx hb dL_law_999 (lv_at hl 1 rfl) ?_
  refine lv_icmp_eq (tgt := 1006) hx hb dL_law_1001 (by decide) (fun c1 => ?_) (fun c1 => ?_)
  · have hf := g_ip c1 hf
    refine lv_iload hx hb dL_law_1006 (lv_at hl 1 rfl) ?_
    refine lv_if_ne (tgt := 1023) hx hb dL_law_1008 (by decide) (fun c2 => ?_) (fun c2 => ?_)
    · have hf := g_in c2 hf
      obtain ⟨-, rfl⟩ := g_s1 hf
      refine lv_goto (tgt := 2186) hx hb dL_law_1023 (by decide) ?_
      refine W.widen (k := cells + 130) (n := slots + 877) (Nat.add_le_add_left (Nat.le_of_ble_eq_true rfl) _) (Nat.add_le_add_left (Nat.le_of_ble_eq_true rfl) _) ?_
      exact kk C H locs ls hP hS (lv_sub hl [2, 3, 4, 5, 6] rfl)
    · have hf := g_ip c2 hf
      refine lv_aload_n hx hb dL_law_1011 rfl (lv_at hl 6 rfl) ?_
      refine lv_iconst (v := 0) hx hb dL_law_1012 (by decide) ?_
      refine r_lald (jj := 0) C hP ha81' gIn01 dL_law_1013 ?_
      refine lv_iload hx hb dL_law_1014 (lv_at hl 0 rfl) ?_
      refine lv_i2l (v := k2.toInt64) hx hb dL_law_1016 rfl ?_
      by_cases c3 : X3 81 0 0 = k2
      · have hf := g_ip c3 hf
        obtain ⟨-, rfl⟩ := g_s1 hf
        refine r_lcmp_eq hx hb (congrArg Int32.toInt64 c3) dL_law_1017 ?_
        refine lv_if_eq (tgt := 1023) hx hb dL_law_1018 (by decide) (fun _ => ?_) (fun c4 => absurd rfl c4)
        refine lv_goto (tgt := 2186) hx hb dL_law_1023 (by decide) ?_
        refine W.widen (k := cells + 130) (n := slots + 877) (Nat.add_le_add_left (Nat.le_of_ble_eq_true rfl) _) (Nat.add_le_add_left (Nat.le_of_ble_eq_true rfl) _) ?_
        exact kk C H locs ls hP hS (lv_sub hl [2, 3, 4, 5, 6] rfl)
      · have hf := g_in c3 hf
        cases hf
  · have hf := g_in c1 hf
    cases hf

set_option maxRecDepth 100000 in
set_option maxHeartbeats 4000000 in
theorem s_K11 {p : Program} {l : Launch} {e : Env} {s : State} {m : MethodId} {args : Array Value} {below : List Frame} {meth : Method} {c : Code} {H : Heap} {locs : List Loc} {cells slots : Nat} {Q : State → Prop} {rt : Option FieldType} {ls : Array Slot} {D : va_G} {cA : Nat → ClassId} {ad : Nat → Nat → Nat} {NL nw : List (Nat × Nat)} {A : Nat → Prop} {X X' : gM} {N b L iN : Nat} {xs : Nat → Int32} {rr : Int32} (C : gCx p c meth m s args cL_law 7 rt RL D cA ad NL A) (hWd : gWd A s) (htr : l.stackTraces = false) (hW : gWf NL) (hW2 : gWf (NL ++ nw)) (ha0 : (0, 0) ∈ NL) (ha43 : (43, 0) ∈ NL) (ha81 : (81, 0) ∈ NL) (hX : va_X b L xs s s.heap) (hbl : b < s.heap.size) (hbA : ¬ A b) (hL : L ≤ 3584) (hi : iN + 7 ≤ L) (hal : gAl ad) (hadr : gAdr ad H.size nw) (hP : gH D cA ad NL X H) (hS : va_S A s.heap H locs) (hl : lv_has ls 7 [(4, .int (nI iN)), (0, .ref b), (1, .ref (ad 0 0)), (2, .ref (ad 43 0)), (3, .ref (ad 81 0))]) (hrc : cells + 130 ≤ room_1.cells ∧ slots + 877 ≤ room_1.slots)
    (hf : K11 (gal NL) (gal (NL ++ nw)) N nw (xs (iN + 1)) (xs (iN + 2)) (xs (iN + 3)) (xs (iN + 4)) (xs (iN + 5)) (xs (iN + 6)) X = some (rr, X'))
    (kk : gCx p c meth m s args cL_law 7 rt RL D cA ad (NL ++ nw) A → ∀ (H : Heap) (locs : List Loc) (ls : Array Slot), gH D cA ad (NL ++ nw) X' H → va_S A s.heap H locs → lv_has ls 7 [(4, .int (nI iN)), (0, .ref b), (1, .ref (ad 0 0)), (2, .ref (ad 43 0)), (3, .ref (ad 81 0))] → W p l e room_1 s m args below meth c H locs (cells + 130) (slots + 877) Q (F0 m 2186 ls [])) : W p l e room_1 s m args below meth c H locs cells slots Q (F0 m 1026 ls []) := by
  have hx := C.1
  have hb := C.2.1
  have hD0 : gD (fun _ => True) ad NL := gD_in C.2.2.2.2.2.2.2.2.2.1 (fun _ _ => True.intro)
  have hrc0 : cells ≤ room_1.cells ∧ slots ≤ room_1.slots := ⟨Nat.le_trans (Nat.le_add_right _ _) hrc.1, Nat.le_trans (Nat.le_add_right _ _) hrc.2⟩
  have ha43' : (43, 0) ∈ NL ++ nw := List.mem_append_left _ ha43
  have ha81' : (81, 0) ∈ NL ++ nw := List.mem_append_left _ ha81
  rw [K11] at hf
  replace hf := eqn_in hf
  obtain ⟨hnw, hf⟩ := hf
  subst hnw
  refine lv_aload_n hx hb dL_law_1026 rfl (lv_at hl 2 rfl) ?_
  refine r_scr (j := 1) hx hb hX hbl hbA hS hL hl (k0 := 1) (k4 := 0) rfl rfl (by omega) (by decide) dL_law_1027 dL_law_1028 dL_law_1030 dL_law_1031 dL_law_1032 ?_
  refine r_scr (j := 2) hx hb hX hbl hbA hS hL hl (k0 := 1) (k4 := 0) rfl rfl (by omega) (by decide) dL_law_1033 dL_law_1034 dL_law_1036 dL_law_1037 dL_law_1038 ?_
  refine r_scr (j := 3) hx hb hX hbl hbA hS hL hl (k0 := 1) (k4 := 0) rfl rfl (by omega) (by decide) dL_law_1039 dL_law_1040 dL_law_1042 dL_law_1043 dL_law_1044 ?_
  refine r_scr (j := 4) hx hb hX hbl hbA hS hL hl (k0 := 1) (k4 := 0) rfl rfl (by omega) (by decide) dL_law_1045 dL_law_1046 dL_law_1048 dL_law_1049 dL_law_1050 ?_
  refine lv_aload_n hx hb dL_law_1051 rfl (lv_at hl 4 rfl) ?_
  obtain ⟨k1, X1, h1, hf⟩ := b2_in hf
  refine r_callL (nw := []) (rest := []) C hWd hP hS hl.1 rfl (s_L_letter (nw := []) htr hW hD0 ha0 ha81 h1) True.intro il_L_letter ls_L_152 ⟨rfl, rfl, Nat.le_of_ble_eq_true rfl, Nat.le_of_ble_eq_true rfl⟩ rfl rfl (Nat.le_of_ble_eq_true rfl) ⟨Nat.le_trans (Nat.add_le_add_left (Nat.le_of_ble_eq_true rfl) _) hrc.1, Nat.le_trans (Nat.add_le_add_left (Nat.le_of_ble_eq_true rfl) _) hrc.2⟩ dL_law_1052 (fun C H locs hP hS => ?_)
  refine lv_istore (lv' := [(5, .int k1), (4, .int (nI iN)), (0, .ref b), (1, .ref (ad 0 0)), (2, .ref (ad 43 0)), (3, .ref (ad 81 0))]) hx hb dL_law_1055 hl (Nat.le_of_ble_eq_true rfl) rfl (fun ls hl => ?_)
  refine lv_aload_n hx hb dL_law_1057 rfl (lv_at hl 4 rfl) ?_
  refine r_scr (j := 1) hx hb hX hbl hbA hS hL hl (k0 := 2) (k4 := 1) rfl rfl (by omega) (by decide) dL_law_1058 dL_law_1059 dL_law_1061 dL_law_1062 dL_law_1063 ?_
  refine r_scr (j := 2) hx hb hX hbl hbA hS hL hl (k0 := 2) (k4 := 1) rfl rfl (by omega) (by decide) dL_law_1064 dL_law_1065 dL_law_1067 dL_law_1068 dL_law_1069 ?_
  refine r_scr (j := 3) hx hb hX hbl hbA hS hL hl (k0 := 2) (k4 := 1) rfl rfl (by omega) (by decide) dL_law_1070 dL_law_1071 dL_law_1073 dL_law_1074 dL_law_1075 ?_
  refine r_scr (j := 4) hx hb hX hbl hbA hS hL hl (k0 := 2) (k4 := 1) rfl rfl (by omega) (by decide) dL_law_1076 dL_law_1077 dL_law_1079 dL_law_1080 dL_law_1081 ?_
  obtain ⟨k2, X2, h2, hf⟩ := b2_in hf
  refine r_cVi (rest := []) C hP hS hl.1 (s_X10_letter hW2 (gD_in C.2.2.2.2.2.2.2.2.2.1 (fun _ _ => True.intro)) ha43' h2) ix_X10_letter iv_X10_letter lk_L_155 ⟨rfl, rfl, Nat.le_of_ble_eq_true rfl, Nat.le_of_ble_eq_true rfl⟩ ha43' (ct_43 _ _ _ _) rfl rfl rfl rfl (Nat.le_of_ble_eq_true rfl) ⟨Nat.le_trans (Nat.add_le_add_left (Nat.le_of_ble_eq_true rfl) _) hrc.1, Nat.le_trans (Nat.add_le_add_left (Nat.le_of_ble_eq_true rfl) _) hrc.2⟩ dL_law_1082 (fun H locs hP hS => ?_)
  refine lv_istore (lv' := [(6, .int k2), (5, .int k1), (4, .int (nI iN)), (0, .ref b), (1, .ref (ad 0 0)), (2, .ref (ad 43 0)), (3, .ref (ad 81 0))]) hx hb dL_law_1085 hl (Nat.le_of_ble_eq_true rfl) rfl (fun ls hl => ?_)
  refine lv_aload_n hx hb dL_law_1087 rfl (lv_at hl 5 rfl) ?_
  obtain ⟨k3, X3, h3, hf⟩ := b2_in hf
  refine r_cVi (rest := []) C hP hS hl.1 (s_X10_thrown hW2 (gD_in C.2.2.2.2.2.2.2.2.2.1 (fun _ _ => True.intro)) ha43' h3) ix_X10_thrown iv_X10_thrown lk_L_112 ⟨rfl, rfl, Nat.le_of_ble_eq_true rfl, Nat.le_of_ble_eq_true rfl⟩ ha43' (ct_43 _ _ _ _) rfl rfl rfl rfl (Nat.le_of_ble_eq_true rfl) ⟨Nat.le_trans (Nat.add_le_add_left (Nat.le_of_ble_eq_true rfl) _) hrc.1, Nat.le_trans (Nat.add_le_add_left (Nat.le_of_ble_eq_true rfl) _) hrc.2⟩ dL_law_1088 (fun H locs hP hS => ?_)
  refine lv_iload hx hb dL_law_1091 (lv_at hl 1 rfl) ?_
  refine lv_icmp_eq (tgt := 1098) hx hb dL_law_1093 (by decide) (fun c1 => ?_) (fun c1 => ?_)
  · have hf := g_ip c1 hf
    refine lv_iload hx hb dL_law_1098 (lv_at hl 1 rfl) ?_
    refine lv_if_ne (tgt := 1115) hx hb dL_law_1100 (by decide) (fun c2 => ?_) (fun c2 => ?_)
    · have hf := g_in c2 hf
      obtain ⟨-, rfl⟩ := g_s1 hf
      refine lv_goto (tgt := 2186) hx hb dL_law_1115 (by decide) ?_
      refine W.widen (k := cells + 130) (n := slots + 877) (Nat.add_le_add_left (Nat.le_of_ble_eq_true rfl) _) (Nat.add_le_add_left (Nat.le_of_ble_eq_true rfl) _) ?_
      exact kk C H locs ls hP hS (lv_sub hl [2, 3, 4, 5, 6] rfl)
    · have hf := g_ip c2 hf
      refine lv_aload_n hx hb dL_law_1103 rfl (lv_at hl 6 rfl) ?_
      refine lv_iconst (v := 0) hx hb dL_law_1104 (by decide) ?_
      refine r_lald (jj := 0) C hP ha81' gIn01 dL_law_1105 ?_
      refine lv_iload hx hb dL_law_1106 (lv_at hl 0 rfl) ?_
      refine lv_i2l (v := k2.toInt64) hx hb dL_law_1108 rfl ?_
      by_cases c3 : X3 81 0 0 = k2
      · have hf := g_ip c3 hf
        obtain ⟨-, rfl⟩ := g_s1 hf
        refine r_lcmp_eq hx hb (congrArg Int32.toInt64 c3) dL_law_1109 ?_
        refine lv_if_eq (tgt := 1115) hx hb dL_law_1110 (by decide) (fun _ => ?_) (fun c4 => absurd rfl c4)
        refine lv_goto (tgt := 2186) hx hb dL_law_1115 (by decide) ?_
        refine W.widen (k := cells + 130) (n := slots + 877) (Nat.add_le_add_left (Nat.le_of_ble_eq_true rfl) _) (Nat.add_le_add_left (Nat.le_of_ble_eq_true rfl) _) ?_
        exact kk C H locs ls hP hS (lv_sub hl [2, 3, 4, 5, 6] rfl)
      · have hf := g_in c3 hf
        cases hf
  · have hf := g_in c1 hf
    cases hf

set_option maxRecDepth 100000 in
set_option maxHeartbeats 4000000 in
theorem s_K12 {p : Program} {l : Launch} {e : Env} {s : State} {m : MethodId} {args : Array Value} {below : List Frame} {meth : Method} {c : Code} {H : Heap} {locs : List Loc} {cells slots : Nat} {Q : State → Prop} {rt : Option FieldType} {ls : Array Slot} {D : va_G} {cA : Nat → ClassId} {ad : Nat → Nat → Nat} {NL nw : List (Nat × Nat)} {A : Nat → Prop} {X X' : gM} {N b L iN : Nat} {xs : Nat → Int32} {rr : Int32} (C : gCx p c meth m s args cL_law 7 rt RL D cA ad NL A) (hWd : gWd A s) (htr : l.stackTraces = false) (hW : gWf NL) (hW2 : gWf (NL ++ nw)) (ha0 : (0, 0) ∈ NL) (ha43 : (43, 0) ∈ NL) (ha81 : (81, 0) ∈ NL) (hX : va_X b L xs s s.heap) (hbl : b < s.heap.size) (hbA : ¬ A b) (hL : L ≤ 3584) (hi : iN + 7 ≤ L) (hal : gAl ad) (hadr : gAdr ad H.size nw) (hP : gH D cA ad NL X H) (hS : va_S A s.heap H locs) (hl : lv_has ls 7 [(4, .int (nI iN)), (0, .ref b), (1, .ref (ad 0 0)), (2, .ref (ad 43 0)), (3, .ref (ad 81 0))]) (hrc : cells + 130 ≤ room_1.cells ∧ slots + 877 ≤ room_1.slots)
    (hf : K12 (gal NL) (gal (NL ++ nw)) N nw (xs (iN + 1)) (xs (iN + 2)) (xs (iN + 3)) (xs (iN + 4)) (xs (iN + 5)) (xs (iN + 6)) X = some (rr, X'))
    (kk : gCx p c meth m s args cL_law 7 rt RL D cA ad (NL ++ nw) A → ∀ (H : Heap) (locs : List Loc) (ls : Array Slot), gH D cA ad (NL ++ nw) X' H → va_S A s.heap H locs → lv_has ls 7 [(4, .int (nI iN)), (0, .ref b), (1, .ref (ad 0 0)), (2, .ref (ad 43 0)), (3, .ref (ad 81 0))] → W p l e room_1 s m args below meth c H locs (cells + 130) (slots + 877) Q (F0 m 2186 ls [])) : W p l e room_1 s m args below meth c H locs cells slots Q (F0 m 1118 ls []) := by
  have hx := C.1
  have hb := C.2.1
  have hD0 : gD (fun _ => True) ad NL := gD_in C.2.2.2.2.2.2.2.2.2.1 (fun _ _ => True.intro)
  have hrc0 : cells ≤ room_1.cells ∧ slots ≤ room_1.slots := ⟨Nat.le_trans (Nat.le_add_right _ _) hrc.1, Nat.le_trans (Nat.le_add_right _ _) hrc.2⟩
  have ha43' : (43, 0) ∈ NL ++ nw := List.mem_append_left _ ha43
  have ha81' : (81, 0) ∈ NL ++ nw := List.mem_append_left _ ha81
  rw [K12] at hf
  refine lv_aload_n hx hb dL_law_1118 rfl (lv_at hl 2 rfl) ?_
  refine r_scr (j := 1) hx hb hX hbl hbA hS hL hl (k0 := 1) (k4 := 0) rfl rfl (by omega) (by decide) dL_law_1119 dL_law_1120 dL_law_1122 dL_law_1123 dL_law_1124 ?_
  refine r_scr (j := 2) hx hb hX hbl hbA hS hL hl (k0 := 1) (k4 := 0) rfl rfl (by omega) (by decide) dL_law_1125 dL_law_1126 dL_law_1128 dL_law_1129 dL_law_1130 ?_
  refine r_scr (j := 3) hx hb hX hbl hbA hS hL hl (k0 := 1) (k4 := 0) rfl rfl (by omega) (by decide) dL_law_1131 dL_law_1132 dL_law_1134 dL_law_1135 dL_law_1136 ?_
  refine r_scr (j := 4) hx hb hX hbl hbA hS hL hl (k0 := 1) (k4 := 0) rfl rfl (by omega) (by decide) dL_law_1137 dL_law_1138 dL_law_1140 dL_law_1141 dL_law_1142 ?_
  refine r_bool (t1 := 1150) (t2 := 1151) hx hb dL_law_1143 (by decide) dL_law_1146 dL_law_1147 (by decide) dL_law_1150 rfl ?_
  refine lv_aload_n hx hb dL_law_1151 rfl (lv_at hl 4 rfl) ?_
  obtain ⟨k1, X1, h1, hf⟩ := b2_in hf
  refine r_callL (nw := nw) (rest := []) C hWd hP hS hl.1 rfl (s_L_fact htr hW hD0 hal hadr ha0 ha81 h1) hadr il_L_fact ls_L_156 ⟨rfl, rfl, Nat.le_of_ble_eq_true rfl, Nat.le_of_ble_eq_true rfl⟩ rfl rfl (Nat.le_of_ble_eq_true rfl) ⟨Nat.le_trans (Nat.add_le_add_left (Nat.le_of_ble_eq_true rfl) _) hrc.1, Nat.le_trans (Nat.add_le_add_left (Nat.le_of_ble_eq_true rfl) _) hrc.2⟩ dL_law_1152 (fun C H locs hP hS => ?_)
  refine lv_istore (lv' := [(5, .int k1), (4, .int (nI iN)), (0, .ref b), (1, .ref (ad 0 0)), (2, .ref (ad 43 0)), (3, .ref (ad 81 0))]) hx hb dL_law_1155 hl (Nat.le_of_ble_eq_true rfl) rfl (fun ls hl => ?_)
  refine lv_aload_n hx hb dL_law_1157 rfl (lv_at hl 4 rfl) ?_
  refine r_scr (j := 1) hx hb hX hbl hbA hS hL hl (k0 := 2) (k4 := 1) rfl rfl (by omega) (by decide) dL_law_1158 dL_law_1159 dL_law_1161 dL_law_1162 dL_law_1163 ?_
  refine r_scr (j := 2) hx hb hX hbl hbA hS hL hl (k0 := 2) (k4 := 1) rfl rfl (by omega) (by decide) dL_law_1164 dL_law_1165 dL_law_1167 dL_law_1168 dL_law_1169 ?_
  refine r_scr (j := 3) hx hb hX hbl hbA hS hL hl (k0 := 2) (k4 := 1) rfl rfl (by omega) (by decide) dL_law_1170 dL_law_1171 dL_law_1173 dL_law_1174 dL_law_1175 ?_
  refine r_scr (j := 4) hx hb hX hbl hbA hS hL hl (k0 := 2) (k4 := 1) rfl rfl (by omega) (by decide) dL_law_1176 dL_law_1177 dL_law_1179 dL_law_1180 dL_law_1181 ?_
  refine r_bool (t1 := 1189) (t2 := 1190) hx hb dL_law_1182 (by decide) dL_law_1185 dL_law_1186 (by decide) dL_law_1189 rfl ?_
  obtain ⟨k2, X2, h2, hf⟩ := b2_in hf
  refine r_cVi (rest := []) C hP hS hl.1 (s_X10_fact hW2 (gD_in C.2.2.2.2.2.2.2.2.2.1 (fun _ _ => True.intro)) ha43' h2) ix_X10_fact iv_X10_fact lk_L_158 ⟨rfl, rfl, Nat.le_of_ble_eq_true rfl, Nat.le_of_ble_eq_true rfl⟩ ha43' (ct_43 _ _ _ _) rfl rfl rfl rfl (Nat.le_of_ble_eq_true rfl) ⟨Nat.le_trans (Nat.add_le_add_left (Nat.le_of_ble_eq_true rfl) _) hrc.1, Nat.le_trans (Nat.add_le_add_left (Nat.le_of_ble_eq_true rfl) _) hrc.2⟩ dL_law_1190 (fun H locs hP hS => ?_)
  refine lv_istore (lv' := [(6, .int k2), (5, .int k1), (4, .int (nI iN)), (0, .ref b), (1, .ref (ad 0 0)), (2, .ref (ad 43 0)), (3, .ref (ad 81 0))]) hx hb dL_law_1193 hl (Nat.le_of_ble_eq_true rfl) rfl (fun ls hl => ?_)
  refine lv_aload_n hx hb dL_law_1195 rfl (lv_at hl 5 rfl) ?_
  obtain ⟨k3, X3, h3, hf⟩ := b2_in hf
  refine r_cVi (rest := []) C hP hS hl.1 (s_X10_thrown hW2 (gD_in C.2.2.2.2.2.2.2.2.2.1 (fun _ _ => True.intro)) ha43' h3) ix_X10_thrown iv_X10_thrown lk_L_112 ⟨rfl, rfl, Nat.le_of_ble_eq_true rfl, Nat.le_of_ble_eq_true rfl⟩ ha43' (ct_43 _ _ _ _) rfl rfl rfl rfl (Nat.le_of_ble_eq_true rfl) ⟨Nat.le_trans (Nat.add_le_add_left (Nat.le_of_ble_eq_true rfl) _) hrc.1, Nat.le_trans (Nat.add_le_add_left (Nat.le_of_ble_eq_true rfl) _) hrc.2⟩ dL_law_1196 (fun H locs hP hS => ?_)
  refine lv_iload hx hb dL_law_1199 (lv_at hl 1 rfl) ?_
  refine lv_icmp_eq (tgt := 1206) hx hb dL_law_1201 (by decide) (fun c1 => ?_) (fun c1 => ?_)
  · have hf := g_ip c1 hf
    refine lv_iload hx hb dL_law_1206 (lv_at hl 1 rfl) ?_
    refine lv_if_ne (tgt := 1223) hx hb dL_law_1208 (by decide) (fun c2 => ?_) (fun c2 => ?_)
    · have hf := g_in c2 hf
      obtain ⟨-, rfl⟩ := g_s1 hf
      refine lv_goto (tgt := 2186) hx hb dL_law_1223 (by decide) ?_
      refine W.widen (k := cells + 130) (n := slots + 877) (Nat.add_le_add_left (Nat.le_of_ble_eq_true rfl) _) (Nat.add_le_add_left (Nat.le_of_ble_eq_true rfl) _) ?_
      exact kk C H locs ls hP hS (lv_sub hl [2, 3, 4, 5, 6] rfl)
    · have hf := g_ip c2 hf
      refine lv_aload_n hx hb dL_law_1211 rfl (lv_at hl 6 rfl) ?_
      refine lv_iconst (v := 0) hx hb dL_law_1212 (by decide) ?_
      refine r_lald (jj := 0) C hP ha81' gIn01 dL_law_1213 ?_
      refine lv_iload hx hb dL_law_1214 (lv_at hl 0 rfl) ?_
      refine lv_i2l (v := k2.toInt64) hx hb dL_law_1216 rfl ?_
      by_cases c3 : X3 81 0 0 = k2
      · have hf := g_ip c3 hf
        obtain ⟨-, rfl⟩ := g_s1 hf
        refine r_lcmp_eq hx hb (congrArg Int32.toInt64 c3) dL_law_1217 ?_
        refine lv_if_eq (tgt := 1223) hx hb dL_law_1218 (by decide) (fun _ => ?_) (fun c4 => absurd rfl c4)
        refine lv_goto (tgt := 2186) hx hb dL_law_1223 (by decide) ?_
        refine W.widen (k := cells + 130) (n := slots + 877) (Nat.add_le_add_left (Nat.le_of_ble_eq_true rfl) _) (Nat.add_le_add_left (Nat.le_of_ble_eq_true rfl) _) ?_
        exact kk C H locs ls hP hS (lv_sub hl [2, 3, 4, 5, 6] rfl)
      · have hf := g_in c3 hf
        cases hf
  · have hf := g_in c1 hf
    cases hf

set_option maxRecDepth 100000 in
set_option maxHeartbeats 4000000 in
theorem s_K13 {p : Program} {l : Launch} {e : Env} {s : State} {m : MethodId} {args : Array Value} {below : List Frame} {meth : Method} {c : Code} {H : Heap} {locs : List Loc} {cells slots : Nat} {Q : State → Prop} {rt : Option FieldType} {ls : Array Slot} {D : va_G} {cA : Nat → ClassId} {ad : Nat → Nat → Nat} {NL nw : List (Nat × Nat)} {A : Nat → Prop} {X X' : gM} {N b L iN : Nat} {xs : Nat → Int32} {rr : Int32} (C : gCx p c meth m s args cL_law 7 rt RL D cA ad NL A) (hWd : gWd A s) (htr : l.stackTraces = false) (hW : gWf NL) (hW2 : gWf (NL ++ nw)) (ha0 : (0, 0) ∈ NL) (ha43 : (43, 0) ∈ NL) (ha81 : (81, 0) ∈ NL) (hX : va_X b L xs s s.heap) (hbl : b < s.heap.size) (hbA : ¬ A b) (hL : L ≤ 3584) (hi : iN + 7 ≤ L) (hal : gAl ad) (hadr : gAdr ad H.size nw) (hP : gH D cA ad NL X H) (hS : va_S A s.heap H locs) (hl : lv_has ls 7 [(4, .int (nI iN)), (0, .ref b), (1, .ref (ad 0 0)), (2, .ref (ad 43 0)), (3, .ref (ad 81 0))]) (hrc : cells + 130 ≤ room_1.cells ∧ slots + 877 ≤ room_1.slots)
    (hf : K13 (gal NL) (gal (NL ++ nw)) N nw (xs (iN + 1)) (xs (iN + 2)) (xs (iN + 3)) (xs (iN + 4)) (xs (iN + 5)) (xs (iN + 6)) X = some (rr, X'))
    (kk : gCx p c meth m s args cL_law 7 rt RL D cA ad (NL ++ nw) A → ∀ (H : Heap) (locs : List Loc) (ls : Array Slot), gH D cA ad (NL ++ nw) X' H → va_S A s.heap H locs → lv_has ls 7 [(4, .int (nI iN)), (0, .ref b), (1, .ref (ad 0 0)), (2, .ref (ad 43 0)), (3, .ref (ad 81 0))] → W p l e room_1 s m args below meth c H locs (cells + 130) (slots + 877) Q (F0 m 2186 ls [])) : W p l e room_1 s m args below meth c H locs cells slots Q (F0 m 1226 ls []) := by
  have hx := C.1
  have hb := C.2.1
  have hD0 : gD (fun _ => True) ad NL := gD_in C.2.2.2.2.2.2.2.2.2.1 (fun _ _ => True.intro)
  have hrc0 : cells ≤ room_1.cells ∧ slots ≤ room_1.slots := ⟨Nat.le_trans (Nat.le_add_right _ _) hrc.1, Nat.le_trans (Nat.le_add_right _ _) hrc.2⟩
  have ha43' : (43, 0) ∈ NL ++ nw := List.mem_append_left _ ha43
  have ha81' : (81, 0) ∈ NL ++ nw := List.mem_append_left _ ha81
  rw [K13] at hf
  replace hf := eqn_in hf
  obtain ⟨hnw, hf⟩ := hf
  subst hnw
  refine lv_aload_n hx hb dL_law_1226 rfl (lv_at hl 2 rfl) ?_
  refine r_scr (j := 1) hx hb hX hbl hbA hS hL hl (k0 := 1) (k4 := 0) rfl rfl (by omega) (by decide) dL_law_1227 dL_law_1228 dL_law_1230 dL_law_1231 dL_law_1232 ?_
  refine r_scr (j := 2) hx hb hX hbl hbA hS hL hl (k0 := 1) (k4 := 0) rfl rfl (by omega) (by decide) dL_law_1233 dL_law_1234 dL_law_1236 dL_law_1237 dL_law_1238 ?_
  refine r_bool (t1 := 1246) (t2 := 1247) hx hb dL_law_1239 (by decide) dL_law_1242 dL_law_1243 (by decide) dL_law_1246 rfl ?_
  refine lv_aload_n hx hb dL_law_1247 rfl (lv_at hl 4 rfl) ?_
  obtain ⟨k1, X1, h1, hf⟩ := b2_in hf
  refine r_callL (nw := []) (rest := []) C hWd hP hS hl.1 rfl (s_L_hold (nw := []) htr hW hD0 ha0 ha81 h1) True.intro il_L_hold ls_L_159 ⟨rfl, rfl, Nat.le_of_ble_eq_true rfl, Nat.le_of_ble_eq_true rfl⟩ rfl rfl (Nat.le_of_ble_eq_true rfl) ⟨Nat.le_trans (Nat.add_le_add_left (Nat.le_of_ble_eq_true rfl) _) hrc.1, Nat.le_trans (Nat.add_le_add_left (Nat.le_of_ble_eq_true rfl) _) hrc.2⟩ dL_law_1248 (fun C H locs hP hS => ?_)
  refine lv_istore (lv' := [(5, .int k1), (4, .int (nI iN)), (0, .ref b), (1, .ref (ad 0 0)), (2, .ref (ad 43 0)), (3, .ref (ad 81 0))]) hx hb dL_law_1251 hl (Nat.le_of_ble_eq_true rfl) rfl (fun ls hl => ?_)
  refine lv_aload_n hx hb dL_law_1253 rfl (lv_at hl 4 rfl) ?_
  refine r_scr (j := 1) hx hb hX hbl hbA hS hL hl (k0 := 2) (k4 := 1) rfl rfl (by omega) (by decide) dL_law_1254 dL_law_1255 dL_law_1257 dL_law_1258 dL_law_1259 ?_
  refine r_scr (j := 2) hx hb hX hbl hbA hS hL hl (k0 := 2) (k4 := 1) rfl rfl (by omega) (by decide) dL_law_1260 dL_law_1261 dL_law_1263 dL_law_1264 dL_law_1265 ?_
  refine r_bool (t1 := 1273) (t2 := 1274) hx hb dL_law_1266 (by decide) dL_law_1269 dL_law_1270 (by decide) dL_law_1273 rfl ?_
  obtain ⟨k2, X2, h2, hf⟩ := b2_in hf
  refine r_cVi (rest := []) C hP hS hl.1 (s_X10_hold hW2 (gD_in C.2.2.2.2.2.2.2.2.2.1 (fun _ _ => True.intro)) ha43' h2) ix_X10_hold iv_X10_hold lk_L_162 ⟨rfl, rfl, Nat.le_of_ble_eq_true rfl, Nat.le_of_ble_eq_true rfl⟩ ha43' (ct_43 _ _ _ _) rfl rfl rfl rfl (Nat.le_of_ble_eq_true rfl) ⟨Nat.le_trans (Nat.add_le_add_left (Nat.le_of_ble_eq_true rfl) _) hrc.1, Nat.le_trans (Nat.add_le_add_left (Nat.le_of_ble_eq_true rfl) _) hrc.2⟩ dL_law_1274 (fun H locs hP hS => ?_)
  refine lv_istore (lv' := [(6, .int k2), (5, .int k1), (4, .int (nI iN)), (0, .ref b), (1, .ref (ad 0 0)), (2, .ref (ad 43 0)), (3, .ref (ad 81 0))]) hx hb dL_law_1277 hl (Nat.le_of_ble_eq_true rfl) rfl (fun ls hl => ?_)
  refine lv_aload_n hx hb dL_law_1279 rfl (lv_at hl 5 rfl) ?_
  obtain ⟨k3, X3, h3, hf⟩ := b2_in hf
  refine r_cVi (rest := []) C hP hS hl.1 (s_X10_thrown hW2 (gD_in C.2.2.2.2.2.2.2.2.2.1 (fun _ _ => True.intro)) ha43' h3) ix_X10_thrown iv_X10_thrown lk_L_112 ⟨rfl, rfl, Nat.le_of_ble_eq_true rfl, Nat.le_of_ble_eq_true rfl⟩ ha43' (ct_43 _ _ _ _) rfl rfl rfl rfl (Nat.le_of_ble_eq_true rfl) ⟨Nat.le_trans (Nat.add_le_add_left (Nat.le_of_ble_eq_true rfl) _) hrc.1, Nat.le_trans (Nat.add_le_add_left (Nat.le_of_ble_eq_true rfl) _) hrc.2⟩ dL_law_1280 (fun H locs hP hS => ?_)
  refine lv_iload hx hb dL_law_1283 (lv_at hl 1 rfl) ?_
  refine lv_icmp_eq (tgt := 1290) hx hb dL_law_1285 (by decide) (fun c1 => ?_) (fun c1 => ?_)
  · have hf := g_ip c1 hf
    refine lv_iload hx hb dL_law_1290 (lv_at hl 1 rfl) ?_
    refine lv_if_ne (tgt := 1314) hx hb dL_law_1292 (by decide) (fun c2 => ?_) (fun c2 => ?_)
    · have hf := g_in c2 hf
      obtain ⟨-, rfl⟩ := g_s1 hf
      refine lv_goto (tgt := 2186) hx hb dL_law_1314 (by decide) ?_
      refine W.widen (k := cells + 130) (n := slots + 877) (Nat.add_le_add_left (Nat.le_of_ble_eq_true rfl) _) (Nat.add_le_add_left (Nat.le_of_ble_eq_true rfl) _) ?_
      exact kk C H locs ls hP hS (lv_sub hl [2, 3, 4, 5, 6] rfl)
    · have hf := g_ip c2 hf
      refine lv_aload_n hx hb dL_law_1295 rfl (lv_at hl 6 rfl) ?_
      refine lv_iconst (v := 0) hx hb dL_law_1296 (by decide) ?_
      refine r_lald (jj := 0) C hP ha81' gIn01 dL_law_1297 ?_
      refine lv_iload hx hb dL_law_1298 (lv_at hl 0 rfl) ?_
      refine r_boolL (t1 := 1307) (t2 := 1308) hx hb dL_law_1300 (by decide) dL_law_1303 dL_law_1304 (by decide) dL_law_1307 rfl ?_
      by_cases c3 : X3 81 0 0 = (if k2 = (0 : Int32) then (0 : Int32) else (1 : Int32))
      · have hf := g_ip c3 hf
        obtain ⟨-, rfl⟩ := g_s1 hf
        refine r_lcmp_eq hx hb (congrArg Int32.toInt64 c3) dL_law_1308 ?_
        refine lv_if_eq (tgt := 1314) hx hb dL_law_1309 (by decide) (fun _ => ?_) (fun c4 => absurd rfl c4)
        refine lv_goto (tgt := 2186) hx hb dL_law_1314 (by decide) ?_
        refine W.widen (k := cells + 130) (n := slots + 877) (Nat.add_le_add_left (Nat.le_of_ble_eq_true rfl) _) (Nat.add_le_add_left (Nat.le_of_ble_eq_true rfl) _) ?_
        exact kk C H locs ls hP hS (lv_sub hl [2, 3, 4, 5, 6] rfl)
      · have hf := g_in c3 hf
        cases hf
  · have hf := g_in c1 hf
    cases hf

set_option maxRecDepth 100000 in
set_option maxHeartbeats 4000000 in
theorem s_K14 {p : Program} {l : Launch} {e : Env} {s : State} {m : MethodId} {args : Array Value} {below : List Frame} {meth : Method} {c : Code} {H : Heap} {locs : List Loc} {cells slots : Nat} {Q : State → Prop} {rt : Option FieldType} {ls : Array Slot} {D : va_G} {cA : Nat → ClassId} {ad : Nat → Nat → Nat} {NL nw : List (Nat × Nat)} {A : Nat → Prop} {X X' : gM} {N b L iN : Nat} {xs : Nat → Int32} {rr : Int32} (C : gCx p c meth m s args cL_law 7 rt RL D cA ad NL A) (hWd : gWd A s) (htr : l.stackTraces = false) (hW : gWf NL) (hW2 : gWf (NL ++ nw)) (ha0 : (0, 0) ∈ NL) (ha43 : (43, 0) ∈ NL) (ha81 : (81, 0) ∈ NL) (hX : va_X b L xs s s.heap) (hbl : b < s.heap.size) (hbA : ¬ A b) (hL : L ≤ 3584) (hi : iN + 7 ≤ L) (hal : gAl ad) (hadr : gAdr ad H.size nw) (hP : gH D cA ad NL X H) (hS : va_S A s.heap H locs) (hl : lv_has ls 7 [(4, .int (nI iN)), (0, .ref b), (1, .ref (ad 0 0)), (2, .ref (ad 43 0)), (3, .ref (ad 81 0))]) (hrc : cells + 130 ≤ room_1.cells ∧ slots + 877 ≤ room_1.slots)
    (hf : K14 (gal NL) (gal (NL ++ nw)) N nw (xs (iN + 1)) (xs (iN + 2)) (xs (iN + 3)) (xs (iN + 4)) (xs (iN + 5)) (xs (iN + 6)) X = some (rr, X'))
    (kk : gCx p c meth m s args cL_law 7 rt RL D cA ad (NL ++ nw) A → ∀ (H : Heap) (locs : List Loc) (ls : Array Slot), gH D cA ad (NL ++ nw) X' H → va_S A s.heap H locs → lv_has ls 7 [(4, .int (nI iN)), (0, .ref b), (1, .ref (ad 0 0)), (2, .ref (ad 43 0)), (3, .ref (ad 81 0))] → W p l e room_1 s m args below meth c H locs (cells + 130) (slots + 877) Q (F0 m 2186 ls [])) : W p l e room_1 s m args below meth c H locs cells slots Q (F0 m 1317 ls []) := by
  have hx := C.1
  have hb := C.2.1
  have hD0 : gD (fun _ => True) ad NL := gD_in C.2.2.2.2.2.2.2.2.2.1 (fun _ _ => True.intro)
  have hrc0 : cells ≤ room_1.cells ∧ slots ≤ room_1.slots := ⟨Nat.le_trans (Nat.le_add_right _ _) hrc.1, Nat.le_trans (Nat.le_add_right _ _) hrc.2⟩
  have ha43' : (43, 0) ∈ NL ++ nw := List.mem_append_left _ ha43
  have ha81' : (81, 0) ∈ NL ++ nw := List.mem_append_left _ ha81
  rw [K14] at hf
  replace hf := eqn_in hf
  obtain ⟨hnw, hf⟩ := hf
  subst hnw
  refine lv_aload_n hx hb dL_law_1317 rfl (lv_at hl 2 rfl) ?_
  refine r_scr (j := 1) hx hb hX hbl hbA hS hL hl (k0 := 1) (k4 := 0) rfl rfl (by omega) (by decide) dL_law_1318 dL_law_1319 dL_law_1321 dL_law_1322 dL_law_1323 ?_
  refine r_scr (j := 2) hx hb hX hbl hbA hS hL hl (k0 := 1) (k4 := 0) rfl rfl (by omega) (by decide) dL_law_1324 dL_law_1325 dL_law_1327 dL_law_1328 dL_law_1329 ?_
  refine r_bool (t1 := 1337) (t2 := 1338) hx hb dL_law_1330 (by decide) dL_law_1333 dL_law_1334 (by decide) dL_law_1337 rfl ?_
  refine lv_aload_n hx hb dL_law_1338 rfl (lv_at hl 4 rfl) ?_
  obtain ⟨k1, X1, h1, hf⟩ := b2_in hf
  refine r_callL (nw := []) (rest := []) C hWd hP hS hl.1 rfl (s_L_arrangements (nw := []) htr hW hD0 ha0 ha81 h1) True.intro il_L_arrangements ls_L_163 ⟨rfl, rfl, Nat.le_of_ble_eq_true rfl, Nat.le_of_ble_eq_true rfl⟩ rfl rfl (Nat.le_of_ble_eq_true rfl) ⟨Nat.le_trans (Nat.add_le_add_left (Nat.le_of_ble_eq_true rfl) _) hrc.1, Nat.le_trans (Nat.add_le_add_left (Nat.le_of_ble_eq_true rfl) _) hrc.2⟩ dL_law_1339 (fun C H locs hP hS => ?_)
  refine lv_istore (lv' := [(5, .int k1), (4, .int (nI iN)), (0, .ref b), (1, .ref (ad 0 0)), (2, .ref (ad 43 0)), (3, .ref (ad 81 0))]) hx hb dL_law_1342 hl (Nat.le_of_ble_eq_true rfl) rfl (fun ls hl => ?_)
  refine lv_aload_n hx hb dL_law_1344 rfl (lv_at hl 4 rfl) ?_
  refine r_scr (j := 1) hx hb hX hbl hbA hS hL hl (k0 := 2) (k4 := 1) rfl rfl (by omega) (by decide) dL_law_1345 dL_law_1346 dL_law_1348 dL_law_1349 dL_law_1350 ?_
  refine r_scr (j := 2) hx hb hX hbl hbA hS hL hl (k0 := 2) (k4 := 1) rfl rfl (by omega) (by decide) dL_law_1351 dL_law_1352 dL_law_1354 dL_law_1355 dL_law_1356 ?_
  refine r_bool (t1 := 1364) (t2 := 1365) hx hb dL_law_1357 (by decide) dL_law_1360 dL_law_1361 (by decide) dL_law_1364 rfl ?_
  obtain ⟨k2, X2, h2, hf⟩ := b2_in hf
  refine r_cVi (rest := []) C hP hS hl.1 (s_X10_arrangements hW2 (gD_in C.2.2.2.2.2.2.2.2.2.1 (fun _ _ => True.intro)) ha43' h2) ix_X10_arrangements iv_X10_arrangements lk_L_165 ⟨rfl, rfl, Nat.le_of_ble_eq_true rfl, Nat.le_of_ble_eq_true rfl⟩ ha43' (ct_43 _ _ _ _) rfl rfl rfl rfl (Nat.le_of_ble_eq_true rfl) ⟨Nat.le_trans (Nat.add_le_add_left (Nat.le_of_ble_eq_true rfl) _) hrc.1, Nat.le_trans (Nat.add_le_add_left (Nat.le_of_ble_eq_true rfl) _) hrc.2⟩ dL_law_1365 (fun H locs hP hS => ?_)
  refine lv_istore (lv' := [(6, .int k2), (5, .int k1), (4, .int (nI iN)), (0, .ref b), (1, .ref (ad 0 0)), (2, .ref (ad 43 0)), (3, .ref (ad 81 0))]) hx hb dL_law_1368 hl (Nat.le_of_ble_eq_true rfl) rfl (fun ls hl => ?_)
  refine lv_aload_n hx hb dL_law_1370 rfl (lv_at hl 5 rfl) ?_
  obtain ⟨k3, X3, h3, hf⟩ := b2_in hf
  refine r_cVi (rest := []) C hP hS hl.1 (s_X10_thrown hW2 (gD_in C.2.2.2.2.2.2.2.2.2.1 (fun _ _ => True.intro)) ha43' h3) ix_X10_thrown iv_X10_thrown lk_L_112 ⟨rfl, rfl, Nat.le_of_ble_eq_true rfl, Nat.le_of_ble_eq_true rfl⟩ ha43' (ct_43 _ _ _ _) rfl rfl rfl rfl (Nat.le_of_ble_eq_true rfl) ⟨Nat.le_trans (Nat.add_le_add_left (Nat.le_of_ble_eq_true rfl) _) hrc.1, Nat.le_trans (Nat.add_le_add_left (Nat.le_of_ble_eq_true rfl) _) hrc.2⟩ dL_law_1371 (fun H locs hP hS => ?_)
  refine lv_iload hx hb dL_law_1374 (lv_at hl 1 rfl) ?_
  refine lv_icmp_eq (tgt := 1381) hx hb dL_law_1376 (by decide) (fun c1 => ?_) (fun c1 => ?_)
  · have hf := g_ip c1 hf
    refine lv_iload hx hb dL_law_1381 (lv_at hl 1 rfl) ?_
    refine lv_if_ne (tgt := 1398) hx hb dL_law_1383 (by decide) (fun c2 => ?_) (fun c2 => ?_)
    · have hf := g_in c2 hf
      obtain ⟨-, rfl⟩ := g_s1 hf
      refine lv_goto (tgt := 2186) hx hb dL_law_1398 (by decide) ?_
      refine W.widen (k := cells + 130) (n := slots + 877) (Nat.add_le_add_left (Nat.le_of_ble_eq_true rfl) _) (Nat.add_le_add_left (Nat.le_of_ble_eq_true rfl) _) ?_
      exact kk C H locs ls hP hS (lv_sub hl [2, 3, 4, 5, 6] rfl)
    · have hf := g_ip c2 hf
      refine lv_aload_n hx hb dL_law_1386 rfl (lv_at hl 6 rfl) ?_
      refine lv_iconst (v := 0) hx hb dL_law_1387 (by decide) ?_
      refine r_lald (jj := 0) C hP ha81' gIn01 dL_law_1388 ?_
      refine lv_iload hx hb dL_law_1389 (lv_at hl 0 rfl) ?_
      refine lv_i2l (v := k2.toInt64) hx hb dL_law_1391 rfl ?_
      by_cases c3 : X3 81 0 0 = k2
      · have hf := g_ip c3 hf
        obtain ⟨-, rfl⟩ := g_s1 hf
        refine r_lcmp_eq hx hb (congrArg Int32.toInt64 c3) dL_law_1392 ?_
        refine lv_if_eq (tgt := 1398) hx hb dL_law_1393 (by decide) (fun _ => ?_) (fun c4 => absurd rfl c4)
        refine lv_goto (tgt := 2186) hx hb dL_law_1398 (by decide) ?_
        refine W.widen (k := cells + 130) (n := slots + 877) (Nat.add_le_add_left (Nat.le_of_ble_eq_true rfl) _) (Nat.add_le_add_left (Nat.le_of_ble_eq_true rfl) _) ?_
        exact kk C H locs ls hP hS (lv_sub hl [2, 3, 4, 5, 6] rfl)
      · have hf := g_in c3 hf
        cases hf
  · have hf := g_in c1 hf
    cases hf

set_option maxRecDepth 100000 in
set_option maxHeartbeats 4000000 in
theorem s_K15 {p : Program} {l : Launch} {e : Env} {s : State} {m : MethodId} {args : Array Value} {below : List Frame} {meth : Method} {c : Code} {H : Heap} {locs : List Loc} {cells slots : Nat} {Q : State → Prop} {rt : Option FieldType} {ls : Array Slot} {D : va_G} {cA : Nat → ClassId} {ad : Nat → Nat → Nat} {NL nw : List (Nat × Nat)} {A : Nat → Prop} {X X' : gM} {N b L iN : Nat} {xs : Nat → Int32} {rr : Int32} (C : gCx p c meth m s args cL_law 7 rt RL D cA ad NL A) (hWd : gWd A s) (htr : l.stackTraces = false) (hW : gWf NL) (hW2 : gWf (NL ++ nw)) (ha0 : (0, 0) ∈ NL) (ha43 : (43, 0) ∈ NL) (ha81 : (81, 0) ∈ NL) (hX : va_X b L xs s s.heap) (hbl : b < s.heap.size) (hbA : ¬ A b) (hL : L ≤ 3584) (hi : iN + 7 ≤ L) (hal : gAl ad) (hadr : gAdr ad H.size nw) (hP : gH D cA ad NL X H) (hS : va_S A s.heap H locs) (hl : lv_has ls 7 [(4, .int (nI iN)), (0, .ref b), (1, .ref (ad 0 0)), (2, .ref (ad 43 0)), (3, .ref (ad 81 0))]) (hrc : cells + 130 ≤ room_1.cells ∧ slots + 877 ≤ room_1.slots)
    (hf : K15 (gal NL) (gal (NL ++ nw)) N nw (xs (iN + 1)) (xs (iN + 2)) (xs (iN + 3)) (xs (iN + 4)) (xs (iN + 5)) (xs (iN + 6)) X = some (rr, X'))
    (kk : gCx p c meth m s args cL_law 7 rt RL D cA ad (NL ++ nw) A → ∀ (H : Heap) (locs : List Loc) (ls : Array Slot), gH D cA ad (NL ++ nw) X' H → va_S A s.heap H locs → lv_has ls 7 [(4, .int (nI iN)), (0, .ref b), (1, .ref (ad 0 0)), (2, .ref (ad 43 0)), (3, .ref (ad 81 0))] → W p l e room_1 s m args below meth c H locs (cells + 130) (slots + 877) Q (F0 m 2186 ls [])) : W p l e room_1 s m args below meth c H locs cells slots Q (F0 m 1401 ls []) := by
  have hx := C.1
  have hb := C.2.1
  have hD0 : gD (fun _ => True) ad NL := gD_in C.2.2.2.2.2.2.2.2.2.1 (fun _ _ => True.intro)
  have hrc0 : cells ≤ room_1.cells ∧ slots ≤ room_1.slots := ⟨Nat.le_trans (Nat.le_add_right _ _) hrc.1, Nat.le_trans (Nat.le_add_right _ _) hrc.2⟩
  have ha43' : (43, 0) ∈ NL ++ nw := List.mem_append_left _ ha43
  have ha81' : (81, 0) ∈ NL ++ nw := List.mem_append_left _ ha81
  rw [K15] at hf
  replace hf := eqn_in hf
  obtain ⟨hnw, hf⟩ := hf
  subst hnw
  refine lv_aload_n hx hb dL_law_1401 rfl (lv_at hl 2 rfl) ?_
  refine r_scr (j := 1) hx hb hX hbl hbA hS hL hl (k0 := 1) (k4 := 0) rfl rfl (by omega) (by decide) dL_law_1402 dL_law_1403 dL_law_1405 dL_law_1406 dL_law_1407 ?_
  refine r_scr (j := 2) hx hb hX hbl hbA hS hL hl (k0 := 1) (k4 := 0) rfl rfl (by omega) (by decide) dL_law_1408 dL_law_1409 dL_law_1411 dL_law_1412 dL_law_1413 ?_
  refine r_bool (t1 := 1421) (t2 := 1422) hx hb dL_law_1414 (by decide) dL_law_1417 dL_law_1418 (by decide) dL_law_1421 rfl ?_
  refine lv_aload_n hx hb dL_law_1422 rfl (lv_at hl 4 rfl) ?_
  obtain ⟨k1, X1, h1, hf⟩ := b2_in hf
  refine r_callL (nw := []) (rest := []) C hWd hP hS hl.1 rfl (s_L_places (nw := []) htr hW hD0 ha0 ha81 h1) True.intro il_L_places ls_L_166 ⟨rfl, rfl, Nat.le_of_ble_eq_true rfl, Nat.le_of_ble_eq_true rfl⟩ rfl rfl (Nat.le_of_ble_eq_true rfl) ⟨Nat.le_trans (Nat.add_le_add_left (Nat.le_of_ble_eq_true rfl) _) hrc.1, Nat.le_trans (Nat.add_le_add_left (Nat.le_of_ble_eq_true rfl) _) hrc.2⟩ dL_law_1423 (fun C H locs hP hS => ?_)
  refine lv_istore (lv' := [(5, .int k1), (4, .int (nI iN)), (0, .ref b), (1, .ref (ad 0 0)), (2, .ref (ad 43 0)), (3, .ref (ad 81 0))]) hx hb dL_law_1426 hl (Nat.le_of_ble_eq_true rfl) rfl (fun ls hl => ?_)
  refine lv_aload_n hx hb dL_law_1428 rfl (lv_at hl 4 rfl) ?_
  refine r_scr (j := 1) hx hb hX hbl hbA hS hL hl (k0 := 2) (k4 := 1) rfl rfl (by omega) (by decide) dL_law_1429 dL_law_1430 dL_law_1432 dL_law_1433 dL_law_1434 ?_
  refine r_scr (j := 2) hx hb hX hbl hbA hS hL hl (k0 := 2) (k4 := 1) rfl rfl (by omega) (by decide) dL_law_1435 dL_law_1436 dL_law_1438 dL_law_1439 dL_law_1440 ?_
  refine r_bool (t1 := 1448) (t2 := 1449) hx hb dL_law_1441 (by decide) dL_law_1444 dL_law_1445 (by decide) dL_law_1448 rfl ?_
  obtain ⟨k2, X2, h2, hf⟩ := b2_in hf
  refine r_cVi (rest := []) C hP hS hl.1 (s_X10_places hW2 (gD_in C.2.2.2.2.2.2.2.2.2.1 (fun _ _ => True.intro)) ha43' h2) ix_X10_places iv_X10_places lk_L_168 ⟨rfl, rfl, Nat.le_of_ble_eq_true rfl, Nat.le_of_ble_eq_true rfl⟩ ha43' (ct_43 _ _ _ _) rfl rfl rfl rfl (Nat.le_of_ble_eq_true rfl) ⟨Nat.le_trans (Nat.add_le_add_left (Nat.le_of_ble_eq_true rfl) _) hrc.1, Nat.le_trans (Nat.add_le_add_left (Nat.le_of_ble_eq_true rfl) _) hrc.2⟩ dL_law_1449 (fun H locs hP hS => ?_)
  refine lv_istore (lv' := [(6, .int k2), (5, .int k1), (4, .int (nI iN)), (0, .ref b), (1, .ref (ad 0 0)), (2, .ref (ad 43 0)), (3, .ref (ad 81 0))]) hx hb dL_law_1452 hl (Nat.le_of_ble_eq_true rfl) rfl (fun ls hl => ?_)
  refine lv_aload_n hx hb dL_law_1454 rfl (lv_at hl 5 rfl) ?_
  obtain ⟨k3, X3, h3, hf⟩ := b2_in hf
  refine r_cVi (rest := []) C hP hS hl.1 (s_X10_thrown hW2 (gD_in C.2.2.2.2.2.2.2.2.2.1 (fun _ _ => True.intro)) ha43' h3) ix_X10_thrown iv_X10_thrown lk_L_112 ⟨rfl, rfl, Nat.le_of_ble_eq_true rfl, Nat.le_of_ble_eq_true rfl⟩ ha43' (ct_43 _ _ _ _) rfl rfl rfl rfl (Nat.le_of_ble_eq_true rfl) ⟨Nat.le_trans (Nat.add_le_add_left (Nat.le_of_ble_eq_true rfl) _) hrc.1, Nat.le_trans (Nat.add_le_add_left (Nat.le_of_ble_eq_true rfl) _) hrc.2⟩ dL_law_1455 (fun H locs hP hS => ?_)
  refine lv_iload hx hb dL_law_1458 (lv_at hl 1 rfl) ?_
  refine lv_icmp_eq (tgt := 1465) hx hb dL_law_1460 (by decide) (fun c1 => ?_) (fun c1 => ?_)
  · have hf := g_ip c1 hf
    refine lv_iload hx hb dL_law_1465 (lv_at hl 1 rfl) ?_
    refine lv_if_ne (tgt := 1482) hx hb dL_law_1467 (by decide) (fun c2 => ?_) (fun c2 => ?_)
    · have hf := g_in c2 hf
      obtain ⟨-, rfl⟩ := g_s1 hf
      refine lv_goto (tgt := 2186) hx hb dL_law_1482 (by decide) ?_
      refine W.widen (k := cells + 130) (n := slots + 877) (Nat.add_le_add_left (Nat.le_of_ble_eq_true rfl) _) (Nat.add_le_add_left (Nat.le_of_ble_eq_true rfl) _) ?_
      exact kk C H locs ls hP hS (lv_sub hl [2, 3, 4, 5, 6] rfl)
    · have hf := g_ip c2 hf
      refine lv_aload_n hx hb dL_law_1470 rfl (lv_at hl 6 rfl) ?_
      refine lv_iconst (v := 0) hx hb dL_law_1471 (by decide) ?_
      refine r_lald (jj := 0) C hP ha81' gIn01 dL_law_1472 ?_
      refine lv_iload hx hb dL_law_1473 (lv_at hl 0 rfl) ?_
      refine lv_i2l (v := k2.toInt64) hx hb dL_law_1475 rfl ?_
      by_cases c3 : X3 81 0 0 = k2
      · have hf := g_ip c3 hf
        obtain ⟨-, rfl⟩ := g_s1 hf
        refine r_lcmp_eq hx hb (congrArg Int32.toInt64 c3) dL_law_1476 ?_
        refine lv_if_eq (tgt := 1482) hx hb dL_law_1477 (by decide) (fun _ => ?_) (fun c4 => absurd rfl c4)
        refine lv_goto (tgt := 2186) hx hb dL_law_1482 (by decide) ?_
        refine W.widen (k := cells + 130) (n := slots + 877) (Nat.add_le_add_left (Nat.le_of_ble_eq_true rfl) _) (Nat.add_le_add_left (Nat.le_of_ble_eq_true rfl) _) ?_
        exact kk C H locs ls hP hS (lv_sub hl [2, 3, 4, 5, 6] rfl)
      · have hf := g_in c3 hf
        cases hf
  · have hf := g_in c1 hf
    cases hf

set_option maxRecDepth 100000 in
set_option maxHeartbeats 4000000 in
theorem s_K16 {p : Program} {l : Launch} {e : Env} {s : State} {m : MethodId} {args : Array Value} {below : List Frame} {meth : Method} {c : Code} {H : Heap} {locs : List Loc} {cells slots : Nat} {Q : State → Prop} {rt : Option FieldType} {ls : Array Slot} {D : va_G} {cA : Nat → ClassId} {ad : Nat → Nat → Nat} {NL nw : List (Nat × Nat)} {A : Nat → Prop} {X X' : gM} {N b L iN : Nat} {xs : Nat → Int32} {rr : Int32} (C : gCx p c meth m s args cL_law 7 rt RL D cA ad NL A) (hWd : gWd A s) (htr : l.stackTraces = false) (hW : gWf NL) (hW2 : gWf (NL ++ nw)) (ha0 : (0, 0) ∈ NL) (ha43 : (43, 0) ∈ NL) (ha81 : (81, 0) ∈ NL) (hX : va_X b L xs s s.heap) (hbl : b < s.heap.size) (hbA : ¬ A b) (hL : L ≤ 3584) (hi : iN + 7 ≤ L) (hal : gAl ad) (hadr : gAdr ad H.size nw) (hP : gH D cA ad NL X H) (hS : va_S A s.heap H locs) (hl : lv_has ls 7 [(4, .int (nI iN)), (0, .ref b), (1, .ref (ad 0 0)), (2, .ref (ad 43 0)), (3, .ref (ad 81 0))]) (hrc : cells + 130 ≤ room_1.cells ∧ slots + 877 ≤ room_1.slots)
    (hf : K16 (gal NL) (gal (NL ++ nw)) N nw (xs (iN + 1)) (xs (iN + 2)) (xs (iN + 3)) (xs (iN + 4)) (xs (iN + 5)) (xs (iN + 6)) X = some (rr, X'))
    (kk : gCx p c meth m s args cL_law 7 rt RL D cA ad (NL ++ nw) A → ∀ (H : Heap) (locs : List Loc) (ls : Array Slot), gH D cA ad (NL ++ nw) X' H → va_S A s.heap H locs → lv_has ls 7 [(4, .int (nI iN)), (0, .ref b), (1, .ref (ad 0 0)), (2, .ref (ad 43 0)), (3, .ref (ad 81 0))] → W p l e room_1 s m args below meth c H locs (cells + 130) (slots + 877) Q (F0 m 2186 ls [])) : W p l e room_1 s m args below meth c H locs cells slots Q (F0 m 1485 ls []) := by
  have hx := C.1
  have hb := C.2.1
  have hD0 : gD (fun _ => True) ad NL := gD_in C.2.2.2.2.2.2.2.2.2.1 (fun _ _ => True.intro)
  have hrc0 : cells ≤ room_1.cells ∧ slots ≤ room_1.slots := ⟨Nat.le_trans (Nat.le_add_right _ _) hrc.1, Nat.le_trans (Nat.le_add_right _ _) hrc.2⟩
  have ha43' : (43, 0) ∈ NL ++ nw := List.mem_append_left _ ha43
  have ha81' : (81, 0) ∈ NL ++ nw := List.mem_append_left _ ha81
  rw [K16] at hf
  replace hf := eqn_in hf
  obtain ⟨hnw, hf⟩ := hf
  subst hnw
  refine lv_aload_n hx hb dL_law_1485 rfl (lv_at hl 2 rfl) ?_
  refine r_scr (j := 1) hx hb hX hbl hbA hS hL hl (k0 := 1) (k4 := 0) rfl rfl (by omega) (by decide) dL_law_1486 dL_law_1487 dL_law_1489 dL_law_1490 dL_law_1491 ?_
  refine r_scr (j := 2) hx hb hX hbl hbA hS hL hl (k0 := 1) (k4 := 0) rfl rfl (by omega) (by decide) dL_law_1492 dL_law_1493 dL_law_1495 dL_law_1496 dL_law_1497 ?_
  refine lv_aload_n hx hb dL_law_1498 rfl (lv_at hl 4 rfl) ?_
  obtain ⟨k1, X1, h1, hf⟩ := b2_in hf
  refine r_callL (nw := []) (rest := []) C hWd hP hS hl.1 rfl (s_L_joined (nw := []) htr hW hD0 ha0 ha81 h1) True.intro il_L_joined ls_L_169 ⟨rfl, rfl, Nat.le_of_ble_eq_true rfl, Nat.le_of_ble_eq_true rfl⟩ rfl rfl (Nat.le_of_ble_eq_true rfl) ⟨Nat.le_trans (Nat.add_le_add_left (Nat.le_of_ble_eq_true rfl) _) hrc.1, Nat.le_trans (Nat.add_le_add_left (Nat.le_of_ble_eq_true rfl) _) hrc.2⟩ dL_law_1499 (fun C H locs hP hS => ?_)
  refine lv_istore (lv' := [(5, .int k1), (4, .int (nI iN)), (0, .ref b), (1, .ref (ad 0 0)), (2, .ref (ad 43 0)), (3, .ref (ad 81 0))]) hx hb dL_law_1502 hl (Nat.le_of_ble_eq_true rfl) rfl (fun ls hl => ?_)
  refine lv_aload_n hx hb dL_law_1504 rfl (lv_at hl 4 rfl) ?_
  refine r_scr (j := 1) hx hb hX hbl hbA hS hL hl (k0 := 2) (k4 := 1) rfl rfl (by omega) (by decide) dL_law_1505 dL_law_1506 dL_law_1508 dL_law_1509 dL_law_1510 ?_
  refine r_scr (j := 2) hx hb hX hbl hbA hS hL hl (k0 := 2) (k4 := 1) rfl rfl (by omega) (by decide) dL_law_1511 dL_law_1512 dL_law_1514 dL_law_1515 dL_law_1516 ?_
  obtain ⟨k2, X2, h2, hf⟩ := b2_in hf
  refine r_cVi (rest := []) C hP hS hl.1 (s_X10_joined hW2 (gD_in C.2.2.2.2.2.2.2.2.2.1 (fun _ _ => True.intro)) ha43' h2) ix_X10_joined iv_X10_joined lk_L_171 ⟨rfl, rfl, Nat.le_of_ble_eq_true rfl, Nat.le_of_ble_eq_true rfl⟩ ha43' (ct_43 _ _ _ _) rfl rfl rfl rfl (Nat.le_of_ble_eq_true rfl) ⟨Nat.le_trans (Nat.add_le_add_left (Nat.le_of_ble_eq_true rfl) _) hrc.1, Nat.le_trans (Nat.add_le_add_left (Nat.le_of_ble_eq_true rfl) _) hrc.2⟩ dL_law_1517 (fun H locs hP hS => ?_)
  refine lv_istore (lv' := [(6, .int k2), (5, .int k1), (4, .int (nI iN)), (0, .ref b), (1, .ref (ad 0 0)), (2, .ref (ad 43 0)), (3, .ref (ad 81 0))]) hx hb dL_law_1520 hl (Nat.le_of_ble_eq_true rfl) rfl (fun ls hl => ?_)
  refine lv_aload_n hx hb dL_law_1522 rfl (lv_at hl 5 rfl) ?_
  obtain ⟨k3, X3, h3, hf⟩ := b2_in hf
  refine r_cVi (rest := []) C hP hS hl.1 (s_X10_thrown hW2 (gD_in C.2.2.2.2.2.2.2.2.2.1 (fun _ _ => True.intro)) ha43' h3) ix_X10_thrown iv_X10_thrown lk_L_112 ⟨rfl, rfl, Nat.le_of_ble_eq_true rfl, Nat.le_of_ble_eq_true rfl⟩ ha43' (ct_43 _ _ _ _) rfl rfl rfl rfl (Nat.le_of_ble_eq_true rfl) ⟨Nat.le_trans (Nat.add_le_add_left (Nat.le_of_ble_eq_true rfl) _) hrc.1, Nat.le_trans (Nat.add_le_add_left (Nat.le_of_ble_eq_true rfl) _) hrc.2⟩ dL_law_1523 (fun H locs hP hS => ?_)
  refine lv_iload hx hb dL_law_1526 (lv_at hl 1 rfl) ?_
  refine lv_icmp_eq (tgt := 1533) hx hb dL_law_1528 (by decide) (fun c1 => ?_) (fun c1 => ?_)
  · have hf := g_ip c1 hf
    refine lv_iload hx hb dL_law_1533 (lv_at hl 1 rfl) ?_
    refine lv_if_ne (tgt := 1550) hx hb dL_law_1535 (by decide) (fun c2 => ?_) (fun c2 => ?_)
    · have hf := g_in c2 hf
      obtain ⟨-, rfl⟩ := g_s1 hf
      refine lv_goto (tgt := 2186) hx hb dL_law_1550 (by decide) ?_
      refine W.widen (k := cells + 130) (n := slots + 877) (Nat.add_le_add_left (Nat.le_of_ble_eq_true rfl) _) (Nat.add_le_add_left (Nat.le_of_ble_eq_true rfl) _) ?_
      exact kk C H locs ls hP hS (lv_sub hl [2, 3, 4, 5, 6] rfl)
    · have hf := g_ip c2 hf
      refine lv_aload_n hx hb dL_law_1538 rfl (lv_at hl 6 rfl) ?_
      refine lv_iconst (v := 0) hx hb dL_law_1539 (by decide) ?_
      refine r_lald (jj := 0) C hP ha81' gIn01 dL_law_1540 ?_
      refine lv_iload hx hb dL_law_1541 (lv_at hl 0 rfl) ?_
      refine lv_i2l (v := k2.toInt64) hx hb dL_law_1543 rfl ?_
      by_cases c3 : X3 81 0 0 = k2
      · have hf := g_ip c3 hf
        obtain ⟨-, rfl⟩ := g_s1 hf
        refine r_lcmp_eq hx hb (congrArg Int32.toInt64 c3) dL_law_1544 ?_
        refine lv_if_eq (tgt := 1550) hx hb dL_law_1545 (by decide) (fun _ => ?_) (fun c4 => absurd rfl c4)
        refine lv_goto (tgt := 2186) hx hb dL_law_1550 (by decide) ?_
        refine W.widen (k := cells + 130) (n := slots + 877) (Nat.add_le_add_left (Nat.le_of_ble_eq_true rfl) _) (Nat.add_le_add_left (Nat.le_of_ble_eq_true rfl) _) ?_
        exact kk C H locs ls hP hS (lv_sub hl [2, 3, 4, 5, 6] rfl)
      · have hf := g_in c3 hf
        cases hf
  · have hf := g_in c1 hf
    cases hf

set_option maxRecDepth 100000 in
set_option maxHeartbeats 4000000 in
theorem s_K17 {p : Program} {l : Launch} {e : Env} {s : State} {m : MethodId} {args : Array Value} {below : List Frame} {meth : Method} {c : Code} {H : Heap} {locs : List Loc} {cells slots : Nat} {Q : State → Prop} {rt : Option FieldType} {ls : Array Slot} {D : va_G} {cA : Nat → ClassId} {ad : Nat → Nat → Nat} {NL nw : List (Nat × Nat)} {A : Nat → Prop} {X X' : gM} {N b L iN : Nat} {xs : Nat → Int32} {rr : Int32} (C : gCx p c meth m s args cL_law 7 rt RL D cA ad NL A) (hWd : gWd A s) (htr : l.stackTraces = false) (hW : gWf NL) (hW2 : gWf (NL ++ nw)) (ha0 : (0, 0) ∈ NL) (ha43 : (43, 0) ∈ NL) (ha81 : (81, 0) ∈ NL) (hX : va_X b L xs s s.heap) (hbl : b < s.heap.size) (hbA : ¬ A b) (hL : L ≤ 3584) (hi : iN + 7 ≤ L) (hal : gAl ad) (hadr : gAdr ad H.size nw) (hP : gH D cA ad NL X H) (hS : va_S A s.heap H locs) (hl : lv_has ls 7 [(4, .int (nI iN)), (0, .ref b), (1, .ref (ad 0 0)), (2, .ref (ad 43 0)), (3, .ref (ad 81 0))]) (hrc : cells + 130 ≤ room_1.cells ∧ slots + 877 ≤ room_1.slots)
    (hf : K17 (gal NL) (gal (NL ++ nw)) N nw (xs (iN + 1)) (xs (iN + 2)) (xs (iN + 3)) (xs (iN + 4)) (xs (iN + 5)) (xs (iN + 6)) X = some (rr, X'))
    (kk : gCx p c meth m s args cL_law 7 rt RL D cA ad (NL ++ nw) A → ∀ (H : Heap) (locs : List Loc) (ls : Array Slot), gH D cA ad (NL ++ nw) X' H → va_S A s.heap H locs → lv_has ls 7 [(4, .int (nI iN)), (0, .ref b), (1, .ref (ad 0 0)), (2, .ref (ad 43 0)), (3, .ref (ad 81 0))] → W p l e room_1 s m args below meth c H locs (cells + 130) (slots + 877) Q (F0 m 2186 ls [])) : W p l e room_1 s m args below meth c H locs cells slots Q (F0 m 1553 ls []) := by
  have hx := C.1
  have hb := C.2.1
  have hD0 : gD (fun _ => True) ad NL := gD_in C.2.2.2.2.2.2.2.2.2.1 (fun _ _ => True.intro)
  have hrc0 : cells ≤ room_1.cells ∧ slots ≤ room_1.slots := ⟨Nat.le_trans (Nat.le_add_right _ _) hrc.1, Nat.le_trans (Nat.le_add_right _ _) hrc.2⟩
  have ha43' : (43, 0) ∈ NL ++ nw := List.mem_append_left _ ha43
  have ha81' : (81, 0) ∈ NL ++ nw := List.mem_append_left _ ha81
  rw [K17] at hf
  replace hf := eqn_in hf
  obtain ⟨hnw, hf⟩ := hf
  subst hnw
  refine lv_aload_n hx hb dL_law_1553 rfl (lv_at hl 2 rfl) ?_
  refine r_scr (j := 1) hx hb hX hbl hbA hS hL hl (k0 := 1) (k4 := 0) rfl rfl (by omega) (by decide) dL_law_1554 dL_law_1555 dL_law_1557 dL_law_1558 dL_law_1559 ?_
  refine r_scr (j := 2) hx hb hX hbl hbA hS hL hl (k0 := 1) (k4 := 0) rfl rfl (by omega) (by decide) dL_law_1560 dL_law_1561 dL_law_1563 dL_law_1564 dL_law_1565 ?_
  refine r_scr (j := 3) hx hb hX hbl hbA hS hL hl (k0 := 1) (k4 := 0) rfl rfl (by omega) (by decide) dL_law_1566 dL_law_1567 dL_law_1569 dL_law_1570 dL_law_1571 ?_
  refine r_scr (j := 4) hx hb hX hbl hbA hS hL hl (k0 := 1) (k4 := 0) rfl rfl (by omega) (by decide) dL_law_1572 dL_law_1573 dL_law_1575 dL_law_1576 dL_law_1577 ?_
  refine r_scr (j := 5) hx hb hX hbl hbA hS hL hl (k0 := 1) (k4 := 0) rfl rfl (by omega) (by decide) dL_law_1578 dL_law_1579 dL_law_1581 dL_law_1582 dL_law_1583 ?_
  refine lv_aload_n hx hb dL_law_1584 rfl (lv_at hl 4 rfl) ?_
  obtain ⟨k1, X1, h1, hf⟩ := b2_in hf
  refine r_callL (nw := []) (rest := []) C hWd hP hS hl.1 rfl (s_L_hand (nw := []) htr hW hD0 ha0 ha81 h1) True.intro il_L_hand ls_L_172 ⟨rfl, rfl, Nat.le_of_ble_eq_true rfl, Nat.le_of_ble_eq_true rfl⟩ rfl rfl (Nat.le_of_ble_eq_true rfl) ⟨Nat.le_trans (Nat.add_le_add_left (Nat.le_of_ble_eq_true rfl) _) hrc.1, Nat.le_trans (Nat.add_le_add_left (Nat.le_of_ble_eq_true rfl) _) hrc.2⟩ dL_law_1585 (fun C H locs hP hS => ?_)
  refine lv_istore (lv' := [(5, .int k1), (4, .int (nI iN)), (0, .ref b), (1, .ref (ad 0 0)), (2, .ref (ad 43 0)), (3, .ref (ad 81 0))]) hx hb dL_law_1588 hl (Nat.le_of_ble_eq_true rfl) rfl (fun ls hl => ?_)
  refine lv_aload_n hx hb dL_law_1590 rfl (lv_at hl 4 rfl) ?_
  refine r_scr (j := 1) hx hb hX hbl hbA hS hL hl (k0 := 2) (k4 := 1) rfl rfl (by omega) (by decide) dL_law_1591 dL_law_1592 dL_law_1594 dL_law_1595 dL_law_1596 ?_
  refine r_scr (j := 2) hx hb hX hbl hbA hS hL hl (k0 := 2) (k4 := 1) rfl rfl (by omega) (by decide) dL_law_1597 dL_law_1598 dL_law_1600 dL_law_1601 dL_law_1602 ?_
  refine r_scr (j := 3) hx hb hX hbl hbA hS hL hl (k0 := 2) (k4 := 1) rfl rfl (by omega) (by decide) dL_law_1603 dL_law_1604 dL_law_1606 dL_law_1607 dL_law_1608 ?_
  refine r_scr (j := 4) hx hb hX hbl hbA hS hL hl (k0 := 2) (k4 := 1) rfl rfl (by omega) (by decide) dL_law_1609 dL_law_1610 dL_law_1612 dL_law_1613 dL_law_1614 ?_
  refine r_scr (j := 5) hx hb hX hbl hbA hS hL hl (k0 := 2) (k4 := 1) rfl rfl (by omega) (by decide) dL_law_1615 dL_law_1616 dL_law_1618 dL_law_1619 dL_law_1620 ?_
  obtain ⟨k2, X2, h2, hf⟩ := b2_in hf
  refine r_cVi (rest := []) C hP hS hl.1 (s_X10_hand hW2 (gD_in C.2.2.2.2.2.2.2.2.2.1 (fun _ _ => True.intro)) ha43' h2) ix_X10_hand iv_X10_hand lk_L_174 ⟨rfl, rfl, Nat.le_of_ble_eq_true rfl, Nat.le_of_ble_eq_true rfl⟩ ha43' (ct_43 _ _ _ _) rfl rfl rfl rfl (Nat.le_of_ble_eq_true rfl) ⟨Nat.le_trans (Nat.add_le_add_left (Nat.le_of_ble_eq_true rfl) _) hrc.1, Nat.le_trans (Nat.add_le_add_left (Nat.le_of_ble_eq_true rfl) _) hrc.2⟩ dL_law_1621 (fun H locs hP hS => ?_)
  refine lv_istore (lv' := [(6, .int k2), (5, .int k1), (4, .int (nI iN)), (0, .ref b), (1, .ref (ad 0 0)), (2, .ref (ad 43 0)), (3, .ref (ad 81 0))]) hx hb dL_law_1624 hl (Nat.le_of_ble_eq_true rfl) rfl (fun ls hl => ?_)
  refine lv_aload_n hx hb dL_law_1626 rfl (lv_at hl 5 rfl) ?_
  obtain ⟨k3, X3, h3, hf⟩ := b2_in hf
  refine r_cVi (rest := []) C hP hS hl.1 (s_X10_thrown hW2 (gD_in C.2.2.2.2.2.2.2.2.2.1 (fun _ _ => True.intro)) ha43' h3) ix_X10_thrown iv_X10_thrown lk_L_112 ⟨rfl, rfl, Nat.le_of_ble_eq_true rfl, Nat.le_of_ble_eq_true rfl⟩ ha43' (ct_43 _ _ _ _) rfl rfl rfl rfl (Nat.le_of_ble_eq_true rfl) ⟨Nat.le_trans (Nat.add_le_add_left (Nat.le_of_ble_eq_true rfl) _) hrc.1, Nat.le_trans (Nat.add_le_add_left (Nat.le_of_ble_eq_true rfl) _) hrc.2⟩ dL_law_1627 (fun H locs hP hS => ?_)
  refine lv_iload hx hb dL_law_1630 (lv_at hl 1 rfl) ?_
  refine lv_icmp_eq (tgt := 1637) hx hb dL_law_1632 (by decide) (fun c1 => ?_) (fun c1 => ?_)
  · have hf := g_ip c1 hf
    refine lv_iload hx hb dL_law_1637 (lv_at hl 1 rfl) ?_
    refine lv_if_ne (tgt := 1654) hx hb dL_law_1639 (by decide) (fun c2 => ?_) (fun c2 => ?_)
    · have hf := g_in c2 hf
      obtain ⟨-, rfl⟩ := g_s1 hf
      refine lv_goto (tgt := 2186) hx hb dL_law_1654 (by decide) ?_
      refine W.widen (k := cells + 130) (n := slots + 877) (Nat.add_le_add_left (Nat.le_of_ble_eq_true rfl) _) (Nat.add_le_add_left (Nat.le_of_ble_eq_true rfl) _) ?_
      exact kk C H locs ls hP hS (lv_sub hl [2, 3, 4, 5, 6] rfl)
    · have hf := g_ip c2 hf
      refine lv_aload_n hx hb dL_law_1642 rfl (lv_at hl 6 rfl) ?_
      refine lv_iconst (v := 0) hx hb dL_law_1643 (by decide) ?_
      refine r_lald (jj := 0) C hP ha81' gIn01 dL_law_1644 ?_
      refine lv_iload hx hb dL_law_1645 (lv_at hl 0 rfl) ?_
      refine lv_i2l (v := k2.toInt64) hx hb dL_law_1647 rfl ?_
      by_cases c3 : X3 81 0 0 = k2
      · have hf := g_ip c3 hf
        obtain ⟨-, rfl⟩ := g_s1 hf
        refine r_lcmp_eq hx hb (congrArg Int32.toInt64 c3) dL_law_1648 ?_
        refine lv_if_eq (tgt := 1654) hx hb dL_law_1649 (by decide) (fun _ => ?_) (fun c4 => absurd rfl c4)
        refine lv_goto (tgt := 2186) hx hb dL_law_1654 (by decide) ?_
        refine W.widen (k := cells + 130) (n := slots + 877) (Nat.add_le_add_left (Nat.le_of_ble_eq_true rfl) _) (Nat.add_le_add_left (Nat.le_of_ble_eq_true rfl) _) ?_
        exact kk C H locs ls hP hS (lv_sub hl [2, 3, 4, 5, 6] rfl)
      · have hf := g_in c3 hf
        cases hf
  · have hf := g_in c1 hf
    cases hf

set_option maxRecDepth 100000 in
set_option maxHeartbeats 4000000 in
theorem s_K18 {p : Program} {l : Launch} {e : Env} {s : State} {m : MethodId} {args : Array Value} {below : List Frame} {meth : Method} {c : Code} {H : Heap} {locs : List Loc} {cells slots : Nat} {Q : State → Prop} {rt : Option FieldType} {ls : Array Slot} {D : va_G} {cA : Nat → ClassId} {ad : Nat → Nat → Nat} {NL nw : List (Nat × Nat)} {A : Nat → Prop} {X X' : gM} {N b L iN : Nat} {xs : Nat → Int32} {rr : Int32} (C : gCx p c meth m s args cL_law 7 rt RL D cA ad NL A) (hWd : gWd A s) (htr : l.stackTraces = false) (hW : gWf NL) (hW2 : gWf (NL ++ nw)) (ha0 : (0, 0) ∈ NL) (ha43 : (43, 0) ∈ NL) (ha81 : (81, 0) ∈ NL) (hX : va_X b L xs s s.heap) (hbl : b < s.heap.size) (hbA : ¬ A b) (hL : L ≤ 3584) (hi : iN + 7 ≤ L) (hal : gAl ad) (hadr : gAdr ad H.size nw) (hP : gH D cA ad NL X H) (hS : va_S A s.heap H locs) (hl : lv_has ls 7 [(4, .int (nI iN)), (0, .ref b), (1, .ref (ad 0 0)), (2, .ref (ad 43 0)), (3, .ref (ad 81 0))]) (hrc : cells + 130 ≤ room_1.cells ∧ slots + 877 ≤ room_1.slots)
    (hf : K18 (gal NL) (gal (NL ++ nw)) N nw (xs (iN + 1)) (xs (iN + 2)) (xs (iN + 3)) (xs (iN + 4)) (xs (iN + 5)) (xs (iN + 6)) X = some (rr, X'))
    (kk : gCx p c meth m s args cL_law 7 rt RL D cA ad (NL ++ nw) A → ∀ (H : Heap) (locs : List Loc) (ls : Array Slot), gH D cA ad (NL ++ nw) X' H → va_S A s.heap H locs → lv_has ls 7 [(4, .int (nI iN)), (0, .ref b), (1, .ref (ad 0 0)), (2, .ref (ad 43 0)), (3, .ref (ad 81 0))] → W p l e room_1 s m args below meth c H locs (cells + 130) (slots + 877) Q (F0 m 2186 ls [])) : W p l e room_1 s m args below meth c H locs cells slots Q (F0 m 1657 ls []) := by
  have hx := C.1
  have hb := C.2.1
  have hD0 : gD (fun _ => True) ad NL := gD_in C.2.2.2.2.2.2.2.2.2.1 (fun _ _ => True.intro)
  have hrc0 : cells ≤ room_1.cells ∧ slots ≤ room_1.slots := ⟨Nat.le_trans (Nat.le_add_right _ _) hrc.1, Nat.le_trans (Nat.le_add_right _ _) hrc.2⟩
  have ha43' : (43, 0) ∈ NL ++ nw := List.mem_append_left _ ha43
  have ha81' : (81, 0) ∈ NL ++ nw := List.mem_append_left _ ha81
  rw [K18] at hf
  replace hf := eqn_in hf
  obtain ⟨hnw, hf⟩ := hf
  subst hnw
  refine lv_aload_n hx hb dL_law_1657 rfl (lv_at hl 2 rfl) ?_
  refine r_scr (j := 1) hx hb hX hbl hbA hS hL hl (k0 := 1) (k4 := 0) rfl rfl (by omega) (by decide) dL_law_1658 dL_law_1659 dL_law_1661 dL_law_1662 dL_law_1663 ?_
  refine lv_aload_n hx hb dL_law_1664 rfl (lv_at hl 4 rfl) ?_
  obtain ⟨k1, X1, h1, hf⟩ := b2_in hf
  refine r_callL (nw := []) (rest := []) C hWd hP hS hl.1 rfl (s_L_handOf (nw := []) htr hW hD0 ha0 ha81 h1) True.intro il_L_handOf ls_L_175 ⟨rfl, rfl, Nat.le_of_ble_eq_true rfl, Nat.le_of_ble_eq_true rfl⟩ rfl rfl (Nat.le_of_ble_eq_true rfl) ⟨Nat.le_trans (Nat.add_le_add_left (Nat.le_of_ble_eq_true rfl) _) hrc.1, Nat.le_trans (Nat.add_le_add_left (Nat.le_of_ble_eq_true rfl) _) hrc.2⟩ dL_law_1665 (fun C H locs hP hS => ?_)
  refine lv_istore (lv' := [(5, .int k1), (4, .int (nI iN)), (0, .ref b), (1, .ref (ad 0 0)), (2, .ref (ad 43 0)), (3, .ref (ad 81 0))]) hx hb dL_law_1668 hl (Nat.le_of_ble_eq_true rfl) rfl (fun ls hl => ?_)
  refine lv_aload_n hx hb dL_law_1670 rfl (lv_at hl 4 rfl) ?_
  refine r_scr (j := 1) hx hb hX hbl hbA hS hL hl (k0 := 2) (k4 := 1) rfl rfl (by omega) (by decide) dL_law_1671 dL_law_1672 dL_law_1674 dL_law_1675 dL_law_1676 ?_
  obtain ⟨k2, X2, h2, hf⟩ := b2_in hf
  refine r_cVi (rest := []) C hP hS hl.1 (s_X10_handOf hW2 (gD_in C.2.2.2.2.2.2.2.2.2.1 (fun _ _ => True.intro)) ha43' h2) ix_X10_handOf iv_X10_handOf lk_L_177 ⟨rfl, rfl, Nat.le_of_ble_eq_true rfl, Nat.le_of_ble_eq_true rfl⟩ ha43' (ct_43 _ _ _ _) rfl rfl rfl rfl (Nat.le_of_ble_eq_true rfl) ⟨Nat.le_trans (Nat.add_le_add_left (Nat.le_of_ble_eq_true rfl) _) hrc.1, Nat.le_trans (Nat.add_le_add_left (Nat.le_of_ble_eq_true rfl) _) hrc.2⟩ dL_law_1677 (fun H locs hP hS => ?_)
  refine lv_istore (lv' := [(6, .int k2), (5, .int k1), (4, .int (nI iN)), (0, .ref b), (1, .ref (ad 0 0)), (2, .ref (ad 43 0)), (3, .ref (ad 81 0))]) hx hb dL_law_1680 hl (Nat.le_of_ble_eq_true rfl) rfl (fun ls hl => ?_)
  refine lv_aload_n hx hb dL_law_1682 rfl (lv_at hl 5 rfl) ?_
  obtain ⟨k3, X3, h3, hf⟩ := b2_in hf
  refine r_cVi (rest := []) C hP hS hl.1 (s_X10_thrown hW2 (gD_in C.2.2.2.2.2.2.2.2.2.1 (fun _ _ => True.intro)) ha43' h3) ix_X10_thrown iv_X10_thrown lk_L_112 ⟨rfl, rfl, Nat.le_of_ble_eq_true rfl, Nat.le_of_ble_eq_true rfl⟩ ha43' (ct_43 _ _ _ _) rfl rfl rfl rfl (Nat.le_of_ble_eq_true rfl) ⟨Nat.le_trans (Nat.add_le_add_left (Nat.le_of_ble_eq_true rfl) _) hrc.1, Nat.le_trans (Nat.add_le_add_left (Nat.le_of_ble_eq_true rfl) _) hrc.2⟩ dL_law_1683 (fun H locs hP hS => ?_)
  refine lv_iload hx hb dL_law_1686 (lv_at hl 1 rfl) ?_
  refine lv_icmp_eq (tgt := 1693) hx hb dL_law_1688 (by decide) (fun c1 => ?_) (fun c1 => ?_)
  · have hf := g_ip c1 hf
    refine lv_iload hx hb dL_law_1693 (lv_at hl 1 rfl) ?_
    refine lv_if_ne (tgt := 1710) hx hb dL_law_1695 (by decide) (fun c2 => ?_) (fun c2 => ?_)
    · have hf := g_in c2 hf
      obtain ⟨-, rfl⟩ := g_s1 hf
      refine lv_goto (tgt := 2186) hx hb dL_law_1710 (by decide) ?_
      refine W.widen (k := cells + 130) (n := slots + 877) (Nat.add_le_add_left (Nat.le_of_ble_eq_true rfl) _) (Nat.add_le_add_left (Nat.le_of_ble_eq_true rfl) _) ?_
      exact kk C H locs ls hP hS (lv_sub hl [2, 3, 4, 5, 6] rfl)
    · have hf := g_ip c2 hf
      refine lv_aload_n hx hb dL_law_1698 rfl (lv_at hl 6 rfl) ?_
      refine lv_iconst (v := 0) hx hb dL_law_1699 (by decide) ?_
      refine r_lald (jj := 0) C hP ha81' gIn01 dL_law_1700 ?_
      refine lv_iload hx hb dL_law_1701 (lv_at hl 0 rfl) ?_
      refine lv_i2l (v := k2.toInt64) hx hb dL_law_1703 rfl ?_
      by_cases c3 : X3 81 0 0 = k2
      · have hf := g_ip c3 hf
        obtain ⟨-, rfl⟩ := g_s1 hf
        refine r_lcmp_eq hx hb (congrArg Int32.toInt64 c3) dL_law_1704 ?_
        refine lv_if_eq (tgt := 1710) hx hb dL_law_1705 (by decide) (fun _ => ?_) (fun c4 => absurd rfl c4)
        refine lv_goto (tgt := 2186) hx hb dL_law_1710 (by decide) ?_
        refine W.widen (k := cells + 130) (n := slots + 877) (Nat.add_le_add_left (Nat.le_of_ble_eq_true rfl) _) (Nat.add_le_add_left (Nat.le_of_ble_eq_true rfl) _) ?_
        exact kk C H locs ls hP hS (lv_sub hl [2, 3, 4, 5, 6] rfl)
      · have hf := g_in c3 hf
        cases hf
  · have hf := g_in c1 hf
    cases hf

set_option maxRecDepth 100000 in
set_option maxHeartbeats 4000000 in
theorem s_K19 {p : Program} {l : Launch} {e : Env} {s : State} {m : MethodId} {args : Array Value} {below : List Frame} {meth : Method} {c : Code} {H : Heap} {locs : List Loc} {cells slots : Nat} {Q : State → Prop} {rt : Option FieldType} {ls : Array Slot} {D : va_G} {cA : Nat → ClassId} {ad : Nat → Nat → Nat} {NL nw : List (Nat × Nat)} {A : Nat → Prop} {X X' : gM} {N b L iN : Nat} {xs : Nat → Int32} {rr : Int32} (C : gCx p c meth m s args cL_law 7 rt RL D cA ad NL A) (hWd : gWd A s) (htr : l.stackTraces = false) (hW : gWf NL) (hW2 : gWf (NL ++ nw)) (ha0 : (0, 0) ∈ NL) (ha43 : (43, 0) ∈ NL) (ha81 : (81, 0) ∈ NL) (hX : va_X b L xs s s.heap) (hbl : b < s.heap.size) (hbA : ¬ A b) (hL : L ≤ 3584) (hi : iN + 7 ≤ L) (hal : gAl ad) (hadr : gAdr ad H.size nw) (hP : gH D cA ad NL X H) (hS : va_S A s.heap H locs) (hl : lv_has ls 7 [(4, .int (nI iN)), (0, .ref b), (1, .ref (ad 0 0)), (2, .ref (ad 43 0)), (3, .ref (ad 81 0))]) (hrc : cells + 130 ≤ room_1.cells ∧ slots + 877 ≤ room_1.slots)
    (hf : K19 (gal NL) (gal (NL ++ nw)) N nw (xs (iN + 1)) (xs (iN + 2)) (xs (iN + 3)) (xs (iN + 4)) (xs (iN + 5)) (xs (iN + 6)) X = some (rr, X'))
    (kk : gCx p c meth m s args cL_law 7 rt RL D cA ad (NL ++ nw) A → ∀ (H : Heap) (locs : List Loc) (ls : Array Slot), gH D cA ad (NL ++ nw) X' H → va_S A s.heap H locs → lv_has ls 7 [(4, .int (nI iN)), (0, .ref b), (1, .ref (ad 0 0)), (2, .ref (ad 43 0)), (3, .ref (ad 81 0))] → W p l e room_1 s m args below meth c H locs (cells + 130) (slots + 877) Q (F0 m 2186 ls [])) : W p l e room_1 s m args below meth c H locs cells slots Q (F0 m 1713 ls []) := by
  have hx := C.1
  have hb := C.2.1
  have hD0 : gD (fun _ => True) ad NL := gD_in C.2.2.2.2.2.2.2.2.2.1 (fun _ _ => True.intro)
  have hrc0 : cells ≤ room_1.cells ∧ slots ≤ room_1.slots := ⟨Nat.le_trans (Nat.le_add_right _ _) hrc.1, Nat.le_trans (Nat.le_add_right _ _) hrc.2⟩
  have ha43' : (43, 0) ∈ NL ++ nw := List.mem_append_left _ ha43
  have ha81' : (81, 0) ∈ NL ++ nw := List.mem_append_left _ ha81
  rw [K19] at hf
  replace hf := eqn_in hf
  obtain ⟨hnw, hf⟩ := hf
  subst hnw
  refine lv_aload_n hx hb dL_law_1713 rfl (lv_at hl 2 rfl) ?_
  refine r_scr (j := 1) hx hb hX hbl hbA hS hL hl (k0 := 1) (k4 := 0) rfl rfl (by omega) (by decide) dL_law_1714 dL_law_1715 dL_law_1717 dL_law_1718 dL_law_1719 ?_
  refine r_scr (j := 2) hx hb hX hbl hbA hS hL hl (k0 := 1) (k4 := 0) rfl rfl (by omega) (by decide) dL_law_1720 dL_law_1721 dL_law_1723 dL_law_1724 dL_law_1725 ?_
  refine lv_aload_n hx hb dL_law_1726 rfl (lv_at hl 4 rfl) ?_
  obtain ⟨k1, X1, h1, hf⟩ := b2_in hf
  refine r_callL (nw := []) (rest := []) C hWd hP hS hl.1 rfl (s_L_date (nw := []) htr hW hD0 ha0 ha81 h1) True.intro il_L_date ls_L_178 ⟨rfl, rfl, Nat.le_of_ble_eq_true rfl, Nat.le_of_ble_eq_true rfl⟩ rfl rfl (Nat.le_of_ble_eq_true rfl) ⟨Nat.le_trans (Nat.add_le_add_left (Nat.le_of_ble_eq_true rfl) _) hrc.1, Nat.le_trans (Nat.add_le_add_left (Nat.le_of_ble_eq_true rfl) _) hrc.2⟩ dL_law_1727 (fun C H locs hP hS => ?_)
  refine lv_istore (lv' := [(5, .int k1), (4, .int (nI iN)), (0, .ref b), (1, .ref (ad 0 0)), (2, .ref (ad 43 0)), (3, .ref (ad 81 0))]) hx hb dL_law_1730 hl (Nat.le_of_ble_eq_true rfl) rfl (fun ls hl => ?_)
  refine lv_aload_n hx hb dL_law_1732 rfl (lv_at hl 4 rfl) ?_
  refine r_scr (j := 1) hx hb hX hbl hbA hS hL hl (k0 := 2) (k4 := 1) rfl rfl (by omega) (by decide) dL_law_1733 dL_law_1734 dL_law_1736 dL_law_1737 dL_law_1738 ?_
  refine r_scr (j := 2) hx hb hX hbl hbA hS hL hl (k0 := 2) (k4 := 1) rfl rfl (by omega) (by decide) dL_law_1739 dL_law_1740 dL_law_1742 dL_law_1743 dL_law_1744 ?_
  obtain ⟨k2, X2, h2, hf⟩ := b2_in hf
  refine r_cVi (rest := []) C hP hS hl.1 (s_X10_date hW2 (gD_in C.2.2.2.2.2.2.2.2.2.1 (fun _ _ => True.intro)) ha43' h2) ix_X10_date iv_X10_date lk_L_180 ⟨rfl, rfl, Nat.le_of_ble_eq_true rfl, Nat.le_of_ble_eq_true rfl⟩ ha43' (ct_43 _ _ _ _) rfl rfl rfl rfl (Nat.le_of_ble_eq_true rfl) ⟨Nat.le_trans (Nat.add_le_add_left (Nat.le_of_ble_eq_true rfl) _) hrc.1, Nat.le_trans (Nat.add_le_add_left (Nat.le_of_ble_eq_true rfl) _) hrc.2⟩ dL_law_1745 (fun H locs hP hS => ?_)
  refine lv_istore (lv' := [(6, .int k2), (5, .int k1), (4, .int (nI iN)), (0, .ref b), (1, .ref (ad 0 0)), (2, .ref (ad 43 0)), (3, .ref (ad 81 0))]) hx hb dL_law_1748 hl (Nat.le_of_ble_eq_true rfl) rfl (fun ls hl => ?_)
  refine lv_aload_n hx hb dL_law_1750 rfl (lv_at hl 5 rfl) ?_
  obtain ⟨k3, X3, h3, hf⟩ := b2_in hf
  refine r_cVi (rest := []) C hP hS hl.1 (s_X10_thrown hW2 (gD_in C.2.2.2.2.2.2.2.2.2.1 (fun _ _ => True.intro)) ha43' h3) ix_X10_thrown iv_X10_thrown lk_L_112 ⟨rfl, rfl, Nat.le_of_ble_eq_true rfl, Nat.le_of_ble_eq_true rfl⟩ ha43' (ct_43 _ _ _ _) rfl rfl rfl rfl (Nat.le_of_ble_eq_true rfl) ⟨Nat.le_trans (Nat.add_le_add_left (Nat.le_of_ble_eq_true rfl) _) hrc.1, Nat.le_trans (Nat.add_le_add_left (Nat.le_of_ble_eq_true rfl) _) hrc.2⟩ dL_law_1751 (fun H locs hP hS => ?_)
  refine lv_iload hx hb dL_law_1754 (lv_at hl 1 rfl) ?_
  refine lv_icmp_eq (tgt := 1761) hx hb dL_law_1756 (by decide) (fun c1 => ?_) (fun c1 => ?_)
  · have hf := g_ip c1 hf
    refine lv_iload hx hb dL_law_1761 (lv_at hl 1 rfl) ?_
    refine lv_if_ne (tgt := 1778) hx hb dL_law_1763 (by decide) (fun c2 => ?_) (fun c2 => ?_)
    · have hf := g_in c2 hf
      obtain ⟨-, rfl⟩ := g_s1 hf
      refine lv_goto (tgt := 2186) hx hb dL_law_1778 (by decide) ?_
      refine W.widen (k := cells + 130) (n := slots + 877) (Nat.add_le_add_left (Nat.le_of_ble_eq_true rfl) _) (Nat.add_le_add_left (Nat.le_of_ble_eq_true rfl) _) ?_
      exact kk C H locs ls hP hS (lv_sub hl [2, 3, 4, 5, 6] rfl)
    · have hf := g_ip c2 hf
      refine lv_aload_n hx hb dL_law_1766 rfl (lv_at hl 6 rfl) ?_
      refine lv_iconst (v := 0) hx hb dL_law_1767 (by decide) ?_
      refine r_lald (jj := 0) C hP ha81' gIn01 dL_law_1768 ?_
      refine lv_iload hx hb dL_law_1769 (lv_at hl 0 rfl) ?_
      refine lv_i2l (v := k2.toInt64) hx hb dL_law_1771 rfl ?_
      by_cases c3 : X3 81 0 0 = k2
      · have hf := g_ip c3 hf
        obtain ⟨-, rfl⟩ := g_s1 hf
        refine r_lcmp_eq hx hb (congrArg Int32.toInt64 c3) dL_law_1772 ?_
        refine lv_if_eq (tgt := 1778) hx hb dL_law_1773 (by decide) (fun _ => ?_) (fun c4 => absurd rfl c4)
        refine lv_goto (tgt := 2186) hx hb dL_law_1778 (by decide) ?_
        refine W.widen (k := cells + 130) (n := slots + 877) (Nat.add_le_add_left (Nat.le_of_ble_eq_true rfl) _) (Nat.add_le_add_left (Nat.le_of_ble_eq_true rfl) _) ?_
        exact kk C H locs ls hP hS (lv_sub hl [2, 3, 4, 5, 6] rfl)
      · have hf := g_in c3 hf
        cases hf
  · have hf := g_in c1 hf
    cases hf

set_option maxRecDepth 100000 in
set_option maxHeartbeats 4000000 in
theorem s_K20 {p : Program} {l : Launch} {e : Env} {s : State} {m : MethodId} {args : Array Value} {below : List Frame} {meth : Method} {c : Code} {H : Heap} {locs : List Loc} {cells slots : Nat} {Q : State → Prop} {rt : Option FieldType} {ls : Array Slot} {D : va_G} {cA : Nat → ClassId} {ad : Nat → Nat → Nat} {NL nw : List (Nat × Nat)} {A : Nat → Prop} {X X' : gM} {N b L iN : Nat} {xs : Nat → Int32} {rr : Int32} (C : gCx p c meth m s args cL_law 7 rt RL D cA ad NL A) (hWd : gWd A s) (htr : l.stackTraces = false) (hW : gWf NL) (hW2 : gWf (NL ++ nw)) (ha0 : (0, 0) ∈ NL) (ha43 : (43, 0) ∈ NL) (ha81 : (81, 0) ∈ NL) (hX : va_X b L xs s s.heap) (hbl : b < s.heap.size) (hbA : ¬ A b) (hL : L ≤ 3584) (hi : iN + 7 ≤ L) (hal : gAl ad) (hadr : gAdr ad H.size nw) (hP : gH D cA ad NL X H) (hS : va_S A s.heap H locs) (hl : lv_has ls 7 [(4, .int (nI iN)), (0, .ref b), (1, .ref (ad 0 0)), (2, .ref (ad 43 0)), (3, .ref (ad 81 0))]) (hrc : cells + 130 ≤ room_1.cells ∧ slots + 877 ≤ room_1.slots)
    (hf : K20 (gal NL) (gal (NL ++ nw)) N nw (xs (iN + 1)) (xs (iN + 2)) (xs (iN + 3)) (xs (iN + 4)) (xs (iN + 5)) (xs (iN + 6)) X = some (rr, X'))
    (kk : gCx p c meth m s args cL_law 7 rt RL D cA ad (NL ++ nw) A → ∀ (H : Heap) (locs : List Loc) (ls : Array Slot), gH D cA ad (NL ++ nw) X' H → va_S A s.heap H locs → lv_has ls 7 [(4, .int (nI iN)), (0, .ref b), (1, .ref (ad 0 0)), (2, .ref (ad 43 0)), (3, .ref (ad 81 0))] → W p l e room_1 s m args below meth c H locs (cells + 130) (slots + 877) Q (F0 m 2186 ls [])) : W p l e room_1 s m args below meth c H locs cells slots Q (F0 m 1781 ls []) := by
  have hx := C.1
  have hb := C.2.1
  have hD0 : gD (fun _ => True) ad NL := gD_in C.2.2.2.2.2.2.2.2.2.1 (fun _ _ => True.intro)
  have hrc0 : cells ≤ room_1.cells ∧ slots ≤ room_1.slots := ⟨Nat.le_trans (Nat.le_add_right _ _) hrc.1, Nat.le_trans (Nat.le_add_right _ _) hrc.2⟩
  have ha43' : (43, 0) ∈ NL ++ nw := List.mem_append_left _ ha43
  have ha81' : (81, 0) ∈ NL ++ nw := List.mem_append_left _ ha81
  rw [K20] at hf
  replace hf := eqn_in hf
  obtain ⟨hnw, hf⟩ := hf
  subst hnw
  refine lv_aload_n hx hb dL_law_1781 rfl (lv_at hl 2 rfl) ?_
  refine r_scr (j := 1) hx hb hX hbl hbA hS hL hl (k0 := 1) (k4 := 0) rfl rfl (by omega) (by decide) dL_law_1782 dL_law_1783 dL_law_1785 dL_law_1786 dL_law_1787 ?_
  refine lv_aload_n hx hb dL_law_1788 rfl (lv_at hl 4 rfl) ?_
  obtain ⟨k1, X1, h1, hf⟩ := b2_in hf
  refine r_callL (nw := []) (rest := []) C hWd hP hS hl.1 rfl (s_L_dates (nw := []) htr hW hD0 ha0 ha81 h1) True.intro il_L_dates ls_L_181 ⟨rfl, rfl, Nat.le_of_ble_eq_true rfl, Nat.le_of_ble_eq_true rfl⟩ rfl rfl (Nat.le_of_ble_eq_true rfl) ⟨Nat.le_trans (Nat.add_le_add_left (Nat.le_of_ble_eq_true rfl) _) hrc.1, Nat.le_trans (Nat.add_le_add_left (Nat.le_of_ble_eq_true rfl) _) hrc.2⟩ dL_law_1789 (fun C H locs hP hS => ?_)
  refine lv_istore (lv' := [(5, .int k1), (4, .int (nI iN)), (0, .ref b), (1, .ref (ad 0 0)), (2, .ref (ad 43 0)), (3, .ref (ad 81 0))]) hx hb dL_law_1792 hl (Nat.le_of_ble_eq_true rfl) rfl (fun ls hl => ?_)
  refine lv_aload_n hx hb dL_law_1794 rfl (lv_at hl 4 rfl) ?_
  refine r_scr (j := 1) hx hb hX hbl hbA hS hL hl (k0 := 2) (k4 := 1) rfl rfl (by omega) (by decide) dL_law_1795 dL_law_1796 dL_law_1798 dL_law_1799 dL_law_1800 ?_
  obtain ⟨k2, X2, h2, hf⟩ := b2_in hf
  refine r_cVi (rest := []) C hP hS hl.1 (s_X10_dates hW2 (gD_in C.2.2.2.2.2.2.2.2.2.1 (fun _ _ => True.intro)) ha43' h2) ix_X10_dates iv_X10_dates lk_L_183 ⟨rfl, rfl, Nat.le_of_ble_eq_true rfl, Nat.le_of_ble_eq_true rfl⟩ ha43' (ct_43 _ _ _ _) rfl rfl rfl rfl (Nat.le_of_ble_eq_true rfl) ⟨Nat.le_trans (Nat.add_le_add_left (Nat.le_of_ble_eq_true rfl) _) hrc.1, Nat.le_trans (Nat.add_le_add_left (Nat.le_of_ble_eq_true rfl) _) hrc.2⟩ dL_law_1801 (fun H locs hP hS => ?_)
  refine lv_istore (lv' := [(6, .int k2), (5, .int k1), (4, .int (nI iN)), (0, .ref b), (1, .ref (ad 0 0)), (2, .ref (ad 43 0)), (3, .ref (ad 81 0))]) hx hb dL_law_1804 hl (Nat.le_of_ble_eq_true rfl) rfl (fun ls hl => ?_)
  refine lv_aload_n hx hb dL_law_1806 rfl (lv_at hl 5 rfl) ?_
  obtain ⟨k3, X3, h3, hf⟩ := b2_in hf
  refine r_cVi (rest := []) C hP hS hl.1 (s_X10_thrown hW2 (gD_in C.2.2.2.2.2.2.2.2.2.1 (fun _ _ => True.intro)) ha43' h3) ix_X10_thrown iv_X10_thrown lk_L_112 ⟨rfl, rfl, Nat.le_of_ble_eq_true rfl, Nat.le_of_ble_eq_true rfl⟩ ha43' (ct_43 _ _ _ _) rfl rfl rfl rfl (Nat.le_of_ble_eq_true rfl) ⟨Nat.le_trans (Nat.add_le_add_left (Nat.le_of_ble_eq_true rfl) _) hrc.1, Nat.le_trans (Nat.add_le_add_left (Nat.le_of_ble_eq_true rfl) _) hrc.2⟩ dL_law_1807 (fun H locs hP hS => ?_)
  refine lv_iload hx hb dL_law_1810 (lv_at hl 1 rfl) ?_
  refine lv_icmp_eq (tgt := 1817) hx hb dL_law_1812 (by decide) (fun c1 => ?_) (fun c1 => ?_)
  · have hf := g_ip c1 hf
    refine lv_iload hx hb dL_law_1817 (lv_at hl 1 rfl) ?_
    refine lv_if_ne (tgt := 1834) hx hb dL_law_1819 (by decide) (fun c2 => ?_) (fun c2 => ?_)
    · have hf := g_in c2 hf
      obtain ⟨-, rfl⟩ := g_s1 hf
      refine lv_goto (tgt := 2186) hx hb dL_law_1834 (by decide) ?_
      refine W.widen (k := cells + 130) (n := slots + 877) (Nat.add_le_add_left (Nat.le_of_ble_eq_true rfl) _) (Nat.add_le_add_left (Nat.le_of_ble_eq_true rfl) _) ?_
      exact kk C H locs ls hP hS (lv_sub hl [2, 3, 4, 5, 6] rfl)
    · have hf := g_ip c2 hf
      refine lv_aload_n hx hb dL_law_1822 rfl (lv_at hl 6 rfl) ?_
      refine lv_iconst (v := 0) hx hb dL_law_1823 (by decide) ?_
      refine r_lald (jj := 0) C hP ha81' gIn01 dL_law_1824 ?_
      refine lv_iload hx hb dL_law_1825 (lv_at hl 0 rfl) ?_
      refine lv_i2l (v := k2.toInt64) hx hb dL_law_1827 rfl ?_
      by_cases c3 : X3 81 0 0 = k2
      · have hf := g_ip c3 hf
        obtain ⟨-, rfl⟩ := g_s1 hf
        refine r_lcmp_eq hx hb (congrArg Int32.toInt64 c3) dL_law_1828 ?_
        refine lv_if_eq (tgt := 1834) hx hb dL_law_1829 (by decide) (fun _ => ?_) (fun c4 => absurd rfl c4)
        refine lv_goto (tgt := 2186) hx hb dL_law_1834 (by decide) ?_
        refine W.widen (k := cells + 130) (n := slots + 877) (Nat.add_le_add_left (Nat.le_of_ble_eq_true rfl) _) (Nat.add_le_add_left (Nat.le_of_ble_eq_true rfl) _) ?_
        exact kk C H locs ls hP hS (lv_sub hl [2, 3, 4, 5, 6] rfl)
      · have hf := g_in c3 hf
        cases hf
  · have hf := g_in c1 hf
    cases hf

set_option maxRecDepth 100000 in
set_option maxHeartbeats 4000000 in
theorem s_K21 {p : Program} {l : Launch} {e : Env} {s : State} {m : MethodId} {args : Array Value} {below : List Frame} {meth : Method} {c : Code} {H : Heap} {locs : List Loc} {cells slots : Nat} {Q : State → Prop} {rt : Option FieldType} {ls : Array Slot} {D : va_G} {cA : Nat → ClassId} {ad : Nat → Nat → Nat} {NL nw : List (Nat × Nat)} {A : Nat → Prop} {X X' : gM} {N b L iN : Nat} {xs : Nat → Int32} {rr : Int32} (C : gCx p c meth m s args cL_law 7 rt RL D cA ad NL A) (hWd : gWd A s) (htr : l.stackTraces = false) (hW : gWf NL) (hW2 : gWf (NL ++ nw)) (ha0 : (0, 0) ∈ NL) (ha43 : (43, 0) ∈ NL) (ha81 : (81, 0) ∈ NL) (hX : va_X b L xs s s.heap) (hbl : b < s.heap.size) (hbA : ¬ A b) (hL : L ≤ 3584) (hi : iN + 7 ≤ L) (hal : gAl ad) (hadr : gAdr ad H.size nw) (hP : gH D cA ad NL X H) (hS : va_S A s.heap H locs) (hl : lv_has ls 7 [(4, .int (nI iN)), (0, .ref b), (1, .ref (ad 0 0)), (2, .ref (ad 43 0)), (3, .ref (ad 81 0))]) (hrc : cells + 130 ≤ room_1.cells ∧ slots + 877 ≤ room_1.slots)
    (hf : K21 (gal NL) (gal (NL ++ nw)) N nw (xs (iN + 1)) (xs (iN + 2)) (xs (iN + 3)) (xs (iN + 4)) (xs (iN + 5)) (xs (iN + 6)) X = some (rr, X'))
    (kk : gCx p c meth m s args cL_law 7 rt RL D cA ad (NL ++ nw) A → ∀ (H : Heap) (locs : List Loc) (ls : Array Slot), gH D cA ad (NL ++ nw) X' H → va_S A s.heap H locs → lv_has ls 7 [(4, .int (nI iN)), (0, .ref b), (1, .ref (ad 0 0)), (2, .ref (ad 43 0)), (3, .ref (ad 81 0))] → W p l e room_1 s m args below meth c H locs (cells + 130) (slots + 877) Q (F0 m 2186 ls [])) : W p l e room_1 s m args below meth c H locs cells slots Q (F0 m 1837 ls []) := by
  have hx := C.1
  have hb := C.2.1
  have hD0 : gD (fun _ => True) ad NL := gD_in C.2.2.2.2.2.2.2.2.2.1 (fun _ _ => True.intro)
  have hrc0 : cells ≤ room_1.cells ∧ slots ≤ room_1.slots := ⟨Nat.le_trans (Nat.le_add_right _ _) hrc.1, Nat.le_trans (Nat.le_add_right _ _) hrc.2⟩
  have ha43' : (43, 0) ∈ NL ++ nw := List.mem_append_left _ ha43
  have ha81' : (81, 0) ∈ NL ++ nw := List.mem_append_left _ ha81
  rw [K21] at hf
  replace hf := eqn_in hf
  obtain ⟨hnw, hf⟩ := hf
  subst hnw
  refine lv_aload_n hx hb dL_law_1837 rfl (lv_at hl 2 rfl) ?_
  refine r_scr (j := 1) hx hb hX hbl hbA hS hL hl (k0 := 1) (k4 := 0) rfl rfl (by omega) (by decide) dL_law_1838 dL_law_1839 dL_law_1841 dL_law_1842 dL_law_1843 ?_
  refine r_scr (j := 2) hx hb hX hbl hbA hS hL hl (k0 := 1) (k4 := 0) rfl rfl (by omega) (by decide) dL_law_1844 dL_law_1845 dL_law_1847 dL_law_1848 dL_law_1849 ?_
  refine r_scr (j := 3) hx hb hX hbl hbA hS hL hl (k0 := 1) (k4 := 0) rfl rfl (by omega) (by decide) dL_law_1850 dL_law_1851 dL_law_1853 dL_law_1854 dL_law_1855 ?_
  refine r_scr (j := 4) hx hb hX hbl hbA hS hL hl (k0 := 1) (k4 := 0) rfl rfl (by omega) (by decide) dL_law_1856 dL_law_1857 dL_law_1859 dL_law_1860 dL_law_1861 ?_
  refine r_scr (j := 5) hx hb hX hbl hbA hS hL hl (k0 := 1) (k4 := 0) rfl rfl (by omega) (by decide) dL_law_1862 dL_law_1863 dL_law_1865 dL_law_1866 dL_law_1867 ?_
  refine r_bool (t1 := 1875) (t2 := 1876) hx hb dL_law_1868 (by decide) dL_law_1871 dL_law_1872 (by decide) dL_law_1875 rfl ?_
  refine lv_aload_n hx hb dL_law_1876 rfl (lv_at hl 4 rfl) ?_
  obtain ⟨k1, X1, h1, hf⟩ := b2_in hf
  refine r_callL (nw := []) (rest := []) C hWd hP hS hl.1 rfl (s_L_match (nw := []) htr hW hD0 ha0 ha81 h1) True.intro il_L_match ls_L_184 ⟨rfl, rfl, Nat.le_of_ble_eq_true rfl, Nat.le_of_ble_eq_true rfl⟩ rfl rfl (Nat.le_of_ble_eq_true rfl) ⟨Nat.le_trans (Nat.add_le_add_left (Nat.le_of_ble_eq_true rfl) _) hrc.1, Nat.le_trans (Nat.add_le_add_left (Nat.le_of_ble_eq_true rfl) _) hrc.2⟩ dL_law_1877 (fun C H locs hP hS => ?_)
  refine lv_istore (lv' := [(5, .int k1), (4, .int (nI iN)), (0, .ref b), (1, .ref (ad 0 0)), (2, .ref (ad 43 0)), (3, .ref (ad 81 0))]) hx hb dL_law_1880 hl (Nat.le_of_ble_eq_true rfl) rfl (fun ls hl => ?_)
  refine lv_aload_n hx hb dL_law_1882 rfl (lv_at hl 4 rfl) ?_
  refine r_scr (j := 1) hx hb hX hbl hbA hS hL hl (k0 := 2) (k4 := 1) rfl rfl (by omega) (by decide) dL_law_1883 dL_law_1884 dL_law_1886 dL_law_1887 dL_law_1888 ?_
  refine r_scr (j := 2) hx hb hX hbl hbA hS hL hl (k0 := 2) (k4 := 1) rfl rfl (by omega) (by decide) dL_law_1889 dL_law_1890 dL_law_1892 dL_law_1893 dL_law_1894 ?_
  refine r_scr (j := 3) hx hb hX hbl hbA hS hL hl (k0 := 2) (k4 := 1) rfl rfl (by omega) (by decide) dL_law_1895 dL_law_1896 dL_law_1898 dL_law_1899 dL_law_1900 ?_
  refine r_scr (j := 4) hx hb hX hbl hbA hS hL hl (k0 := 2) (k4 := 1) rfl rfl (by omega) (by decide) dL_law_1901 dL_law_1902 dL_law_1904 dL_law_1905 dL_law_1906 ?_
  refine r_scr (j := 5) hx hb hX hbl hbA hS hL hl (k0 := 2) (k4 := 1) rfl rfl (by omega) (by decide) dL_law_1907 dL_law_1908 dL_law_1910 dL_law_1911 dL_law_1912 ?_
  refine r_bool (t1 := 1920) (t2 := 1921) hx hb dL_law_1913 (by decide) dL_law_1916 dL_law_1917 (by decide) dL_law_1920 rfl ?_
  obtain ⟨k2, X2, h2, hf⟩ := b2_in hf
  refine r_cVi (rest := []) C hP hS hl.1 (s_X10_match hW2 (gD_in C.2.2.2.2.2.2.2.2.2.1 (fun _ _ => True.intro)) ha43' h2) ix_X10_match iv_X10_match lk_L_187 ⟨rfl, rfl, Nat.le_of_ble_eq_true rfl, Nat.le_of_ble_eq_true rfl⟩ ha43' (ct_43 _ _ _ _) rfl rfl rfl rfl (Nat.le_of_ble_eq_true rfl) ⟨Nat.le_trans (Nat.add_le_add_left (Nat.le_of_ble_eq_true rfl) _) hrc.1, Nat.le_trans (Nat.add_le_add_left (Nat.le_of_ble_eq_true rfl) _) hrc.2⟩ dL_law_1921 (fun H locs hP hS => ?_)
  refine lv_istore (lv' := [(6, .int k2), (5, .int k1), (4, .int (nI iN)), (0, .ref b), (1, .ref (ad 0 0)), (2, .ref (ad 43 0)), (3, .ref (ad 81 0))]) hx hb dL_law_1924 hl (Nat.le_of_ble_eq_true rfl) rfl (fun ls hl => ?_)
  refine lv_aload_n hx hb dL_law_1926 rfl (lv_at hl 5 rfl) ?_
  obtain ⟨k3, X3, h3, hf⟩ := b2_in hf
  refine r_cVi (rest := []) C hP hS hl.1 (s_X10_thrown hW2 (gD_in C.2.2.2.2.2.2.2.2.2.1 (fun _ _ => True.intro)) ha43' h3) ix_X10_thrown iv_X10_thrown lk_L_112 ⟨rfl, rfl, Nat.le_of_ble_eq_true rfl, Nat.le_of_ble_eq_true rfl⟩ ha43' (ct_43 _ _ _ _) rfl rfl rfl rfl (Nat.le_of_ble_eq_true rfl) ⟨Nat.le_trans (Nat.add_le_add_left (Nat.le_of_ble_eq_true rfl) _) hrc.1, Nat.le_trans (Nat.add_le_add_left (Nat.le_of_ble_eq_true rfl) _) hrc.2⟩ dL_law_1927 (fun H locs hP hS => ?_)
  refine lv_iload hx hb dL_law_1930 (lv_at hl 1 rfl) ?_
  refine lv_icmp_eq (tgt := 1937) hx hb dL_law_1932 (by decide) (fun c1 => ?_) (fun c1 => ?_)
  · have hf := g_ip c1 hf
    refine lv_iload hx hb dL_law_1937 (lv_at hl 1 rfl) ?_
    refine lv_if_ne (tgt := 1954) hx hb dL_law_1939 (by decide) (fun c2 => ?_) (fun c2 => ?_)
    · have hf := g_in c2 hf
      obtain ⟨-, rfl⟩ := g_s1 hf
      refine lv_goto (tgt := 2186) hx hb dL_law_1954 (by decide) ?_
      refine W.widen (k := cells + 130) (n := slots + 877) (Nat.add_le_add_left (Nat.le_of_ble_eq_true rfl) _) (Nat.add_le_add_left (Nat.le_of_ble_eq_true rfl) _) ?_
      exact kk C H locs ls hP hS (lv_sub hl [2, 3, 4, 5, 6] rfl)
    · have hf := g_ip c2 hf
      refine lv_aload_n hx hb dL_law_1942 rfl (lv_at hl 6 rfl) ?_
      refine lv_iconst (v := 0) hx hb dL_law_1943 (by decide) ?_
      refine r_lald (jj := 0) C hP ha81' gIn01 dL_law_1944 ?_
      refine lv_iload hx hb dL_law_1945 (lv_at hl 0 rfl) ?_
      refine lv_i2l (v := k2.toInt64) hx hb dL_law_1947 rfl ?_
      by_cases c3 : X3 81 0 0 = k2
      · have hf := g_ip c3 hf
        obtain ⟨-, rfl⟩ := g_s1 hf
        refine r_lcmp_eq hx hb (congrArg Int32.toInt64 c3) dL_law_1948 ?_
        refine lv_if_eq (tgt := 1954) hx hb dL_law_1949 (by decide) (fun _ => ?_) (fun c4 => absurd rfl c4)
        refine lv_goto (tgt := 2186) hx hb dL_law_1954 (by decide) ?_
        refine W.widen (k := cells + 130) (n := slots + 877) (Nat.add_le_add_left (Nat.le_of_ble_eq_true rfl) _) (Nat.add_le_add_left (Nat.le_of_ble_eq_true rfl) _) ?_
        exact kk C H locs ls hP hS (lv_sub hl [2, 3, 4, 5, 6] rfl)
      · have hf := g_in c3 hf
        cases hf
  · have hf := g_in c1 hf
    cases hf

set_option maxRecDepth 100000 in
set_option maxHeartbeats 4000000 in
theorem s_K22 {p : Program} {l : Launch} {e : Env} {s : State} {m : MethodId} {args : Array Value} {below : List Frame} {meth : Method} {c : Code} {H : Heap} {locs : List Loc} {cells slots : Nat} {Q : State → Prop} {rt : Option FieldType} {ls : Array Slot} {D : va_G} {cA : Nat → ClassId} {ad : Nat → Nat → Nat} {NL nw : List (Nat × Nat)} {A : Nat → Prop} {X X' : gM} {N b L iN : Nat} {xs : Nat → Int32} {rr : Int32} (C : gCx p c meth m s args cL_law 7 rt RL D cA ad NL A) (hWd : gWd A s) (htr : l.stackTraces = false) (hW : gWf NL) (hW2 : gWf (NL ++ nw)) (ha0 : (0, 0) ∈ NL) (ha43 : (43, 0) ∈ NL) (ha81 : (81, 0) ∈ NL) (hX : va_X b L xs s s.heap) (hbl : b < s.heap.size) (hbA : ¬ A b) (hL : L ≤ 3584) (hi : iN + 7 ≤ L) (hal : gAl ad) (hadr : gAdr ad H.size nw) (hP : gH D cA ad NL X H) (hS : va_S A s.heap H locs) (hl : lv_has ls 7 [(4, .int (nI iN)), (0, .ref b), (1, .ref (ad 0 0)), (2, .ref (ad 43 0)), (3, .ref (ad 81 0))]) (hrc : cells + 130 ≤ room_1.cells ∧ slots + 877 ≤ room_1.slots)
    (hf : K22 (gal NL) (gal (NL ++ nw)) N nw (xs (iN + 1)) (xs (iN + 2)) (xs (iN + 3)) (xs (iN + 4)) (xs (iN + 5)) (xs (iN + 6)) X = some (rr, X'))
    (kk : gCx p c meth m s args cL_law 7 rt RL D cA ad (NL ++ nw) A → ∀ (H : Heap) (locs : List Loc) (ls : Array Slot), gH D cA ad (NL ++ nw) X' H → va_S A s.heap H locs → lv_has ls 7 [(4, .int (nI iN)), (0, .ref b), (1, .ref (ad 0 0)), (2, .ref (ad 43 0)), (3, .ref (ad 81 0))] → W p l e room_1 s m args below meth c H locs (cells + 130) (slots + 877) Q (F0 m 2186 ls [])) : W p l e room_1 s m args below meth c H locs cells slots Q (F0 m 1957 ls []) := by
  have hx := C.1
  have hb := C.2.1
  have hD0 : gD (fun _ => True) ad NL := gD_in C.2.2.2.2.2.2.2.2.2.1 (fun _ _ => True.intro)
  have hrc0 : cells ≤ room_1.cells ∧ slots ≤ room_1.slots := ⟨Nat.le_trans (Nat.le_add_right _ _) hrc.1, Nat.le_trans (Nat.le_add_right _ _) hrc.2⟩
  have ha43' : (43, 0) ∈ NL ++ nw := List.mem_append_left _ ha43
  have ha81' : (81, 0) ∈ NL ++ nw := List.mem_append_left _ ha81
  rw [K22] at hf
  replace hf := eqn_in hf
  obtain ⟨hnw, hf⟩ := hf
  subst hnw
  refine lv_aload_n hx hb dL_law_1957 rfl (lv_at hl 2 rfl) ?_
  refine r_scr (j := 1) hx hb hX hbl hbA hS hL hl (k0 := 1) (k4 := 0) rfl rfl (by omega) (by decide) dL_law_1958 dL_law_1959 dL_law_1961 dL_law_1962 dL_law_1963 ?_
  refine r_scr (j := 2) hx hb hX hbl hbA hS hL hl (k0 := 1) (k4 := 0) rfl rfl (by omega) (by decide) dL_law_1964 dL_law_1965 dL_law_1967 dL_law_1968 dL_law_1969 ?_
  refine lv_aload_n hx hb dL_law_1970 rfl (lv_at hl 4 rfl) ?_
  obtain ⟨k1, X1, h1, hf⟩ := b2_in hf
  refine r_callL (nw := []) (rest := []) C hWd hP hS hl.1 rfl (s_L_edition (nw := []) htr hW hD0 ha0 ha81 h1) True.intro il_L_edition ls_L_188 ⟨rfl, rfl, Nat.le_of_ble_eq_true rfl, Nat.le_of_ble_eq_true rfl⟩ rfl rfl (Nat.le_of_ble_eq_true rfl) ⟨Nat.le_trans (Nat.add_le_add_left (Nat.le_of_ble_eq_true rfl) _) hrc.1, Nat.le_trans (Nat.add_le_add_left (Nat.le_of_ble_eq_true rfl) _) hrc.2⟩ dL_law_1971 (fun C H locs hP hS => ?_)
  refine lv_istore (lv' := [(5, .int k1), (4, .int (nI iN)), (0, .ref b), (1, .ref (ad 0 0)), (2, .ref (ad 43 0)), (3, .ref (ad 81 0))]) hx hb dL_law_1974 hl (Nat.le_of_ble_eq_true rfl) rfl (fun ls hl => ?_)
  refine lv_aload_n hx hb dL_law_1976 rfl (lv_at hl 4 rfl) ?_
  refine r_scr (j := 1) hx hb hX hbl hbA hS hL hl (k0 := 2) (k4 := 1) rfl rfl (by omega) (by decide) dL_law_1977 dL_law_1978 dL_law_1980 dL_law_1981 dL_law_1982 ?_
  refine r_scr (j := 2) hx hb hX hbl hbA hS hL hl (k0 := 2) (k4 := 1) rfl rfl (by omega) (by decide) dL_law_1983 dL_law_1984 dL_law_1986 dL_law_1987 dL_law_1988 ?_
  obtain ⟨k2, X2, h2, hf⟩ := b2_in hf
  refine r_cVi (rest := []) C hP hS hl.1 (s_X10_edition hW2 (gD_in C.2.2.2.2.2.2.2.2.2.1 (fun _ _ => True.intro)) ha43' h2) ix_X10_edition iv_X10_edition lk_L_190 ⟨rfl, rfl, Nat.le_of_ble_eq_true rfl, Nat.le_of_ble_eq_true rfl⟩ ha43' (ct_43 _ _ _ _) rfl rfl rfl rfl (Nat.le_of_ble_eq_true rfl) ⟨Nat.le_trans (Nat.add_le_add_left (Nat.le_of_ble_eq_true rfl) _) hrc.1, Nat.le_trans (Nat.add_le_add_left (Nat.le_of_ble_eq_true rfl) _) hrc.2⟩ dL_law_1989 (fun H locs hP hS => ?_)
  refine lv_istore (lv' := [(6, .int k2), (5, .int k1), (4, .int (nI iN)), (0, .ref b), (1, .ref (ad 0 0)), (2, .ref (ad 43 0)), (3, .ref (ad 81 0))]) hx hb dL_law_1992 hl (Nat.le_of_ble_eq_true rfl) rfl (fun ls hl => ?_)
  refine lv_aload_n hx hb dL_law_1994 rfl (lv_at hl 5 rfl) ?_
  obtain ⟨k3, X3, h3, hf⟩ := b2_in hf
  refine r_cVi (rest := []) C hP hS hl.1 (s_X10_thrown hW2 (gD_in C.2.2.2.2.2.2.2.2.2.1 (fun _ _ => True.intro)) ha43' h3) ix_X10_thrown iv_X10_thrown lk_L_112 ⟨rfl, rfl, Nat.le_of_ble_eq_true rfl, Nat.le_of_ble_eq_true rfl⟩ ha43' (ct_43 _ _ _ _) rfl rfl rfl rfl (Nat.le_of_ble_eq_true rfl) ⟨Nat.le_trans (Nat.add_le_add_left (Nat.le_of_ble_eq_true rfl) _) hrc.1, Nat.le_trans (Nat.add_le_add_left (Nat.le_of_ble_eq_true rfl) _) hrc.2⟩ dL_law_1995 (fun H locs hP hS => ?_)
  refine lv_iload hx hb dL_law_1998 (lv_at hl 1 rfl) ?_
  refine lv_icmp_eq (tgt := 2005) hx hb dL_law_2000 (by decide) (fun c1 => ?_) (fun c1 => ?_)
  · have hf := g_ip c1 hf
    refine lv_iload hx hb dL_law_2005 (lv_at hl 1 rfl) ?_
    refine lv_if_ne (tgt := 2022) hx hb dL_law_2007 (by decide) (fun c2 => ?_) (fun c2 => ?_)
    · have hf := g_in c2 hf
      obtain ⟨-, rfl⟩ := g_s1 hf
      refine lv_goto (tgt := 2186) hx hb dL_law_2022 (by decide) ?_
      refine W.widen (k := cells + 130) (n := slots + 877) (Nat.add_le_add_left (Nat.le_of_ble_eq_true rfl) _) (Nat.add_le_add_left (Nat.le_of_ble_eq_true rfl) _) ?_
      exact kk C H locs ls hP hS (lv_sub hl [2, 3, 4, 5, 6] rfl)
    · have hf := g_ip c2 hf
      refine lv_aload_n hx hb dL_law_2010 rfl (lv_at hl 6 rfl) ?_
      refine lv_iconst (v := 0) hx hb dL_law_2011 (by decide) ?_
      refine r_lald (jj := 0) C hP ha81' gIn01 dL_law_2012 ?_
      refine lv_iload hx hb dL_law_2013 (lv_at hl 0 rfl) ?_
      refine lv_i2l (v := k2.toInt64) hx hb dL_law_2015 rfl ?_
      by_cases c3 : X3 81 0 0 = k2
      · have hf := g_ip c3 hf
        obtain ⟨-, rfl⟩ := g_s1 hf
        refine r_lcmp_eq hx hb (congrArg Int32.toInt64 c3) dL_law_2016 ?_
        refine lv_if_eq (tgt := 2022) hx hb dL_law_2017 (by decide) (fun _ => ?_) (fun c4 => absurd rfl c4)
        refine lv_goto (tgt := 2186) hx hb dL_law_2022 (by decide) ?_
        refine W.widen (k := cells + 130) (n := slots + 877) (Nat.add_le_add_left (Nat.le_of_ble_eq_true rfl) _) (Nat.add_le_add_left (Nat.le_of_ble_eq_true rfl) _) ?_
        exact kk C H locs ls hP hS (lv_sub hl [2, 3, 4, 5, 6] rfl)
      · have hf := g_in c3 hf
        cases hf
  · have hf := g_in c1 hf
    cases hf

set_option maxRecDepth 100000 in
set_option maxHeartbeats 4000000 in
theorem s_K23 {p : Program} {l : Launch} {e : Env} {s : State} {m : MethodId} {args : Array Value} {below : List Frame} {meth : Method} {c : Code} {H : Heap} {locs : List Loc} {cells slots : Nat} {Q : State → Prop} {rt : Option FieldType} {ls : Array Slot} {D : va_G} {cA : Nat → ClassId} {ad : Nat → Nat → Nat} {NL nw : List (Nat × Nat)} {A : Nat → Prop} {X X' : gM} {N b L iN : Nat} {xs : Nat → Int32} {rr : Int32} (C : gCx p c meth m s args cL_law 7 rt RL D cA ad NL A) (hWd : gWd A s) (htr : l.stackTraces = false) (hW : gWf NL) (hW2 : gWf (NL ++ nw)) (ha0 : (0, 0) ∈ NL) (ha43 : (43, 0) ∈ NL) (ha81 : (81, 0) ∈ NL) (hX : va_X b L xs s s.heap) (hbl : b < s.heap.size) (hbA : ¬ A b) (hL : L ≤ 3584) (hi : iN + 7 ≤ L) (hal : gAl ad) (hadr : gAdr ad H.size nw) (hP : gH D cA ad NL X H) (hS : va_S A s.heap H locs) (hl : lv_has ls 7 [(4, .int (nI iN)), (0, .ref b), (1, .ref (ad 0 0)), (2, .ref (ad 43 0)), (3, .ref (ad 81 0))]) (hrc : cells + 130 ≤ room_1.cells ∧ slots + 877 ≤ room_1.slots)
    (hf : K23 (gal NL) (gal (NL ++ nw)) N nw (xs (iN + 1)) (xs (iN + 2)) (xs (iN + 3)) (xs (iN + 4)) (xs (iN + 5)) (xs (iN + 6)) X = some (rr, X'))
    (kk : gCx p c meth m s args cL_law 7 rt RL D cA ad (NL ++ nw) A → ∀ (H : Heap) (locs : List Loc) (ls : Array Slot), gH D cA ad (NL ++ nw) X' H → va_S A s.heap H locs → lv_has ls 7 [(4, .int (nI iN)), (0, .ref b), (1, .ref (ad 0 0)), (2, .ref (ad 43 0)), (3, .ref (ad 81 0))] → W p l e room_1 s m args below meth c H locs (cells + 130) (slots + 877) Q (F0 m 2186 ls [])) : W p l e room_1 s m args below meth c H locs cells slots Q (F0 m 2025 ls []) := by
  have hx := C.1
  have hb := C.2.1
  have hD0 : gD (fun _ => True) ad NL := gD_in C.2.2.2.2.2.2.2.2.2.1 (fun _ _ => True.intro)
  have hrc0 : cells ≤ room_1.cells ∧ slots ≤ room_1.slots := ⟨Nat.le_trans (Nat.le_add_right _ _) hrc.1, Nat.le_trans (Nat.le_add_right _ _) hrc.2⟩
  have ha43' : (43, 0) ∈ NL ++ nw := List.mem_append_left _ ha43
  have ha81' : (81, 0) ∈ NL ++ nw := List.mem_append_left _ ha81
  rw [K23] at hf
  replace hf := eqn_in hf
  obtain ⟨hnw, hf⟩ := hf
  subst hnw
  refine lv_aload_n hx hb dL_law_2025 rfl (lv_at hl 2 rfl) ?_
  refine r_scr (j := 1) hx hb hX hbl hbA hS hL hl (k0 := 1) (k4 := 0) rfl rfl (by omega) (by decide) dL_law_2026 dL_law_2027 dL_law_2029 dL_law_2030 dL_law_2031 ?_
  refine r_scr (j := 2) hx hb hX hbl hbA hS hL hl (k0 := 1) (k4 := 0) rfl rfl (by omega) (by decide) dL_law_2032 dL_law_2033 dL_law_2035 dL_law_2036 dL_law_2037 ?_
  refine r_scr (j := 3) hx hb hX hbl hbA hS hL hl (k0 := 1) (k4 := 0) rfl rfl (by omega) (by decide) dL_law_2038 dL_law_2039 dL_law_2041 dL_law_2042 dL_law_2043 ?_
  refine r_scr (j := 4) hx hb hX hbl hbA hS hL hl (k0 := 1) (k4 := 0) rfl rfl (by omega) (by decide) dL_law_2044 dL_law_2045 dL_law_2047 dL_law_2048 dL_law_2049 ?_
  refine lv_aload_n hx hb dL_law_2050 rfl (lv_at hl 4 rfl) ?_
  obtain ⟨k1, X1, h1, hf⟩ := b2_in hf
  refine r_callL (nw := []) (rest := []) C hWd hP hS hl.1 rfl (s_L_state (nw := []) htr hW hD0 ha0 ha81 h1) True.intro il_L_state ls_L_191 ⟨rfl, rfl, Nat.le_of_ble_eq_true rfl, Nat.le_of_ble_eq_true rfl⟩ rfl rfl (Nat.le_of_ble_eq_true rfl) ⟨Nat.le_trans (Nat.add_le_add_left (Nat.le_of_ble_eq_true rfl) _) hrc.1, Nat.le_trans (Nat.add_le_add_left (Nat.le_of_ble_eq_true rfl) _) hrc.2⟩ dL_law_2051 (fun C H locs hP hS => ?_)
  refine lv_istore (lv' := [(5, .int k1), (4, .int (nI iN)), (0, .ref b), (1, .ref (ad 0 0)), (2, .ref (ad 43 0)), (3, .ref (ad 81 0))]) hx hb dL_law_2054 hl (Nat.le_of_ble_eq_true rfl) rfl (fun ls hl => ?_)
  refine lv_aload_n hx hb dL_law_2056 rfl (lv_at hl 4 rfl) ?_
  refine r_scr (j := 1) hx hb hX hbl hbA hS hL hl (k0 := 2) (k4 := 1) rfl rfl (by omega) (by decide) dL_law_2057 dL_law_2058 dL_law_2060 dL_law_2061 dL_law_2062 ?_
  refine r_scr (j := 2) hx hb hX hbl hbA hS hL hl (k0 := 2) (k4 := 1) rfl rfl (by omega) (by decide) dL_law_2063 dL_law_2064 dL_law_2066 dL_law_2067 dL_law_2068 ?_
  refine r_scr (j := 3) hx hb hX hbl hbA hS hL hl (k0 := 2) (k4 := 1) rfl rfl (by omega) (by decide) dL_law_2069 dL_law_2070 dL_law_2072 dL_law_2073 dL_law_2074 ?_
  refine r_scr (j := 4) hx hb hX hbl hbA hS hL hl (k0 := 2) (k4 := 1) rfl rfl (by omega) (by decide) dL_law_2075 dL_law_2076 dL_law_2078 dL_law_2079 dL_law_2080 ?_
  obtain ⟨k2, X2, h2, hf⟩ := b2_in hf
  refine r_cVi (rest := []) C hP hS hl.1 (s_X10_state hW2 (gD_in C.2.2.2.2.2.2.2.2.2.1 (fun _ _ => True.intro)) ha43' h2) ix_X10_state iv_X10_state lk_L_193 ⟨rfl, rfl, Nat.le_of_ble_eq_true rfl, Nat.le_of_ble_eq_true rfl⟩ ha43' (ct_43 _ _ _ _) rfl rfl rfl rfl (Nat.le_of_ble_eq_true rfl) ⟨Nat.le_trans (Nat.add_le_add_left (Nat.le_of_ble_eq_true rfl) _) hrc.1, Nat.le_trans (Nat.add_le_add_left (Nat.le_of_ble_eq_true rfl) _) hrc.2⟩ dL_law_2081 (fun H locs hP hS => ?_)
  refine lv_istore (lv' := [(6, .int k2), (5, .int k1), (4, .int (nI iN)), (0, .ref b), (1, .ref (ad 0 0)), (2, .ref (ad 43 0)), (3, .ref (ad 81 0))]) hx hb dL_law_2084 hl (Nat.le_of_ble_eq_true rfl) rfl (fun ls hl => ?_)
  refine lv_aload_n hx hb dL_law_2086 rfl (lv_at hl 5 rfl) ?_
  obtain ⟨k3, X3, h3, hf⟩ := b2_in hf
  refine r_cVi (rest := []) C hP hS hl.1 (s_X10_thrown hW2 (gD_in C.2.2.2.2.2.2.2.2.2.1 (fun _ _ => True.intro)) ha43' h3) ix_X10_thrown iv_X10_thrown lk_L_112 ⟨rfl, rfl, Nat.le_of_ble_eq_true rfl, Nat.le_of_ble_eq_true rfl⟩ ha43' (ct_43 _ _ _ _) rfl rfl rfl rfl (Nat.le_of_ble_eq_true rfl) ⟨Nat.le_trans (Nat.add_le_add_left (Nat.le_of_ble_eq_true rfl) _) hrc.1, Nat.le_trans (Nat.add_le_add_left (Nat.le_of_ble_eq_true rfl) _) hrc.2⟩ dL_law_2087 (fun H locs hP hS => ?_)
  refine lv_iload hx hb dL_law_2090 (lv_at hl 1 rfl) ?_
  refine lv_icmp_eq (tgt := 2097) hx hb dL_law_2092 (by decide) (fun c1 => ?_) (fun c1 => ?_)
  · have hf := g_ip c1 hf
    refine lv_iload hx hb dL_law_2097 (lv_at hl 1 rfl) ?_
    refine lv_if_ne (tgt := 2114) hx hb dL_law_2099 (by decide) (fun c2 => ?_) (fun c2 => ?_)
    · have hf := g_in c2 hf
      obtain ⟨-, rfl⟩ := g_s1 hf
      refine lv_goto (tgt := 2186) hx hb dL_law_2114 (by decide) ?_
      refine W.widen (k := cells + 130) (n := slots + 877) (Nat.add_le_add_left (Nat.le_of_ble_eq_true rfl) _) (Nat.add_le_add_left (Nat.le_of_ble_eq_true rfl) _) ?_
      exact kk C H locs ls hP hS (lv_sub hl [2, 3, 4, 5, 6] rfl)
    · have hf := g_ip c2 hf
      refine lv_aload_n hx hb dL_law_2102 rfl (lv_at hl 6 rfl) ?_
      refine lv_iconst (v := 0) hx hb dL_law_2103 (by decide) ?_
      refine r_lald (jj := 0) C hP ha81' gIn01 dL_law_2104 ?_
      refine lv_iload hx hb dL_law_2105 (lv_at hl 0 rfl) ?_
      refine lv_i2l (v := k2.toInt64) hx hb dL_law_2107 rfl ?_
      by_cases c3 : X3 81 0 0 = k2
      · have hf := g_ip c3 hf
        obtain ⟨-, rfl⟩ := g_s1 hf
        refine r_lcmp_eq hx hb (congrArg Int32.toInt64 c3) dL_law_2108 ?_
        refine lv_if_eq (tgt := 2114) hx hb dL_law_2109 (by decide) (fun _ => ?_) (fun c4 => absurd rfl c4)
        refine lv_goto (tgt := 2186) hx hb dL_law_2114 (by decide) ?_
        refine W.widen (k := cells + 130) (n := slots + 877) (Nat.add_le_add_left (Nat.le_of_ble_eq_true rfl) _) (Nat.add_le_add_left (Nat.le_of_ble_eq_true rfl) _) ?_
        exact kk C H locs ls hP hS (lv_sub hl [2, 3, 4, 5, 6] rfl)
      · have hf := g_in c3 hf
        cases hf
  · have hf := g_in c1 hf
    cases hf

set_option maxRecDepth 100000 in
set_option maxHeartbeats 4000000 in
theorem s_K24 {p : Program} {l : Launch} {e : Env} {s : State} {m : MethodId} {args : Array Value} {below : List Frame} {meth : Method} {c : Code} {H : Heap} {locs : List Loc} {cells slots : Nat} {Q : State → Prop} {rt : Option FieldType} {ls : Array Slot} {D : va_G} {cA : Nat → ClassId} {ad : Nat → Nat → Nat} {NL nw : List (Nat × Nat)} {A : Nat → Prop} {X X' : gM} {N b L iN : Nat} {xs : Nat → Int32} {rr : Int32} (C : gCx p c meth m s args cL_law 7 rt RL D cA ad NL A) (hWd : gWd A s) (htr : l.stackTraces = false) (hW : gWf NL) (hW2 : gWf (NL ++ nw)) (ha0 : (0, 0) ∈ NL) (ha43 : (43, 0) ∈ NL) (ha81 : (81, 0) ∈ NL) (hX : va_X b L xs s s.heap) (hbl : b < s.heap.size) (hbA : ¬ A b) (hL : L ≤ 3584) (hi : iN + 7 ≤ L) (hal : gAl ad) (hadr : gAdr ad H.size nw) (hP : gH D cA ad NL X H) (hS : va_S A s.heap H locs) (hl : lv_has ls 7 [(4, .int (nI iN)), (0, .ref b), (1, .ref (ad 0 0)), (2, .ref (ad 43 0)), (3, .ref (ad 81 0))]) (hrc : cells + 130 ≤ room_1.cells ∧ slots + 877 ≤ room_1.slots)
    (hf : K24 (gal NL) (gal (NL ++ nw)) N nw (xs (iN + 1)) (xs (iN + 2)) (xs (iN + 3)) (xs (iN + 4)) (xs (iN + 5)) (xs (iN + 6)) X = some (rr, X'))
    (kk : gCx p c meth m s args cL_law 7 rt RL D cA ad (NL ++ nw) A → ∀ (H : Heap) (locs : List Loc) (ls : Array Slot), gH D cA ad (NL ++ nw) X' H → va_S A s.heap H locs → lv_has ls 7 [(4, .int (nI iN)), (0, .ref b), (1, .ref (ad 0 0)), (2, .ref (ad 43 0)), (3, .ref (ad 81 0))] → W p l e room_1 s m args below meth c H locs (cells + 130) (slots + 877) Q (F0 m 2186 ls [])) : W p l e room_1 s m args below meth c H locs cells slots Q (F0 m 2117 ls []) := by
  have hx := C.1
  have hb := C.2.1
  have hD0 : gD (fun _ => True) ad NL := gD_in C.2.2.2.2.2.2.2.2.2.1 (fun _ _ => True.intro)
  have hrc0 : cells ≤ room_1.cells ∧ slots ≤ room_1.slots := ⟨Nat.le_trans (Nat.le_add_right _ _) hrc.1, Nat.le_trans (Nat.le_add_right _ _) hrc.2⟩
  have ha43' : (43, 0) ∈ NL ++ nw := List.mem_append_left _ ha43
  have ha81' : (81, 0) ∈ NL ++ nw := List.mem_append_left _ ha81
  rw [K24] at hf
  replace hf := eqn_in hf
  obtain ⟨hnw, hf⟩ := hf
  subst hnw
  refine lv_aload_n hx hb dL_law_2117 rfl (lv_at hl 2 rfl) ?_
  refine r_scr (j := 1) hx hb hX hbl hbA hS hL hl (k0 := 1) (k4 := 0) rfl rfl (by omega) (by decide) dL_law_2118 dL_law_2119 dL_law_2121 dL_law_2122 dL_law_2123 ?_
  refine lv_aload_n hx hb dL_law_2124 rfl (lv_at hl 4 rfl) ?_
  obtain ⟨k1, X1, h1, hf⟩ := b2_in hf
  refine r_callL (nw := []) (rest := []) C hWd hP hS hl.1 rfl (s_L_rests (nw := []) htr hW hD0 ha0 ha81 h1) True.intro il_L_rests ls_L_194 ⟨rfl, rfl, Nat.le_of_ble_eq_true rfl, Nat.le_of_ble_eq_true rfl⟩ rfl rfl (Nat.le_of_ble_eq_true rfl) ⟨Nat.le_trans (Nat.add_le_add_left (Nat.le_of_ble_eq_true rfl) _) hrc.1, Nat.le_trans (Nat.add_le_add_left (Nat.le_of_ble_eq_true rfl) _) hrc.2⟩ dL_law_2125 (fun C H locs hP hS => ?_)
  refine lv_istore (lv' := [(5, .int k1), (4, .int (nI iN)), (0, .ref b), (1, .ref (ad 0 0)), (2, .ref (ad 43 0)), (3, .ref (ad 81 0))]) hx hb dL_law_2128 hl (Nat.le_of_ble_eq_true rfl) rfl (fun ls hl => ?_)
  refine lv_aload_n hx hb dL_law_2130 rfl (lv_at hl 4 rfl) ?_
  refine r_scr (j := 1) hx hb hX hbl hbA hS hL hl (k0 := 2) (k4 := 1) rfl rfl (by omega) (by decide) dL_law_2131 dL_law_2132 dL_law_2134 dL_law_2135 dL_law_2136 ?_
  obtain ⟨k2, X2, h2, hf⟩ := b2_in hf
  refine r_cVi (rest := []) C hP hS hl.1 (s_X10_rests hW2 (gD_in C.2.2.2.2.2.2.2.2.2.1 (fun _ _ => True.intro)) ha43' h2) ix_X10_rests iv_X10_rests lk_L_196 ⟨rfl, rfl, Nat.le_of_ble_eq_true rfl, Nat.le_of_ble_eq_true rfl⟩ ha43' (ct_43 _ _ _ _) rfl rfl rfl rfl (Nat.le_of_ble_eq_true rfl) ⟨Nat.le_trans (Nat.add_le_add_left (Nat.le_of_ble_eq_true rfl) _) hrc.1, Nat.le_trans (Nat.add_le_add_left (Nat.le_of_ble_eq_true rfl) _) hrc.2⟩ dL_law_2137 (fun H locs hP hS => ?_)
  refine lv_istore (lv' := [(6, .int k2), (5, .int k1), (4, .int (nI iN)), (0, .ref b), (1, .ref (ad 0 0)), (2, .ref (ad 43 0)), (3, .ref (ad 81 0))]) hx hb dL_law_2140 hl (Nat.le_of_ble_eq_true rfl) rfl (fun ls hl => ?_)
  refine lv_aload_n hx hb dL_law_2142 rfl (lv_at hl 5 rfl) ?_
  obtain ⟨k3, X3, h3, hf⟩ := b2_in hf
  refine r_cVi (rest := []) C hP hS hl.1 (s_X10_thrown hW2 (gD_in C.2.2.2.2.2.2.2.2.2.1 (fun _ _ => True.intro)) ha43' h3) ix_X10_thrown iv_X10_thrown lk_L_112 ⟨rfl, rfl, Nat.le_of_ble_eq_true rfl, Nat.le_of_ble_eq_true rfl⟩ ha43' (ct_43 _ _ _ _) rfl rfl rfl rfl (Nat.le_of_ble_eq_true rfl) ⟨Nat.le_trans (Nat.add_le_add_left (Nat.le_of_ble_eq_true rfl) _) hrc.1, Nat.le_trans (Nat.add_le_add_left (Nat.le_of_ble_eq_true rfl) _) hrc.2⟩ dL_law_2143 (fun H locs hP hS => ?_)
  refine lv_iload hx hb dL_law_2146 (lv_at hl 1 rfl) ?_
  refine lv_icmp_eq (tgt := 2153) hx hb dL_law_2148 (by decide) (fun c1 => ?_) (fun c1 => ?_)
  · have hf := g_ip c1 hf
    refine lv_iload hx hb dL_law_2153 (lv_at hl 1 rfl) ?_
    refine lv_if_ne (tgt := 2170) hx hb dL_law_2155 (by decide) (fun c2 => ?_) (fun c2 => ?_)
    · have hf := g_in c2 hf
      obtain ⟨-, rfl⟩ := g_s1 hf
      refine lv_goto (tgt := 2186) hx hb dL_law_2170 (by decide) ?_
      refine W.widen (k := cells + 130) (n := slots + 877) (Nat.add_le_add_left (Nat.le_of_ble_eq_true rfl) _) (Nat.add_le_add_left (Nat.le_of_ble_eq_true rfl) _) ?_
      exact kk C H locs ls hP hS (lv_sub hl [2, 3, 4, 5, 6] rfl)
    · have hf := g_ip c2 hf
      refine lv_aload_n hx hb dL_law_2158 rfl (lv_at hl 6 rfl) ?_
      refine lv_iconst (v := 0) hx hb dL_law_2159 (by decide) ?_
      refine r_lald (jj := 0) C hP ha81' gIn01 dL_law_2160 ?_
      refine lv_iload hx hb dL_law_2161 (lv_at hl 0 rfl) ?_
      refine lv_i2l (v := k2.toInt64) hx hb dL_law_2163 rfl ?_
      by_cases c3 : X3 81 0 0 = k2
      · have hf := g_ip c3 hf
        obtain ⟨-, rfl⟩ := g_s1 hf
        refine r_lcmp_eq hx hb (congrArg Int32.toInt64 c3) dL_law_2164 ?_
        refine lv_if_eq (tgt := 2170) hx hb dL_law_2165 (by decide) (fun _ => ?_) (fun c4 => absurd rfl c4)
        refine lv_goto (tgt := 2186) hx hb dL_law_2170 (by decide) ?_
        refine W.widen (k := cells + 130) (n := slots + 877) (Nat.add_le_add_left (Nat.le_of_ble_eq_true rfl) _) (Nat.add_le_add_left (Nat.le_of_ble_eq_true rfl) _) ?_
        exact kk C H locs ls hP hS (lv_sub hl [2, 3, 4, 5, 6] rfl)
      · have hf := g_in c3 hf
        cases hf
  · have hf := g_in c1 hf
    cases hf

set_option maxRecDepth 100000 in
set_option maxHeartbeats 4000000 in
theorem s_K25 {p : Program} {l : Launch} {e : Env} {s : State} {m : MethodId} {args : Array Value} {below : List Frame} {meth : Method} {c : Code} {H : Heap} {locs : List Loc} {cells slots : Nat} {Q : State → Prop} {rt : Option FieldType} {ls : Array Slot} {D : va_G} {cA : Nat → ClassId} {ad : Nat → Nat → Nat} {NL nw : List (Nat × Nat)} {A : Nat → Prop} {X X' : gM} {N b L iN : Nat} {xs : Nat → Int32} {rr : Int32} (C : gCx p c meth m s args cL_law 7 rt RL D cA ad NL A) (hWd : gWd A s) (htr : l.stackTraces = false) (hW : gWf NL) (hW2 : gWf (NL ++ nw)) (ha0 : (0, 0) ∈ NL) (ha43 : (43, 0) ∈ NL) (ha81 : (81, 0) ∈ NL) (hX : va_X b L xs s s.heap) (hbl : b < s.heap.size) (hbA : ¬ A b) (hL : L ≤ 3584) (hi : iN + 7 ≤ L) (hal : gAl ad) (hadr : gAdr ad H.size nw) (hP : gH D cA ad NL X H) (hS : va_S A s.heap H locs) (hl : lv_has ls 7 [(4, .int (nI iN)), (0, .ref b), (1, .ref (ad 0 0)), (2, .ref (ad 43 0)), (3, .ref (ad 81 0))]) (hrc : cells + 130 ≤ room_1.cells ∧ slots + 877 ≤ room_1.slots)
    (hf : K25 (gal NL) (gal (NL ++ nw)) N nw (xs (iN + 1)) (xs (iN + 2)) (xs (iN + 3)) (xs (iN + 4)) (xs (iN + 5)) (xs (iN + 6)) X = some (rr, X'))
    (kk : gCx p c meth m s args cL_law 7 rt RL D cA ad (NL ++ nw) A → ∀ (H : Heap) (locs : List Loc) (ls : Array Slot), gH D cA ad (NL ++ nw) X' H → va_S A s.heap H locs → lv_has ls 7 [(4, .int (nI iN)), (0, .ref b), (1, .ref (ad 0 0)), (2, .ref (ad 43 0)), (3, .ref (ad 81 0))] → W p l e room_1 s m args below meth c H locs (cells + 130) (slots + 877) Q (F0 m 2186 ls [])) : W p l e room_1 s m args below meth c H locs cells slots Q (F0 m 2173 ls []) := by
  have hx := C.1
  have hb := C.2.1
  have hD0 : gD (fun _ => True) ad NL := gD_in C.2.2.2.2.2.2.2.2.2.1 (fun _ _ => True.intro)
  have hrc0 : cells ≤ room_1.cells ∧ slots ≤ room_1.slots := ⟨Nat.le_trans (Nat.le_add_right _ _) hrc.1, Nat.le_trans (Nat.le_add_right _ _) hrc.2⟩
  have ha43' : (43, 0) ∈ NL ++ nw := List.mem_append_left _ ha43
  have ha81' : (81, 0) ∈ NL ++ nw := List.mem_append_left _ ha81
  rw [K25] at hf
  replace hf := eqn_in hf
  obtain ⟨hnw, hf⟩ := hf
  subst hnw
  refine lv_aload_n hx hb dL_law_2173 rfl (lv_at hl 2 rfl) ?_
  obtain ⟨k1, X1, h1, hf⟩ := b2_in hf
  refine r_cVi (rest := []) C hP hS hl.1 (s_X9_worth hW hD0 ha0 h1) ix_X9_worth iv_X9_worth lk_L_197 ⟨rfl, rfl, Nat.le_of_ble_eq_true rfl, Nat.le_of_ble_eq_true rfl⟩ ha0 (ct_0 _ _ _ _) rfl rfl rfl rfl (Nat.le_of_ble_eq_true rfl) hrc0 dL_law_2174 (fun H locs hP hS => ?_)
  refine lv_aload_n hx hb dL_law_2177 rfl (lv_at hl 3 rfl) ?_
  obtain ⟨k2, X2, h2, hf⟩ := b2_in hf
  refine r_cVi (rest := [.int k1]) C hP hS hl.1 (s_X10_worth hW hD0 ha43 h2) ix_X10_worth iv_X10_worth lk_L_200 ⟨rfl, rfl, Nat.le_of_ble_eq_true rfl, Nat.le_of_ble_eq_true rfl⟩ ha43 (ct_43 _ _ _ _) rfl rfl rfl rfl (Nat.le_of_ble_eq_true rfl) hrc0 dL_law_2178 (fun H locs hP hS => ?_)
  refine lv_icmp_eq (tgt := 2186) hx hb dL_law_2181 (by decide) (fun c1 => ?_) (fun c1 => ?_)
  · have hf := g_ip c1 hf
    obtain ⟨-, rfl⟩ := g_s1 hf
    have hnw := List.append_nil NL
    refine W.widen (k := cells + 130) (n := slots + 877) (Nat.le_add_right _ _) (Nat.le_add_right _ _) ?_
    rw [hnw] at kk
    exact kk C H locs ls hP hS hl
  · have hf := g_in c1 hf
    cases hf

