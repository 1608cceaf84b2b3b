def rm_X9_fact : Room := { frames := 6, cells := 1, slots := 7, locals := 89 }
set_option maxRecDepth 100000 in
set_option maxHeartbeats 4000000 in
theorem s_X9_fact_J110 {p : Program} {l : Launch} {e : Env} {s : State} {m : MethodId} {args : Array Value} {below : List Frame} {meth : Method} {c : Code} {D : va_G} {cA : Nat → ClassId} {ad : Nat → Nat → Nat} {NL : List (Nat × Nat)} {A : Nat → Prop} {rr : Int32} {XX : gM} {N : Nat} {kx : Nat} {nw : List (Nat × Nat)} (CX : gCxX p c l meth m s args cX9_fact 7 (some .int) RX9 D cA ad NL A) (hW : gWf NL) (hD0 : gD (fun _ => True) ad NL) (hal : gAl ad) (hadr : gAdr ad s.heap.size nw) (hAW : gAW s) : ∀ (p1 : Int32) (p2 : Int32) (p3 : Int32) (p4 : Int32) (p5 : Int32) (X : gM) (H : Heap) (locs : List Loc) (ls : Array Slot), gH D cA ad NL X H → va_S A s.heap H locs → lv_has ls 7 [(0, .ref (ad 0 0)), (1, .int p1), (2, .int p2), (3, .int p3), (4, .int p4), (5, va_rf (ro ad 5 p5))] → (0, 0) ∈ NL → X9_fact_J110 (gal NL) N nw p1 p2 p3 p4 p5 X = some (kx, rr, XX) → W p l e rm_X9_fact s m args below meth c H locs 0 0 (vx_MQ below (gQx D cA ad (NL ++ nw) kx (some (.int rr)) XX A) (gXx D cA ad NL kx XX A) args s 1 7 A) (F0 m 110 ls []) := by
  have C := CX.1
  have hx := C.1
  have hb := C.2.1
  intro p1 p2 p3 p4 p5 X H locs ls hP hS hl ha_l0 hf
  rw [X9_fact_J110] at hf
  refine lv_aload_n hx hb dX9_fact_110 rfl (lv_at hl 0 rfl) ?_
  refine r_get C hP ha_l0 (ct_0 _ _ _ _) fx_X9_39 (fg_0_5 _ _ _) dX9_fact_111 ?_
  refine lv_bipush (v := 12) hx hb dX9_fact_114 (by decide) ?_
  refine lv_icmp_lt (tgt := 127) hx hb dX9_fact_116 (by decide) (fun c1 => ?_) (fun c1 => ?_)
  · have hf := g_ip c1 hf
    obtain ⟨j2, h3, hf⟩ := rd_in hf
    obtain ⟨hnw, hf⟩ := eqn_in hf
    have hA2 := hadr
    rw [hnw] at hA2
    have hA3 : ad 23 j2 = s.heap.size := hA2.1
    have hq := al_23 hal j2
    refine r_new (K := 88) (i := j2) (x := rz_88) C hP hS nx_X9_33 (rzc_88 _ _ _) (by omega) (by have := hS.1; omega) ⟨Nat.le_of_ble_eq_true rfl, Nat.le_of_ble_eq_true rfl⟩ dX9_fact_127 (fun C H hP hS => ?_)
    obtain ⟨X4, e5, hf⟩ := gl_in hf
    rw [← e5] at hP
    have hM : ∀ q, q ∈ NL → q ∈ NL ++ [(88, j2)] := fun q h => List.mem_append_left _ h
    have hW0 := hW
    have hW := gWf_raw (K := 88) (i := j2) hW rfl
    refine lv_dup hx hb dX9_fact_130 rfl ?_
    refine lv_aload_n hx hb dX9_fact_131 rfl (lv_at hl 0 rfl) ?_
    refine r_get C hP (hM _ ha_l0) (ct_0 _ _ _ _) fx_X9_39 (fg_0_5 _ _ _) dX9_fact_132 ?_
    refine r_aload C dX9_fact_135 (lv_at hl 5 rfl) ?_
    obtain ⟨j6, h7, hf⟩ := dr_in hf
    rw [gref h7]
    refine r_get C hP (hM _ h7.2.2) (ct_5 _ _ _ _) fx_X9_206 (fg_5_1 _ _ _) dX9_fact_137 ?_
    refine lv_iload_n hx hb dX9_fact_140 rfl (lv_at hl 1 rfl) ?_
    refine lv_iload_n hx hb dX9_fact_141 rfl (lv_at hl 2 rfl) ?_
    refine lv_iload_n hx hb dX9_fact_142 rfl (lv_at hl 3 rfl) ?_
    refine lv_iload hx hb dX9_fact_143 (lv_at hl 4 rfl) ?_
    obtain ⟨j8, h9, hf⟩ := dr_in hf
    rw [gref h9]
    obtain ⟨r12, X10, h11, hf⟩ := b2_in hf
    refine r_iniG (rest := [.ref (ad 88 j2)]) C hAW hP hS hl.1 (g_lo hP (K := 88) (i := j2) (by simp) (by omega)) (s_X1_init (gD_in C.2.2.2.2.2.2.2.2.2.1 (fun _ _ => trivial)) hal (by simp) (by simp [nw_X1_init, gAdr]) h11) ix_X1_init im_X1_init rfl lk_X9_213 ⟨rfl, rfl, Nat.le_of_ble_eq_true rfl, Nat.le_of_ble_eq_true rfl⟩ rfl rfl (Nat.le_of_ble_eq_true rfl) ⟨Nat.le_of_ble_eq_true rfl, Nat.le_of_ble_eq_true rfl⟩ dX9_fact_145 (fun hsz2 H locs hP9 hS => ?_)
    obtain ⟨h15, hf⟩ := rkl_23 (cA := cA) (ad := ad) hf
    obtain ⟨X13, e14, hf⟩ := gl_in hf
    have e1 : NL ++ [(88, j2)] = NL ++ [(88, j2)] ++ nw_X1_init j2 := by simp [nw_X1_init]
    rw [e1] at C
    have hP := gH_rek (K := 23) C.2.2.2.2.2.2.2.2.2.1 hP9 (by decide) (al_23 hal _) h15
    rw [← e14] at hP
    have C := gCx_rek (K := 23) C (al_23 hal _)
    have eNW : NL ++ [(23, j2)] ++ nw_X1_init j2 = NL ++ [(23, j2)] := by simp [nw_X1_init]
    rw [eNW] at C hP
    have hW := gWf_fact (k := j2) hW0
    have hD0 : gD (fun _ => True) ad _ := gD_in C.2.2.2.2.2.2.2.2.2.1 (fun _ _ => trivial)
    have hM : ∀ q, q ∈ NL → q ∈ NL ++ [(23, j2)] := fun q h => List.mem_append_left _ h
    rw [al_23 hal]
    try rw [gadd_gal] at hf
    have h16 : gRf (NL ++ [(23, j2)]) 23 (X 0 0 5) j2 := ⟨fun q => h3.1 (Or.inl q), h3.2, by simp⟩
    refine lv_astore (i := 6) (lv' := [(6, .ref (ad 23 j2)), (0, .ref (ad 0 0)), (1, .int p1), (2, .int p2), (3, .int p3), (4, .int p4), (5, va_rf (ro ad 5 p5))]) hx hb dX9_fact_148 hl (Nat.le_of_ble_eq_true rfl) (by simp [g_cat, g_catr, g_cati]) (fun ls hl => ?_)
    refine lv_aload_n hx hb dX9_fact_150 rfl (lv_at hl 1 rfl) ?_
    refine r_get C hP (hM _ ha_l0) (ct_0 _ _ _ _) fx_X9_35 (fg_0_4 _ _ _) dX9_fact_151 ?_
    refine lv_aload_n hx hb dX9_fact_154 rfl (lv_at hl 1 rfl) ?_
    refine r_get C hP (hM _ ha_l0) (ct_0 _ _ _ _) fx_X9_39 (fg_0_5 _ _ _) dX9_fact_155 ?_
    refine lv_aload hx hb dX9_fact_158 (lv_at hl 0 rfl) ?_
    obtain ⟨j17, h18, hf⟩ := rd_in hf
    refine r_astq C hP hS (X 0 0 5) h16.1 h16.2.1 (gs_0_4 hW (hM _ ha_l0)) (fun _ => ct_22 _ _ _ _) rfl h16.2.2 (ct_23 _ _ _ _) rfl h18 dX9_fact_160 (fun H locs hP hS => ?_)
    obtain ⟨X19, e20, hf⟩ := gl_in hf
    rw [← e20] at hP
    refine lv_aload_n hx hb dX9_fact_161 rfl (lv_at hl 1 rfl) ?_
    refine lv_dup hx hb dX9_fact_162 rfl ?_
    refine r_get C hP (hM _ ha_l0) (ct_0 _ _ _ _) fx_X9_39 (fg_0_5 _ _ _) dX9_fact_163 ?_
    refine lv_iconst (v := 1) hx hb dX9_fact_166 (by decide) ?_
    refine lv_iadd hx hb dX9_fact_167 ?_
    refine r_put C hP hS ((X19 0 0 5) + (1 : Int32)) (hM _ ha_l0) (ct_0 _ _ _ _) px_X9_39 (fp_0_5 _ _ _ _ _) (Nat.le_of_ble_eq_true rfl) rfl rfl dX9_fact_168 (fun H locs hP hS => ?_)
    obtain ⟨X21, e22, hf⟩ := gl_in hf
    rw [← e22] at hP
    refine r_aload C dX9_fact_171 (lv_at hl 6 rfl) ?_
    rw [gref h7]
    refine r_get C hP (hM _ h7.2.2) (ct_5 _ _ _ _) fx_X9_206 (fg_5_1 _ _ _) dX9_fact_173 ?_
    obtain ⟨j23, h24, hf⟩ := dr_in hf
    rw [gref h24]
    obtain ⟨r25, X26, h27, hf⟩ := b2_in hf
    refine r_cVv (rest := []) C hP hS hl.1 (s_X5_forget hW hD0 h24.2.2 h27) ix_X5_forget iv_X5_forget lk_X9_124 ⟨rfl, rfl, Nat.le_of_ble_eq_true rfl, Nat.le_of_ble_eq_true rfl⟩ h24.2.2 (ct_12 _ _ _ _) rfl rfl rfl rfl (Nat.le_of_ble_eq_true rfl) ⟨Nat.le_of_ble_eq_true rfl, Nat.le_of_ble_eq_true rfl⟩ dX9_fact_176 (fun H locs hP hS => ?_)
    refine lv_aload hx hb dX9_fact_179 (lv_at hl 0 rfl) ?_
    refine r_get C hP (by simp) (ct_23 _ _ _ _) fx_X9_216 (fg_23_0 _ _ _) dX9_fact_181 ?_
    obtain ⟨rfl, rfl, rfl⟩ := g_s3 hf
    rw [hnw]
    exact r_iretG C hP hS ⟨Nat.le_of_ble_eq_true rfl, Nat.le_of_ble_eq_true rfl⟩ dX9_fact_184
  · have hf := g_in c1 hf
    obtain ⟨rfl, rfl, rfl⟩ := g_s3 hf
    exact r_throwA CX hP hS hl.1 th_X9_99_101 dX9_fact_119 dX9_fact_122 dX9_fact_123 dX9_fact_126 ⟨Nat.le_of_ble_eq_true rfl, Nat.le_of_ble_eq_true rfl, Nat.le_of_ble_eq_true rfl, Nat.le_of_ble_eq_true rfl⟩ ⟨Nat.le_of_ble_eq_true rfl, Nat.le_of_ble_eq_true rfl⟩

set_option maxRecDepth 100000 in
set_option maxHeartbeats 4000000 in
theorem s_X9_fact_J102 {p : Program} {l : Launch} {e : Env} {s : State} {m : MethodId} {args : Array Value} {below : List Frame} {meth : Method} {c : Code} {D : va_G} {cA : Nat → ClassId} {ad : Nat → Nat → Nat} {NL : List (Nat × Nat)} {A : Nat → Prop} {rr : Int32} {XX : gM} {N : Nat} {kx : Nat} {nw : List (Nat × Nat)} (CX : gCxX p c l meth m s args cX9_fact 7 (some .int) RX9 D cA ad NL A) (hW : gWf NL) (hD0 : gD (fun _ => True) ad NL) (hal : gAl ad) (hadr : gAdr ad s.heap.size nw) (hAW : gAW s) : ∀ (X : gM) (H : Heap) (locs : List Loc) (ls : Array Slot), gH D cA ad NL X H → va_S A s.heap H locs → lv_has ls 7 [] → X9_fact_J102 (gal NL) N nw X = some (kx, rr, XX) → W p l e rm_X9_fact s m args below meth c H locs 0 0 (vx_MQ below (gQx D cA ad (NL ++ nw) kx (some (.int rr)) XX A) (gXx D cA ad NL kx XX A) args s 1 7 A) (F0 m 102 ls []) := by
  have C := CX.1
  have hx := C.1
  have hb := C.2.1
  intro X H locs ls hP hS hl hf
  rw [X9_fact_J102] at hf
  obtain ⟨rfl, rfl, rfl⟩ := g_s3 hf
  exact r_throwA CX hP hS hl.1 th_X9_92_94 dX9_fact_102 dX9_fact_105 dX9_fact_106 dX9_fact_109 ⟨Nat.le_of_ble_eq_true rfl, Nat.le_of_ble_eq_true rfl, Nat.le_of_ble_eq_true rfl, Nat.le_of_ble_eq_true rfl⟩ ⟨Nat.le_of_ble_eq_true rfl, Nat.le_of_ble_eq_true rfl⟩

set_option maxRecDepth 100000 in
set_option maxHeartbeats 4000000 in
theorem w_X9_fact {p : Program} {l : Launch} {e : Env} {s : State} {m : MethodId} {args : Array Value} {below : List Frame} {meth : Method} {c : Code} {D : va_G} {cA : Nat → ClassId} {ad : Nat → Nat → Nat} {NL : List (Nat × Nat)} {A : Nat → Prop} {rr : Int32} {XX : gM} {N : Nat} {kx : Nat} {nw : List (Nat × Nat)} (CX : gCxX p c l meth m s args cX9_fact 7 (some .int) RX9 D cA ad NL A) (hW : gWf NL) (hD0 : gD (fun _ => True) ad NL) (hal : gAl ad) (hadr : gAdr ad s.heap.size nw) (hAW : gAW s) {p1 : Int32} {p2 : Int32} {p3 : Int32} {p4 : Int32} (ha_l0 : (0, 0) ∈ NL) : ∀ (X : gM) (H : Heap) (locs : List Loc) (ls : Array Slot), gH D cA ad NL X H → va_S A s.heap H locs → lv_has ls 7 [(0, .ref (ad 0 0)), (1, .int p1), (2, .int p2), (3, .int p3), (4, .int p4)] → X9_fact (gal NL) N nw p1 p2 p3 p4 X = some (kx, rr, XX) → W p l e rm_X9_fact s m args below meth c H locs 0 0 (vx_MQ below (gQx D cA ad (NL ++ nw) kx (some (.int rr)) XX A) (gXx D cA ad NL kx XX A) args s 1 7 A) (F0 m 0 ls []) := by
  have C := CX.1
  have hx := C.1
  have hb := C.2.1
  intro X H locs ls hP hS hl hf
  rw [X9_fact] at hf
  refine lv_aload_n hx hb dX9_fact_0 rfl (lv_at hl 0 rfl) ?_
  refine lv_iload_n hx hb dX9_fact_1 rfl (lv_at hl 2 rfl) ?_
  obtain ⟨r1, X2, h3, hf⟩ := b2_in hf
  refine r_cVq (rest := []) C hP hS hl.1 (s_X9_leafOf hW hD0 ha_l0 h3) ix_X9_leafOf iv_X9_leafOf lk_X9_179 ⟨rfl, rfl, Nat.le_of_ble_eq_true rfl, Nat.le_of_ble_eq_true rfl⟩ ha_l0 (ct_0 _ _ _ _) rfl rfl rfl rfl (Nat.le_of_ble_eq_true rfl) ⟨Nat.zero_le _, Nat.zero_le _⟩ dX9_fact_2 (fun H locs hP hS => ?_)
  refine r_astore (i := 5) (lv' := [(5, va_rf (ro ad 5 r1)), (0, .ref (ad 0 0)), (1, .int p1), (2, .int p2), (3, .int p3), (4, .int p4)]) C dX9_fact_5 hl (Nat.le_of_ble_eq_true rfl) rfl (fun ls hl => ?_)
  refine r_aload C dX9_fact_7 (lv_at hl 0 rfl) ?_
  refine r_ifnonnull (tgt := 20) C dX9_fact_9 (by decide) (fun c4 => ?_) (fun c4 => ?_)
  · have hf := g_ip c4 hf
    obtain ⟨rfl, rfl, rfl⟩ := g_s3 hf
    exact r_throwA CX hP hS hl.1 th_X9_85_87 dX9_fact_12 dX9_fact_15 dX9_fact_16 dX9_fact_19 ⟨Nat.le_of_ble_eq_true rfl, Nat.le_of_ble_eq_true rfl, Nat.le_of_ble_eq_true rfl, Nat.le_of_ble_eq_true rfl⟩ ⟨Nat.le_of_ble_eq_true rfl, Nat.le_of_ble_eq_true rfl⟩
  · have hf := g_in c4 hf
    refine lv_iload_n hx hb dX9_fact_20 rfl (lv_at hl 2 rfl) ?_
    refine lv_iconst (v := 0) hx hb dX9_fact_21 (by decide) ?_
    refine lv_iconst (v := 4) hx hb dX9_fact_22 (by decide) ?_
    obtain ⟨r5, X6, h7, hf⟩ := b2_in hf
    refine r_cSi (rest := []) C hP hS hl.1 (s_X9_isWithin hW hD0  h7) ix_X9_isWithin is_X9_isWithin ls_X9_88 ⟨rfl, rfl, Nat.le_of_ble_eq_true rfl, Nat.le_of_ble_eq_true rfl⟩ rfl rfl (Nat.le_of_ble_eq_true rfl) ⟨Nat.zero_le _, Nat.zero_le _⟩ dX9_fact_23 (fun H locs hP hS => ?_)
    refine lv_if_ne (tgt := 37) hx hb dX9_fact_26 (by decide) (fun c8 => ?_) (fun c8 => ?_)
    · have hf := g_in c8 hf
      refine lv_iload_n hx hb dX9_fact_37 rfl (lv_at hl 2 rfl) ?_
      refine lv_iconst (v := 3) hx hb dX9_fact_38 (by decide) ?_
      refine lv_icmp_ne (tgt := 62) hx hb dX9_fact_39 (by decide) (fun c9 => ?_) (fun c9 => ?_)
      · have hf := g_in c9 hf
        refine lv_aload_n hx hb dX9_fact_62 rfl (lv_at hl 1 rfl) ?_
        refine lv_iload_n hx hb dX9_fact_63 rfl (lv_at hl 4 rfl) ?_
        obtain ⟨r10, X11, h12, hf⟩ := b2_in hf
        refine r_cVq (rest := []) C hP hS hl.1 (s_X9_leafOf hW hD0 ha_l0 h12) ix_X9_leafOf iv_X9_leafOf lk_X9_179 ⟨rfl, rfl, Nat.le_of_ble_eq_true rfl, Nat.le_of_ble_eq_true rfl⟩ ha_l0 (ct_0 _ _ _ _) rfl rfl rfl rfl (Nat.le_of_ble_eq_true rfl) ⟨Nat.zero_le _, Nat.zero_le _⟩ dX9_fact_64 (fun H locs hP hS => ?_)
        refine r_astore (i := 6) (lv' := [(6, va_rf (ro ad 5 r10)), (5, va_rf (ro ad 5 r1)), (0, .ref (ad 0 0)), (1, .int p1), (2, .int p2), (3, .int p3), (4, .int p4)]) C dX9_fact_67 hl (Nat.le_of_ble_eq_true rfl) (by simp [g_cat, g_catr, g_cati]) (fun ls hl => ?_)
        refine r_aload C dX9_fact_69 (lv_at hl 0 rfl) ?_
        refine r_ifnonnull (tgt := 82) C dX9_fact_71 (by decide) (fun c13 => ?_) (fun c13 => ?_)
        · have hf := g_ip c13 hf
          obtain ⟨rfl, rfl, rfl⟩ := g_s3 hf
          exact r_throwA CX hP hS hl.1 th_X9_85_87 dX9_fact_74 dX9_fact_77 dX9_fact_78 dX9_fact_81 ⟨Nat.le_of_ble_eq_true rfl, Nat.le_of_ble_eq_true rfl, Nat.le_of_ble_eq_true rfl, Nat.le_of_ble_eq_true rfl⟩ ⟨Nat.le_of_ble_eq_true rfl, Nat.le_of_ble_eq_true rfl⟩
        · have hf := g_in c13 hf
          refine r_aload C dX9_fact_82 (lv_at hl 1 rfl) ?_
          refine r_aload C dX9_fact_84 (lv_at hl 0 rfl) ?_
          obtain ⟨j14, h15, hf⟩ := dr_in hf
          rw [gref h15]
          obtain ⟨j16, h17, hf⟩ := dr_in hf
          rw [gref h17]
          refine r_acmp_eq (tgt := 102) C h17.2.2 h15.2.2 dX9_fact_86 (by decide) (fun c18 => ?_) (fun c18 => ?_)
          · have hf := g_ip c18 hf
            exact s_X9_fact_J102 CX hW hD0 hal hadr hAW X11 _ _ _ hP hS (lv_sub hl [] rfl) hf
          · have hf := g_in c18 hf
            refine r_aload C dX9_fact_89 (lv_at hl 1 rfl) ?_
            rw [gref h17]
            refine r_get C hP h17.2.2 (ct_5 _ _ _ _) fx_X9_206 (fg_5_1 _ _ _) dX9_fact_91 ?_
            refine r_aload C dX9_fact_94 (lv_at hl 0 rfl) ?_
            rw [gref h15]
            refine r_get C hP h15.2.2 (ct_5 _ _ _ _) fx_X9_206 (fg_5_1 _ _ _) dX9_fact_96 ?_
            obtain ⟨j19, h20, hf⟩ := dr_in hf
            rw [gref h20]
            obtain ⟨j21, h22, hf⟩ := dr_in hf
            rw [gref h22]
            refine r_acmp_eq (tgt := 110) C h22.2.2 h20.2.2 dX9_fact_99 (by decide) (fun c23 => ?_) (fun c23 => ?_)
            · have hf := g_ip c23 hf
              exact s_X9_fact_J110 CX hW hD0 hal hadr hAW p1 p2 p3 p4 r1 X11 _ _ _ hP hS (lv_sub hl [2, 3, 4, 5, 6, 1] rfl) ha_l0 hf
            · have hf := g_in c23 hf
              exact s_X9_fact_J102 CX hW hD0 hal hadr hAW X11 _ _ _ hP hS (lv_sub hl [] rfl) hf
      · have hf := g_ip c9 hf
        refine r_aload C dX9_fact_42 (lv_at hl 0 rfl) ?_
        obtain ⟨j24, h25, hf⟩ := dr_in hf
        rw [gref h25]
        refine r_get C hP h25.2.2 (ct_5 _ _ _ _) fx_X9_206 (fg_5_1 _ _ _) dX9_fact_44 ?_
        refine lv_iload_n hx hb dX9_fact_47 rfl (lv_at hl 4 rfl) ?_
        obtain ⟨j26, h27, hf⟩ := dr_in hf
        rw [gref h27]
        obtain ⟨r28, X29, h30, hf⟩ := b2_in hf
        refine r_cVi (rest := []) C hP hS hl.1 (s_X5_hasPlace hW hD0 h27.2.2 h30) ix_X5_hasPlace iv_X5_hasPlace lk_X9_210 ⟨rfl, rfl, Nat.le_of_ble_eq_true rfl, Nat.le_of_ble_eq_true rfl⟩ h27.2.2 (ct_12 _ _ _ _) rfl rfl rfl rfl (Nat.le_of_ble_eq_true rfl) ⟨Nat.zero_le _, Nat.zero_le _⟩ dX9_fact_48 (fun H locs hP hS => ?_)
        refine lv_if_ne (tgt := 110) hx hb dX9_fact_51 (by decide) (fun c31 => ?_) (fun c31 => ?_)
        · have hf := g_in c31 hf
          exact s_X9_fact_J110 CX hW hD0 hal hadr hAW p1 p2 p3 p4 r1 X29 _ _ _ hP hS (lv_sub hl [1, 2, 3, 4, 5, 0] rfl) ha_l0 hf
        · have hf := g_ip c31 hf
          obtain ⟨rfl, rfl, rfl⟩ := g_s3 hf
          exact r_throwA CX hP hS hl.1 th_X9_85_87 dX9_fact_54 dX9_fact_57 dX9_fact_58 dX9_fact_61 ⟨Nat.le_of_ble_eq_true rfl, Nat.le_of_ble_eq_true rfl, Nat.le_of_ble_eq_true rfl, Nat.le_of_ble_eq_true rfl⟩ ⟨Nat.le_of_ble_eq_true rfl, Nat.le_of_ble_eq_true rfl⟩
    · have hf := g_ip c8 hf
      obtain ⟨rfl, rfl, rfl⟩ := g_s3 hf
      exact r_throwA CX hP hS hl.1 th_X9_92_94 dX9_fact_29 dX9_fact_32 dX9_fact_33 dX9_fact_36 ⟨Nat.le_of_ble_eq_true rfl, Nat.le_of_ble_eq_true rfl, Nat.le_of_ble_eq_true rfl, Nat.le_of_ble_eq_true rfl⟩ ⟨Nat.le_of_ble_eq_true rfl, Nat.le_of_ble_eq_true rfl⟩

theorem s_X9_fact {l : Launch} {D : va_G} {cA : Nat → ClassId} {ad : Nat → Nat → Nat} {NL nw : List (Nat × Nat)} {N sz : Nat} {p1 : Int32} {p2 : Int32} {p3 : Int32} {p4 : Int32} {X : gM} {kx : Nat} {rr : Int32} {XX : gM} (htr : l.stackTraces = false) (hW : gWf NL) (hD0 : gD (fun _ => True) ad NL) (hal : gAl ad) (hadr : gAdr ad sz nw) (ha_l0 : (0, 0) ∈ NL) (hf : X9_fact (gal NL) N nw p1 p2 p3 p4 X = some (kx, rr, XX)) : gCXA l yX9_fact cX9_fact 7 (some .int) rm_X9_fact 1 7 D cA ad NL [.ref (ad 0 0), .int p1, .int p2, .int p3, .int p4] X kx (some (.int rr)) nw XX sz :=
  g_ofXA (by decide) htr hD0 (Nat.le_of_ble_eq_true rfl) rfl (fun p e s m below meth c ls hsz hAW CX hP hS hl => w_X9_fact CX hW hD0 hal (by rw [hsz]; exact hadr) hAW ha_l0 X _ _ ls hP hS hl hf)
def rm_X9_work : Room := { frames := 6, cells := 2, slots := 42, locals := 222 }
set_option maxRecDepth 100000 in
set_option maxHeartbeats 4000000 in
theorem s_X9_work_J15 {p : Program} {l : Launch} {e : Env} {s : State} {m : MethodId} {args : Array Value} {below : List Frame} {meth : Method} {c : Code} {D : va_G} {cA : Nat → ClassId} {ad : Nat → Nat → Nat} {NL : List (Nat × Nat)} {A : Nat → Prop} {rr : Int32} {XX : gM} {N : Nat} {kx : Nat} {nw : List (Nat × Nat)} (CX : gCxX p c l meth m s args cX9_work 2 (some .int) RX9 D cA ad NL A) (hW : gWf NL) (hD0 : gD (fun _ => True) ad NL) (hal : gAl ad) (hadr : gAdr ad s.heap.size nw) (hAW : gAW s) : ∀ (X : gM) (H : Heap) (locs : List Loc) (ls : Array Slot), gH D cA ad NL X H → va_S A s.heap H locs → lv_has ls 2 [] → X9_work_J15 (gal NL) N nw X = some (kx, rr, XX) → W p l e rm_X9_work s m args below meth c H locs 0 0 (vx_MQ below (gQx D cA ad (NL ++ nw) kx (some (.int rr)) XX A) (gXx D cA ad NL kx XX A) args s 2 42 A) (F0 m 15 ls []) := by
  have C := CX.1
  have hx := C.1
  have hb := C.2.1
  intro X H locs ls hP hS hl hf
  rw [X9_work_J15] at hf
  obtain ⟨rfl, rfl, rfl⟩ := g_s3 hf
  exact r_throwA CX hP hS hl.1 th_X9_99_101 dX9_work_15 dX9_work_18 dX9_work_19 dX9_work_22 ⟨Nat.le_of_ble_eq_true rfl, Nat.le_of_ble_eq_true rfl, Nat.le_of_ble_eq_true rfl, Nat.le_of_ble_eq_true rfl⟩ ⟨Nat.le_of_ble_eq_true rfl, Nat.le_of_ble_eq_true rfl⟩

set_option maxRecDepth 100000 in
set_option maxHeartbeats 4000000 in
theorem w_X9_work {p : Program} {l : Launch} {e : Env} {s : State} {m : MethodId} {args : Array Value} {below : List Frame} {meth : Method} {c : Code} {D : va_G} {cA : Nat → ClassId} {ad : Nat → Nat → Nat} {NL : List (Nat × Nat)} {A : Nat → Prop} {rr : Int32} {XX : gM} {N : Nat} {kx : Nat} {nw : List (Nat × Nat)} (CX : gCxX p c l meth m s args cX9_work 2 (some .int) RX9 D cA ad NL A) (hW : gWf NL) (hD0 : gD (fun _ => True) ad NL) (hal : gAl ad) (hadr : gAdr ad s.heap.size nw) (hAW : gAW s) (ha_l0 : (0, 0) ∈ NL) : ∀ (X : gM) (H : Heap) (locs : List Loc) (ls : Array Slot), gH D cA ad NL X H → va_S A s.heap H locs → lv_has ls 2 [(0, .ref (ad 0 0))] → X9_work (gal NL) N nw  X = some (kx, rr, XX) → W p l e rm_X9_work s m args below meth c H locs 0 0 (vx_MQ below (gQx D cA ad (NL ++ nw) kx (some (.int rr)) XX A) (gXx D cA ad NL kx XX A) args s 2 42 A) (F0 m 0 ls []) := by
  have C := CX.1
  have hx := C.1
  have hb := C.2.1
  intro X H locs ls hP hS hl hf
  rw [X9_work] at hf
  refine lv_aload_n hx hb dX9_work_0 rfl (lv_at hl 0 rfl) ?_
  refine r_get C hP ha_l0 (ct_0 _ _ _ _) fx_X9_46 (fg_0_7 _ _ _) dX9_work_1 ?_
  refine lv_if_eq (tgt := 15) hx hb dX9_work_4 (by decide) (fun c1 => ?_) (fun c1 => ?_)
  · have hf := g_ip c1 hf
    exact s_X9_work_J15 CX hW hD0 hal hadr hAW X _ _ _ hP hS (lv_sub hl [] rfl) hf
  · have hf := g_in c1 hf
    refine lv_aload_n hx hb dX9_work_7 rfl (lv_at hl 0 rfl) ?_
    refine r_get C hP ha_l0 (ct_0 _ _ _ _) fx_X9_61 (fg_0_11 _ _ _) dX9_work_8 ?_
    refine lv_iconst (v := 4) hx hb dX9_work_11 (by decide) ?_
    refine lv_icmp_lt (tgt := 23) hx hb dX9_work_12 (by decide) (fun c2 => ?_) (fun c2 => ?_)
    · have hf := g_ip c2 hf
      refine lv_aload_n hx hb dX9_work_23 rfl (lv_at hl 0 rfl) ?_
      refine r_get C hP ha_l0 (ct_0 _ _ _ _) fx_X9_61 (fg_0_11 _ _ _) dX9_work_24 ?_
      refine g_top hf (fun v3 e4 hf => ?_)
      refine lv_istore_n (i := 1) (lv' := [(1, .int v3), (0, .ref (ad 0 0))]) hx hb dX9_work_27 rfl hl (Nat.le_of_ble_eq_true rfl) rfl (fun ls hl => ?_)
      refine lv_aload_n hx hb dX9_work_28 rfl (lv_at hl 1 rfl) ?_
      refine r_get C hP ha_l0 (ct_0 _ _ _ _) fx_X9_58 (fg_0_10 _ _ _) dX9_work_29 ?_
      refine lv_aload_n hx hb dX9_work_32 rfl (lv_at hl 1 rfl) ?_
      refine r_get C hP ha_l0 (ct_0 _ _ _ _) fx_X9_61 (fg_0_11 _ _ _) dX9_work_33 ?_
      obtain ⟨j5, h6, hf⟩ := rd_in hf
      obtain ⟨hnw, hf⟩ := eqn_in hf
      have hA2 := hadr
      rw [hnw] at hA2
      have hA3 : ad 26 (12 + j5) = s.heap.size := hA2.1
      have hq := al_26 hal (12 + j5)
      refine r_new (K := 89) (i := (12 + j5)) (x := rz_89) C hP hS nx_X9_49 (rzc_89 _ _ _) (by omega) (by have := hS.1; omega) ⟨Nat.le_of_ble_eq_true rfl, Nat.le_of_ble_eq_true rfl⟩ dX9_work_36 (fun C H hP hS => ?_)
      obtain ⟨X7, e8, hf⟩ := gl_in hf
      rw [← e8] at hP
      have hM : ∀ q, q ∈ NL → q ∈ NL ++ [(89, (12 + j5))] := fun q h => List.mem_append_left _ h
      have hW0 := hW
      have hW := gWf_raw (K := 89) (i := (12 + j5)) hW rfl
      refine lv_dup hx hb dX9_work_39 rfl ?_
      refine lv_aload_n hx hb dX9_work_40 rfl (lv_at hl 1 rfl) ?_
      refine r_get C hP (hM _ ha_l0) (ct_0 _ _ _ _) fx_X9_42 (fg_0_6 _ _ _) dX9_work_41 ?_
      refine lv_aload_n hx hb dX9_work_44 rfl (lv_at hl 1 rfl) ?_
      refine r_get C hP (hM _ ha_l0) (ct_0 _ _ _ _) fx_X9_46 (fg_0_7 _ _ _) dX9_work_45 ?_
      obtain ⟨j14, h15, hf⟩ := rd_in hf
      have hke : (X7 0 0 7) = nI j14 := by have q := (nI_of0 (fun q => h15.1 (Or.inl q))).1; rw [h15.2] at q; exact q
      rw [hke]
      have hk41 : j14 ≤ 40 := by have q : ¬ 41 ≤ ((X7 0 0 7)).toNatClampNeg := fun q => h15.1 (Or.inr q); rw [h15.2] at q; omega
      have hj12 : j5 < 12 := by have q : ¬ 12 ≤ ((X 0 0 11)).toNatClampNeg := fun q => h6.1 (Or.inr q); rw [h6.2] at q; omega
      have hA5 : ad 27 (12 + j5) = s.heap.size + (0 + 1) := hA2.2.1
      refine r_iniT (rest := [.ref (ad 89 (12 + j5)), .int (X 0 0 11), .ref (ad 28 0)]) C hAW CX.2.2.1 hP hS hl.1 (g_lo hP (K := 89) (i := (12 + j5)) (by simp) (by omega)) (s_X8_init (NLb := NL) rfl (gD_in C.2.2.2.2.2.2.2.2.2.1 (fun _ _ => trivial)) hal (gs_0_6 hW (hM _ ha_l0)) hA5 hk41 (by omega)) ix_X8_init im_X8_init rfl lk_X9_176 ⟨rfl, rfl, Nat.le_of_ble_eq_true rfl, Nat.le_of_ble_eq_true rfl⟩ rfl rfl (Nat.le_of_ble_eq_true rfl) ⟨Nat.le_of_ble_eq_true rfl, Nat.le_of_ble_eq_true rfl⟩ dX9_work_48 (fun hsz2 H locs hP9 hS => ?_)
      have C := gCx_rek (K := 26) (gCx_app (new := [(27, (12 + j5))]) C hP (Nat.le_of_eq hsz2) (Nat.le_add_right _ _) (g_new1 hA5)) (al_26 hal _)
      obtain ⟨X12, e13, hf⟩ := gl_in hf
      have hP := hP9
      rw [← e13] at hP
      have eNW : NL ++ [(26, (12 + j5))] ++ [(27, (12 + j5))] = NL ++ [(26, (12 + j5)), (27, (12 + j5))] := by simp
      rw [eNW] at C hP
      have hW := gWf_text (k := (12 + j5)) hW0
      have hD0 : gD (fun _ => True) ad _ := gD_in C.2.2.2.2.2.2.2.2.2.1 (fun _ _ => trivial)
      have hM : ∀ q, q ∈ NL → q ∈ NL ++ [(26, (12 + j5)), (27, (12 + j5))] := fun q h => List.mem_append_left _ h
      rw [al_26 hal]
      try rw [gadd_gal] at hf
      obtain ⟨j17, h18, hf⟩ := rd_in hf
      obtain ⟨w21, h22, hf⟩ := rn_in hf
      have h23 : gRf (NL ++ [(26, (12 + j5)), (27, (12 + j5))]) 26 w21 (12 + j5) := ⟨h22.1, h22.2, (by simp)⟩
      refine r_astq C hP hS w21 h23.1 h23.2.1 (hM _ (gs_0_10 hW0 ha_l0)) (fun _ => ct_28 _ _ _ _) rfl h23.2.2 (ct_26 _ _ _ _) rfl h18 dX9_work_51 (fun H locs hP hS => ?_)
      obtain ⟨X19, e20, hf⟩ := gl_in hf
      rw [← e20] at hP
      refine lv_aload_n hx hb dX9_work_52 rfl (lv_at hl 1 rfl) ?_
      refine lv_dup hx hb dX9_work_53 rfl ?_
      refine r_get C hP (hM _ ha_l0) (ct_0 _ _ _ _) fx_X9_61 (fg_0_11 _ _ _) dX9_work_54 ?_
      refine lv_iconst (v := 1) hx hb dX9_work_57 (by decide) ?_
      refine lv_iadd hx hb dX9_work_58 ?_
      refine r_put C hP hS ((X19 0 0 11) + (1 : Int32)) (hM _ ha_l0) (ct_0 _ _ _ _) px_X9_61 (fp_0_11 _ _ _ _ _) (Nat.le_of_ble_eq_true rfl) rfl rfl dX9_work_59 (fun H locs hP hS => ?_)
      obtain ⟨X24, e25, hf⟩ := gl_in hf
      rw [← e25] at hP
      refine lv_aload_n hx hb dX9_work_62 rfl (lv_at hl 1 rfl) ?_
      refine lv_iconst (v := 0) hx hb dX9_work_63 (by decide) ?_
      refine r_put C hP hS (0 : Int32) (hM _ ha_l0) (ct_0 _ _ _ _) px_X9_46 (fp_0_7 _ _ _ _ _) (Nat.le_of_ble_eq_true rfl) rfl rfl dX9_work_64 (fun H locs hP hS => ?_)
      obtain ⟨X26, e27, hf⟩ := gl_in hf
      rw [← e27] at hP
      refine lv_iload_n hx hb dX9_work_67 rfl (lv_at hl 0 rfl) ?_
      obtain ⟨rfl, rfl, rfl⟩ := g_s3 hf
      rw [hnw]
      exact r_iretG C hP hS ⟨Nat.le_of_ble_eq_true rfl, Nat.le_of_ble_eq_true rfl⟩ dX9_work_68
    · have hf := g_in c2 hf
      exact s_X9_work_J15 CX hW hD0 hal hadr hAW X _ _ _ hP hS (lv_sub hl [] rfl) hf

theorem s_X9_work {l : Launch} {D : va_G} {cA : Nat → ClassId} {ad : Nat → Nat → Nat} {NL nw : List (Nat × Nat)} {N sz : Nat} {X : gM} {kx : Nat} {rr : Int32} {XX : gM} (htr : l.stackTraces = false) (hW : gWf NL) (hD0 : gD (fun _ => True) ad NL) (hal : gAl ad) (hadr : gAdr ad sz nw) (ha_l0 : (0, 0) ∈ NL) (hf : X9_work (gal NL) N nw  X = some (kx, rr, XX)) : gCXA l yX9_work cX9_work 2 (some .int) rm_X9_work 2 42 D cA ad NL [.ref (ad 0 0)] X kx (some (.int rr)) nw XX sz :=
  g_ofXA (by decide) htr hD0 (Nat.le_of_ble_eq_true rfl) rfl (fun p e s m below meth c ls hsz hAW CX hP hS hl => w_X9_work CX hW hD0 hal (by rw [hsz]; exact hadr) hAW ha_l0 X _ _ ls hP hS hl hf)
def rm_X9_word : Room := { frames := 6, cells := 2, slots := 42, locals := 222 }
set_option maxRecDepth 100000 in
set_option maxHeartbeats 4000000 in
theorem s_X9_word_J97 {p : Program} {l : Launch} {e : Env} {s : State} {m : MethodId} {args : Array Value} {below : List Frame} {meth : Method} {c : Code} {D : va_G} {cA : Nat → ClassId} {ad : Nat → Nat → Nat} {NL : List (Nat × Nat)} {A : Nat → Prop} {rr : Int32} {XX : gM} {N : Nat} {kx : Nat} {nw : List (Nat × Nat)} (CX : gCxX p c l meth m s args cX9_word 3 (some .int) RX9 D cA ad NL A) (hW : gWf NL) (hD0 : gD (fun _ => True) ad NL) (hal : gAl ad) (hadr : gAdr ad s.heap.size nw) (hAW : gAW s) : ∀ (p2 : Int32) (X : gM) (H : Heap) (locs : List Loc) (ls : Array Slot), gH D cA ad NL X H → va_S A s.heap H locs → lv_has ls 3 [(0, .ref (ad 0 0)), (2, .int p2)] → (0, 0) ∈ NL → X9_word_J97 (gal NL) N nw p2 X = some (kx, rr, XX) → W p l e rm_X9_word s m args below meth c H locs 0 0 (vx_MQ below (gQx D cA ad (NL ++ nw) kx (some (.int rr)) XX A) (gXx D cA ad NL kx XX A) args s 2 42 A) (F0 m 97 ls []) := by
  have C := CX.1
  have hx := C.1
  have hb := C.2.1
  intro p2 X H locs ls hP hS hl ha_l0 hf
  rw [X9_word_J97] at hf
  refine lv_aload_n hx hb dX9_word_97 rfl (lv_at hl 0 rfl) ?_
  refine lv_iconst (v := 0) hx hb dX9_word_98 (by decide) ?_
  refine r_put C hP hS (0 : Int32) ha_l0 (ct_0 _ _ _ _) px_X9_46 (fp_0_7 _ _ _ _ _) (Nat.le_of_ble_eq_true rfl) rfl rfl dX9_word_99 (fun H locs hP hS => ?_)
  obtain ⟨X1, e2, hf⟩ := gl_in hf
  rw [← e2] at hP
  refine lv_iload_n hx hb dX9_word_102 rfl (lv_at hl 1 rfl) ?_
  obtain ⟨hnw, hf⟩ := eqn_in hf
  obtain ⟨rfl, rfl, rfl⟩ := g_s3 hf
  rw [hnw, List.append_nil]
  exact r_iretG C hP hS ⟨Nat.zero_le _, Nat.zero_le _⟩ dX9_word_103

set_option maxRecDepth 100000 in
set_option maxHeartbeats 4000000 in
theorem s_X9_word_J51 {p : Program} {l : Launch} {e : Env} {s : State} {m : MethodId} {args : Array Value} {below : List Frame} {meth : Method} {c : Code} {D : va_G} {cA : Nat → ClassId} {ad : Nat → Nat → Nat} {NL : List (Nat × Nat)} {A : Nat → Prop} {rr : Int32} {XX : gM} {N : Nat} {kx : Nat} {nw : List (Nat × Nat)} (CX : gCxX p c l meth m s args cX9_word 3 (some .int) RX9 D cA ad NL A) (hW : gWf NL) (hD0 : gD (fun _ => True) ad NL) (hal : gAl ad) (hadr : gAdr ad s.heap.size nw) (hAW : gAW s) : ∀ (p1 : Int32) (X : gM) (H : Heap) (locs : List Loc) (ls : Array Slot), gH D cA ad NL X H → va_S A s.heap H locs → lv_has ls 3 [(0, .ref (ad 0 0)), (1, .int p1)] → (0, 0) ∈ NL → X9_word_J51 (gal NL) N nw p1 X = some (kx, rr, XX) → W p l e rm_X9_word s m args below meth c H locs 0 0 (vx_MQ below (gQx D cA ad (NL ++ nw) kx (some (.int rr)) XX A) (gXx D cA ad NL kx XX A) args s 2 42 A) (F0 m 51 ls []) := by
  have C := CX.1
  have hx := C.1
  have hb := C.2.1
  intro p1 X H locs ls hP hS hl ha_l0 hf
  rw [X9_word_J51] at hf
  refine lv_iload_n hx hb dX9_word_51 rfl (lv_at hl 1 rfl) ?_
  refine lv_istore_n (i := 2) (lv' := [(2, .int p1), (0, .ref (ad 0 0)), (1, .int p1)]) hx hb dX9_word_52 rfl hl (Nat.le_of_ble_eq_true rfl) rfl (fun ls hl => ?_)
  refine lv_iload_n hx hb dX9_word_53 rfl (lv_at hl 2 rfl) ?_
  refine lv_iconst (v := -1) hx hb dX9_word_54 (by decide) ?_
  refine lv_icmp_ne (tgt := 97) hx hb dX9_word_55 (by decide) (fun c1 => ?_) (fun c1 => ?_)
  · have hf := g_in c1 hf
    exact s_X9_word_J97 CX hW hD0 hal hadr hAW p1 X _ _ _ hP hS (lv_sub hl [1, 0] rfl) ha_l0 hf
  · have hf := g_ip c1 hf
    refine lv_aload_n hx hb dX9_word_58 rfl (lv_at hl 1 rfl) ?_
    refine r_get C hP ha_l0 (ct_0 _ _ _ _) fx_X9_55 (fg_0_9 _ _ _) dX9_word_59 ?_
    refine g_top hf (fun v2 e3 hf => ?_)
    refine lv_istore_n (i := 2) (lv' := [(2, .int v2), (0, .ref (ad 0 0)), (1, .int p1)]) hx hb dX9_word_62 rfl hl (Nat.le_of_ble_eq_true rfl) rfl (fun ls hl => ?_)
    refine lv_aload_n hx hb dX9_word_63 rfl (lv_at hl 1 rfl) ?_
    refine r_get C hP ha_l0 (ct_0 _ _ _ _) fx_X9_51 (fg_0_8 _ _ _) dX9_word_64 ?_
    refine lv_aload_n hx hb dX9_word_67 rfl (lv_at hl 1 rfl) ?_
    refine r_get C hP ha_l0 (ct_0 _ _ _ _) fx_X9_55 (fg_0_9 _ _ _) dX9_word_68 ?_
    obtain ⟨j4, h5, hf⟩ := rd_in hf
    obtain ⟨hnw, hf⟩ := eqn_in hf
    have hA2 := hadr
    rw [hnw] at hA2
    have hA3 : ad 26 j4 = s.heap.size := hA2.1
    have hq := al_26 hal j4
    refine r_new (K := 89) (i := j4) (x := rz_89) C hP hS nx_X9_49 (rzc_89 _ _ _) (by omega) (by have := hS.1; omega) ⟨Nat.le_of_ble_eq_true rfl, Nat.le_of_ble_eq_true rfl⟩ dX9_word_71 (fun C H hP hS => ?_)
    obtain ⟨X6, e7, hf⟩ := gl_in hf
    rw [← e7] at hP
    have hM : ∀ q, q ∈ NL → q ∈ NL ++ [(89, j4)] := fun q h => List.mem_append_left _ h
    have hW0 := hW
    have hW := gWf_raw (K := 89) (i := j4) hW rfl
    refine lv_dup hx hb dX9_word_74 rfl ?_
    refine lv_aload_n hx hb dX9_word_75 rfl (lv_at hl 1 rfl) ?_
    refine r_get C hP (hM _ ha_l0) (ct_0 _ _ _ _) fx_X9_42 (fg_0_6 _ _ _) dX9_word_76 ?_
    refine lv_aload_n hx hb dX9_word_79 rfl (lv_at hl 1 rfl) ?_
    refine r_get C hP (hM _ ha_l0) (ct_0 _ _ _ _) fx_X9_46 (fg_0_7 _ _ _) dX9_word_80 ?_
    obtain ⟨j13, h14, hf⟩ := rd_in hf
    have hke : (X6 0 0 7) = nI j13 := by have q := (nI_of0 (fun q => h14.1 (Or.inl q))).1; rw [h14.2] at q; exact q
    rw [hke]
    have hk41 : j13 ≤ 40 := by have q : ¬ 41 ≤ ((X6 0 0 7)).toNatClampNeg := fun q => h14.1 (Or.inr q); rw [h14.2] at q; omega
    have hj12 : j4 < 12 := by have q : ¬ 12 ≤ ((X 0 0 9)).toNatClampNeg := fun q => h5.1 (Or.inr q); rw [h5.2] at q; omega
    have hA5 : ad 27 j4 = s.heap.size + (0 + 1) := hA2.2.1
    refine r_iniT (rest := [.ref (ad 89 j4), .int (X 0 0 9), .ref (ad 25 0)]) C hAW CX.2.2.1 hP hS hl.1 (g_lo hP (K := 89) (i := j4) (by simp) (by omega)) (s_X8_init (NLb := NL) rfl (gD_in C.2.2.2.2.2.2.2.2.2.1 (fun _ _ => trivial)) hal (gs_0_6 hW (hM _ ha_l0)) hA5 hk41 (by omega)) ix_X8_init im_X8_init rfl lk_X9_176 ⟨rfl, rfl, Nat.le_of_ble_eq_true rfl, Nat.le_of_ble_eq_true rfl⟩ rfl rfl (Nat.le_of_ble_eq_true rfl) ⟨Nat.le_of_ble_eq_true rfl, Nat.le_of_ble_eq_true rfl⟩ dX9_word_83 (fun hsz2 H locs hP9 hS => ?_)
    have C := gCx_rek (K := 26) (gCx_app (new := [(27, j4)]) C hP (Nat.le_of_eq hsz2) (Nat.le_add_right _ _) (g_new1 hA5)) (al_26 hal _)
    obtain ⟨X11, e12, hf⟩ := gl_in hf
    have hP := hP9
    rw [← e12] at hP
    have eNW : NL ++ [(26, j4)] ++ [(27, j4)] = NL ++ [(26, j4), (27, j4)] := by simp
    rw [eNW] at C hP
    have hW := gWf_text (k := j4) hW0
    have hD0 : gD (fun _ => True) ad _ := gD_in C.2.2.2.2.2.2.2.2.2.1 (fun _ _ => trivial)
    have hM : ∀ q, q ∈ NL → q ∈ NL ++ [(26, j4), (27, j4)] := fun q h => List.mem_append_left _ h
    rw [al_26 hal]
    try rw [gadd_gal] at hf
    have h15 : gRf (NL ++ [(26, j4), (27, j4)]) 26 (X 0 0 9) j4 := ⟨fun q => h5.1 (Or.inl q), h5.2, by simp⟩
    obtain ⟨j16, h17, hf⟩ := rd_in hf
    refine r_astq C hP hS (X 0 0 9) h15.1 h15.2.1 (hM _ (gs_0_8 hW0 ha_l0)) (fun _ => ct_25 _ _ _ _) rfl h15.2.2 (ct_26 _ _ _ _) rfl h17 dX9_word_86 (fun H locs hP hS => ?_)
    obtain ⟨X18, e19, hf⟩ := gl_in hf
    rw [← e19] at hP
    refine lv_aload_n hx hb dX9_word_87 rfl (lv_at hl 1 rfl) ?_
    refine lv_dup hx hb dX9_word_88 rfl ?_
    refine r_get C hP (hM _ ha_l0) (ct_0 _ _ _ _) fx_X9_55 (fg_0_9 _ _ _) dX9_word_89 ?_
    refine lv_iconst (v := 1) hx hb dX9_word_92 (by decide) ?_
    refine lv_iadd hx hb dX9_word_93 ?_
    refine r_put C hP hS ((X18 0 0 9) + (1 : Int32)) (hM _ ha_l0) (ct_0 _ _ _ _) px_X9_55 (fp_0_9 _ _ _ _ _) (Nat.le_of_ble_eq_true rfl) rfl rfl dX9_word_94 (fun H locs hP hS => ?_)
    obtain ⟨X20, e21, hf⟩ := gl_in hf
    rw [← e21] at hP
    refine lv_aload_n hx hb dX9_word_97 rfl (lv_at hl 1 rfl) ?_
    refine lv_iconst (v := 0) hx hb dX9_word_98 (by decide) ?_
    refine r_put C hP hS (0 : Int32) (hM _ ha_l0) (ct_0 _ _ _ _) px_X9_46 (fp_0_7 _ _ _ _ _) (Nat.le_of_ble_eq_true rfl) rfl rfl dX9_word_99 (fun H locs hP hS => ?_)
    obtain ⟨X22, e23, hf⟩ := gl_in hf
    rw [← e23] at hP
    refine lv_iload_n hx hb dX9_word_102 rfl (lv_at hl 0 rfl) ?_
    obtain ⟨rfl, rfl, rfl⟩ := g_s3 hf
    rw [hnw]
    exact r_iretG C hP hS ⟨Nat.le_of_ble_eq_true rfl, Nat.le_of_ble_eq_true rfl⟩ dX9_word_103

set_option maxRecDepth 100000 in
set_option maxHeartbeats 4000000 in
theorem s_X9_word_J16 {p : Program} {l : Launch} {e : Env} {s : State} {m : MethodId} {args : Array Value} {below : List Frame} {meth : Method} {c : Code} {D : va_G} {cA : Nat → ClassId} {ad : Nat → Nat → Nat} {NL : List (Nat × Nat)} {A : Nat → Prop} {rr : Int32} {XX : gM} {N : Nat} {kx : Nat} {nw : List (Nat × Nat)} (CX : gCxX p c l meth m s args cX9_word 3 (some .int) RX9 D cA ad NL A) (hW : gWf NL) (hD0 : gD (fun _ => True) ad NL) (hal : gAl ad) (hadr : gAdr ad s.heap.size nw) (hAW : gAW s) : ∀ (X : gM) (H : Heap) (locs : List Loc) (ls : Array Slot), gH D cA ad NL X H → va_S A s.heap H locs → lv_has ls 3 [] → X9_word_J16 (gal NL) N nw X = some (kx, rr, XX) → W p l e rm_X9_word s m args below meth c H locs 0 0 (vx_MQ below (gQx D cA ad (NL ++ nw) kx (some (.int rr)) XX A) (gXx D cA ad NL kx XX A) args s 2 42 A) (F0 m 16 ls []) := by
  have C := CX.1
  have hx := C.1
  have hb := C.2.1
  intro X H locs ls hP hS hl hf
  rw [X9_word_J16] at hf
  obtain ⟨rfl, rfl, rfl⟩ := g_s3 hf
  exact r_throwA CX hP hS hl.1 th_X9_99_101 dX9_word_16 dX9_word_19 dX9_word_20 dX9_word_23 ⟨Nat.le_of_ble_eq_true rfl, Nat.le_of_ble_eq_true rfl, Nat.le_of_ble_eq_true rfl, Nat.le_of_ble_eq_true rfl⟩ ⟨Nat.le_of_ble_eq_true rfl, Nat.le_of_ble_eq_true rfl⟩

set_option maxRecDepth 100000 in
set_option maxHeartbeats 4000000 in
theorem w_X9_word {p : Program} {l : Launch} {e : Env} {s : State} {m : MethodId} {args : Array Value} {below : List Frame} {meth : Method} {c : Code} {D : va_G} {cA : Nat → ClassId} {ad : Nat → Nat → Nat} {NL : List (Nat × Nat)} {A : Nat → Prop} {rr : Int32} {XX : gM} {N : Nat} {kx : Nat} {nw : List (Nat × Nat)} (CX : gCxX p c l meth m s args cX9_word 3 (some .int) RX9 D cA ad NL A) (hW : gWf NL) (hD0 : gD (fun _ => True) ad NL) (hal : gAl ad) (hadr : gAdr ad s.heap.size nw) (hAW : gAW s) (ha_l0 : (0, 0) ∈ NL) : ∀ (X : gM) (H : Heap) (locs : List Loc) (ls : Array Slot), gH D cA ad NL X H → va_S A s.heap H locs → lv_has ls 3 [(0, .ref (ad 0 0))] → X9_word (gal NL) N nw  X = some (kx, rr, XX) → W p l e rm_X9_word s m args below meth c H locs 0 0 (vx_MQ below (gQx D cA ad (NL ++ nw) kx (some (.int rr)) XX A) (gXx D cA ad NL kx XX A) args s 2 42 A) (F0 m 0 ls []) := by
  have C := CX.1
  have hx := C.1
  have hb := C.2.1
  intro X H locs ls hP hS hl hf
  rw [X9_word] at hf
  refine lv_aload_n hx hb dX9_word_0 rfl (lv_at hl 0 rfl) ?_
  refine r_get C hP ha_l0 (ct_0 _ _ _ _) fx_X9_46 (fg_0_7 _ _ _) dX9_word_1 ?_
  refine lv_if_eq (tgt := 16) hx hb dX9_word_4 (by decide) (fun c1 => ?_) (fun c1 => ?_)
  · have hf := g_ip c1 hf
    exact s_X9_word_J16 CX hW hD0 hal hadr hAW X _ _ _ hP hS (lv_sub hl [] rfl) hf
  · have hf := g_in c1 hf
    refine lv_aload_n hx hb dX9_word_7 rfl (lv_at hl 0 rfl) ?_
    refine r_get C hP ha_l0 (ct_0 _ _ _ _) fx_X9_46 (fg_0_7 _ _ _) dX9_word_8 ?_
    refine lv_bipush (v := 8) hx hb dX9_word_11 (by decide) ?_
    refine lv_icmp_le (tgt := 24) hx hb dX9_word_13 (by decide) (fun c2 => ?_) (fun c2 => ?_)
    · have hf := g_ip c2 hf
      refine lv_aload_n hx hb dX9_word_24 rfl (lv_at hl 0 rfl) ?_
      obtain ⟨r3, X4, h5, hf⟩ := b2_in hf
      refine r_cVi (rest := []) C hP hS hl.1 (s_X9_wordLikeDraft hW hD0 ha_l0 h5) ix_X9_wordLikeDraft iv_X9_wordLikeDraft lk_X9_172 ⟨rfl, rfl, Nat.le_of_ble_eq_true rfl, Nat.le_of_ble_eq_true rfl⟩ ha_l0 (ct_0 _ _ _ _) rfl rfl rfl rfl (Nat.le_of_ble_eq_true rfl) ⟨Nat.zero_le _, Nat.zero_le _⟩ dX9_word_25 (fun H locs hP hS => ?_)
      refine lv_istore_n (i := 1) (lv' := [(1, .int r3), (0, .ref (ad 0 0))]) hx hb dX9_word_28 rfl hl (Nat.le_of_ble_eq_true rfl) rfl (fun ls hl => ?_)
      refine lv_iload_n hx hb dX9_word_29 rfl (lv_at hl 0 rfl) ?_
      refine lv_iconst (v := -1) hx hb dX9_word_30 (by decide) ?_
      refine lv_icmp_ne (tgt := 51) hx hb dX9_word_31 (by decide) (fun c6 => ?_) (fun c6 => ?_)
      · have hf := g_in c6 hf
        exact s_X9_word_J51 CX hW hD0 hal hadr hAW r3 X4 _ _ _ hP hS (lv_sub hl [1, 0] rfl) ha_l0 hf
      · have hf := g_ip c6 hf
        refine lv_aload_n hx hb dX9_word_34 rfl (lv_at hl 1 rfl) ?_
        refine r_get C hP ha_l0 (ct_0 _ _ _ _) fx_X9_55 (fg_0_9 _ _ _) dX9_word_35 ?_
        refine lv_bipush (v := 12) hx hb dX9_word_38 (by decide) ?_
        refine lv_icmp_lt (tgt := 51) hx hb dX9_word_40 (by decide) (fun c7 => ?_) (fun c7 => ?_)
        · have hf := g_ip c7 hf
          exact s_X9_word_J51 CX hW hD0 hal hadr hAW r3 X4 _ _ _ hP hS (lv_sub hl [1, 0] rfl) ha_l0 hf
        · have hf := g_in c7 hf
          obtain ⟨rfl, rfl, rfl⟩ := g_s3 hf
          exact r_throwA CX hP hS hl.1 th_X9_99_101 dX9_word_43 dX9_word_46 dX9_word_47 dX9_word_50 ⟨Nat.le_of_ble_eq_true rfl, Nat.le_of_ble_eq_true rfl, Nat.le_of_ble_eq_true rfl, Nat.le_of_ble_eq_true rfl⟩ ⟨Nat.le_of_ble_eq_true rfl, Nat.le_of_ble_eq_true rfl⟩
    · have hf := g_in c2 hf
      exact s_X9_word_J16 CX hW hD0 hal hadr hAW X _ _ _ hP hS (lv_sub hl [] rfl) hf

theorem s_X9_word {l : Launch} {D : va_G} {cA : Nat → ClassId} {ad : Nat → Nat → Nat} {NL nw : List (Nat × Nat)} {N sz : Nat} {X : gM} {kx : Nat} {rr : Int32} {XX : gM} (htr : l.stackTraces = false) (hW : gWf NL) (hD0 : gD (fun _ => True) ad NL) (hal : gAl ad) (hadr : gAdr ad sz nw) (ha_l0 : (0, 0) ∈ NL) (hf : X9_word (gal NL) N nw  X = some (kx, rr, XX)) : gCXA l yX9_word cX9_word 3 (some .int) rm_X9_word 2 42 D cA ad NL [.ref (ad 0 0)] X kx (some (.int rr)) nw XX sz :=
  g_ofXA (by decide) htr hD0 (Nat.le_of_ble_eq_true rfl) rfl (fun p e s m below meth c ls hsz hAW CX hP hS hl => w_X9_word CX hW hD0 hal (by rw [hsz]; exact hadr) hAW ha_l0 X _ _ ls hP hS hl hf)
def rm_X9_leaf : Room := { frames := 6, cells := 130, slots := 877, locals := 225 }
set_option maxRecDepth 100000 in
set_option maxHeartbeats 4000000 in
theorem s_X9_leaf_J109 {p : Program} {l : Launch} {e : Env} {s : State} {m : MethodId} {args : Array Value} {below : List Frame} {meth : Method} {c : Code} {D : va_G} {cA : Nat → ClassId} {ad : Nat → Nat → Nat} {NL : List (Nat × Nat)} {A : Nat → Prop} {rr : Int32} {XX : gM} {N : Nat} {kx : Nat} {nw : List (Nat × Nat)} (CX : gCxX p c l meth m s args cX9_leaf 8 (some .int) RX9 D cA ad NL A) (hW : gWf NL) (hD0 : gD (fun _ => True) ad NL) (hal : gAl ad) (hadr : gAdr ad s.heap.size nw) (hAW : gAW s) : ∀ (X : gM) (H : Heap) (locs : List Loc) (ls : Array Slot), gH D cA ad NL X H → va_S A s.heap H locs → lv_has ls 8 [] → X9_leaf_J109 (gal NL) N nw X = some (kx, rr, XX) → W p l e rm_X9_leaf s m args below meth c H locs 0 0 (vx_MQ below (gQx D cA ad (NL ++ nw) kx (some (.int rr)) XX A) (gXx D cA ad NL kx XX A) args s 130 877 A) (F0 m 109 ls []) := by
  have C := CX.1
  have hx := C.1
  have hb := C.2.1
  intro X H locs ls hP hS hl hf
  rw [X9_leaf_J109] at hf
  obtain ⟨rfl, rfl, rfl⟩ := g_s3 hf
  exact r_throwA CX hP hS hl.1 th_X9_99_101 dX9_leaf_109 dX9_leaf_112 dX9_leaf_113 dX9_leaf_116 ⟨Nat.le_of_ble_eq_true rfl, Nat.le_of_ble_eq_true rfl, Nat.le_of_ble_eq_true rfl, Nat.le_of_ble_eq_true rfl⟩ ⟨Nat.le_of_ble_eq_true rfl, Nat.le_of_ble_eq_true rfl⟩

set_option maxRecDepth 100000 in
set_option maxHeartbeats 4000000 in
theorem s_X9_leaf_J72 {p : Program} {l : Launch} {e : Env} {s : State} {m : MethodId} {args : Array Value} {below : List Frame} {meth : Method} {c : Code} {D : va_G} {cA : Nat → ClassId} {ad : Nat → Nat → Nat} {NL : List (Nat × Nat)} {A : Nat → Prop} {rr : Int32} {XX : gM} {N : Nat} {kx : Nat} {nw : List (Nat × Nat)} (CX : gCxX p c l meth m s args cX9_leaf 8 (some .int) RX9 D cA ad NL A) (hW : gWf NL) (hD0 : gD (fun _ => True) ad NL) (hal : gAl ad) (hadr : gAdr ad s.heap.size nw) (hAW : gAW s) : ∀ (p2 : Int32) (p3 : Int32) (p4 : Int32) (p5 : Int32) (p6 : Int32) (X : gM) (H : Heap) (locs : List Loc) (ls : Array Slot), gH D cA ad NL X H → va_S A s.heap H locs → lv_has ls 8 [(0, .ref (ad 0 0)), (2, .int p2), (3, .int p3), (4, .int p4), (5, .int p5), (6, va_rf (ro ad 12 p6))] → (0, 0) ∈ NL → X9_leaf_J72 (gal NL) N nw p2 p3 p4 p5 p6 X = some (kx, rr, XX) → W p l e rm_X9_leaf s m args below meth c H locs 0 0 (vx_MQ below (gQx D cA ad (NL ++ nw) kx (some (.int rr)) XX A) (gXx D cA ad NL kx XX A) args s 130 877 A) (F0 m 72 ls []) := by
  have C := CX.1
  have hx := C.1
  have hb := C.2.1
  intro p2 p3 p4 p5 p6 X H locs ls hP hS hl ha_l0 hf
  rw [X9_leaf_J72] at hf
  refine lv_iload hx hb dX9_leaf_72 (lv_at hl 4 rfl) ?_
  refine lv_iconst (v := 0) hx hb dX9_leaf_74 (by decide) ?_
  refine lv_sipush (v := 255) hx hb dX9_leaf_75 (by decide) ?_
  obtain ⟨r1, X2, h3, hf⟩ := b2_in hf
  refine r_cSi (rest := []) C hP hS hl.1 (s_X9_isWithin hW hD0  h3) ix_X9_isWithin is_X9_isWithin ls_X9_88 ⟨rfl, rfl, Nat.le_of_ble_eq_true rfl, Nat.le_of_ble_eq_true rfl⟩ rfl rfl (Nat.le_of_ble_eq_true rfl) ⟨Nat.zero_le _, Nat.zero_le _⟩ dX9_leaf_78 (fun H locs hP hS => ?_)
  refine lv_if_ne (tgt := 92) hx hb dX9_leaf_81 (by decide) (fun c4 => ?_) (fun c4 => ?_)
  · have hf := g_in c4 hf
    refine lv_aload_n hx hb dX9_leaf_92 rfl (lv_at hl 0 rfl) ?_
    refine r_get C hP ha_l0 (ct_0 _ _ _ _) fx_X9_22 (fg_0_2 _ _ _) dX9_leaf_93 ?_
    refine lv_bipush (v := 10) hx hb dX9_leaf_96 (by decide) ?_
    refine lv_icmp_ge (tgt := 109) hx hb dX9_leaf_98 (by decide) (fun c5 => ?_) (fun c5 => ?_)
    · have hf := g_ip c5 hf
      exact s_X9_leaf_J109 CX hW hD0 hal hadr hAW X2 _ _ _ hP hS (lv_sub hl [] rfl) hf
    · have hf := g_in c5 hf
      refine r_aload C dX9_leaf_101 (lv_at hl 5 rfl) ?_
      obtain ⟨j6, h7, hf⟩ := dr_in hf
      rw [gref h7]
      obtain ⟨r8, X9, h10, hf⟩ := b2_in hf
      refine r_cVi (rest := []) C hP hS hl.1 (s_X5_hasRoom hW hD0 h7.2.2 h10) ix_X5_hasRoom iv_X5_hasRoom lk_X9_95 ⟨rfl, rfl, Nat.le_of_ble_eq_true rfl, Nat.le_of_ble_eq_true rfl⟩ h7.2.2 (ct_12 _ _ _ _) rfl rfl rfl rfl (Nat.le_of_ble_eq_true rfl) ⟨Nat.zero_le _, Nat.zero_le _⟩ dX9_leaf_103 (fun H locs hP hS => ?_)
      refine lv_if_ne (tgt := 117) hx hb dX9_leaf_106 (by decide) (fun c11 => ?_) (fun c11 => ?_)
      · have hf := g_in c11 hf
        obtain ⟨j12, h13, hf⟩ := rd_in hf
        obtain ⟨hnw, hf⟩ := eqn_in hf
        have hA2 := hadr
        rw [hnw] at hA2
        have hA3 : ad 5 j12 = s.heap.size := hA2.1
        have hq := al_5 hal j12
        refine r_new (K := 84) (i := j12) (x := rz_84) C hP hS nx_X9_16 (rzc_84 _ _ _) (by omega) (by have := hS.1; omega) ⟨Nat.le_of_ble_eq_true rfl, Nat.le_of_ble_eq_true rfl⟩ dX9_leaf_117 (fun C H hP hS => ?_)
        obtain ⟨X14, e15, hf⟩ := gl_in hf
        rw [← e15] at hP
        have hM : ∀ q, q ∈ NL → q ∈ NL ++ [(84, j12)] := fun q h => List.mem_append_left _ h
        have hW0 := hW
        have hW := gWf_raw (K := 84) (i := j12) hW rfl
        refine lv_dup hx hb dX9_leaf_120 rfl ?_
        refine lv_aload_n hx hb dX9_leaf_121 rfl (lv_at hl 0 rfl) ?_
        refine r_get C hP (hM _ ha_l0) (ct_0 _ _ _ _) fx_X9_22 (fg_0_2 _ _ _) dX9_leaf_122 ?_
        refine r_aload C dX9_leaf_125 (lv_at hl 5 rfl) ?_
        rw [gref h7]
        refine lv_iload_n hx hb dX9_leaf_127 rfl (lv_at hl 1 rfl) ?_
        refine lv_iload_n hx hb dX9_leaf_128 rfl (lv_at hl 2 rfl) ?_
        obtain ⟨r18, X16, h17, hf⟩ := b2_in hf
        refine r_iniG (rest := [.ref (ad 84 j12)]) C hAW hP hS hl.1 (g_lo hP (K := 84) (i := j12) (by simp) (by omega)) (s_X2_init (NLb := NL) (cnt := (lfc (p2 * p3))) rfl (gD_in C.2.2.2.2.2.2.2.2.2.1 (fun _ _ => trivial)) hal hA2.2 (lfc_32 _) lfc_lo (lfc_hi _) h17) ix_X2_init im_X2_init rfl lk_X9_102 ⟨rfl, rfl, Nat.le_of_ble_eq_true rfl, Nat.le_of_ble_eq_true rfl⟩ rfl rfl (Nat.le_of_ble_eq_true rfl) ⟨Nat.le_of_ble_eq_true rfl, Nat.le_of_ble_eq_true rfl⟩ dX9_leaf_129 (fun hsz2 H locs hP9 hS => ?_)
        have C := gCx_rek (K := 5) (gCx_app (new := (6, j12) :: cls j12 (lfc (p2 * p3))) C hP (Nat.le_of_eq hsz2) (Nat.le_add_right _ _) (gAdr_at hA2.2)) (al_5 hal _)
        have hP := hP9
        have eNW : NL ++ [(5, j12)] ++ ((6, j12) :: cls j12 (lfc (p2 * p3))) = NL ++ ((5, j12) :: (6, j12) :: cls j12 (lfc (p2 * p3))) := by simp
        rw [eNW] at C hP
        have hW := gWf_leaf (k := j12) (cnt := (lfc (p2 * p3))) hW0
        have hD0 : gD (fun _ => True) ad _ := gD_in C.2.2.2.2.2.2.2.2.2.1 (fun _ _ => trivial)
        have hM : ∀ q, q ∈ NL → q ∈ NL ++ ((5, j12) :: (6, j12) :: cls j12 (lfc (p2 * p3))) := fun q h => List.mem_append_left _ h
        rw [al_5 hal]
        try rw [gadd_gal] at hf
        have h21 : gRf (NL ++ ((5, j12) :: (6, j12) :: cls j12 (lfc (p2 * p3)))) 5 (X9 0 0 2) j12 := ⟨fun q => h13.1 (Or.inl q), h13.2, by simp⟩
        refine lv_astore (i := 7) (lv' := [(7, .ref (ad 5 j12)), (0, .ref (ad 0 0)), (2, .int p2), (3, .int p3), (4, .int p4), (5, .int p5), (6, va_rf (ro ad 12 p6))]) hx hb dX9_leaf_132 hl (Nat.le_of_ble_eq_true rfl) (by simp [g_cat, g_catr, g_cati]) (fun ls hl => ?_)
        refine lv_aload hx hb dX9_leaf_134 (lv_at hl 0 rfl) ?_
        refine lv_iload hx hb dX9_leaf_136 (lv_at hl 4 rfl) ?_
        refine r_put C hP hS p4 (by simp) (ct_5 _ _ _ _) px_X9_105 (fp_5_5 _ _ _ _ _) (Nat.le_of_ble_eq_true rfl) rfl rfl dX9_leaf_138 (fun H locs hP hS => ?_)
        obtain ⟨X22, e23, hf⟩ := gl_in hf
        rw [← e23] at hP
        refine lv_aload hx hb dX9_leaf_141 (lv_at hl 0 rfl) ?_
        refine lv_iload hx hb dX9_leaf_143 (lv_at hl 5 rfl) ?_
        refine r_put C hP hS p5 (by simp) (ct_5 _ _ _ _) px_X9_108 (fp_5_6 _ _ _ _ _) (Nat.le_of_ble_eq_true rfl) rfl rfl dX9_leaf_145 (fun H locs hP hS => ?_)
        obtain ⟨X24, e25, hf⟩ := gl_in hf
        rw [← e25] at hP
        refine lv_aload_n hx hb dX9_leaf_148 rfl (lv_at hl 1 rfl) ?_
        refine r_get C hP (hM _ ha_l0) (ct_0 _ _ _ _) fx_X9_18 (fg_0_1 _ _ _) dX9_leaf_149 ?_
        refine lv_aload_n hx hb dX9_leaf_152 rfl (lv_at hl 1 rfl) ?_
        refine r_get C hP (hM _ ha_l0) (ct_0 _ _ _ _) fx_X9_22 (fg_0_2 _ _ _) dX9_leaf_153 ?_
        refine lv_aload hx hb dX9_leaf_156 (lv_at hl 0 rfl) ?_
        obtain ⟨j26, h27, hf⟩ := rd_in hf
        refine r_astq C hP hS (X9 0 0 2) h21.1 h21.2.1 (gs_0_1 hW (hM _ ha_l0)) (fun _ => ct_4 _ _ _ _) rfl h21.2.2 (ct_5 _ _ _ _) rfl h27 dX9_leaf_158 (fun H locs hP hS => ?_)
        obtain ⟨X28, e29, hf⟩ := gl_in hf
        rw [← e29] at hP
        refine r_aload C dX9_leaf_159 (lv_at hl 6 rfl) ?_
        rw [gref h7]
        refine lv_aload hx hb dX9_leaf_161 (lv_at hl 0 rfl) ?_
        obtain ⟨r30, X31, h32, hf⟩ := b2_in hf
        refine r_cVv (rest := []) C hP hS hl.1 (by have q9 := s_X5_take (l := l) (D := D) (cA := cA) hW hD0 (hM _ h7.2.2) h32; rw [gref h21] at q9; exact q9) ix_X5_take iv_X5_take lk_X9_111 ⟨rfl, rfl, Nat.le_of_ble_eq_true rfl, Nat.le_of_ble_eq_true rfl⟩ (hM _ h7.2.2) (ct_12 _ _ _ _) rfl rfl rfl rfl (Nat.le_of_ble_eq_true rfl) ⟨Nat.le_of_ble_eq_true rfl, Nat.le_of_ble_eq_true rfl⟩ dX9_leaf_163 (fun H locs hP hS => ?_)
        refine lv_aload_n hx hb dX9_leaf_166 rfl (lv_at hl 1 rfl) ?_
        refine lv_dup hx hb dX9_leaf_167 rfl ?_
        refine r_get C hP (hM _ ha_l0) (ct_0 _ _ _ _) fx_X9_22 (fg_0_2 _ _ _) dX9_leaf_168 ?_
        refine lv_iconst (v := 1) hx hb dX9_leaf_171 (by decide) ?_
        refine lv_iadd hx hb dX9_leaf_172 ?_
        refine r_put C hP hS ((X31 0 0 2) + (1 : Int32)) (hM _ ha_l0) (ct_0 _ _ _ _) px_X9_22 (fp_0_2 _ _ _ _ _) (Nat.le_of_ble_eq_true rfl) rfl rfl dX9_leaf_173 (fun H locs hP hS => ?_)
        obtain ⟨X33, e34, hf⟩ := gl_in hf
        rw [← e34] at hP
        refine lv_aload hx hb dX9_leaf_176 (lv_at hl 0 rfl) ?_
        refine r_get C hP (by simp) (ct_5 _ _ _ _) fx_X9_115 (fg_5_0 _ _ _) dX9_leaf_178 ?_
        obtain ⟨rfl, rfl, rfl⟩ := g_s3 hf
        rw [hnw]
        exact r_iretG C hP hS ⟨Nat.le_of_ble_eq_true rfl, Nat.le_of_ble_eq_true rfl⟩ dX9_leaf_181
      · have hf := g_ip c11 hf
        exact s_X9_leaf_J109 CX hW hD0 hal hadr hAW X9 _ _ _ hP hS (lv_sub hl [] rfl) hf
  · have hf := g_ip c4 hf
    obtain ⟨rfl, rfl, rfl⟩ := g_s3 hf
    exact r_throwA CX hP hS hl.1 th_X9_92_94 dX9_leaf_84 dX9_leaf_87 dX9_leaf_88 dX9_leaf_91 ⟨Nat.le_of_ble_eq_true rfl, Nat.le_of_ble_eq_true rfl, Nat.le_of_ble_eq_true rfl, Nat.le_of_ble_eq_true rfl⟩ ⟨Nat.le_of_ble_eq_true rfl, Nat.le_of_ble_eq_true rfl⟩

set_option maxRecDepth 100000 in
set_option maxHeartbeats 4000000 in
theorem s_X9_leaf_J39 {p : Program} {l : Launch} {e : Env} {s : State} {m : MethodId} {args : Array Value} {below : List Frame} {meth : Method} {c : Code} {D : va_G} {cA : Nat → ClassId} {ad : Nat → Nat → Nat} {NL : List (Nat × Nat)} {A : Nat → Prop} {rr : Int32} {XX : gM} {N : Nat} {kx : Nat} {nw : List (Nat × Nat)} (CX : gCxX p c l meth m s args cX9_leaf 8 (some .int) RX9 D cA ad NL A) (hW : gWf NL) (hD0 : gD (fun _ => True) ad NL) (hal : gAl ad) (hadr : gAdr ad s.heap.size nw) (hAW : gAW s) : ∀ (X : gM) (H : Heap) (locs : List Loc) (ls : Array Slot), gH D cA ad NL X H → va_S A s.heap H locs → lv_has ls 8 [] → X9_leaf_J39 (gal NL) N nw X = some (kx, rr, XX) → W p l e rm_X9_leaf s m args below meth c H locs 0 0 (vx_MQ below (gQx D cA ad (NL ++ nw) kx (some (.int rr)) XX A) (gXx D cA ad NL kx XX A) args s 130 877 A) (F0 m 39 ls []) := by
  have C := CX.1
  have hx := C.1
  have hb := C.2.1
  intro X H locs ls hP hS hl hf
  rw [X9_leaf_J39] at hf
  obtain ⟨rfl, rfl, rfl⟩ := g_s3 hf
  exact r_throwA CX hP hS hl.1 th_X9_92_94 dX9_leaf_39 dX9_leaf_42 dX9_leaf_43 dX9_leaf_46 ⟨Nat.le_of_ble_eq_true rfl, Nat.le_of_ble_eq_true rfl, Nat.le_of_ble_eq_true rfl, Nat.le_of_ble_eq_true rfl⟩ ⟨Nat.le_of_ble_eq_true rfl, Nat.le_of_ble_eq_true rfl⟩

set_option maxRecDepth 100000 in
set_option maxHeartbeats 4000000 in
theorem w_X9_leaf {p : Program} {l : Launch} {e : Env} {s : State} {m : MethodId} {args : Array Value} {below : List Frame} {meth : Method} {c : Code} {D : va_G} {cA : Nat → ClassId} {ad : Nat → Nat → Nat} {NL : List (Nat × Nat)} {A : Nat → Prop} {rr : Int32} {XX : gM} {N : Nat} {kx : Nat} {nw : List (Nat × Nat)} (CX : gCxX p c l meth m s args cX9_leaf 8 (some .int) RX9 D cA ad NL A) (hW : gWf NL) (hD0 : gD (fun _ => True) ad NL) (hal : gAl ad) (hadr : gAdr ad s.heap.size nw) (hAW : gAW s) {p1 : Int32} {p2 : Int32} {p3 : Int32} {p4 : Int32} {p5 : Int32} (ha_l0 : (0, 0) ∈ NL) : ∀ (X : gM) (H : Heap) (locs : List Loc) (ls : Array Slot), gH D cA ad NL X H → va_S A s.heap H locs → lv_has ls 8 [(0, .ref (ad 0 0)), (1, .int p1), (2, .int p2), (3, .int p3), (4, .int p4), (5, .int p5)] → X9_leaf (gal NL) N nw p1 p2 p3 p4 p5 X = some (kx, rr, XX) → W p l e rm_X9_leaf s m args below meth c H locs 0 0 (vx_MQ below (gQx D cA ad (NL ++ nw) kx (some (.int rr)) XX A) (gXx D cA ad NL kx XX A) args s 130 877 A) (F0 m 0 ls []) := by
  have C := CX.1
  have hx := C.1
  have hb := C.2.1
  intro X H locs ls hP hS hl hf
  rw [X9_leaf] at hf
  refine lv_aload_n hx hb dX9_leaf_0 rfl (lv_at hl 0 rfl) ?_
  refine lv_iload_n hx hb dX9_leaf_1 rfl (lv_at hl 1 rfl) ?_
  obtain ⟨r1, X2, h3, hf⟩ := b2_in hf
  refine r_cVq (rest := []) C hP hS hl.1 (s_X9_quireOf hW hD0 ha_l0 h3) ix_X9_quireOf iv_X9_quireOf lk_X9_81 ⟨rfl, rfl, Nat.le_of_ble_eq_true rfl, Nat.le_of_ble_eq_true rfl⟩ ha_l0 (ct_0 _ _ _ _) rfl rfl rfl rfl (Nat.le_of_ble_eq_true rfl) ⟨Nat.zero_le _, Nat.zero_le _⟩ dX9_leaf_2 (fun H locs hP hS => ?_)
  refine r_astore (i := 6) (lv' := [(6, va_rf (ro ad 12 r1)), (0, .ref (ad 0 0)), (1, .int p1), (2, .int p2), (3, .int p3), (4, .int p4), (5, .int p5)]) C dX9_leaf_5 hl (Nat.le_of_ble_eq_true rfl) rfl (fun ls hl => ?_)
  refine r_aload C dX9_leaf_7 (lv_at hl 0 rfl) ?_
  refine r_ifnonnull (tgt := 20) C dX9_leaf_9 (by decide) (fun c4 => ?_) (fun c4 => ?_)
  · have hf := g_ip c4 hf
    obtain ⟨rfl, rfl, rfl⟩ := g_s3 hf
    exact r_throwA CX hP hS hl.1 th_X9_85_87 dX9_leaf_12 dX9_leaf_15 dX9_leaf_16 dX9_leaf_19 ⟨Nat.le_of_ble_eq_true rfl, Nat.le_of_ble_eq_true rfl, Nat.le_of_ble_eq_true rfl, Nat.le_of_ble_eq_true rfl⟩ ⟨Nat.le_of_ble_eq_true rfl, Nat.le_of_ble_eq_true rfl⟩
  · have hf := g_in c4 hf
    refine lv_iload_n hx hb dX9_leaf_20 rfl (lv_at hl 3 rfl) ?_
    refine lv_iconst (v := 1) hx hb dX9_leaf_21 (by decide) ?_
    refine lv_iconst (v := 4) hx hb dX9_leaf_22 (by decide) ?_
    obtain ⟨r5, X6, h7, hf⟩ := b2_in hf
    refine r_cSi (rest := []) C hP hS hl.1 (s_X9_isWithin hW hD0  h7) ix_X9_isWithin is_X9_isWithin ls_X9_88 ⟨rfl, rfl, Nat.le_of_ble_eq_true rfl, Nat.le_of_ble_eq_true rfl⟩ rfl rfl (Nat.le_of_ble_eq_true rfl) ⟨Nat.zero_le _, Nat.zero_le _⟩ dX9_leaf_23 (fun H locs hP hS => ?_)
    refine lv_if_eq (tgt := 39) hx hb dX9_leaf_26 (by decide) (fun c8 => ?_) (fun c8 => ?_)
    · have hf := g_ip c8 hf
      exact s_X9_leaf_J39 CX hW hD0 hal hadr hAW X6 _ _ _ hP hS (lv_sub hl [] rfl) hf
    · have hf := g_in c8 hf
      refine lv_iload_n hx hb dX9_leaf_29 rfl (lv_at hl 4 rfl) ?_
      refine lv_iconst (v := 1) hx hb dX9_leaf_30 (by decide) ?_
      refine lv_bipush (v := 8) hx hb dX9_leaf_31 (by decide) ?_
      obtain ⟨r9, X10, h11, hf⟩ := b2_in hf
      refine r_cSi (rest := []) C hP hS hl.1 (s_X9_isWithin hW hD0  h11) ix_X9_isWithin is_X9_isWithin ls_X9_88 ⟨rfl, rfl, Nat.le_of_ble_eq_true rfl, Nat.le_of_ble_eq_true rfl⟩ rfl rfl (Nat.le_of_ble_eq_true rfl) ⟨Nat.zero_le _, Nat.zero_le _⟩ dX9_leaf_33 (fun H locs hP hS => ?_)
      refine lv_if_ne (tgt := 47) hx hb dX9_leaf_36 (by decide) (fun c12 => ?_) (fun c12 => ?_)
      · have hf := g_in c12 hf
        refine lv_iload hx hb dX9_leaf_47 (lv_at hl 5 rfl) ?_
        refine lv_if_eq (tgt := 72) hx hb dX9_leaf_49 (by decide) (fun c13 => ?_) (fun c13 => ?_)
        · have hf := g_ip c13 hf
          exact s_X9_leaf_J72 CX hW hD0 hal hadr hAW p2 p3 p4 p5 r1 X10 _ _ _ hP hS (lv_sub hl [1, 3, 4, 5, 6, 0] rfl) ha_l0 hf
        · have hf := g_in c13 hf
          refine lv_iload hx hb dX9_leaf_52 (lv_at hl 5 rfl) ?_
          refine lv_iconst (v := 1) hx hb dX9_leaf_54 (by decide) ?_
          refine lv_icmp_eq (tgt := 72) hx hb dX9_leaf_55 (by decide) (fun c14 => ?_) (fun c14 => ?_)
          · have hf := g_ip c14 hf
            exact s_X9_leaf_J72 CX hW hD0 hal hadr hAW p2 p3 p4 p5 r1 X10 _ _ _ hP hS (lv_sub hl [1, 3, 4, 5, 6, 0] rfl) ha_l0 hf
          · have hf := g_in c14 hf
            refine lv_iload hx hb dX9_leaf_58 (lv_at hl 5 rfl) ?_
            refine lv_iconst (v := -1) hx hb dX9_leaf_60 (by decide) ?_
            refine lv_icmp_eq (tgt := 72) hx hb dX9_leaf_61 (by decide) (fun c15 => ?_) (fun c15 => ?_)
            · have hf := g_ip c15 hf
              exact s_X9_leaf_J72 CX hW hD0 hal hadr hAW p2 p3 p4 p5 r1 X10 _ _ _ hP hS (lv_sub hl [1, 3, 4, 5, 6, 0] rfl) ha_l0 hf
            · have hf := g_in c15 hf
              obtain ⟨rfl, rfl, rfl⟩ := g_s3 hf
              exact r_throwA CX hP hS hl.1 th_X9_92_94 dX9_leaf_64 dX9_leaf_67 dX9_leaf_68 dX9_leaf_71 ⟨Nat.le_of_ble_eq_true rfl, Nat.le_of_ble_eq_true rfl, Nat.le_of_ble_eq_true rfl, Nat.le_of_ble_eq_true rfl⟩ ⟨Nat.le_of_ble_eq_true rfl, Nat.le_of_ble_eq_true rfl⟩
      · have hf := g_ip c12 hf
        exact s_X9_leaf_J39 CX hW hD0 hal hadr hAW X10 _ _ _ hP hS (lv_sub hl [] rfl) hf

theorem s_X9_leaf {l : Launch} {D : va_G} {cA : Nat → ClassId} {ad : Nat → Nat → Nat} {NL nw : List (Nat × Nat)} {N sz : Nat} {p1 : Int32} {p2 : Int32} {p3 : Int32} {p4 : Int32} {p5 : Int32} {X : gM} {kx : Nat} {rr : Int32} {XX : gM} (htr : l.stackTraces = false) (hW : gWf NL) (hD0 : gD (fun _ => True) ad NL) (hal : gAl ad) (hadr : gAdr ad sz nw) (ha_l0 : (0, 0) ∈ NL) (hf : X9_leaf (gal NL) N nw p1 p2 p3 p4 p5 X = some (kx, rr, XX)) : gCXA l yX9_leaf cX9_leaf 8 (some .int) rm_X9_leaf 130 877 D cA ad NL [.ref (ad 0 0), .int p1, .int p2, .int p3, .int p4, .int p5] X kx (some (.int rr)) nw XX sz :=
  g_ofXA (by decide) htr hD0 (Nat.le_of_ble_eq_true rfl) rfl (fun p e s m below meth c ls hsz hAW CX hP hS hl => w_X9_leaf CX hW hD0 hal (by rw [hsz]; exact hadr) hAW ha_l0 X _ _ ls hP hS hl hf)
