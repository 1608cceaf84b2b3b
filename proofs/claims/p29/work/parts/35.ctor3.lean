/-! constructors without loops -/
def nw_X9_init : List (Nat × Nat) := [(1, 0)] ++ (nw_X3_init) ++ [(4, 0)] ++ [(11, 0)] ++ [(12, 0)] ++ (nw_X5_init (0)) ++ [(12, 1)] ++ (nw_X5_init (1)) ++ [(22, 0)] ++ [(24, 0)] ++ [(25, 0)] ++ [(28, 0)] ++ [(29, 0)] ++ (nw_X6_init) ++ [(40, 0)] ++ (nw_X4_init) ++ [(42, 0)]
theorem nwl_X9_init : (nw_X9_init).length = 83 := by simp [nw_X9_init, nwl_X0_init, nwl_X1_init, nwl_X3_init, nwl_X4_init, nwl_X7_init, nwl_X5_init, nwl_X6_init, nwl_mna]
def X9_init (al : Nat → Nat → Bool) (N : Nat) (X : gM) : Option (Int32 × gM) := gl (msl X 83 0 rz_83) fun X1 => bind2 (X3_init al N X1) fun r4 X5 => (rk_1 0 (X5 83 0)).bind fun _ => gl (msl X5 1 0 (X5 83 0)) fun X7 => (rn 0).bind fun w14 => gl (mset X7 82 0 0 w14) fun X12 => gl (msl X12 4 0 (fun _ => -1)) fun X16 => (rn 0).bind fun w20 => gl (mset X16 82 0 1 w20) fun X18 => gl (mset X18 82 0 2 (0 : Int32)) fun X22 => gl (msl X22 11 0 (fun _ => -1)) fun X24 => gl (msl X24 86 0 rz_86) fun X26 => bind2 (X5_init al N (0) X26) fun r29 X30 => (rk_12 (0) (X30 86 (0))).bind fun _ => gl (msl X30 12 0 (X30 86 (0))) fun X32 => (rn 0).bind fun w41 => (rd (0 : Int32) 2).bind fun j37 => gl (mset X32 11 0 j37 w41) fun X39 => gl (msl X39 86 1 rz_86) fun X43 => bind2 (X5_init al N (1) X43) fun r46 X47 => (rk_12 (1) (X47 86 (1))).bind fun _ => gl (msl X47 12 (1) (X47 86 (1))) fun X49 => (rn 1).bind fun w58 => (rd (1 : Int32) 2).bind fun j54 => gl (mset X49 11 0 j54 w58) fun X56 => (rn 0).bind fun w62 => gl (mset X56 82 0 3 w62) fun X60 => gl (msl X60 22 0 (fun _ => -1)) fun X64 => (rn 0).bind fun w68 => gl (mset X64 82 0 4 w68) fun X66 => gl (mset X66 82 0 5 (0 : Int32)) fun X70 => gl (msl X70 24 0 (fun _ => 0)) fun X72 => (rn 0).bind fun w76 => gl (mset X72 82 0 6 w76) fun X74 => gl (mset X74 82 0 7 (0 : Int32)) fun X78 => gl (msl X78 25 0 (fun _ => -1)) fun X80 => (rn 0).bind fun w84 => gl (mset X80 82 0 8 w84) fun X82 => gl (mset X82 82 0 9 (0 : Int32)) fun X86 => gl (msl X86 28 0 (fun _ => -1)) fun X88 => (rn 0).bind fun w92 => gl (mset X88 82 0 10 w92) fun X90 => gl (mset X90 82 0 11 (0 : Int32)) fun X94 => gl (msl X94 90 0 rz_90) fun X96 => bind2 (X6_init al N X96) fun r99 X100 => (rk_29 0 (X100 90 0)).bind fun _ => gl (msl X100 29 0 (X100 90 0)) fun X102 => (rn 0).bind fun w109 => gl (mset X102 82 0 12 w109) fun X107 => gl (msl X107 91 0 rz_91) fun X111 => bind2 (X4_init al N X111) fun r114 X115 => (rk_40 0 (X115 91 0)).bind fun _ => gl (msl X115 40 0 (X115 91 0)) fun X117 => (rn 0).bind fun w124 => gl (mset X117 82 0 13 w124) fun X122 => gl (msl X122 42 0 (fun _ => 0)) fun X126 => (rn 0).bind fun w130 => gl (mset X126 82 0 14 w130) fun X128 => some ((0 : Int32), X128)
def rm_X9_init : Room := { frames := 3, cells := 83, slots := 2250, locals := 62 }
set_option maxRecDepth 100000 in
set_option maxHeartbeats 4000000 in
theorem s_X9_init {l : Launch} {D : va_G} {cA : Nat → ClassId} {ad : Nat → Nat → Nat} {NL : List (Nat × Nat)} {al : Nat → Nat → Bool} {N sz : Nat} {X : gM} {rr : Int32} {XX : gM} (hD0 : gD (fun _ => True) ad NL) (hal : gAl ad) (ha : (82, 0) ∈ NL) (hA : gAdr ad sz (nw_X9_init)) (hf : X9_init al N  X = some (rr, XX)) : gCa l yX9_init cX9_init 1 none rm_X9_init 83 2250 D cA ad NL [.ref (ad 82 0)] X none (NL ++ (nw_X9_init)) XX sz := by
  refine g_ofA (by decide) hD0 (Nat.le_of_ble_eq_true rfl) rfl (fun p e s m below meth c ls hsz hin hAW C hP hS hl => ?_)
  have hx := C.1
  have hb := C.2.1
  have hA2 := hA
  simp only [nw_X9_init, gAdr_app, gAdr, List.length_append, List.length_cons, List.length_nil, nwl_X0_init, nwl_X1_init, nwl_X3_init, nwl_X4_init, nwl_X7_init, nwl_X5_init, nwl_X6_init, nwl_mna, Nat.add_assoc, Nat.reduceAdd, and_true, true_and] at hA2
  rw [X9_init] at hf
  refine lv_aload_n hx hb dX9_init_0 rfl (lv_at hl 0 rfl) ?_
  refine W.objInit hx hb C.2.2.2.1 (C.2.2.2.2.1 _ ob_X9_3) (C.2.2.2.2.1 _ ob_i.1) (C.2.2.2.2.1 _ ob_i.2) rfl (by rw [C.2.2.1]; exact hl.1) rfl dX9_init_1 (Nat.le_of_ble_eq_true rfl) (Nat.le_of_ble_eq_true rfl) ?_
  refine W.eq (g2 := F0 m 4 ls []) rfl ?_
  refine lv_aload_n hx hb dX9_init_4 rfl (lv_at hl 0 rfl) ?_
  have h3 := al_1 hal (0)
  refine r_new (K := 83) (i := 0) (x := rz_83) C hP hS nx_X9_9 (rzc_83 _ _ _) (by simp only [hsz, hA2, h3, Nat.add_assoc, Nat.reduceAdd, Nat.add_zero, Nat.zero_add]) (by have := hS.1; omega) (by decide) dX9_init_5 (fun C H hP hS => ?_)
  obtain ⟨X1, e2, hf⟩ := gl_in hf
  rw [← e2] at hP
  refine lv_dup hx hb dX9_init_8 rfl ?_
  obtain ⟨r4, X5, h6, hf⟩ := b2_in hf
  have h10 : gAdr ad (s.heap.size + (1)) (nw_X3_init) := by
    rw [hsz]
    simp only [hA2, Nat.reduceAdd]
  refine r_ini (rest := [.ref (ad 83 0), .ref (ad 82 0)]) (new := (nw_X3_init)) (mc := 2) (ms := 6) C hAW hP hS hl.1 (s_X3_init (gD_in C.2.2.2.2.2.2.2.2.2.1 (fun _ _ => trivial)) hal (by simp) h10 h6) (gAdr_at h10) (g_lo hP (K := 83) (i := 0) (by simp) (by simp only [hsz, hA2, h3, Nat.add_assoc, Nat.reduceAdd, Nat.add_zero, Nat.zero_add])) ix_X3_init im_X3_init rfl lk_X9_11 ⟨rfl, rfl, Nat.le_of_ble_eq_true rfl, Nat.le_of_ble_eq_true rfl⟩ rfl rfl (Nat.le_of_ble_eq_true rfl) ⟨Nat.le_of_ble_eq_true rfl, Nat.le_of_ble_eq_true rfl⟩ dX9_init_9 (fun C H locs hP hS => ?_)
  obtain ⟨h9, hf⟩ := rkl_1 (cA := cA) (ad := ad) hf
  obtain ⟨X7, e8, hf⟩ := gl_in hf
  have hP := gH_rek (K := 1) C.2.2.2.2.2.2.2.2.2.1 hP (by decide) (al_1 hal _) h9
  rw [← e8] at hP
  have C := gCx_rek (K := 1) C (al_1 hal _)
  rw [al_1 hal]
  have h11 : ad 3 (0) = s.heap.size + (1) + 1 := gAdr_at h10 1 (3, 0) rfl
  obtain ⟨w14, h15, hf⟩ := rn_in hf
  refine r_putF C hin hP hS w14 (by simp [ha]) (ct_82 _ _ _ _) pf_X9_12 (by rw [fp_82_0, gwref h15]) (Nat.le_of_ble_eq_true rfl) rfl rfl dX9_init_12 (fun H locs hP hS => ?_)
  obtain ⟨X12, e13, hf⟩ := gl_in hf
  rw [← e13] at hP
  refine lv_aload_n hx hb dX9_init_15 rfl (lv_at hl 0 rfl) ?_
  refine lv_bipush (v := 10) hx hb dX9_init_16 (by decide) ?_
  refine r_newq (K := 4) (i := 0) (t := 4) (N := 10) (x := fun _ => -1) C hP hS cl_X9_16 hAW.1 rfl rfl (by simp only [hsz, hA2, h3, h11, Nat.add_assoc, Nat.reduceAdd, Nat.add_zero, Nat.zero_add]) (g_lo hP (K := 3) (i := 0) (by simp [nw_X3_init, nw_X7_init]) (by simp only [hsz, hA2, h3, h11, Nat.add_assoc, Nat.reduceAdd, Nat.add_zero, Nat.zero_add])) (by decide) (by decide) (by decide) (by decide) dX9_init_18 (fun C H hP hS => ?_)
  obtain ⟨X16, e17, hf⟩ := gl_in hf
  rw [← e17] at hP
  obtain ⟨w20, h21, hf⟩ := rn_in hf
  refine r_putF C hin hP hS w20 (by simp [ha]) (ct_82 _ _ _ _) pf_X9_18 (by rw [fp_82_1, gwref h21]) (Nat.le_of_ble_eq_true rfl) rfl rfl dX9_init_21 (fun H locs hP hS => ?_)
  obtain ⟨X18, e19, hf⟩ := gl_in hf
  rw [← e19] at hP
  refine lv_aload_n hx hb dX9_init_24 rfl (lv_at hl 0 rfl) ?_
  refine lv_iconst (v := 0) hx hb dX9_init_25 (by decide) ?_
  refine r_put C hP hS (0 : Int32) (by simp [ha]) (ct_82 _ _ _ _) px_X9_22 (fp_82_2 _ _ _ _ _) (Nat.le_of_ble_eq_true rfl) rfl rfl dX9_init_26 (fun H locs hP hS => ?_)
  obtain ⟨X22, e23, hf⟩ := gl_in hf
  rw [← e23] at hP
  refine lv_aload_n hx hb dX9_init_29 rfl (lv_at hl 0 rfl) ?_
  refine lv_iconst (v := 2) hx hb dX9_init_30 (by decide) ?_
  refine r_newq (K := 11) (i := 0) (t := 5) (N := 2) (x := fun _ => -1) C hP hS cl_X9_26 hAW.2.1 rfl rfl (by simp only [hsz, hA2, h3, h11, Nat.add_assoc, Nat.reduceAdd, Nat.add_zero, Nat.zero_add]) (g_lo hP (K := 4) (i := 0) (by simp) (by simp only [hsz, hA2, h3, h11, Nat.add_assoc, Nat.reduceAdd, Nat.add_zero, Nat.zero_add])) (by decide) (by decide) (by decide) (by decide) dX9_init_31 (fun C H hP hS => ?_)
  obtain ⟨X24, e25, hf⟩ := gl_in hf
  rw [← e25] at hP
  refine lv_dup hx hb dX9_init_34 rfl ?_
  refine lv_iconst (v := 0) hx hb dX9_init_35 (by decide) ?_
  have h28 := al_12 hal (0)
  refine r_new (K := 86) (i := 0) (x := rz_86) C hP hS nx_X9_26 (rzc_86 _ _ _) (by simp only [hsz, hA2, h3, h11, h28, Nat.add_assoc, Nat.reduceAdd, Nat.add_zero, Nat.zero_add]) (g_lo hP (K := 11) (i := 0) (by simp) (by simp only [hsz, hA2, h3, h11, h28, Nat.add_assoc, Nat.reduceAdd, Nat.add_zero, Nat.zero_add])) (by decide) dX9_init_36 (fun C H hP hS => ?_)
  obtain ⟨X26, e27, hf⟩ := gl_in hf
  rw [← e27] at hP
  refine lv_dup hx hb dX9_init_39 rfl ?_
  obtain ⟨r29, X30, h31, hf⟩ := b2_in hf
  have h35 : gAdr ad (s.heap.size + (6)) (nw_X5_init (0)) := by
    rw [hsz]
    simp only [hA2, Nat.reduceAdd]
  refine r_ini (rest := [.ref (ad 86 0), .int (0 : Int32), .ref (ad 11 0), .ref (ad 11 0), .ref (ad 82 0)]) (new := (nw_X5_init (0))) (mc := 25) (ms := 825) C hAW hP hS hl.1 (s_X5_init (gD_in C.2.2.2.2.2.2.2.2.2.1 (fun _ _ => trivial)) hal (by simp) h35 h31) (gAdr_at h35) (g_lo hP (K := 86) (i := 0) (by simp) (by simp only [hsz, hA2, h3, h11, h28, Nat.add_assoc, Nat.reduceAdd, Nat.add_zero, Nat.zero_add])) ix_X5_init im_X5_init rfl lk_X9_28 ⟨rfl, rfl, Nat.le_of_ble_eq_true rfl, Nat.le_of_ble_eq_true rfl⟩ rfl rfl (Nat.le_of_ble_eq_true rfl) ⟨Nat.le_of_ble_eq_true rfl, Nat.le_of_ble_eq_true rfl⟩ dX9_init_40 (fun C H locs hP hS => ?_)
  obtain ⟨h34, hf⟩ := rkl_12 (cA := cA) (ad := ad) hf
  obtain ⟨X32, e33, hf⟩ := gl_in hf
  have hP := gH_rek (K := 12) C.2.2.2.2.2.2.2.2.2.1 hP (by decide) (al_12 hal _) h34
  rw [← e33] at hP
  have C := gCx_rek (K := 12) C (al_12 hal _)
  rw [al_12 hal]
  have h36 : ad 21 ((3 * 0 + 2)) = s.heap.size + (6) + 24 := gAdr_at h35 24 (21, (3 * 0 + 2)) rfl
  obtain ⟨w41, h42, hf⟩ := rn_in hf
  obtain ⟨j37, h38, hf⟩ := rd_in hf
  refine r_astq C hP hS w41 h42.1 h42.2 (by simp) (fun _ => ct_11 _ _ _ _) rfl (by simp) (ct_12 _ _ _ _) rfl h38 dX9_init_43 (fun H locs hP hS => ?_)
  obtain ⟨X39, e40, hf⟩ := gl_in hf
  rw [← e40] at hP
  refine lv_dup hx hb dX9_init_44 rfl ?_
  refine lv_iconst (v := 1) hx hb dX9_init_45 (by decide) ?_
  have h45 := al_12 hal (1)
  refine r_new (K := 86) (i := 1) (x := rz_86) C hP hS nx_X9_26 (rzc_86 _ _ _) (by simp only [hsz, hA2, h3, h11, h28, h36, h45, Nat.add_assoc, Nat.reduceAdd, Nat.add_zero, Nat.zero_add]) (g_lo hP (K := 21) (i := (3 * 0 + 2)) (by simp [nw_X5_init, nw_X7_init]) (by simp only [hsz, hA2, h3, h11, h28, h36, h45, Nat.add_assoc, Nat.reduceAdd, Nat.add_zero, Nat.zero_add])) (by decide) dX9_init_46 (fun C H hP hS => ?_)
  obtain ⟨X43, e44, hf⟩ := gl_in hf
  rw [← e44] at hP
  refine lv_dup hx hb dX9_init_49 rfl ?_
  obtain ⟨r46, X47, h48, hf⟩ := b2_in hf
  have h52 : gAdr ad (s.heap.size + (32)) (nw_X5_init (1)) := by
    rw [hsz]
    simp only [hA2, Nat.reduceAdd]
  refine r_ini (rest := [.ref (ad 86 1), .int (1 : Int32), .ref (ad 11 0), .ref (ad 11 0), .ref (ad 82 0)]) (new := (nw_X5_init (1))) (mc := 25) (ms := 825) C hAW hP hS hl.1 (s_X5_init (gD_in C.2.2.2.2.2.2.2.2.2.1 (fun _ _ => trivial)) hal (by simp) h52 h48) (gAdr_at h52) (g_lo hP (K := 86) (i := 1) (by simp) (by simp only [hsz, hA2, h3, h11, h28, h36, h45, Nat.add_assoc, Nat.reduceAdd, Nat.add_zero, Nat.zero_add])) ix_X5_init im_X5_init rfl lk_X9_28 ⟨rfl, rfl, Nat.le_of_ble_eq_true rfl, Nat.le_of_ble_eq_true rfl⟩ rfl rfl (Nat.le_of_ble_eq_true rfl) ⟨Nat.le_of_ble_eq_true rfl, Nat.le_of_ble_eq_true rfl⟩ dX9_init_50 (fun C H locs hP hS => ?_)
  obtain ⟨h51, hf⟩ := rkl_12 (cA := cA) (ad := ad) hf
  obtain ⟨X49, e50, hf⟩ := gl_in hf
  have hP := gH_rek (K := 12) C.2.2.2.2.2.2.2.2.2.1 hP (by decide) (al_12 hal _) h51
  rw [← e50] at hP
  have C := gCx_rek (K := 12) C (al_12 hal _)
  rw [al_12 hal]
  have h53 : ad 21 ((3 * 1 + 2)) = s.heap.size + (32) + 24 := gAdr_at h52 24 (21, (3 * 1 + 2)) rfl
  obtain ⟨w58, h59, hf⟩ := rn_in hf
  obtain ⟨j54, h55, hf⟩ := rd_in hf
  refine r_astq C hP hS w58 h59.1 h59.2 (by simp) (fun _ => ct_11 _ _ _ _) rfl (by simp) (ct_12 _ _ _ _) rfl h55 dX9_init_53 (fun H locs hP hS => ?_)
  obtain ⟨X56, e57, hf⟩ := gl_in hf
  rw [← e57] at hP
  obtain ⟨w62, h63, hf⟩ := rn_in hf
  refine r_putF C hin hP hS w62 (by simp [ha]) (ct_82 _ _ _ _) pf_X9_29 (by rw [fp_82_3, gwref h63]) (Nat.le_of_ble_eq_true rfl) rfl rfl dX9_init_54 (fun H locs hP hS => ?_)
  obtain ⟨X60, e61, hf⟩ := gl_in hf
  rw [← e61] at hP
  refine lv_aload_n hx hb dX9_init_57 rfl (lv_at hl 0 rfl) ?_
  refine lv_bipush (v := 12) hx hb dX9_init_58 (by decide) ?_
  refine r_newq (K := 22) (i := 0) (t := 3) (N := 12) (x := fun _ => -1) C hP hS cl_X9_33 hAW.2.2.1 rfl rfl (by simp only [hsz, hA2, h3, h11, h28, h36, h45, h53, Nat.add_assoc, Nat.reduceAdd, Nat.add_zero, Nat.zero_add]) (g_lo hP (K := 21) (i := (3 * 1 + 2)) (by simp [nw_X5_init, nw_X7_init]) (by simp only [hsz, hA2, h3, h11, h28, h36, h45, h53, Nat.add_assoc, Nat.reduceAdd, Nat.add_zero, Nat.zero_add])) (by decide) (by decide) (by decide) (by decide) dX9_init_60 (fun C H hP hS => ?_)
  obtain ⟨X64, e65, hf⟩ := gl_in hf
  rw [← e65] at hP
  obtain ⟨w68, h69, hf⟩ := rn_in hf
  refine r_putF C hin hP hS w68 (by simp [ha]) (ct_82 _ _ _ _) pf_X9_35 (by rw [fp_82_4, gwref h69]) (Nat.le_of_ble_eq_true rfl) rfl rfl dX9_init_63 (fun H locs hP hS => ?_)
  obtain ⟨X66, e67, hf⟩ := gl_in hf
  rw [← e67] at hP
  refine lv_aload_n hx hb dX9_init_66 rfl (lv_at hl 0 rfl) ?_
  refine lv_iconst (v := 0) hx hb dX9_init_67 (by decide) ?_
  refine r_put C hP hS (0 : Int32) (by simp [ha]) (ct_82 _ _ _ _) px_X9_39 (fp_82_5 _ _ _ _ _) (Nat.le_of_ble_eq_true rfl) rfl rfl dX9_init_68 (fun H locs hP hS => ?_)
  obtain ⟨X70, e71, hf⟩ := gl_in hf
  rw [← e71] at hP
  refine lv_aload_n hx hb dX9_init_71 rfl (lv_at hl 0 rfl) ?_
  refine lv_bipush (v := 40) hx hb dX9_init_72 (by decide) ?_
  refine r_newa (K := 24) (i := 0) (t := 0) (N := 40) (x := fun _ => 0) C hP hS ac_int rfl rfl (fun h => h) rfl rfl (by simp only [hsz, hA2, h3, h11, h28, h36, h45, h53, Nat.add_assoc, Nat.reduceAdd, Nat.add_zero, Nat.zero_add]) (g_lo hP (K := 22) (i := 0) (by simp) (by simp only [hsz, hA2, h3, h11, h28, h36, h45, h53, Nat.add_assoc, Nat.reduceAdd, Nat.add_zero, Nat.zero_add])) (by decide) (by decide) (by decide) (by decide) dX9_init_74 (fun C H hP hS => ?_)
  obtain ⟨X72, e73, hf⟩ := gl_in hf
  rw [← e73] at hP
  obtain ⟨w76, h77, hf⟩ := rn_in hf
  refine r_putF C hin hP hS w76 (by simp [ha]) (ct_82 _ _ _ _) pf_X9_42 (by rw [fp_82_6, gwref h77]) (Nat.le_of_ble_eq_true rfl) rfl rfl dX9_init_76 (fun H locs hP hS => ?_)
  obtain ⟨X74, e75, hf⟩ := gl_in hf
  rw [← e75] at hP
  refine lv_aload_n hx hb dX9_init_79 rfl (lv_at hl 0 rfl) ?_
  refine lv_iconst (v := 0) hx hb dX9_init_80 (by decide) ?_
  refine r_put C hP hS (0 : Int32) (by simp [ha]) (ct_82 _ _ _ _) px_X9_46 (fp_82_7 _ _ _ _ _) (Nat.le_of_ble_eq_true rfl) rfl rfl dX9_init_81 (fun H locs hP hS => ?_)
  obtain ⟨X78, e79, hf⟩ := gl_in hf
  rw [← e79] at hP
  refine lv_aload_n hx hb dX9_init_84 rfl (lv_at hl 0 rfl) ?_
  refine lv_bipush (v := 12) hx hb dX9_init_85 (by decide) ?_
  refine r_newq (K := 25) (i := 0) (t := 6) (N := 12) (x := fun _ => -1) C hP hS cl_X9_49 hAW.2.2.2.1 rfl rfl (by simp only [hsz, hA2, h3, h11, h28, h36, h45, h53, Nat.add_assoc, Nat.reduceAdd, Nat.add_zero, Nat.zero_add]) (g_lo hP (K := 24) (i := 0) (by simp) (by simp only [hsz, hA2, h3, h11, h28, h36, h45, h53, Nat.add_assoc, Nat.reduceAdd, Nat.add_zero, Nat.zero_add])) (by decide) (by decide) (by decide) (by decide) dX9_init_87 (fun C H hP hS => ?_)
  obtain ⟨X80, e81, hf⟩ := gl_in hf
  rw [← e81] at hP
  obtain ⟨w84, h85, hf⟩ := rn_in hf
  refine r_putF C hin hP hS w84 (by simp [ha]) (ct_82 _ _ _ _) pf_X9_51 (by rw [fp_82_8, gwref h85]) (Nat.le_of_ble_eq_true rfl) rfl rfl dX9_init_90 (fun H locs hP hS => ?_)
  obtain ⟨X82, e83, hf⟩ := gl_in hf
  rw [← e83] at hP
  refine lv_aload_n hx hb dX9_init_93 rfl (lv_at hl 0 rfl) ?_
  refine lv_iconst (v := 0) hx hb dX9_init_94 (by decide) ?_
  refine r_put C hP hS (0 : Int32) (by simp [ha]) (ct_82 _ _ _ _) px_X9_55 (fp_82_9 _ _ _ _ _) (Nat.le_of_ble_eq_true rfl) rfl rfl dX9_init_95 (fun H locs hP hS => ?_)
  obtain ⟨X86, e87, hf⟩ := gl_in hf
  rw [← e87] at hP
  refine lv_aload_n hx hb dX9_init_98 rfl (lv_at hl 0 rfl) ?_
  refine lv_iconst (v := 4) hx hb dX9_init_99 (by decide) ?_
  refine r_newq (K := 28) (i := 0) (t := 6) (N := 4) (x := fun _ => -1) C hP hS cl_X9_49 hAW.2.2.2.1 rfl rfl (by simp only [hsz, hA2, h3, h11, h28, h36, h45, h53, Nat.add_assoc, Nat.reduceAdd, Nat.add_zero, Nat.zero_add]) (g_lo hP (K := 25) (i := 0) (by simp) (by simp only [hsz, hA2, h3, h11, h28, h36, h45, h53, Nat.add_assoc, Nat.reduceAdd, Nat.add_zero, Nat.zero_add])) (by decide) (by decide) (by decide) (by decide) dX9_init_100 (fun C H hP hS => ?_)
  obtain ⟨X88, e89, hf⟩ := gl_in hf
  rw [← e89] at hP
  obtain ⟨w92, h93, hf⟩ := rn_in hf
  refine r_putF C hin hP hS w92 (by simp [ha]) (ct_82 _ _ _ _) pf_X9_58 (by rw [fp_82_10, gwref h93]) (Nat.le_of_ble_eq_true rfl) rfl rfl dX9_init_103 (fun H locs hP hS => ?_)
  obtain ⟨X90, e91, hf⟩ := gl_in hf
  rw [← e91] at hP
  refine lv_aload_n hx hb dX9_init_106 rfl (lv_at hl 0 rfl) ?_
  refine lv_iconst (v := 0) hx hb dX9_init_107 (by decide) ?_
  refine r_put C hP hS (0 : Int32) (by simp [ha]) (ct_82 _ _ _ _) px_X9_61 (fp_82_11 _ _ _ _ _) (Nat.le_of_ble_eq_true rfl) rfl rfl dX9_init_108 (fun H locs hP hS => ?_)
  obtain ⟨X94, e95, hf⟩ := gl_in hf
  rw [← e95] at hP
  refine lv_aload_n hx hb dX9_init_111 rfl (lv_at hl 0 rfl) ?_
  have h98 := al_29 hal (0)
  refine r_new (K := 90) (i := 0) (x := rz_90) C hP hS nx_X9_64 (rzc_90 _ _ _) (by simp only [hsz, hA2, h3, h11, h28, h36, h45, h53, h98, Nat.add_assoc, Nat.reduceAdd, Nat.add_zero, Nat.zero_add]) (g_lo hP (K := 28) (i := 0) (by simp) (by simp only [hsz, hA2, h3, h11, h28, h36, h45, h53, h98, Nat.add_assoc, Nat.reduceAdd, Nat.add_zero, Nat.zero_add])) (by decide) dX9_init_112 (fun C H hP hS => ?_)
  obtain ⟨X96, e97, hf⟩ := gl_in hf
  rw [← e97] at hP
  refine lv_dup hx hb dX9_init_115 rfl ?_
  obtain ⟨r99, X100, h101, hf⟩ := b2_in hf
  have h105 : gAdr ad (s.heap.size + (62)) (nw_X6_init) := by
    rw [hsz]
    simp only [hA2, Nat.reduceAdd]
  refine r_ini (rest := [.ref (ad 90 0), .ref (ad 82 0)]) (new := (nw_X6_init)) (mc := 18) (ms := 436) C hAW hP hS hl.1 (s_X6_init (gD_in C.2.2.2.2.2.2.2.2.2.1 (fun _ _ => trivial)) hal (by simp) h105 h101) (gAdr_at h105) (g_lo hP (K := 90) (i := 0) (by simp) (by simp only [hsz, hA2, h3, h11, h28, h36, h45, h53, h98, Nat.add_assoc, Nat.reduceAdd, Nat.add_zero, Nat.zero_add])) ix_X6_init im_X6_init rfl lk_X9_66 ⟨rfl, rfl, Nat.le_of_ble_eq_true rfl, Nat.le_of_ble_eq_true rfl⟩ rfl rfl (Nat.le_of_ble_eq_true rfl) ⟨Nat.le_of_ble_eq_true rfl, Nat.le_of_ble_eq_true rfl⟩ dX9_init_116 (fun C H locs hP hS => ?_)
  obtain ⟨h104, hf⟩ := rkl_29 (cA := cA) (ad := ad) hf
  obtain ⟨X102, e103, hf⟩ := gl_in hf
  have hP := gH_rek (K := 29) C.2.2.2.2.2.2.2.2.2.1 hP (by decide) (al_29 hal _) h104
  rw [← e103] at hP
  have C := gCx_rek (K := 29) C (al_29 hal _)
  rw [al_29 hal]
  have h106 : ad 39 (0) = s.heap.size + (62) + 17 := gAdr_at h105 17 (39, 0) rfl
  obtain ⟨w109, h110, hf⟩ := rn_in hf
  refine r_putF C hin hP hS w109 (by simp [ha]) (ct_82 _ _ _ _) pf_X9_67 (by rw [fp_82_12, gwref h110]) (Nat.le_of_ble_eq_true rfl) rfl rfl dX9_init_119 (fun H locs hP hS => ?_)
  obtain ⟨X107, e108, hf⟩ := gl_in hf
  rw [← e108] at hP
  refine lv_aload_n hx hb dX9_init_122 rfl (lv_at hl 0 rfl) ?_
  have h113 := al_40 hal (0)
  refine r_new (K := 91) (i := 0) (x := rz_91) C hP hS nx_X9_71 (rzc_91 _ _ _) (by simp only [hsz, hA2, h3, h11, h28, h36, h45, h53, h98, h106, h113, Nat.add_assoc, Nat.reduceAdd, Nat.add_zero, Nat.zero_add]) (g_lo hP (K := 39) (i := 0) (by simp [nw_X6_init, nw_X7_init]) (by simp only [hsz, hA2, h3, h11, h28, h36, h45, h53, h98, h106, h113, Nat.add_assoc, Nat.reduceAdd, Nat.add_zero, Nat.zero_add])) (by decide) dX9_init_123 (fun C H hP hS => ?_)
  obtain ⟨X111, e112, hf⟩ := gl_in hf
  rw [← e112] at hP
  refine lv_dup hx hb dX9_init_126 rfl ?_
  obtain ⟨r114, X115, h116, hf⟩ := b2_in hf
  have h120 : gAdr ad (s.heap.size + (81)) (nw_X4_init) := by
    rw [hsz]
    simp only [hA2, Nat.reduceAdd]
  refine r_ini (rest := [.ref (ad 91 0), .ref (ad 82 0)]) (new := (nw_X4_init)) (mc := 1) (ms := 41) C hAW hP hS hl.1 (s_X4_init (gD_in C.2.2.2.2.2.2.2.2.2.1 (fun _ _ => trivial)) hal (by simp) h120 h116) (gAdr_at h120) (g_lo hP (K := 91) (i := 0) (by simp) (by simp only [hsz, hA2, h3, h11, h28, h36, h45, h53, h98, h106, h113, Nat.add_assoc, Nat.reduceAdd, Nat.add_zero, Nat.zero_add])) ix_X4_init im_X4_init rfl lk_X9_73 ⟨rfl, rfl, Nat.le_of_ble_eq_true rfl, Nat.le_of_ble_eq_true rfl⟩ rfl rfl (Nat.le_of_ble_eq_true rfl) ⟨Nat.le_of_ble_eq_true rfl, Nat.le_of_ble_eq_true rfl⟩ dX9_init_127 (fun C H locs hP hS => ?_)
  obtain ⟨h119, hf⟩ := rkl_40 (cA := cA) (ad := ad) hf
  obtain ⟨X117, e118, hf⟩ := gl_in hf
  have hP := gH_rek (K := 40) C.2.2.2.2.2.2.2.2.2.1 hP (by decide) (al_40 hal _) h119
  rw [← e118] at hP
  have C := gCx_rek (K := 40) C (al_40 hal _)
  rw [al_40 hal]
  have h121 : ad 41 (0) = s.heap.size + (81) + 0 := gAdr_at h120 0 (41, 0) rfl
  obtain ⟨w124, h125, hf⟩ := rn_in hf
  refine r_putF C hin hP hS w124 (by simp [ha]) (ct_82 _ _ _ _) pf_X9_74 (by rw [fp_82_13, gwref h125]) (Nat.le_of_ble_eq_true rfl) rfl rfl dX9_init_130 (fun H locs hP hS => ?_)
  obtain ⟨X122, e123, hf⟩ := gl_in hf
  rw [← e123] at hP
  refine lv_aload_n hx hb dX9_init_133 rfl (lv_at hl 0 rfl) ?_
  refine lv_bipush (v := 10) hx hb dX9_init_134 (by decide) ?_
  refine r_newa (K := 42) (i := 0) (t := 0) (N := 10) (x := fun _ => 0) C hP hS ac_int rfl rfl (fun h => h) rfl rfl (by simp only [hsz, hA2, h3, h11, h28, h36, h45, h53, h98, h106, h113, h121, Nat.add_assoc, Nat.reduceAdd, Nat.add_zero, Nat.zero_add]) (g_lo hP (K := 41) (i := 0) (by simp [nw_X4_init, nw_X7_init]) (by simp only [hsz, hA2, h3, h11, h28, h36, h45, h53, h98, h106, h113, h121, Nat.add_assoc, Nat.reduceAdd, Nat.add_zero, Nat.zero_add])) (by decide) (by decide) (by decide) (by decide) dX9_init_136 (fun C H hP hS => ?_)
  obtain ⟨X126, e127, hf⟩ := gl_in hf
  rw [← e127] at hP
  obtain ⟨w130, h131, hf⟩ := rn_in hf
  refine r_putF C hin hP hS w130 (by simp [ha]) (ct_82 _ _ _ _) pf_X9_78 (by rw [fp_82_14, gwref h131]) (Nat.le_of_ble_eq_true rfl) rfl rfl dX9_init_138 (fun H locs hP hS => ?_)
  obtain ⟨X128, e129, hf⟩ := gl_in hf
  rw [← e129] at hP
  rw [show NL ++ nw_X9_init = (((((((((((((((((NL ++ [(1, 0)]) ++ (nw_X3_init)) ++ [(4, 0)]) ++ [(11, 0)]) ++ [(12, 0)]) ++ (nw_X5_init (0))) ++ [(12, 1)]) ++ (nw_X5_init (1))) ++ [(22, 0)]) ++ [(24, 0)]) ++ [(25, 0)]) ++ [(28, 0)]) ++ [(29, 0)]) ++ (nw_X6_init)) ++ [(40, 0)]) ++ (nw_X4_init)) ++ [(42, 0)]) from by simp [nw_X9_init]]
  obtain ⟨rfl, rfl⟩ := g_s1 hf
  exact r_vret C hP hS dX9_init_141

