/-! constructors without loops -/
def nw_X6_init : List (Nat × Nat) := [(30, 0)] ++ [(31, 0)] ++ [(32, 0)] ++ [(33, 0)] ++ [(34, 0)] ++ [(35, 0)] ++ [(36, 0)] ++ nw_mna ++ [(39, 0)]
theorem nwl_X6_init : (nw_X6_init).length = 18 := by simp [nw_X6_init, nwl_X0_init, nwl_X1_init, nwl_X3_init, nwl_X4_init, nwl_X7_init, nwl_X5_init, nwl_mna]
def X6_init (al : Nat → Nat → Bool) (N : Nat) (X : gM) : Option (Int32 × gM) := gl (mset X 90 0 0 (0 : Int32)) fun X1 => gl (msl X1 30 0 (fun _ => 0)) fun X3 => (rn 0).bind fun w7 => gl (mset X3 90 0 1 w7) fun X5 => gl (msl X5 31 0 (fun _ => 0)) fun X9 => (rn 0).bind fun w13 => gl (mset X9 90 0 2 w13) fun X11 => gl (msl X11 32 0 (fun _ => 0)) fun X15 => (rn 0).bind fun w19 => gl (mset X15 90 0 3 w19) fun X17 => gl (msl X17 33 0 (fun _ => 0)) fun X21 => (rn 0).bind fun w25 => gl (mset X21 90 0 4 w25) fun X23 => gl (msl X23 34 0 (fun _ => 0)) fun X27 => (rn 0).bind fun w31 => gl (mset X27 90 0 5 w31) fun X29 => gl (msl X29 35 0 (fun _ => 0)) fun X33 => (rn 0).bind fun w37 => gl (mset X33 90 0 6 w37) fun X35 => gl (msl X35 36 0 (fun _ => 0)) fun X39 => (rn 0).bind fun w43 => gl (mset X39 90 0 7 w43) fun X41 => gl (mrows X41) fun X45 => (rn 0).bind fun w51 => gl (mset X45 90 0 8 w51) fun X49 => gl (msl X49 39 0 (fun _ => 0)) fun X53 => (rn 0).bind fun w57 => gl (mset X53 90 0 9 w57) fun X55 => some ((0 : Int32), X55)
def rm_X6_init : Room := { frames := 1, cells := 18, slots := 436, locals := 20 }
set_option maxRecDepth 100000 in
set_option maxHeartbeats 4000000 in
theorem s_X6_init {l : Launch} {D : va_G} {cA : Nat → ClassId} {ad : Nat → Nat → Nat} {NL : List (Nat × Nat)} {al : Nat → Nat → Bool} {N sz : Nat} {X : gM} {rr : Int32} {XX : gM} (hD0 : gD (fun _ => True) ad NL) (hal : gAl ad) (ha : (90, 0) ∈ NL) (hA : gAdr ad sz (nw_X6_init)) (hf : X6_init al N  X = some (rr, XX)) : gCa l yX6_init cX6_init 1 none rm_X6_init 18 436 D cA ad NL [.ref (ad 90 0)] X none (NL ++ (nw_X6_init)) XX sz := by
  refine g_ofA (by decide) hD0 (Nat.le_of_ble_eq_true rfl) rfl (fun p e s m below meth c ls hsz hin hAW C hP hS hl => ?_)
  have hx := C.1
  have hb := C.2.1
  have hA2 := hA
  simp only [nw_X6_init, gAdr_app, gAdr, List.length_append, List.length_cons, List.length_nil, nwl_X0_init, nwl_X1_init, nwl_X3_init, nwl_X4_init, nwl_X7_init, nwl_X5_init, nwl_mna, nw_mna, Nat.add_assoc, Nat.reduceAdd, and_true, true_and] at hA2
  rw [X6_init] at hf
  refine lv_aload_n hx hb dX6_init_0 rfl (lv_at hl 0 rfl) ?_
  refine W.objInit hx hb C.2.2.2.1 (C.2.2.2.2.1 _ ob_X6_3) (C.2.2.2.2.1 _ ob_i.1) (C.2.2.2.2.1 _ ob_i.2) rfl (by rw [C.2.2.1]; exact hl.1) rfl dX6_init_1 (Nat.le_of_ble_eq_true rfl) (Nat.le_of_ble_eq_true rfl) ?_
  refine W.eq (g2 := F0 m 4 ls []) rfl ?_
  refine lv_aload_n hx hb dX6_init_4 rfl (lv_at hl 0 rfl) ?_
  refine lv_iconst (v := 0) hx hb dX6_init_5 (by decide) ?_
  refine r_put C hP hS (0 : Int32) ha (ct_90 _ _ _ _) px_X6_9 (fp_90_0 _ _ _ _ _) (Nat.le_of_ble_eq_true rfl) rfl rfl dX6_init_6 (fun H locs hP hS => ?_)
  obtain ⟨X1, e2, hf⟩ := gl_in hf
  rw [← e2] at hP
  refine lv_aload_n hx hb dX6_init_9 rfl (lv_at hl 0 rfl) ?_
  refine lv_bipush (v := 8) hx hb dX6_init_10 (by decide) ?_
  refine r_newa (K := 30) (i := 0) (t := 1) (N := 8) (x := fun _ => 0) C hP hS ac_bool rfl rfl (fun h => h) rfl rfl (by simp only [hsz, hA2, Nat.add_assoc, Nat.reduceAdd, Nat.add_zero, Nat.zero_add]) (by have := hS.1; omega) (by decide) (by decide) (by decide) (by decide) dX6_init_12 (fun C H hP hS => ?_)
  obtain ⟨X3, e4, hf⟩ := gl_in hf
  rw [← e4] at hP
  obtain ⟨w7, h8, hf⟩ := rn_in hf
  refine r_putF C hin hP hS w7 (by simp [ha]) (ct_90 _ _ _ _) pf_X6_15 (by rw [fp_90_1, gwref h8]) (Nat.le_of_ble_eq_true rfl) rfl rfl dX6_init_14 (fun H locs hP hS => ?_)
  obtain ⟨X5, e6, hf⟩ := gl_in hf
  rw [← e6] at hP
  refine lv_aload_n hx hb dX6_init_17 rfl (lv_at hl 0 rfl) ?_
  refine lv_bipush (v := 8) hx hb dX6_init_18 (by decide) ?_
  refine r_newa (K := 31) (i := 0) (t := 0) (N := 8) (x := fun _ => 0) C hP hS ac_int rfl rfl (fun h => h) rfl rfl (by simp only [hsz, hA2, Nat.add_assoc, Nat.reduceAdd, Nat.add_zero, Nat.zero_add]) (g_lo hP (K := 30) (i := 0) (by simp) (by simp only [hsz, hA2, Nat.add_assoc, Nat.reduceAdd, Nat.add_zero, Nat.zero_add])) (by decide) (by decide) (by decide) (by decide) dX6_init_20 (fun C H hP hS => ?_)
  obtain ⟨X9, e10, hf⟩ := gl_in hf
  rw [← e10] at hP
  obtain ⟨w13, h14, hf⟩ := rn_in hf
  refine r_putF C hin hP hS w13 (by simp [ha]) (ct_90 _ _ _ _) pf_X6_19 (by rw [fp_90_2, gwref h14]) (Nat.le_of_ble_eq_true rfl) rfl rfl dX6_init_22 (fun H locs hP hS => ?_)
  obtain ⟨X11, e12, hf⟩ := gl_in hf
  rw [← e12] at hP
  refine lv_aload_n hx hb dX6_init_25 rfl (lv_at hl 0 rfl) ?_
  refine lv_sipush (v := 208) hx hb dX6_init_26 (by decide) ?_
  refine r_newa (K := 32) (i := 0) (t := 0) (N := 208) (x := fun _ => 0) C hP hS ac_int rfl rfl (fun h => h) rfl rfl (by simp only [hsz, hA2, Nat.add_assoc, Nat.reduceAdd, Nat.add_zero, Nat.zero_add]) (g_lo hP (K := 31) (i := 0) (by simp) (by simp only [hsz, hA2, Nat.add_assoc, Nat.reduceAdd, Nat.add_zero, Nat.zero_add])) (by decide) (by decide) (by decide) (by decide) dX6_init_29 (fun C H hP hS => ?_)
  obtain ⟨X15, e16, hf⟩ := gl_in hf
  rw [← e16] at hP
  obtain ⟨w19, h20, hf⟩ := rn_in hf
  refine r_putF C hin hP hS w19 (by simp [ha]) (ct_90 _ _ _ _) pf_X6_23 (by rw [fp_90_3, gwref h20]) (Nat.le_of_ble_eq_true rfl) rfl rfl dX6_init_31 (fun H locs hP hS => ?_)
  obtain ⟨X17, e18, hf⟩ := gl_in hf
  rw [← e18] at hP
  refine lv_aload_n hx hb dX6_init_34 rfl (lv_at hl 0 rfl) ?_
  refine lv_bipush (v := 96) hx hb dX6_init_35 (by decide) ?_
  refine r_newa (K := 33) (i := 0) (t := 0) (N := 96) (x := fun _ => 0) C hP hS ac_int rfl rfl (fun h => h) rfl rfl (by simp only [hsz, hA2, Nat.add_assoc, Nat.reduceAdd, Nat.add_zero, Nat.zero_add]) (g_lo hP (K := 32) (i := 0) (by simp) (by simp only [hsz, hA2, Nat.add_assoc, Nat.reduceAdd, Nat.add_zero, Nat.zero_add])) (by decide) (by decide) (by decide) (by decide) dX6_init_37 (fun C H hP hS => ?_)
  obtain ⟨X21, e22, hf⟩ := gl_in hf
  rw [← e22] at hP
  obtain ⟨w25, h26, hf⟩ := rn_in hf
  refine r_putF C hin hP hS w25 (by simp [ha]) (ct_90 _ _ _ _) pf_X6_26 (by rw [fp_90_4, gwref h26]) (Nat.le_of_ble_eq_true rfl) rfl rfl dX6_init_39 (fun H locs hP hS => ?_)
  obtain ⟨X23, e24, hf⟩ := gl_in hf
  rw [← e24] at hP
  refine lv_aload_n hx hb dX6_init_42 rfl (lv_at hl 0 rfl) ?_
  refine lv_bipush (v := 9) hx hb dX6_init_43 (by decide) ?_
  refine r_newa (K := 34) (i := 0) (t := 0) (N := 9) (x := fun _ => 0) C hP hS ac_int rfl rfl (fun h => h) rfl rfl (by simp only [hsz, hA2, Nat.add_assoc, Nat.reduceAdd, Nat.add_zero, Nat.zero_add]) (g_lo hP (K := 33) (i := 0) (by simp) (by simp only [hsz, hA2, Nat.add_assoc, Nat.reduceAdd, Nat.add_zero, Nat.zero_add])) (by decide) (by decide) (by decide) (by decide) dX6_init_45 (fun C H hP hS => ?_)
  obtain ⟨X27, e28, hf⟩ := gl_in hf
  rw [← e28] at hP
  obtain ⟨w31, h32, hf⟩ := rn_in hf
  refine r_putF C hin hP hS w31 (by simp [ha]) (ct_90 _ _ _ _) pf_X6_29 (by rw [fp_90_5, gwref h32]) (Nat.le_of_ble_eq_true rfl) rfl rfl dX6_init_47 (fun H locs hP hS => ?_)
  obtain ⟨X29, e30, hf⟩ := gl_in hf
  rw [← e30] at hP
  refine lv_aload_n hx hb dX6_init_50 rfl (lv_at hl 0 rfl) ?_
  refine lv_bipush (v := 9) hx hb dX6_init_51 (by decide) ?_
  refine r_newa (K := 35) (i := 0) (t := 0) (N := 9) (x := fun _ => 0) C hP hS ac_int rfl rfl (fun h => h) rfl rfl (by simp only [hsz, hA2, Nat.add_assoc, Nat.reduceAdd, Nat.add_zero, Nat.zero_add]) (g_lo hP (K := 34) (i := 0) (by simp) (by simp only [hsz, hA2, Nat.add_assoc, Nat.reduceAdd, Nat.add_zero, Nat.zero_add])) (by decide) (by decide) (by decide) (by decide) dX6_init_53 (fun C H hP hS => ?_)
  obtain ⟨X33, e34, hf⟩ := gl_in hf
  rw [← e34] at hP
  obtain ⟨w37, h38, hf⟩ := rn_in hf
  refine r_putF C hin hP hS w37 (by simp [ha]) (ct_90 _ _ _ _) pf_X6_32 (by rw [fp_90_6, gwref h38]) (Nat.le_of_ble_eq_true rfl) rfl rfl dX6_init_55 (fun H locs hP hS => ?_)
  obtain ⟨X35, e36, hf⟩ := gl_in hf
  rw [← e36] at hP
  refine lv_aload_n hx hb dX6_init_58 rfl (lv_at hl 0 rfl) ?_
  refine lv_bipush (v := 9) hx hb dX6_init_59 (by decide) ?_
  refine r_newa (K := 36) (i := 0) (t := 0) (N := 9) (x := fun _ => 0) C hP hS ac_int rfl rfl (fun h => h) rfl rfl (by simp only [hsz, hA2, Nat.add_assoc, Nat.reduceAdd, Nat.add_zero, Nat.zero_add]) (g_lo hP (K := 35) (i := 0) (by simp) (by simp only [hsz, hA2, Nat.add_assoc, Nat.reduceAdd, Nat.add_zero, Nat.zero_add])) (by decide) (by decide) (by decide) (by decide) dX6_init_61 (fun C H hP hS => ?_)
  obtain ⟨X39, e40, hf⟩ := gl_in hf
  rw [← e40] at hP
  obtain ⟨w43, h44, hf⟩ := rn_in hf
  refine r_putF C hin hP hS w43 (by simp [ha]) (ct_90 _ _ _ _) pf_X6_35 (by rw [fp_90_7, gwref h44]) (Nat.le_of_ble_eq_true rfl) rfl rfl dX6_init_63 (fun H locs hP hS => ?_)
  obtain ⟨X41, e42, hf⟩ := gl_in hf
  rw [← e42] at hP
  refine lv_aload_n hx hb dX6_init_66 rfl (lv_at hl 0 rfl) ?_
  refine lv_bipush (v := 9) hx hb dX6_init_67 (by decide) ?_
  refine lv_bipush (v := 8) hx hb dX6_init_69 (by decide) ?_
  have h47 : gAdr ad (s.heap.size + (7)) nw_mna := by
    rw [hsz]
    simp only [nw_mna, gAdr, hA2, Nat.reduceAdd, Nat.add_assoc, and_self]
  refine r_mna C hP hS cl_X6_38 ac_int hAW.2.2.2.2.2 h47 (g_lo hP (K := 36) (i := 0) (by simp) (by simp only [hsz, hA2, Nat.add_assoc, Nat.reduceAdd, Nat.add_zero, Nat.zero_add])) ⟨Nat.le_of_ble_eq_true rfl, Nat.le_of_ble_eq_true rfl⟩ dX6_init_71 (fun C H hP hS => ?_)
  obtain ⟨X45, e46, hf⟩ := gl_in hf
  rw [← e46] at hP
  have h48 : ad 38 8 = s.heap.size + (7) + 9 := gAdr_at h47 9 (38, 8) rfl
  obtain ⟨w51, h52, hf⟩ := rn_in hf
  refine r_putF C hin hP hS w51 (by simp [ha]) (ct_90 _ _ _ _) pf_X6_40 (by rw [fp_90_8, gwref h52]) (Nat.le_of_ble_eq_true rfl) rfl rfl dX6_init_75 (fun H locs hP hS => ?_)
  obtain ⟨X49, e50, hf⟩ := gl_in hf
  rw [← e50] at hP
  refine lv_aload_n hx hb dX6_init_78 rfl (lv_at hl 0 rfl) ?_
  refine lv_bipush (v := 8) hx hb dX6_init_79 (by decide) ?_
  refine r_newa (K := 39) (i := 0) (t := 0) (N := 8) (x := fun _ => 0) C hP hS ac_int rfl rfl (fun h => h) rfl rfl (by simp only [hsz, hA2, h48, Nat.add_assoc, Nat.reduceAdd, Nat.add_zero, Nat.zero_add]) (g_lo hP (K := 38) (i := 8) (by simp [nw_mna]) (by simp only [hsz, hA2, h48, Nat.add_assoc, Nat.reduceAdd, Nat.add_zero, Nat.zero_add])) (by decide) (by decide) (by decide) (by decide) dX6_init_81 (fun C H hP hS => ?_)
  obtain ⟨X53, e54, hf⟩ := gl_in hf
  rw [← e54] at hP
  obtain ⟨w57, h58, hf⟩ := rn_in hf
  refine r_putF C hin hP hS w57 (by simp [ha]) (ct_90 _ _ _ _) pf_X6_43 (by rw [fp_90_9, gwref h58]) (Nat.le_of_ble_eq_true rfl) rfl rfl dX6_init_83 (fun H locs hP hS => ?_)
  obtain ⟨X55, e56, hf⟩ := gl_in hf
  rw [← e56] at hP
  rw [show NL ++ nw_X6_init = (((((((((NL ++ [(30, 0)]) ++ [(31, 0)]) ++ [(32, 0)]) ++ [(33, 0)]) ++ [(34, 0)]) ++ [(35, 0)]) ++ [(36, 0)]) ++ nw_mna) ++ [(39, 0)]) from by simp [nw_X6_init]]
  obtain ⟨rfl, rfl⟩ := g_s1 hf
  exact r_vret C hP hS dX6_init_86

