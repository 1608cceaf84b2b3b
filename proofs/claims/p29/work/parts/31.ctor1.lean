/-! constructors without loops -/
def nw_X0_init (p0 : Nat) : List (Nat × Nat) := [(8, p0), (9, p0), (10, p0)]
theorem nwl_X0_init (p0 : Nat) : (nw_X0_init p0).length = 3 := rfl
def X0_init (al : Nat → Nat → Bool) (N : Nat) (p0 : Nat) (X : gM) : Option (Int32 × gM) := gl (msl X 8 p0 (fun _ => 0)) fun X1 => (rd (0 : Int32) 3).bind fun j3 => gl (mset X1 8 p0 j3 (-1 : Int32)) fun X5 => (rd (1 : Int32) 3).bind fun j7 => gl (mset X5 8 p0 j7 (-1 : Int32)) fun X9 => (rd (2 : Int32) 3).bind fun j11 => gl (mset X9 8 p0 j11 (-1 : Int32)) fun X13 => (rn p0).bind fun w17 => gl (mset X13 85 p0 0 w17) fun X15 => gl (msl X15 9 p0 (fun _ => 0)) fun X19 => (rn p0).bind fun w23 => gl (mset X19 85 p0 1 w23) fun X21 => gl (msl X21 10 p0 (fun _ => 0)) fun X25 => (rn p0).bind fun w29 => gl (mset X25 85 p0 2 w29) fun X27 => gl (mset X27 85 p0 3 (-1 : Int32)) fun X31 => gl (mset X31 85 p0 4 (-1 : Int32)) fun X33 => some ((0 : Int32), X33)
def rm_X0_init : Room := { frames := 1, cells := 3, slots := 21, locals := 20 }
set_option maxRecDepth 100000 in
set_option maxHeartbeats 4000000 in
theorem s_X0_init {l : Launch} {D : va_G} {cA : Nat → ClassId} {ad : Nat → Nat → Nat} {NL : List (Nat × Nat)} {al : Nat → Nat → Bool} {N sz : Nat} {p0 : Nat} {X : gM} {rr : Int32} {XX : gM} (hD0 : gD (fun _ => True) ad NL) (hal : gAl ad) (ha : (85, p0) ∈ NL) (hA : gAdr ad sz (nw_X0_init p0)) (hf : X0_init al N p0 X = some (rr, XX)) : gCa l yX0_init cX0_init 1 none rm_X0_init 3 21 D cA ad NL [.ref (ad 85 p0)] X none (NL ++ (nw_X0_init p0)) XX sz := by
  refine g_ofA (by decide) hD0 (Nat.le_of_ble_eq_true rfl) rfl (fun p e s m below meth c ls hsz hin hAW C hP hS hl => ?_)
  have hx := C.1
  have hb := C.2.1
  have hA2 := hA
  simp only [nw_X0_init, gAdr_app, gAdr, List.length_append, List.length_cons, List.length_nil, nwl_mna, Nat.add_assoc, Nat.reduceAdd, and_true, true_and] at hA2
  rw [X0_init] at hf
  refine lv_aload_n hx hb dX0_init_0 rfl (lv_at hl 0 rfl) ?_
  refine W.objInit hx hb C.2.2.2.1 (C.2.2.2.2.1 _ ob_X0_3) (C.2.2.2.2.1 _ ob_i.1) (C.2.2.2.2.1 _ ob_i.2) rfl (by rw [C.2.2.1]; exact hl.1) rfl dX0_init_1 (Nat.le_of_ble_eq_true rfl) (Nat.le_of_ble_eq_true rfl) ?_
  refine W.eq (g2 := F0 m 4 ls []) rfl ?_
  refine lv_aload_n hx hb dX0_init_4 rfl (lv_at hl 0 rfl) ?_
  refine lv_iconst (v := 3) hx hb dX0_init_5 (by decide) ?_
  refine r_newa (K := 8) (i := p0) (t := 0) (N := 3) (x := fun _ => 0) C hP hS ac_int rfl rfl (fun h => h) rfl rfl (by simp only [hsz, hA2, Nat.add_assoc, Nat.reduceAdd, Nat.add_zero, Nat.zero_add]) (by have := hS.1; omega) (by decide) (by decide) (by decide) (by decide) dX0_init_6 (fun C H hP hS => ?_)
  obtain ⟨X1, e2, hf⟩ := gl_in hf
  rw [← e2] at hP
  refine lv_dup hx hb dX0_init_8 rfl ?_
  refine lv_iconst (v := 0) hx hb dX0_init_9 (by decide) ?_
  refine lv_iconst (v := -1) hx hb dX0_init_10 (by decide) ?_
  obtain ⟨j3, h4, hf⟩ := rd_in hf
  refine r_iast C hP hS (by simp) (fun _ => ct_8 _ _ _ _) h4 dX0_init_11 (fun H locs hP hS => ?_)
  obtain ⟨X5, e6, hf⟩ := gl_in hf
  rw [← e6] at hP
  refine lv_dup hx hb dX0_init_12 rfl ?_
  refine lv_iconst (v := 1) hx hb dX0_init_13 (by decide) ?_
  refine lv_iconst (v := -1) hx hb dX0_init_14 (by decide) ?_
  obtain ⟨j7, h8, hf⟩ := rd_in hf
  refine r_iast C hP hS (by simp) (fun _ => ct_8 _ _ _ _) h8 dX0_init_15 (fun H locs hP hS => ?_)
  obtain ⟨X9, e10, hf⟩ := gl_in hf
  rw [← e10] at hP
  refine lv_dup hx hb dX0_init_16 rfl ?_
  refine lv_iconst (v := 2) hx hb dX0_init_17 (by decide) ?_
  refine lv_iconst (v := -1) hx hb dX0_init_18 (by decide) ?_
  obtain ⟨j11, h12, hf⟩ := rd_in hf
  refine r_iast C hP hS (by simp) (fun _ => ct_8 _ _ _ _) h12 dX0_init_19 (fun H locs hP hS => ?_)
  obtain ⟨X13, e14, hf⟩ := gl_in hf
  rw [← e14] at hP
  obtain ⟨w17, h18, hf⟩ := rn_in hf
  refine r_putF C hin hP hS w17 (by simp [ha]) (ct_85 _ _ _ _) pf_X0_9 (by rw [fp_85_0, gwref h18]) (Nat.le_of_ble_eq_true rfl) rfl rfl dX0_init_20 (fun H locs hP hS => ?_)
  obtain ⟨X15, e16, hf⟩ := gl_in hf
  rw [← e16] at hP
  refine lv_aload_n hx hb dX0_init_23 rfl (lv_at hl 0 rfl) ?_
  refine lv_bipush (v := 9) hx hb dX0_init_24 (by decide) ?_
  refine r_newa (K := 9) (i := p0) (t := 0) (N := 9) (x := fun _ => 0) C hP hS ac_int rfl rfl (fun h => h) rfl rfl (by simp only [hsz, hA2, Nat.add_assoc, Nat.reduceAdd, Nat.add_zero, Nat.zero_add]) (g_lo hP (K := 8) (i := p0) (by simp) (by simp only [hsz, hA2, Nat.add_assoc, Nat.reduceAdd, Nat.add_zero, Nat.zero_add])) (by decide) (by decide) (by decide) (by decide) dX0_init_26 (fun C H hP hS => ?_)
  obtain ⟨X19, e20, hf⟩ := gl_in hf
  rw [← e20] at hP
  obtain ⟨w23, h24, hf⟩ := rn_in hf
  refine r_putF C hin hP hS w23 (by simp [ha]) (ct_85 _ _ _ _) pf_X0_15 (by rw [fp_85_1, gwref h24]) (Nat.le_of_ble_eq_true rfl) rfl rfl dX0_init_28 (fun H locs hP hS => ?_)
  obtain ⟨X21, e22, hf⟩ := gl_in hf
  rw [← e22] at hP
  refine lv_aload_n hx hb dX0_init_31 rfl (lv_at hl 0 rfl) ?_
  refine lv_bipush (v := 9) hx hb dX0_init_32 (by decide) ?_
  refine r_newa (K := 10) (i := p0) (t := 0) (N := 9) (x := fun _ => 0) C hP hS ac_int rfl rfl (fun h => h) rfl rfl (by simp only [hsz, hA2, Nat.add_assoc, Nat.reduceAdd, Nat.add_zero, Nat.zero_add]) (g_lo hP (K := 9) (i := p0) (by simp) (by simp only [hsz, hA2, Nat.add_assoc, Nat.reduceAdd, Nat.add_zero, Nat.zero_add])) (by decide) (by decide) (by decide) (by decide) dX0_init_34 (fun C H hP hS => ?_)
  obtain ⟨X25, e26, hf⟩ := gl_in hf
  rw [← e26] at hP
  obtain ⟨w29, h30, hf⟩ := rn_in hf
  refine r_putF C hin hP hS w29 (by simp [ha]) (ct_85 _ _ _ _) pf_X0_18 (by rw [fp_85_2, gwref h30]) (Nat.le_of_ble_eq_true rfl) rfl rfl dX0_init_36 (fun H locs hP hS => ?_)
  obtain ⟨X27, e28, hf⟩ := gl_in hf
  rw [← e28] at hP
  refine lv_aload_n hx hb dX0_init_39 rfl (lv_at hl 0 rfl) ?_
  refine lv_iconst (v := -1) hx hb dX0_init_40 (by decide) ?_
  refine r_put C hP hS (-1 : Int32) (by simp [ha]) (ct_85 _ _ _ _) px_X0_21 (fp_85_3 _ _ _ _ _) (Nat.le_of_ble_eq_true rfl) rfl rfl dX0_init_41 (fun H locs hP hS => ?_)
  obtain ⟨X31, e32, hf⟩ := gl_in hf
  rw [← e32] at hP
  refine lv_aload_n hx hb dX0_init_44 rfl (lv_at hl 0 rfl) ?_
  refine lv_iconst (v := -1) hx hb dX0_init_45 (by decide) ?_
  refine r_put C hP hS (-1 : Int32) (by simp [ha]) (ct_85 _ _ _ _) px_X0_25 (fp_85_4 _ _ _ _ _) (Nat.le_of_ble_eq_true rfl) rfl rfl dX0_init_46 (fun H locs hP hS => ?_)
  obtain ⟨X33, e34, hf⟩ := gl_in hf
  rw [← e34] at hP
  rw [show NL ++ nw_X0_init p0 = (((NL ++ [(8, p0)]) ++ [(9, p0)]) ++ [(10, p0)]) from by simp [nw_X0_init]]
  obtain ⟨rfl, rfl⟩ := g_s1 hf
  exact r_vret C hP hS dX0_init_49

def nw_X1_init (p0 : Nat) : List (Nat × Nat) := []
theorem nwl_X1_init (p0 : Nat) : (nw_X1_init p0).length = 0 := rfl
def X1_init (al : Nat → Nat → Bool) (N : Nat) (p0 : Nat) (p1 : Int32) (p2 : Nat) (p3 : Int32) (p4 : Int32) (p5 : Int32) (p6 : Int32) (X : gM) : Option (Int32 × gM) := gl (mset X 88 p0 6 (1 : Int32)) fun X1 => gl (mset X1 88 p0 0 p1) fun X3 => (rn p2).bind fun w7 => gl (mset X3 88 p0 1 w7) fun X5 => gl (mset X5 88 p0 2 p3) fun X9 => gl (mset X9 88 p0 3 p4) fun X11 => gl (mset X11 88 p0 4 p5) fun X13 => (bz (p6)).bind fun _ => gl (mset X13 88 p0 5 p6) fun X15 => some ((0 : Int32), X15)
def rm_X1_init : Room := { frames := 1, cells := 0, slots := 0, locals := 20 }
set_option maxRecDepth 100000 in
set_option maxHeartbeats 4000000 in
theorem s_X1_init {l : Launch} {D : va_G} {cA : Nat → ClassId} {ad : Nat → Nat → Nat} {NL : List (Nat × Nat)} {al : Nat → Nat → Bool} {N sz : Nat} {p0 : Nat} {p1 : Int32} {p2 : Nat} {p3 : Int32} {p4 : Int32} {p5 : Int32} {p6 : Int32} {X : gM} {rr : Int32} {XX : gM} (hD0 : gD (fun _ => True) ad NL) (hal : gAl ad) (ha : (88, p0) ∈ NL) (hA : gAdr ad sz (nw_X1_init p0)) (hf : X1_init al N p0 p1 p2 p3 p4 p5 p6 X = some (rr, XX)) : gCa l yX1_init cX1_init 7 none rm_X1_init 0 0 D cA ad NL [.ref (ad 88 p0), .int p1, .ref (ad 12 p2), .int p3, .int p4, .int p5, .int p6] X none (NL ++ (nw_X1_init p0)) XX sz := by
  refine g_ofA (by decide) hD0 (Nat.le_of_ble_eq_true rfl) rfl (fun p e s m below meth c ls hsz hin hAW C hP hS hl => ?_)
  have hx := C.1
  have hb := C.2.1
  have hA2 := hA
  simp only [nw_X1_init, gAdr_app, gAdr, List.length_append, List.length_cons, List.length_nil, nwl_X0_init, nwl_mna, Nat.add_assoc, Nat.reduceAdd, and_true, true_and] at hA2
  rw [X1_init] at hf
  refine lv_aload_n hx hb dX1_init_0 rfl (lv_at hl 0 rfl) ?_
  refine W.objInit hx hb C.2.2.2.1 (C.2.2.2.2.1 _ ob_X1_3) (C.2.2.2.2.1 _ ob_i.1) (C.2.2.2.2.1 _ ob_i.2) rfl (by rw [C.2.2.1]; exact hl.1) rfl dX1_init_1 (Nat.le_of_ble_eq_true rfl) (Nat.le_of_ble_eq_true rfl) ?_
  refine W.eq (g2 := F0 m 4 ls []) rfl ?_
  refine lv_aload_n hx hb dX1_init_4 rfl (lv_at hl 0 rfl) ?_
  refine lv_iconst (v := 1) hx hb dX1_init_5 (by decide) ?_
  refine r_put C hP hS (1 : Int32) ha (ct_88 _ _ _ _) px_X1_9 (fp_88_6 _ _ _ _ _) (Nat.le_of_ble_eq_true rfl) rfl rfl dX1_init_6 (fun H locs hP hS => ?_)
  obtain ⟨X1, e2, hf⟩ := gl_in hf
  rw [← e2] at hP
  refine lv_aload_n hx hb dX1_init_9 rfl (lv_at hl 0 rfl) ?_
  refine lv_iload_n hx hb dX1_init_10 rfl (lv_at hl 1 rfl) ?_
  refine r_putF C hin hP hS p1 ha (ct_88 _ _ _ _) pf_X1_15 (fp_88_0 _ _ _ _ _) (Nat.le_of_ble_eq_true rfl) rfl rfl dX1_init_11 (fun H locs hP hS => ?_)
  obtain ⟨X3, e4, hf⟩ := gl_in hf
  rw [← e4] at hP
  refine lv_aload_n hx hb dX1_init_14 rfl (lv_at hl 0 rfl) ?_
  refine lv_aload_n hx hb dX1_init_15 rfl (lv_at hl 2 rfl) ?_
  obtain ⟨w7, h8, hf⟩ := rn_in hf
  refine r_putF C hin hP hS w7 ha (ct_88 _ _ _ _) pf_X1_19 (by rw [fp_88_1, gwref h8]) (Nat.le_of_ble_eq_true rfl) rfl rfl dX1_init_16 (fun H locs hP hS => ?_)
  obtain ⟨X5, e6, hf⟩ := gl_in hf
  rw [← e6] at hP
  refine lv_aload_n hx hb dX1_init_19 rfl (lv_at hl 0 rfl) ?_
  refine lv_iload_n hx hb dX1_init_20 rfl (lv_at hl 3 rfl) ?_
  refine r_putF C hin hP hS p3 ha (ct_88 _ _ _ _) pf_X1_23 (fp_88_2 _ _ _ _ _) (Nat.le_of_ble_eq_true rfl) rfl rfl dX1_init_21 (fun H locs hP hS => ?_)
  obtain ⟨X9, e10, hf⟩ := gl_in hf
  rw [← e10] at hP
  refine lv_aload_n hx hb dX1_init_24 rfl (lv_at hl 0 rfl) ?_
  refine lv_iload hx hb dX1_init_25 (lv_at hl 4 rfl) ?_
  refine r_putF C hin hP hS p4 ha (ct_88 _ _ _ _) pf_X1_26 (fp_88_3 _ _ _ _ _) (Nat.le_of_ble_eq_true rfl) rfl rfl dX1_init_27 (fun H locs hP hS => ?_)
  obtain ⟨X11, e12, hf⟩ := gl_in hf
  rw [← e12] at hP
  refine lv_aload_n hx hb dX1_init_30 rfl (lv_at hl 0 rfl) ?_
  refine lv_iload hx hb dX1_init_31 (lv_at hl 5 rfl) ?_
  refine r_putF C hin hP hS p5 ha (ct_88 _ _ _ _) pf_X1_29 (fp_88_4 _ _ _ _ _) (Nat.le_of_ble_eq_true rfl) rfl rfl dX1_init_33 (fun H locs hP hS => ?_)
  obtain ⟨X13, e14, hf⟩ := gl_in hf
  rw [← e14] at hP
  refine lv_aload_n hx hb dX1_init_36 rfl (lv_at hl 0 rfl) ?_
  refine lv_iload hx hb dX1_init_37 (lv_at hl 6 rfl) ?_
  obtain ⟨h17, hf⟩ := bz_in hf
  refine r_putF C hin hP hS p6 ha (ct_88 _ _ _ _) pf_X1_32 (fp_88_5 _ _ _ _ _) (Nat.le_of_ble_eq_true rfl) (nar_z h17) (fit_z h17) dX1_init_39 (fun H locs hP hS => ?_)
  obtain ⟨X15, e16, hf⟩ := gl_in hf
  rw [← e16] at hP
  rw [show NL ++ nw_X1_init p0 = NL from by simp [nw_X1_init]]
  obtain ⟨rfl, rfl⟩ := g_s1 hf
  exact r_vret C hP hS dX1_init_42

def nw_X3_init : List (Nat × Nat) := [(2, 0), (3, 0)]
theorem nwl_X3_init : (nw_X3_init).length = 2 := rfl
def X3_init (al : Nat → Nat → Bool) (N : Nat) (X : gM) : Option (Int32 × gM) := gl (msl X 2 0 (fun _ => 0)) fun X1 => (rd (0 : Int32) 3).bind fun j3 => gl (mset X1 2 0 j3 (1 : Int32)) fun X5 => (rd (1 : Int32) 3).bind fun j7 => gl (mset X5 2 0 j7 (1 : Int32)) fun X9 => (rd (2 : Int32) 3).bind fun j11 => gl (mset X9 2 0 j11 (1 : Int32)) fun X13 => (rn 0).bind fun w17 => gl (mset X13 83 0 0 w17) fun X15 => gl (msl X15 3 0 (fun _ => 0)) fun X19 => (rd (0 : Int32) 3).bind fun j21 => gl (mset X19 3 0 j21 (1 : Int32)) fun X23 => (rd (1 : Int32) 3).bind fun j25 => gl (mset X23 3 0 j25 (1 : Int32)) fun X27 => (rd (2 : Int32) 3).bind fun j29 => gl (mset X27 3 0 j29 (1 : Int32)) fun X31 => (rn 0).bind fun w35 => gl (mset X31 83 0 1 w35) fun X33 => some ((0 : Int32), X33)
def rm_X3_init : Room := { frames := 1, cells := 2, slots := 6, locals := 20 }
set_option maxRecDepth 100000 in
set_option maxHeartbeats 4000000 in
theorem s_X3_init {l : Launch} {D : va_G} {cA : Nat → ClassId} {ad : Nat → Nat → Nat} {NL : List (Nat × Nat)} {al : Nat → Nat → Bool} {N sz : Nat} {X : gM} {rr : Int32} {XX : gM} (hD0 : gD (fun _ => True) ad NL) (hal : gAl ad) (ha : (83, 0) ∈ NL) (hA : gAdr ad sz (nw_X3_init)) (hf : X3_init al N  X = some (rr, XX)) : gCa l yX3_init cX3_init 1 none rm_X3_init 2 6 D cA ad NL [.ref (ad 83 0)] X none (NL ++ (nw_X3_init)) XX sz := by
  refine g_ofA (by decide) hD0 (Nat.le_of_ble_eq_true rfl) rfl (fun p e s m below meth c ls hsz hin hAW C hP hS hl => ?_)
  have hx := C.1
  have hb := C.2.1
  have hA2 := hA
  simp only [nw_X3_init, gAdr_app, gAdr, List.length_append, List.length_cons, List.length_nil, nwl_X0_init, nwl_X1_init, nwl_mna, Nat.add_assoc, Nat.reduceAdd, and_true, true_and] at hA2
  rw [X3_init] at hf
  refine lv_aload_n hx hb dX3_init_0 rfl (lv_at hl 0 rfl) ?_
  refine W.objInit hx hb C.2.2.2.1 (C.2.2.2.2.1 _ ob_X3_1) (C.2.2.2.2.1 _ ob_i.1) (C.2.2.2.2.1 _ ob_i.2) rfl (by rw [C.2.2.1]; exact hl.1) rfl dX3_init_1 (Nat.le_of_ble_eq_true rfl) (Nat.le_of_ble_eq_true rfl) ?_
  refine W.eq (g2 := F0 m 4 ls []) rfl ?_
  refine lv_aload_n hx hb dX3_init_4 rfl (lv_at hl 0 rfl) ?_
  refine lv_iconst (v := 3) hx hb dX3_init_5 (by decide) ?_
  refine r_newa (K := 2) (i := 0) (t := 0) (N := 3) (x := fun _ => 0) C hP hS ac_int rfl rfl (fun h => h) rfl rfl (by simp only [hsz, hA2, Nat.add_assoc, Nat.reduceAdd, Nat.add_zero, Nat.zero_add]) (by have := hS.1; omega) (by decide) (by decide) (by decide) (by decide) dX3_init_6 (fun C H hP hS => ?_)
  obtain ⟨X1, e2, hf⟩ := gl_in hf
  rw [← e2] at hP
  refine lv_dup hx hb dX3_init_8 rfl ?_
  refine lv_iconst (v := 0) hx hb dX3_init_9 (by decide) ?_
  refine lv_iconst (v := 1) hx hb dX3_init_10 (by decide) ?_
  obtain ⟨j3, h4, hf⟩ := rd_in hf
  refine r_iast C hP hS (by simp) (fun _ => ct_2 _ _ _ _) h4 dX3_init_11 (fun H locs hP hS => ?_)
  obtain ⟨X5, e6, hf⟩ := gl_in hf
  rw [← e6] at hP
  refine lv_dup hx hb dX3_init_12 rfl ?_
  refine lv_iconst (v := 1) hx hb dX3_init_13 (by decide) ?_
  refine lv_iconst (v := 1) hx hb dX3_init_14 (by decide) ?_
  obtain ⟨j7, h8, hf⟩ := rd_in hf
  refine r_iast C hP hS (by simp) (fun _ => ct_2 _ _ _ _) h8 dX3_init_15 (fun H locs hP hS => ?_)
  obtain ⟨X9, e10, hf⟩ := gl_in hf
  rw [← e10] at hP
  refine lv_dup hx hb dX3_init_16 rfl ?_
  refine lv_iconst (v := 2) hx hb dX3_init_17 (by decide) ?_
  refine lv_iconst (v := 1) hx hb dX3_init_18 (by decide) ?_
  obtain ⟨j11, h12, hf⟩ := rd_in hf
  refine r_iast C hP hS (by simp) (fun _ => ct_2 _ _ _ _) h12 dX3_init_19 (fun H locs hP hS => ?_)
  obtain ⟨X13, e14, hf⟩ := gl_in hf
  rw [← e14] at hP
  obtain ⟨w17, h18, hf⟩ := rn_in hf
  refine r_putF C hin hP hS w17 (by simp [ha]) (ct_83 _ _ _ _) pf_X3_7 (by rw [fp_83_0, gwref h18]) (Nat.le_of_ble_eq_true rfl) rfl rfl dX3_init_20 (fun H locs hP hS => ?_)
  obtain ⟨X15, e16, hf⟩ := gl_in hf
  rw [← e16] at hP
  refine lv_aload_n hx hb dX3_init_23 rfl (lv_at hl 0 rfl) ?_
  refine lv_iconst (v := 3) hx hb dX3_init_24 (by decide) ?_
  refine r_newa (K := 3) (i := 0) (t := 0) (N := 3) (x := fun _ => 0) C hP hS ac_int rfl rfl (fun h => h) rfl rfl (by simp only [hsz, hA2, Nat.add_assoc, Nat.reduceAdd, Nat.add_zero, Nat.zero_add]) (g_lo hP (K := 2) (i := 0) (by simp) (by simp only [hsz, hA2, Nat.add_assoc, Nat.reduceAdd, Nat.add_zero, Nat.zero_add])) (by decide) (by decide) (by decide) (by decide) dX3_init_25 (fun C H hP hS => ?_)
  obtain ⟨X19, e20, hf⟩ := gl_in hf
  rw [← e20] at hP
  refine lv_dup hx hb dX3_init_27 rfl ?_
  refine lv_iconst (v := 0) hx hb dX3_init_28 (by decide) ?_
  refine lv_iconst (v := 1) hx hb dX3_init_29 (by decide) ?_
  obtain ⟨j21, h22, hf⟩ := rd_in hf
  refine r_iast C hP hS (by simp) (fun _ => ct_3 _ _ _ _) h22 dX3_init_30 (fun H locs hP hS => ?_)
  obtain ⟨X23, e24, hf⟩ := gl_in hf
  rw [← e24] at hP
  refine lv_dup hx hb dX3_init_31 rfl ?_
  refine lv_iconst (v := 1) hx hb dX3_init_32 (by decide) ?_
  refine lv_iconst (v := 1) hx hb dX3_init_33 (by decide) ?_
  obtain ⟨j25, h26, hf⟩ := rd_in hf
  refine r_iast C hP hS (by simp) (fun _ => ct_3 _ _ _ _) h26 dX3_init_34 (fun H locs hP hS => ?_)
  obtain ⟨X27, e28, hf⟩ := gl_in hf
  rw [← e28] at hP
  refine lv_dup hx hb dX3_init_35 rfl ?_
  refine lv_iconst (v := 2) hx hb dX3_init_36 (by decide) ?_
  refine lv_iconst (v := 1) hx hb dX3_init_37 (by decide) ?_
  obtain ⟨j29, h30, hf⟩ := rd_in hf
  refine r_iast C hP hS (by simp) (fun _ => ct_3 _ _ _ _) h30 dX3_init_38 (fun H locs hP hS => ?_)
  obtain ⟨X31, e32, hf⟩ := gl_in hf
  rw [← e32] at hP
  obtain ⟨w35, h36, hf⟩ := rn_in hf
  refine r_putF C hin hP hS w35 (by simp [ha]) (ct_83 _ _ _ _) pf_X3_13 (by rw [fp_83_1, gwref h36]) (Nat.le_of_ble_eq_true rfl) rfl rfl dX3_init_39 (fun H locs hP hS => ?_)
  obtain ⟨X33, e34, hf⟩ := gl_in hf
  rw [← e34] at hP
  rw [show NL ++ nw_X3_init = ((NL ++ [(2, 0)]) ++ [(3, 0)]) from by simp [nw_X3_init]]
  obtain ⟨rfl, rfl⟩ := g_s1 hf
  exact r_vret C hP hS dX3_init_42

def nw_X4_init : List (Nat × Nat) := [(41, 0)]
theorem nwl_X4_init : (nw_X4_init).length = 1 := rfl
def X4_init (al : Nat → Nat → Bool) (N : Nat) (X : gM) : Option (Int32 × gM) := gl (mset X 91 0 0 (0 : Int32)) fun X1 => gl (mset X1 91 0 1 (0 : Int32)) fun X3 => gl (msl X3 41 0 (fun _ => 0)) fun X5 => (rn 0).bind fun w9 => gl (mset X5 91 0 2 w9) fun X7 => some ((0 : Int32), X7)
def rm_X4_init : Room := { frames := 1, cells := 1, slots := 41, locals := 20 }
set_option maxRecDepth 100000 in
set_option maxHeartbeats 4000000 in
theorem s_X4_init {l : Launch} {D : va_G} {cA : Nat → ClassId} {ad : Nat → Nat → Nat} {NL : List (Nat × Nat)} {al : Nat → Nat → Bool} {N sz : Nat} {X : gM} {rr : Int32} {XX : gM} (hD0 : gD (fun _ => True) ad NL) (hal : gAl ad) (ha : (91, 0) ∈ NL) (hA : gAdr ad sz (nw_X4_init)) (hf : X4_init al N  X = some (rr, XX)) : gCa l yX4_init cX4_init 1 none rm_X4_init 1 41 D cA ad NL [.ref (ad 91 0)] X none (NL ++ (nw_X4_init)) XX sz := by
  refine g_ofA (by decide) hD0 (Nat.le_of_ble_eq_true rfl) rfl (fun p e s m below meth c ls hsz hin hAW C hP hS hl => ?_)
  have hx := C.1
  have hb := C.2.1
  have hA2 := hA
  simp only [nw_X4_init, gAdr_app, gAdr, List.length_append, List.length_cons, List.length_nil, nwl_X0_init, nwl_X1_init, nwl_X3_init, nwl_mna, Nat.add_assoc, Nat.reduceAdd, and_true, true_and] at hA2
  rw [X4_init] at hf
  refine lv_aload_n hx hb dX4_init_0 rfl (lv_at hl 0 rfl) ?_
  refine W.objInit hx hb C.2.2.2.1 (C.2.2.2.2.1 _ ob_X4_3) (C.2.2.2.2.1 _ ob_i.1) (C.2.2.2.2.1 _ ob_i.2) rfl (by rw [C.2.2.1]; exact hl.1) rfl dX4_init_1 (Nat.le_of_ble_eq_true rfl) (Nat.le_of_ble_eq_true rfl) ?_
  refine W.eq (g2 := F0 m 4 ls []) rfl ?_
  refine lv_aload_n hx hb dX4_init_4 rfl (lv_at hl 0 rfl) ?_
  refine lv_iconst (v := 0) hx hb dX4_init_5 (by decide) ?_
  refine r_put C hP hS (0 : Int32) ha (ct_91 _ _ _ _) px_X4_9 (fp_91_0 _ _ _ _ _) (Nat.le_of_ble_eq_true rfl) rfl rfl dX4_init_6 (fun H locs hP hS => ?_)
  obtain ⟨X1, e2, hf⟩ := gl_in hf
  rw [← e2] at hP
  refine lv_aload_n hx hb dX4_init_9 rfl (lv_at hl 0 rfl) ?_
  refine lv_iconst (v := 0) hx hb dX4_init_10 (by decide) ?_
  refine r_put C hP hS (0 : Int32) ha (ct_91 _ _ _ _) px_X4_15 (fp_91_1 _ _ _ _ _) (Nat.le_of_ble_eq_true rfl) rfl rfl dX4_init_11 (fun H locs hP hS => ?_)
  obtain ⟨X3, e4, hf⟩ := gl_in hf
  rw [← e4] at hP
  refine lv_aload_n hx hb dX4_init_14 rfl (lv_at hl 0 rfl) ?_
  refine lv_bipush (v := 41) hx hb dX4_init_15 (by decide) ?_
  refine r_newa (K := 41) (i := 0) (t := 0) (N := 41) (x := fun _ => 0) C hP hS ac_int rfl rfl (fun h => h) rfl rfl (by simp only [hsz, hA2, Nat.add_assoc, Nat.reduceAdd, Nat.add_zero, Nat.zero_add]) (by have := hS.1; omega) (by decide) (by decide) (by decide) (by decide) dX4_init_17 (fun C H hP hS => ?_)
  obtain ⟨X5, e6, hf⟩ := gl_in hf
  rw [← e6] at hP
  obtain ⟨w9, h10, hf⟩ := rn_in hf
  refine r_putF C hin hP hS w9 (by simp [ha]) (ct_91 _ _ _ _) pf_X4_18 (by rw [fp_91_2, gwref h10]) (Nat.le_of_ble_eq_true rfl) rfl rfl dX4_init_19 (fun H locs hP hS => ?_)
  obtain ⟨X7, e8, hf⟩ := gl_in hf
  rw [← e8] at hP
  rw [show NL ++ nw_X4_init = (NL ++ [(41, 0)]) from by simp [nw_X4_init]]
  obtain ⟨rfl, rfl⟩ := g_s1 hf
  exact r_vret C hP hS dX4_init_22

def nw_X7_init (p0 : Nat) : List (Nat × Nat) := [(15, p0), (16, p0), (17, p0), (18, p0), (19, p0), (20, p0), (21, p0)]
theorem nwl_X7_init (p0 : Nat) : (nw_X7_init p0).length = 7 := rfl
def X7_init (al : Nat → Nat → Bool) (N : Nat) (p0 : Nat) (p1 : Int32) (p2 : Int32) (X : gM) : Option (Int32 × gM) := gl (mset X 87 p0 2 (0 : Int32)) fun X1 => gl (mset X1 87 p0 3 (0 : Int32)) fun X3 => gl (msl X3 15 p0 (fun _ => 0)) fun X5 => (rn p0).bind fun w9 => gl (mset X5 87 p0 4 w9) fun X7 => gl (msl X7 16 p0 (fun _ => 0)) fun X11 => (rn p0).bind fun w15 => gl (mset X11 87 p0 5 w15) fun X13 => gl (msl X13 17 p0 (fun _ => 0)) fun X17 => (rn p0).bind fun w21 => gl (mset X17 87 p0 6 w21) fun X19 => gl (msl X19 18 p0 (fun _ => -1)) fun X23 => (rn p0).bind fun w27 => gl (mset X23 87 p0 7 w27) fun X25 => gl (mset X25 87 p0 8 (0 : Int32)) fun X29 => gl (msl X29 19 p0 (fun _ => -1)) fun X31 => (rn p0).bind fun w35 => gl (mset X31 87 p0 9 w35) fun X33 => gl (mset X33 87 p0 10 (0 : Int32)) fun X37 => gl (msl X37 20 p0 (fun _ => 0)) fun X39 => (rn p0).bind fun w43 => gl (mset X39 87 p0 11 w43) fun X41 => gl (msl X41 21 p0 (fun _ => -1)) fun X45 => (rn p0).bind fun w49 => gl (mset X45 87 p0 12 w49) fun X47 => (bz (p1)).bind fun _ => gl (mset X47 87 p0 0 p1) fun X51 => (bz (p2)).bind fun _ => gl (mset X51 87 p0 1 p2) fun X54 => some ((0 : Int32), X54)
def rm_X7_init : Room := { frames := 1, cells := 7, slots := 260, locals := 20 }
set_option maxRecDepth 100000 in
set_option maxHeartbeats 4000000 in
theorem s_X7_init {l : Launch} {D : va_G} {cA : Nat → ClassId} {ad : Nat → Nat → Nat} {NL : List (Nat × Nat)} {al : Nat → Nat → Bool} {N sz : Nat} {p0 : Nat} {p1 : Int32} {p2 : Int32} {X : gM} {rr : Int32} {XX : gM} (hD0 : gD (fun _ => True) ad NL) (hal : gAl ad) (ha : (87, p0) ∈ NL) (hA : gAdr ad sz (nw_X7_init p0)) (hf : X7_init al N p0 p1 p2 X = some (rr, XX)) : gCa l yX7_init cX7_init 3 none rm_X7_init 7 260 D cA ad NL [.ref (ad 87 p0), .int p1, .int p2] X none (NL ++ (nw_X7_init p0)) XX sz := by
  refine g_ofA (by decide) hD0 (Nat.le_of_ble_eq_true rfl) rfl (fun p e s m below meth c ls hsz hin hAW C hP hS hl => ?_)
  have hx := C.1
  have hb := C.2.1
  have hA2 := hA
  simp only [nw_X7_init, gAdr_app, gAdr, List.length_append, List.length_cons, List.length_nil, nwl_X0_init, nwl_X1_init, nwl_X3_init, nwl_X4_init, nwl_mna, Nat.add_assoc, Nat.reduceAdd, and_true, true_and] at hA2
  rw [X7_init] at hf
  refine lv_aload_n hx hb dX7_init_0 rfl (lv_at hl 0 rfl) ?_
  refine W.objInit hx hb C.2.2.2.1 (C.2.2.2.2.1 _ ob_X7_3) (C.2.2.2.2.1 _ ob_i.1) (C.2.2.2.2.1 _ ob_i.2) rfl (by rw [C.2.2.1]; exact hl.1) rfl dX7_init_1 (Nat.le_of_ble_eq_true rfl) (Nat.le_of_ble_eq_true rfl) ?_
  refine W.eq (g2 := F0 m 4 ls []) rfl ?_
  refine lv_aload_n hx hb dX7_init_4 rfl (lv_at hl 0 rfl) ?_
  refine lv_iconst (v := 0) hx hb dX7_init_5 (by decide) ?_
  refine r_put C hP hS (0 : Int32) ha (ct_87 _ _ _ _) px_X7_9 (fp_87_2 _ _ _ _ _) (Nat.le_of_ble_eq_true rfl) rfl rfl dX7_init_6 (fun H locs hP hS => ?_)
  obtain ⟨X1, e2, hf⟩ := gl_in hf
  rw [← e2] at hP
  refine lv_aload_n hx hb dX7_init_9 rfl (lv_at hl 0 rfl) ?_
  refine lv_iconst (v := 0) hx hb dX7_init_10 (by decide) ?_
  refine r_put C hP hS (0 : Int32) ha (ct_87 _ _ _ _) px_X7_15 (fp_87_3 _ _ _ _ _) (Nat.le_of_ble_eq_true rfl) rfl rfl dX7_init_11 (fun H locs hP hS => ?_)
  obtain ⟨X3, e4, hf⟩ := gl_in hf
  rw [← e4] at hP
  refine lv_aload_n hx hb dX7_init_14 rfl (lv_at hl 0 rfl) ?_
  refine lv_bipush (v := 10) hx hb dX7_init_15 (by decide) ?_
  refine r_newa (K := 15) (i := p0) (t := 0) (N := 10) (x := fun _ => 0) C hP hS ac_int rfl rfl (fun h => h) rfl rfl (by simp only [hsz, hA2, Nat.add_assoc, Nat.reduceAdd, Nat.add_zero, Nat.zero_add]) (by have := hS.1; omega) (by decide) (by decide) (by decide) (by decide) dX7_init_17 (fun C H hP hS => ?_)
  obtain ⟨X5, e6, hf⟩ := gl_in hf
  rw [← e6] at hP
  obtain ⟨w9, h10, hf⟩ := rn_in hf
  refine r_putF C hin hP hS w9 (by simp [ha]) (ct_87 _ _ _ _) pf_X7_19 (by rw [fp_87_4, gwref h10]) (Nat.le_of_ble_eq_true rfl) rfl rfl dX7_init_19 (fun H locs hP hS => ?_)
  obtain ⟨X7, e8, hf⟩ := gl_in hf
  rw [← e8] at hP
  refine lv_aload_n hx hb dX7_init_22 rfl (lv_at hl 0 rfl) ?_
  refine lv_bipush (v := 100) hx hb dX7_init_23 (by decide) ?_
  refine r_newa (K := 16) (i := p0) (t := 0) (N := 100) (x := fun _ => 0) C hP hS ac_int rfl rfl (fun h => h) rfl rfl (by simp only [hsz, hA2, Nat.add_assoc, Nat.reduceAdd, Nat.add_zero, Nat.zero_add]) (g_lo hP (K := 15) (i := p0) (by simp) (by simp only [hsz, hA2, Nat.add_assoc, Nat.reduceAdd, Nat.add_zero, Nat.zero_add])) (by decide) (by decide) (by decide) (by decide) dX7_init_25 (fun C H hP hS => ?_)
  obtain ⟨X11, e12, hf⟩ := gl_in hf
  rw [← e12] at hP
  obtain ⟨w15, h16, hf⟩ := rn_in hf
  refine r_putF C hin hP hS w15 (by simp [ha]) (ct_87 _ _ _ _) pf_X7_23 (by rw [fp_87_5, gwref h16]) (Nat.le_of_ble_eq_true rfl) rfl rfl dX7_init_27 (fun H locs hP hS => ?_)
  obtain ⟨X13, e14, hf⟩ := gl_in hf
  rw [← e14] at hP
  refine lv_aload_n hx hb dX7_init_30 rfl (lv_at hl 0 rfl) ?_
  refine lv_bipush (v := 120) hx hb dX7_init_31 (by decide) ?_
  refine r_newa (K := 17) (i := p0) (t := 0) (N := 120) (x := fun _ => 0) C hP hS ac_int rfl rfl (fun h => h) rfl rfl (by simp only [hsz, hA2, Nat.add_assoc, Nat.reduceAdd, Nat.add_zero, Nat.zero_add]) (g_lo hP (K := 16) (i := p0) (by simp) (by simp only [hsz, hA2, Nat.add_assoc, Nat.reduceAdd, Nat.add_zero, Nat.zero_add])) (by decide) (by decide) (by decide) (by decide) dX7_init_33 (fun C H hP hS => ?_)
  obtain ⟨X17, e18, hf⟩ := gl_in hf
  rw [← e18] at hP
  obtain ⟨w21, h22, hf⟩ := rn_in hf
  refine r_putF C hin hP hS w21 (by simp [ha]) (ct_87 _ _ _ _) pf_X7_26 (by rw [fp_87_6, gwref h22]) (Nat.le_of_ble_eq_true rfl) rfl rfl dX7_init_35 (fun H locs hP hS => ?_)
  obtain ⟨X19, e20, hf⟩ := gl_in hf
  rw [← e20] at hP
  refine lv_aload_n hx hb dX7_init_38 rfl (lv_at hl 0 rfl) ?_
  refine lv_bipush (v := 12) hx hb dX7_init_39 (by decide) ?_
  refine r_newq (K := 18) (i := p0) (t := 3) (N := 12) (x := fun _ => -1) C hP hS cl_X7_29 hAW.2.2.1 rfl rfl (by simp only [hsz, hA2, Nat.add_assoc, Nat.reduceAdd, Nat.add_zero, Nat.zero_add]) (g_lo hP (K := 17) (i := p0) (by simp) (by simp only [hsz, hA2, Nat.add_assoc, Nat.reduceAdd, Nat.add_zero, Nat.zero_add])) (by decide) (by decide) (by decide) (by decide) dX7_init_41 (fun C H hP hS => ?_)
  obtain ⟨X23, e24, hf⟩ := gl_in hf
  rw [← e24] at hP
  obtain ⟨w27, h28, hf⟩ := rn_in hf
  refine r_putF C hin hP hS w27 (by simp [ha]) (ct_87 _ _ _ _) pf_X7_31 (by rw [fp_87_7, gwref h28]) (Nat.le_of_ble_eq_true rfl) rfl rfl dX7_init_44 (fun H locs hP hS => ?_)
  obtain ⟨X25, e26, hf⟩ := gl_in hf
  rw [← e26] at hP
  refine lv_aload_n hx hb dX7_init_47 rfl (lv_at hl 0 rfl) ?_
  refine lv_iconst (v := 0) hx hb dX7_init_48 (by decide) ?_
  refine r_put C hP hS (0 : Int32) (by simp [ha]) (ct_87 _ _ _ _) px_X7_35 (fp_87_8 _ _ _ _ _) (Nat.le_of_ble_eq_true rfl) rfl rfl dX7_init_49 (fun H locs hP hS => ?_)
  obtain ⟨X29, e30, hf⟩ := gl_in hf
  rw [← e30] at hP
  refine lv_aload_n hx hb dX7_init_52 rfl (lv_at hl 0 rfl) ?_
  refine lv_iconst (v := 0) hx hb dX7_init_53 (by decide) ?_
  refine r_newq (K := 19) (i := p0) (t := 4) (N := 0) (x := fun _ => -1) C hP hS cl_X7_38 hAW.1 rfl rfl (by simp only [hsz, hA2, Nat.add_assoc, Nat.reduceAdd, Nat.add_zero, Nat.zero_add]) (g_lo hP (K := 18) (i := p0) (by simp) (by simp only [hsz, hA2, Nat.add_assoc, Nat.reduceAdd, Nat.add_zero, Nat.zero_add])) (by decide) (by decide) (by decide) (by decide) dX7_init_54 (fun C H hP hS => ?_)
  obtain ⟨X31, e32, hf⟩ := gl_in hf
  rw [← e32] at hP
  obtain ⟨w35, h36, hf⟩ := rn_in hf
  refine r_put C hP hS w35 (by simp [ha]) (ct_87 _ _ _ _) px_X7_40 (by rw [fp_87_9, gwref h36]) (Nat.le_of_ble_eq_true rfl) rfl rfl dX7_init_57 (fun H locs hP hS => ?_)
  obtain ⟨X33, e34, hf⟩ := gl_in hf
  rw [← e34] at hP
  refine lv_aload_n hx hb dX7_init_60 rfl (lv_at hl 0 rfl) ?_
  refine lv_iconst (v := 0) hx hb dX7_init_61 (by decide) ?_
  refine r_put C hP hS (0 : Int32) (by simp [ha]) (ct_87 _ _ _ _) px_X7_44 (fp_87_10 _ _ _ _ _) (Nat.le_of_ble_eq_true rfl) rfl rfl dX7_init_62 (fun H locs hP hS => ?_)
  obtain ⟨X37, e38, hf⟩ := gl_in hf
  rw [← e38] at hP
  refine lv_aload_n hx hb dX7_init_65 rfl (lv_at hl 0 rfl) ?_
  refine lv_bipush (v := 10) hx hb dX7_init_66 (by decide) ?_
  refine r_newa (K := 20) (i := p0) (t := 0) (N := 10) (x := fun _ => 0) C hP hS ac_int rfl rfl (fun h => h) rfl rfl (by simp only [hsz, hA2, Nat.add_assoc, Nat.reduceAdd, Nat.add_zero, Nat.zero_add]) (g_lo hP (K := 19) (i := p0) (by simp) (by simp only [hsz, hA2, Nat.add_assoc, Nat.reduceAdd, Nat.add_zero, Nat.zero_add])) (by decide) (by decide) (by decide) (by decide) dX7_init_68 (fun C H hP hS => ?_)
  obtain ⟨X39, e40, hf⟩ := gl_in hf
  rw [← e40] at hP
  obtain ⟨w43, h44, hf⟩ := rn_in hf
  refine r_putF C hin hP hS w43 (by simp [ha]) (ct_87 _ _ _ _) pf_X7_47 (by rw [fp_87_11, gwref h44]) (Nat.le_of_ble_eq_true rfl) rfl rfl dX7_init_70 (fun H locs hP hS => ?_)
  obtain ⟨X41, e42, hf⟩ := gl_in hf
  rw [← e42] at hP
  refine lv_aload_n hx hb dX7_init_73 rfl (lv_at hl 0 rfl) ?_
  refine lv_bipush (v := 8) hx hb dX7_init_74 (by decide) ?_
  refine r_newq (K := 21) (i := p0) (t := 4) (N := 8) (x := fun _ => -1) C hP hS cl_X7_38 hAW.1 rfl rfl (by simp only [hsz, hA2, Nat.add_assoc, Nat.reduceAdd, Nat.add_zero, Nat.zero_add]) (g_lo hP (K := 20) (i := p0) (by simp) (by simp only [hsz, hA2, Nat.add_assoc, Nat.reduceAdd, Nat.add_zero, Nat.zero_add])) (by decide) (by decide) (by decide) (by decide) dX7_init_76 (fun C H hP hS => ?_)
  obtain ⟨X45, e46, hf⟩ := gl_in hf
  rw [← e46] at hP
  obtain ⟨w49, h50, hf⟩ := rn_in hf
  refine r_putF C hin hP hS w49 (by simp [ha]) (ct_87 _ _ _ _) pf_X7_50 (by rw [fp_87_12, gwref h50]) (Nat.le_of_ble_eq_true rfl) rfl rfl dX7_init_79 (fun H locs hP hS => ?_)
  obtain ⟨X47, e48, hf⟩ := gl_in hf
  rw [← e48] at hP
  refine lv_aload_n hx hb dX7_init_82 rfl (lv_at hl 0 rfl) ?_
  refine lv_iload_n hx hb dX7_init_83 rfl (lv_at hl 1 rfl) ?_
  obtain ⟨h53, hf⟩ := bz_in hf
  refine r_putF C hin hP hS p1 (by simp [ha]) (ct_87 _ _ _ _) pf_X7_53 (fp_87_0 _ _ _ _ _) (Nat.le_of_ble_eq_true rfl) (nar_z h53) (fit_z h53) dX7_init_84 (fun H locs hP hS => ?_)
  obtain ⟨X51, e52, hf⟩ := gl_in hf
  rw [← e52] at hP
  refine lv_aload_n hx hb dX7_init_87 rfl (lv_at hl 0 rfl) ?_
  refine lv_iload_n hx hb dX7_init_88 rfl (lv_at hl 2 rfl) ?_
  obtain ⟨h56, hf⟩ := bz_in hf
  refine r_putF C hin hP hS p2 (by simp [ha]) (ct_87 _ _ _ _) pf_X7_56 (fp_87_1 _ _ _ _ _) (Nat.le_of_ble_eq_true rfl) (nar_z h56) (fit_z h56) dX7_init_89 (fun H locs hP hS => ?_)
  obtain ⟨X54, e55, hf⟩ := gl_in hf
  rw [← e55] at hP
  rw [show NL ++ nw_X7_init p0 = (((((((NL ++ [(15, p0)]) ++ [(16, p0)]) ++ [(17, p0)]) ++ [(18, p0)]) ++ [(19, p0)]) ++ [(20, p0)]) ++ [(21, p0)]) from by simp [nw_X7_init]]
  obtain ⟨rfl, rfl⟩ := g_s1 hf
  exact r_vret C hP hS dX7_init_92

def nw_X5_init (p0 : Nat) : List (Nat × Nat) := [(13, p0)] ++ [(14, (3 * p0))] ++ (nw_X7_init ((3 * p0))) ++ [(14, (3 * p0 + 1))] ++ (nw_X7_init ((3 * p0 + 1))) ++ [(14, (3 * p0 + 2))] ++ (nw_X7_init ((3 * p0 + 2)))
theorem nwl_X5_init (p0 : Nat) : (nw_X5_init p0).length = 25 := by simp [nw_X5_init, nwl_X0_init, nwl_X1_init, nwl_X3_init, nwl_X4_init, nwl_X7_init, nwl_mna]
def X5_init (al : Nat → Nat → Bool) (N : Nat) (p0 : Nat) (X : gM) : Option (Int32 × gM) := gl (mset X 86 p0 0 (4 : Int32)) fun X1 => gl (msl X1 13 p0 (fun _ => -1)) fun X3 => (rn p0).bind fun w7 => gl (mset X3 86 p0 1 w7) fun X5 => gl (mset X5 86 p0 2 (0 : Int32)) fun X9 => gl (msl X9 87 (3 * p0) rz_87) fun X11 => bind2 (X7_init al N ((3 * p0)) (0 : Int32) (0 : Int32) X11) fun r14 X15 => (rk_14 ((3 * p0)) (X15 87 ((3 * p0)))).bind fun _ => gl (msl X15 14 ((3 * p0)) (upd (X15 87 ((3 * p0))) 9 (-1))) fun X17 => (rn (3 * p0)).bind fun w24 => gl (mset X17 86 p0 3 w24) fun X22 => gl (msl X22 87 (3 * p0 + 1) rz_87) fun X26 => bind2 (X7_init al N ((3 * p0 + 1)) (1 : Int32) (0 : Int32) X26) fun r29 X30 => (rk_14 ((3 * p0 + 1)) (X30 87 ((3 * p0 + 1)))).bind fun _ => gl (msl X30 14 ((3 * p0 + 1)) (upd (X30 87 ((3 * p0 + 1))) 9 (-1))) fun X32 => (rn (3 * p0 + 1)).bind fun w39 => gl (mset X32 86 p0 4 w39) fun X37 => gl (msl X37 87 (3 * p0 + 2) rz_87) fun X41 => bind2 (X7_init al N ((3 * p0 + 2)) (0 : Int32) (1 : Int32) X41) fun r44 X45 => (rk_14 ((3 * p0 + 2)) (X45 87 ((3 * p0 + 2)))).bind fun _ => gl (msl X45 14 ((3 * p0 + 2)) (upd (X45 87 ((3 * p0 + 2))) 9 (-1))) fun X47 => (rn (3 * p0 + 2)).bind fun w54 => gl (mset X47 86 p0 5 w54) fun X52 => some ((0 : Int32), X52)
def rm_X5_init : Room := { frames := 2, cells := 25, slots := 825, locals := 42 }
set_option maxRecDepth 100000 in
set_option maxHeartbeats 4000000 in
theorem s_X5_init {l : Launch} {D : va_G} {cA : Nat → ClassId} {ad : Nat → Nat → Nat} {NL : List (Nat × Nat)} {al : Nat → Nat → Bool} {N sz : Nat} {p0 : Nat} {X : gM} {rr : Int32} {XX : gM} (hD0 : gD (fun _ => True) ad NL) (hal : gAl ad) (ha : (86, p0) ∈ NL) (hA : gAdr ad sz (nw_X5_init p0)) (hf : X5_init al N p0 X = some (rr, XX)) : gCa l yX5_init cX5_init 1 none rm_X5_init 25 825 D cA ad NL [.ref (ad 86 p0)] X none (NL ++ (nw_X5_init p0)) XX sz := by
  refine g_ofA (by decide) hD0 (Nat.le_of_ble_eq_true rfl) rfl (fun p e s m below meth c ls hsz hin hAW C hP hS hl => ?_)
  have hx := C.1
  have hb := C.2.1
  have hA2 := hA
  simp only [nw_X5_init, gAdr_app, gAdr, List.length_append, List.length_cons, List.length_nil, nwl_X0_init, nwl_X1_init, nwl_X3_init, nwl_X4_init, nwl_X7_init, nwl_mna, Nat.add_assoc, Nat.reduceAdd, and_true, true_and] at hA2
  rw [X5_init] at hf
  refine lv_aload_n hx hb dX5_init_0 rfl (lv_at hl 0 rfl) ?_
  refine W.objInit hx hb C.2.2.2.1 (C.2.2.2.2.1 _ ob_X5_3) (C.2.2.2.2.1 _ ob_i.1) (C.2.2.2.2.1 _ ob_i.2) rfl (by rw [C.2.2.1]; exact hl.1) rfl dX5_init_1 (Nat.le_of_ble_eq_true rfl) (Nat.le_of_ble_eq_true rfl) ?_
  refine W.eq (g2 := F0 m 4 ls []) rfl ?_
  refine lv_aload_n hx hb dX5_init_4 rfl (lv_at hl 0 rfl) ?_
  refine lv_iconst (v := 4) hx hb dX5_init_5 (by decide) ?_
  refine r_put C hP hS (4 : Int32) ha (ct_86 _ _ _ _) px_X5_9 (fp_86_0 _ _ _ _ _) (Nat.le_of_ble_eq_true rfl) rfl rfl dX5_init_6 (fun H locs hP hS => ?_)
  obtain ⟨X1, e2, hf⟩ := gl_in hf
  rw [← e2] at hP
  refine lv_aload_n hx hb dX5_init_9 rfl (lv_at hl 0 rfl) ?_
  refine lv_bipush (v := 6) hx hb dX5_init_10 (by decide) ?_
  refine r_newq (K := 13) (i := p0) (t := 4) (N := 6) (x := fun _ => -1) C hP hS cl_X5_15 hAW.1 rfl rfl (by simp only [hsz, hA2, Nat.add_assoc, Nat.reduceAdd, Nat.add_zero, Nat.zero_add]) (by have := hS.1; omega) (by decide) (by decide) (by decide) (by decide) dX5_init_12 (fun C H hP hS => ?_)
  obtain ⟨X3, e4, hf⟩ := gl_in hf
  rw [← e4] at hP
  obtain ⟨w7, h8, hf⟩ := rn_in hf
  refine r_putF C hin hP hS w7 (by simp [ha]) (ct_86 _ _ _ _) pf_X5_17 (by rw [fp_86_1, gwref h8]) (Nat.le_of_ble_eq_true rfl) rfl rfl dX5_init_15 (fun H locs hP hS => ?_)
  obtain ⟨X5, e6, hf⟩ := gl_in hf
  rw [← e6] at hP
  refine lv_aload_n hx hb dX5_init_18 rfl (lv_at hl 0 rfl) ?_
  refine lv_iconst (v := 0) hx hb dX5_init_19 (by decide) ?_
  refine r_put C hP hS (0 : Int32) (by simp [ha]) (ct_86 _ _ _ _) px_X5_21 (fp_86_2 _ _ _ _ _) (Nat.le_of_ble_eq_true rfl) rfl rfl dX5_init_20 (fun H locs hP hS => ?_)
  obtain ⟨X9, e10, hf⟩ := gl_in hf
  rw [← e10] at hP
  refine lv_aload_n hx hb dX5_init_23 rfl (lv_at hl 0 rfl) ?_
  have h13 := al_14 hal ((3 * p0))
  refine r_new (K := 87) (i := (3 * p0)) (x := rz_87) C hP hS nx_X5_24 (rzc_87 _ _ _) (by simp only [hsz, hA2, h13, Nat.add_assoc, Nat.reduceAdd, Nat.add_zero, Nat.zero_add]) (g_lo hP (K := 13) (i := p0) (by simp) (by simp only [hsz, hA2, h13, Nat.add_assoc, Nat.reduceAdd, Nat.add_zero, Nat.zero_add])) (by decide) dX5_init_24 (fun C H hP hS => ?_)
  obtain ⟨X11, e12, hf⟩ := gl_in hf
  rw [← e12] at hP
  refine lv_dup hx hb dX5_init_27 rfl ?_
  refine lv_iconst (v := 0) hx hb dX5_init_28 (by decide) ?_
  refine lv_iconst (v := 0) hx hb dX5_init_29 (by decide) ?_
  obtain ⟨r14, X15, h16, hf⟩ := b2_in hf
  have h20 : gAdr ad (s.heap.size + (2)) (nw_X7_init ((3 * p0))) := by
    rw [hsz]
    simp only [hA2, Nat.reduceAdd]
  refine r_ini (rest := [.ref (ad 87 (3 * p0)), .ref (ad 86 p0)]) (new := (nw_X7_init ((3 * p0)))) (mc := 7) (ms := 260) C hAW hP hS hl.1 (s_X7_init (gD_in C.2.2.2.2.2.2.2.2.2.1 (fun _ _ => trivial)) hal (by simp) h20 h16) (gAdr_at h20) (g_lo hP (K := 87) (i := (3 * p0)) (by simp) (by simp only [hsz, hA2, h13, Nat.add_assoc, Nat.reduceAdd, Nat.add_zero, Nat.zero_add])) ix_X7_init im_X7_init rfl lk_X5_26 ⟨rfl, rfl, Nat.le_of_ble_eq_true rfl, Nat.le_of_ble_eq_true rfl⟩ rfl rfl (Nat.le_of_ble_eq_true rfl) ⟨Nat.le_of_ble_eq_true rfl, Nat.le_of_ble_eq_true rfl⟩ dX5_init_30 (fun C H locs hP hS => ?_)
  obtain ⟨h19, hf⟩ := rkl_14 (cA := cA) (ad := ad) hf
  obtain ⟨X17, e18, hf⟩ := gl_in hf
  have hP := gH_rek (K := 14) C.2.2.2.2.2.2.2.2.2.1 hP (by decide) (al_14 hal _) h19
  rw [← e18] at hP
  have C := gCx_rek (K := 14) C (al_14 hal _)
  rw [al_14 hal]
  have h21 : ad 21 ((3 * p0)) = s.heap.size + (2) + 6 := gAdr_at h20 6 (21, (3 * p0)) rfl
  obtain ⟨w24, h25, hf⟩ := rn_in hf
  refine r_putF C hin hP hS w24 (by simp [ha]) (ct_86 _ _ _ _) pf_X5_29 (by rw [fp_86_3, gwref h25]) (Nat.le_of_ble_eq_true rfl) rfl rfl dX5_init_33 (fun H locs hP hS => ?_)
  obtain ⟨X22, e23, hf⟩ := gl_in hf
  rw [← e23] at hP
  refine lv_aload_n hx hb dX5_init_36 rfl (lv_at hl 0 rfl) ?_
  have h28 := al_14 hal ((3 * p0 + 1))
  refine r_new (K := 87) (i := (3 * p0 + 1)) (x := rz_87) C hP hS nx_X5_24 (rzc_87 _ _ _) (by simp only [hsz, hA2, h13, h21, h28, Nat.add_assoc, Nat.reduceAdd, Nat.add_zero, Nat.zero_add]) (g_lo hP (K := 21) (i := (3 * p0)) (by simp [nw_X7_init, nw_X7_init]) (by simp only [hsz, hA2, h13, h21, h28, Nat.add_assoc, Nat.reduceAdd, Nat.add_zero, Nat.zero_add])) (by decide) dX5_init_37 (fun C H hP hS => ?_)
  obtain ⟨X26, e27, hf⟩ := gl_in hf
  rw [← e27] at hP
  refine lv_dup hx hb dX5_init_40 rfl ?_
  refine lv_iconst (v := 1) hx hb dX5_init_41 (by decide) ?_
  refine lv_iconst (v := 0) hx hb dX5_init_42 (by decide) ?_
  obtain ⟨r29, X30, h31, hf⟩ := b2_in hf
  have h35 : gAdr ad (s.heap.size + (10)) (nw_X7_init ((3 * p0 + 1))) := by
    rw [hsz]
    simp only [hA2, Nat.reduceAdd]
  refine r_ini (rest := [.ref (ad 87 (3 * p0 + 1)), .ref (ad 86 p0)]) (new := (nw_X7_init ((3 * p0 + 1)))) (mc := 7) (ms := 260) C hAW hP hS hl.1 (s_X7_init (gD_in C.2.2.2.2.2.2.2.2.2.1 (fun _ _ => trivial)) hal (by simp) h35 h31) (gAdr_at h35) (g_lo hP (K := 87) (i := (3 * p0 + 1)) (by simp) (by simp only [hsz, hA2, h13, h21, h28, Nat.add_assoc, Nat.reduceAdd, Nat.add_zero, Nat.zero_add])) ix_X7_init im_X7_init rfl lk_X5_26 ⟨rfl, rfl, Nat.le_of_ble_eq_true rfl, Nat.le_of_ble_eq_true rfl⟩ rfl rfl (Nat.le_of_ble_eq_true rfl) ⟨Nat.le_of_ble_eq_true rfl, Nat.le_of_ble_eq_true rfl⟩ dX5_init_43 (fun C H locs hP hS => ?_)
  obtain ⟨h34, hf⟩ := rkl_14 (cA := cA) (ad := ad) hf
  obtain ⟨X32, e33, hf⟩ := gl_in hf
  have hP := gH_rek (K := 14) C.2.2.2.2.2.2.2.2.2.1 hP (by decide) (al_14 hal _) h34
  rw [← e33] at hP
  have C := gCx_rek (K := 14) C (al_14 hal _)
  rw [al_14 hal]
  have h36 : ad 21 ((3 * p0 + 1)) = s.heap.size + (10) + 6 := gAdr_at h35 6 (21, (3 * p0 + 1)) rfl
  obtain ⟨w39, h40, hf⟩ := rn_in hf
  refine r_putF C hin hP hS w39 (by simp [ha]) (ct_86 _ _ _ _) pf_X5_33 (by rw [fp_86_4, gwref h40]) (Nat.le_of_ble_eq_true rfl) rfl rfl dX5_init_46 (fun H locs hP hS => ?_)
  obtain ⟨X37, e38, hf⟩ := gl_in hf
  rw [← e38] at hP
  refine lv_aload_n hx hb dX5_init_49 rfl (lv_at hl 0 rfl) ?_
  have h43 := al_14 hal ((3 * p0 + 2))
  refine r_new (K := 87) (i := (3 * p0 + 2)) (x := rz_87) C hP hS nx_X5_24 (rzc_87 _ _ _) (by simp only [hsz, hA2, h13, h21, h28, h36, h43, Nat.add_assoc, Nat.reduceAdd, Nat.add_zero, Nat.zero_add]) (g_lo hP (K := 21) (i := (3 * p0 + 1)) (by simp [nw_X7_init, nw_X7_init]) (by simp only [hsz, hA2, h13, h21, h28, h36, h43, Nat.add_assoc, Nat.reduceAdd, Nat.add_zero, Nat.zero_add])) (by decide) dX5_init_50 (fun C H hP hS => ?_)
  obtain ⟨X41, e42, hf⟩ := gl_in hf
  rw [← e42] at hP
  refine lv_dup hx hb dX5_init_53 rfl ?_
  refine lv_iconst (v := 0) hx hb dX5_init_54 (by decide) ?_
  refine lv_iconst (v := 1) hx hb dX5_init_55 (by decide) ?_
  obtain ⟨r44, X45, h46, hf⟩ := b2_in hf
  have h50 : gAdr ad (s.heap.size + (18)) (nw_X7_init ((3 * p0 + 2))) := by
    rw [hsz]
    simp only [hA2, Nat.reduceAdd]
  refine r_ini (rest := [.ref (ad 87 (3 * p0 + 2)), .ref (ad 86 p0)]) (new := (nw_X7_init ((3 * p0 + 2)))) (mc := 7) (ms := 260) C hAW hP hS hl.1 (s_X7_init (gD_in C.2.2.2.2.2.2.2.2.2.1 (fun _ _ => trivial)) hal (by simp) h50 h46) (gAdr_at h50) (g_lo hP (K := 87) (i := (3 * p0 + 2)) (by simp) (by simp only [hsz, hA2, h13, h21, h28, h36, h43, Nat.add_assoc, Nat.reduceAdd, Nat.add_zero, Nat.zero_add])) ix_X7_init im_X7_init rfl lk_X5_26 ⟨rfl, rfl, Nat.le_of_ble_eq_true rfl, Nat.le_of_ble_eq_true rfl⟩ rfl rfl (Nat.le_of_ble_eq_true rfl) ⟨Nat.le_of_ble_eq_true rfl, Nat.le_of_ble_eq_true rfl⟩ dX5_init_56 (fun C H locs hP hS => ?_)
  obtain ⟨h49, hf⟩ := rkl_14 (cA := cA) (ad := ad) hf
  obtain ⟨X47, e48, hf⟩ := gl_in hf
  have hP := gH_rek (K := 14) C.2.2.2.2.2.2.2.2.2.1 hP (by decide) (al_14 hal _) h49
  rw [← e48] at hP
  have C := gCx_rek (K := 14) C (al_14 hal _)
  rw [al_14 hal]
  have h51 : ad 21 ((3 * p0 + 2)) = s.heap.size + (18) + 6 := gAdr_at h50 6 (21, (3 * p0 + 2)) rfl
  obtain ⟨w54, h55, hf⟩ := rn_in hf
  refine r_putF C hin hP hS w54 (by simp [ha]) (ct_86 _ _ _ _) pf_X5_36 (by rw [fp_86_5, gwref h55]) (Nat.le_of_ble_eq_true rfl) rfl rfl dX5_init_59 (fun H locs hP hS => ?_)
  obtain ⟨X52, e53, hf⟩ := gl_in hf
  rw [← e53] at hP
  rw [show NL ++ nw_X5_init p0 = (((((((NL ++ [(13, p0)]) ++ [(14, (3 * p0))]) ++ (nw_X7_init ((3 * p0)))) ++ [(14, (3 * p0 + 1))]) ++ (nw_X7_init ((3 * p0 + 1)))) ++ [(14, (3 * p0 + 2))]) ++ (nw_X7_init ((3 * p0 + 2)))) from by simp [nw_X5_init]]
  obtain ⟨rfl, rfl⟩ := g_s1 hf
  exact r_vret C hP hS dX5_init_62

