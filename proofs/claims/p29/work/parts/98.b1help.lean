/-! the law's methods with handlers -/
def rm_Q_gives : Room := { frames := 7, cells := 1, slots := 6, locals := 117 }
set_option maxRecDepth 100000 in
set_option maxHeartbeats 4000000 in
theorem s_Q_gives {l : Launch} {D : va_G} {cA : Nat → ClassId} {ad : Nat → Nat → Nat} {NL : List (Nat × Nat)} {N sz : Nat} {p1 : Int32} {p2 : Int32} {p3 : Int32} {p4 : Int32} {p5 : Int32} {X : gM} {rr : Int32} {XX : gM} (htr : l.stackTraces = false) (hW : gWf NL) (hD0 : gD (fun _ => True) ad NL) (ha0 : (0, 0) ∈ NL) (hg : ∀ n ∈ NL, n.1 < 43) (hf : Q_gives (gal NL) N p1 p2 p3 p4 p5 X = some (rr, XX)) : gCL l yL_gives cL_gives 7 [(0, 12, 13, 42), (0, 12, 18, 44)] rm_Q_gives 1 6 D cA ad NL [.ref (ad 0 0), .int p1, .int p2, .int p3, .int p4, .int p5] X rr [] XX sz := by
  refine g_ofL (nw := []) (by decide) rfl hD0 (Nat.le_of_ble_eq_true rfl) rfl (fun p e s m below meth c ls hsz CL hP hS hl => ?_)
  have C := CL.1
  have hx := C.1
  have hb := C.2.1
  rw [Q_gives] at hf
  refine lv_aload_n hx hb dL_gives_0 rfl (lv_at hl 0 rfl) ?_
  refine lv_iload_n hx hb dL_gives_1 rfl (lv_at hl 1 rfl) ?_
  refine lv_iload_n hx hb dL_gives_2 rfl (lv_at hl 2 rfl) ?_
  refine lv_iconst (v := 0) hx hb dL_gives_3 (by decide) ?_
  refine lv_iload_n hx hb dL_gives_4 rfl (lv_at hl 3 rfl) ?_
  refine lv_iload hx hb dL_gives_5 (lv_at hl 4 rfl) ?_
  refine lv_iload hx hb dL_gives_7 (lv_at hl 5 rfl) ?_
  obtain ⟨k4, r2, X1, h3, hf⟩ := b3_in hf
  refine r_callX (nw := []) (rest := []) C CL.2.1 CL.2.2.1 CL.2.2.2.1 hP hS hl.1 rfl (gCX_A (s_P_give htr hW hD0 ha0 hg h3)) True.intro ix_X9_give iv_X9_give ls_L_48 ⟨rfl, rfl, Nat.le_of_ble_eq_true rfl, Nat.le_of_ble_eq_true rfl⟩ ha0 (ct_0 _ _ _ _) rfl rfl rfl rfl (Nat.le_of_ble_eq_true rfl) ⟨Nat.le_of_ble_eq_true rfl, Nat.le_of_ble_eq_true rfl⟩ dL_gives_9 (fun hk0 C H locs hP hS => ?_) (fun hk0 ce q9 H locs hP hS hce hcv hcl => ?_)
  · subst hk0
    have hf := g_ip rfl hf
    show W p l e rm_Q_gives s m _ below meth c H locs _ _ _ (F0 m 12 ls [.int r2])
    obtain ⟨rfl, rfl⟩ := g_s1 hf
    refine W.widen (k := 1) (n := 6) (Nat.le_of_ble_eq_true rfl) (Nat.le_of_ble_eq_true rfl) ?_
    exact r_iret C hP hS dL_gives_12
  · have hf := g_in hk0 hf
    by_cases e0 : k4 = 3
    · subst e0
      have hf := g_ip rfl hf
      obtain ⟨rfl, rfl⟩ := g_s1 hf
      rw [List.append_nil]
      refine vx_catch (own := RL) (E := gXC 3) (name := gXC 3) C.2.2.2.1 [] ⟨0, 12, 13, 42⟩ [⟨0, 12, 18, 44⟩] (CL.2.2.2.2.2.trans rfl) (fun z hz => nomatch hz) (by decide) (by decide) (C.2.2.2.2.1 _ cx_42) (gEW_at CL.2.1 cs_3) hce hcv hcl ?_
      refine lv_astore (i := 6) (lv' := [(6, .ref q9), (0, .ref (ad 0 0)), (1, .int p1), (2, .int p2), (3, .int p3), (4, .int p4), (5, .int p5)]) hx hb dL_gives_13 hl (Nat.le_of_ble_eq_true rfl) rfl (fun ls hl => ?_)
      refine lv_bipush (v := -9) hx hb dL_gives_15 (by decide) ?_
      refine W.widen (k := 1) (n := 6) (Nat.le_of_ble_eq_true rfl) (Nat.le_of_ble_eq_true rfl) ?_
      exact r_iret C hP hS dL_gives_17
    · have hf := g_in e0 hf
      by_cases e1 : k4 = 1
      · subst e1
        have hf := g_ip rfl hf
        obtain ⟨rfl, rfl⟩ := g_s1 hf
        rw [List.append_nil]
        refine vx_catch (own := RL) (E := gXC 1) (name := gXC 1) C.2.2.2.1 [⟨0, 12, 13, 42⟩] ⟨0, 12, 18, 44⟩ [] (CL.2.2.2.2.2.trans rfl) (fun z hz => by simp only [List.mem_singleton] at hz; subst hz; exact Or.inr ⟨by decide, gXC 3, C.2.2.2.2.1 _ cx_42, CL.2.2.2.2.1 1 3 (by decide) (by decide) (by decide)⟩) (by decide) (by decide) (C.2.2.2.2.1 _ cx_44) (gEW_at CL.2.1 cs_1) hce hcv hcl ?_
        refine lv_astore (i := 6) (lv' := [(6, .ref q9), (0, .ref (ad 0 0)), (1, .int p1), (2, .int p2), (3, .int p3), (4, .int p4), (5, .int p5)]) hx hb dL_gives_18 hl (Nat.le_of_ble_eq_true rfl) rfl (fun ls hl => ?_)
        refine lv_bipush (v := -8) hx hb dL_gives_20 (by decide) ?_
        refine W.widen (k := 1) (n := 6) (Nat.le_of_ble_eq_true rfl) (Nat.le_of_ble_eq_true rfl) ?_
        exact r_iret C hP hS dL_gives_22
      · have hf := g_in e1 hf
        cases hf

def rm_Q_unmixed : Room := { frames := 7, cells := 1, slots := 6, locals := 114 }
set_option maxRecDepth 100000 in
set_option maxHeartbeats 4000000 in
theorem s_Q_unmixed {l : Launch} {D : va_G} {cA : Nat → ClassId} {ad : Nat → Nat → Nat} {NL : List (Nat × Nat)} {N sz : Nat} {p1 : Int32} {p2 : Int32} {p3 : Int32} {X : gM} {rr : Int32} {XX : gM} (htr : l.stackTraces = false) (hW : gWf NL) (hD0 : gD (fun _ => True) ad NL) (ha0 : (0, 0) ∈ NL) (hg : ∀ n ∈ NL, n.1 < 43) (hf : Q_unmixed (gal NL) N p1 p2 p3 X = some (rr, XX)) : gCL l yL_unmixed cL_unmixed 5 [(0, 8, 9, 44)] rm_Q_unmixed 1 6 D cA ad NL [.ref (ad 0 0), .int p1, .int p2, .int p3] X rr [] XX sz := by
  refine g_ofL (nw := []) (by decide) rfl hD0 (Nat.le_of_ble_eq_true rfl) rfl (fun p e s m below meth c ls hsz CL hP hS hl => ?_)
  have C := CL.1
  have hx := C.1
  have hb := C.2.1
  rw [Q_unmixed] at hf
  refine lv_aload_n hx hb dL_unmixed_0 rfl (lv_at hl 0 rfl) ?_
  refine lv_iload_n hx hb dL_unmixed_1 rfl (lv_at hl 1 rfl) ?_
  refine lv_iconst (v := 0) hx hb dL_unmixed_2 (by decide) ?_
  refine lv_iload_n hx hb dL_unmixed_3 rfl (lv_at hl 2 rfl) ?_
  refine lv_iload_n hx hb dL_unmixed_4 rfl (lv_at hl 3 rfl) ?_
  obtain ⟨k4, r2, X1, h3, hf⟩ := b3_in hf
  refine r_callX (nw := []) (rest := []) C CL.2.1 CL.2.2.1 CL.2.2.2.1 hP hS hl.1 rfl (gCX_A (s_P_unmix htr hW hD0 ha0 hg h3)) True.intro ix_X9_unmix iv_X9_unmix ls_L_52 ⟨rfl, rfl, Nat.le_of_ble_eq_true rfl, Nat.le_of_ble_eq_true rfl⟩ ha0 (ct_0 _ _ _ _) rfl rfl rfl rfl (Nat.le_of_ble_eq_true rfl) ⟨Nat.le_of_ble_eq_true rfl, Nat.le_of_ble_eq_true rfl⟩ dL_unmixed_5 (fun hk0 C H locs hP hS => ?_) (fun hk0 ce q9 H locs hP hS hce hcv hcl => ?_)
  · subst hk0
    have hf := g_ip rfl hf
    show W p l e rm_Q_unmixed s m _ below meth c H locs _ _ _ (F0 m 8 ls [.int r2])
    obtain ⟨rfl, rfl⟩ := g_s1 hf
    refine W.widen (k := 1) (n := 6) (Nat.le_of_ble_eq_true rfl) (Nat.le_of_ble_eq_true rfl) ?_
    exact r_iret C hP hS dL_unmixed_8
  · have hf := g_in hk0 hf
    by_cases e0 : k4 = 1
    · subst e0
      have hf := g_ip rfl hf
      obtain ⟨rfl, rfl⟩ := g_s1 hf
      rw [List.append_nil]
      refine vx_catch (own := RL) (E := gXC 1) (name := gXC 1) C.2.2.2.1 [] ⟨0, 8, 9, 44⟩ [] (CL.2.2.2.2.2.trans rfl) (fun z hz => nomatch hz) (by decide) (by decide) (C.2.2.2.2.1 _ cx_44) (gEW_at CL.2.1 cs_1) hce hcv hcl ?_
      refine lv_astore (i := 4) (lv' := [(4, .ref q9), (0, .ref (ad 0 0)), (1, .int p1), (2, .int p2), (3, .int p3)]) hx hb dL_unmixed_9 hl (Nat.le_of_ble_eq_true rfl) rfl (fun ls hl => ?_)
      refine lv_bipush (v := -8) hx hb dL_unmixed_11 (by decide) ?_
      refine W.widen (k := 1) (n := 6) (Nat.le_of_ble_eq_true rfl) (Nat.le_of_ble_eq_true rfl) ?_
      exact r_iret C hP hS dL_unmixed_13
    · have hf := g_in e0 hf
      cases hf

def rm_Q_imaged : Room := { frames := 7, cells := 1, slots := 6, locals := 115 }
set_option maxRecDepth 100000 in
set_option maxHeartbeats 4000000 in
theorem s_Q_imaged {l : Launch} {D : va_G} {cA : Nat → ClassId} {ad : Nat → Nat → Nat} {NL : List (Nat × Nat)} {N sz : Nat} {p1 : Int32} {p2 : Int32} {p3 : Int32} {p4 : Int32} {X : gM} {rr : Int32} {XX : gM} (htr : l.stackTraces = false) (hW : gWf NL) (hD0 : gD (fun _ => True) ad NL) (ha0 : (0, 0) ∈ NL) (hg : ∀ n ∈ NL, n.1 < 43) (hf : Q_imaged (gal NL) N p1 p2 p3 p4 X = some (rr, XX)) : gCL l yL_imaged cL_imaged 6 [(0, 10, 11, 44)] rm_Q_imaged 1 6 D cA ad NL [.ref (ad 0 0), .int p1, .int p2, .int p3, .int p4] X rr [] XX sz := by
  refine g_ofL (nw := []) (by decide) rfl hD0 (Nat.le_of_ble_eq_true rfl) rfl (fun p e s m below meth c ls hsz CL hP hS hl => ?_)
  have C := CL.1
  have hx := C.1
  have hb := C.2.1
  rw [Q_imaged] at hf
  refine lv_aload_n hx hb dL_imaged_0 rfl (lv_at hl 0 rfl) ?_
  refine lv_iload_n hx hb dL_imaged_1 rfl (lv_at hl 1 rfl) ?_
  refine lv_iconst (v := 0) hx hb dL_imaged_2 (by decide) ?_
  refine lv_iload_n hx hb dL_imaged_3 rfl (lv_at hl 2 rfl) ?_
  refine lv_iload_n hx hb dL_imaged_4 rfl (lv_at hl 3 rfl) ?_
  refine lv_iload hx hb dL_imaged_5 (lv_at hl 4 rfl) ?_
  obtain ⟨k4, r2, X1, h3, hf⟩ := b3_in hf
  refine r_callX (nw := []) (rest := []) C CL.2.1 CL.2.2.1 CL.2.2.2.1 hP hS hl.1 rfl (gCX_A (s_P_image htr hW hD0 ha0 hg h3)) True.intro ix_X9_image iv_X9_image ls_L_55 ⟨rfl, rfl, Nat.le_of_ble_eq_true rfl, Nat.le_of_ble_eq_true rfl⟩ ha0 (ct_0 _ _ _ _) rfl rfl rfl rfl (Nat.le_of_ble_eq_true rfl) ⟨Nat.le_of_ble_eq_true rfl, Nat.le_of_ble_eq_true rfl⟩ dL_imaged_7 (fun hk0 C H locs hP hS => ?_) (fun hk0 ce q9 H locs hP hS hce hcv hcl => ?_)
  · subst hk0
    have hf := g_ip rfl hf
    show W p l e rm_Q_imaged s m _ below meth c H locs _ _ _ (F0 m 10 ls [.int r2])
    obtain ⟨rfl, rfl⟩ := g_s1 hf
    refine W.widen (k := 1) (n := 6) (Nat.le_of_ble_eq_true rfl) (Nat.le_of_ble_eq_true rfl) ?_
    exact r_iret C hP hS dL_imaged_10
  · have hf := g_in hk0 hf
    by_cases e0 : k4 = 1
    · subst e0
      have hf := g_ip rfl hf
      obtain ⟨rfl, rfl⟩ := g_s1 hf
      rw [List.append_nil]
      refine vx_catch (own := RL) (E := gXC 1) (name := gXC 1) C.2.2.2.1 [] ⟨0, 10, 11, 44⟩ [] (CL.2.2.2.2.2.trans rfl) (fun z hz => nomatch hz) (by decide) (by decide) (C.2.2.2.2.1 _ cx_44) (gEW_at CL.2.1 cs_1) hce hcv hcl ?_
      refine lv_astore (i := 5) (lv' := [(5, .ref q9), (0, .ref (ad 0 0)), (1, .int p1), (2, .int p2), (3, .int p3), (4, .int p4)]) hx hb dL_imaged_11 hl (Nat.le_of_ble_eq_true rfl) rfl (fun ls hl => ?_)
      refine lv_bipush (v := -8) hx hb dL_imaged_13 (by decide) ?_
      refine W.widen (k := 1) (n := 6) (Nat.le_of_ble_eq_true rfl) (Nat.le_of_ble_eq_true rfl) ?_
      exact r_iret C hP hS dL_imaged_15
    · have hf := g_in e0 hf
      cases hf

def rm_Q_acts0 : Room := { frames := 7, cells := 130, slots := 877, locals := 252 }
set_option maxRecDepth 100000 in
set_option maxHeartbeats 4000000 in
theorem s_Q_acts0 {l : Launch} {D : va_G} {cA : Nat → ClassId} {ad : Nat → Nat → Nat} {NL nw : List (Nat × Nat)} {N sz : Nat} {p2 : Int32} {p3 : Int32} {p4 : Int32} {X : gM} {rr : Int32} {XX : gM} (htr : l.stackTraces = false) (hW : gWf NL) (hD0 : gD (fun _ => True) ad NL) (hal : gAl ad) (hadr : gAdr ad sz nw) (ha0 : (0, 0) ∈ NL) (hg2 : ∀ n ∈ NL ++ nw, n.1 < 43) (hf : Q_acts0 (gal NL) N nw p2 p3 p4 X = some (rr, XX)) : gCL l yL_acts cL_acts 6 [(0, 126, 127, 42), (0, 126, 132, 44), (0, 126, 137, 46)] rm_Q_acts0 130 877 D cA ad NL [.ref (ad 0 0), .int (0 : Int32), .int p2, .int p3, .int p4] X rr nw XX sz := by
  refine g_ofL (nw := nw) (by decide) rfl hD0 (Nat.le_of_ble_eq_true rfl) rfl (fun p e s m below meth c ls hsz CL hP hS hl => ?_)
  have C := CL.1
  have hx := C.1
  have hb := C.2.1
  rw [Q_acts0] at hf
  refine lv_iload_n hx hb dL_acts_0 rfl (lv_at hl 1 rfl) ?_
  refine lv_if_ne (tgt := 40) hx hb dL_acts_1 (by decide) (fun c1 => ?_) (fun c1 => ?_)
  · exact absurd c1 (by decide)
  refine lv_aload_n hx hb dL_acts_4 rfl (lv_at hl 0 rfl) ?_
  refine lv_iload_n hx hb dL_acts_5 rfl (lv_at hl 2 rfl) ?_
  refine lv_iconst (v := 1) hx hb dL_acts_6 (by decide) ?_
  refine lv_iload_n hx hb dL_acts_7 rfl (lv_at hl 3 rfl) ?_
  refine lv_iconst (v := 2) hx hb dL_acts_8 (by decide) ?_
  refine r_low (rest := [.int (1 : Int32), .int p2, .ref (ad 0 0)]) C hP hS hl.1 (by decide) ls_L_9 ⟨rfl, rfl, Nat.le_of_ble_eq_true rfl, Nat.le_of_ble_eq_true rfl⟩ (Nat.le_of_ble_eq_true rfl) ⟨Nat.zero_le _, Nat.zero_le _⟩ dL_acts_9 (fun locs hP hS => ?_)
  refine g_top hf (fun v2 e3 hf => ?_)
  refine lv_iadd hx hb dL_acts_12 ?_
  refine lv_iconst (v := 1) hx hb dL_acts_13 (by decide) ?_
  refine lv_iload_n hx hb dL_acts_14 rfl (lv_at hl 3 rfl) ?_
  refine lv_iconst (v := 2) hx hb dL_acts_15 (by decide) ?_
  refine lv_ishr hx hb dL_acts_16 ?_
  refine lv_bipush (v := 6) hx hb dL_acts_17 (by decide) ?_
  refine r_low (rest := [.int (1 : Int32), .int ((1 : Int32) + v2), .int p2, .ref (ad 0 0)]) C hP hS hl.1 (by decide) ls_L_9 ⟨rfl, rfl, Nat.le_of_ble_eq_true rfl, Nat.le_of_ble_eq_true rfl⟩ (Nat.le_of_ble_eq_true rfl) ⟨Nat.zero_le _, Nat.zero_le _⟩ dL_acts_19 (fun locs hP hS => ?_)
  refine g_top hf (fun v4 e5 hf => ?_)
  refine lv_iadd hx hb dL_acts_22 ?_
  refine lv_iload_n hx hb dL_acts_23 rfl (lv_at hl 3 rfl) ?_
  refine lv_iconst (v := 5) hx hb dL_acts_24 (by decide) ?_
  refine lv_ishr hx hb dL_acts_25 ?_
  refine lv_iconst (v := 3) hx hb dL_acts_26 (by decide) ?_
  refine r_low (rest := [.int ((1 : Int32) + v4), .int ((1 : Int32) + v2), .int p2, .ref (ad 0 0)]) C hP hS hl.1 (by decide) ls_L_9 ⟨rfl, rfl, Nat.le_of_ble_eq_true rfl, Nat.le_of_ble_eq_true rfl⟩ (Nat.le_of_ble_eq_true rfl) ⟨Nat.zero_le _, Nat.zero_le _⟩ dL_acts_27 (fun locs hP hS => ?_)
  refine g_top hf (fun v6 e7 hf => ?_)
  refine lv_iconst (v := 1) hx hb dL_acts_30 (by decide) ?_
  refine lv_isub hx hb dL_acts_31 ?_
  refine lv_iload hx hb dL_acts_32 (lv_at hl 4 rfl) ?_
  obtain ⟨k11, r9, X8, h10, hf⟩ := b3_in hf
  refine r_callX (nw := nw) (rest := []) C CL.2.1 CL.2.2.1 CL.2.2.2.1 hP hS hl.1 rfl (s_P_leaf htr hW hD0 hal (by rw [hsz]; exact hadr) ha0 hg2 h10) (by rw [hsz]; exact hadr) ix_X9_leaf iv_X9_leaf ls_L_15 ⟨rfl, rfl, Nat.le_of_ble_eq_true rfl, Nat.le_of_ble_eq_true rfl⟩ ha0 (ct_0 _ _ _ _) rfl rfl rfl rfl (Nat.le_of_ble_eq_true rfl) ⟨Nat.le_of_ble_eq_true rfl, Nat.le_of_ble_eq_true rfl⟩ dL_acts_34 (fun hk0 C H locs hP hS => ?_) (fun hk0 ce q9 H locs hP hS hce hcv hcl => ?_)
  · subst hk0
    have hf := g_ip rfl hf
    show W p l e rm_Q_acts0 s m _ below meth c H locs _ _ _ (F0 m 37 ls [.int r9])
    refine lv_goto (tgt := 126) hx hb dL_acts_37 (by decide) ?_
    obtain ⟨rfl, rfl⟩ := g_s1 hf
    refine W.widen (k := 130) (n := 877) (Nat.le_of_ble_eq_true rfl) (Nat.le_of_ble_eq_true rfl) ?_
    exact r_iret C hP hS dL_acts_126
  · have hf := g_in hk0 hf
    by_cases e0 : k11 = 3
    · subst e0
      have hf := g_ip rfl hf
      obtain ⟨hnw, hf⟩ := eqn_in hf
      obtain ⟨rfl, rfl⟩ := g_s1 hf
      rw [hnw, List.append_nil]
      refine vx_catch (own := RL) (E := gXC 3) (name := gXC 3) C.2.2.2.1 [] ⟨0, 126, 127, 42⟩ [⟨0, 126, 132, 44⟩, ⟨0, 126, 137, 46⟩] (CL.2.2.2.2.2.trans rfl) (fun z hz => nomatch hz) (by decide) (by decide) (C.2.2.2.2.1 _ cx_42) (gEW_at CL.2.1 cs_3) hce hcv hcl ?_
      refine lv_astore (i := 5) (lv' := [(5, .ref q9), (0, .ref (ad 0 0)), (1, .int (0 : Int32)), (2, .int p2), (3, .int p3), (4, .int p4)]) hx hb dL_acts_127 hl (Nat.le_of_ble_eq_true rfl) rfl (fun ls hl => ?_)
      refine lv_bipush (v := -9) hx hb dL_acts_129 (by decide) ?_
      refine W.widen (k := 130) (n := 877) (Nat.le_of_ble_eq_true rfl) (Nat.le_of_ble_eq_true rfl) ?_
      exact r_iret C hP hS dL_acts_131
    · have hf := g_in e0 hf
      by_cases e1 : k11 = 1
      · subst e1
        have hf := g_ip rfl hf
        obtain ⟨hnw, hf⟩ := eqn_in hf
        obtain ⟨rfl, rfl⟩ := g_s1 hf
        rw [hnw, List.append_nil]
        refine vx_catch (own := RL) (E := gXC 1) (name := gXC 1) C.2.2.2.1 [⟨0, 126, 127, 42⟩] ⟨0, 126, 132, 44⟩ [⟨0, 126, 137, 46⟩] (CL.2.2.2.2.2.trans rfl) (fun z hz => by simp only [List.mem_singleton] at hz; subst hz; exact Or.inr ⟨by decide, gXC 3, C.2.2.2.2.1 _ cx_42, CL.2.2.2.2.1 1 3 (by decide) (by decide) (by decide)⟩) (by decide) (by decide) (C.2.2.2.2.1 _ cx_44) (gEW_at CL.2.1 cs_1) hce hcv hcl ?_
        refine lv_astore (i := 5) (lv' := [(5, .ref q9), (0, .ref (ad 0 0)), (1, .int (0 : Int32)), (2, .int p2), (3, .int p3), (4, .int p4)]) hx hb dL_acts_132 hl (Nat.le_of_ble_eq_true rfl) rfl (fun ls hl => ?_)
        refine lv_bipush (v := -8) hx hb dL_acts_134 (by decide) ?_
        refine W.widen (k := 130) (n := 877) (Nat.le_of_ble_eq_true rfl) (Nat.le_of_ble_eq_true rfl) ?_
        exact r_iret C hP hS dL_acts_136
      · have hf := g_in e1 hf
        by_cases e2 : k11 = 2
        · subst e2
          have hf := g_ip rfl hf
          obtain ⟨hnw, hf⟩ := eqn_in hf
          obtain ⟨rfl, rfl⟩ := g_s1 hf
          rw [hnw, List.append_nil]
          refine vx_catch (own := RL) (E := gXC 2) (name := gXC 2) C.2.2.2.1 [⟨0, 126, 127, 42⟩, ⟨0, 126, 132, 44⟩] ⟨0, 126, 137, 46⟩ [] (CL.2.2.2.2.2.trans rfl) (fun z hz => by simp only [List.mem_cons, List.not_mem_nil, or_false] at hz; rcases hz with rfl | rfl; exact Or.inr ⟨by decide, gXC 3, C.2.2.2.2.1 _ cx_42, CL.2.2.2.2.1 2 3 (by decide) (by decide) (by decide)⟩; exact Or.inr ⟨by decide, gXC 1, C.2.2.2.2.1 _ cx_44, CL.2.2.2.2.1 2 1 (by decide) (by decide) (by decide)⟩) (by decide) (by decide) (C.2.2.2.2.1 _ cx_46) (gEW_at CL.2.1 cs_2) hce hcv hcl ?_
          refine lv_astore (i := 5) (lv' := [(5, .ref q9), (0, .ref (ad 0 0)), (1, .int (0 : Int32)), (2, .int p2), (3, .int p3), (4, .int p4)]) hx hb dL_acts_137 hl (Nat.le_of_ble_eq_true rfl) rfl (fun ls hl => ?_)
          refine lv_bipush (v := -7) hx hb dL_acts_139 (by decide) ?_
          refine W.widen (k := 130) (n := 877) (Nat.le_of_ble_eq_true rfl) (Nat.le_of_ble_eq_true rfl) ?_
          exact r_iret C hP hS dL_acts_141
        · have hf := g_in e2 hf
          cases hf

def rm_Q_acts1 : Room := { frames := 7, cells := 1, slots := 6, locals := 113 }
set_option maxRecDepth 100000 in
set_option maxHeartbeats 4000000 in
theorem s_Q_acts1 {l : Launch} {D : va_G} {cA : Nat → ClassId} {ad : Nat → Nat → Nat} {NL : List (Nat × Nat)} {N sz : Nat} {p2 : Int32} {p3 : Int32} {p4 : Int32} {X : gM} {rr : Int32} {XX : gM} (htr : l.stackTraces = false) (hW : gWf NL) (hD0 : gD (fun _ => True) ad NL) (ha0 : (0, 0) ∈ NL) (hg : ∀ n ∈ NL, n.1 < 43) (hf : Q_acts1 (gal NL) N p2 p3 p4 X = some (rr, XX)) : gCL l yL_acts cL_acts 6 [(0, 126, 127, 42), (0, 126, 132, 44), (0, 126, 137, 46)] rm_Q_acts1 1 6 D cA ad NL [.ref (ad 0 0), .int (1 : Int32), .int p2, .int p3, .int p4] X rr [] XX sz := by
  refine g_ofL (nw := []) (by decide) rfl hD0 (Nat.le_of_ble_eq_true rfl) rfl (fun p e s m below meth c ls hsz CL hP hS hl => ?_)
  have C := CL.1
  have hx := C.1
  have hb := C.2.1
  rw [Q_acts1] at hf
  refine lv_iload_n hx hb dL_acts_0 rfl (lv_at hl 1 rfl) ?_
  refine lv_if_ne (tgt := 40) hx hb dL_acts_1 (by decide) (fun c1 => ?_) (fun c1 => ?_)
  rotate_left
  · exact absurd c1 (by decide)
  refine lv_iload_n hx hb dL_acts_40 rfl (lv_at hl 1 rfl) ?_
  refine lv_iconst (v := 1) hx hb dL_acts_41 (by decide) ?_
  refine lv_icmp_ne (tgt := 54) hx hb dL_acts_42 (by decide) (fun c2 => ?_) (fun c2 => ?_)
  · exact absurd c2 (by decide)
  refine lv_aload_n hx hb dL_acts_45 rfl (lv_at hl 0 rfl) ?_
  refine lv_iload_n hx hb dL_acts_46 rfl (lv_at hl 2 rfl) ?_
  refine lv_iload_n hx hb dL_acts_47 rfl (lv_at hl 3 rfl) ?_
  obtain ⟨k6, r4, X3, h5, hf⟩ := b3_in hf
  refine r_callX (nw := []) (rest := []) C CL.2.1 CL.2.2.1 CL.2.2.2.1 hP hS hl.1 rfl (gCX_A (s_P_sheets htr hW hD0 ha0 hg h5)) True.intro ix_X9_sheets iv_X9_sheets ls_L_21 ⟨rfl, rfl, Nat.le_of_ble_eq_true rfl, Nat.le_of_ble_eq_true rfl⟩ ha0 (ct_0 _ _ _ _) rfl rfl rfl rfl (Nat.le_of_ble_eq_true rfl) ⟨Nat.le_of_ble_eq_true rfl, Nat.le_of_ble_eq_true rfl⟩ dL_acts_48 (fun hk0 C H locs hP hS => ?_) (fun hk0 ce q9 H locs hP hS hce hcv hcl => ?_)
  · subst hk0
    have hf := g_ip rfl hf
    show W p l e rm_Q_acts1 s m _ below meth c H locs _ _ _ (F0 m 51 ls [.int r4])
    refine lv_goto (tgt := 126) hx hb dL_acts_51 (by decide) ?_
    obtain ⟨rfl, rfl⟩ := g_s1 hf
    refine W.widen (k := 1) (n := 6) (Nat.le_of_ble_eq_true rfl) (Nat.le_of_ble_eq_true rfl) ?_
    exact r_iret C hP hS dL_acts_126
  · have hf := g_in hk0 hf
    by_cases e0 : k6 = 3
    · subst e0
      have hf := g_ip rfl hf
      obtain ⟨rfl, rfl⟩ := g_s1 hf
      rw [List.append_nil]
      refine vx_catch (own := RL) (E := gXC 3) (name := gXC 3) C.2.2.2.1 [] ⟨0, 126, 127, 42⟩ [⟨0, 126, 132, 44⟩, ⟨0, 126, 137, 46⟩] (CL.2.2.2.2.2.trans rfl) (fun z hz => nomatch hz) (by decide) (by decide) (C.2.2.2.2.1 _ cx_42) (gEW_at CL.2.1 cs_3) hce hcv hcl ?_
      refine lv_astore (i := 5) (lv' := [(5, .ref q9), (0, .ref (ad 0 0)), (1, .int (1 : Int32)), (2, .int p2), (3, .int p3), (4, .int p4)]) hx hb dL_acts_127 hl (Nat.le_of_ble_eq_true rfl) rfl (fun ls hl => ?_)
      refine lv_bipush (v := -9) hx hb dL_acts_129 (by decide) ?_
      refine W.widen (k := 1) (n := 6) (Nat.le_of_ble_eq_true rfl) (Nat.le_of_ble_eq_true rfl) ?_
      exact r_iret C hP hS dL_acts_131
    · have hf := g_in e0 hf
      by_cases e1 : k6 = 1
      · subst e1
        have hf := g_ip rfl hf
        obtain ⟨rfl, rfl⟩ := g_s1 hf
        rw [List.append_nil]
        refine vx_catch (own := RL) (E := gXC 1) (name := gXC 1) C.2.2.2.1 [⟨0, 126, 127, 42⟩] ⟨0, 126, 132, 44⟩ [⟨0, 126, 137, 46⟩] (CL.2.2.2.2.2.trans rfl) (fun z hz => by simp only [List.mem_singleton] at hz; subst hz; exact Or.inr ⟨by decide, gXC 3, C.2.2.2.2.1 _ cx_42, CL.2.2.2.2.1 1 3 (by decide) (by decide) (by decide)⟩) (by decide) (by decide) (C.2.2.2.2.1 _ cx_44) (gEW_at CL.2.1 cs_1) hce hcv hcl ?_
        refine lv_astore (i := 5) (lv' := [(5, .ref q9), (0, .ref (ad 0 0)), (1, .int (1 : Int32)), (2, .int p2), (3, .int p3), (4, .int p4)]) hx hb dL_acts_132 hl (Nat.le_of_ble_eq_true rfl) rfl (fun ls hl => ?_)
        refine lv_bipush (v := -8) hx hb dL_acts_134 (by decide) ?_
        refine W.widen (k := 1) (n := 6) (Nat.le_of_ble_eq_true rfl) (Nat.le_of_ble_eq_true rfl) ?_
        exact r_iret C hP hS dL_acts_136
      · have hf := g_in e1 hf
        by_cases e2 : k6 = 2
        · subst e2
          have hf := g_ip rfl hf
          obtain ⟨rfl, rfl⟩ := g_s1 hf
          rw [List.append_nil]
          refine vx_catch (own := RL) (E := gXC 2) (name := gXC 2) C.2.2.2.1 [⟨0, 126, 127, 42⟩, ⟨0, 126, 132, 44⟩] ⟨0, 126, 137, 46⟩ [] (CL.2.2.2.2.2.trans rfl) (fun z hz => by simp only [List.mem_cons, List.not_mem_nil, or_false] at hz; rcases hz with rfl | rfl; exact Or.inr ⟨by decide, gXC 3, C.2.2.2.2.1 _ cx_42, CL.2.2.2.2.1 2 3 (by decide) (by decide) (by decide)⟩; exact Or.inr ⟨by decide, gXC 1, C.2.2.2.2.1 _ cx_44, CL.2.2.2.2.1 2 1 (by decide) (by decide) (by decide)⟩) (by decide) (by decide) (C.2.2.2.2.1 _ cx_46) (gEW_at CL.2.1 cs_2) hce hcv hcl ?_
          refine lv_astore (i := 5) (lv' := [(5, .ref q9), (0, .ref (ad 0 0)), (1, .int (1 : Int32)), (2, .int p2), (3, .int p3), (4, .int p4)]) hx hb dL_acts_137 hl (Nat.le_of_ble_eq_true rfl) rfl (fun ls hl => ?_)
          refine lv_bipush (v := -7) hx hb dL_acts_139 (by decide) ?_
          refine W.widen (k := 1) (n := 6) (Nat.le_of_ble_eq_true rfl) (Nat.le_of_ble_eq_true rfl) ?_
          exact r_iret C hP hS dL_acts_141
        · have hf := g_in e2 hf
          cases hf

def rm_Q_acts2 : Room := { frames := 7, cells := 1, slots := 6, locals := 110 }
set_option maxRecDepth 100000 in
set_option maxHeartbeats 4000000 in
theorem s_Q_acts2 {l : Launch} {D : va_G} {cA : Nat → ClassId} {ad : Nat → Nat → Nat} {NL : List (Nat × Nat)} {N sz : Nat} {p2 : Int32} {p3 : Int32} {p4 : Int32} {X : gM} {rr : Int32} {XX : gM} (htr : l.stackTraces = false) (hW : gWf NL) (hD0 : gD (fun _ => True) ad NL) (ha0 : (0, 0) ∈ NL) (hg : ∀ n ∈ NL, n.1 < 43) (hf : Q_acts2 (gal NL) N p2 p3 p4 X = some (rr, XX)) : gCL l yL_acts cL_acts 6 [(0, 126, 127, 42), (0, 126, 132, 44), (0, 126, 137, 46)] rm_Q_acts2 1 6 D cA ad NL [.ref (ad 0 0), .int (2 : Int32), .int p2, .int p3, .int p4] X rr [] XX sz := by
  refine g_ofL (nw := []) (by decide) rfl hD0 (Nat.le_of_ble_eq_true rfl) rfl (fun p e s m below meth c ls hsz CL hP hS hl => ?_)
  have C := CL.1
  have hx := C.1
  have hb := C.2.1
  rw [Q_acts2] at hf
  refine lv_iload_n hx hb dL_acts_0 rfl (lv_at hl 1 rfl) ?_
  refine lv_if_ne (tgt := 40) hx hb dL_acts_1 (by decide) (fun c1 => ?_) (fun c1 => ?_)
  rotate_left
  · exact absurd c1 (by decide)
  refine lv_iload_n hx hb dL_acts_40 rfl (lv_at hl 1 rfl) ?_
  refine lv_iconst (v := 1) hx hb dL_acts_41 (by decide) ?_
  refine lv_icmp_ne (tgt := 54) hx hb dL_acts_42 (by decide) (fun c2 => ?_) (fun c2 => ?_)
  rotate_left
  · exact absurd c2 (by decide)
  refine lv_iload_n hx hb dL_acts_54 rfl (lv_at hl 1 rfl) ?_
  refine lv_iconst (v := 2) hx hb dL_acts_55 (by decide) ?_
  refine lv_icmp_ne (tgt := 67) hx hb dL_acts_56 (by decide) (fun c3 => ?_) (fun c3 => ?_)
  · exact absurd c3 (by decide)
  refine lv_aload_n hx hb dL_acts_59 rfl (lv_at hl 0 rfl) ?_
  refine lv_iload_n hx hb dL_acts_60 rfl (lv_at hl 2 rfl) ?_
  obtain ⟨k7, r5, X4, h6, hf⟩ := b3_in hf
  refine r_callX (nw := []) (rest := []) C CL.2.1 CL.2.2.1 CL.2.2.2.1 hP hS hl.1 rfl (gCX_A (s_P_type htr hW hD0 ha0 hg h6)) True.intro ix_X9_type iv_X9_type ls_L_24 ⟨rfl, rfl, Nat.le_of_ble_eq_true rfl, Nat.le_of_ble_eq_true rfl⟩ ha0 (ct_0 _ _ _ _) rfl rfl rfl rfl (Nat.le_of_ble_eq_true rfl) ⟨Nat.le_of_ble_eq_true rfl, Nat.le_of_ble_eq_true rfl⟩ dL_acts_61 (fun hk0 C H locs hP hS => ?_) (fun hk0 ce q9 H locs hP hS hce hcv hcl => ?_)
  · subst hk0
    have hf := g_ip rfl hf
    show W p l e rm_Q_acts2 s m _ below meth c H locs _ _ _ (F0 m 64 ls [.int r5])
    refine lv_goto (tgt := 126) hx hb dL_acts_64 (by decide) ?_
    obtain ⟨rfl, rfl⟩ := g_s1 hf
    refine W.widen (k := 1) (n := 6) (Nat.le_of_ble_eq_true rfl) (Nat.le_of_ble_eq_true rfl) ?_
    exact r_iret C hP hS dL_acts_126
  · have hf := g_in hk0 hf
    by_cases e0 : k7 = 3
    · subst e0
      have hf := g_ip rfl hf
      obtain ⟨rfl, rfl⟩ := g_s1 hf
      rw [List.append_nil]
      refine vx_catch (own := RL) (E := gXC 3) (name := gXC 3) C.2.2.2.1 [] ⟨0, 126, 127, 42⟩ [⟨0, 126, 132, 44⟩, ⟨0, 126, 137, 46⟩] (CL.2.2.2.2.2.trans rfl) (fun z hz => nomatch hz) (by decide) (by decide) (C.2.2.2.2.1 _ cx_42) (gEW_at CL.2.1 cs_3) hce hcv hcl ?_
      refine lv_astore (i := 5) (lv' := [(5, .ref q9), (0, .ref (ad 0 0)), (1, .int (2 : Int32)), (2, .int p2), (3, .int p3), (4, .int p4)]) hx hb dL_acts_127 hl (Nat.le_of_ble_eq_true rfl) rfl (fun ls hl => ?_)
      refine lv_bipush (v := -9) hx hb dL_acts_129 (by decide) ?_
      refine W.widen (k := 1) (n := 6) (Nat.le_of_ble_eq_true rfl) (Nat.le_of_ble_eq_true rfl) ?_
      exact r_iret C hP hS dL_acts_131
    · have hf := g_in e0 hf
      by_cases e1 : k7 = 1
      · subst e1
        have hf := g_ip rfl hf
        obtain ⟨rfl, rfl⟩ := g_s1 hf
        rw [List.append_nil]
        refine vx_catch (own := RL) (E := gXC 1) (name := gXC 1) C.2.2.2.1 [⟨0, 126, 127, 42⟩] ⟨0, 126, 132, 44⟩ [⟨0, 126, 137, 46⟩] (CL.2.2.2.2.2.trans rfl) (fun z hz => by simp only [List.mem_singleton] at hz; subst hz; exact Or.inr ⟨by decide, gXC 3, C.2.2.2.2.1 _ cx_42, CL.2.2.2.2.1 1 3 (by decide) (by decide) (by decide)⟩) (by decide) (by decide) (C.2.2.2.2.1 _ cx_44) (gEW_at CL.2.1 cs_1) hce hcv hcl ?_
        refine lv_astore (i := 5) (lv' := [(5, .ref q9), (0, .ref (ad 0 0)), (1, .int (2 : Int32)), (2, .int p2), (3, .int p3), (4, .int p4)]) hx hb dL_acts_132 hl (Nat.le_of_ble_eq_true rfl) rfl (fun ls hl => ?_)
        refine lv_bipush (v := -8) hx hb dL_acts_134 (by decide) ?_
        refine W.widen (k := 1) (n := 6) (Nat.le_of_ble_eq_true rfl) (Nat.le_of_ble_eq_true rfl) ?_
        exact r_iret C hP hS dL_acts_136
      · have hf := g_in e1 hf
        by_cases e2 : k7 = 2
        · subst e2
          have hf := g_ip rfl hf
          obtain ⟨rfl, rfl⟩ := g_s1 hf
          rw [List.append_nil]
          refine vx_catch (own := RL) (E := gXC 2) (name := gXC 2) C.2.2.2.1 [⟨0, 126, 127, 42⟩, ⟨0, 126, 132, 44⟩] ⟨0, 126, 137, 46⟩ [] (CL.2.2.2.2.2.trans rfl) (fun z hz => by simp only [List.mem_cons, List.not_mem_nil, or_false] at hz; rcases hz with rfl | rfl; exact Or.inr ⟨by decide, gXC 3, C.2.2.2.2.1 _ cx_42, CL.2.2.2.2.1 2 3 (by decide) (by decide) (by decide)⟩; exact Or.inr ⟨by decide, gXC 1, C.2.2.2.2.1 _ cx_44, CL.2.2.2.2.1 2 1 (by decide) (by decide) (by decide)⟩) (by decide) (by decide) (C.2.2.2.2.1 _ cx_46) (gEW_at CL.2.1 cs_2) hce hcv hcl ?_
          refine lv_astore (i := 5) (lv' := [(5, .ref q9), (0, .ref (ad 0 0)), (1, .int (2 : Int32)), (2, .int p2), (3, .int p3), (4, .int p4)]) hx hb dL_acts_137 hl (Nat.le_of_ble_eq_true rfl) rfl (fun ls hl => ?_)
          refine lv_bipush (v := -7) hx hb dL_acts_139 (by decide) ?_
          refine W.widen (k := 1) (n := 6) (Nat.le_of_ble_eq_true rfl) (Nat.le_of_ble_eq_true rfl) ?_
          exact r_iret C hP hS dL_acts_141
        · have hf := g_in e2 hf
          cases hf

def rm_Q_acts3 : Room := { frames := 7, cells := 2, slots := 42, locals := 244 }
set_option maxRecDepth 100000 in
set_option maxHeartbeats 4000000 in
theorem s_Q_acts3 {l : Launch} {D : va_G} {cA : Nat → ClassId} {ad : Nat → Nat → Nat} {NL nw : List (Nat × Nat)} {N sz : Nat} {p2 : Int32} {p3 : Int32} {p4 : Int32} {X : gM} {rr : Int32} {XX : gM} (htr : l.stackTraces = false) (hW : gWf NL) (hD0 : gD (fun _ => True) ad NL) (hal : gAl ad) (hadr : gAdr ad sz nw) (ha0 : (0, 0) ∈ NL) (hg2 : ∀ n ∈ NL ++ nw, n.1 < 43) (hf : Q_acts3 (gal NL) N nw p2 p3 p4 X = some (rr, XX)) : gCL l yL_acts cL_acts 6 [(0, 126, 127, 42), (0, 126, 132, 44), (0, 126, 137, 46)] rm_Q_acts3 2 42 D cA ad NL [.ref (ad 0 0), .int (3 : Int32), .int p2, .int p3, .int p4] X rr nw XX sz := by
  refine g_ofL (nw := nw) (by decide) rfl hD0 (Nat.le_of_ble_eq_true rfl) rfl (fun p e s m below meth c ls hsz CL hP hS hl => ?_)
  have C := CL.1
  have hx := C.1
  have hb := C.2.1
  rw [Q_acts3] at hf
  refine lv_iload_n hx hb dL_acts_0 rfl (lv_at hl 1 rfl) ?_
  refine lv_if_ne (tgt := 40) hx hb dL_acts_1 (by decide) (fun c1 => ?_) (fun c1 => ?_)
  rotate_left
  · exact absurd c1 (by decide)
  refine lv_iload_n hx hb dL_acts_40 rfl (lv_at hl 1 rfl) ?_
  refine lv_iconst (v := 1) hx hb dL_acts_41 (by decide) ?_
  refine lv_icmp_ne (tgt := 54) hx hb dL_acts_42 (by decide) (fun c2 => ?_) (fun c2 => ?_)
  rotate_left
  · exact absurd c2 (by decide)
  refine lv_iload_n hx hb dL_acts_54 rfl (lv_at hl 1 rfl) ?_
  refine lv_iconst (v := 2) hx hb dL_acts_55 (by decide) ?_
  refine lv_icmp_ne (tgt := 67) hx hb dL_acts_56 (by decide) (fun c3 => ?_) (fun c3 => ?_)
  rotate_left
  · exact absurd c3 (by decide)
  refine lv_iload_n hx hb dL_acts_67 rfl (lv_at hl 1 rfl) ?_
  refine lv_iconst (v := 3) hx hb dL_acts_68 (by decide) ?_
  refine lv_icmp_ne (tgt := 79) hx hb dL_acts_69 (by decide) (fun c4 => ?_) (fun c4 => ?_)
  · exact absurd c4 (by decide)
  refine lv_aload_n hx hb dL_acts_72 rfl (lv_at hl 0 rfl) ?_
  obtain ⟨k8, r6, X5, h7, hf⟩ := b3_in hf
  refine r_callX (nw := nw) (rest := []) C CL.2.1 CL.2.2.1 CL.2.2.2.1 hP hS hl.1 rfl (s_P_word htr hW hD0 hal (by rw [hsz]; exact hadr) ha0 hg2 h7) (by rw [hsz]; exact hadr) ix_X9_word iv_X9_word ls_L_28 ⟨rfl, rfl, Nat.le_of_ble_eq_true rfl, Nat.le_of_ble_eq_true rfl⟩ ha0 (ct_0 _ _ _ _) rfl rfl rfl rfl (Nat.le_of_ble_eq_true rfl) ⟨Nat.le_of_ble_eq_true rfl, Nat.le_of_ble_eq_true rfl⟩ dL_acts_73 (fun hk0 C H locs hP hS => ?_) (fun hk0 ce q9 H locs hP hS hce hcv hcl => ?_)
  · subst hk0
    have hf := g_ip rfl hf
    show W p l e rm_Q_acts3 s m _ below meth c H locs _ _ _ (F0 m 76 ls [.int r6])
    refine lv_goto (tgt := 126) hx hb dL_acts_76 (by decide) ?_
    obtain ⟨rfl, rfl⟩ := g_s1 hf
    refine W.widen (k := 2) (n := 42) (Nat.le_of_ble_eq_true rfl) (Nat.le_of_ble_eq_true rfl) ?_
    exact r_iret C hP hS dL_acts_126
  · have hf := g_in hk0 hf
    by_cases e0 : k8 = 3
    · subst e0
      have hf := g_ip rfl hf
      obtain ⟨hnw, hf⟩ := eqn_in hf
      obtain ⟨rfl, rfl⟩ := g_s1 hf
      rw [hnw, List.append_nil]
      refine vx_catch (own := RL) (E := gXC 3) (name := gXC 3) C.2.2.2.1 [] ⟨0, 126, 127, 42⟩ [⟨0, 126, 132, 44⟩, ⟨0, 126, 137, 46⟩] (CL.2.2.2.2.2.trans rfl) (fun z hz => nomatch hz) (by decide) (by decide) (C.2.2.2.2.1 _ cx_42) (gEW_at CL.2.1 cs_3) hce hcv hcl ?_
      refine lv_astore (i := 5) (lv' := [(5, .ref q9), (0, .ref (ad 0 0)), (1, .int (3 : Int32)), (2, .int p2), (3, .int p3), (4, .int p4)]) hx hb dL_acts_127 hl (Nat.le_of_ble_eq_true rfl) rfl (fun ls hl => ?_)
      refine lv_bipush (v := -9) hx hb dL_acts_129 (by decide) ?_
      refine W.widen (k := 2) (n := 42) (Nat.le_of_ble_eq_true rfl) (Nat.le_of_ble_eq_true rfl) ?_
      exact r_iret C hP hS dL_acts_131
    · have hf := g_in e0 hf
      by_cases e1 : k8 = 1
      · subst e1
        have hf := g_ip rfl hf
        obtain ⟨hnw, hf⟩ := eqn_in hf
        obtain ⟨rfl, rfl⟩ := g_s1 hf
        rw [hnw, List.append_nil]
        refine vx_catch (own := RL) (E := gXC 1) (name := gXC 1) C.2.2.2.1 [⟨0, 126, 127, 42⟩] ⟨0, 126, 132, 44⟩ [⟨0, 126, 137, 46⟩] (CL.2.2.2.2.2.trans rfl) (fun z hz => by simp only [List.mem_singleton] at hz; subst hz; exact Or.inr ⟨by decide, gXC 3, C.2.2.2.2.1 _ cx_42, CL.2.2.2.2.1 1 3 (by decide) (by decide) (by decide)⟩) (by decide) (by decide) (C.2.2.2.2.1 _ cx_44) (gEW_at CL.2.1 cs_1) hce hcv hcl ?_
        refine lv_astore (i := 5) (lv' := [(5, .ref q9), (0, .ref (ad 0 0)), (1, .int (3 : Int32)), (2, .int p2), (3, .int p3), (4, .int p4)]) hx hb dL_acts_132 hl (Nat.le_of_ble_eq_true rfl) rfl (fun ls hl => ?_)
        refine lv_bipush (v := -8) hx hb dL_acts_134 (by decide) ?_
        refine W.widen (k := 2) (n := 42) (Nat.le_of_ble_eq_true rfl) (Nat.le_of_ble_eq_true rfl) ?_
        exact r_iret C hP hS dL_acts_136
      · have hf := g_in e1 hf
        by_cases e2 : k8 = 2
        · subst e2
          have hf := g_ip rfl hf
          obtain ⟨hnw, hf⟩ := eqn_in hf
          obtain ⟨rfl, rfl⟩ := g_s1 hf
          rw [hnw, List.append_nil]
          refine vx_catch (own := RL) (E := gXC 2) (name := gXC 2) C.2.2.2.1 [⟨0, 126, 127, 42⟩, ⟨0, 126, 132, 44⟩] ⟨0, 126, 137, 46⟩ [] (CL.2.2.2.2.2.trans rfl) (fun z hz => by simp only [List.mem_cons, List.not_mem_nil, or_false] at hz; rcases hz with rfl | rfl; exact Or.inr ⟨by decide, gXC 3, C.2.2.2.2.1 _ cx_42, CL.2.2.2.2.1 2 3 (by decide) (by decide) (by decide)⟩; exact Or.inr ⟨by decide, gXC 1, C.2.2.2.2.1 _ cx_44, CL.2.2.2.2.1 2 1 (by decide) (by decide) (by decide)⟩) (by decide) (by decide) (C.2.2.2.2.1 _ cx_46) (gEW_at CL.2.1 cs_2) hce hcv hcl ?_
          refine lv_astore (i := 5) (lv' := [(5, .ref q9), (0, .ref (ad 0 0)), (1, .int (3 : Int32)), (2, .int p2), (3, .int p3), (4, .int p4)]) hx hb dL_acts_137 hl (Nat.le_of_ble_eq_true rfl) rfl (fun ls hl => ?_)
          refine lv_bipush (v := -7) hx hb dL_acts_139 (by decide) ?_
          refine W.widen (k := 2) (n := 42) (Nat.le_of_ble_eq_true rfl) (Nat.le_of_ble_eq_true rfl) ?_
          exact r_iret C hP hS dL_acts_141
        · have hf := g_in e2 hf
          cases hf

def rm_Q_acts4 : Room := { frames := 7, cells := 2, slots := 42, locals := 243 }
set_option maxRecDepth 100000 in
set_option maxHeartbeats 4000000 in
theorem s_Q_acts4 {l : Launch} {D : va_G} {cA : Nat → ClassId} {ad : Nat → Nat → Nat} {NL nw : List (Nat × Nat)} {N sz : Nat} {p2 : Int32} {p3 : Int32} {p4 : Int32} {X : gM} {rr : Int32} {XX : gM} (htr : l.stackTraces = false) (hW : gWf NL) (hD0 : gD (fun _ => True) ad NL) (hal : gAl ad) (hadr : gAdr ad sz nw) (ha0 : (0, 0) ∈ NL) (hg2 : ∀ n ∈ NL ++ nw, n.1 < 43) (hf : Q_acts4 (gal NL) N nw p2 p3 p4 X = some (rr, XX)) : gCL l yL_acts cL_acts 6 [(0, 126, 127, 42), (0, 126, 132, 44), (0, 126, 137, 46)] rm_Q_acts4 2 42 D cA ad NL [.ref (ad 0 0), .int (4 : Int32), .int p2, .int p3, .int p4] X rr nw XX sz := by
  refine g_ofL (nw := nw) (by decide) rfl hD0 (Nat.le_of_ble_eq_true rfl) rfl (fun p e s m below meth c ls hsz CL hP hS hl => ?_)
  have C := CL.1
  have hx := C.1
  have hb := C.2.1
  rw [Q_acts4] at hf
  refine lv_iload_n hx hb dL_acts_0 rfl (lv_at hl 1 rfl) ?_
  refine lv_if_ne (tgt := 40) hx hb dL_acts_1 (by decide) (fun c1 => ?_) (fun c1 => ?_)
  rotate_left
  · exact absurd c1 (by decide)
  refine lv_iload_n hx hb dL_acts_40 rfl (lv_at hl 1 rfl) ?_
  refine lv_iconst (v := 1) hx hb dL_acts_41 (by decide) ?_
  refine lv_icmp_ne (tgt := 54) hx hb dL_acts_42 (by decide) (fun c2 => ?_) (fun c2 => ?_)
  rotate_left
  · exact absurd c2 (by decide)
  refine lv_iload_n hx hb dL_acts_54 rfl (lv_at hl 1 rfl) ?_
  refine lv_iconst (v := 2) hx hb dL_acts_55 (by decide) ?_
  refine lv_icmp_ne (tgt := 67) hx hb dL_acts_56 (by decide) (fun c3 => ?_) (fun c3 => ?_)
  rotate_left
  · exact absurd c3 (by decide)
  refine lv_iload_n hx hb dL_acts_67 rfl (lv_at hl 1 rfl) ?_
  refine lv_iconst (v := 3) hx hb dL_acts_68 (by decide) ?_
  refine lv_icmp_ne (tgt := 79) hx hb dL_acts_69 (by decide) (fun c4 => ?_) (fun c4 => ?_)
  rotate_left
  · exact absurd c4 (by decide)
  refine lv_iload_n hx hb dL_acts_79 rfl (lv_at hl 1 rfl) ?_
  refine lv_iconst (v := 4) hx hb dL_acts_80 (by decide) ?_
  refine lv_icmp_ne (tgt := 91) hx hb dL_acts_81 (by decide) (fun c5 => ?_) (fun c5 => ?_)
  · exact absurd c5 (by decide)
  refine lv_aload_n hx hb dL_acts_84 rfl (lv_at hl 0 rfl) ?_
  obtain ⟨k9, r7, X6, h8, hf⟩ := b3_in hf
  refine r_callX (nw := nw) (rest := []) C CL.2.1 CL.2.2.1 CL.2.2.2.1 hP hS hl.1 rfl (s_P_work htr hW hD0 hal (by rw [hsz]; exact hadr) ha0 hg2 h8) (by rw [hsz]; exact hadr) ix_X9_work iv_X9_work ls_L_32 ⟨rfl, rfl, Nat.le_of_ble_eq_true rfl, Nat.le_of_ble_eq_true rfl⟩ ha0 (ct_0 _ _ _ _) rfl rfl rfl rfl (Nat.le_of_ble_eq_true rfl) ⟨Nat.le_of_ble_eq_true rfl, Nat.le_of_ble_eq_true rfl⟩ dL_acts_85 (fun hk0 C H locs hP hS => ?_) (fun hk0 ce q9 H locs hP hS hce hcv hcl => ?_)
  · subst hk0
    have hf := g_ip rfl hf
    show W p l e rm_Q_acts4 s m _ below meth c H locs _ _ _ (F0 m 88 ls [.int r7])
    refine lv_goto (tgt := 126) hx hb dL_acts_88 (by decide) ?_
    obtain ⟨rfl, rfl⟩ := g_s1 hf
    refine W.widen (k := 2) (n := 42) (Nat.le_of_ble_eq_true rfl) (Nat.le_of_ble_eq_true rfl) ?_
    exact r_iret C hP hS dL_acts_126
  · have hf := g_in hk0 hf
    by_cases e0 : k9 = 3
    · subst e0
      have hf := g_ip rfl hf
      obtain ⟨hnw, hf⟩ := eqn_in hf
      obtain ⟨rfl, rfl⟩ := g_s1 hf
      rw [hnw, List.append_nil]
      refine vx_catch (own := RL) (E := gXC 3) (name := gXC 3) C.2.2.2.1 [] ⟨0, 126, 127, 42⟩ [⟨0, 126, 132, 44⟩, ⟨0, 126, 137, 46⟩] (CL.2.2.2.2.2.trans rfl) (fun z hz => nomatch hz) (by decide) (by decide) (C.2.2.2.2.1 _ cx_42) (gEW_at CL.2.1 cs_3) hce hcv hcl ?_
      refine lv_astore (i := 5) (lv' := [(5, .ref q9), (0, .ref (ad 0 0)), (1, .int (4 : Int32)), (2, .int p2), (3, .int p3), (4, .int p4)]) hx hb dL_acts_127 hl (Nat.le_of_ble_eq_true rfl) rfl (fun ls hl => ?_)
      refine lv_bipush (v := -9) hx hb dL_acts_129 (by decide) ?_
      refine W.widen (k := 2) (n := 42) (Nat.le_of_ble_eq_true rfl) (Nat.le_of_ble_eq_true rfl) ?_
      exact r_iret C hP hS dL_acts_131
    · have hf := g_in e0 hf
      by_cases e1 : k9 = 1
      · subst e1
        have hf := g_ip rfl hf
        obtain ⟨hnw, hf⟩ := eqn_in hf
        obtain ⟨rfl, rfl⟩ := g_s1 hf
        rw [hnw, List.append_nil]
        refine vx_catch (own := RL) (E := gXC 1) (name := gXC 1) C.2.2.2.1 [⟨0, 126, 127, 42⟩] ⟨0, 126, 132, 44⟩ [⟨0, 126, 137, 46⟩] (CL.2.2.2.2.2.trans rfl) (fun z hz => by simp only [List.mem_singleton] at hz; subst hz; exact Or.inr ⟨by decide, gXC 3, C.2.2.2.2.1 _ cx_42, CL.2.2.2.2.1 1 3 (by decide) (by decide) (by decide)⟩) (by decide) (by decide) (C.2.2.2.2.1 _ cx_44) (gEW_at CL.2.1 cs_1) hce hcv hcl ?_
        refine lv_astore (i := 5) (lv' := [(5, .ref q9), (0, .ref (ad 0 0)), (1, .int (4 : Int32)), (2, .int p2), (3, .int p3), (4, .int p4)]) hx hb dL_acts_132 hl (Nat.le_of_ble_eq_true rfl) rfl (fun ls hl => ?_)
        refine lv_bipush (v := -8) hx hb dL_acts_134 (by decide) ?_
        refine W.widen (k := 2) (n := 42) (Nat.le_of_ble_eq_true rfl) (Nat.le_of_ble_eq_true rfl) ?_
        exact r_iret C hP hS dL_acts_136
      · have hf := g_in e1 hf
        by_cases e2 : k9 = 2
        · subst e2
          have hf := g_ip rfl hf
          obtain ⟨hnw, hf⟩ := eqn_in hf
          obtain ⟨rfl, rfl⟩ := g_s1 hf
          rw [hnw, List.append_nil]
          refine vx_catch (own := RL) (E := gXC 2) (name := gXC 2) C.2.2.2.1 [⟨0, 126, 127, 42⟩, ⟨0, 126, 132, 44⟩] ⟨0, 126, 137, 46⟩ [] (CL.2.2.2.2.2.trans rfl) (fun z hz => by simp only [List.mem_cons, List.not_mem_nil, or_false] at hz; rcases hz with rfl | rfl; exact Or.inr ⟨by decide, gXC 3, C.2.2.2.2.1 _ cx_42, CL.2.2.2.2.1 2 3 (by decide) (by decide) (by decide)⟩; exact Or.inr ⟨by decide, gXC 1, C.2.2.2.2.1 _ cx_44, CL.2.2.2.2.1 2 1 (by decide) (by decide) (by decide)⟩) (by decide) (by decide) (C.2.2.2.2.1 _ cx_46) (gEW_at CL.2.1 cs_2) hce hcv hcl ?_
          refine lv_astore (i := 5) (lv' := [(5, .ref q9), (0, .ref (ad 0 0)), (1, .int (4 : Int32)), (2, .int p2), (3, .int p3), (4, .int p4)]) hx hb dL_acts_137 hl (Nat.le_of_ble_eq_true rfl) rfl (fun ls hl => ?_)
          refine lv_bipush (v := -7) hx hb dL_acts_139 (by decide) ?_
          refine W.widen (k := 2) (n := 42) (Nat.le_of_ble_eq_true rfl) (Nat.le_of_ble_eq_true rfl) ?_
          exact r_iret C hP hS dL_acts_141
        · have hf := g_in e2 hf
          cases hf

def rm_Q_acts5 : Room := { frames := 7, cells := 1, slots := 7, locals := 115 }
set_option maxRecDepth 100000 in
set_option maxHeartbeats 4000000 in
theorem s_Q_acts5 {l : Launch} {D : va_G} {cA : Nat → ClassId} {ad : Nat → Nat → Nat} {NL nw : List (Nat × Nat)} {N sz : Nat} {p2 : Int32} {p3 : Int32} {p4 : Int32} {X : gM} {rr : Int32} {XX : gM} (htr : l.stackTraces = false) (hW : gWf NL) (hD0 : gD (fun _ => True) ad NL) (hal : gAl ad) (hadr : gAdr ad sz nw) (ha0 : (0, 0) ∈ NL) (hg2 : ∀ n ∈ NL ++ nw, n.1 < 43) (hf : Q_acts5 (gal NL) N nw p2 p3 p4 X = some (rr, XX)) : gCL l yL_acts cL_acts 6 [(0, 126, 127, 42), (0, 126, 132, 44), (0, 126, 137, 46)] rm_Q_acts5 1 7 D cA ad NL [.ref (ad 0 0), .int (5 : Int32), .int p2, .int p3, .int p4] X rr nw XX sz := by
  refine g_ofL (nw := nw) (by decide) rfl hD0 (Nat.le_of_ble_eq_true rfl) rfl (fun p e s m below meth c ls hsz CL hP hS hl => ?_)
  have C := CL.1
  have hx := C.1
  have hb := C.2.1
  rw [Q_acts5] at hf
  refine lv_iload_n hx hb dL_acts_0 rfl (lv_at hl 1 rfl) ?_
  refine lv_if_ne (tgt := 40) hx hb dL_acts_1 (by decide) (fun c1 => ?_) (fun c1 => ?_)
  rotate_left
  · exact absurd c1 (by decide)
  refine lv_iload_n hx hb dL_acts_40 rfl (lv_at hl 1 rfl) ?_
  refine lv_iconst (v := 1) hx hb dL_acts_41 (by decide) ?_
  refine lv_icmp_ne (tgt := 54) hx hb dL_acts_42 (by decide) (fun c2 => ?_) (fun c2 => ?_)
  rotate_left
  · exact absurd c2 (by decide)
  refine lv_iload_n hx hb dL_acts_54 rfl (lv_at hl 1 rfl) ?_
  refine lv_iconst (v := 2) hx hb dL_acts_55 (by decide) ?_
  refine lv_icmp_ne (tgt := 67) hx hb dL_acts_56 (by decide) (fun c3 => ?_) (fun c3 => ?_)
  rotate_left
  · exact absurd c3 (by decide)
  refine lv_iload_n hx hb dL_acts_67 rfl (lv_at hl 1 rfl) ?_
  refine lv_iconst (v := 3) hx hb dL_acts_68 (by decide) ?_
  refine lv_icmp_ne (tgt := 79) hx hb dL_acts_69 (by decide) (fun c4 => ?_) (fun c4 => ?_)
  rotate_left
  · exact absurd c4 (by decide)
  refine lv_iload_n hx hb dL_acts_79 rfl (lv_at hl 1 rfl) ?_
  refine lv_iconst (v := 4) hx hb dL_acts_80 (by decide) ?_
  refine lv_icmp_ne (tgt := 91) hx hb dL_acts_81 (by decide) (fun c5 => ?_) (fun c5 => ?_)
  rotate_left
  · exact absurd c5 (by decide)
  refine lv_iload_n hx hb dL_acts_91 rfl (lv_at hl 1 rfl) ?_
  refine lv_iconst (v := 5) hx hb dL_acts_92 (by decide) ?_
  refine lv_icmp_ne (tgt := 120) hx hb dL_acts_93 (by decide) (fun c6 => ?_) (fun c6 => ?_)
  · exact absurd c6 (by decide)
  refine lv_aload_n hx hb dL_acts_96 rfl (lv_at hl 0 rfl) ?_
  refine lv_iload_n hx hb dL_acts_97 rfl (lv_at hl 2 rfl) ?_
  refine lv_iload_n hx hb dL_acts_98 rfl (lv_at hl 3 rfl) ?_
  refine lv_iload hx hb dL_acts_99 (lv_at hl 4 rfl) ?_
  refine lv_iload_n hx hb dL_acts_101 rfl (lv_at hl 2 rfl) ?_
  refine lv_iload_n hx hb dL_acts_102 rfl (lv_at hl 3 rfl) ?_
  refine lv_iadd hx hb dL_acts_103 ?_
  refine lv_iconst (v := 2) hx hb dL_acts_104 (by decide) ?_
  refine lv_irem hx hb dL_acts_105 (by decide) ?_
  refine lv_if_ne (tgt := 113) hx hb dL_acts_106 (by decide) (fun c7 => ?_) (fun c7 => ?_)
  · have hf := g_in c7 hf
    refine lv_iconst (v := 0) hx hb dL_acts_113 (by decide) ?_
    obtain ⟨k11, r9, X8, h10, hf⟩ := b3_in hf
    refine r_callX (nw := nw) (rest := []) C CL.2.1 CL.2.2.1 CL.2.2.2.1 hP hS hl.1 rfl (s_P_fact htr hW hD0 hal (by rw [hsz]; exact hadr) ha0 hg2 h10) (by rw [hsz]; exact hadr) ix_X9_fact iv_X9_fact ls_L_35 ⟨rfl, rfl, Nat.le_of_ble_eq_true rfl, Nat.le_of_ble_eq_true rfl⟩ ha0 (ct_0 _ _ _ _) rfl rfl rfl rfl (Nat.le_of_ble_eq_true rfl) ⟨Nat.le_of_ble_eq_true rfl, Nat.le_of_ble_eq_true rfl⟩ dL_acts_114 (fun hk0 C H locs hP hS => ?_) (fun hk0 ce q9 H locs hP hS hce hcv hcl => ?_)
    · subst hk0
      have hf := g_ip rfl hf
      show W p l e rm_Q_acts5 s m _ below meth c H locs _ _ _ (F0 m 117 ls [.int r9])
      refine lv_goto (tgt := 126) hx hb dL_acts_117 (by decide) ?_
      obtain ⟨rfl, rfl⟩ := g_s1 hf
      refine W.widen (k := 1) (n := 7) (Nat.le_of_ble_eq_true rfl) (Nat.le_of_ble_eq_true rfl) ?_
      exact r_iret C hP hS dL_acts_126
    · have hf := g_in hk0 hf
      by_cases e0 : k11 = 3
      · subst e0
        have hf := g_ip rfl hf
        obtain ⟨hnw, hf⟩ := eqn_in hf
        obtain ⟨rfl, rfl⟩ := g_s1 hf
        rw [hnw, List.append_nil]
        refine vx_catch (own := RL) (E := gXC 3) (name := gXC 3) C.2.2.2.1 [] ⟨0, 126, 127, 42⟩ [⟨0, 126, 132, 44⟩, ⟨0, 126, 137, 46⟩] (CL.2.2.2.2.2.trans rfl) (fun z hz => nomatch hz) (by decide) (by decide) (C.2.2.2.2.1 _ cx_42) (gEW_at CL.2.1 cs_3) hce hcv hcl ?_
        refine lv_astore (i := 5) (lv' := [(5, .ref q9), (0, .ref (ad 0 0)), (1, .int (5 : Int32)), (2, .int p2), (3, .int p3), (4, .int p4)]) hx hb dL_acts_127 hl (Nat.le_of_ble_eq_true rfl) rfl (fun ls hl => ?_)
        refine lv_bipush (v := -9) hx hb dL_acts_129 (by decide) ?_
        refine W.widen (k := 1) (n := 7) (Nat.le_of_ble_eq_true rfl) (Nat.le_of_ble_eq_true rfl) ?_
        exact r_iret C hP hS dL_acts_131
      · have hf := g_in e0 hf
        by_cases e1 : k11 = 1
        · subst e1
          have hf := g_ip rfl hf
          obtain ⟨hnw, hf⟩ := eqn_in hf
          obtain ⟨rfl, rfl⟩ := g_s1 hf
          rw [hnw, List.append_nil]
          refine vx_catch (own := RL) (E := gXC 1) (name := gXC 1) C.2.2.2.1 [⟨0, 126, 127, 42⟩] ⟨0, 126, 132, 44⟩ [⟨0, 126, 137, 46⟩] (CL.2.2.2.2.2.trans rfl) (fun z hz => by simp only [List.mem_singleton] at hz; subst hz; exact Or.inr ⟨by decide, gXC 3, C.2.2.2.2.1 _ cx_42, CL.2.2.2.2.1 1 3 (by decide) (by decide) (by decide)⟩) (by decide) (by decide) (C.2.2.2.2.1 _ cx_44) (gEW_at CL.2.1 cs_1) hce hcv hcl ?_
          refine lv_astore (i := 5) (lv' := [(5, .ref q9), (0, .ref (ad 0 0)), (1, .int (5 : Int32)), (2, .int p2), (3, .int p3), (4, .int p4)]) hx hb dL_acts_132 hl (Nat.le_of_ble_eq_true rfl) rfl (fun ls hl => ?_)
          refine lv_bipush (v := -8) hx hb dL_acts_134 (by decide) ?_
          refine W.widen (k := 1) (n := 7) (Nat.le_of_ble_eq_true rfl) (Nat.le_of_ble_eq_true rfl) ?_
          exact r_iret C hP hS dL_acts_136
        · have hf := g_in e1 hf
          by_cases e2 : k11 = 2
          · subst e2
            have hf := g_ip rfl hf
            obtain ⟨hnw, hf⟩ := eqn_in hf
            obtain ⟨rfl, rfl⟩ := g_s1 hf
            rw [hnw, List.append_nil]
            refine vx_catch (own := RL) (E := gXC 2) (name := gXC 2) C.2.2.2.1 [⟨0, 126, 127, 42⟩, ⟨0, 126, 132, 44⟩] ⟨0, 126, 137, 46⟩ [] (CL.2.2.2.2.2.trans rfl) (fun z hz => by simp only [List.mem_cons, List.not_mem_nil, or_false] at hz; rcases hz with rfl | rfl; exact Or.inr ⟨by decide, gXC 3, C.2.2.2.2.1 _ cx_42, CL.2.2.2.2.1 2 3 (by decide) (by decide) (by decide)⟩; exact Or.inr ⟨by decide, gXC 1, C.2.2.2.2.1 _ cx_44, CL.2.2.2.2.1 2 1 (by decide) (by decide) (by decide)⟩) (by decide) (by decide) (C.2.2.2.2.1 _ cx_46) (gEW_at CL.2.1 cs_2) hce hcv hcl ?_
            refine lv_astore (i := 5) (lv' := [(5, .ref q9), (0, .ref (ad 0 0)), (1, .int (5 : Int32)), (2, .int p2), (3, .int p3), (4, .int p4)]) hx hb dL_acts_137 hl (Nat.le_of_ble_eq_true rfl) rfl (fun ls hl => ?_)
            refine lv_bipush (v := -7) hx hb dL_acts_139 (by decide) ?_
            refine W.widen (k := 1) (n := 7) (Nat.le_of_ble_eq_true rfl) (Nat.le_of_ble_eq_true rfl) ?_
            exact r_iret C hP hS dL_acts_141
          · have hf := g_in e2 hf
            cases hf
  · have hf := g_ip c7 hf
    refine lv_iconst (v := 1) hx hb dL_acts_109 (by decide) ?_
    refine lv_goto (tgt := 114) hx hb dL_acts_110 (by decide) ?_
    obtain ⟨k15, r13, X12, h14, hf⟩ := b3_in hf
    refine r_callX (nw := nw) (rest := []) C CL.2.1 CL.2.2.1 CL.2.2.2.1 hP hS hl.1 rfl (s_P_fact htr hW hD0 hal (by rw [hsz]; exact hadr) ha0 hg2 h14) (by rw [hsz]; exact hadr) ix_X9_fact iv_X9_fact ls_L_35 ⟨rfl, rfl, Nat.le_of_ble_eq_true rfl, Nat.le_of_ble_eq_true rfl⟩ ha0 (ct_0 _ _ _ _) rfl rfl rfl rfl (Nat.le_of_ble_eq_true rfl) ⟨Nat.le_of_ble_eq_true rfl, Nat.le_of_ble_eq_true rfl⟩ dL_acts_114 (fun hk0 C H locs hP hS => ?_) (fun hk0 ce q9 H locs hP hS hce hcv hcl => ?_)
    · subst hk0
      have hf := g_ip rfl hf
      show W p l e rm_Q_acts5 s m _ below meth c H locs _ _ _ (F0 m 117 ls [.int r13])
      refine lv_goto (tgt := 126) hx hb dL_acts_117 (by decide) ?_
      obtain ⟨rfl, rfl⟩ := g_s1 hf
      refine W.widen (k := 1) (n := 7) (Nat.le_of_ble_eq_true rfl) (Nat.le_of_ble_eq_true rfl) ?_
      exact r_iret C hP hS dL_acts_126
    · have hf := g_in hk0 hf
      by_cases e0 : k15 = 3
      · subst e0
        have hf := g_ip rfl hf
        obtain ⟨hnw, hf⟩ := eqn_in hf
        obtain ⟨rfl, rfl⟩ := g_s1 hf
        rw [hnw, List.append_nil]
        refine vx_catch (own := RL) (E := gXC 3) (name := gXC 3) C.2.2.2.1 [] ⟨0, 126, 127, 42⟩ [⟨0, 126, 132, 44⟩, ⟨0, 126, 137, 46⟩] (CL.2.2.2.2.2.trans rfl) (fun z hz => nomatch hz) (by decide) (by decide) (C.2.2.2.2.1 _ cx_42) (gEW_at CL.2.1 cs_3) hce hcv hcl ?_
        refine lv_astore (i := 5) (lv' := [(5, .ref q9), (0, .ref (ad 0 0)), (1, .int (5 : Int32)), (2, .int p2), (3, .int p3), (4, .int p4)]) hx hb dL_acts_127 hl (Nat.le_of_ble_eq_true rfl) rfl (fun ls hl => ?_)
        refine lv_bipush (v := -9) hx hb dL_acts_129 (by decide) ?_
        refine W.widen (k := 1) (n := 7) (Nat.le_of_ble_eq_true rfl) (Nat.le_of_ble_eq_true rfl) ?_
        exact r_iret C hP hS dL_acts_131
      · have hf := g_in e0 hf
        by_cases e1 : k15 = 1
        · subst e1
          have hf := g_ip rfl hf
          obtain ⟨hnw, hf⟩ := eqn_in hf
          obtain ⟨rfl, rfl⟩ := g_s1 hf
          rw [hnw, List.append_nil]
          refine vx_catch (own := RL) (E := gXC 1) (name := gXC 1) C.2.2.2.1 [⟨0, 126, 127, 42⟩] ⟨0, 126, 132, 44⟩ [⟨0, 126, 137, 46⟩] (CL.2.2.2.2.2.trans rfl) (fun z hz => by simp only [List.mem_singleton] at hz; subst hz; exact Or.inr ⟨by decide, gXC 3, C.2.2.2.2.1 _ cx_42, CL.2.2.2.2.1 1 3 (by decide) (by decide) (by decide)⟩) (by decide) (by decide) (C.2.2.2.2.1 _ cx_44) (gEW_at CL.2.1 cs_1) hce hcv hcl ?_
          refine lv_astore (i := 5) (lv' := [(5, .ref q9), (0, .ref (ad 0 0)), (1, .int (5 : Int32)), (2, .int p2), (3, .int p3), (4, .int p4)]) hx hb dL_acts_132 hl (Nat.le_of_ble_eq_true rfl) rfl (fun ls hl => ?_)
          refine lv_bipush (v := -8) hx hb dL_acts_134 (by decide) ?_
          refine W.widen (k := 1) (n := 7) (Nat.le_of_ble_eq_true rfl) (Nat.le_of_ble_eq_true rfl) ?_
          exact r_iret C hP hS dL_acts_136
        · have hf := g_in e1 hf
          by_cases e2 : k15 = 2
          · subst e2
            have hf := g_ip rfl hf
            obtain ⟨hnw, hf⟩ := eqn_in hf
            obtain ⟨rfl, rfl⟩ := g_s1 hf
            rw [hnw, List.append_nil]
            refine vx_catch (own := RL) (E := gXC 2) (name := gXC 2) C.2.2.2.1 [⟨0, 126, 127, 42⟩, ⟨0, 126, 132, 44⟩] ⟨0, 126, 137, 46⟩ [] (CL.2.2.2.2.2.trans rfl) (fun z hz => by simp only [List.mem_cons, List.not_mem_nil, or_false] at hz; rcases hz with rfl | rfl; exact Or.inr ⟨by decide, gXC 3, C.2.2.2.2.1 _ cx_42, CL.2.2.2.2.1 2 3 (by decide) (by decide) (by decide)⟩; exact Or.inr ⟨by decide, gXC 1, C.2.2.2.2.1 _ cx_44, CL.2.2.2.2.1 2 1 (by decide) (by decide) (by decide)⟩) (by decide) (by decide) (C.2.2.2.2.1 _ cx_46) (gEW_at CL.2.1 cs_2) hce hcv hcl ?_
            refine lv_astore (i := 5) (lv' := [(5, .ref q9), (0, .ref (ad 0 0)), (1, .int (5 : Int32)), (2, .int p2), (3, .int p3), (4, .int p4)]) hx hb dL_acts_137 hl (Nat.le_of_ble_eq_true rfl) rfl (fun ls hl => ?_)
            refine lv_bipush (v := -7) hx hb dL_acts_139 (by decide) ?_
            refine W.widen (k := 1) (n := 7) (Nat.le_of_ble_eq_true rfl) (Nat.le_of_ble_eq_true rfl) ?_
            exact r_iret C hP hS dL_acts_141
          · have hf := g_in e2 hf
            cases hf

def rm_Q_acts6 : Room := { frames := 7, cells := 1, slots := 6, locals := 112 }
set_option maxRecDepth 100000 in
set_option maxHeartbeats 4000000 in
theorem s_Q_acts6 {l : Launch} {D : va_G} {cA : Nat → ClassId} {ad : Nat → Nat → Nat} {NL : List (Nat × Nat)} {N sz : Nat} {p2 : Int32} {p3 : Int32} {p4 : Int32} {X : gM} {rr : Int32} {XX : gM} (htr : l.stackTraces = false) (hW : gWf NL) (hD0 : gD (fun _ => True) ad NL) (ha0 : (0, 0) ∈ NL) (hg : ∀ n ∈ NL, n.1 < 43) (hf : Q_acts6 (gal NL) N p2 p3 p4 X = some (rr, XX)) : gCL l yL_acts cL_acts 6 [(0, 126, 127, 42), (0, 126, 132, 44), (0, 126, 137, 46)] rm_Q_acts6 1 6 D cA ad NL [.ref (ad 0 0), .int (6 : Int32), .int p2, .int p3, .int p4] X rr [] XX sz := by
  refine g_ofL (nw := []) (by decide) rfl hD0 (Nat.le_of_ble_eq_true rfl) rfl (fun p e s m below meth c ls hsz CL hP hS hl => ?_)
  have C := CL.1
  have hx := C.1
  have hb := C.2.1
  rw [Q_acts6] at hf
  refine lv_iload_n hx hb dL_acts_0 rfl (lv_at hl 1 rfl) ?_
  refine lv_if_ne (tgt := 40) hx hb dL_acts_1 (by decide) (fun c1 => ?_) (fun c1 => ?_)
  rotate_left
  · exact absurd c1 (by decide)
  refine lv_iload_n hx hb dL_acts_40 rfl (lv_at hl 1 rfl) ?_
  refine lv_iconst (v := 1) hx hb dL_acts_41 (by decide) ?_
  refine lv_icmp_ne (tgt := 54) hx hb dL_acts_42 (by decide) (fun c2 => ?_) (fun c2 => ?_)
  rotate_left
  · exact absurd c2 (by decide)
  refine lv_iload_n hx hb dL_acts_54 rfl (lv_at hl 1 rfl) ?_
  refine lv_iconst (v := 2) hx hb dL_acts_55 (by decide) ?_
  refine lv_icmp_ne (tgt := 67) hx hb dL_acts_56 (by decide) (fun c3 => ?_) (fun c3 => ?_)
  rotate_left
  · exact absurd c3 (by decide)
  refine lv_iload_n hx hb dL_acts_67 rfl (lv_at hl 1 rfl) ?_
  refine lv_iconst (v := 3) hx hb dL_acts_68 (by decide) ?_
  refine lv_icmp_ne (tgt := 79) hx hb dL_acts_69 (by decide) (fun c4 => ?_) (fun c4 => ?_)
  rotate_left
  · exact absurd c4 (by decide)
  refine lv_iload_n hx hb dL_acts_79 rfl (lv_at hl 1 rfl) ?_
  refine lv_iconst (v := 4) hx hb dL_acts_80 (by decide) ?_
  refine lv_icmp_ne (tgt := 91) hx hb dL_acts_81 (by decide) (fun c5 => ?_) (fun c5 => ?_)
  rotate_left
  · exact absurd c5 (by decide)
  refine lv_iload_n hx hb dL_acts_91 rfl (lv_at hl 1 rfl) ?_
  refine lv_iconst (v := 5) hx hb dL_acts_92 (by decide) ?_
  refine lv_icmp_ne (tgt := 120) hx hb dL_acts_93 (by decide) (fun c6 => ?_) (fun c6 => ?_)
  rotate_left
  · exact absurd c6 (by decide)
  refine lv_aload_n hx hb dL_acts_120 rfl (lv_at hl 0 rfl) ?_
  refine lv_iload_n hx hb dL_acts_121 rfl (lv_at hl 2 rfl) ?_
  refine lv_iload_n hx hb dL_acts_122 rfl (lv_at hl 3 rfl) ?_
  obtain ⟨k10, r8, X7, h9, hf⟩ := b3_in hf
  refine r_callX (nw := []) (rest := []) C CL.2.1 CL.2.2.1 CL.2.2.2.1 hP hS hl.1 rfl (gCX_A (s_P_date htr hW hD0 ha0 hg h9)) True.intro ix_X9_date iv_X9_date ls_L_39 ⟨rfl, rfl, Nat.le_of_ble_eq_true rfl, Nat.le_of_ble_eq_true rfl⟩ ha0 (ct_0 _ _ _ _) rfl rfl rfl rfl (Nat.le_of_ble_eq_true rfl) ⟨Nat.le_of_ble_eq_true rfl, Nat.le_of_ble_eq_true rfl⟩ dL_acts_123 (fun hk0 C H locs hP hS => ?_) (fun hk0 ce q9 H locs hP hS hce hcv hcl => ?_)
  · subst hk0
    have hf := g_ip rfl hf
    show W p l e rm_Q_acts6 s m _ below meth c H locs _ _ _ (F0 m 126 ls [.int r8])
    obtain ⟨rfl, rfl⟩ := g_s1 hf
    refine W.widen (k := 1) (n := 6) (Nat.le_of_ble_eq_true rfl) (Nat.le_of_ble_eq_true rfl) ?_
    exact r_iret C hP hS dL_acts_126
  · have hf := g_in hk0 hf
    by_cases e0 : k10 = 3
    · subst e0
      have hf := g_ip rfl hf
      obtain ⟨rfl, rfl⟩ := g_s1 hf
      rw [List.append_nil]
      refine vx_catch (own := RL) (E := gXC 3) (name := gXC 3) C.2.2.2.1 [] ⟨0, 126, 127, 42⟩ [⟨0, 126, 132, 44⟩, ⟨0, 126, 137, 46⟩] (CL.2.2.2.2.2.trans rfl) (fun z hz => nomatch hz) (by decide) (by decide) (C.2.2.2.2.1 _ cx_42) (gEW_at CL.2.1 cs_3) hce hcv hcl ?_
      refine lv_astore (i := 5) (lv' := [(5, .ref q9), (0, .ref (ad 0 0)), (1, .int (6 : Int32)), (2, .int p2), (3, .int p3), (4, .int p4)]) hx hb dL_acts_127 hl (Nat.le_of_ble_eq_true rfl) rfl (fun ls hl => ?_)
      refine lv_bipush (v := -9) hx hb dL_acts_129 (by decide) ?_
      refine W.widen (k := 1) (n := 6) (Nat.le_of_ble_eq_true rfl) (Nat.le_of_ble_eq_true rfl) ?_
      exact r_iret C hP hS dL_acts_131
    · have hf := g_in e0 hf
      by_cases e1 : k10 = 1
      · subst e1
        have hf := g_ip rfl hf
        obtain ⟨rfl, rfl⟩ := g_s1 hf
        rw [List.append_nil]
        refine vx_catch (own := RL) (E := gXC 1) (name := gXC 1) C.2.2.2.1 [⟨0, 126, 127, 42⟩] ⟨0, 126, 132, 44⟩ [⟨0, 126, 137, 46⟩] (CL.2.2.2.2.2.trans rfl) (fun z hz => by simp only [List.mem_singleton] at hz; subst hz; exact Or.inr ⟨by decide, gXC 3, C.2.2.2.2.1 _ cx_42, CL.2.2.2.2.1 1 3 (by decide) (by decide) (by decide)⟩) (by decide) (by decide) (C.2.2.2.2.1 _ cx_44) (gEW_at CL.2.1 cs_1) hce hcv hcl ?_
        refine lv_astore (i := 5) (lv' := [(5, .ref q9), (0, .ref (ad 0 0)), (1, .int (6 : Int32)), (2, .int p2), (3, .int p3), (4, .int p4)]) hx hb dL_acts_132 hl (Nat.le_of_ble_eq_true rfl) rfl (fun ls hl => ?_)
        refine lv_bipush (v := -8) hx hb dL_acts_134 (by decide) ?_
        refine W.widen (k := 1) (n := 6) (Nat.le_of_ble_eq_true rfl) (Nat.le_of_ble_eq_true rfl) ?_
        exact r_iret C hP hS dL_acts_136
      · have hf := g_in e1 hf
        by_cases e2 : k10 = 2
        · subst e2
          have hf := g_ip rfl hf
          obtain ⟨rfl, rfl⟩ := g_s1 hf
          rw [List.append_nil]
          refine vx_catch (own := RL) (E := gXC 2) (name := gXC 2) C.2.2.2.1 [⟨0, 126, 127, 42⟩, ⟨0, 126, 132, 44⟩] ⟨0, 126, 137, 46⟩ [] (CL.2.2.2.2.2.trans rfl) (fun z hz => by simp only [List.mem_cons, List.not_mem_nil, or_false] at hz; rcases hz with rfl | rfl; exact Or.inr ⟨by decide, gXC 3, C.2.2.2.2.1 _ cx_42, CL.2.2.2.2.1 2 3 (by decide) (by decide) (by decide)⟩; exact Or.inr ⟨by decide, gXC 1, C.2.2.2.2.1 _ cx_44, CL.2.2.2.2.1 2 1 (by decide) (by decide) (by decide)⟩) (by decide) (by decide) (C.2.2.2.2.1 _ cx_46) (gEW_at CL.2.1 cs_2) hce hcv hcl ?_
          refine lv_astore (i := 5) (lv' := [(5, .ref q9), (0, .ref (ad 0 0)), (1, .int (6 : Int32)), (2, .int p2), (3, .int p3), (4, .int p4)]) hx hb dL_acts_137 hl (Nat.le_of_ble_eq_true rfl) rfl (fun ls hl => ?_)
          refine lv_bipush (v := -7) hx hb dL_acts_139 (by decide) ?_
          refine W.widen (k := 1) (n := 6) (Nat.le_of_ble_eq_true rfl) (Nat.le_of_ble_eq_true rfl) ?_
          exact r_iret C hP hS dL_acts_141
        · have hf := g_in e2 hf
          cases hf

