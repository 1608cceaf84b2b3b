def rm_L_leaf : Room := { frames := 7, cells := 130, slots := 877, locals := 252 }
set_option maxRecDepth 100000 in
set_option maxHeartbeats 4000000 in
theorem s_L_leaf {l : Launch} {D : va_G} {cA : Nat → ClassId} {ad : Nat → Nat → Nat} {NL nw : List (Nat × Nat)} {N sz : Nat} {p1 : Int32} {p2 : Int32} {p3 : Int32} {p4 : Int32} {p5 : Int32} {X : gM} {rr : Int32} {XX : gM} (htr : l.stackTraces = false) (hW : gWf NL) (hD0 : gD (fun _ => True) ad NL) (hal : gAl ad) (hadr : gAdr ad sz nw) (ha0 : (0, 0) ∈ NL) (ha81 : (81, 0) ∈ NL) (hf : L_leaf (gal NL) N nw p1 p2 p3 p4 p5 X = some (rr, XX)) : gCL l yL_leaf cL_leaf 8 [(0, 16, 19, 13), (0, 16, 23, 15), (0, 16, 27, 17)] rm_L_leaf 130 877 D cA ad NL [.ref (ad 0 0), .int p1, .int p2, .int p3, .int p4, .int p5, .ref (ad 81 0)] X rr nw XX sz := by
  refine g_ofL (nw := nw) (by decide) rfl hD0 (Nat.le_of_ble_eq_true rfl) rfl (fun p e s m below meth c ls hsz CL hP hS hl => ?_)
  have C := CL.1
  have hx := C.1
  have hb := C.2.1
  rw [L_leaf] at hf
  refine lv_aload hx hb dL_leaf_0 (lv_at hl 6 rfl) ?_
  refine lv_iconst (v := 0) hx hb dL_leaf_2 (by decide) ?_
  refine lv_aload_n hx hb dL_leaf_3 rfl (lv_at hl 0 rfl) ?_
  refine lv_iload_n hx hb dL_leaf_4 rfl (lv_at hl 1 rfl) ?_
  refine lv_iload_n hx hb dL_leaf_5 rfl (lv_at hl 2 rfl) ?_
  refine lv_iload_n hx hb dL_leaf_6 rfl (lv_at hl 3 rfl) ?_
  refine lv_iload hx hb dL_leaf_7 (lv_at hl 4 rfl) ?_
  refine lv_iload hx hb dL_leaf_9 (lv_at hl 5 rfl) ?_
  obtain ⟨k1, r1, X1, h1, hf⟩ := b3_in hf
  refine r_callX (nw := nw) (rest := [.int 0, .ref (ad 81 0)]) C CL.2.1 CL.2.2.1 CL.2.2.2.1 hP hS hl.1 rfl (s_X9_leaf htr hW hD0 hal (by rw [hsz]; exact hadr) ha0 h1) (by rw [hsz]; exact hadr) ix_X9_leaf iv_X9_leaf ls_L_7 ⟨rfl, rfl, Nat.le_of_ble_eq_true rfl, Nat.le_of_ble_eq_true rfl⟩ ha0 (ct_0 _ _ _ _) rfl rfl rfl rfl (Nat.le_of_ble_eq_true rfl) ⟨Nat.le_of_ble_eq_true rfl, Nat.le_of_ble_eq_true rfl⟩ dL_leaf_11 (fun hk0 C H locs hP hS => ?_) (fun hk0 ce q9 H locs hP hS hce hcv hcl => ?_)
  · subst hk0
    have hf := g_ip rfl hf
    show W p l e rm_L_leaf s m _ below meth c H locs _ _ _ (F0 m 14 ls (.int r1 :: [.int 0, .ref (ad 81 0)]))
    refine lv_i2l (v := r1.toInt64) hx hb dL_leaf_14 rfl ?_
    refine r_last (K := 81) (i := 0) (r := r1) (jj := 0) C hP hS (by simp [ha81]) gIn01 dL_leaf_15 (fun H locs hP hS => ?_)
    refine lv_goto (tgt := 31) hx hb dL_leaf_16 (by decide) ?_
    refine lv_iconst (v := 0) hx hb dL_leaf_31 (by decide) ?_
    obtain ⟨rfl, rfl⟩ := g_s1 hf
    refine W.widen (k := 130) (n := 877) (Nat.le_of_ble_eq_true rfl) (Nat.le_of_ble_eq_true rfl) ?_
    exact r_iret C hP hS dL_leaf_32
  · have hf := g_in hk0 hf
    by_cases e0 : k1 = 1
    · subst e0
      have hf := g_ip rfl hf
      obtain ⟨hnw, hf⟩ := eqn_in hf
      obtain ⟨rfl, rfl⟩ := g_s1 hf
      rw [hnw, List.append_nil]
      refine vx_catch (own := RL) (E := gXC 1) (name := gXC 1) C.2.2.2.1 [] ⟨0, 16, 19, 13⟩ [⟨0, 16, 23, 15⟩, ⟨0, 16, 27, 17⟩] (CL.2.2.2.2.2.trans rfl) (fun z hz => nomatch hz) (by decide) (by decide) (C.2.2.2.2.1 _ cx_13) (gEW_at CL.2.1 cs_1) hce hcv hcl ?_
      refine lv_astore (i := 7) (lv' := [(7, .ref q9), (0, .ref (ad 0 0)), (1, .int p1), (2, .int p2), (3, .int p3), (4, .int p4), (5, .int p5), (6, .ref (ad 81 0))]) hx hb dL_leaf_19 hl (Nat.le_of_ble_eq_true rfl) rfl (fun ls hl => ?_)
      refine lv_iconst (v := 1) hx hb dL_leaf_21 (by decide) ?_
      refine W.widen (k := 130) (n := 877) (Nat.le_of_ble_eq_true rfl) (Nat.le_of_ble_eq_true rfl) ?_
      exact r_iret C hP hS dL_leaf_22
    · have hf := g_in e0 hf
      by_cases e1 : k1 = 2
      · subst e1
        have hf := g_ip rfl hf
        obtain ⟨hnw, hf⟩ := eqn_in hf
        obtain ⟨rfl, rfl⟩ := g_s1 hf
        rw [hnw, List.append_nil]
        refine vx_catch (own := RL) (E := gXC 2) (name := gXC 2) C.2.2.2.1 [⟨0, 16, 19, 13⟩] ⟨0, 16, 23, 15⟩ [⟨0, 16, 27, 17⟩] (CL.2.2.2.2.2.trans rfl) (fun z hz => by simp only [List.mem_singleton] at hz; subst hz; exact Or.inr ⟨by decide, gXC 1, C.2.2.2.2.1 _ cx_13, CL.2.2.2.2.1 2 1 (by decide) (by decide) (by decide)⟩) (by decide) (by decide) (C.2.2.2.2.1 _ cx_15) (gEW_at CL.2.1 cs_2) hce hcv hcl ?_
        refine lv_astore (i := 7) (lv' := [(7, .ref q9), (0, .ref (ad 0 0)), (1, .int p1), (2, .int p2), (3, .int p3), (4, .int p4), (5, .int p5), (6, .ref (ad 81 0))]) hx hb dL_leaf_23 hl (Nat.le_of_ble_eq_true rfl) rfl (fun ls hl => ?_)
        refine lv_iconst (v := 2) hx hb dL_leaf_25 (by decide) ?_
        refine W.widen (k := 130) (n := 877) (Nat.le_of_ble_eq_true rfl) (Nat.le_of_ble_eq_true rfl) ?_
        exact r_iret C hP hS dL_leaf_26
      · have hf := g_in e1 hf
        by_cases e2 : k1 = 3
        · subst e2
          have hf := g_ip rfl hf
          obtain ⟨hnw, hf⟩ := eqn_in hf
          obtain ⟨rfl, rfl⟩ := g_s1 hf
          rw [hnw, List.append_nil]
          refine vx_catch (own := RL) (E := gXC 3) (name := gXC 3) C.2.2.2.1 [⟨0, 16, 19, 13⟩, ⟨0, 16, 23, 15⟩] ⟨0, 16, 27, 17⟩ [] (CL.2.2.2.2.2.trans rfl) (fun z hz => by simp only [List.mem_cons, List.not_mem_nil, or_false] at hz; rcases hz with rfl | rfl; exact Or.inr ⟨by decide, gXC 1, C.2.2.2.2.1 _ cx_13, CL.2.2.2.2.1 3 1 (by decide) (by decide) (by decide)⟩; exact Or.inr ⟨by decide, gXC 2, C.2.2.2.2.1 _ cx_15, CL.2.2.2.2.1 3 2 (by decide) (by decide) (by decide)⟩) (by decide) (by decide) (C.2.2.2.2.1 _ cx_17) (gEW_at CL.2.1 cs_3) hce hcv hcl ?_
          refine lv_astore (i := 7) (lv' := [(7, .ref q9), (0, .ref (ad 0 0)), (1, .int p1), (2, .int p2), (3, .int p3), (4, .int p4), (5, .int p5), (6, .ref (ad 81 0))]) hx hb dL_leaf_27 hl (Nat.le_of_ble_eq_true rfl) rfl (fun ls hl => ?_)
          refine lv_iconst (v := 3) hx hb dL_leaf_29 (by decide) ?_
          refine W.widen (k := 130) (n := 877) (Nat.le_of_ble_eq_true rfl) (Nat.le_of_ble_eq_true rfl) ?_
          exact r_iret C hP hS dL_leaf_30
        · have hf := g_in e2 hf
          cases hf

def rm_L_sheets : Room := { frames := 7, cells := 1, slots := 6, locals := 113 }
set_option maxRecDepth 100000 in
set_option maxHeartbeats 4000000 in
theorem s_L_sheets {l : Launch} {D : va_G} {cA : Nat → ClassId} {ad : Nat → Nat → Nat} {NL nw : List (Nat × Nat)} {N sz : Nat} {p1 : Int32} {p2 : Int32} {X : gM} {rr : Int32} {XX : gM} (htr : l.stackTraces = false) (hW : gWf NL) (hD0 : gD (fun _ => True) ad NL) (ha0 : (0, 0) ∈ NL) (ha81 : (81, 0) ∈ NL) (hf : L_sheets (gal NL) N p1 p2 X = some (rr, XX)) : gCL l yL_sheets cL_sheets 5 [(0, 10, 13, 13), (0, 10, 17, 15), (0, 10, 21, 17)] rm_L_sheets 1 6 D cA ad NL [.ref (ad 0 0), .int p1, .int p2, .ref (ad 81 0)] X rr [] XX sz := by
  refine g_ofL (nw := []) (by decide) rfl hD0 (Nat.le_of_ble_eq_true rfl) rfl (fun p e s m below meth c ls hsz CL hP hS hl => ?_)
  have C := CL.1
  have hx := C.1
  have hb := C.2.1
  rw [L_sheets] at hf
  refine lv_aload_n hx hb dL_sheets_0 rfl (lv_at hl 3 rfl) ?_
  refine lv_iconst (v := 0) hx hb dL_sheets_1 (by decide) ?_
  refine lv_aload_n hx hb dL_sheets_2 rfl (lv_at hl 0 rfl) ?_
  refine lv_iload_n hx hb dL_sheets_3 rfl (lv_at hl 1 rfl) ?_
  refine lv_iload_n hx hb dL_sheets_4 rfl (lv_at hl 2 rfl) ?_
  obtain ⟨k1, r1, X1, h1, hf⟩ := b3_in hf
  refine r_callX (nw := []) (rest := [.int 0, .ref (ad 81 0)]) C CL.2.1 CL.2.2.1 CL.2.2.2.1 hP hS hl.1 rfl (gCX_A (s_X9_sheets htr hW hD0 ha0 h1)) True.intro ix_X9_sheets iv_X9_sheets ls_L_19 ⟨rfl, rfl, Nat.le_of_ble_eq_true rfl, Nat.le_of_ble_eq_true rfl⟩ ha0 (ct_0 _ _ _ _) rfl rfl rfl rfl (Nat.le_of_ble_eq_true rfl) ⟨Nat.le_of_ble_eq_true rfl, Nat.le_of_ble_eq_true rfl⟩ dL_sheets_5 (fun hk0 C H locs hP hS => ?_) (fun hk0 ce q9 H locs hP hS hce hcv hcl => ?_)
  · subst hk0
    have hf := g_ip rfl hf
    show W p l e rm_L_sheets s m _ below meth c H locs _ _ _ (F0 m 8 ls (.int r1 :: [.int 0, .ref (ad 81 0)]))
    refine lv_i2l (v := r1.toInt64) hx hb dL_sheets_8 rfl ?_
    refine r_last (K := 81) (i := 0) (r := r1) (jj := 0) C hP hS (by simp [ha81]) gIn01 dL_sheets_9 (fun H locs hP hS => ?_)
    refine lv_goto (tgt := 25) hx hb dL_sheets_10 (by decide) ?_
    refine lv_iconst (v := 0) hx hb dL_sheets_25 (by decide) ?_
    obtain ⟨rfl, rfl⟩ := g_s1 hf
    refine W.widen (k := 1) (n := 6) (Nat.le_of_ble_eq_true rfl) (Nat.le_of_ble_eq_true rfl) ?_
    exact r_iret C hP hS dL_sheets_26
  · have hf := g_in hk0 hf
    by_cases e0 : k1 = 1
    · subst e0
      have hf := g_ip rfl hf
      obtain ⟨rfl, rfl⟩ := g_s1 hf
      rw [List.append_nil]
      refine vx_catch (own := RL) (E := gXC 1) (name := gXC 1) C.2.2.2.1 [] ⟨0, 10, 13, 13⟩ [⟨0, 10, 17, 15⟩, ⟨0, 10, 21, 17⟩] (CL.2.2.2.2.2.trans rfl) (fun z hz => nomatch hz) (by decide) (by decide) (C.2.2.2.2.1 _ cx_13) (gEW_at CL.2.1 cs_1) hce hcv hcl ?_
      refine lv_astore (i := 4) (lv' := [(4, .ref q9), (0, .ref (ad 0 0)), (1, .int p1), (2, .int p2), (3, .ref (ad 81 0))]) hx hb dL_sheets_13 hl (Nat.le_of_ble_eq_true rfl) rfl (fun ls hl => ?_)
      refine lv_iconst (v := 1) hx hb dL_sheets_15 (by decide) ?_
      refine W.widen (k := 1) (n := 6) (Nat.le_of_ble_eq_true rfl) (Nat.le_of_ble_eq_true rfl) ?_
      exact r_iret C hP hS dL_sheets_16
    · have hf := g_in e0 hf
      by_cases e1 : k1 = 2
      · subst e1
        have hf := g_ip rfl hf
        obtain ⟨rfl, rfl⟩ := g_s1 hf
        rw [List.append_nil]
        refine vx_catch (own := RL) (E := gXC 2) (name := gXC 2) C.2.2.2.1 [⟨0, 10, 13, 13⟩] ⟨0, 10, 17, 15⟩ [⟨0, 10, 21, 17⟩] (CL.2.2.2.2.2.trans rfl) (fun z hz => by simp only [List.mem_singleton] at hz; subst hz; exact Or.inr ⟨by decide, gXC 1, C.2.2.2.2.1 _ cx_13, CL.2.2.2.2.1 2 1 (by decide) (by decide) (by decide)⟩) (by decide) (by decide) (C.2.2.2.2.1 _ cx_15) (gEW_at CL.2.1 cs_2) hce hcv hcl ?_
        refine lv_astore (i := 4) (lv' := [(4, .ref q9), (0, .ref (ad 0 0)), (1, .int p1), (2, .int p2), (3, .ref (ad 81 0))]) hx hb dL_sheets_17 hl (Nat.le_of_ble_eq_true rfl) rfl (fun ls hl => ?_)
        refine lv_iconst (v := 2) hx hb dL_sheets_19 (by decide) ?_
        refine W.widen (k := 1) (n := 6) (Nat.le_of_ble_eq_true rfl) (Nat.le_of_ble_eq_true rfl) ?_
        exact r_iret C hP hS dL_sheets_20
      · have hf := g_in e1 hf
        by_cases e2 : k1 = 3
        · subst e2
          have hf := g_ip rfl hf
          obtain ⟨rfl, rfl⟩ := g_s1 hf
          rw [List.append_nil]
          refine vx_catch (own := RL) (E := gXC 3) (name := gXC 3) C.2.2.2.1 [⟨0, 10, 13, 13⟩, ⟨0, 10, 17, 15⟩] ⟨0, 10, 21, 17⟩ [] (CL.2.2.2.2.2.trans rfl) (fun z hz => by simp only [List.mem_cons, List.not_mem_nil, or_false] at hz; rcases hz with rfl | rfl; exact Or.inr ⟨by decide, gXC 1, C.2.2.2.2.1 _ cx_13, CL.2.2.2.2.1 3 1 (by decide) (by decide) (by decide)⟩; exact Or.inr ⟨by decide, gXC 2, C.2.2.2.2.1 _ cx_15, CL.2.2.2.2.1 3 2 (by decide) (by decide) (by decide)⟩) (by decide) (by decide) (C.2.2.2.2.1 _ cx_17) (gEW_at CL.2.1 cs_3) hce hcv hcl ?_
          refine lv_astore (i := 4) (lv' := [(4, .ref q9), (0, .ref (ad 0 0)), (1, .int p1), (2, .int p2), (3, .ref (ad 81 0))]) hx hb dL_sheets_21 hl (Nat.le_of_ble_eq_true rfl) rfl (fun ls hl => ?_)
          refine lv_iconst (v := 3) hx hb dL_sheets_23 (by decide) ?_
          refine W.widen (k := 1) (n := 6) (Nat.le_of_ble_eq_true rfl) (Nat.le_of_ble_eq_true rfl) ?_
          exact r_iret C hP hS dL_sheets_24
        · have hf := g_in e2 hf
          cases hf

def rm_L_light : Room := { frames := 7, cells := 1, slots := 6, locals := 116 }
set_option maxRecDepth 100000 in
set_option maxHeartbeats 4000000 in
theorem s_L_light {l : Launch} {D : va_G} {cA : Nat → ClassId} {ad : Nat → Nat → Nat} {NL nw : List (Nat × Nat)} {N sz : Nat} {p1 : Int32} {p2 : Int32} {p3 : Int32} {X : gM} {rr : Int32} {XX : gM} (htr : l.stackTraces = false) (hW : gWf NL) (hD0 : gD (fun _ => True) ad NL) (ha0 : (0, 0) ∈ NL) (ha81 : (81, 0) ∈ NL) (hf : L_light (gal NL) N p1 p2 p3 X = some (rr, XX)) : gCL l yL_light cL_light 5 [(0, 7, 10, 13), (0, 7, 14, 15)] rm_L_light 1 6 D cA ad NL [.ref (ad 0 0), .int p1, .int p2, .int p3] X rr [] XX sz := by
  refine g_ofL (nw := []) (by decide) rfl hD0 (Nat.le_of_ble_eq_true rfl) rfl (fun p e s m below meth c ls hsz CL hP hS hl => ?_)
  have C := CL.1
  have hx := C.1
  have hb := C.2.1
  rw [L_light] at hf
  refine lv_aload_n hx hb dL_light_0 rfl (lv_at hl 0 rfl) ?_
  refine lv_iload_n hx hb dL_light_1 rfl (lv_at hl 1 rfl) ?_
  refine lv_iload_n hx hb dL_light_2 rfl (lv_at hl 2 rfl) ?_
  refine lv_iload_n hx hb dL_light_3 rfl (lv_at hl 3 rfl) ?_
  obtain ⟨k1, r1, X1, h1, hf⟩ := b3_in hf
  refine r_callX (nw := []) (rest := []) C CL.2.1 CL.2.2.1 CL.2.2.2.1 hP hS hl.1 rfl (gCX_A (s_X9_light htr hW hD0 ha0 h1)) True.intro ix_X9_light iv_X9_light ls_L_23 ⟨rfl, rfl, Nat.le_of_ble_eq_true rfl, Nat.le_of_ble_eq_true rfl⟩ ha0 (ct_0 _ _ _ _) rfl rfl rfl rfl (Nat.le_of_ble_eq_true rfl) ⟨Nat.le_of_ble_eq_true rfl, Nat.le_of_ble_eq_true rfl⟩ dL_light_4 (fun hk0 C H locs hP hS => ?_) (fun hk0 ce q9 H locs hP hS hce hcv hcl => ?_)
  · subst hk0
    have hf := g_ip rfl hf
    show W p l e rm_L_light s m _ below meth c H locs _ _ _ (F0 m 7 ls ([]))
    refine lv_goto (tgt := 18) hx hb dL_light_7 (by decide) ?_
    refine lv_iconst (v := 0) hx hb dL_light_18 (by decide) ?_
    obtain ⟨rfl, rfl⟩ := g_s1 hf
    refine W.widen (k := 1) (n := 6) (Nat.le_of_ble_eq_true rfl) (Nat.le_of_ble_eq_true rfl) ?_
    exact r_iret C hP hS dL_light_19
  · have hf := g_in hk0 hf
    by_cases e0 : k1 = 1
    · subst e0
      have hf := g_ip rfl hf
      obtain ⟨rfl, rfl⟩ := g_s1 hf
      rw [List.append_nil]
      refine vx_catch (own := RL) (E := gXC 1) (name := gXC 1) C.2.2.2.1 [] ⟨0, 7, 10, 13⟩ [⟨0, 7, 14, 15⟩] (CL.2.2.2.2.2.trans rfl) (fun z hz => nomatch hz) (by decide) (by decide) (C.2.2.2.2.1 _ cx_13) (gEW_at CL.2.1 cs_1) hce hcv hcl ?_
      refine lv_astore (i := 4) (lv' := [(4, .ref q9), (0, .ref (ad 0 0)), (1, .int p1), (2, .int p2), (3, .int p3)]) hx hb dL_light_10 hl (Nat.le_of_ble_eq_true rfl) rfl (fun ls hl => ?_)
      refine lv_iconst (v := 1) hx hb dL_light_12 (by decide) ?_
      refine W.widen (k := 1) (n := 6) (Nat.le_of_ble_eq_true rfl) (Nat.le_of_ble_eq_true rfl) ?_
      exact r_iret C hP hS dL_light_13
    · have hf := g_in e0 hf
      by_cases e1 : k1 = 2
      · subst e1
        have hf := g_ip rfl hf
        obtain ⟨rfl, rfl⟩ := g_s1 hf
        rw [List.append_nil]
        refine vx_catch (own := RL) (E := gXC 2) (name := gXC 2) C.2.2.2.1 [⟨0, 7, 10, 13⟩] ⟨0, 7, 14, 15⟩ [] (CL.2.2.2.2.2.trans rfl) (fun z hz => by simp only [List.mem_singleton] at hz; subst hz; exact Or.inr ⟨by decide, gXC 1, C.2.2.2.2.1 _ cx_13, CL.2.2.2.2.1 2 1 (by decide) (by decide) (by decide)⟩) (by decide) (by decide) (C.2.2.2.2.1 _ cx_15) (gEW_at CL.2.1 cs_2) hce hcv hcl ?_
        refine lv_astore (i := 4) (lv' := [(4, .ref q9), (0, .ref (ad 0 0)), (1, .int p1), (2, .int p2), (3, .int p3)]) hx hb dL_light_14 hl (Nat.le_of_ble_eq_true rfl) rfl (fun ls hl => ?_)
        refine lv_iconst (v := 2) hx hb dL_light_16 (by decide) ?_
        refine W.widen (k := 1) (n := 6) (Nat.le_of_ble_eq_true rfl) (Nat.le_of_ble_eq_true rfl) ?_
        exact r_iret C hP hS dL_light_17
      · have hf := g_in e1 hf
        cases hf

def rm_L_image : Room := { frames := 7, cells := 1, slots := 6, locals := 115 }
set_option maxRecDepth 100000 in
set_option maxHeartbeats 4000000 in
theorem s_L_image {l : Launch} {D : va_G} {cA : Nat → ClassId} {ad : Nat → Nat → Nat} {NL nw : List (Nat × Nat)} {N sz : Nat} {p1 : Int32} {p2 : Int32} {p3 : Int32} {p4 : Int32} {p5 : Int32} {X : gM} {rr : Int32} {XX : gM} (htr : l.stackTraces = false) (hW : gWf NL) (hD0 : gD (fun _ => True) ad NL) (ha0 : (0, 0) ∈ NL) (ha81 : (81, 0) ∈ NL) (hf : L_image (gal NL) N p1 p2 p3 p4 p5 X = some (rr, XX)) : gCL l yL_image cL_image 8 [(0, 16, 19, 13), (0, 16, 23, 15)] rm_L_image 1 6 D cA ad NL [.ref (ad 0 0), .int p1, .int p2, .int p3, .int p4, .int p5, .ref (ad 81 0)] X rr [] XX sz := by
  refine g_ofL (nw := []) (by decide) rfl hD0 (Nat.le_of_ble_eq_true rfl) rfl (fun p e s m below meth c ls hsz CL hP hS hl => ?_)
  have C := CL.1
  have hx := C.1
  have hb := C.2.1
  rw [L_image] at hf
  refine lv_aload hx hb dL_image_0 (lv_at hl 6 rfl) ?_
  refine lv_iconst (v := 0) hx hb dL_image_2 (by decide) ?_
  refine lv_aload_n hx hb dL_image_3 rfl (lv_at hl 0 rfl) ?_
  refine lv_iload_n hx hb dL_image_4 rfl (lv_at hl 1 rfl) ?_
  refine lv_iload_n hx hb dL_image_5 rfl (lv_at hl 2 rfl) ?_
  refine lv_iload_n hx hb dL_image_6 rfl (lv_at hl 3 rfl) ?_
  refine lv_iload hx hb dL_image_7 (lv_at hl 4 rfl) ?_
  refine lv_iload hx hb dL_image_9 (lv_at hl 5 rfl) ?_
  obtain ⟨k1, r1, X1, h1, hf⟩ := b3_in hf
  refine r_callX (nw := []) (rest := [.int 0, .ref (ad 81 0)]) C CL.2.1 CL.2.2.1 CL.2.2.2.1 hP hS hl.1 rfl (gCX_A (s_X9_image htr hW hD0 ha0 h1)) True.intro ix_X9_image iv_X9_image ls_L_27 ⟨rfl, rfl, Nat.le_of_ble_eq_true rfl, Nat.le_of_ble_eq_true rfl⟩ ha0 (ct_0 _ _ _ _) rfl rfl rfl rfl (Nat.le_of_ble_eq_true rfl) ⟨Nat.le_of_ble_eq_true rfl, Nat.le_of_ble_eq_true rfl⟩ dL_image_11 (fun hk0 C H locs hP hS => ?_) (fun hk0 ce q9 H locs hP hS hce hcv hcl => ?_)
  · subst hk0
    have hf := g_ip rfl hf
    show W p l e rm_L_image s m _ below meth c H locs _ _ _ (F0 m 14 ls (.int r1 :: [.int 0, .ref (ad 81 0)]))
    refine lv_i2l (v := r1.toInt64) hx hb dL_image_14 rfl ?_
    refine r_last (K := 81) (i := 0) (r := r1) (jj := 0) C hP hS (by simp [ha81]) gIn01 dL_image_15 (fun H locs hP hS => ?_)
    refine lv_goto (tgt := 27) hx hb dL_image_16 (by decide) ?_
    refine lv_iconst (v := 0) hx hb dL_image_27 (by decide) ?_
    obtain ⟨rfl, rfl⟩ := g_s1 hf
    refine W.widen (k := 1) (n := 6) (Nat.le_of_ble_eq_true rfl) (Nat.le_of_ble_eq_true rfl) ?_
    exact r_iret C hP hS dL_image_28
  · have hf := g_in hk0 hf
    by_cases e0 : k1 = 1
    · subst e0
      have hf := g_ip rfl hf
      obtain ⟨rfl, rfl⟩ := g_s1 hf
      rw [List.append_nil]
      refine vx_catch (own := RL) (E := gXC 1) (name := gXC 1) C.2.2.2.1 [] ⟨0, 16, 19, 13⟩ [⟨0, 16, 23, 15⟩] (CL.2.2.2.2.2.trans rfl) (fun z hz => nomatch hz) (by decide) (by decide) (C.2.2.2.2.1 _ cx_13) (gEW_at CL.2.1 cs_1) hce hcv hcl ?_
      refine lv_astore (i := 7) (lv' := [(7, .ref q9), (0, .ref (ad 0 0)), (1, .int p1), (2, .int p2), (3, .int p3), (4, .int p4), (5, .int p5), (6, .ref (ad 81 0))]) hx hb dL_image_19 hl (Nat.le_of_ble_eq_true rfl) rfl (fun ls hl => ?_)
      refine lv_iconst (v := 1) hx hb dL_image_21 (by decide) ?_
      refine W.widen (k := 1) (n := 6) (Nat.le_of_ble_eq_true rfl) (Nat.le_of_ble_eq_true rfl) ?_
      exact r_iret C hP hS dL_image_22
    · have hf := g_in e0 hf
      by_cases e1 : k1 = 2
      · subst e1
        have hf := g_ip rfl hf
        obtain ⟨rfl, rfl⟩ := g_s1 hf
        rw [List.append_nil]
        refine vx_catch (own := RL) (E := gXC 2) (name := gXC 2) C.2.2.2.1 [⟨0, 16, 19, 13⟩] ⟨0, 16, 23, 15⟩ [] (CL.2.2.2.2.2.trans rfl) (fun z hz => by simp only [List.mem_singleton] at hz; subst hz; exact Or.inr ⟨by decide, gXC 1, C.2.2.2.2.1 _ cx_13, CL.2.2.2.2.1 2 1 (by decide) (by decide) (by decide)⟩) (by decide) (by decide) (C.2.2.2.2.1 _ cx_15) (gEW_at CL.2.1 cs_2) hce hcv hcl ?_
        refine lv_astore (i := 7) (lv' := [(7, .ref q9), (0, .ref (ad 0 0)), (1, .int p1), (2, .int p2), (3, .int p3), (4, .int p4), (5, .int p5), (6, .ref (ad 81 0))]) hx hb dL_image_23 hl (Nat.le_of_ble_eq_true rfl) rfl (fun ls hl => ?_)
        refine lv_iconst (v := 2) hx hb dL_image_25 (by decide) ?_
        refine W.widen (k := 1) (n := 6) (Nat.le_of_ble_eq_true rfl) (Nat.le_of_ble_eq_true rfl) ?_
        exact r_iret C hP hS dL_image_26
      · have hf := g_in e1 hf
        cases hf

def rm_L_unmix : Room := { frames := 7, cells := 1, slots := 6, locals := 114 }
set_option maxRecDepth 100000 in
set_option maxHeartbeats 4000000 in
theorem s_L_unmix {l : Launch} {D : va_G} {cA : Nat → ClassId} {ad : Nat → Nat → Nat} {NL nw : List (Nat × Nat)} {N sz : Nat} {p1 : Int32} {p2 : Int32} {p3 : Int32} {p4 : Int32} {X : gM} {rr : Int32} {XX : gM} (htr : l.stackTraces = false) (hW : gWf NL) (hD0 : gD (fun _ => True) ad NL) (ha0 : (0, 0) ∈ NL) (ha81 : (81, 0) ∈ NL) (hf : L_unmix (gal NL) N p1 p2 p3 p4 X = some (rr, XX)) : gCL l yL_unmix cL_unmix 7 [(0, 14, 17, 13)] rm_L_unmix 1 6 D cA ad NL [.ref (ad 0 0), .int p1, .int p2, .int p3, .int p4, .ref (ad 81 0)] X rr [] XX sz := by
  refine g_ofL (nw := []) (by decide) rfl hD0 (Nat.le_of_ble_eq_true rfl) rfl (fun p e s m below meth c ls hsz CL hP hS hl => ?_)
  have C := CL.1
  have hx := C.1
  have hb := C.2.1
  rw [L_unmix] at hf
  refine lv_aload hx hb dL_unmix_0 (lv_at hl 5 rfl) ?_
  refine lv_iconst (v := 0) hx hb dL_unmix_2 (by decide) ?_
  refine lv_aload_n hx hb dL_unmix_3 rfl (lv_at hl 0 rfl) ?_
  refine lv_iload_n hx hb dL_unmix_4 rfl (lv_at hl 1 rfl) ?_
  refine lv_iload_n hx hb dL_unmix_5 rfl (lv_at hl 2 rfl) ?_
  refine lv_iload_n hx hb dL_unmix_6 rfl (lv_at hl 3 rfl) ?_
  refine lv_iload hx hb dL_unmix_7 (lv_at hl 4 rfl) ?_
  obtain ⟨k1, r1, X1, h1, hf⟩ := b3_in hf
  refine r_callX (nw := []) (rest := [.int 0, .ref (ad 81 0)]) C CL.2.1 CL.2.2.1 CL.2.2.2.1 hP hS hl.1 rfl (gCX_A (s_X9_unmix htr hW hD0 ha0 h1)) True.intro ix_X9_unmix iv_X9_unmix ls_L_30 ⟨rfl, rfl, Nat.le_of_ble_eq_true rfl, Nat.le_of_ble_eq_true rfl⟩ ha0 (ct_0 _ _ _ _) rfl rfl rfl rfl (Nat.le_of_ble_eq_true rfl) ⟨Nat.le_of_ble_eq_true rfl, Nat.le_of_ble_eq_true rfl⟩ dL_unmix_9 (fun hk0 C H locs hP hS => ?_) (fun hk0 ce q9 H locs hP hS hce hcv hcl => ?_)
  · subst hk0
    have hf := g_ip rfl hf
    show W p l e rm_L_unmix s m _ below meth c H locs _ _ _ (F0 m 12 ls (.int r1 :: [.int 0, .ref (ad 81 0)]))
    refine lv_i2l (v := r1.toInt64) hx hb dL_unmix_12 rfl ?_
    refine r_last (K := 81) (i := 0) (r := r1) (jj := 0) C hP hS (by simp [ha81]) gIn01 dL_unmix_13 (fun H locs hP hS => ?_)
    refine lv_goto (tgt := 21) hx hb dL_unmix_14 (by decide) ?_
    refine lv_iconst (v := 0) hx hb dL_unmix_21 (by decide) ?_
    obtain ⟨rfl, rfl⟩ := g_s1 hf
    refine W.widen (k := 1) (n := 6) (Nat.le_of_ble_eq_true rfl) (Nat.le_of_ble_eq_true rfl) ?_
    exact r_iret C hP hS dL_unmix_22
  · have hf := g_in hk0 hf
    by_cases e0 : k1 = 1
    · subst e0
      have hf := g_ip rfl hf
      obtain ⟨rfl, rfl⟩ := g_s1 hf
      rw [List.append_nil]
      refine vx_catch (own := RL) (E := gXC 1) (name := gXC 1) C.2.2.2.1 [] ⟨0, 14, 17, 13⟩ [] (CL.2.2.2.2.2.trans rfl) (fun z hz => nomatch hz) (by decide) (by decide) (C.2.2.2.2.1 _ cx_13) (gEW_at CL.2.1 cs_1) hce hcv hcl ?_
      refine lv_astore (i := 6) (lv' := [(6, .ref q9), (0, .ref (ad 0 0)), (1, .int p1), (2, .int p2), (3, .int p3), (4, .int p4), (5, .ref (ad 81 0))]) hx hb dL_unmix_17 hl (Nat.le_of_ble_eq_true rfl) rfl (fun ls hl => ?_)
      refine lv_iconst (v := 1) hx hb dL_unmix_19 (by decide) ?_
      refine W.widen (k := 1) (n := 6) (Nat.le_of_ble_eq_true rfl) (Nat.le_of_ble_eq_true rfl) ?_
      exact r_iret C hP hS dL_unmix_20
    · have hf := g_in e0 hf
      cases hf

def rm_L_give : Room := { frames := 7, cells := 1, slots := 6, locals := 117 }
set_option maxRecDepth 100000 in
set_option maxHeartbeats 4000000 in
theorem s_L_give {l : Launch} {D : va_G} {cA : Nat → ClassId} {ad : Nat → Nat → Nat} {NL nw : List (Nat × Nat)} {N sz : Nat} {p1 : Int32} {p2 : Int32} {p3 : Int32} {p4 : Int32} {p5 : Int32} {p6 : Int32} {X : gM} {rr : Int32} {XX : gM} (htr : l.stackTraces = false) (hW : gWf NL) (hD0 : gD (fun _ => True) ad NL) (ha0 : (0, 0) ∈ NL) (ha81 : (81, 0) ∈ NL) (hf : L_give (gal NL) N p1 p2 p3 p4 p5 p6 X = some (rr, XX)) : gCL l yL_give cL_give 9 [(0, 18, 21, 13), (0, 18, 25, 15), (0, 18, 29, 17)] rm_L_give 1 6 D cA ad NL [.ref (ad 0 0), .int p1, .int p2, .int p3, .int p4, .int p5, .int p6, .ref (ad 81 0)] X rr [] XX sz := by
  refine g_ofL (nw := []) (by decide) rfl hD0 (Nat.le_of_ble_eq_true rfl) rfl (fun p e s m below meth c ls hsz CL hP hS hl => ?_)
  have C := CL.1
  have hx := C.1
  have hb := C.2.1
  rw [L_give] at hf
  refine lv_aload hx hb dL_give_0 (lv_at hl 7 rfl) ?_
  refine lv_iconst (v := 0) hx hb dL_give_2 (by decide) ?_
  refine lv_aload_n hx hb dL_give_3 rfl (lv_at hl 0 rfl) ?_
  refine lv_iload_n hx hb dL_give_4 rfl (lv_at hl 1 rfl) ?_
  refine lv_iload_n hx hb dL_give_5 rfl (lv_at hl 2 rfl) ?_
  refine lv_iload_n hx hb dL_give_6 rfl (lv_at hl 3 rfl) ?_
  refine lv_iload hx hb dL_give_7 (lv_at hl 4 rfl) ?_
  refine lv_iload hx hb dL_give_9 (lv_at hl 5 rfl) ?_
  refine lv_iload hx hb dL_give_11 (lv_at hl 6 rfl) ?_
  obtain ⟨k1, r1, X1, h1, hf⟩ := b3_in hf
  refine r_callX (nw := []) (rest := [.int 0, .ref (ad 81 0)]) C CL.2.1 CL.2.2.1 CL.2.2.2.1 hP hS hl.1 rfl (gCX_A (s_X9_give htr hW hD0 ha0 h1)) True.intro ix_X9_give iv_X9_give ls_L_34 ⟨rfl, rfl, Nat.le_of_ble_eq_true rfl, Nat.le_of_ble_eq_true rfl⟩ ha0 (ct_0 _ _ _ _) rfl rfl rfl rfl (Nat.le_of_ble_eq_true rfl) ⟨Nat.le_of_ble_eq_true rfl, Nat.le_of_ble_eq_true rfl⟩ dL_give_13 (fun hk0 C H locs hP hS => ?_) (fun hk0 ce q9 H locs hP hS hce hcv hcl => ?_)
  · subst hk0
    have hf := g_ip rfl hf
    show W p l e rm_L_give s m _ below meth c H locs _ _ _ (F0 m 16 ls (.int r1 :: [.int 0, .ref (ad 81 0)]))
    refine lv_i2l (v := r1.toInt64) hx hb dL_give_16 rfl ?_
    refine r_last (K := 81) (i := 0) (r := r1) (jj := 0) C hP hS (by simp [ha81]) gIn01 dL_give_17 (fun H locs hP hS => ?_)
    refine lv_goto (tgt := 33) hx hb dL_give_18 (by decide) ?_
    refine lv_iconst (v := 0) hx hb dL_give_33 (by decide) ?_
    obtain ⟨rfl, rfl⟩ := g_s1 hf
    refine W.widen (k := 1) (n := 6) (Nat.le_of_ble_eq_true rfl) (Nat.le_of_ble_eq_true rfl) ?_
    exact r_iret C hP hS dL_give_34
  · have hf := g_in hk0 hf
    by_cases e0 : k1 = 1
    · subst e0
      have hf := g_ip rfl hf
      obtain ⟨rfl, rfl⟩ := g_s1 hf
      rw [List.append_nil]
      refine vx_catch (own := RL) (E := gXC 1) (name := gXC 1) C.2.2.2.1 [] ⟨0, 18, 21, 13⟩ [⟨0, 18, 25, 15⟩, ⟨0, 18, 29, 17⟩] (CL.2.2.2.2.2.trans rfl) (fun z hz => nomatch hz) (by decide) (by decide) (C.2.2.2.2.1 _ cx_13) (gEW_at CL.2.1 cs_1) hce hcv hcl ?_
      refine lv_astore (i := 8) (lv' := [(8, .ref q9), (0, .ref (ad 0 0)), (1, .int p1), (2, .int p2), (3, .int p3), (4, .int p4), (5, .int p5), (6, .int p6), (7, .ref (ad 81 0))]) hx hb dL_give_21 hl (Nat.le_of_ble_eq_true rfl) rfl (fun ls hl => ?_)
      refine lv_iconst (v := 1) hx hb dL_give_23 (by decide) ?_
      refine W.widen (k := 1) (n := 6) (Nat.le_of_ble_eq_true rfl) (Nat.le_of_ble_eq_true rfl) ?_
      exact r_iret C hP hS dL_give_24
    · have hf := g_in e0 hf
      by_cases e1 : k1 = 2
      · subst e1
        have hf := g_ip rfl hf
        obtain ⟨rfl, rfl⟩ := g_s1 hf
        rw [List.append_nil]
        refine vx_catch (own := RL) (E := gXC 2) (name := gXC 2) C.2.2.2.1 [⟨0, 18, 21, 13⟩] ⟨0, 18, 25, 15⟩ [⟨0, 18, 29, 17⟩] (CL.2.2.2.2.2.trans rfl) (fun z hz => by simp only [List.mem_singleton] at hz; subst hz; exact Or.inr ⟨by decide, gXC 1, C.2.2.2.2.1 _ cx_13, CL.2.2.2.2.1 2 1 (by decide) (by decide) (by decide)⟩) (by decide) (by decide) (C.2.2.2.2.1 _ cx_15) (gEW_at CL.2.1 cs_2) hce hcv hcl ?_
        refine lv_astore (i := 8) (lv' := [(8, .ref q9), (0, .ref (ad 0 0)), (1, .int p1), (2, .int p2), (3, .int p3), (4, .int p4), (5, .int p5), (6, .int p6), (7, .ref (ad 81 0))]) hx hb dL_give_25 hl (Nat.le_of_ble_eq_true rfl) rfl (fun ls hl => ?_)
        refine lv_iconst (v := 2) hx hb dL_give_27 (by decide) ?_
        refine W.widen (k := 1) (n := 6) (Nat.le_of_ble_eq_true rfl) (Nat.le_of_ble_eq_true rfl) ?_
        exact r_iret C hP hS dL_give_28
      · have hf := g_in e1 hf
        by_cases e2 : k1 = 3
        · subst e2
          have hf := g_ip rfl hf
          obtain ⟨rfl, rfl⟩ := g_s1 hf
          rw [List.append_nil]
          refine vx_catch (own := RL) (E := gXC 3) (name := gXC 3) C.2.2.2.1 [⟨0, 18, 21, 13⟩, ⟨0, 18, 25, 15⟩] ⟨0, 18, 29, 17⟩ [] (CL.2.2.2.2.2.trans rfl) (fun z hz => by simp only [List.mem_cons, List.not_mem_nil, or_false] at hz; rcases hz with rfl | rfl; exact Or.inr ⟨by decide, gXC 1, C.2.2.2.2.1 _ cx_13, CL.2.2.2.2.1 3 1 (by decide) (by decide) (by decide)⟩; exact Or.inr ⟨by decide, gXC 2, C.2.2.2.2.1 _ cx_15, CL.2.2.2.2.1 3 2 (by decide) (by decide) (by decide)⟩) (by decide) (by decide) (C.2.2.2.2.1 _ cx_17) (gEW_at CL.2.1 cs_3) hce hcv hcl ?_
          refine lv_astore (i := 8) (lv' := [(8, .ref q9), (0, .ref (ad 0 0)), (1, .int p1), (2, .int p2), (3, .int p3), (4, .int p4), (5, .int p5), (6, .int p6), (7, .ref (ad 81 0))]) hx hb dL_give_29 hl (Nat.le_of_ble_eq_true rfl) rfl (fun ls hl => ?_)
          refine lv_iconst (v := 3) hx hb dL_give_31 (by decide) ?_
          refine W.widen (k := 1) (n := 6) (Nat.le_of_ble_eq_true rfl) (Nat.le_of_ble_eq_true rfl) ?_
          exact r_iret C hP hS dL_give_32
        · have hf := g_in e2 hf
          cases hf

def rm_L_type : Room := { frames := 7, cells := 1, slots := 6, locals := 110 }
set_option maxRecDepth 100000 in
set_option maxHeartbeats 4000000 in
theorem s_L_type {l : Launch} {D : va_G} {cA : Nat → ClassId} {ad : Nat → Nat → Nat} {NL nw : List (Nat × Nat)} {N sz : Nat} {p1 : Int32} {X : gM} {rr : Int32} {XX : gM} (htr : l.stackTraces = false) (hW : gWf NL) (hD0 : gD (fun _ => True) ad NL) (ha0 : (0, 0) ∈ NL) (ha81 : (81, 0) ∈ NL) (hf : L_type (gal NL) N p1 X = some (rr, XX)) : gCL l yL_type cL_type 4 [(0, 9, 12, 15), (0, 9, 15, 17)] rm_L_type 1 6 D cA ad NL [.ref (ad 0 0), .int p1, .ref (ad 81 0)] X rr [] XX sz := by
  refine g_ofL (nw := []) (by decide) rfl hD0 (Nat.le_of_ble_eq_true rfl) rfl (fun p e s m below meth c ls hsz CL hP hS hl => ?_)
  have C := CL.1
  have hx := C.1
  have hb := C.2.1
  rw [L_type] at hf
  refine lv_aload_n hx hb dL_type_0 rfl (lv_at hl 2 rfl) ?_
  refine lv_iconst (v := 0) hx hb dL_type_1 (by decide) ?_
  refine lv_aload_n hx hb dL_type_2 rfl (lv_at hl 0 rfl) ?_
  refine lv_iload_n hx hb dL_type_3 rfl (lv_at hl 1 rfl) ?_
  obtain ⟨k1, r1, X1, h1, hf⟩ := b3_in hf
  refine r_callX (nw := []) (rest := [.int 0, .ref (ad 81 0)]) C CL.2.1 CL.2.2.1 CL.2.2.2.1 hP hS hl.1 rfl (gCX_A (s_X9_type htr hW hD0 ha0 h1)) True.intro ix_X9_type iv_X9_type ls_L_38 ⟨rfl, rfl, Nat.le_of_ble_eq_true rfl, Nat.le_of_ble_eq_true rfl⟩ ha0 (ct_0 _ _ _ _) rfl rfl rfl rfl (Nat.le_of_ble_eq_true rfl) ⟨Nat.le_of_ble_eq_true rfl, Nat.le_of_ble_eq_true rfl⟩ dL_type_4 (fun hk0 C H locs hP hS => ?_) (fun hk0 ce q9 H locs hP hS hce hcv hcl => ?_)
  · subst hk0
    have hf := g_ip rfl hf
    show W p l e rm_L_type s m _ below meth c H locs _ _ _ (F0 m 7 ls (.int r1 :: [.int 0, .ref (ad 81 0)]))
    refine lv_i2l (v := r1.toInt64) hx hb dL_type_7 rfl ?_
    refine r_last (K := 81) (i := 0) (r := r1) (jj := 0) C hP hS (by simp [ha81]) gIn01 dL_type_8 (fun H locs hP hS => ?_)
    refine lv_goto (tgt := 18) hx hb dL_type_9 (by decide) ?_
    refine lv_iconst (v := 0) hx hb dL_type_18 (by decide) ?_
    obtain ⟨rfl, rfl⟩ := g_s1 hf
    refine W.widen (k := 1) (n := 6) (Nat.le_of_ble_eq_true rfl) (Nat.le_of_ble_eq_true rfl) ?_
    exact r_iret C hP hS dL_type_19
  · have hf := g_in hk0 hf
    by_cases e0 : k1 = 2
    · subst e0
      have hf := g_ip rfl hf
      obtain ⟨rfl, rfl⟩ := g_s1 hf
      rw [List.append_nil]
      refine vx_catch (own := RL) (E := gXC 2) (name := gXC 2) C.2.2.2.1 [] ⟨0, 9, 12, 15⟩ [⟨0, 9, 15, 17⟩] (CL.2.2.2.2.2.trans rfl) (fun z hz => nomatch hz) (by decide) (by decide) (C.2.2.2.2.1 _ cx_15) (gEW_at CL.2.1 cs_2) hce hcv hcl ?_
      refine lv_astore_n (i := 3) (lv' := [(3, .ref q9), (0, .ref (ad 0 0)), (1, .int p1), (2, .ref (ad 81 0))]) hx hb dL_type_12 rfl hl (Nat.le_of_ble_eq_true rfl) rfl (fun ls hl => ?_)
      refine lv_iconst (v := 1) hx hb dL_type_13 (by decide) ?_
      refine W.widen (k := 1) (n := 6) (Nat.le_of_ble_eq_true rfl) (Nat.le_of_ble_eq_true rfl) ?_
      exact r_iret C hP hS dL_type_14
    · have hf := g_in e0 hf
      by_cases e1 : k1 = 3
      · subst e1
        have hf := g_ip rfl hf
        obtain ⟨rfl, rfl⟩ := g_s1 hf
        rw [List.append_nil]
        refine vx_catch (own := RL) (E := gXC 3) (name := gXC 3) C.2.2.2.1 [⟨0, 9, 12, 15⟩] ⟨0, 9, 15, 17⟩ [] (CL.2.2.2.2.2.trans rfl) (fun z hz => by simp only [List.mem_singleton] at hz; subst hz; exact Or.inr ⟨by decide, gXC 2, C.2.2.2.2.1 _ cx_15, CL.2.2.2.2.1 3 2 (by decide) (by decide) (by decide)⟩) (by decide) (by decide) (C.2.2.2.2.1 _ cx_17) (gEW_at CL.2.1 cs_3) hce hcv hcl ?_
        refine lv_astore_n (i := 3) (lv' := [(3, .ref q9), (0, .ref (ad 0 0)), (1, .int p1), (2, .ref (ad 81 0))]) hx hb dL_type_15 rfl hl (Nat.le_of_ble_eq_true rfl) rfl (fun ls hl => ?_)
        refine lv_iconst (v := 2) hx hb dL_type_16 (by decide) ?_
        refine W.widen (k := 1) (n := 6) (Nat.le_of_ble_eq_true rfl) (Nat.le_of_ble_eq_true rfl) ?_
        exact r_iret C hP hS dL_type_17
      · have hf := g_in e1 hf
        cases hf

def rm_L_word : Room := { frames := 7, cells := 2, slots := 42, locals := 244 }
set_option maxRecDepth 100000 in
set_option maxHeartbeats 4000000 in
theorem s_L_word {l : Launch} {D : va_G} {cA : Nat → ClassId} {ad : Nat → Nat → Nat} {NL nw : List (Nat × Nat)} {N sz : Nat}  {X : gM} {rr : Int32} {XX : gM} (htr : l.stackTraces = false) (hW : gWf NL) (hD0 : gD (fun _ => True) ad NL) (hal : gAl ad) (hadr : gAdr ad sz nw) (ha0 : (0, 0) ∈ NL) (ha81 : (81, 0) ∈ NL) (hf : L_word (gal NL) N nw X = some (rr, XX)) : gCL l yL_word cL_word 3 [(0, 8, 11, 17)] rm_L_word 2 42 D cA ad NL [.ref (ad 0 0), .ref (ad 81 0)] X rr nw XX sz := by
  refine g_ofL (nw := nw) (by decide) rfl hD0 (Nat.le_of_ble_eq_true rfl) rfl (fun p e s m below meth c ls hsz CL hP hS hl => ?_)
  have C := CL.1
  have hx := C.1
  have hb := C.2.1
  rw [L_word] at hf
  refine lv_aload_n hx hb dL_word_0 rfl (lv_at hl 1 rfl) ?_
  refine lv_iconst (v := 0) hx hb dL_word_1 (by decide) ?_
  refine lv_aload_n hx hb dL_word_2 rfl (lv_at hl 0 rfl) ?_
  obtain ⟨k1, r1, X1, h1, hf⟩ := b3_in hf
  refine r_callX (nw := nw) (rest := [.int 0, .ref (ad 81 0)]) C CL.2.1 CL.2.2.1 CL.2.2.2.1 hP hS hl.1 rfl (s_X9_word htr hW hD0 hal (by rw [hsz]; exact hadr) ha0 h1) (by rw [hsz]; exact hadr) ix_X9_word iv_X9_word ls_L_42 ⟨rfl, rfl, Nat.le_of_ble_eq_true rfl, Nat.le_of_ble_eq_true rfl⟩ ha0 (ct_0 _ _ _ _) rfl rfl rfl rfl (Nat.le_of_ble_eq_true rfl) ⟨Nat.le_of_ble_eq_true rfl, Nat.le_of_ble_eq_true rfl⟩ dL_word_3 (fun hk0 C H locs hP hS => ?_) (fun hk0 ce q9 H locs hP hS hce hcv hcl => ?_)
  · subst hk0
    have hf := g_ip rfl hf
    show W p l e rm_L_word s m _ below meth c H locs _ _ _ (F0 m 6 ls (.int r1 :: [.int 0, .ref (ad 81 0)]))
    refine lv_i2l (v := r1.toInt64) hx hb dL_word_6 rfl ?_
    refine r_last (K := 81) (i := 0) (r := r1) (jj := 0) C hP hS (by simp [ha81]) gIn01 dL_word_7 (fun H locs hP hS => ?_)
    refine lv_goto (tgt := 14) hx hb dL_word_8 (by decide) ?_
    refine lv_iconst (v := 0) hx hb dL_word_14 (by decide) ?_
    obtain ⟨rfl, rfl⟩ := g_s1 hf
    refine W.widen (k := 2) (n := 42) (Nat.le_of_ble_eq_true rfl) (Nat.le_of_ble_eq_true rfl) ?_
    exact r_iret C hP hS dL_word_15
  · have hf := g_in hk0 hf
    by_cases e0 : k1 = 3
    · subst e0
      have hf := g_ip rfl hf
      obtain ⟨hnw, hf⟩ := eqn_in hf
      obtain ⟨rfl, rfl⟩ := g_s1 hf
      rw [hnw, List.append_nil]
      refine vx_catch (own := RL) (E := gXC 3) (name := gXC 3) C.2.2.2.1 [] ⟨0, 8, 11, 17⟩ [] (CL.2.2.2.2.2.trans rfl) (fun z hz => nomatch hz) (by decide) (by decide) (C.2.2.2.2.1 _ cx_17) (gEW_at CL.2.1 cs_3) hce hcv hcl ?_
      refine lv_astore_n (i := 2) (lv' := [(2, .ref q9), (0, .ref (ad 0 0)), (1, .ref (ad 81 0))]) hx hb dL_word_11 rfl hl (Nat.le_of_ble_eq_true rfl) rfl (fun ls hl => ?_)
      refine lv_iconst (v := 1) hx hb dL_word_12 (by decide) ?_
      refine W.widen (k := 2) (n := 42) (Nat.le_of_ble_eq_true rfl) (Nat.le_of_ble_eq_true rfl) ?_
      exact r_iret C hP hS dL_word_13
    · have hf := g_in e0 hf
      cases hf

def rm_L_work : Room := { frames := 7, cells := 2, slots := 42, locals := 243 }
set_option maxRecDepth 100000 in
set_option maxHeartbeats 4000000 in
theorem s_L_work {l : Launch} {D : va_G} {cA : Nat → ClassId} {ad : Nat → Nat → Nat} {NL nw : List (Nat × Nat)} {N sz : Nat}  {X : gM} {rr : Int32} {XX : gM} (htr : l.stackTraces = false) (hW : gWf NL) (hD0 : gD (fun _ => True) ad NL) (hal : gAl ad) (hadr : gAdr ad sz nw) (ha0 : (0, 0) ∈ NL) (ha81 : (81, 0) ∈ NL) (hf : L_work (gal NL) N nw X = some (rr, XX)) : gCL l yL_work cL_work 3 [(0, 8, 11, 17)] rm_L_work 2 42 D cA ad NL [.ref (ad 0 0), .ref (ad 81 0)] X rr nw XX sz := by
  refine g_ofL (nw := nw) (by decide) rfl hD0 (Nat.le_of_ble_eq_true rfl) rfl (fun p e s m below meth c ls hsz CL hP hS hl => ?_)
  have C := CL.1
  have hx := C.1
  have hb := C.2.1
  rw [L_work] at hf
  refine lv_aload_n hx hb dL_work_0 rfl (lv_at hl 1 rfl) ?_
  refine lv_iconst (v := 0) hx hb dL_work_1 (by decide) ?_
  refine lv_aload_n hx hb dL_work_2 rfl (lv_at hl 0 rfl) ?_
  obtain ⟨k1, r1, X1, h1, hf⟩ := b3_in hf
  refine r_callX (nw := nw) (rest := [.int 0, .ref (ad 81 0)]) C CL.2.1 CL.2.2.1 CL.2.2.2.1 hP hS hl.1 rfl (s_X9_work htr hW hD0 hal (by rw [hsz]; exact hadr) ha0 h1) (by rw [hsz]; exact hadr) ix_X9_work iv_X9_work ls_L_46 ⟨rfl, rfl, Nat.le_of_ble_eq_true rfl, Nat.le_of_ble_eq_true rfl⟩ ha0 (ct_0 _ _ _ _) rfl rfl rfl rfl (Nat.le_of_ble_eq_true rfl) ⟨Nat.le_of_ble_eq_true rfl, Nat.le_of_ble_eq_true rfl⟩ dL_work_3 (fun hk0 C H locs hP hS => ?_) (fun hk0 ce q9 H locs hP hS hce hcv hcl => ?_)
  · subst hk0
    have hf := g_ip rfl hf
    show W p l e rm_L_work s m _ below meth c H locs _ _ _ (F0 m 6 ls (.int r1 :: [.int 0, .ref (ad 81 0)]))
    refine lv_i2l (v := r1.toInt64) hx hb dL_work_6 rfl ?_
    refine r_last (K := 81) (i := 0) (r := r1) (jj := 0) C hP hS (by simp [ha81]) gIn01 dL_work_7 (fun H locs hP hS => ?_)
    refine lv_goto (tgt := 14) hx hb dL_work_8 (by decide) ?_
    refine lv_iconst (v := 0) hx hb dL_work_14 (by decide) ?_
    obtain ⟨rfl, rfl⟩ := g_s1 hf
    refine W.widen (k := 2) (n := 42) (Nat.le_of_ble_eq_true rfl) (Nat.le_of_ble_eq_true rfl) ?_
    exact r_iret C hP hS dL_work_15
  · have hf := g_in hk0 hf
    by_cases e0 : k1 = 3
    · subst e0
      have hf := g_ip rfl hf
      obtain ⟨hnw, hf⟩ := eqn_in hf
      obtain ⟨rfl, rfl⟩ := g_s1 hf
      rw [hnw, List.append_nil]
      refine vx_catch (own := RL) (E := gXC 3) (name := gXC 3) C.2.2.2.1 [] ⟨0, 8, 11, 17⟩ [] (CL.2.2.2.2.2.trans rfl) (fun z hz => nomatch hz) (by decide) (by decide) (C.2.2.2.2.1 _ cx_17) (gEW_at CL.2.1 cs_3) hce hcv hcl ?_
      refine lv_astore_n (i := 2) (lv' := [(2, .ref q9), (0, .ref (ad 0 0)), (1, .ref (ad 81 0))]) hx hb dL_work_11 rfl hl (Nat.le_of_ble_eq_true rfl) rfl (fun ls hl => ?_)
      refine lv_iconst (v := 1) hx hb dL_work_12 (by decide) ?_
      refine W.widen (k := 2) (n := 42) (Nat.le_of_ble_eq_true rfl) (Nat.le_of_ble_eq_true rfl) ?_
      exact r_iret C hP hS dL_work_13
    · have hf := g_in e0 hf
      cases hf

def rm_L_weight : Room := { frames := 7, cells := 1, slots := 6, locals := 125 }
set_option maxRecDepth 100000 in
set_option maxHeartbeats 4000000 in
theorem s_L_weight {l : Launch} {D : va_G} {cA : Nat → ClassId} {ad : Nat → Nat → Nat} {NL nw : List (Nat × Nat)} {N sz : Nat} {p1 : Int32} {p2 : Int32} {p3 : Int32} {X : gM} {rr : Int32} {XX : gM} (htr : l.stackTraces = false) (hW : gWf NL) (hD0 : gD (fun _ => True) ad NL) (ha0 : (0, 0) ∈ NL) (ha81 : (81, 0) ∈ NL) (hf : L_weight (gal NL) N p1 p2 p3 X = some (rr, XX)) : gCL l yL_weight cL_weight 6 [(0, 12, 15, 13), (0, 12, 19, 15)] rm_L_weight 1 6 D cA ad NL [.ref (ad 0 0), .int p1, .int p2, .int p3, .ref (ad 81 0)] X rr [] XX sz := by
  refine g_ofL (nw := []) (by decide) rfl hD0 (Nat.le_of_ble_eq_true rfl) rfl (fun p e s m below meth c ls hsz CL hP hS hl => ?_)
  have C := CL.1
  have hx := C.1
  have hb := C.2.1
  rw [L_weight] at hf
  refine lv_aload hx hb dL_weight_0 (lv_at hl 4 rfl) ?_
  refine lv_iconst (v := 0) hx hb dL_weight_2 (by decide) ?_
  refine lv_aload_n hx hb dL_weight_3 rfl (lv_at hl 0 rfl) ?_
  refine lv_iload_n hx hb dL_weight_4 rfl (lv_at hl 1 rfl) ?_
  refine lv_iload_n hx hb dL_weight_5 rfl (lv_at hl 2 rfl) ?_
  refine lv_iload_n hx hb dL_weight_6 rfl (lv_at hl 3 rfl) ?_
  obtain ⟨k1, r1, X1, h1, hf⟩ := b3_in hf
  refine r_callX (nw := []) (rest := [.int 0, .ref (ad 81 0)]) C CL.2.1 CL.2.2.1 CL.2.2.2.1 hP hS hl.1 rfl (gCX_A (s_X9_weight htr hW hD0 ha0 h1)) True.intro ix_X9_weight iv_X9_weight ls_L_49 ⟨rfl, rfl, Nat.le_of_ble_eq_true rfl, Nat.le_of_ble_eq_true rfl⟩ ha0 (ct_0 _ _ _ _) rfl rfl rfl rfl (Nat.le_of_ble_eq_true rfl) ⟨Nat.le_of_ble_eq_true rfl, Nat.le_of_ble_eq_true rfl⟩ dL_weight_7 (fun hk0 C H locs hP hS => ?_) (fun hk0 ce q9 H locs hP hS hce hcv hcl => ?_)
  · subst hk0
    have hf := g_ip rfl hf
    show W p l e rm_L_weight s m _ below meth c H locs _ _ _ (F0 m 10 ls (.int r1 :: [.int 0, .ref (ad 81 0)]))
    refine lv_i2l (v := r1.toInt64) hx hb dL_weight_10 rfl ?_
    refine r_last (K := 81) (i := 0) (r := r1) (jj := 0) C hP hS (by simp [ha81]) gIn01 dL_weight_11 (fun H locs hP hS => ?_)
    refine lv_goto (tgt := 23) hx hb dL_weight_12 (by decide) ?_
    refine lv_iconst (v := 0) hx hb dL_weight_23 (by decide) ?_
    obtain ⟨rfl, rfl⟩ := g_s1 hf
    refine W.widen (k := 1) (n := 6) (Nat.le_of_ble_eq_true rfl) (Nat.le_of_ble_eq_true rfl) ?_
    exact r_iret C hP hS dL_weight_24
  · have hf := g_in hk0 hf
    by_cases e0 : k1 = 1
    · subst e0
      have hf := g_ip rfl hf
      obtain ⟨rfl, rfl⟩ := g_s1 hf
      rw [List.append_nil]
      refine vx_catch (own := RL) (E := gXC 1) (name := gXC 1) C.2.2.2.1 [] ⟨0, 12, 15, 13⟩ [⟨0, 12, 19, 15⟩] (CL.2.2.2.2.2.trans rfl) (fun z hz => nomatch hz) (by decide) (by decide) (C.2.2.2.2.1 _ cx_13) (gEW_at CL.2.1 cs_1) hce hcv hcl ?_
      refine lv_astore (i := 5) (lv' := [(5, .ref q9), (0, .ref (ad 0 0)), (1, .int p1), (2, .int p2), (3, .int p3), (4, .ref (ad 81 0))]) hx hb dL_weight_15 hl (Nat.le_of_ble_eq_true rfl) rfl (fun ls hl => ?_)
      refine lv_iconst (v := 1) hx hb dL_weight_17 (by decide) ?_
      refine W.widen (k := 1) (n := 6) (Nat.le_of_ble_eq_true rfl) (Nat.le_of_ble_eq_true rfl) ?_
      exact r_iret C hP hS dL_weight_18
    · have hf := g_in e0 hf
      by_cases e1 : k1 = 2
      · subst e1
        have hf := g_ip rfl hf
        obtain ⟨rfl, rfl⟩ := g_s1 hf
        rw [List.append_nil]
        refine vx_catch (own := RL) (E := gXC 2) (name := gXC 2) C.2.2.2.1 [⟨0, 12, 15, 13⟩] ⟨0, 12, 19, 15⟩ [] (CL.2.2.2.2.2.trans rfl) (fun z hz => by simp only [List.mem_singleton] at hz; subst hz; exact Or.inr ⟨by decide, gXC 1, C.2.2.2.2.1 _ cx_13, CL.2.2.2.2.1 2 1 (by decide) (by decide) (by decide)⟩) (by decide) (by decide) (C.2.2.2.2.1 _ cx_15) (gEW_at CL.2.1 cs_2) hce hcv hcl ?_
        refine lv_astore (i := 5) (lv' := [(5, .ref q9), (0, .ref (ad 0 0)), (1, .int p1), (2, .int p2), (3, .int p3), (4, .ref (ad 81 0))]) hx hb dL_weight_19 hl (Nat.le_of_ble_eq_true rfl) rfl (fun ls hl => ?_)
        refine lv_iconst (v := 2) hx hb dL_weight_21 (by decide) ?_
        refine W.widen (k := 1) (n := 6) (Nat.le_of_ble_eq_true rfl) (Nat.le_of_ble_eq_true rfl) ?_
        exact r_iret C hP hS dL_weight_22
      · have hf := g_in e1 hf
        cases hf

def rm_L_readings : Room := { frames := 7, cells := 1, slots := 6, locals := 125 }
set_option maxRecDepth 100000 in
set_option maxHeartbeats 4000000 in
theorem s_L_readings {l : Launch} {D : va_G} {cA : Nat → ClassId} {ad : Nat → Nat → Nat} {NL nw : List (Nat × Nat)} {N sz : Nat} {p1 : Int32} {p2 : Int32} {p3 : Int32} {X : gM} {rr : Int32} {XX : gM} (htr : l.stackTraces = false) (hW : gWf NL) (hD0 : gD (fun _ => True) ad NL) (ha0 : (0, 0) ∈ NL) (ha81 : (81, 0) ∈ NL) (hf : L_readings (gal NL) N p1 p2 p3 X = some (rr, XX)) : gCL l yL_readings cL_readings 6 [(0, 12, 15, 13), (0, 12, 19, 15)] rm_L_readings 1 6 D cA ad NL [.ref (ad 0 0), .int p1, .int p2, .int p3, .ref (ad 81 0)] X rr [] XX sz := by
  refine g_ofL (nw := []) (by decide) rfl hD0 (Nat.le_of_ble_eq_true rfl) rfl (fun p e s m below meth c ls hsz CL hP hS hl => ?_)
  have C := CL.1
  have hx := C.1
  have hb := C.2.1
  rw [L_readings] at hf
  refine lv_aload hx hb dL_readings_0 (lv_at hl 4 rfl) ?_
  refine lv_iconst (v := 0) hx hb dL_readings_2 (by decide) ?_
  refine lv_aload_n hx hb dL_readings_3 rfl (lv_at hl 0 rfl) ?_
  refine lv_iload_n hx hb dL_readings_4 rfl (lv_at hl 1 rfl) ?_
  refine lv_iload_n hx hb dL_readings_5 rfl (lv_at hl 2 rfl) ?_
  refine lv_iload_n hx hb dL_readings_6 rfl (lv_at hl 3 rfl) ?_
  obtain ⟨k1, r1, X1, h1, hf⟩ := b3_in hf
  refine r_callX (nw := []) (rest := [.int 0, .ref (ad 81 0)]) C CL.2.1 CL.2.2.1 CL.2.2.2.1 hP hS hl.1 rfl (gCX_A (s_X9_readings htr hW hD0 ha0 h1)) True.intro ix_X9_readings iv_X9_readings ls_L_53 ⟨rfl, rfl, Nat.le_of_ble_eq_true rfl, Nat.le_of_ble_eq_true rfl⟩ ha0 (ct_0 _ _ _ _) rfl rfl rfl rfl (Nat.le_of_ble_eq_true rfl) ⟨Nat.le_of_ble_eq_true rfl, Nat.le_of_ble_eq_true rfl⟩ dL_readings_7 (fun hk0 C H locs hP hS => ?_) (fun hk0 ce q9 H locs hP hS hce hcv hcl => ?_)
  · subst hk0
    have hf := g_ip rfl hf
    show W p l e rm_L_readings s m _ below meth c H locs _ _ _ (F0 m 10 ls (.int r1 :: [.int 0, .ref (ad 81 0)]))
    refine lv_i2l (v := r1.toInt64) hx hb dL_readings_10 rfl ?_
    refine r_last (K := 81) (i := 0) (r := r1) (jj := 0) C hP hS (by simp [ha81]) gIn01 dL_readings_11 (fun H locs hP hS => ?_)
    refine lv_goto (tgt := 23) hx hb dL_readings_12 (by decide) ?_
    refine lv_iconst (v := 0) hx hb dL_readings_23 (by decide) ?_
    obtain ⟨rfl, rfl⟩ := g_s1 hf
    refine W.widen (k := 1) (n := 6) (Nat.le_of_ble_eq_true rfl) (Nat.le_of_ble_eq_true rfl) ?_
    exact r_iret C hP hS dL_readings_24
  · have hf := g_in hk0 hf
    by_cases e0 : k1 = 1
    · subst e0
      have hf := g_ip rfl hf
      obtain ⟨rfl, rfl⟩ := g_s1 hf
      rw [List.append_nil]
      refine vx_catch (own := RL) (E := gXC 1) (name := gXC 1) C.2.2.2.1 [] ⟨0, 12, 15, 13⟩ [⟨0, 12, 19, 15⟩] (CL.2.2.2.2.2.trans rfl) (fun z hz => nomatch hz) (by decide) (by decide) (C.2.2.2.2.1 _ cx_13) (gEW_at CL.2.1 cs_1) hce hcv hcl ?_
      refine lv_astore (i := 5) (lv' := [(5, .ref q9), (0, .ref (ad 0 0)), (1, .int p1), (2, .int p2), (3, .int p3), (4, .ref (ad 81 0))]) hx hb dL_readings_15 hl (Nat.le_of_ble_eq_true rfl) rfl (fun ls hl => ?_)
      refine lv_iconst (v := 1) hx hb dL_readings_17 (by decide) ?_
      refine W.widen (k := 1) (n := 6) (Nat.le_of_ble_eq_true rfl) (Nat.le_of_ble_eq_true rfl) ?_
      exact r_iret C hP hS dL_readings_18
    · have hf := g_in e0 hf
      by_cases e1 : k1 = 2
      · subst e1
        have hf := g_ip rfl hf
        obtain ⟨rfl, rfl⟩ := g_s1 hf
        rw [List.append_nil]
        refine vx_catch (own := RL) (E := gXC 2) (name := gXC 2) C.2.2.2.1 [⟨0, 12, 15, 13⟩] ⟨0, 12, 19, 15⟩ [] (CL.2.2.2.2.2.trans rfl) (fun z hz => by simp only [List.mem_singleton] at hz; subst hz; exact Or.inr ⟨by decide, gXC 1, C.2.2.2.2.1 _ cx_13, CL.2.2.2.2.1 2 1 (by decide) (by decide) (by decide)⟩) (by decide) (by decide) (C.2.2.2.2.1 _ cx_15) (gEW_at CL.2.1 cs_2) hce hcv hcl ?_
        refine lv_astore (i := 5) (lv' := [(5, .ref q9), (0, .ref (ad 0 0)), (1, .int p1), (2, .int p2), (3, .int p3), (4, .ref (ad 81 0))]) hx hb dL_readings_19 hl (Nat.le_of_ble_eq_true rfl) rfl (fun ls hl => ?_)
        refine lv_iconst (v := 2) hx hb dL_readings_21 (by decide) ?_
        refine W.widen (k := 1) (n := 6) (Nat.le_of_ble_eq_true rfl) (Nat.le_of_ble_eq_true rfl) ?_
        exact r_iret C hP hS dL_readings_22
      · have hf := g_in e1 hf
        cases hf

def rm_L_letter : Room := { frames := 7, cells := 1, slots := 6, locals := 126 }
set_option maxRecDepth 100000 in
set_option maxHeartbeats 4000000 in
theorem s_L_letter {l : Launch} {D : va_G} {cA : Nat → ClassId} {ad : Nat → Nat → Nat} {NL nw : List (Nat × Nat)} {N sz : Nat} {p1 : Int32} {p2 : Int32} {p3 : Int32} {p4 : Int32} {X : gM} {rr : Int32} {XX : gM} (htr : l.stackTraces = false) (hW : gWf NL) (hD0 : gD (fun _ => True) ad NL) (ha0 : (0, 0) ∈ NL) (ha81 : (81, 0) ∈ NL) (hf : L_letter (gal NL) N p1 p2 p3 p4 X = some (rr, XX)) : gCL l yL_letter cL_letter 7 [(0, 14, 17, 13), (0, 14, 21, 15)] rm_L_letter 1 6 D cA ad NL [.ref (ad 0 0), .int p1, .int p2, .int p3, .int p4, .ref (ad 81 0)] X rr [] XX sz := by
  refine g_ofL (nw := []) (by decide) rfl hD0 (Nat.le_of_ble_eq_true rfl) rfl (fun p e s m below meth c ls hsz CL hP hS hl => ?_)
  have C := CL.1
  have hx := C.1
  have hb := C.2.1
  rw [L_letter] at hf
  refine lv_aload hx hb dL_letter_0 (lv_at hl 5 rfl) ?_
  refine lv_iconst (v := 0) hx hb dL_letter_2 (by decide) ?_
  refine lv_aload_n hx hb dL_letter_3 rfl (lv_at hl 0 rfl) ?_
  refine lv_iload_n hx hb dL_letter_4 rfl (lv_at hl 1 rfl) ?_
  refine lv_iload_n hx hb dL_letter_5 rfl (lv_at hl 2 rfl) ?_
  refine lv_iload_n hx hb dL_letter_6 rfl (lv_at hl 3 rfl) ?_
  refine lv_iload hx hb dL_letter_7 (lv_at hl 4 rfl) ?_
  obtain ⟨k1, r1, X1, h1, hf⟩ := b3_in hf
  refine r_callX (nw := []) (rest := [.int 0, .ref (ad 81 0)]) C CL.2.1 CL.2.2.1 CL.2.2.2.1 hP hS hl.1 rfl (gCX_A (s_X9_letter htr hW hD0 ha0 h1)) True.intro ix_X9_letter iv_X9_letter ls_L_56 ⟨rfl, rfl, Nat.le_of_ble_eq_true rfl, Nat.le_of_ble_eq_true rfl⟩ ha0 (ct_0 _ _ _ _) rfl rfl rfl rfl (Nat.le_of_ble_eq_true rfl) ⟨Nat.le_of_ble_eq_true rfl, Nat.le_of_ble_eq_true rfl⟩ dL_letter_9 (fun hk0 C H locs hP hS => ?_) (fun hk0 ce q9 H locs hP hS hce hcv hcl => ?_)
  · subst hk0
    have hf := g_ip rfl hf
    show W p l e rm_L_letter s m _ below meth c H locs _ _ _ (F0 m 12 ls (.int r1 :: [.int 0, .ref (ad 81 0)]))
    refine lv_i2l (v := r1.toInt64) hx hb dL_letter_12 rfl ?_
    refine r_last (K := 81) (i := 0) (r := r1) (jj := 0) C hP hS (by simp [ha81]) gIn01 dL_letter_13 (fun H locs hP hS => ?_)
    refine lv_goto (tgt := 25) hx hb dL_letter_14 (by decide) ?_
    refine lv_iconst (v := 0) hx hb dL_letter_25 (by decide) ?_
    obtain ⟨rfl, rfl⟩ := g_s1 hf
    refine W.widen (k := 1) (n := 6) (Nat.le_of_ble_eq_true rfl) (Nat.le_of_ble_eq_true rfl) ?_
    exact r_iret C hP hS dL_letter_26
  · have hf := g_in hk0 hf
    by_cases e0 : k1 = 1
    · subst e0
      have hf := g_ip rfl hf
      obtain ⟨rfl, rfl⟩ := g_s1 hf
      rw [List.append_nil]
      refine vx_catch (own := RL) (E := gXC 1) (name := gXC 1) C.2.2.2.1 [] ⟨0, 14, 17, 13⟩ [⟨0, 14, 21, 15⟩] (CL.2.2.2.2.2.trans rfl) (fun z hz => nomatch hz) (by decide) (by decide) (C.2.2.2.2.1 _ cx_13) (gEW_at CL.2.1 cs_1) hce hcv hcl ?_
      refine lv_astore (i := 6) (lv' := [(6, .ref q9), (0, .ref (ad 0 0)), (1, .int p1), (2, .int p2), (3, .int p3), (4, .int p4), (5, .ref (ad 81 0))]) hx hb dL_letter_17 hl (Nat.le_of_ble_eq_true rfl) rfl (fun ls hl => ?_)
      refine lv_iconst (v := 1) hx hb dL_letter_19 (by decide) ?_
      refine W.widen (k := 1) (n := 6) (Nat.le_of_ble_eq_true rfl) (Nat.le_of_ble_eq_true rfl) ?_
      exact r_iret C hP hS dL_letter_20
    · have hf := g_in e0 hf
      by_cases e1 : k1 = 2
      · subst e1
        have hf := g_ip rfl hf
        obtain ⟨rfl, rfl⟩ := g_s1 hf
        rw [List.append_nil]
        refine vx_catch (own := RL) (E := gXC 2) (name := gXC 2) C.2.2.2.1 [⟨0, 14, 17, 13⟩] ⟨0, 14, 21, 15⟩ [] (CL.2.2.2.2.2.trans rfl) (fun z hz => by simp only [List.mem_singleton] at hz; subst hz; exact Or.inr ⟨by decide, gXC 1, C.2.2.2.2.1 _ cx_13, CL.2.2.2.2.1 2 1 (by decide) (by decide) (by decide)⟩) (by decide) (by decide) (C.2.2.2.2.1 _ cx_15) (gEW_at CL.2.1 cs_2) hce hcv hcl ?_
        refine lv_astore (i := 6) (lv' := [(6, .ref q9), (0, .ref (ad 0 0)), (1, .int p1), (2, .int p2), (3, .int p3), (4, .int p4), (5, .ref (ad 81 0))]) hx hb dL_letter_21 hl (Nat.le_of_ble_eq_true rfl) rfl (fun ls hl => ?_)
        refine lv_iconst (v := 2) hx hb dL_letter_23 (by decide) ?_
        refine W.widen (k := 1) (n := 6) (Nat.le_of_ble_eq_true rfl) (Nat.le_of_ble_eq_true rfl) ?_
        exact r_iret C hP hS dL_letter_24
      · have hf := g_in e1 hf
        cases hf

def rm_L_fact : Room := { frames := 7, cells := 1, slots := 7, locals := 115 }
set_option maxRecDepth 100000 in
set_option maxHeartbeats 4000000 in
theorem s_L_fact {l : Launch} {D : va_G} {cA : Nat → ClassId} {ad : Nat → Nat → Nat} {NL nw : List (Nat × Nat)} {N sz : Nat} {p1 : Int32} {p2 : Int32} {p3 : Int32} {p4 : Int32} {X : gM} {rr : Int32} {XX : gM} (htr : l.stackTraces = false) (hW : gWf NL) (hD0 : gD (fun _ => True) ad NL) (hal : gAl ad) (hadr : gAdr ad sz nw) (ha0 : (0, 0) ∈ NL) (ha81 : (81, 0) ∈ NL) (hf : L_fact (gal NL) N nw p1 p2 p3 p4 X = some (rr, XX)) : gCL l yL_fact cL_fact 7 [(0, 14, 17, 13), (0, 14, 21, 15), (0, 14, 25, 17)] rm_L_fact 1 7 D cA ad NL [.ref (ad 0 0), .int p1, .int p2, .int p3, .int p4, .ref (ad 81 0)] X rr nw XX sz := by
  refine g_ofL (nw := nw) (by decide) rfl hD0 (Nat.le_of_ble_eq_true rfl) rfl (fun p e s m below meth c ls hsz CL hP hS hl => ?_)
  have C := CL.1
  have hx := C.1
  have hb := C.2.1
  rw [L_fact] at hf
  refine lv_aload hx hb dL_fact_0 (lv_at hl 5 rfl) ?_
  refine lv_iconst (v := 0) hx hb dL_fact_2 (by decide) ?_
  refine lv_aload_n hx hb dL_fact_3 rfl (lv_at hl 0 rfl) ?_
  refine lv_iload_n hx hb dL_fact_4 rfl (lv_at hl 1 rfl) ?_
  refine lv_iload_n hx hb dL_fact_5 rfl (lv_at hl 2 rfl) ?_
  refine lv_iload_n hx hb dL_fact_6 rfl (lv_at hl 3 rfl) ?_
  refine lv_iload hx hb dL_fact_7 (lv_at hl 4 rfl) ?_
  obtain ⟨k1, r1, X1, h1, hf⟩ := b3_in hf
  refine r_callX (nw := nw) (rest := [.int 0, .ref (ad 81 0)]) C CL.2.1 CL.2.2.1 CL.2.2.2.1 hP hS hl.1 rfl (s_X9_fact htr hW hD0 hal (by rw [hsz]; exact hadr) ha0 h1) (by rw [hsz]; exact hadr) ix_X9_fact iv_X9_fact ls_L_60 ⟨rfl, rfl, Nat.le_of_ble_eq_true rfl, Nat.le_of_ble_eq_true rfl⟩ ha0 (ct_0 _ _ _ _) rfl rfl rfl rfl (Nat.le_of_ble_eq_true rfl) ⟨Nat.le_of_ble_eq_true rfl, Nat.le_of_ble_eq_true rfl⟩ dL_fact_9 (fun hk0 C H locs hP hS => ?_) (fun hk0 ce q9 H locs hP hS hce hcv hcl => ?_)
  · subst hk0
    have hf := g_ip rfl hf
    show W p l e rm_L_fact s m _ below meth c H locs _ _ _ (F0 m 12 ls (.int r1 :: [.int 0, .ref (ad 81 0)]))
    refine lv_i2l (v := r1.toInt64) hx hb dL_fact_12 rfl ?_
    refine r_last (K := 81) (i := 0) (r := r1) (jj := 0) C hP hS (by simp [ha81]) gIn01 dL_fact_13 (fun H locs hP hS => ?_)
    refine lv_goto (tgt := 29) hx hb dL_fact_14 (by decide) ?_
    refine lv_iconst (v := 0) hx hb dL_fact_29 (by decide) ?_
    obtain ⟨rfl, rfl⟩ := g_s1 hf
    refine W.widen (k := 1) (n := 7) (Nat.le_of_ble_eq_true rfl) (Nat.le_of_ble_eq_true rfl) ?_
    exact r_iret C hP hS dL_fact_30
  · have hf := g_in hk0 hf
    by_cases e0 : k1 = 1
    · subst e0
      have hf := g_ip rfl hf
      obtain ⟨hnw, hf⟩ := eqn_in hf
      obtain ⟨rfl, rfl⟩ := g_s1 hf
      rw [hnw, List.append_nil]
      refine vx_catch (own := RL) (E := gXC 1) (name := gXC 1) C.2.2.2.1 [] ⟨0, 14, 17, 13⟩ [⟨0, 14, 21, 15⟩, ⟨0, 14, 25, 17⟩] (CL.2.2.2.2.2.trans rfl) (fun z hz => nomatch hz) (by decide) (by decide) (C.2.2.2.2.1 _ cx_13) (gEW_at CL.2.1 cs_1) hce hcv hcl ?_
      refine lv_astore (i := 6) (lv' := [(6, .ref q9), (0, .ref (ad 0 0)), (1, .int p1), (2, .int p2), (3, .int p3), (4, .int p4), (5, .ref (ad 81 0))]) hx hb dL_fact_17 hl (Nat.le_of_ble_eq_true rfl) rfl (fun ls hl => ?_)
      refine lv_iconst (v := 1) hx hb dL_fact_19 (by decide) ?_
      refine W.widen (k := 1) (n := 7) (Nat.le_of_ble_eq_true rfl) (Nat.le_of_ble_eq_true rfl) ?_
      exact r_iret C hP hS dL_fact_20
    · have hf := g_in e0 hf
      by_cases e1 : k1 = 2
      · subst e1
        have hf := g_ip rfl hf
        obtain ⟨hnw, hf⟩ := eqn_in hf
        obtain ⟨rfl, rfl⟩ := g_s1 hf
        rw [hnw, List.append_nil]
        refine vx_catch (own := RL) (E := gXC 2) (name := gXC 2) C.2.2.2.1 [⟨0, 14, 17, 13⟩] ⟨0, 14, 21, 15⟩ [⟨0, 14, 25, 17⟩] (CL.2.2.2.2.2.trans rfl) (fun z hz => by simp only [List.mem_singleton] at hz; subst hz; exact Or.inr ⟨by decide, gXC 1, C.2.2.2.2.1 _ cx_13, CL.2.2.2.2.1 2 1 (by decide) (by decide) (by decide)⟩) (by decide) (by decide) (C.2.2.2.2.1 _ cx_15) (gEW_at CL.2.1 cs_2) hce hcv hcl ?_
        refine lv_astore (i := 6) (lv' := [(6, .ref q9), (0, .ref (ad 0 0)), (1, .int p1), (2, .int p2), (3, .int p3), (4, .int p4), (5, .ref (ad 81 0))]) hx hb dL_fact_21 hl (Nat.le_of_ble_eq_true rfl) rfl (fun ls hl => ?_)
        refine lv_iconst (v := 2) hx hb dL_fact_23 (by decide) ?_
        refine W.widen (k := 1) (n := 7) (Nat.le_of_ble_eq_true rfl) (Nat.le_of_ble_eq_true rfl) ?_
        exact r_iret C hP hS dL_fact_24
      · have hf := g_in e1 hf
        by_cases e2 : k1 = 3
        · subst e2
          have hf := g_ip rfl hf
          obtain ⟨hnw, hf⟩ := eqn_in hf
          obtain ⟨rfl, rfl⟩ := g_s1 hf
          rw [hnw, List.append_nil]
          refine vx_catch (own := RL) (E := gXC 3) (name := gXC 3) C.2.2.2.1 [⟨0, 14, 17, 13⟩, ⟨0, 14, 21, 15⟩] ⟨0, 14, 25, 17⟩ [] (CL.2.2.2.2.2.trans rfl) (fun z hz => by simp only [List.mem_cons, List.not_mem_nil, or_false] at hz; rcases hz with rfl | rfl; exact Or.inr ⟨by decide, gXC 1, C.2.2.2.2.1 _ cx_13, CL.2.2.2.2.1 3 1 (by decide) (by decide) (by decide)⟩; exact Or.inr ⟨by decide, gXC 2, C.2.2.2.2.1 _ cx_15, CL.2.2.2.2.1 3 2 (by decide) (by decide) (by decide)⟩) (by decide) (by decide) (C.2.2.2.2.1 _ cx_17) (gEW_at CL.2.1 cs_3) hce hcv hcl ?_
          refine lv_astore (i := 6) (lv' := [(6, .ref q9), (0, .ref (ad 0 0)), (1, .int p1), (2, .int p2), (3, .int p3), (4, .int p4), (5, .ref (ad 81 0))]) hx hb dL_fact_25 hl (Nat.le_of_ble_eq_true rfl) rfl (fun ls hl => ?_)
          refine lv_iconst (v := 3) hx hb dL_fact_27 (by decide) ?_
          refine W.widen (k := 1) (n := 7) (Nat.le_of_ble_eq_true rfl) (Nat.le_of_ble_eq_true rfl) ?_
          exact r_iret C hP hS dL_fact_28
        · have hf := g_in e2 hf
          cases hf

def rm_L_hold : Room := { frames := 7, cells := 1, slots := 6, locals := 113 }
set_option maxRecDepth 100000 in
set_option maxHeartbeats 4000000 in
theorem s_L_hold {l : Launch} {D : va_G} {cA : Nat → ClassId} {ad : Nat → Nat → Nat} {NL nw : List (Nat × Nat)} {N sz : Nat} {p1 : Int32} {p2 : Int32} {X : gM} {rr : Int32} {XX : gM} (htr : l.stackTraces = false) (hW : gWf NL) (hD0 : gD (fun _ => True) ad NL) (ha0 : (0, 0) ∈ NL) (ha81 : (81, 0) ∈ NL) (hf : L_hold (gal NL) N p1 p2 X = some (rr, XX)) : gCL l yL_hold cL_hold 5 [(0, 17, 20, 13)] rm_L_hold 1 6 D cA ad NL [.ref (ad 0 0), .int p1, .int p2, .ref (ad 81 0)] X rr [] XX sz := by
  refine g_ofL (nw := []) (by decide) rfl hD0 (Nat.le_of_ble_eq_true rfl) rfl (fun p e s m below meth c ls hsz CL hP hS hl => ?_)
  have C := CL.1
  have hx := C.1
  have hb := C.2.1
  rw [L_hold] at hf
  refine lv_aload_n hx hb dL_hold_0 rfl (lv_at hl 3 rfl) ?_
  refine lv_iconst (v := 0) hx hb dL_hold_1 (by decide) ?_
  refine lv_aload_n hx hb dL_hold_2 rfl (lv_at hl 0 rfl) ?_
  refine lv_iload_n hx hb dL_hold_3 rfl (lv_at hl 1 rfl) ?_
  refine lv_iload_n hx hb dL_hold_4 rfl (lv_at hl 2 rfl) ?_
  obtain ⟨k1, r1, X1, h1, hf⟩ := b3_in hf
  refine r_callX (nw := []) (rest := [.int 0, .ref (ad 81 0)]) C CL.2.1 CL.2.2.1 CL.2.2.2.1 hP hS hl.1 rfl (gCX_A (s_X9_hold htr hW hD0 ha0 h1)) True.intro ix_X9_hold iv_X9_hold ls_L_63 ⟨rfl, rfl, Nat.le_of_ble_eq_true rfl, Nat.le_of_ble_eq_true rfl⟩ ha0 (ct_0 _ _ _ _) rfl rfl rfl rfl (Nat.le_of_ble_eq_true rfl) ⟨Nat.le_of_ble_eq_true rfl, Nat.le_of_ble_eq_true rfl⟩ dL_hold_5 (fun hk0 C H locs hP hS => ?_) (fun hk0 ce q9 H locs hP hS hce hcv hcl => ?_)
  · subst hk0
    have hf := g_ip rfl hf
    show W p l e rm_L_hold s m _ below meth c H locs _ _ _ (F0 m 8 ls (.int r1 :: [.int 0, .ref (ad 81 0)]))
    refine lv_if_eq (tgt := 15) hx hb dL_hold_8 (by decide) (fun c1 => ?_) (fun c1 => ?_)
    · refine lv_lconst (v := (0 : Int32).toInt64) hx hb dL_hold_15 (by decide) ?_
      rw [if_pos c1] at hf
      refine r_last (K := 81) (i := 0) (r := (0 : Int32)) (jj := 0) C hP hS (by simp [ha81]) gIn01 dL_hold_16 (fun H locs hP hS => ?_)
      refine lv_goto (tgt := 24) hx hb dL_hold_17 (by decide) ?_
      refine lv_iconst (v := 0) hx hb dL_hold_24 (by decide) ?_
      obtain ⟨rfl, rfl⟩ := g_s1 hf
      refine W.widen (k := 1) (n := 6) (Nat.le_of_ble_eq_true rfl) (Nat.le_of_ble_eq_true rfl) ?_
      exact r_iret C hP hS dL_hold_25
    · refine lv_lconst (v := (1 : Int32).toInt64) hx hb dL_hold_11 (by decide) ?_
      refine lv_goto (tgt := 16) hx hb dL_hold_12 (by decide) ?_
      rw [if_neg c1] at hf
      refine r_last (K := 81) (i := 0) (r := (1 : Int32)) (jj := 0) C hP hS (by simp [ha81]) gIn01 dL_hold_16 (fun H locs hP hS => ?_)
      refine lv_goto (tgt := 24) hx hb dL_hold_17 (by decide) ?_
      refine lv_iconst (v := 0) hx hb dL_hold_24 (by decide) ?_
      obtain ⟨rfl, rfl⟩ := g_s1 hf
      refine W.widen (k := 1) (n := 6) (Nat.le_of_ble_eq_true rfl) (Nat.le_of_ble_eq_true rfl) ?_
      exact r_iret C hP hS dL_hold_25
  · have hf := g_in hk0 hf
    by_cases e0 : k1 = 1
    · subst e0
      have hf := g_ip rfl hf
      obtain ⟨rfl, rfl⟩ := g_s1 hf
      rw [List.append_nil]
      refine vx_catch (own := RL) (E := gXC 1) (name := gXC 1) C.2.2.2.1 [] ⟨0, 17, 20, 13⟩ [] (CL.2.2.2.2.2.trans rfl) (fun z hz => nomatch hz) (by decide) (by decide) (C.2.2.2.2.1 _ cx_13) (gEW_at CL.2.1 cs_1) hce hcv hcl ?_
      refine lv_astore (i := 4) (lv' := [(4, .ref q9), (0, .ref (ad 0 0)), (1, .int p1), (2, .int p2), (3, .ref (ad 81 0))]) hx hb dL_hold_20 hl (Nat.le_of_ble_eq_true rfl) rfl (fun ls hl => ?_)
      refine lv_iconst (v := 1) hx hb dL_hold_22 (by decide) ?_
      refine W.widen (k := 1) (n := 6) (Nat.le_of_ble_eq_true rfl) (Nat.le_of_ble_eq_true rfl) ?_
      exact r_iret C hP hS dL_hold_23
    · have hf := g_in e0 hf
      cases hf

def rm_L_arrangements : Room := { frames := 16, cells := 1, slots := 6, locals := 446 }
set_option maxRecDepth 100000 in
set_option maxHeartbeats 4000000 in
theorem s_L_arrangements {l : Launch} {D : va_G} {cA : Nat → ClassId} {ad : Nat → Nat → Nat} {NL nw : List (Nat × Nat)} {N sz : Nat} {p1 : Int32} {p2 : Int32} {X : gM} {rr : Int32} {XX : gM} (htr : l.stackTraces = false) (hW : gWf NL) (hD0 : gD (fun _ => True) ad NL) (ha0 : (0, 0) ∈ NL) (ha81 : (81, 0) ∈ NL) (hf : L_arrangements (gal NL) N p1 p2 X = some (rr, XX)) : gCL l yL_arrangements cL_arrangements 5 [(0, 10, 13, 13)] rm_L_arrangements 1 6 D cA ad NL [.ref (ad 0 0), .int p1, .int p2, .ref (ad 81 0)] X rr [] XX sz := by
  refine g_ofL (nw := []) (by decide) rfl hD0 (Nat.le_of_ble_eq_true rfl) rfl (fun p e s m below meth c ls hsz CL hP hS hl => ?_)
  have C := CL.1
  have hx := C.1
  have hb := C.2.1
  rw [L_arrangements] at hf
  refine lv_aload_n hx hb dL_arrangements_0 rfl (lv_at hl 3 rfl) ?_
  refine lv_iconst (v := 0) hx hb dL_arrangements_1 (by decide) ?_
  refine lv_aload_n hx hb dL_arrangements_2 rfl (lv_at hl 0 rfl) ?_
  refine lv_iload_n hx hb dL_arrangements_3 rfl (lv_at hl 1 rfl) ?_
  refine lv_iload_n hx hb dL_arrangements_4 rfl (lv_at hl 2 rfl) ?_
  obtain ⟨k1, r1, X1, h1, hf⟩ := b3_in hf
  refine r_callX (nw := []) (rest := [.int 0, .ref (ad 81 0)]) C CL.2.1 CL.2.2.1 CL.2.2.2.1 hP hS hl.1 rfl (gCX_A (s_X9_arrangements htr hW hD0 ha0 h1)) True.intro ix_X9_arrangements iv_X9_arrangements ls_L_67 ⟨rfl, rfl, Nat.le_of_ble_eq_true rfl, Nat.le_of_ble_eq_true rfl⟩ ha0 (ct_0 _ _ _ _) rfl rfl rfl rfl (Nat.le_of_ble_eq_true rfl) ⟨Nat.le_of_ble_eq_true rfl, Nat.le_of_ble_eq_true rfl⟩ dL_arrangements_5 (fun hk0 C H locs hP hS => ?_) (fun hk0 ce q9 H locs hP hS hce hcv hcl => ?_)
  · subst hk0
    have hf := g_ip rfl hf
    show W p l e rm_L_arrangements s m _ below meth c H locs _ _ _ (F0 m 8 ls (.int r1 :: [.int 0, .ref (ad 81 0)]))
    refine lv_i2l (v := r1.toInt64) hx hb dL_arrangements_8 rfl ?_
    refine r_last (K := 81) (i := 0) (r := r1) (jj := 0) C hP hS (by simp [ha81]) gIn01 dL_arrangements_9 (fun H locs hP hS => ?_)
    refine lv_goto (tgt := 17) hx hb dL_arrangements_10 (by decide) ?_
    refine lv_iconst (v := 0) hx hb dL_arrangements_17 (by decide) ?_
    obtain ⟨rfl, rfl⟩ := g_s1 hf
    refine W.widen (k := 1) (n := 6) (Nat.le_of_ble_eq_true rfl) (Nat.le_of_ble_eq_true rfl) ?_
    exact r_iret C hP hS dL_arrangements_18
  · have hf := g_in hk0 hf
    by_cases e0 : k1 = 1
    · subst e0
      have hf := g_ip rfl hf
      obtain ⟨rfl, rfl⟩ := g_s1 hf
      rw [List.append_nil]
      refine vx_catch (own := RL) (E := gXC 1) (name := gXC 1) C.2.2.2.1 [] ⟨0, 10, 13, 13⟩ [] (CL.2.2.2.2.2.trans rfl) (fun z hz => nomatch hz) (by decide) (by decide) (C.2.2.2.2.1 _ cx_13) (gEW_at CL.2.1 cs_1) hce hcv hcl ?_
      refine lv_astore (i := 4) (lv' := [(4, .ref q9), (0, .ref (ad 0 0)), (1, .int p1), (2, .int p2), (3, .ref (ad 81 0))]) hx hb dL_arrangements_13 hl (Nat.le_of_ble_eq_true rfl) rfl (fun ls hl => ?_)
      refine lv_iconst (v := 1) hx hb dL_arrangements_15 (by decide) ?_
      refine W.widen (k := 1) (n := 6) (Nat.le_of_ble_eq_true rfl) (Nat.le_of_ble_eq_true rfl) ?_
      exact r_iret C hP hS dL_arrangements_16
    · have hf := g_in e0 hf
      cases hf

def rm_L_places : Room := { frames := 17, cells := 1, slots := 6, locals := 468 }
set_option maxRecDepth 100000 in
set_option maxHeartbeats 4000000 in
theorem s_L_places {l : Launch} {D : va_G} {cA : Nat → ClassId} {ad : Nat → Nat → Nat} {NL nw : List (Nat × Nat)} {N sz : Nat} {p1 : Int32} {p2 : Int32} {X : gM} {rr : Int32} {XX : gM} (htr : l.stackTraces = false) (hW : gWf NL) (hD0 : gD (fun _ => True) ad NL) (ha0 : (0, 0) ∈ NL) (ha81 : (81, 0) ∈ NL) (hf : L_places (gal NL) N p1 p2 X = some (rr, XX)) : gCL l yL_places cL_places 5 [(0, 10, 13, 13)] rm_L_places 1 6 D cA ad NL [.ref (ad 0 0), .int p1, .int p2, .ref (ad 81 0)] X rr [] XX sz := by
  refine g_ofL (nw := []) (by decide) rfl hD0 (Nat.le_of_ble_eq_true rfl) rfl (fun p e s m below meth c ls hsz CL hP hS hl => ?_)
  have C := CL.1
  have hx := C.1
  have hb := C.2.1
  rw [L_places] at hf
  refine lv_aload_n hx hb dL_places_0 rfl (lv_at hl 3 rfl) ?_
  refine lv_iconst (v := 0) hx hb dL_places_1 (by decide) ?_
  refine lv_aload_n hx hb dL_places_2 rfl (lv_at hl 0 rfl) ?_
  refine lv_iload_n hx hb dL_places_3 rfl (lv_at hl 1 rfl) ?_
  refine lv_iload_n hx hb dL_places_4 rfl (lv_at hl 2 rfl) ?_
  obtain ⟨k1, r1, X1, h1, hf⟩ := b3_in hf
  refine r_callX (nw := []) (rest := [.int 0, .ref (ad 81 0)]) C CL.2.1 CL.2.2.1 CL.2.2.2.1 hP hS hl.1 rfl (gCX_A (s_X9_places htr hW hD0 ha0 h1)) True.intro ix_X9_places iv_X9_places ls_L_71 ⟨rfl, rfl, Nat.le_of_ble_eq_true rfl, Nat.le_of_ble_eq_true rfl⟩ ha0 (ct_0 _ _ _ _) rfl rfl rfl rfl (Nat.le_of_ble_eq_true rfl) ⟨Nat.le_of_ble_eq_true rfl, Nat.le_of_ble_eq_true rfl⟩ dL_places_5 (fun hk0 C H locs hP hS => ?_) (fun hk0 ce q9 H locs hP hS hce hcv hcl => ?_)
  · subst hk0
    have hf := g_ip rfl hf
    show W p l e rm_L_places s m _ below meth c H locs _ _ _ (F0 m 8 ls (.int r1 :: [.int 0, .ref (ad 81 0)]))
    refine lv_i2l (v := r1.toInt64) hx hb dL_places_8 rfl ?_
    refine r_last (K := 81) (i := 0) (r := r1) (jj := 0) C hP hS (by simp [ha81]) gIn01 dL_places_9 (fun H locs hP hS => ?_)
    refine lv_goto (tgt := 17) hx hb dL_places_10 (by decide) ?_
    refine lv_iconst (v := 0) hx hb dL_places_17 (by decide) ?_
    obtain ⟨rfl, rfl⟩ := g_s1 hf
    refine W.widen (k := 1) (n := 6) (Nat.le_of_ble_eq_true rfl) (Nat.le_of_ble_eq_true rfl) ?_
    exact r_iret C hP hS dL_places_18
  · have hf := g_in hk0 hf
    by_cases e0 : k1 = 1
    · subst e0
      have hf := g_ip rfl hf
      obtain ⟨rfl, rfl⟩ := g_s1 hf
      rw [List.append_nil]
      refine vx_catch (own := RL) (E := gXC 1) (name := gXC 1) C.2.2.2.1 [] ⟨0, 10, 13, 13⟩ [] (CL.2.2.2.2.2.trans rfl) (fun z hz => nomatch hz) (by decide) (by decide) (C.2.2.2.2.1 _ cx_13) (gEW_at CL.2.1 cs_1) hce hcv hcl ?_
      refine lv_astore (i := 4) (lv' := [(4, .ref q9), (0, .ref (ad 0 0)), (1, .int p1), (2, .int p2), (3, .ref (ad 81 0))]) hx hb dL_places_13 hl (Nat.le_of_ble_eq_true rfl) rfl (fun ls hl => ?_)
      refine lv_iconst (v := 1) hx hb dL_places_15 (by decide) ?_
      refine W.widen (k := 1) (n := 6) (Nat.le_of_ble_eq_true rfl) (Nat.le_of_ble_eq_true rfl) ?_
      exact r_iret C hP hS dL_places_16
    · have hf := g_in e0 hf
      cases hf

def rm_L_joined : Room := { frames := 16, cells := 1, slots := 6, locals := 449 }
set_option maxRecDepth 100000 in
set_option maxHeartbeats 4000000 in
theorem s_L_joined {l : Launch} {D : va_G} {cA : Nat → ClassId} {ad : Nat → Nat → Nat} {NL nw : List (Nat × Nat)} {N sz : Nat} {p1 : Int32} {p2 : Int32} {X : gM} {rr : Int32} {XX : gM} (htr : l.stackTraces = false) (hW : gWf NL) (hD0 : gD (fun _ => True) ad NL) (ha0 : (0, 0) ∈ NL) (ha81 : (81, 0) ∈ NL) (hf : L_joined (gal NL) N p1 p2 X = some (rr, XX)) : gCL l yL_joined cL_joined 5 [(0, 10, 13, 13), (0, 10, 17, 15)] rm_L_joined 1 6 D cA ad NL [.ref (ad 0 0), .int p1, .int p2, .ref (ad 81 0)] X rr [] XX sz := by
  refine g_ofL (nw := []) (by decide) rfl hD0 (Nat.le_of_ble_eq_true rfl) rfl (fun p e s m below meth c ls hsz CL hP hS hl => ?_)
  have C := CL.1
  have hx := C.1
  have hb := C.2.1
  rw [L_joined] at hf
  refine lv_aload_n hx hb dL_joined_0 rfl (lv_at hl 3 rfl) ?_
  refine lv_iconst (v := 0) hx hb dL_joined_1 (by decide) ?_
  refine lv_aload_n hx hb dL_joined_2 rfl (lv_at hl 0 rfl) ?_
  refine lv_iload_n hx hb dL_joined_3 rfl (lv_at hl 1 rfl) ?_
  refine lv_iload_n hx hb dL_joined_4 rfl (lv_at hl 2 rfl) ?_
  obtain ⟨k1, r1, X1, h1, hf⟩ := b3_in hf
  refine r_callX (nw := []) (rest := [.int 0, .ref (ad 81 0)]) C CL.2.1 CL.2.2.1 CL.2.2.2.1 hP hS hl.1 rfl (gCX_A (s_X9_joined htr hW hD0 ha0 h1)) True.intro ix_X9_joined iv_X9_joined ls_L_74 ⟨rfl, rfl, Nat.le_of_ble_eq_true rfl, Nat.le_of_ble_eq_true rfl⟩ ha0 (ct_0 _ _ _ _) rfl rfl rfl rfl (Nat.le_of_ble_eq_true rfl) ⟨Nat.le_of_ble_eq_true rfl, Nat.le_of_ble_eq_true rfl⟩ dL_joined_5 (fun hk0 C H locs hP hS => ?_) (fun hk0 ce q9 H locs hP hS hce hcv hcl => ?_)
  · subst hk0
    have hf := g_ip rfl hf
    show W p l e rm_L_joined s m _ below meth c H locs _ _ _ (F0 m 8 ls (.int r1 :: [.int 0, .ref (ad 81 0)]))
    refine lv_i2l (v := r1.toInt64) hx hb dL_joined_8 rfl ?_
    refine r_last (K := 81) (i := 0) (r := r1) (jj := 0) C hP hS (by simp [ha81]) gIn01 dL_joined_9 (fun H locs hP hS => ?_)
    refine lv_goto (tgt := 21) hx hb dL_joined_10 (by decide) ?_
    refine lv_iconst (v := 0) hx hb dL_joined_21 (by decide) ?_
    obtain ⟨rfl, rfl⟩ := g_s1 hf
    refine W.widen (k := 1) (n := 6) (Nat.le_of_ble_eq_true rfl) (Nat.le_of_ble_eq_true rfl) ?_
    exact r_iret C hP hS dL_joined_22
  · have hf := g_in hk0 hf
    by_cases e0 : k1 = 1
    · subst e0
      have hf := g_ip rfl hf
      obtain ⟨rfl, rfl⟩ := g_s1 hf
      rw [List.append_nil]
      refine vx_catch (own := RL) (E := gXC 1) (name := gXC 1) C.2.2.2.1 [] ⟨0, 10, 13, 13⟩ [⟨0, 10, 17, 15⟩] (CL.2.2.2.2.2.trans rfl) (fun z hz => nomatch hz) (by decide) (by decide) (C.2.2.2.2.1 _ cx_13) (gEW_at CL.2.1 cs_1) hce hcv hcl ?_
      refine lv_astore (i := 4) (lv' := [(4, .ref q9), (0, .ref (ad 0 0)), (1, .int p1), (2, .int p2), (3, .ref (ad 81 0))]) hx hb dL_joined_13 hl (Nat.le_of_ble_eq_true rfl) rfl (fun ls hl => ?_)
      refine lv_iconst (v := 1) hx hb dL_joined_15 (by decide) ?_
      refine W.widen (k := 1) (n := 6) (Nat.le_of_ble_eq_true rfl) (Nat.le_of_ble_eq_true rfl) ?_
      exact r_iret C hP hS dL_joined_16
    · have hf := g_in e0 hf
      by_cases e1 : k1 = 2
      · subst e1
        have hf := g_ip rfl hf
        obtain ⟨rfl, rfl⟩ := g_s1 hf
        rw [List.append_nil]
        refine vx_catch (own := RL) (E := gXC 2) (name := gXC 2) C.2.2.2.1 [⟨0, 10, 13, 13⟩] ⟨0, 10, 17, 15⟩ [] (CL.2.2.2.2.2.trans rfl) (fun z hz => by simp only [List.mem_singleton] at hz; subst hz; exact Or.inr ⟨by decide, gXC 1, C.2.2.2.2.1 _ cx_13, CL.2.2.2.2.1 2 1 (by decide) (by decide) (by decide)⟩) (by decide) (by decide) (C.2.2.2.2.1 _ cx_15) (gEW_at CL.2.1 cs_2) hce hcv hcl ?_
        refine lv_astore (i := 4) (lv' := [(4, .ref q9), (0, .ref (ad 0 0)), (1, .int p1), (2, .int p2), (3, .ref (ad 81 0))]) hx hb dL_joined_17 hl (Nat.le_of_ble_eq_true rfl) rfl (fun ls hl => ?_)
        refine lv_iconst (v := 2) hx hb dL_joined_19 (by decide) ?_
        refine W.widen (k := 1) (n := 6) (Nat.le_of_ble_eq_true rfl) (Nat.le_of_ble_eq_true rfl) ?_
        exact r_iret C hP hS dL_joined_20
      · have hf := g_in e1 hf
        cases hf

def rm_L_hand : Room := { frames := 7, cells := 1, slots := 6, locals := 124 }
set_option maxRecDepth 100000 in
set_option maxHeartbeats 4000000 in
theorem s_L_hand {l : Launch} {D : va_G} {cA : Nat → ClassId} {ad : Nat → Nat → Nat} {NL nw : List (Nat × Nat)} {N sz : Nat} {p1 : Int32} {p2 : Int32} {p3 : Int32} {p4 : Int32} {p5 : Int32} {X : gM} {rr : Int32} {XX : gM} (htr : l.stackTraces = false) (hW : gWf NL) (hD0 : gD (fun _ => True) ad NL) (ha0 : (0, 0) ∈ NL) (ha81 : (81, 0) ∈ NL) (hf : L_hand (gal NL) N p1 p2 p3 p4 p5 X = some (rr, XX)) : gCL l yL_hand cL_hand 8 [(0, 16, 19, 13), (0, 16, 23, 15)] rm_L_hand 1 6 D cA ad NL [.ref (ad 0 0), .int p1, .int p2, .int p3, .int p4, .int p5, .ref (ad 81 0)] X rr [] XX sz := by
  refine g_ofL (nw := []) (by decide) rfl hD0 (Nat.le_of_ble_eq_true rfl) rfl (fun p e s m below meth c ls hsz CL hP hS hl => ?_)
  have C := CL.1
  have hx := C.1
  have hb := C.2.1
  rw [L_hand] at hf
  refine lv_aload hx hb dL_hand_0 (lv_at hl 6 rfl) ?_
  refine lv_iconst (v := 0) hx hb dL_hand_2 (by decide) ?_
  refine lv_aload_n hx hb dL_hand_3 rfl (lv_at hl 0 rfl) ?_
  refine lv_iload_n hx hb dL_hand_4 rfl (lv_at hl 1 rfl) ?_
  refine lv_iload_n hx hb dL_hand_5 rfl (lv_at hl 2 rfl) ?_
  refine lv_iload_n hx hb dL_hand_6 rfl (lv_at hl 3 rfl) ?_
  refine lv_iload hx hb dL_hand_7 (lv_at hl 4 rfl) ?_
  refine lv_iload hx hb dL_hand_9 (lv_at hl 5 rfl) ?_
  obtain ⟨k1, r1, X1, h1, hf⟩ := b3_in hf
  refine r_callX (nw := []) (rest := [.int 0, .ref (ad 81 0)]) C CL.2.1 CL.2.2.1 CL.2.2.2.1 hP hS hl.1 rfl (gCX_A (s_X9_hand htr hW hD0 ha0 h1)) True.intro ix_X9_hand iv_X9_hand ls_L_77 ⟨rfl, rfl, Nat.le_of_ble_eq_true rfl, Nat.le_of_ble_eq_true rfl⟩ ha0 (ct_0 _ _ _ _) rfl rfl rfl rfl (Nat.le_of_ble_eq_true rfl) ⟨Nat.le_of_ble_eq_true rfl, Nat.le_of_ble_eq_true rfl⟩ dL_hand_11 (fun hk0 C H locs hP hS => ?_) (fun hk0 ce q9 H locs hP hS hce hcv hcl => ?_)
  · subst hk0
    have hf := g_ip rfl hf
    show W p l e rm_L_hand s m _ below meth c H locs _ _ _ (F0 m 14 ls (.int r1 :: [.int 0, .ref (ad 81 0)]))
    refine lv_i2l (v := r1.toInt64) hx hb dL_hand_14 rfl ?_
    refine r_last (K := 81) (i := 0) (r := r1) (jj := 0) C hP hS (by simp [ha81]) gIn01 dL_hand_15 (fun H locs hP hS => ?_)
    refine lv_goto (tgt := 27) hx hb dL_hand_16 (by decide) ?_
    refine lv_iconst (v := 0) hx hb dL_hand_27 (by decide) ?_
    obtain ⟨rfl, rfl⟩ := g_s1 hf
    refine W.widen (k := 1) (n := 6) (Nat.le_of_ble_eq_true rfl) (Nat.le_of_ble_eq_true rfl) ?_
    exact r_iret C hP hS dL_hand_28
  · have hf := g_in hk0 hf
    by_cases e0 : k1 = 1
    · subst e0
      have hf := g_ip rfl hf
      obtain ⟨rfl, rfl⟩ := g_s1 hf
      rw [List.append_nil]
      refine vx_catch (own := RL) (E := gXC 1) (name := gXC 1) C.2.2.2.1 [] ⟨0, 16, 19, 13⟩ [⟨0, 16, 23, 15⟩] (CL.2.2.2.2.2.trans rfl) (fun z hz => nomatch hz) (by decide) (by decide) (C.2.2.2.2.1 _ cx_13) (gEW_at CL.2.1 cs_1) hce hcv hcl ?_
      refine lv_astore (i := 7) (lv' := [(7, .ref q9), (0, .ref (ad 0 0)), (1, .int p1), (2, .int p2), (3, .int p3), (4, .int p4), (5, .int p5), (6, .ref (ad 81 0))]) hx hb dL_hand_19 hl (Nat.le_of_ble_eq_true rfl) rfl (fun ls hl => ?_)
      refine lv_iconst (v := 1) hx hb dL_hand_21 (by decide) ?_
      refine W.widen (k := 1) (n := 6) (Nat.le_of_ble_eq_true rfl) (Nat.le_of_ble_eq_true rfl) ?_
      exact r_iret C hP hS dL_hand_22
    · have hf := g_in e0 hf
      by_cases e1 : k1 = 2
      · subst e1
        have hf := g_ip rfl hf
        obtain ⟨rfl, rfl⟩ := g_s1 hf
        rw [List.append_nil]
        refine vx_catch (own := RL) (E := gXC 2) (name := gXC 2) C.2.2.2.1 [⟨0, 16, 19, 13⟩] ⟨0, 16, 23, 15⟩ [] (CL.2.2.2.2.2.trans rfl) (fun z hz => by simp only [List.mem_singleton] at hz; subst hz; exact Or.inr ⟨by decide, gXC 1, C.2.2.2.2.1 _ cx_13, CL.2.2.2.2.1 2 1 (by decide) (by decide) (by decide)⟩) (by decide) (by decide) (C.2.2.2.2.1 _ cx_15) (gEW_at CL.2.1 cs_2) hce hcv hcl ?_
        refine lv_astore (i := 7) (lv' := [(7, .ref q9), (0, .ref (ad 0 0)), (1, .int p1), (2, .int p2), (3, .int p3), (4, .int p4), (5, .int p5), (6, .ref (ad 81 0))]) hx hb dL_hand_23 hl (Nat.le_of_ble_eq_true rfl) rfl (fun ls hl => ?_)
        refine lv_iconst (v := 2) hx hb dL_hand_25 (by decide) ?_
        refine W.widen (k := 1) (n := 6) (Nat.le_of_ble_eq_true rfl) (Nat.le_of_ble_eq_true rfl) ?_
        exact r_iret C hP hS dL_hand_26
      · have hf := g_in e1 hf
        cases hf

def rm_L_handOf : Room := { frames := 7, cells := 1, slots := 6, locals := 115 }
set_option maxRecDepth 100000 in
set_option maxHeartbeats 4000000 in
theorem s_L_handOf {l : Launch} {D : va_G} {cA : Nat → ClassId} {ad : Nat → Nat → Nat} {NL nw : List (Nat × Nat)} {N sz : Nat} {p1 : Int32} {X : gM} {rr : Int32} {XX : gM} (htr : l.stackTraces = false) (hW : gWf NL) (hD0 : gD (fun _ => True) ad NL) (ha0 : (0, 0) ∈ NL) (ha81 : (81, 0) ∈ NL) (hf : L_handOf (gal NL) N p1 X = some (rr, XX)) : gCL l yL_handOf cL_handOf 4 [(0, 9, 12, 13)] rm_L_handOf 1 6 D cA ad NL [.ref (ad 0 0), .int p1, .ref (ad 81 0)] X rr [] XX sz := by
  refine g_ofL (nw := []) (by decide) rfl hD0 (Nat.le_of_ble_eq_true rfl) rfl (fun p e s m below meth c ls hsz CL hP hS hl => ?_)
  have C := CL.1
  have hx := C.1
  have hb := C.2.1
  rw [L_handOf] at hf
  refine lv_aload_n hx hb dL_handOf_0 rfl (lv_at hl 2 rfl) ?_
  refine lv_iconst (v := 0) hx hb dL_handOf_1 (by decide) ?_
  refine lv_aload_n hx hb dL_handOf_2 rfl (lv_at hl 0 rfl) ?_
  refine lv_iload_n hx hb dL_handOf_3 rfl (lv_at hl 1 rfl) ?_
  obtain ⟨k1, r1, X1, h1, hf⟩ := b3_in hf
  refine r_callX (nw := []) (rest := [.int 0, .ref (ad 81 0)]) C CL.2.1 CL.2.2.1 CL.2.2.2.1 hP hS hl.1 rfl (gCX_A (s_X9_handOf htr hW hD0 ha0 h1)) True.intro ix_X9_handOf iv_X9_handOf ls_L_80 ⟨rfl, rfl, Nat.le_of_ble_eq_true rfl, Nat.le_of_ble_eq_true rfl⟩ ha0 (ct_0 _ _ _ _) rfl rfl rfl rfl (Nat.le_of_ble_eq_true rfl) ⟨Nat.le_of_ble_eq_true rfl, Nat.le_of_ble_eq_true rfl⟩ dL_handOf_4 (fun hk0 C H locs hP hS => ?_) (fun hk0 ce q9 H locs hP hS hce hcv hcl => ?_)
  · subst hk0
    have hf := g_ip rfl hf
    show W p l e rm_L_handOf s m _ below meth c H locs _ _ _ (F0 m 7 ls (.int r1 :: [.int 0, .ref (ad 81 0)]))
    refine lv_i2l (v := r1.toInt64) hx hb dL_handOf_7 rfl ?_
    refine r_last (K := 81) (i := 0) (r := r1) (jj := 0) C hP hS (by simp [ha81]) gIn01 dL_handOf_8 (fun H locs hP hS => ?_)
    refine lv_goto (tgt := 15) hx hb dL_handOf_9 (by decide) ?_
    refine lv_iconst (v := 0) hx hb dL_handOf_15 (by decide) ?_
    obtain ⟨rfl, rfl⟩ := g_s1 hf
    refine W.widen (k := 1) (n := 6) (Nat.le_of_ble_eq_true rfl) (Nat.le_of_ble_eq_true rfl) ?_
    exact r_iret C hP hS dL_handOf_16
  · have hf := g_in hk0 hf
    by_cases e0 : k1 = 1
    · subst e0
      have hf := g_ip rfl hf
      obtain ⟨rfl, rfl⟩ := g_s1 hf
      rw [List.append_nil]
      refine vx_catch (own := RL) (E := gXC 1) (name := gXC 1) C.2.2.2.1 [] ⟨0, 9, 12, 13⟩ [] (CL.2.2.2.2.2.trans rfl) (fun z hz => nomatch hz) (by decide) (by decide) (C.2.2.2.2.1 _ cx_13) (gEW_at CL.2.1 cs_1) hce hcv hcl ?_
      refine lv_astore_n (i := 3) (lv' := [(3, .ref q9), (0, .ref (ad 0 0)), (1, .int p1), (2, .ref (ad 81 0))]) hx hb dL_handOf_12 rfl hl (Nat.le_of_ble_eq_true rfl) rfl (fun ls hl => ?_)
      refine lv_iconst (v := 1) hx hb dL_handOf_13 (by decide) ?_
      refine W.widen (k := 1) (n := 6) (Nat.le_of_ble_eq_true rfl) (Nat.le_of_ble_eq_true rfl) ?_
      exact r_iret C hP hS dL_handOf_14
    · have hf := g_in e0 hf
      cases hf

def rm_L_date : Room := { frames := 7, cells := 1, slots := 6, locals := 112 }
set_option maxRecDepth 100000 in
set_option maxHeartbeats 4000000 in
theorem s_L_date {l : Launch} {D : va_G} {cA : Nat → ClassId} {ad : Nat → Nat → Nat} {NL nw : List (Nat × Nat)} {N sz : Nat} {p1 : Int32} {p2 : Int32} {X : gM} {rr : Int32} {XX : gM} (htr : l.stackTraces = false) (hW : gWf NL) (hD0 : gD (fun _ => True) ad NL) (ha0 : (0, 0) ∈ NL) (ha81 : (81, 0) ∈ NL) (hf : L_date (gal NL) N p1 p2 X = some (rr, XX)) : gCL l yL_date cL_date 5 [(0, 10, 13, 13), (0, 10, 17, 15), (0, 10, 21, 17)] rm_L_date 1 6 D cA ad NL [.ref (ad 0 0), .int p1, .int p2, .ref (ad 81 0)] X rr [] XX sz := by
  refine g_ofL (nw := []) (by decide) rfl hD0 (Nat.le_of_ble_eq_true rfl) rfl (fun p e s m below meth c ls hsz CL hP hS hl => ?_)
  have C := CL.1
  have hx := C.1
  have hb := C.2.1
  rw [L_date] at hf
  refine lv_aload_n hx hb dL_date_0 rfl (lv_at hl 3 rfl) ?_
  refine lv_iconst (v := 0) hx hb dL_date_1 (by decide) ?_
  refine lv_aload_n hx hb dL_date_2 rfl (lv_at hl 0 rfl) ?_
  refine lv_iload_n hx hb dL_date_3 rfl (lv_at hl 1 rfl) ?_
  refine lv_iload_n hx hb dL_date_4 rfl (lv_at hl 2 rfl) ?_
  obtain ⟨k1, r1, X1, h1, hf⟩ := b3_in hf
  refine r_callX (nw := []) (rest := [.int 0, .ref (ad 81 0)]) C CL.2.1 CL.2.2.1 CL.2.2.2.1 hP hS hl.1 rfl (gCX_A (s_X9_date htr hW hD0 ha0 h1)) True.intro ix_X9_date iv_X9_date ls_L_83 ⟨rfl, rfl, Nat.le_of_ble_eq_true rfl, Nat.le_of_ble_eq_true rfl⟩ ha0 (ct_0 _ _ _ _) rfl rfl rfl rfl (Nat.le_of_ble_eq_true rfl) ⟨Nat.le_of_ble_eq_true rfl, Nat.le_of_ble_eq_true rfl⟩ dL_date_5 (fun hk0 C H locs hP hS => ?_) (fun hk0 ce q9 H locs hP hS hce hcv hcl => ?_)
  · subst hk0
    have hf := g_ip rfl hf
    show W p l e rm_L_date s m _ below meth c H locs _ _ _ (F0 m 8 ls (.int r1 :: [.int 0, .ref (ad 81 0)]))
    refine lv_i2l (v := r1.toInt64) hx hb dL_date_8 rfl ?_
    refine r_last (K := 81) (i := 0) (r := r1) (jj := 0) C hP hS (by simp [ha81]) gIn01 dL_date_9 (fun H locs hP hS => ?_)
    refine lv_goto (tgt := 25) hx hb dL_date_10 (by decide) ?_
    refine lv_iconst (v := 0) hx hb dL_date_25 (by decide) ?_
    obtain ⟨rfl, rfl⟩ := g_s1 hf
    refine W.widen (k := 1) (n := 6) (Nat.le_of_ble_eq_true rfl) (Nat.le_of_ble_eq_true rfl) ?_
    exact r_iret C hP hS dL_date_26
  · have hf := g_in hk0 hf
    by_cases e0 : k1 = 1
    · subst e0
      have hf := g_ip rfl hf
      obtain ⟨rfl, rfl⟩ := g_s1 hf
      rw [List.append_nil]
      refine vx_catch (own := RL) (E := gXC 1) (name := gXC 1) C.2.2.2.1 [] ⟨0, 10, 13, 13⟩ [⟨0, 10, 17, 15⟩, ⟨0, 10, 21, 17⟩] (CL.2.2.2.2.2.trans rfl) (fun z hz => nomatch hz) (by decide) (by decide) (C.2.2.2.2.1 _ cx_13) (gEW_at CL.2.1 cs_1) hce hcv hcl ?_
      refine lv_astore (i := 4) (lv' := [(4, .ref q9), (0, .ref (ad 0 0)), (1, .int p1), (2, .int p2), (3, .ref (ad 81 0))]) hx hb dL_date_13 hl (Nat.le_of_ble_eq_true rfl) rfl (fun ls hl => ?_)
      refine lv_iconst (v := 1) hx hb dL_date_15 (by decide) ?_
      refine W.widen (k := 1) (n := 6) (Nat.le_of_ble_eq_true rfl) (Nat.le_of_ble_eq_true rfl) ?_
      exact r_iret C hP hS dL_date_16
    · have hf := g_in e0 hf
      by_cases e1 : k1 = 2
      · subst e1
        have hf := g_ip rfl hf
        obtain ⟨rfl, rfl⟩ := g_s1 hf
        rw [List.append_nil]
        refine vx_catch (own := RL) (E := gXC 2) (name := gXC 2) C.2.2.2.1 [⟨0, 10, 13, 13⟩] ⟨0, 10, 17, 15⟩ [⟨0, 10, 21, 17⟩] (CL.2.2.2.2.2.trans rfl) (fun z hz => by simp only [List.mem_singleton] at hz; subst hz; exact Or.inr ⟨by decide, gXC 1, C.2.2.2.2.1 _ cx_13, CL.2.2.2.2.1 2 1 (by decide) (by decide) (by decide)⟩) (by decide) (by decide) (C.2.2.2.2.1 _ cx_15) (gEW_at CL.2.1 cs_2) hce hcv hcl ?_
        refine lv_astore (i := 4) (lv' := [(4, .ref q9), (0, .ref (ad 0 0)), (1, .int p1), (2, .int p2), (3, .ref (ad 81 0))]) hx hb dL_date_17 hl (Nat.le_of_ble_eq_true rfl) rfl (fun ls hl => ?_)
        refine lv_iconst (v := 2) hx hb dL_date_19 (by decide) ?_
        refine W.widen (k := 1) (n := 6) (Nat.le_of_ble_eq_true rfl) (Nat.le_of_ble_eq_true rfl) ?_
        exact r_iret C hP hS dL_date_20
      · have hf := g_in e1 hf
        by_cases e2 : k1 = 3
        · subst e2
          have hf := g_ip rfl hf
          obtain ⟨rfl, rfl⟩ := g_s1 hf
          rw [List.append_nil]
          refine vx_catch (own := RL) (E := gXC 3) (name := gXC 3) C.2.2.2.1 [⟨0, 10, 13, 13⟩, ⟨0, 10, 17, 15⟩] ⟨0, 10, 21, 17⟩ [] (CL.2.2.2.2.2.trans rfl) (fun z hz => by simp only [List.mem_cons, List.not_mem_nil, or_false] at hz; rcases hz with rfl | rfl; exact Or.inr ⟨by decide, gXC 1, C.2.2.2.2.1 _ cx_13, CL.2.2.2.2.1 3 1 (by decide) (by decide) (by decide)⟩; exact Or.inr ⟨by decide, gXC 2, C.2.2.2.2.1 _ cx_15, CL.2.2.2.2.1 3 2 (by decide) (by decide) (by decide)⟩) (by decide) (by decide) (C.2.2.2.2.1 _ cx_17) (gEW_at CL.2.1 cs_3) hce hcv hcl ?_
          refine lv_astore (i := 4) (lv' := [(4, .ref q9), (0, .ref (ad 0 0)), (1, .int p1), (2, .int p2), (3, .ref (ad 81 0))]) hx hb dL_date_21 hl (Nat.le_of_ble_eq_true rfl) rfl (fun ls hl => ?_)
          refine lv_iconst (v := 3) hx hb dL_date_23 (by decide) ?_
          refine W.widen (k := 1) (n := 6) (Nat.le_of_ble_eq_true rfl) (Nat.le_of_ble_eq_true rfl) ?_
          exact r_iret C hP hS dL_date_24
        · have hf := g_in e2 hf
          cases hf

def rm_L_dates : Room := { frames := 7, cells := 1, slots := 6, locals := 111 }
set_option maxRecDepth 100000 in
set_option maxHeartbeats 4000000 in
theorem s_L_dates {l : Launch} {D : va_G} {cA : Nat → ClassId} {ad : Nat → Nat → Nat} {NL nw : List (Nat × Nat)} {N sz : Nat} {p1 : Int32} {X : gM} {rr : Int32} {XX : gM} (htr : l.stackTraces = false) (hW : gWf NL) (hD0 : gD (fun _ => True) ad NL) (ha0 : (0, 0) ∈ NL) (ha81 : (81, 0) ∈ NL) (hf : L_dates (gal NL) N p1 X = some (rr, XX)) : gCL l yL_dates cL_dates 4 [(0, 9, 12, 13)] rm_L_dates 1 6 D cA ad NL [.ref (ad 0 0), .int p1, .ref (ad 81 0)] X rr [] XX sz := by
  refine g_ofL (nw := []) (by decide) rfl hD0 (Nat.le_of_ble_eq_true rfl) rfl (fun p e s m below meth c ls hsz CL hP hS hl => ?_)
  have C := CL.1
  have hx := C.1
  have hb := C.2.1
  rw [L_dates] at hf
  refine lv_aload_n hx hb dL_dates_0 rfl (lv_at hl 2 rfl) ?_
  refine lv_iconst (v := 0) hx hb dL_dates_1 (by decide) ?_
  refine lv_aload_n hx hb dL_dates_2 rfl (lv_at hl 0 rfl) ?_
  refine lv_iload_n hx hb dL_dates_3 rfl (lv_at hl 1 rfl) ?_
  obtain ⟨k1, r1, X1, h1, hf⟩ := b3_in hf
  refine r_callX (nw := []) (rest := [.int 0, .ref (ad 81 0)]) C CL.2.1 CL.2.2.1 CL.2.2.2.1 hP hS hl.1 rfl (gCX_A (s_X9_dates htr hW hD0 ha0 h1)) True.intro ix_X9_dates iv_X9_dates ls_L_86 ⟨rfl, rfl, Nat.le_of_ble_eq_true rfl, Nat.le_of_ble_eq_true rfl⟩ ha0 (ct_0 _ _ _ _) rfl rfl rfl rfl (Nat.le_of_ble_eq_true rfl) ⟨Nat.le_of_ble_eq_true rfl, Nat.le_of_ble_eq_true rfl⟩ dL_dates_4 (fun hk0 C H locs hP hS => ?_) (fun hk0 ce q9 H locs hP hS hce hcv hcl => ?_)
  · subst hk0
    have hf := g_ip rfl hf
    show W p l e rm_L_dates s m _ below meth c H locs _ _ _ (F0 m 7 ls (.int r1 :: [.int 0, .ref (ad 81 0)]))
    refine lv_i2l (v := r1.toInt64) hx hb dL_dates_7 rfl ?_
    refine r_last (K := 81) (i := 0) (r := r1) (jj := 0) C hP hS (by simp [ha81]) gIn01 dL_dates_8 (fun H locs hP hS => ?_)
    refine lv_goto (tgt := 15) hx hb dL_dates_9 (by decide) ?_
    refine lv_iconst (v := 0) hx hb dL_dates_15 (by decide) ?_
    obtain ⟨rfl, rfl⟩ := g_s1 hf
    refine W.widen (k := 1) (n := 6) (Nat.le_of_ble_eq_true rfl) (Nat.le_of_ble_eq_true rfl) ?_
    exact r_iret C hP hS dL_dates_16
  · have hf := g_in hk0 hf
    by_cases e0 : k1 = 1
    · subst e0
      have hf := g_ip rfl hf
      obtain ⟨rfl, rfl⟩ := g_s1 hf
      rw [List.append_nil]
      refine vx_catch (own := RL) (E := gXC 1) (name := gXC 1) C.2.2.2.1 [] ⟨0, 9, 12, 13⟩ [] (CL.2.2.2.2.2.trans rfl) (fun z hz => nomatch hz) (by decide) (by decide) (C.2.2.2.2.1 _ cx_13) (gEW_at CL.2.1 cs_1) hce hcv hcl ?_
      refine lv_astore_n (i := 3) (lv' := [(3, .ref q9), (0, .ref (ad 0 0)), (1, .int p1), (2, .ref (ad 81 0))]) hx hb dL_dates_12 rfl hl (Nat.le_of_ble_eq_true rfl) rfl (fun ls hl => ?_)
      refine lv_iconst (v := 1) hx hb dL_dates_13 (by decide) ?_
      refine W.widen (k := 1) (n := 6) (Nat.le_of_ble_eq_true rfl) (Nat.le_of_ble_eq_true rfl) ?_
      exact r_iret C hP hS dL_dates_14
    · have hf := g_in e0 hf
      cases hf

def rm_L_match : Room := { frames := 7, cells := 1, slots := 6, locals := 128 }
set_option maxRecDepth 100000 in
set_option maxHeartbeats 4000000 in
theorem s_L_match {l : Launch} {D : va_G} {cA : Nat → ClassId} {ad : Nat → Nat → Nat} {NL nw : List (Nat × Nat)} {N sz : Nat} {p1 : Int32} {p2 : Int32} {p3 : Int32} {p4 : Int32} {p5 : Int32} {X : gM} {rr : Int32} {XX : gM} (htr : l.stackTraces = false) (hW : gWf NL) (hD0 : gD (fun _ => True) ad NL) (ha0 : (0, 0) ∈ NL) (ha81 : (81, 0) ∈ NL) (hf : L_match (gal NL) N p1 p2 p3 p4 p5 X = some (rr, XX)) : gCL l yL_match cL_match 8 [(0, 16, 19, 13), (0, 16, 23, 15)] rm_L_match 1 6 D cA ad NL [.ref (ad 0 0), .int p1, .int p2, .int p3, .int p4, .int p5, .ref (ad 81 0)] X rr [] XX sz := by
  refine g_ofL (nw := []) (by decide) rfl hD0 (Nat.le_of_ble_eq_true rfl) rfl (fun p e s m below meth c ls hsz CL hP hS hl => ?_)
  have C := CL.1
  have hx := C.1
  have hb := C.2.1
  rw [L_match] at hf
  refine lv_aload hx hb dL_match_0 (lv_at hl 6 rfl) ?_
  refine lv_iconst (v := 0) hx hb dL_match_2 (by decide) ?_
  refine lv_aload_n hx hb dL_match_3 rfl (lv_at hl 0 rfl) ?_
  refine lv_iload_n hx hb dL_match_4 rfl (lv_at hl 1 rfl) ?_
  refine lv_iload_n hx hb dL_match_5 rfl (lv_at hl 2 rfl) ?_
  refine lv_iload_n hx hb dL_match_6 rfl (lv_at hl 3 rfl) ?_
  refine lv_iload hx hb dL_match_7 (lv_at hl 4 rfl) ?_
  refine lv_iload hx hb dL_match_9 (lv_at hl 5 rfl) ?_
  obtain ⟨k1, r1, X1, h1, hf⟩ := b3_in hf
  refine r_callX (nw := []) (rest := [.int 0, .ref (ad 81 0)]) C CL.2.1 CL.2.2.1 CL.2.2.2.1 hP hS hl.1 rfl (gCX_A (s_X9_match htr hW hD0 ha0 h1)) True.intro ix_X9_match iv_X9_match ls_L_89 ⟨rfl, rfl, Nat.le_of_ble_eq_true rfl, Nat.le_of_ble_eq_true rfl⟩ ha0 (ct_0 _ _ _ _) rfl rfl rfl rfl (Nat.le_of_ble_eq_true rfl) ⟨Nat.le_of_ble_eq_true rfl, Nat.le_of_ble_eq_true rfl⟩ dL_match_11 (fun hk0 C H locs hP hS => ?_) (fun hk0 ce q9 H locs hP hS hce hcv hcl => ?_)
  · subst hk0
    have hf := g_ip rfl hf
    show W p l e rm_L_match s m _ below meth c H locs _ _ _ (F0 m 14 ls (.int r1 :: [.int 0, .ref (ad 81 0)]))
    refine lv_i2l (v := r1.toInt64) hx hb dL_match_14 rfl ?_
    refine r_last (K := 81) (i := 0) (r := r1) (jj := 0) C hP hS (by simp [ha81]) gIn01 dL_match_15 (fun H locs hP hS => ?_)
    refine lv_goto (tgt := 27) hx hb dL_match_16 (by decide) ?_
    refine lv_iconst (v := 0) hx hb dL_match_27 (by decide) ?_
    obtain ⟨rfl, rfl⟩ := g_s1 hf
    refine W.widen (k := 1) (n := 6) (Nat.le_of_ble_eq_true rfl) (Nat.le_of_ble_eq_true rfl) ?_
    exact r_iret C hP hS dL_match_28
  · have hf := g_in hk0 hf
    by_cases e0 : k1 = 1
    · subst e0
      have hf := g_ip rfl hf
      obtain ⟨rfl, rfl⟩ := g_s1 hf
      rw [List.append_nil]
      refine vx_catch (own := RL) (E := gXC 1) (name := gXC 1) C.2.2.2.1 [] ⟨0, 16, 19, 13⟩ [⟨0, 16, 23, 15⟩] (CL.2.2.2.2.2.trans rfl) (fun z hz => nomatch hz) (by decide) (by decide) (C.2.2.2.2.1 _ cx_13) (gEW_at CL.2.1 cs_1) hce hcv hcl ?_
      refine lv_astore (i := 7) (lv' := [(7, .ref q9), (0, .ref (ad 0 0)), (1, .int p1), (2, .int p2), (3, .int p3), (4, .int p4), (5, .int p5), (6, .ref (ad 81 0))]) hx hb dL_match_19 hl (Nat.le_of_ble_eq_true rfl) rfl (fun ls hl => ?_)
      refine lv_iconst (v := 1) hx hb dL_match_21 (by decide) ?_
      refine W.widen (k := 1) (n := 6) (Nat.le_of_ble_eq_true rfl) (Nat.le_of_ble_eq_true rfl) ?_
      exact r_iret C hP hS dL_match_22
    · have hf := g_in e0 hf
      by_cases e1 : k1 = 2
      · subst e1
        have hf := g_ip rfl hf
        obtain ⟨rfl, rfl⟩ := g_s1 hf
        rw [List.append_nil]
        refine vx_catch (own := RL) (E := gXC 2) (name := gXC 2) C.2.2.2.1 [⟨0, 16, 19, 13⟩] ⟨0, 16, 23, 15⟩ [] (CL.2.2.2.2.2.trans rfl) (fun z hz => by simp only [List.mem_singleton] at hz; subst hz; exact Or.inr ⟨by decide, gXC 1, C.2.2.2.2.1 _ cx_13, CL.2.2.2.2.1 2 1 (by decide) (by decide) (by decide)⟩) (by decide) (by decide) (C.2.2.2.2.1 _ cx_15) (gEW_at CL.2.1 cs_2) hce hcv hcl ?_
        refine lv_astore (i := 7) (lv' := [(7, .ref q9), (0, .ref (ad 0 0)), (1, .int p1), (2, .int p2), (3, .int p3), (4, .int p4), (5, .int p5), (6, .ref (ad 81 0))]) hx hb dL_match_23 hl (Nat.le_of_ble_eq_true rfl) rfl (fun ls hl => ?_)
        refine lv_iconst (v := 2) hx hb dL_match_25 (by decide) ?_
        refine W.widen (k := 1) (n := 6) (Nat.le_of_ble_eq_true rfl) (Nat.le_of_ble_eq_true rfl) ?_
        exact r_iret C hP hS dL_match_26
      · have hf := g_in e1 hf
        cases hf

def rm_L_edition : Room := { frames := 16, cells := 1, slots := 6, locals := 451 }
set_option maxRecDepth 100000 in
set_option maxHeartbeats 4000000 in
theorem s_L_edition {l : Launch} {D : va_G} {cA : Nat → ClassId} {ad : Nat → Nat → Nat} {NL nw : List (Nat × Nat)} {N sz : Nat} {p1 : Int32} {p2 : Int32} {X : gM} {rr : Int32} {XX : gM} (htr : l.stackTraces = false) (hW : gWf NL) (hD0 : gD (fun _ => True) ad NL) (ha0 : (0, 0) ∈ NL) (ha81 : (81, 0) ∈ NL) (hf : L_edition (gal NL) N p1 p2 X = some (rr, XX)) : gCL l yL_edition cL_edition 5 [(0, 10, 13, 13)] rm_L_edition 1 6 D cA ad NL [.ref (ad 0 0), .int p1, .int p2, .ref (ad 81 0)] X rr [] XX sz := by
  refine g_ofL (nw := []) (by decide) rfl hD0 (Nat.le_of_ble_eq_true rfl) rfl (fun p e s m below meth c ls hsz CL hP hS hl => ?_)
  have C := CL.1
  have hx := C.1
  have hb := C.2.1
  rw [L_edition] at hf
  refine lv_aload_n hx hb dL_edition_0 rfl (lv_at hl 3 rfl) ?_
  refine lv_iconst (v := 0) hx hb dL_edition_1 (by decide) ?_
  refine lv_aload_n hx hb dL_edition_2 rfl (lv_at hl 0 rfl) ?_
  refine lv_iload_n hx hb dL_edition_3 rfl (lv_at hl 1 rfl) ?_
  refine lv_iload_n hx hb dL_edition_4 rfl (lv_at hl 2 rfl) ?_
  obtain ⟨k1, r1, X1, h1, hf⟩ := b3_in hf
  refine r_callX (nw := []) (rest := [.int 0, .ref (ad 81 0)]) C CL.2.1 CL.2.2.1 CL.2.2.2.1 hP hS hl.1 rfl (gCX_A (s_X9_edition htr hW hD0 ha0 h1)) True.intro ix_X9_edition iv_X9_edition ls_L_93 ⟨rfl, rfl, Nat.le_of_ble_eq_true rfl, Nat.le_of_ble_eq_true rfl⟩ ha0 (ct_0 _ _ _ _) rfl rfl rfl rfl (Nat.le_of_ble_eq_true rfl) ⟨Nat.le_of_ble_eq_true rfl, Nat.le_of_ble_eq_true rfl⟩ dL_edition_5 (fun hk0 C H locs hP hS => ?_) (fun hk0 ce q9 H locs hP hS hce hcv hcl => ?_)
  · subst hk0
    have hf := g_ip rfl hf
    show W p l e rm_L_edition s m _ below meth c H locs _ _ _ (F0 m 8 ls (.int r1 :: [.int 0, .ref (ad 81 0)]))
    refine lv_i2l (v := r1.toInt64) hx hb dL_edition_8 rfl ?_
    refine r_last (K := 81) (i := 0) (r := r1) (jj := 0) C hP hS (by simp [ha81]) gIn01 dL_edition_9 (fun H locs hP hS => ?_)
    refine lv_goto (tgt := 17) hx hb dL_edition_10 (by decide) ?_
    refine lv_iconst (v := 0) hx hb dL_edition_17 (by decide) ?_
    obtain ⟨rfl, rfl⟩ := g_s1 hf
    refine W.widen (k := 1) (n := 6) (Nat.le_of_ble_eq_true rfl) (Nat.le_of_ble_eq_true rfl) ?_
    exact r_iret C hP hS dL_edition_18
  · have hf := g_in hk0 hf
    by_cases e0 : k1 = 1
    · subst e0
      have hf := g_ip rfl hf
      obtain ⟨rfl, rfl⟩ := g_s1 hf
      rw [List.append_nil]
      refine vx_catch (own := RL) (E := gXC 1) (name := gXC 1) C.2.2.2.1 [] ⟨0, 10, 13, 13⟩ [] (CL.2.2.2.2.2.trans rfl) (fun z hz => nomatch hz) (by decide) (by decide) (C.2.2.2.2.1 _ cx_13) (gEW_at CL.2.1 cs_1) hce hcv hcl ?_
      refine lv_astore (i := 4) (lv' := [(4, .ref q9), (0, .ref (ad 0 0)), (1, .int p1), (2, .int p2), (3, .ref (ad 81 0))]) hx hb dL_edition_13 hl (Nat.le_of_ble_eq_true rfl) rfl (fun ls hl => ?_)
      refine lv_iconst (v := 1) hx hb dL_edition_15 (by decide) ?_
      refine W.widen (k := 1) (n := 6) (Nat.le_of_ble_eq_true rfl) (Nat.le_of_ble_eq_true rfl) ?_
      exact r_iret C hP hS dL_edition_16
    · have hf := g_in e0 hf
      cases hf

def rm_L_state : Room := { frames := 7, cells := 1, slots := 6, locals := 126 }
set_option maxRecDepth 100000 in
set_option maxHeartbeats 4000000 in
theorem s_L_state {l : Launch} {D : va_G} {cA : Nat → ClassId} {ad : Nat → Nat → Nat} {NL nw : List (Nat × Nat)} {N sz : Nat} {p1 : Int32} {p2 : Int32} {p3 : Int32} {p4 : Int32} {X : gM} {rr : Int32} {XX : gM} (htr : l.stackTraces = false) (hW : gWf NL) (hD0 : gD (fun _ => True) ad NL) (ha0 : (0, 0) ∈ NL) (ha81 : (81, 0) ∈ NL) (hf : L_state (gal NL) N p1 p2 p3 p4 X = some (rr, XX)) : gCL l yL_state cL_state 7 [(0, 14, 17, 13), (0, 14, 21, 15)] rm_L_state 1 6 D cA ad NL [.ref (ad 0 0), .int p1, .int p2, .int p3, .int p4, .ref (ad 81 0)] X rr [] XX sz := by
  refine g_ofL (nw := []) (by decide) rfl hD0 (Nat.le_of_ble_eq_true rfl) rfl (fun p e s m below meth c ls hsz CL hP hS hl => ?_)
  have C := CL.1
  have hx := C.1
  have hb := C.2.1
  rw [L_state] at hf
  refine lv_aload hx hb dL_state_0 (lv_at hl 5 rfl) ?_
  refine lv_iconst (v := 0) hx hb dL_state_2 (by decide) ?_
  refine lv_aload_n hx hb dL_state_3 rfl (lv_at hl 0 rfl) ?_
  refine lv_iload_n hx hb dL_state_4 rfl (lv_at hl 1 rfl) ?_
  refine lv_iload_n hx hb dL_state_5 rfl (lv_at hl 2 rfl) ?_
  refine lv_iload_n hx hb dL_state_6 rfl (lv_at hl 3 rfl) ?_
  refine lv_iload hx hb dL_state_7 (lv_at hl 4 rfl) ?_
  obtain ⟨k1, r1, X1, h1, hf⟩ := b3_in hf
  refine r_callX (nw := []) (rest := [.int 0, .ref (ad 81 0)]) C CL.2.1 CL.2.2.1 CL.2.2.2.1 hP hS hl.1 rfl (gCX_A (s_X9_state htr hW hD0 ha0 h1)) True.intro ix_X9_state iv_X9_state ls_L_96 ⟨rfl, rfl, Nat.le_of_ble_eq_true rfl, Nat.le_of_ble_eq_true rfl⟩ ha0 (ct_0 _ _ _ _) rfl rfl rfl rfl (Nat.le_of_ble_eq_true rfl) ⟨Nat.le_of_ble_eq_true rfl, Nat.le_of_ble_eq_true rfl⟩ dL_state_9 (fun hk0 C H locs hP hS => ?_) (fun hk0 ce q9 H locs hP hS hce hcv hcl => ?_)
  · subst hk0
    have hf := g_ip rfl hf
    show W p l e rm_L_state s m _ below meth c H locs _ _ _ (F0 m 12 ls (.int r1 :: [.int 0, .ref (ad 81 0)]))
    refine lv_i2l (v := r1.toInt64) hx hb dL_state_12 rfl ?_
    refine r_last (K := 81) (i := 0) (r := r1) (jj := 0) C hP hS (by simp [ha81]) gIn01 dL_state_13 (fun H locs hP hS => ?_)
    refine lv_goto (tgt := 25) hx hb dL_state_14 (by decide) ?_
    refine lv_iconst (v := 0) hx hb dL_state_25 (by decide) ?_
    obtain ⟨rfl, rfl⟩ := g_s1 hf
    refine W.widen (k := 1) (n := 6) (Nat.le_of_ble_eq_true rfl) (Nat.le_of_ble_eq_true rfl) ?_
    exact r_iret C hP hS dL_state_26
  · have hf := g_in hk0 hf
    by_cases e0 : k1 = 1
    · subst e0
      have hf := g_ip rfl hf
      obtain ⟨rfl, rfl⟩ := g_s1 hf
      rw [List.append_nil]
      refine vx_catch (own := RL) (E := gXC 1) (name := gXC 1) C.2.2.2.1 [] ⟨0, 14, 17, 13⟩ [⟨0, 14, 21, 15⟩] (CL.2.2.2.2.2.trans rfl) (fun z hz => nomatch hz) (by decide) (by decide) (C.2.2.2.2.1 _ cx_13) (gEW_at CL.2.1 cs_1) hce hcv hcl ?_
      refine lv_astore (i := 6) (lv' := [(6, .ref q9), (0, .ref (ad 0 0)), (1, .int p1), (2, .int p2), (3, .int p3), (4, .int p4), (5, .ref (ad 81 0))]) hx hb dL_state_17 hl (Nat.le_of_ble_eq_true rfl) rfl (fun ls hl => ?_)
      refine lv_iconst (v := 1) hx hb dL_state_19 (by decide) ?_
      refine W.widen (k := 1) (n := 6) (Nat.le_of_ble_eq_true rfl) (Nat.le_of_ble_eq_true rfl) ?_
      exact r_iret C hP hS dL_state_20
    · have hf := g_in e0 hf
      by_cases e1 : k1 = 2
      · subst e1
        have hf := g_ip rfl hf
        obtain ⟨rfl, rfl⟩ := g_s1 hf
        rw [List.append_nil]
        refine vx_catch (own := RL) (E := gXC 2) (name := gXC 2) C.2.2.2.1 [⟨0, 14, 17, 13⟩] ⟨0, 14, 21, 15⟩ [] (CL.2.2.2.2.2.trans rfl) (fun z hz => by simp only [List.mem_singleton] at hz; subst hz; exact Or.inr ⟨by decide, gXC 1, C.2.2.2.2.1 _ cx_13, CL.2.2.2.2.1 2 1 (by decide) (by decide) (by decide)⟩) (by decide) (by decide) (C.2.2.2.2.1 _ cx_15) (gEW_at CL.2.1 cs_2) hce hcv hcl ?_
        refine lv_astore (i := 6) (lv' := [(6, .ref q9), (0, .ref (ad 0 0)), (1, .int p1), (2, .int p2), (3, .int p3), (4, .int p4), (5, .ref (ad 81 0))]) hx hb dL_state_21 hl (Nat.le_of_ble_eq_true rfl) rfl (fun ls hl => ?_)
        refine lv_iconst (v := 2) hx hb dL_state_23 (by decide) ?_
        refine W.widen (k := 1) (n := 6) (Nat.le_of_ble_eq_true rfl) (Nat.le_of_ble_eq_true rfl) ?_
        exact r_iret C hP hS dL_state_24
      · have hf := g_in e1 hf
        cases hf

def rm_L_rests : Room := { frames := 17, cells := 1, slots := 6, locals := 474 }
set_option maxRecDepth 100000 in
set_option maxHeartbeats 4000000 in
theorem s_L_rests {l : Launch} {D : va_G} {cA : Nat → ClassId} {ad : Nat → Nat → Nat} {NL nw : List (Nat × Nat)} {N sz : Nat} {p1 : Int32} {X : gM} {rr : Int32} {XX : gM} (htr : l.stackTraces = false) (hW : gWf NL) (hD0 : gD (fun _ => True) ad NL) (ha0 : (0, 0) ∈ NL) (ha81 : (81, 0) ∈ NL) (hf : L_rests (gal NL) N p1 X = some (rr, XX)) : gCL l yL_rests cL_rests 4 [(0, 9, 12, 13)] rm_L_rests 1 6 D cA ad NL [.ref (ad 0 0), .int p1, .ref (ad 81 0)] X rr [] XX sz := by
  refine g_ofL (nw := []) (by decide) rfl hD0 (Nat.le_of_ble_eq_true rfl) rfl (fun p e s m below meth c ls hsz CL hP hS hl => ?_)
  have C := CL.1
  have hx := C.1
  have hb := C.2.1
  rw [L_rests] at hf
  refine lv_aload_n hx hb dL_rests_0 rfl (lv_at hl 2 rfl) ?_
  refine lv_iconst (v := 0) hx hb dL_rests_1 (by decide) ?_
  refine lv_aload_n hx hb dL_rests_2 rfl (lv_at hl 0 rfl) ?_
  refine lv_iload_n hx hb dL_rests_3 rfl (lv_at hl 1 rfl) ?_
  obtain ⟨k1, r1, X1, h1, hf⟩ := b3_in hf
  refine r_callX (nw := []) (rest := [.int 0, .ref (ad 81 0)]) C CL.2.1 CL.2.2.1 CL.2.2.2.1 hP hS hl.1 rfl (gCX_A (s_X9_rests htr hW hD0 ha0 h1)) True.intro ix_X9_rests iv_X9_rests ls_L_99 ⟨rfl, rfl, Nat.le_of_ble_eq_true rfl, Nat.le_of_ble_eq_true rfl⟩ ha0 (ct_0 _ _ _ _) rfl rfl rfl rfl (Nat.le_of_ble_eq_true rfl) ⟨Nat.le_of_ble_eq_true rfl, Nat.le_of_ble_eq_true rfl⟩ dL_rests_4 (fun hk0 C H locs hP hS => ?_) (fun hk0 ce q9 H locs hP hS hce hcv hcl => ?_)
  · subst hk0
    have hf := g_ip rfl hf
    show W p l e rm_L_rests s m _ below meth c H locs _ _ _ (F0 m 7 ls (.int r1 :: [.int 0, .ref (ad 81 0)]))
    refine lv_i2l (v := r1.toInt64) hx hb dL_rests_7 rfl ?_
    refine r_last (K := 81) (i := 0) (r := r1) (jj := 0) C hP hS (by simp [ha81]) gIn01 dL_rests_8 (fun H locs hP hS => ?_)
    refine lv_goto (tgt := 15) hx hb dL_rests_9 (by decide) ?_
    refine lv_iconst (v := 0) hx hb dL_rests_15 (by decide) ?_
    obtain ⟨rfl, rfl⟩ := g_s1 hf
    refine W.widen (k := 1) (n := 6) (Nat.le_of_ble_eq_true rfl) (Nat.le_of_ble_eq_true rfl) ?_
    exact r_iret C hP hS dL_rests_16
  · have hf := g_in hk0 hf
    by_cases e0 : k1 = 1
    · subst e0
      have hf := g_ip rfl hf
      obtain ⟨rfl, rfl⟩ := g_s1 hf
      rw [List.append_nil]
      refine vx_catch (own := RL) (E := gXC 1) (name := gXC 1) C.2.2.2.1 [] ⟨0, 9, 12, 13⟩ [] (CL.2.2.2.2.2.trans rfl) (fun z hz => nomatch hz) (by decide) (by decide) (C.2.2.2.2.1 _ cx_13) (gEW_at CL.2.1 cs_1) hce hcv hcl ?_
      refine lv_astore_n (i := 3) (lv' := [(3, .ref q9), (0, .ref (ad 0 0)), (1, .int p1), (2, .ref (ad 81 0))]) hx hb dL_rests_12 rfl hl (Nat.le_of_ble_eq_true rfl) rfl (fun ls hl => ?_)
      refine lv_iconst (v := 1) hx hb dL_rests_13 (by decide) ?_
      refine W.widen (k := 1) (n := 6) (Nat.le_of_ble_eq_true rfl) (Nat.le_of_ble_eq_true rfl) ?_
      exact r_iret C hP hS dL_rests_14
    · have hf := g_in e0 hf
      cases hf

