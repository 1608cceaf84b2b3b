/-! the law's start -/
theorem nx_L_8 : gNw RL 8 9 15 [.null, .null, .int 0, .null, .null, .int 0, .null, .int 0, .null, .int 0, .null, .int 0, .null, .null, .null] := ⟨RX9, TX9, tyX9, rfl, kin_9, tyX9_ok, (gTB_in 98 (by decide +kernel) rfl), (gTB_in 99 (by decide +kernel) rfl), (gTB_in 77 (by decide +kernel) rfl), fun j hj => by rcases (show j = 0 ∨ j = 1 ∨ j = 2 ∨ j = 3 ∨ j = 4 ∨ j = 5 ∨ j = 6 ∨ j = 7 ∨ j = 8 ∨ j = 9 ∨ j = 10 ∨ j = 11 ∨ j = 12 ∨ j = 13 ∨ j = 14 by omega) with rfl | rfl | rfl | rfl | rfl | rfl | rfl | rfl | rfl | rfl | rfl | rfl | rfl | rfl | rfl <;> rfl⟩
theorem nx_L_103 : gNw RL 103 10 47 [.int 0, .null, .null, .null, .null, .null, .null, .null, .null, .null, .null, .null, .null, .null, .null, .int 0, .null, .int 0, .null, .null, .int 0, .null, .null, .int 0, .null, .null, .null, .null, .null, .int 0, .int 0, .null, .null, .null, .null, .null, .null, .null, .null, .null, .int 0, .null, .int 0, .null, .null, .null, .int 0] := ⟨RX10, TX10, tyX10, rfl, kin_10, tyX10_ok, (gTB_in 1018 (by decide +kernel) rfl), (gTB_in 1019 (by decide +kernel) rfl), (gTB_in 83 (by decide +kernel) rfl), fun j hj => by rcases (show j = 0 ∨ j = 1 ∨ j = 2 ∨ j = 3 ∨ j = 4 ∨ j = 5 ∨ j = 6 ∨ j = 7 ∨ j = 8 ∨ j = 9 ∨ j = 10 ∨ j = 11 ∨ j = 12 ∨ j = 13 ∨ j = 14 ∨ j = 15 ∨ j = 16 ∨ j = 17 ∨ j = 18 ∨ j = 19 ∨ j = 20 ∨ j = 21 ∨ j = 22 ∨ j = 23 ∨ j = 24 ∨ j = 25 ∨ j = 26 ∨ j = 27 ∨ j = 28 ∨ j = 29 ∨ j = 30 ∨ j = 31 ∨ j = 32 ∨ j = 33 ∨ j = 34 ∨ j = 35 ∨ j = 36 ∨ j = 37 ∨ j = 38 ∨ j = 39 ∨ j = 40 ∨ j = 41 ∨ j = 42 ∨ j = 43 ∨ j = 44 ∨ j = 45 ∨ j = 46 by omega) with rfl | rfl | rfl | rfl | rfl | rfl | rfl | rfl | rfl | rfl | rfl | rfl | rfl | rfl | rfl | rfl | rfl | rfl | rfl | rfl | rfl | rfl | rfl | rfl | rfl | rfl | rfl | rfl | rfl | rfl | rfl | rfl | rfl | rfl | rfl | rfl | rfl | rfl | rfl | rfl | rfl | rfl | rfl | rfl | rfl | rfl | rfl <;> rfl⟩
theorem ix_X9_init : gI yX9_init cX9_init 1 none 0 := ⟨(gTB_in 102 (by decide +kernel) rfl), (gTB_in 77 (by decide +kernel) rfl), by decide +kernel⟩
theorem im_X9_init : Cond.instanceMethod yX9_init ∈ gTB := (gTB_in 101 (by decide +kernel) rfl)
theorem lk_L_102 : gLk RL 102 yX9_init := Or.inl (gTB_in 100 (by decide +kernel) rfl)
theorem ix_X10_init : gI yX10_init cX10_init 2 none 0 := ⟨(gTB_in 1022 (by decide +kernel) rfl), (gTB_in 83 (by decide +kernel) rfl), by decide +kernel⟩
theorem im_X10_init : Cond.instanceMethod yX10_init ∈ gTB := (gTB_in 1021 (by decide +kernel) rfl)
theorem lk_L_105 : gLk RL 105 yX10_init := Or.inl (gTB_in 1020 (by decide +kernel) rfl)
theorem ac_long : Cond.arrayClass .long ∈ gTB := gTB_in 1358 (by decide +kernel) rfl
theorem gWf_of {NL : List (Nat × Nat)} (h : (NL.all fun n => (gsr n.1 n.2).all fun q => decide (q ∈ NL)) = true) : gWf NL := by
  intro K i q hm hq
  have h1 := List.all_eq_true.mp h (K, i) hm
  have h2 := List.all_eq_true.mp h1 q hq
  exact of_decide_eq_true h2
section GSTART
variable {p : Program} {l : Launch} {e : Env} {R : Room} {s : State} {m : MethodId} {args : Array Value} {below : List Frame} {meth : Method} {c : Code} {H : Heap} {locs : List Loc} {cells slots : Nat} {Q : State → Prop} {cc : ByteArray} {pc nL : Nat} {rt : Option FieldType} {own : String} {ls : Array Slot} {rest : List Value} {D : va_G} {cA : Nat → ClassId} {ad : Nat → Nat → Nat} {NL : List (Nat × Nat)} {A : Nat → Prop} {X : gM}
theorem r_newl {K i N t : Nat} {n : Int32} {atype : ArrayType} {ty : FieldType} {x : Nat → Int32} (C : gCx p c meth m s args cc nL rt own D cA ad NL A) (hP : gH D cA ad NL X H) (hS : va_S A s.heap H locs) (harr : Cond.arrayClass ty ∈ gTB) (hty : newarray.typeOf atype = ty) (ht : (gtys cA)[t]? = some (cA t, ty)) (hra : va_RA s (cA t) ty → s.vm.findClass ("[" ++ ty.toString) = some (cA t)) (hdf : defaultValue ty = .long 0) (hct : ct cA ad K i x = .inl (cA t, N, .inr (.inl (fun _ => 0)))) (ha : ad K i = s.heap.size + cells) (hlo : s.heap.size + cells ≤ H.size) (hn : ¬ n < 0) (hN : n.toNatClampNeg = N) (hbytes : N * componentBytes ty ≤ 536870912) (hrm : cells + 1 ≤ R.cells ∧ slots + N ≤ R.slots) (hdg : decode cc pc = .ok (.newarray atype, 2))
    (kk : gCx p c meth m s args cc nL rt own D cA ad (NL ++ [(K, i)]) A → ∀ H : Heap, gH D cA ad (NL ++ [(K, i)]) (msl X K i x) H → va_S A s.heap H locs → W p l e R s m args below meth c H locs (cells + 1) (slots + N) Q (F0 m (pc + 2) ls (.ref (ad K i) :: rest))) : W p l e R s m args below meth c H locs cells slots Q (F0 m pc ls (.int n :: rest)) := by
  refine W_size (fun hup => ?_)
  have C0 := C
  obtain ⟨hx, hb, hml, hown, hts, hr, hlk, hK, hN0, hD, hA⟩ := C
  subst hty
  have hsz : ad K i = H.size := by omega
  refine va_newaK hx hb (hts _ harr) rfl hdg rfl hn hN hbytes hrm.1 hrm.2 rfl fun H1 c1 e1 z1 o1 hAr hNm => ?_
  have hc1 : c1 = cA t := by
    have h2 := hra (hK.2 t _ ht).2
    rw [hNm] at h2
    exact Option.some.inj h2
  have hC' := gCx_app (new := [(K, i)]) C0 hP (Nat.le_refl H.size) hS.1 (g_new1 hsz)
  rw [← hsz]
  refine kk hC' H1 (gH_push hP o1 hsz ?_) ⟨Nat.le_trans hS.1 (by omega), fun x h1 h2 => (o1 x (Nat.lt_of_lt_of_le h1 hS.1)).trans (hS.2.1 x h1 h2), hS.2.2⟩
  rw [hct, hsz]
  show H1[H.size]? = some (vp_cell _ _)
  rw [vp_cell_l, e1, hdf, hc1]
end GSTART
abbrev gN9 : List (Nat × Nat) := [] ++ [(0, 0)] ++ nw_X9_init
abbrev gN10 : List (Nat × Nat) := gN9 ++ [(43, 0)] ++ nw_X10_init
/-- the names alive when the law's rounds begin -/
abbrev gNI : List (Nat × Nat) := gN10 ++ [(81, 0)]
/-- the memory when the law's rounds begin -/
def KI (N : Nat) : Option (Int32 × gM) := gl (msl (fun _ _ _ => 0) 82 0 rz_82) fun X1 => bind2 (X9_init (gal ([] ++ [(82, 0)])) N X1) fun _ X2 => (rk_0 0 (X2 82 0)).bind fun _ => gl (msl X2 0 0 (X2 82 0)) fun X3 => gl (msl X3 92 0 rz_92) fun X4 => bind2 (X10_init (gal (gN9 ++ [(92, 0)] ++ nw_X10_init)) N X4) fun _ X5 => (rk_43 0 (X5 92 0)).bind fun _ => gl (msl X5 43 0 (X5 92 0)) fun X6 => some ((0 : Int32), msl X6 81 0 (fun _ => 0))
set_option maxRecDepth 100000 in
theorem gN9_wf : gWf (gN9 ++ [(92, 0)] ++ nw_X10_init) := gWf_of (by decide +kernel)
set_option maxRecDepth 100000 in
set_option maxHeartbeats 4000000 in
theorem s_start {p : Program} {l : Launch} {e : Env} {s : State} {m : MethodId} {args : Array Value} {below : List Frame} {meth : Method} {c : Code} {Q : State → Prop} {rt : Option FieldType} {ls : Array Slot} {D : va_G} {cA : Nat → ClassId} {ad : Nat → Nat → Nat} {A : Nat → Prop} {N b sz : Nat} {X : gM} {rr : Int32} (C : gCx p c meth m s args cL_law 7 rt RL D cA ad [] A) (hWd : gWd A s) (hal : gAl ad) (hsz : s.heap.size = sz) (hA : gAdr ad sz gNI) (hl : lv_has ls 7 [(0, .ref b)]) (hf : KI N = some (rr, X))
    (kk : gCx p c meth m s args cL_law 7 rt RL D cA ad gNI A → ∀ (H : Heap) (locs : List Loc) (ls : Array Slot), gH D cA ad gNI X H → va_S A s.heap H locs → lv_has ls 7 [(4, .int (nI 0)), (0, .ref b), (1, .ref (ad 0 0)), (2, .ref (ad 43 0)), (3, .ref (ad 81 0))] → W p l e room_1 s m args below meth c H locs 123 29160 Q (F0 m 23 ls [])) : W p l e room_1 s m args below meth c s.heap [] 0 0 Q (F0 m 0 ls []) := by
  have hx := C.1
  have hb := C.2.1
  have hAW := hWd.2.2.1
  have hP : gH D cA ad [] (fun _ _ _ => 0) s.heap := fun k q hq => by simp [gw] at hq
  have hS : va_S A s.heap s.heap [] := va_S.rf
  simp only [gNI, gN10, gN9, gAdr_app, gAdr, List.length_append, List.length_cons, List.length_nil, nwl_X9_init, nwl_X10_init, and_true, true_and] at hA
  obtain ⟨⟨⟨⟨h0, h9⟩, h43⟩, h10⟩, h81⟩ := hA
  subst hsz
  have hl9 : ad 42 0 = s.heap.size + 1 + 82 := gAdr_at h9 82 (42, 0) (by decide +kernel)
  have h10b := h10
  have hl10 : ad 80 0 = _ := gAdr_at h10b 36 (80, 0) (by decide +kernel)
  rw [KI] at hf
  have a0 := al_0 hal 0
  have a43 := al_43 hal 0
  refine r_new (K := 82) (i := 0) (x := rz_82) C hP hS nx_L_8 (rzc_82 _ _ _) (by rw [a0, h0]) (Nat.le_refl _) ⟨Nat.le_of_ble_eq_true rfl, Nat.le_of_ble_eq_true rfl⟩ dL_law_0 (fun C H hP hS => ?_)
  obtain ⟨X1, e2, hf⟩ := gl_in hf
  rw [← e2] at hP
  refine lv_dup hx hb dL_law_3 rfl ?_
  obtain ⟨r4, X2, h6, hf⟩ := b2_in hf
  have g9 : gAdr ad (s.heap.size + (0 + 1)) nw_X9_init := h9
  refine r_ini (rest := [.ref (ad 82 0)]) (new := nw_X9_init) (mc := 83) (ms := 2250) C hAW hP hS hl.1 (s_X9_init (gD_in C.2.2.2.2.2.2.2.2.2.1 (fun _ _ => trivial)) hal (by simp) g9 h6) (gAdr_at g9) (g_lo hP (K := 82) (i := 0) (by simp) (by rw [a0, h0])) ix_X9_init im_X9_init rfl lk_L_102 ⟨rfl, rfl, Nat.le_of_ble_eq_true rfl, Nat.le_of_ble_eq_true rfl⟩ rfl rfl (Nat.le_of_ble_eq_true rfl) ⟨Nat.le_of_ble_eq_true rfl, Nat.le_of_ble_eq_true rfl⟩ dL_law_4 (fun C H locs hP hS => ?_)
  obtain ⟨k9, hf⟩ := rkl_0 (cA := cA) (ad := ad) hf
  obtain ⟨X3, e8, hf⟩ := gl_in hf
  have hP := gH_rek (K := 0) C.2.2.2.2.2.2.2.2.2.1 hP (by decide) (al_0 hal _) k9
  rw [← e8] at hP
  have C := gCx_rek (K := 0) C (al_0 hal _)
  rw [al_0 hal]
  refine lv_astore_n (i := 1) (lv' := [(1, .ref (ad 0 0)), (0, .ref b)]) hx hb dL_law_7 rfl hl (Nat.le_of_ble_eq_true rfl) rfl (fun ls hl => ?_)
  refine r_new (K := 92) (i := 0) (x := rz_92) C hP hS nx_L_103 (rzc_92 _ _ _) (by rw [a43, h43]) (g_lo hP (K := 42) (i := 0) (by simp [nw_X9_init]) (by rw [hl9])) ⟨Nat.le_of_ble_eq_true rfl, Nat.le_of_ble_eq_true rfl⟩ dL_law_8 (fun C H hP hS => ?_)
  obtain ⟨X4, e9, hf⟩ := gl_in hf
  rw [← e9] at hP
  refine lv_dup hx hb dL_law_11 rfl ?_
  obtain ⟨r5, X5, h11, hf⟩ := b2_in hf
  have g10 : gAdr ad (s.heap.size + (0 + 1 + 83 + 1)) nw_X10_init := h10
  refine r_ini (rest := [.ref (ad 92 0)]) (new := nw_X10_init) (mc := 37) (ms := 26847) C hAW hP hS hl.1 (s_X10_init (al := fun _ _ => true) (gD_in C.2.2.2.2.2.2.2.2.2.1 (fun _ _ => trivial)) hal (by simp) gN9_wf g10 h11) (gAdr_at g10) (g_lo hP (K := 92) (i := 0) (by simp) (by rw [a43, h43])) ix_X10_init im_X10_init rfl lk_L_105 ⟨rfl, rfl, Nat.le_of_ble_eq_true rfl, Nat.le_of_ble_eq_true rfl⟩ rfl rfl (Nat.le_of_ble_eq_true rfl) ⟨Nat.le_of_ble_eq_true rfl, Nat.le_of_ble_eq_true rfl⟩ dL_law_12 (fun C H locs hP hS => ?_)
  obtain ⟨k10, hf⟩ := rkl_43 (cA := cA) (ad := ad) hf
  obtain ⟨X6, e10, hf⟩ := gl_in hf
  have hP := gH_rek (K := 43) C.2.2.2.2.2.2.2.2.2.1 hP (by decide) (al_43 hal _) k10
  rw [← e10] at hP
  have C := gCx_rek (K := 43) C (al_43 hal _)
  rw [al_43 hal]
  refine lv_astore_n (i := 2) (lv' := [(2, .ref (ad 43 0)), (1, .ref (ad 0 0)), (0, .ref b)]) hx hb dL_law_15 rfl hl (Nat.le_of_ble_eq_true rfl) rfl (fun ls hl => ?_)
  refine lv_iconst (v := 1) hx hb dL_law_16 (by decide) ?_
  refine r_newl (K := 81) (i := 0) (t := 8) (N := 1) (x := fun _ => 0) C hP hS ac_long rfl rfl (fun h => h) rfl rfl (by rw [h81]) (g_lo hP (K := 80) (i := 0) (by simp [nw_X10_init]) (by rw [hl10])) (by decide) (by decide) (by decide) ⟨Nat.le_of_ble_eq_true rfl, Nat.le_of_ble_eq_true rfl⟩ dL_law_17 (fun C H hP hS => ?_)
  obtain ⟨-, rfl⟩ := g_s1 hf
  refine lv_astore_n (i := 3) (lv' := [(3, .ref (ad 81 0)), (2, .ref (ad 43 0)), (1, .ref (ad 0 0)), (0, .ref b)]) hx hb dL_law_19 rfl hl (Nat.le_of_ble_eq_true rfl) rfl (fun ls hl => ?_)
  refine lv_iconst (v := nI 0) hx hb dL_law_20 (by decide) ?_
  refine lv_istore (lv' := [(4, .int (nI 0)), (3, .ref (ad 81 0)), (2, .ref (ad 43 0)), (1, .ref (ad 0 0)), (0, .ref b)]) hx hb dL_law_21 hl (Nat.le_of_ble_eq_true rfl) rfl (fun ls hl => ?_)
  exact kk C H locs ls hP hS (lv_sub hl [0, 4, 3, 2, 1] rfl)
