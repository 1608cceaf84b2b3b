/-! the law's loop -/
def KS (al al' : Nat → Nat → Bool) (N : Nat) (nw : List (Nat × Nat)) (a0 a1 a2 a3 a4 a5 a6 : Int32) (X : gM) : Option (Int32 × gM) := if a0 &&& (31 : Int32) = (0 : Int32) then K0 al al' N nw a1 a2 a3 a4 a5 a6 X else if a0 &&& (31 : Int32) = (1 : Int32) then K1 al al' N nw a1 a2 a3 a4 a5 a6 X else if a0 &&& (31 : Int32) = (2 : Int32) then K2 al al' N nw a1 a2 a3 a4 a5 a6 X else if a0 &&& (31 : Int32) = (3 : Int32) then K3 al al' N nw a1 a2 a3 a4 a5 a6 X else if a0 &&& (31 : Int32) = (4 : Int32) then K4 al al' N nw a1 a2 a3 a4 a5 a6 X else if a0 &&& (31 : Int32) = (5 : Int32) then K5 al al' N nw a1 a2 a3 a4 a5 a6 X else if a0 &&& (31 : Int32) = (6 : Int32) then K6 al al' N nw a1 a2 a3 a4 a5 a6 X else if a0 &&& (31 : Int32) = (7 : Int32) then K7 al al' N nw a1 a2 a3 a4 a5 a6 X else if a0 &&& (31 : Int32) = (8 : Int32) then K8 al al' N nw a1 a2 a3 a4 a5 a6 X else if a0 &&& (31 : Int32) = (9 : Int32) then K9 al al' N nw a1 a2 a3 a4 a5 a6 X else if a0 &&& (31 : Int32) = (10 : Int32) then K10 al al' N nw a1 a2 a3 a4 a5 a6 X else if a0 &&& (31 : Int32) = (11 : Int32) then K11 al al' N nw a1 a2 a3 a4 a5 a6 X else if a0 &&& (31 : Int32) = (12 : Int32) then K12 al al' N nw a1 a2 a3 a4 a5 a6 X else if a0 &&& (31 : Int32) = (13 : Int32) then K13 al al' N nw a1 a2 a3 a4 a5 a6 X else if a0 &&& (31 : Int32) = (14 : Int32) then K14 al al' N nw a1 a2 a3 a4 a5 a6 X else if a0 &&& (31 : Int32) = (15 : Int32) then K15 al al' N nw a1 a2 a3 a4 a5 a6 X else if a0 &&& (31 : Int32) = (16 : Int32) then K16 al al' N nw a1 a2 a3 a4 a5 a6 X else if a0 &&& (31 : Int32) = (17 : Int32) then K17 al al' N nw a1 a2 a3 a4 a5 a6 X else if a0 &&& (31 : Int32) = (18 : Int32) then K18 al al' N nw a1 a2 a3 a4 a5 a6 X else if a0 &&& (31 : Int32) = (19 : Int32) then K19 al al' N nw a1 a2 a3 a4 a5 a6 X else if a0 &&& (31 : Int32) = (20 : Int32) then K20 al al' N nw a1 a2 a3 a4 a5 a6 X else if a0 &&& (31 : Int32) = (21 : Int32) then K21 al al' N nw a1 a2 a3 a4 a5 a6 X else if a0 &&& (31 : Int32) = (22 : Int32) then K22 al al' N nw a1 a2 a3 a4 a5 a6 X else if a0 &&& (31 : Int32) = (23 : Int32) then K23 al al' N nw a1 a2 a3 a4 a5 a6 X else if a0 &&& (31 : Int32) = (24 : Int32) then K24 al al' N nw a1 a2 a3 a4 a5 a6 X else if a0 &&& (31 : Int32) = (25 : Int32) then K25 al al' N nw a1 a2 a3 a4 a5 a6 X else (eqn nw []).bind fun _ => some ((0 : Int32), X)
set_option maxRecDepth 100000 in
set_option maxHeartbeats 4000000 in
theorem s_KS {p : Program} {l : Launch} {e : Env} {s : State} {m : MethodId} {args : Array Value} {below : List Frame} {meth : Method} {c : Code} {H : Heap} {locs : List Loc} {cells slots : Nat} {Q : State → Prop} {rt : Option FieldType} {ls : Array Slot} {D : va_G} {cA : Nat → ClassId} {ad : Nat → Nat → Nat} {NL nw : List (Nat × Nat)} {A : Nat → Prop} {X X' : gM} {N b L iN : Nat} {xs : Nat → Int32} {rr : Int32} (C : gCx p c meth m s args cL_law 7 rt RL D cA ad NL A) (hWd : gWd A s) (htr : l.stackTraces = false) (hW : gWf NL) (hW2 : gWf (NL ++ nw)) (ha0 : (0, 0) ∈ NL) (ha43 : (43, 0) ∈ NL) (ha81 : (81, 0) ∈ NL) (hX : va_X b L xs s s.heap) (hbl : b < s.heap.size) (hbA : ¬ A b) (hL : L ≤ 3584) (hi : iN + 7 ≤ L) (hal : gAl ad) (hadr : gAdr ad H.size nw) (hP : gH D cA ad NL X H) (hS : va_S A s.heap H locs) (hl : lv_has ls 7 [(4, .int (nI iN)), (0, .ref b), (1, .ref (ad 0 0)), (2, .ref (ad 43 0)), (3, .ref (ad 81 0))]) (hrc : cells + 130 ≤ room_1.cells ∧ slots + 877 ≤ room_1.slots)
    (hf : KS (gal NL) (gal (NL ++ nw)) N nw (xs (iN + 0)) (xs (iN + 1)) (xs (iN + 2)) (xs (iN + 3)) (xs (iN + 4)) (xs (iN + 5)) (xs (iN + 6)) X = some (rr, X'))
    (kk : gCx p c meth m s args cL_law 7 rt RL D cA ad (NL ++ nw) A → ∀ (H : Heap) (locs : List Loc) (ls : Array Slot), gH D cA ad (NL ++ nw) X' H → va_S A s.heap H locs → lv_has ls 7 [(4, .int (nI iN)), (0, .ref b), (1, .ref (ad 0 0)), (2, .ref (ad 43 0)), (3, .ref (ad 81 0))] → W p l e room_1 s m args below meth c H locs (cells + 130) (slots + 877) Q (F0 m 2186 ls [])) : W p l e room_1 s m args below meth c H locs cells slots Q (F0 m 33 ls []) := by
  have hx := C.1
  have hb := C.2.1
  have hrc0 : cells + 1 ≤ room_1.cells ∧ slots + 1 ≤ room_1.slots := ⟨Nat.le_trans (Nat.add_le_add_left (Nat.le_of_ble_eq_true rfl) _) hrc.1, Nat.le_trans (Nat.add_le_add_left (Nat.le_of_ble_eq_true rfl) _) hrc.2⟩
  rw [KS] at hf
  refine lv_aload_n hx hb dL_law_33 rfl (lv_at hl 1 rfl) ?_
  refine lv_iload hx hb dL_law_34 (lv_at hl 0 rfl) ?_
  refine r_scrv (j := 0) hx hb hX hbl hbA hS hL (by omega) dL_law_36 ?_
  refine lv_bipush (v := 31) hx hb dL_law_37 (by decide) ?_
  refine lv_iand hx hb dL_law_39 ?_
  generalize xs (iN + 0) &&& (31 : Int32) = z at hf ⊢
  by_cases e0 : z = (0 : Int32)
  · have hf := g_ip e0 hf
    subst e0
    refine lv_tableIn (tgt := 160) (off := 120) hx hb dL_law_40 (by decide) (by decide) (by decide +kernel) (by decide) ?_
    exact s_K0 C hWd htr hW hW2 ha0 ha43 ha81 hX hbl hbA hL hi hal hadr hP hS hl hrc hf kk
  replace hf := g_in e0 hf
  by_cases e1 : z = (1 : Int32)
  · have hf := g_ip e1 hf
    subst e1
    refine lv_tableIn (tgt := 264) (off := 224) hx hb dL_law_40 (by decide) (by decide) (by decide +kernel) (by decide) ?_
    exact s_K1 C hWd htr hW hW2 ha0 ha43 ha81 hX hbl hbA hL hi hal hadr hP hS hl hrc hf kk
  replace hf := g_in e1 hf
  by_cases e2 : z = (2 : Int32)
  · have hf := g_ip e2 hf
    subst e2
    refine lv_tableIn (tgt := 332) (off := 292) hx hb dL_law_40 (by decide) (by decide) (by decide +kernel) (by decide) ?_
    exact s_K2 C hWd htr hW hW2 ha0 ha43 ha81 hX hbl hbA hL hi hal hadr hP hS hl hrc hf kk
  replace hf := g_in e2 hf
  by_cases e3 : z = (3 : Int32)
  · have hf := g_ip e3 hf
    subst e3
    refine lv_tableIn (tgt := 392) (off := 352) hx hb dL_law_40 (by decide) (by decide) (by decide +kernel) (by decide) ?_
    exact s_K3 C hWd htr hW hW2 ha0 ha43 ha81 hX hbl hbA hL hi hal hadr hP hS hl hrc hf kk
  replace hf := g_in e3 hf
  by_cases e4 : z = (4 : Int32)
  · have hf := g_ip e4 hf
    subst e4
    refine lv_tableIn (tgt := 496) (off := 456) hx hb dL_law_40 (by decide) (by decide) (by decide +kernel) (by decide) ?_
    exact s_K4 C hWd htr hW hW2 ha0 ha43 ha81 hX hbl hbA hL hi hal hadr hP hS hl hrc hf kk
  replace hf := g_in e4 hf
  by_cases e5 : z = (5 : Int32)
  · have hf := g_ip e5 hf
    subst e5
    refine lv_tableIn (tgt := 604) (off := 564) hx hb dL_law_40 (by decide) (by decide) (by decide +kernel) (by decide) ?_
    exact s_K5 C hWd htr hW hW2 ha0 ha43 ha81 hX hbl hbA hL hi hal hadr hP hS hl hrc hf kk
  replace hf := g_in e5 hf
  by_cases e6 : z = (6 : Int32)
  · have hf := g_ip e6 hf
    subst e6
    refine lv_tableIn (tgt := 722) (off := 682) hx hb dL_law_40 (by decide) (by decide) (by decide +kernel) (by decide) ?_
    exact s_K6 C hWd htr hW hW2 ha0 ha43 ha81 hX hbl hbA hL hi hal hadr hP hS hl hrc hf kk
  replace hf := g_in e6 hf
  by_cases e7 : z = (7 : Int32)
  · have hf := g_ip e7 hf
    subst e7
    refine lv_tableIn (tgt := 778) (off := 738) hx hb dL_law_40 (by decide) (by decide) (by decide +kernel) (by decide) ?_
    exact s_K7 C hWd htr hW hW2 ha0 ha43 ha81 hX hbl hbA hL hi hal hadr hP hS hl hrc hf kk
  replace hf := g_in e7 hf
  by_cases e8 : z = (8 : Int32)
  · have hf := g_ip e8 hf
    subst e8
    refine lv_tableIn (tgt := 822) (off := 782) hx hb dL_law_40 (by decide) (by decide) (by decide +kernel) (by decide) ?_
    exact s_K8 C hWd htr hW hW2 ha0 ha43 ha81 hX hbl hbA hL hi hal hadr hP hS hl hrc hf kk
  replace hf := g_in e8 hf
  by_cases e9 : z = (9 : Int32)
  · have hf := g_ip e9 hf
    subst e9
    refine lv_tableIn (tgt := 866) (off := 826) hx hb dL_law_40 (by decide) (by decide) (by decide +kernel) (by decide) ?_
    exact s_K9 C hWd htr hW hW2 ha0 ha43 ha81 hX hbl hbA hL hi hal hadr hP hS hl hrc hf kk
  replace hf := g_in e9 hf
  by_cases e10 : z = (10 : Int32)
  · have hf := g_ip e10 hf
    subst e10
    refine lv_tableIn (tgt := 946) (off := 906) hx hb dL_law_40 (by decide) (by decide) (by decide +kernel) (by decide) ?_
    exact s_K10 C hWd htr hW hW2 ha0 ha43 ha81 hX hbl hbA hL hi hal hadr hP hS hl hrc hf kk
  replace hf := g_in e10 hf
  by_cases e11 : z = (11 : Int32)
  · have hf := g_ip e11 hf
    subst e11
    refine lv_tableIn (tgt := 1026) (off := 986) hx hb dL_law_40 (by decide) (by decide) (by decide +kernel) (by decide) ?_
    exact s_K11 C hWd htr hW hW2 ha0 ha43 ha81 hX hbl hbA hL hi hal hadr hP hS hl hrc hf kk
  replace hf := g_in e11 hf
  by_cases e12 : z = (12 : Int32)
  · have hf := g_ip e12 hf
    subst e12
    refine lv_tableIn (tgt := 1118) (off := 1078) hx hb dL_law_40 (by decide) (by decide) (by decide +kernel) (by decide) ?_
    exact s_K12 C hWd htr hW hW2 ha0 ha43 ha81 hX hbl hbA hL hi hal hadr hP hS hl hrc hf kk
  replace hf := g_in e12 hf
  by_cases e13 : z = (13 : Int32)
  · have hf := g_ip e13 hf
    subst e13
    refine lv_tableIn (tgt := 1226) (off := 1186) hx hb dL_law_40 (by decide) (by decide) (by decide +kernel) (by decide) ?_
    exact s_K13 C hWd htr hW hW2 ha0 ha43 ha81 hX hbl hbA hL hi hal hadr hP hS hl hrc hf kk
  replace hf := g_in e13 hf
  by_cases e14 : z = (14 : Int32)
  · have hf := g_ip e14 hf
    subst e14
    refine lv_tableIn (tgt := 1317) (off := 1277) hx hb dL_law_40 (by decide) (by decide) (by decide +kernel) (by decide) ?_
    exact s_K14 C hWd htr hW hW2 ha0 ha43 ha81 hX hbl hbA hL hi hal hadr hP hS hl hrc hf kk
  replace hf := g_in e14 hf
  by_cases e15 : z = (15 : Int32)
  · have hf := g_ip e15 hf
    subst e15
    refine lv_tableIn (tgt := 1401) (off := 1361) hx hb dL_law_40 (by decide) (by decide) (by decide +kernel) (by decide) ?_
    exact s_K15 C hWd htr hW hW2 ha0 ha43 ha81 hX hbl hbA hL hi hal hadr hP hS hl hrc hf kk
  replace hf := g_in e15 hf
  by_cases e16 : z = (16 : Int32)
  · have hf := g_ip e16 hf
    subst e16
    refine lv_tableIn (tgt := 1485) (off := 1445) hx hb dL_law_40 (by decide) (by decide) (by decide +kernel) (by decide) ?_
    exact s_K16 C hWd htr hW hW2 ha0 ha43 ha81 hX hbl hbA hL hi hal hadr hP hS hl hrc hf kk
  replace hf := g_in e16 hf
  by_cases e17 : z = (17 : Int32)
  · have hf := g_ip e17 hf
    subst e17
    refine lv_tableIn (tgt := 1553) (off := 1513) hx hb dL_law_40 (by decide) (by decide) (by decide +kernel) (by decide) ?_
    exact s_K17 C hWd htr hW hW2 ha0 ha43 ha81 hX hbl hbA hL hi hal hadr hP hS hl hrc hf kk
  replace hf := g_in e17 hf
  by_cases e18 : z = (18 : Int32)
  · have hf := g_ip e18 hf
    subst e18
    refine lv_tableIn (tgt := 1657) (off := 1617) hx hb dL_law_40 (by decide) (by decide) (by decide +kernel) (by decide) ?_
    exact s_K18 C hWd htr hW hW2 ha0 ha43 ha81 hX hbl hbA hL hi hal hadr hP hS hl hrc hf kk
  replace hf := g_in e18 hf
  by_cases e19 : z = (19 : Int32)
  · have hf := g_ip e19 hf
    subst e19
    refine lv_tableIn (tgt := 1713) (off := 1673) hx hb dL_law_40 (by decide) (by decide) (by decide +kernel) (by decide) ?_
    exact s_K19 C hWd htr hW hW2 ha0 ha43 ha81 hX hbl hbA hL hi hal hadr hP hS hl hrc hf kk
  replace hf := g_in e19 hf
  by_cases e20 : z = (20 : Int32)
  · have hf := g_ip e20 hf
    subst e20
    refine lv_tableIn (tgt := 1781) (off := 1741) hx hb dL_law_40 (by decide) (by decide) (by decide +kernel) (by decide) ?_
    exact s_K20 C hWd htr hW hW2 ha0 ha43 ha81 hX hbl hbA hL hi hal hadr hP hS hl hrc hf kk
  replace hf := g_in e20 hf
  by_cases e21 : z = (21 : Int32)
  · have hf := g_ip e21 hf
    subst e21
    refine lv_tableIn (tgt := 1837) (off := 1797) hx hb dL_law_40 (by decide) (by decide) (by decide +kernel) (by decide) ?_
    exact s_K21 C hWd htr hW hW2 ha0 ha43 ha81 hX hbl hbA hL hi hal hadr hP hS hl hrc hf kk
  replace hf := g_in e21 hf
  by_cases e22 : z = (22 : Int32)
  · have hf := g_ip e22 hf
    subst e22
    refine lv_tableIn (tgt := 1957) (off := 1917) hx hb dL_law_40 (by decide) (by decide) (by decide +kernel) (by decide) ?_
    exact s_K22 C hWd htr hW hW2 ha0 ha43 ha81 hX hbl hbA hL hi hal hadr hP hS hl hrc hf kk
  replace hf := g_in e22 hf
  by_cases e23 : z = (23 : Int32)
  · have hf := g_ip e23 hf
    subst e23
    refine lv_tableIn (tgt := 2025) (off := 1985) hx hb dL_law_40 (by decide) (by decide) (by decide +kernel) (by decide) ?_
    exact s_K23 C hWd htr hW hW2 ha0 ha43 ha81 hX hbl hbA hL hi hal hadr hP hS hl hrc hf kk
  replace hf := g_in e23 hf
  by_cases e24 : z = (24 : Int32)
  · have hf := g_ip e24 hf
    subst e24
    refine lv_tableIn (tgt := 2117) (off := 2077) hx hb dL_law_40 (by decide) (by decide) (by decide +kernel) (by decide) ?_
    exact s_K24 C hWd htr hW hW2 ha0 ha43 ha81 hX hbl hbA hL hi hal hadr hP hS hl hrc hf kk
  replace hf := g_in e24 hf
  by_cases e25 : z = (25 : Int32)
  · have hf := g_ip e25 hf
    subst e25
    refine lv_tableIn (tgt := 2173) (off := 2133) hx hb dL_law_40 (by decide) (by decide) (by decide +kernel) (by decide) ?_
    exact s_K25 C hWd htr hW hW2 ha0 ha43 ha81 hX hbl hbA hL hi hal hadr hP hS hl hrc hf kk
  replace hf := g_in e25 hf
  replace hf := eqn_in hf
  obtain ⟨hnw, hf⟩ := hf
  subst hnw
  obtain ⟨-, rfl⟩ := g_s1 hf
  refine lv_tableOut (tgt := 2186) hx hb dL_law_40 ?_ (by decide) ?_
  · by_cases h : z.toInt < 0 ∨ 25 < z.toInt
    · exact h
    · exfalso
      have h2 : z.toInt = 0 ∨ z.toInt = 1 ∨ z.toInt = 2 ∨ z.toInt = 3 ∨ z.toInt = 4 ∨ z.toInt = 5 ∨ z.toInt = 6 ∨ z.toInt = 7 ∨ z.toInt = 8 ∨ z.toInt = 9 ∨ z.toInt = 10 ∨ z.toInt = 11 ∨ z.toInt = 12 ∨ z.toInt = 13 ∨ z.toInt = 14 ∨ z.toInt = 15 ∨ z.toInt = 16 ∨ z.toInt = 17 ∨ z.toInt = 18 ∨ z.toInt = 19 ∨ z.toInt = 20 ∨ z.toInt = 21 ∨ z.toInt = 22 ∨ z.toInt = 23 ∨ z.toInt = 24 ∨ z.toInt = 25 := by omega
      rcases h2 with h | h | h | h | h | h | h | h | h | h | h | h | h | h | h | h | h | h | h | h | h | h | h | h | h | h
      · exact e0 (g_int (h.trans (by decide)))
      · exact e1 (g_int (h.trans (by decide)))
      · exact e2 (g_int (h.trans (by decide)))
      · exact e3 (g_int (h.trans (by decide)))
      · exact e4 (g_int (h.trans (by decide)))
      · exact e5 (g_int (h.trans (by decide)))
      · exact e6 (g_int (h.trans (by decide)))
      · exact e7 (g_int (h.trans (by decide)))
      · exact e8 (g_int (h.trans (by decide)))
      · exact e9 (g_int (h.trans (by decide)))
      · exact e10 (g_int (h.trans (by decide)))
      · exact e11 (g_int (h.trans (by decide)))
      · exact e12 (g_int (h.trans (by decide)))
      · exact e13 (g_int (h.trans (by decide)))
      · exact e14 (g_int (h.trans (by decide)))
      · exact e15 (g_int (h.trans (by decide)))
      · exact e16 (g_int (h.trans (by decide)))
      · exact e17 (g_int (h.trans (by decide)))
      · exact e18 (g_int (h.trans (by decide)))
      · exact e19 (g_int (h.trans (by decide)))
      · exact e20 (g_int (h.trans (by decide)))
      · exact e21 (g_int (h.trans (by decide)))
      · exact e22 (g_int (h.trans (by decide)))
      · exact e23 (g_int (h.trans (by decide)))
      · exact e24 (g_int (h.trans (by decide)))
      · exact e25 (g_int (h.trans (by decide)))
  · have hnw := List.append_nil NL
    refine W.widen (k := cells + 130) (n := slots + 877) (Nat.le_add_right _ _) (Nat.le_add_right _ _) ?_
    rw [hnw] at kk
    exact kk C H locs ls hP hS hl
/-- a world of names that the law's rounds keep -/
def gJw (J : List (Nat × Nat) → gM → Prop) : Prop := ∀ NL X, J NL X → gWf NL ∧ gDy NL X ∧ (0, 0) ∈ NL ∧ (43, 0) ∈ NL ∧ (81, 0) ∈ NL
/-- each round of the law, whatever its seven ints, comes to its end and keeps the world -/
def gStep (J : List (Nat × Nat) → gM → Prop) (N : Nat) : Prop := ∀ NL X, J NL X → ∀ a0 a1 a2 a3 a4 a5 a6 : Int32, ∃ (nw : List (Nat × Nat)) (rr : Int32) (X' : gM), gFr NL nw ∧ KS (gal NL) (gal (NL ++ nw)) N nw a0 a1 a2 a3 a4 a5 a6 X = some (rr, X') ∧ J (NL ++ nw) X'
theorem g_head {L iN : Nat} (hL : L ≤ 3584) (hi : iN ≤ 3591) : Int32.ofNat L - 7 < nI iN ↔ L < iN + 7 := by
  have e1 : (Int32.ofNat L - 7).toInt = (L : Int) - 7 := by
    have : Int32.ofNat L - 7 = Int32.ofInt ((L : Int) - 7) := by
      rw [Int32.ofInt_sub]
      rfl
    rw [this, Int32.toInt_ofInt_of_le (by omega) (by omega)]
  have e2 : (nI iN).toInt = (iN : Int) := by
    unfold nI
    exact Int32.toInt_ofNat_of_lt (by omega)
  rw [Int32.lt_iff_toInt_lt, e1, e2]
  omega
set_option maxRecDepth 100000 in
set_option maxHeartbeats 4000000 in
theorem s_loop {p : Program} {l : Launch} {e : Env} {s : State} {m : MethodId} {args : Array Value} {below : List Frame} {meth : Method} {c : Code} {Q : State → Prop} {rt : Option FieldType} {D : va_G} {cA : Nat → ClassId} {A : Nat → Prop} {N b L : Nat} {xs : Nat → Int32} {J : List (Nat × Nat) → gM → Prop} (hJ : gJw J) (hSt : gStep J N) (hWd : gWd A s) (htr : l.stackTraces = false) (hX : va_X b L xs s s.heap) (hbl : b < s.heap.size) (hbA : ¬ A b) (hL : L ≤ 3584)
    (hend : ∀ (H : Heap) (locs : List Loc) (ls : Array Slot) (cells slots : Nat), cells ≤ room_1.cells → slots ≤ room_1.slots → va_S A s.heap H locs → W p l e room_1 s m args below meth c H locs cells slots Q (F0 m 2193 ls [.int 1])) :
    ∀ (q iN : Nat) (NL : List (Nat × Nat)) (X : gM) (ad : Nat → Nat → Nat) (H : Heap) (locs : List Loc) (ls : Array Slot) (cells slots : Nat), L < iN + 7 * q + 7 → iN ≤ 3591 → cells + 130 * q ≤ room_1.cells → slots + 877 * q ≤ room_1.slots → J NL X → gCx p c meth m s args cL_law 7 rt RL D cA ad NL A → gH D cA ad NL X H → va_S A s.heap H locs → lv_has ls 7 [(4, .int (nI iN)), (0, .ref b), (1, .ref (ad 0 0)), (2, .ref (ad 43 0)), (3, .ref (ad 81 0))] → W p l e room_1 s m args below meth c H locs cells slots Q (F0 m 23 ls []) := by
  intro q
  induction q with
  | zero =>
    intro iN NL X ad H locs ls cells slots hq hi3 hc1 hc2 hj C hP hS hl
    have hx := C.1
    have hb := C.2.1
    refine lv_iload hx hb dL_law_23 (lv_at hl 0 rfl) ?_
    refine lv_aload_n hx hb dL_law_25 rfl (lv_at hl 1 rfl) ?_
    refine va_slen hx hb hX hbl hbA hS dL_law_26 ?_
    refine lv_bipush (v := 7) hx hb dL_law_27 (by decide) ?_
    refine lv_isub hx hb dL_law_29 ?_
    refine lv_icmp_gt (tgt := 2192) hx hb dL_law_30 (by decide) (fun c1 => ?_) (fun c1 => ?_)
    · refine lv_iconst (v := 1) hx hb dL_law_2192 (by decide) ?_
      exact hend H locs ls cells slots (by omega) (by omega) hS
    · exact absurd ((g_head hL hi3).mpr (by omega)) c1
  | succ q ih =>
    intro iN NL X ad H locs ls cells slots hq hi3 hc1 hc2 hj C hP hS hl
    have hx := C.1
    have hb := C.2.1
    refine lv_iload hx hb dL_law_23 (lv_at hl 0 rfl) ?_
    refine lv_aload_n hx hb dL_law_25 rfl (lv_at hl 1 rfl) ?_
    refine va_slen hx hb hX hbl hbA hS dL_law_26 ?_
    refine lv_bipush (v := 7) hx hb dL_law_27 (by decide) ?_
    refine lv_isub hx hb dL_law_29 ?_
    refine lv_icmp_gt (tgt := 2192) hx hb dL_law_30 (by decide) (fun c1 => ?_) (fun c1 => ?_)
    · refine lv_iconst (v := 1) hx hb dL_law_2192 (by decide) ?_
      exact hend H locs ls cells slots (by omega) (by omega) hS
    · have hi : iN + 7 ≤ L := by
        have h := mt (g_head hL hi3).mpr c1
        omega
      obtain ⟨hW, hdy, ha0, ha43, ha81⟩ := hJ NL X hj
      obtain ⟨nw, rr, X', hfr, hf, hj2⟩ := hSt NL X hj (xs (iN + 0)) (xs (iN + 1)) (xs (iN + 2)) (xs (iN + 3)) (xs (iN + 4)) (xs (iN + 5)) (xs (iN + 6))
      obtain ⟨hW2, -, -, -, -⟩ := hJ _ _ hj2
      have hag : ∀ n ∈ NL, ad n.1 n.2 = gOv ad H.size nw n.1 n.2 := fun n hn => (gOv_out (hdy n.1 n.2 hn).1 (fun q => (hfr.2 _ q).1 hn)).symm
      have h38 : ∀ j, ad 38 j = gOv ad H.size nw 38 j := fun j => (gOv_out (by decide) (fun q => (hfr.2 _ q).2.2 rfl)).symm
      have hal : gAl (gOv ad H.size nw) := gOv_al _ _ _
      have hadr : gAdr (gOv ad H.size nw) H.size nw := gOv_nw hfr
      have hP' : gH D cA (gOv ad H.size nw) NL X H := by
        unfold gH
        rw [gw_cg hW hag h38 hdy]
        exact hP
      have C' : gCx p c meth m s args cL_law 7 rt RL D cA (gOv ad H.size nw) NL A := by
        obtain ⟨h1, h2, h3, h4, h5, h6, h7, h8, h9, h10, h11⟩ := C
        exact ⟨h1, h2, h3, h4, h5, h6, h7, h8, h9, gD_cg hag h10, h11⟩
      rw [hag _ ha0, hag _ ha43, hag _ ha81] at hl
      refine s_KS C' hWd htr hW hW2 ha0 ha43 ha81 hX hbl hbA hL hi hal hadr hP' hS hl ⟨by omega, by omega⟩ hf (fun C2 H2 locs2 ls2 hP2 hS2 hl2 => ?_)
      refine lv_iinc (v := nI (iN + 7)) (lv' := [(4, .int (nI (iN + 7))), (0, .ref b), (1, .ref (gOv ad H.size nw 0 0)), (2, .ref (gOv ad H.size nw 43 0)), (3, .ref (gOv ad H.size nw 81 0))]) hx hb dL_law_2186 hl2 (k := 0) rfl (by rw [show Int32.ofInt 7 = nI 7 from by decide]; exact nI_add iN 7) (Nat.le_of_ble_eq_true rfl) rfl (fun ls3 hl3 => ?_)
      refine lv_goto (tgt := 23) hx hb dL_law_2189 (by decide) ?_
      exact ih (iN + 7) (NL ++ nw) X' (gOv ad H.size nw) H2 locs2 ls3 (cells + 130) (slots + 877) (by omega) (by omega) (by omega) (by omega) hj2 C2 hP2 hS2 hl3
