/-! the law's own body: its rows -/
theorem g_s5 {a a' b b' c c' d d' : Int32} {X X' : gM} (h : some (a, b, c, d, X) = some (a', b', c', d', X')) : a = a' ∧ b = b' ∧ c = c' ∧ d = d' ∧ X = X' := by
  cases h
  exact ⟨rfl, rfl, rfl, rfl, rfl⟩
section GLAWM
variable {p : Program} {l : Launch} {e : Env} {R : Room} {s : State} {m : MethodId} {args : Array Value} {below : List Frame} {meth : Method} {c : Code} {H : Heap} {locs : List Loc} {cells slots : Nat} {Q : State → Prop} {cc : ByteArray} {pc nL : Nat} {rt : Option FieldType} {own : String} {ls : Array Slot} {rest : List Value} {D : va_G} {cA : Nat → ClassId} {ad : Nat → Nat → Nat} {NL nw : List (Nat × Nat)} {A : Nat → Prop} {X : gM} {mc ms : Nat}
/-- a method of the law without handlers: it answers r and leaves X' -/
def gCM (l : Launch) (y : MethodName) (cc : ByteArray) (nL : Nat) (rt : Option FieldType) (rm : Room) (mc ms : Nat) (D : va_G) (cA : Nat → ClassId) (ad : Nat → Nat → Nat) (NL : List (Nat × Nat)) (av : List Value) (X : gM) (r : Int32) (X' : gM) (sz : Nat) : Prop :=
  Met l y (.code y cc nL rt :: gTB) rm (va_Pc av (gUL D cA ad NL X sz)) (gQ D cA ad NL (some (.int r)) X' (gA ad NL sz)) mc ms (gA ad NL sz)
theorem g_ofM {y : MethodName} {rm : Room} {av : List Value} {r : Int32} {X' : gM} {sz : Nat} {lv : List (Nat × Value)} (hy : plainName y.cls = true) (hyL : y.cls = RL) (hD : gD (fun _ => True) ad NL) (hn : (lg_sl av).length ≤ nL) (hlv : lv_args 0 av = lv)
    (body : ∀ (p : Program) (e : Env) (s : State) (m : MethodId) (below : List Frame) (meth : Method) (c : Code) (ls : Array Slot), s.heap.size = sz → gCx p c meth m s av.toArray cc nL rt RL D cA ad NL (gA ad NL sz) → gWd (gA ad NL sz) s → gH D cA ad NL X s.heap → va_S (gA ad NL sz) s.heap s.heap [] → lv_has ls nL lv →
      W p l e rm s m av.toArray below meth c s.heap [] 0 0 (MQ below (gQ D cA ad NL (some (.int r)) X' (gA ad NL sz)) av.toArray s mc ms (gA ad NL sz)) (F0 m 0 ls [])) : gCM l y cc nL rt rm mc ms D cA ad NL av X r X' sz := by
  unfold gCM
  refine Met.ofW (cc := cc) (maxL := nL) (ret := rt) hy rfl ?_
  intro p e s m args below meth c s₁ B hml hv
  obtain ⟨rfl, ⟨⟨⟨rfl, hP, hK, hN⟩, hE, hZ⟩, hAW⟩, hNc⟩ := hv
  have hts := atoms_spec (ws := .code y cc nL rt :: gTB) B.pre
  have hl := lv_entry av hn
  rw [hlv] at hl
  have hown : s.vm.findClass y.cls = some m.cls := findClass_of_methodNamed B.named
  rw [hyL] at hown
  have hb := body p e s m below meth c _ rfl ⟨B.exec, B.bytes, hml, hown, fun w hw => hts w (List.mem_cons_of_mem _ hw), B.returns, B.notSynchronized, hK, hN, gD_in hD (fun n hn => Or.inl ⟨n, hn, rfl⟩), fun q hq => Or.inr hq⟩ ⟨hE, hZ, hAW, hNc⟩ hP va_S.rf hl
  rw [lg_entry_eq]
  exact hb
theorem r_callM {y : MethodName} {cc2 : ByteArray} {nL2 n index : Nat} {rt2 : Option FieldType} {rm : Room} {r : Int32} {X1 : gM} {As st0 : List Value} {sz : Nat} (C : gCx p c meth m s args cc nL rt own D cA ad NL A) (hWd : gWd A s) (hP : gH D cA ad NL X H) (hS : va_S A s.heap H locs) (hl : ls.size = nL) (hsz : H.size = sz)
    (hM : gCM l y cc2 nL2 rt2 rm mc ms D cA ad NL As X r X1 sz) (hi : gI y cc2 nL2 rt2 n) (hv : Cond.static y ∈ gTB) (hlk : Cond.methodLink own index y ∈ gTB) (hrm : gRmA rm R nL2 mc ms) (hn : As.length = n) (hst : st0 = As.reverse ++ rest) (hW : (rest.map fun v => v.category).sum ≤ 8) (hf : cells + mc ≤ R.cells ∧ slots + ms ≤ R.slots) (hdg : decode cc pc = .ok (.invokestatic index, 3))
    (kk : ∀ (H : Heap) (locs : List Loc), gH D cA ad NL X1 H → va_S A s.heap H locs → W p l e R s m args below meth c H locs (cells + mc) (slots + ms) Q (F0 m (pc + 3) ls (.int r :: rest))) : W p l e R s m args below meth c H locs cells slots Q (F0 m pc ls st0) := by
  subst hsz
  have C' := C
  have hAs := gA_sub C hS
  obtain ⟨hx, hb, hml, hown, hts, hr, hlk0, hK, hN, hD, hA⟩ := C
  obtain ⟨hE, hZ, hAW, hNc⟩ := hWd
  subst hst
  have hpre : ∀ U : State, U.heap = H → s.WarmedH U.vm → va_Pc As (gUL D cA ad NL X H.size) As.toArray U := by
    intro U hU hW9
    refine ⟨rfl, ⟨⟨⟨by rw [hU], by rw [hU]; exact hP, va_K.moved hW9.alike hK, gNW.moved hW9 hN⟩, gEW.moved hW9 hE, ?_⟩, gAW.moved hW9.alike hAW⟩, gNc.moved hW9.alike hNc⟩
    have hkp : ∀ a : Nat, a < s.heap.size → ¬ A a → H[a]? = s.heap[a]? := hS.2.1
    rw [hU]
    exact ⟨((hZ.1.kept hkp).narrow hAs).moved hW9.alike, ((hZ.2.kept hkp).narrow hAs).moved hW9.alike⟩
  have hrun := va_runS (As := As) (rest := rest) (g := F0 m pc ls (As.reverse ++ rest)) (cells := cells) (slots := slots) (locs := locs) (e := e) (below := below) (meth := meth) ⟨hx, hb, hml, hown, hts⟩ hM ⟨g_cbA C' hi hlk hrm, hts _ hv⟩ ⟨gUL_blind, hpre⟩ rfl hn hl rfl (lv_room hW) hdg hf
  intro T hT Y
  obtain ⟨v, st₀, t, T', L, h0, X', hL, e1, e2, ⟨hv, hP1, hz, hk⟩, st⟩ := hrun T hT Y
  cases hv
  rw [h0] at hz hk
  obtain ⟨t2, a1, b1⟩ := kk T'.heap (locs ++ L) (by rw [e1]; exact hP1)
    ⟨Nat.le_trans hS.1 (by rw [e1]; exact hz), fun q h1 h2 => by rw [e1, hk q (Nat.lt_of_lt_of_le h1 hS.1) (fun z => h2 (hAs q z))]; exact hS.2.1 q h1 h2, fun q hq => by
      rcases List.mem_append.mp hq with h | h
      · exact hS.2.2 q h
      · exact hAs _ (hL q h)⟩ T' rfl X'
  exact ⟨t2, st t2 a1, b1⟩
def rm_low : Room := { frames := 0, cells := 0, slots := 0, locals := 0 }
theorem s_low {a b : Int32} {sz : Nat} (hb0 : ¬ b = 0) : Met l yL_low (.code yL_low cL_low 2 (some .int) :: gTB) rm_low (va_Pc [.int a, .int b] (gU D cA ad NL X sz)) (fun _ st oc t => oc = .returned (some (.int (jlow a b))) ∧ t.heap = st.heap) 0 0 (gA ad NL sz) := by
  refine Met.ofW (cc := cL_low) (maxL := 2) (ret := some .int) (by decide) rfl ?_
  intro p e s m args below meth c s₁ B hml hv
  obtain ⟨rfl, rfl, hP, hK, hN⟩ := hv
  have hts := atoms_spec (ws := .code yL_low cL_low 2 (some .int) :: gTB) B.pre
  have hl : lv_has _ 2 [(0, .int a), (1, .int b)] := lv_entry (n := 2) [.int a, .int b] (Nat.le_of_ble_eq_true rfl)
  have hx := B.exec
  have hb : c.code = cL_low := B.bytes
  have hown : s.vm.findClass RL = some m.cls := findClass_of_methodNamed B.named
  have hts2 : ∀ w ∈ gTB, w.before _ s = true := fun w hw => hts w (List.mem_cons_of_mem _ hw)
  rw [lg_entry_eq]
  refine lv_iload_n hx hb dL_low_0 rfl (lv_at hl 0 rfl) ?_
  refine lv_ldc hx hb hown (hts2 _ kc_L_7) dL_low_1 ?_
  refine lv_iand hx hb dL_low_3 ?_
  refine lv_iload_n hx hb dL_low_4 rfl (lv_at hl 1 rfl) ?_
  refine lv_irem hx hb dL_low_5 hb0 ?_
  exact W.iret (v := jlow a b) hx hb B.returns (fun t ht hW => ⟨rfl, ht⟩) (fun q hq => by cases hq) dL_low_6 B.notSynchronized
theorem r_low {a b : Int32} {index : Nat} (C : gCx p c meth m s args cc nL rt own D cA ad NL A) (hP : gH D cA ad NL X H) (hS : va_S A s.heap H locs) (hl : ls.size = nL) (hb0 : ¬ b = 0) (hlk : Cond.methodLink own index yL_low ∈ gTB) (hrm : gRm rm_low R 2) (hW : (rest.map fun v => v.category).sum ≤ 8) (hf : cells ≤ R.cells ∧ slots ≤ R.slots) (hdg : decode cc pc = .ok (.invokestatic index, 3))
    (kk : ∀ (locs : List Loc), gH D cA ad NL X H → va_S A s.heap H locs → W p l e R s m args below meth c H locs cells slots Q (F0 m (pc + 3) ls (.int (jlow a b) :: rest))) : W p l e R s m args below meth c H locs cells slots Q (F0 m pc ls (.int b :: .int a :: rest)) := by
  have C' := C
  have hAs := gA_sub C hS
  obtain ⟨hx, hb, hml, hown, hts, hr0, hlk0, hK, hN, hD, hA⟩ := C
  have hM := s_low (l := l) (D := D) (cA := cA) (ad := ad) (NL := NL) (X := X) (a := a) (sz := H.size) hb0
  have hr := va_runS (p := p) (l := l) (e := e) (R := R) (s := s) (m := m) (args := args) (below := below) (meth := meth) (c := c) (H := H) (locs := locs) (cells := cells) (slots := slots) (g := F0 m pc ls (.int b :: .int a :: rest)) (As := [.int a, .int b]) (rest := rest) ⟨hx, hb, hml, hown, hts⟩ hM ⟨g_cb C' ix_L_low hlk hrm, hts _ is_L_low⟩ ⟨gU_blind, gU_of C' hP rfl⟩ rfl rfl hl rfl (lv_room hW) hdg ⟨hf.1, hf.2⟩
  intro T hT Y
  obtain ⟨v, st₀, t, T', L, h0, X', hL, e1, e2, ⟨hv, hh⟩, st⟩ := hr T hT Y
  cases hv
  have hH : T'.heap = H := by rw [e1, hh, h0]
  have hS2 : va_S A s.heap H (locs ++ L) := ⟨hS.1, hS.2.1, fun q hq => by
    rcases List.mem_append.mp hq with h | h
    · exact hS.2.2 q h
    · exact hAs _ (hL q h)⟩
  obtain ⟨t2, a1, b1⟩ := kk (locs ++ L) hP hS2 T' hH X'
  exact ⟨t2, st t2 a1, b1⟩
def gUs (D : va_G) (cA : Nat → ClassId) (ad : Nat → Nat → Nat) (NL : List (Nat × Nat)) (X : gM) (sz b L : Nat) (xs : Nat → Int32) : State → Prop := fun U => gU D cA ad NL X sz U ∧ va_X b L xs U U.heap
theorem gUs_blind {sz b L : Nat} {xs : Nat → Int32} {av : List Value} : FrameBlind (va_Pc av (gUs D cA ad NL X sz b L xs)) := by
  intro a U g mk q
  obtain ⟨q0, q1, q2⟩ := q
  have h1 := gU_blind (D := D) (cA := cA) (ad := ad) (NL := NL) (X := X) (sz := sz) (av := av) a U g mk ⟨q0, q1⟩
  exact ⟨q0, h1.2, va_X.moved (u := U) (U := U.calling g mk a) (Vm.Alike.refl U.vm) q2⟩
theorem cell_in {L : Nat} {k : Int32} (hL : L ≤ 260) (hk : ¬ k < 0) (h : ¬ Int32.ofNat L ≤ k) : vp_in k L := by
  unfold vp_in
  have e1 : (Int32.ofNat L).toInt = (L : Int) := Int32.toInt_ofNat_of_lt (by omega)
  rw [Int32.le_iff_toInt_le, e1] at h
  rw [Int32.lt_iff_toInt_lt] at hk ⊢
  have e0 : (0 : Int32).toInt = 0 := by decide
  rw [e0] at hk ⊢
  have e2 : (k.toNatClampNeg : Int) = k.toInt := by
    unfold Int32.toNatClampNeg
    omega
  omega
theorem s_cell {k : Int32} {sz b L : Nat} {xs : Nat → Int32} (hD0 : gD (fun _ => True) ad NL) (hbA : ¬ gA ad NL sz b) (hbl : b < sz) (hL : L ≤ 260) (hk : ¬ k < 0) : Met l yL_cell (.code yL_cell cL_cell 2 (some .int) :: gTB) rm_low (va_Pc [.ref b, .int k] (gUs D cA ad NL X sz b L xs)) (gQ D cA ad NL (some (.int (jcell L xs k))) X (gA ad NL sz)) 0 0 (gA ad NL sz) := by
  refine Met.ofW (cc := cL_cell) (maxL := 2) (ret := some .int) (by decide) rfl ?_
  intro p e s m args below meth c s₁ B hml hv
  obtain ⟨rfl, ⟨rfl, hP, hK, hN⟩, hX⟩ := hv
  have hts := atoms_spec (ws := .code yL_cell cL_cell 2 (some .int) :: gTB) B.pre
  have hl := lv_entry (n := 2) [.ref b, .int k] (Nat.le_of_ble_eq_true rfl)
  have hl2 : lv_has _ 2 [(0, .ref b), (1, .int k)] := hl
  have hx := B.exec
  have hb : c.code = cL_cell := B.bytes
  have hown : s.vm.findClass RL = some m.cls := findClass_of_methodNamed B.named
  have hts2 : ∀ w ∈ gTB, w.before _ s = true := fun w hw => hts w (List.mem_cons_of_mem _ hw)
  have hS : va_S (gA ad NL s.heap.size) s.heap s.heap [] := va_S.rf
  have C : gCx p c meth m s _ cL_cell 2 (some .int) RL D cA ad NL (gA ad NL s.heap.size) := ⟨hx, hb, hml, hown, hts2, B.returns, B.notSynchronized, hK, hN, gD_in hD0 (fun n hn => Or.inl ⟨n, hn, rfl⟩), fun q hq => Or.inr hq⟩
  rw [lg_entry_eq]
  refine lv_iload_n hx hb dL_cell_0 rfl (lv_at hl2 1 rfl) ?_
  refine lv_aload_n hx hb dL_cell_1 rfl (lv_at hl2 0 rfl) ?_
  refine va_slen hx hb hX hbl hbA hS dL_cell_2 ?_
  refine lv_icmp_ge (tgt := 12) hx hb dL_cell_3 (by decide) (fun c1 => ?_) (fun c1 => ?_)
  · refine lv_ldc hx hb hown (hts2 _ kc_L_8) dL_cell_12 ?_
    refine lv_iload_n hx hb dL_cell_14 rfl (lv_at hl2 1 rfl) ?_
    refine lv_imul hx hb dL_cell_15 ?_
    refine lv_sipush (v := 977) hx hb dL_cell_16 (by decide) ?_
    refine lv_iadd hx hb dL_cell_19 ?_
    have ev : jcell L xs k = (40503 : Int32) * k + (977 : Int32) := if_pos c1
    rw [ev]
    exact r_iret C hP hS dL_cell_20
  · refine lv_aload_n hx hb dL_cell_6 rfl (lv_at hl2 0 rfl) ?_
    refine lv_iload_n hx hb dL_cell_7 rfl (lv_at hl2 1 rfl) ?_
    refine va_sld hx hb hX hbl hbA hS (cell_in hL hk c1) dL_cell_8 ?_
    refine lv_goto (tgt := 20) hx hb dL_cell_9 (by decide) ?_
    have ev : jcell L xs k = xs k.toNatClampNeg := if_neg c1
    rw [ev]
    exact r_iret C hP hS dL_cell_20
theorem r_cell {k : Int32} {index b L : Nat} {xs : Nat → Int32} (C : gCx p c meth m s args cc nL rt own D cA ad NL A) (hX : va_X b L xs s s.heap) (hbl : b < s.heap.size) (hbA : ¬ A b) (hL : L ≤ 260) (hP : gH D cA ad NL X H) (hS : va_S A s.heap H locs) (hl : ls.size = nL) (hk : ¬ k < 0) (hlk : Cond.methodLink own index yL_cell ∈ gTB) (hrm : gRm rm_low R 2) (hW : (rest.map fun v => v.category).sum ≤ 8) (hf : cells ≤ R.cells ∧ slots ≤ R.slots) (hdg : decode cc pc = .ok (.invokestatic index, 3))
    (kk : ∀ (H : Heap) (locs : List Loc), gH D cA ad NL X H → va_S A s.heap H locs → W p l e R s m args below meth c H locs cells slots Q (F0 m (pc + 3) ls (.int (jcell L xs k) :: rest))) : W p l e R s m args below meth c H locs cells slots Q (F0 m pc ls (.int k :: .ref b :: rest)) := by
  have C' := C
  have hAs := gA_sub C hS
  obtain ⟨hx, hb, hml, hown, hts, hr, hlk0, hK, hN, hD, hA⟩ := C
  have hD0 : gD (fun _ => True) ad NL := gD_in hD (fun _ _ => trivial)
  have hM := s_cell (l := l) (D := D) (cA := cA) (X := X) (xs := xs) hD0 (sz := H.size) (b := b) (fun q => hbA (hAs b q)) (Nat.lt_of_lt_of_le hbl hS.1) hL hk
  have hpre : ∀ U : State, U.heap = H → s.WarmedH U.vm → va_Pc [.ref b, .int k] (gUs D cA ad NL X H.size b L xs) [Value.ref b, Value.int k].toArray U := by
    intro U hU hW9
    refine ⟨rfl, (gU_of C' hP rfl U hU hW9 (av := [.ref b, .int k])).2, ?_⟩
    rw [hU]
    exact (hX.kept (hS.2.1 b hbl hbA)).moved hW9.alike
  exact r_call C' (va_runS (As := [.ref b, .int k]) (rest := rest) ⟨hx, hb, hml, hown, hts⟩ hM ⟨g_cb C' ix_L_cell hlk hrm, hts _ is_L_cell⟩ ⟨gUs_blind, hpre⟩ rfl rfl hl rfl (lv_room hW) hdg ⟨hf.1, hf.2⟩) hS kk
/-- the new names' addresses are chosen: all that is alive keeps its own -/
theorem g_switch (C : gCx p c meth m s args cc nL rt own D cA ad NL A) (hW : gWf NL) (hfr : gFr NL nw) (hdy : gDy NL X) (hP : gH D cA ad NL X H) : gCx p c meth m s args cc nL rt own D cA (gOv ad H.size nw) NL A ∧ gH D cA (gOv ad H.size nw) NL X H ∧ ∀ n ∈ NL, ad n.1 n.2 = gOv ad H.size nw n.1 n.2 := by
  have hag : ∀ n ∈ NL, ad n.1 n.2 = gOv ad H.size nw n.1 n.2 := fun n hn => (gOv_out (hdy n.1 n.2 hn).1 (fun q => (hfr.2 _ q).1 hn)).symm
  have h38 : ∀ j, ad 38 j = gOv ad H.size nw 38 j := fun j => (gOv_out (by decide) (fun q => (hfr.2 _ q).2.2 rfl)).symm
  refine ⟨?_, ?_, hag⟩
  · obtain ⟨h1, h2, h3, h4, h5, h6, h7, h8, h9, h10, h11⟩ := C
    exact ⟨h1, h2, h3, h4, h5, h6, h7, h8, h9, gD_cg hag h10, h11⟩
  · unfold gH
    rw [gw_cg hW hag h38 hdy]
    exact hP
end GLAWM
theorem gDy_fr {NL : List (Nat × Nat)} {X Y : gM} (hd : gDy NL X) (h : ∀ k, (k = 4 ∨ k = 5 ∨ k = 6 ∨ k = 11 ∨ k = 13 ∨ k = 14 ∨ k = 18 ∨ k = 19 ∨ k = 21 ∨ k = 22 ∨ k = 23 ∨ k = 25 ∨ k = 28) → Y k = X k) : gDy NL Y := by
  intro K i hm
  refine ⟨(hd K i hm).1, ?_⟩
  by_cases hk : K = 4 ∨ K = 5 ∨ K = 6 ∨ K = 11 ∨ K = 13 ∨ K = 14 ∨ K = 18 ∨ K = 19 ∨ K = 21 ∨ K = 22 ∨ K = 23 ∨ K = 25 ∨ K = 28
  · rw [h K hk]
    exact (hd K i hm).2
  · unfold gdy
    split <;> first | omega | trivial
def sTy (k : Nat) : Bool := decide (k = 0 ∨ k = 24 ∨ 43 ≤ k)
theorem gDy_acts2 {NL : List (Nat × Nat)} {N : Nat} {p2 p3 p4 r : Int32} {X X2 : gM} (hd : gDy NL X) (h : Q_acts2 (gal NL) N p2 p3 p4 X = some (r, X2)) : gDy NL X2 := by
  have key : frG g2 sTy X (Q_acts2 (gal NL) N p2 p3 p4 X) := by
    unfold Q_acts2 P_type
    refine frG_b3 (frG_b3 (fr_X9_type rfl rfl frm_rfl) (fun k r Y hY => frG_b2 (fr_X10_type rfl rfl ?_) (fun r Z hZ => frG_some hZ))) (fun k r Y hY => ?_)
    · unfold gst
      by_cases hk : k = 0
      · rw [if_pos hk]; exact frm_set hY rfl
      · rw [if_neg hk]; exact hY
    · repeat' (first | with_reducible refine frG_ite ?_ ?_ | with_reducible exact frG_none | with_reducible exact frG_some hY)
  have hf := key _ h
  refine gDy_fr hd (fun k hk => hf k ?_)
  unfold sTy
  exact decide_eq_false (by omega)
