/-! ends, entries and calls, over the world of named cells -/
section GCALL
variable {p : Program} {l : Launch} {e : Env} {R : Room} {s : State} {m : MethodId} {args : Array Value} {below : List Frame} {meth : Method} {c : Code} {H : Heap} {locs : List Loc} {cells slots : Nat} {Q : State → Prop} {cc : ByteArray} {pc nL : Nat} {rt : Option FieldType} {own : String} {ls : Array Slot} {rest : List Value} {D : va_G} {cA : Nat → ClassId} {ad : Nat → Nat → Nat} {NL : List (Nat × Nat)} {A : Nat → Prop} {X : gM}
theorem r_iret (C : gCx p c meth m s args cc nL (some .int) own D cA ad NL A) (hP : gH D cA ad NL X H) (hS : va_S A s.heap H locs) {v : Int32} (hdg : decode cc pc = .ok (.ireturn, 1)) : W p l e R s m args below meth c H locs cells slots (MQ below (gQ D cA ad NL (some (.int v)) X A) args s cells slots A) (F0 m pc ls [.int v]) := by
  obtain ⟨hx, hb, hml, hown, hts, hr, hlk, hK, hN, hD, hA⟩ := C
  exact W.iret (v := v) hx hb hr (fun t ht hW => ⟨rfl, by rw [ht]; exact hP, hS.F ht⟩) hS.2.2 hdg hlk
theorem r_zret (C : gCx p c meth m s args cc nL (some .boolean) own D cA ad NL A) (hP : gH D cA ad NL X H) (hS : va_S A s.heap H locs) {v : Int32} (hz : v = 0 ∨ v = 1) (hdg : decode cc pc = .ok (.ireturn, 1)) : W p l e R s m args below meth c H locs cells slots (MQ below (gQ D cA ad NL (some (.int v)) X A) args s cells slots A) (F0 m pc ls [.int v]) := by
  obtain ⟨hx, hb, hml, hown, hts, hr, hlk, hK, hN, hD, hA⟩ := C
  exact W.zret (v := v) hx hb hr (nar_z hz) (fun t ht hW => ⟨rfl, by rw [ht]; exact hP, hS.F ht⟩) hS.2.2 hdg hlk
theorem r_vret (C : gCx p c meth m s args cc nL none own D cA ad NL A) (hP : gH D cA ad NL X H) (hS : va_S A s.heap H locs) (hdg : decode cc pc = .ok (.return_, 1)) : W p l e R s m args below meth c H locs cells slots (MQ below (gQ D cA ad NL none X A) args s cells slots A) (F0 m pc ls []) := by
  obtain ⟨hx, hb, hml, hown, hts, hr, hlk, hK, hN, hD, hA⟩ := C
  exact W.vret hx hb hr (fun t ht hW => ⟨rfl, by rw [ht]; exact hP, hS.F ht⟩) hS.2.2 hdg hlk
theorem r_aret {n : String} (C : gCx p c meth m s args cc nL (some (.object n)) own D cA ad NL A) (hP : gH D cA ad NL X H) (hS : va_S A s.heap H locs) {r : Option Nat} (hdg : decode cc pc = .ok (.areturn, 1)) : W p l e R s m args below meth c H locs cells slots (MQ below (gQ D cA ad NL (some (va_rf r)) X A) args s cells slots A) (F0 m pc ls [va_rf r]) := by
  obtain ⟨hx, hb, hml, hown, hts, hr, hlk, hK, hN, hD, hA⟩ := C
  exact W.aret (v := va_rf r) hx hb hr (Or.inl ⟨n, rfl⟩) (by cases r with | none => exact Or.inl rfl | some a => exact Or.inr ⟨a, rfl⟩) (fun t ht hW => ⟨rfl, by rw [ht]; exact hP, hS.F ht⟩) hS.2.2 hdg hlk
/-- a method's contract out of the walk of its body -/
theorem g_ofW {y : MethodName} {rm : Room} {av : List Value} {r : Option Value} {X' : gM} {lv : List (Nat × Value)} (hy : plainName y.cls = true) (hD : gD (fun _ => True) ad NL) (hn : (lg_sl av).length ≤ nL) (hlv : lv_args 0 av = lv)
    (body : ∀ (p : Program) (e : Env) (s : State) (m : MethodId) (below : List Frame) (meth : Method) (c : Code) (ls : Array Slot), gCx p c meth m s av.toArray cc nL rt y.cls D cA ad NL (gA ad NL s.heap.size) → gH D cA ad NL X s.heap → va_S (gA ad NL s.heap.size) s.heap s.heap [] → lv_has ls nL lv →
      W p l e rm s m av.toArray below meth c s.heap [] 0 0 (MQ below (gQ D cA ad NL r X' (gA ad NL s.heap.size)) av.toArray s 0 0 (gA ad NL s.heap.size)) (F0 m 0 ls [])) : gC l y cc nL rt rm D cA ad NL av X r X' := by
  intro sz
  refine Met.ofW (cc := cc) (maxL := nL) (ret := rt) hy rfl ?_
  intro p e s m args below meth c s₁ B hml hv
  obtain ⟨rfl, rfl, hP, hK, hN⟩ := hv
  have hts := atoms_spec (ws := .code y cc nL rt :: gTB) B.pre
  have hl := lv_entry av hn
  rw [hlv] at hl
  have hb := body p e s m below meth c _ ⟨B.exec, B.bytes, hml, findClass_of_methodNamed B.named, fun w hw => hts w (List.mem_cons_of_mem _ hw), B.returns, B.notSynchronized, hK, hN, gD_in hD (fun n hn => Or.inl ⟨n, hn, rfl⟩), fun q hq => Or.inr hq⟩ hP va_S.rf hl
  rw [lg_entry_eq]
  exact hb
theorem gA_sub (C : gCx p c meth m s args cc nL rt own D cA ad NL A) (hS : va_S A s.heap H locs) : ∀ q, gA ad NL H.size q → A q := by
  obtain ⟨hx, hb, hml, hown, hts, hr, hlk, hK, hN, hD, hA⟩ := C
  rintro q (⟨n, hn, rfl⟩ | h)
  · exact hD.2 n hn
  · exact hA q (Nat.le_trans hS.1 h)
theorem r_call {r : Option Value} {X1 : gM} {st0 : List Value} {a : Array Value} (C : gCx p c meth m s args cc nL rt own D cA ad NL A) (hr : va_Run p l e R s m args below meth c H locs cells slots 0 0 (F0 m pc ls st0) rest (gQ D cA ad NL r X1 (gA ad NL H.size) a) (gA ad NL H.size)) (hS : va_S A s.heap H locs)
    (kk : ∀ (H : Heap) (locs : List Loc), gH D cA ad NL X1 H → va_S A s.heap H locs → W p l e R s m args below meth c H locs cells slots Q (F0 m (pc + 3) ls (r.toList ++ rest))) : W p l e R s m args below meth c H locs cells slots Q (F0 m pc ls st0) := by
  intro T hT X
  obtain ⟨v, st₀, t, T', L, h0, X', hL, e1, e2, ⟨hv, hP1, hz, hk⟩, st⟩ := hr T hT X
  cases hv
  have hA := gA_sub C hS
  rw [h0] at hz hk
  obtain ⟨t2, a1, b1⟩ := kk T'.heap (locs ++ L) (by rw [e1]; exact hP1)
    ⟨Nat.le_trans hS.1 (by rw [e1]; exact hz), fun q h1 h2 => by rw [e1, hk q (Nat.lt_of_lt_of_le h1 hS.1) (fun z => h2 (hA q z))]; exact hS.2.1 q h1 h2, fun q hq => by
      rcases List.mem_append.mp hq with h | h
      · exact hS.2.2 q h
      · exact hA _ (hL q h)⟩ T' rfl X'
  exact ⟨t2, st t2 a1, b1⟩
/-- what the tables say of a method that is called -/
def gI (y : MethodName) (cc : ByteArray) (nL : Nat) (rt : Option FieldType) (n : Nat) : Prop := Cond.code y cc nL rt ∈ gTB ∧ Cond.initialized y.cls ∈ gTB ∧ (y.cls ≠ "java/lang/invoke/MethodHandle" ∧ y.cls ≠ "java/lang/invoke/VarHandle" ∧ (parseMethodDescriptor y.desc).map (fun d => d.parameters.length) = some n)
def gIV (y : MethodName) : Prop := Cond.instanceMethod y ∈ gTB ∧ Cond.selects y.cls y y ∈ gTB
def gLk (own : String) (index : Nat) (y : MethodName) : Prop := (Cond.methodLink own index y ∈ gTB) ∨ ∃ host : String, Cond.methodLinkNest own index y host ∈ gNB
def gRm (rm R : Room) (nL : Nat) : Prop := rm.cells = 0 ∧ rm.slots = 0 ∧ rm.frames + 1 ≤ R.frames ∧ 8 + (nL + 11) + rm.locals ≤ R.locals
theorem g_cb {y : MethodName} {cc2 : ByteArray} {nL2 n index : Nat} {rt2 : Option FieldType} {rm : Room} (C : gCx p c meth m s args cc nL rt own D cA ad NL A) (hi : gI y cc2 nL2 rt2 n) (hlk : Cond.methodLink own index y ∈ gTB) (hrm : gRm rm R nL2) : CallB R s args own index y cc2 nL2 rt2 (.code y cc2 nL2 rt2 :: gTB) rm 0 0 n := by
  obtain ⟨hx, hb, hml, hown, hts, hr, hlk0, hK, hN, hD, hA⟩ := C
  have hts2 : ∀ w ∈ (Cond.code y cc2 nL2 rt2 :: gTB), w.before args s = true := fun w hw => by
    rcases List.mem_cons.mp hw with rfl | hw
    · exact hts _ hi.1
    · exact hts _ hw
  exact callB_of n hts2 (gGood hi.1) rfl hrm.1 hrm.2.1 (hts _ hi.2.1) (hts _ hlk) hi.2.2 hrm.2.2
theorem g_cn {y : MethodName} {cc2 : ByteArray} {nL2 n index : Nat} {rt2 : Option FieldType} {rm : Room} {host : String} (C : gCx p c meth m s args cc nL rt own D cA ad NL A) (hi : gI y cc2 nL2 rt2 n) (hlk : Cond.methodLinkNest own index y host ∈ gNB) (hrm : gRm rm R nL2) : va_CN R s args own index y host cc2 nL2 rt2 (.code y cc2 nL2 rt2 :: gTB) rm 0 0 n := by
  obtain ⟨hx, hb, hml, hown, hts, hr, hlk0, hK, hN, hD, hA⟩ := C
  have hts2 : ∀ w ∈ (Cond.code y cc2 nL2 rt2 :: gTB), w.before args s = true := fun w hw => by
    rcases List.mem_cons.mp hw with rfl | hw
    · exact hts _ hi.1
    · exact hts _ hw
  exact va_cnB n hts2 (gGood hi.1) rfl hrm.1 hrm.2.1 (hN _ hlk) (hts _ hi.2.1) hi.2.2 hrm.2.2
theorem gU_of {sz : Nat} {av : List Value} (C : gCx p c meth m s args cc nL rt own D cA ad NL A) (hP : gH D cA ad NL X H) (hsz : sz = H.size) : ∀ U : State, U.heap = H → s.WarmedH U.vm → va_Pc av (gU D cA ad NL X sz) av.toArray U := by
  obtain ⟨hx, hb, hml, hown, hts, hr, hlk0, hK, hN, hD, hA⟩ := C
  subst hsz
  intro U hU hW
  exact ⟨rfl, by rw [hU], by rw [hU]; exact hP, va_K.moved hW.alike hK, gNW.moved hW hN⟩
/-- an instance method is called -/
theorem r_cV {y : MethodName} {cc2 : ByteArray} {nL2 n index Kb ib ci : Nat} {rt2 : Option FieldType} {rm : Room} {r : Option Value} {X1 : gM} {As st0 : List Value} {fs : List Value} {q : vw_C} (C : gCx p c meth m s args cc nL rt own D cA ad NL A) (hP : gH D cA ad NL X H) (hS : va_S A s.heap H locs) (hl : ls.size = nL)
    (hM : gC l y cc2 nL2 rt2 rm D cA ad NL (.ref (ad Kb ib) :: As) X r X1) (hi : gI y cc2 nL2 rt2 n) (hv : gIV y) (hlk : gLk own index y) (hrm : gRm rm R nL2) (hm : (Kb, ib) ∈ NL) (hct : ct cA ad Kb ib (X Kb ib) = .inr (ci, fs)) (hcl : vwCl[ci]? = some q) (hqy : q.1 = y.cls) (hn : As.length = n) (hst : st0 = As.reverse ++ .ref (ad Kb ib) :: rest) (hW : (rest.map fun v => v.category).sum ≤ 8) (hf : cells ≤ R.cells ∧ slots ≤ R.slots) (hdg : decode cc pc = .ok (.invokevirtual index, 3))
    (kk : ∀ (H : Heap) (locs : List Loc), gH D cA ad NL X1 H → va_S A s.heap H locs → W p l e R s m args below meth c H locs cells slots Q (F0 m (pc + 3) ls (r.toList ++ rest))) : W p l e R s m args below meth c H locs cells slots Q (F0 m pc ls st0) := by
  have C' := C
  obtain ⟨hx, hb, hml, hown, hts, hr, hlk0, hK, hN, hD, hA⟩ := C
  obtain ⟨q0, hq, hw⟩ := gw_at (cA := cA) (ad := ad) (X := X) hm
  rw [hct] at hw
  have hrec := va_recv hK hP hcl hw
  rw [hqy] at hrec
  subst hst
  rcases hlk with hlk | ⟨host, hlk⟩
  · exact r_call C' (va_runV (As := As) (rest := rest) ⟨hx, hb, hml, hown, hts⟩ (hM H.size) ⟨g_cb C' hi hlk hrm, hts _ hv.1, hts _ hv.2⟩ ⟨gU_blind, hrec, gU_of C' hP rfl⟩ rfl hn hl rfl (lv_room hW) hdg ⟨hf.1, hf.2⟩) hS kk
  · exact r_call C' (va_runVN (As := As) (rest := rest) ⟨hx, hb, hml, hown, hts⟩ (hM H.size) ⟨g_cn C' hi hlk hrm, hts _ hv.1, hts _ hv.2⟩ ⟨gU_blind, hrec, gU_of C' hP rfl⟩ rfl hn hl rfl (lv_room hW) hdg ⟨hf.1, hf.2⟩) hS kk
/-- a static method is called -/
theorem r_cS {y : MethodName} {cc2 : ByteArray} {nL2 n index : Nat} {rt2 : Option FieldType} {rm : Room} {r : Option Value} {X1 : gM} {As st0 : List Value} (C : gCx p c meth m s args cc nL rt own D cA ad NL A) (hP : gH D cA ad NL X H) (hS : va_S A s.heap H locs) (hl : ls.size = nL)
    (hM : gC l y cc2 nL2 rt2 rm D cA ad NL As X r X1) (hi : gI y cc2 nL2 rt2 n) (hv : Cond.static y ∈ gTB) (hlk : Cond.methodLink own index y ∈ gTB) (hrm : gRm rm R nL2) (hn : As.length = n) (hst : st0 = As.reverse ++ rest) (hW : (rest.map fun v => v.category).sum ≤ 8) (hf : cells ≤ R.cells ∧ slots ≤ R.slots) (hdg : decode cc pc = .ok (.invokestatic index, 3))
    (kk : ∀ (H : Heap) (locs : List Loc), gH D cA ad NL X1 H → va_S A s.heap H locs → W p l e R s m args below meth c H locs cells slots Q (F0 m (pc + 3) ls (r.toList ++ rest))) : W p l e R s m args below meth c H locs cells slots Q (F0 m pc ls st0) := by
  have C' := C
  obtain ⟨hx, hb, hml, hown, hts, hr, hlk0, hK, hN, hD, hA⟩ := C
  subst hst
  exact r_call C' (va_runS (As := As) (rest := rest) ⟨hx, hb, hml, hown, hts⟩ (hM H.size) ⟨g_cb C' hi hlk hrm, hts _ hv⟩ ⟨gU_blind, gU_of C' hP rfl⟩ rfl hn hl rfl (lv_room hW) hdg ⟨hf.1, hf.2⟩) hS kk
theorem r_cVi {y : MethodName} {cc2 : ByteArray} {nL2 n index Kb ib ci : Nat} {rt2 : Option FieldType} {rm : Room} {r : Int32} {X1 : gM} {As st0 : List Value} {fs : List Value} {q : vw_C} (C : gCx p c meth m s args cc nL rt own D cA ad NL A) (hP : gH D cA ad NL X H) (hS : va_S A s.heap H locs) (hl : ls.size = nL)
    (hM : gC l y cc2 nL2 rt2 rm D cA ad NL (.ref (ad Kb ib) :: As) X (some (.int r)) X1) (hi : gI y cc2 nL2 rt2 n) (hv : gIV y) (hlk : gLk own index y) (hrm : gRm rm R nL2) (hm : (Kb, ib) ∈ NL) (hct : ct cA ad Kb ib (X Kb ib) = .inr (ci, fs)) (hcl : vwCl[ci]? = some q) (hqy : q.1 = y.cls) (hn : As.length = n) (hst : st0 = As.reverse ++ .ref (ad Kb ib) :: rest) (hW : (rest.map fun v => v.category).sum ≤ 8) (hf : cells ≤ R.cells ∧ slots ≤ R.slots) (hdg : decode cc pc = .ok (.invokevirtual index, 3))
    (kk : ∀ (H : Heap) (locs : List Loc), gH D cA ad NL X1 H → va_S A s.heap H locs → W p l e R s m args below meth c H locs cells slots Q (F0 m (pc + 3) ls (.int r :: rest))) : W p l e R s m args below meth c H locs cells slots Q (F0 m pc ls st0) := r_cV C hP hS hl hM hi hv hlk hrm hm hct hcl hqy hn hst hW hf hdg kk
theorem r_cVv {y : MethodName} {cc2 : ByteArray} {nL2 n index Kb ib ci : Nat} {rt2 : Option FieldType} {rm : Room} {X1 : gM} {As st0 : List Value} {fs : List Value} {q : vw_C} (C : gCx p c meth m s args cc nL rt own D cA ad NL A) (hP : gH D cA ad NL X H) (hS : va_S A s.heap H locs) (hl : ls.size = nL)
    (hM : gC l y cc2 nL2 rt2 rm D cA ad NL (.ref (ad Kb ib) :: As) X none X1) (hi : gI y cc2 nL2 rt2 n) (hv : gIV y) (hlk : gLk own index y) (hrm : gRm rm R nL2) (hm : (Kb, ib) ∈ NL) (hct : ct cA ad Kb ib (X Kb ib) = .inr (ci, fs)) (hcl : vwCl[ci]? = some q) (hqy : q.1 = y.cls) (hn : As.length = n) (hst : st0 = As.reverse ++ .ref (ad Kb ib) :: rest) (hW : (rest.map fun v => v.category).sum ≤ 8) (hf : cells ≤ R.cells ∧ slots ≤ R.slots) (hdg : decode cc pc = .ok (.invokevirtual index, 3))
    (kk : ∀ (H : Heap) (locs : List Loc), gH D cA ad NL X1 H → va_S A s.heap H locs → W p l e R s m args below meth c H locs cells slots Q (F0 m (pc + 3) ls rest)) : W p l e R s m args below meth c H locs cells slots Q (F0 m pc ls st0) := r_cV C hP hS hl hM hi hv hlk hrm hm hct hcl hqy hn hst hW hf hdg kk
theorem r_cVq {y : MethodName} {cc2 : ByteArray} {nL2 n index Kb ib ci : Nat} {rt2 : Option FieldType} {rm : Room} {r : Option Nat} {X1 : gM} {As st0 : List Value} {fs : List Value} {q : vw_C} (C : gCx p c meth m s args cc nL rt own D cA ad NL A) (hP : gH D cA ad NL X H) (hS : va_S A s.heap H locs) (hl : ls.size = nL)
    (hM : gC l y cc2 nL2 rt2 rm D cA ad NL (.ref (ad Kb ib) :: As) X (some (va_rf r)) X1) (hi : gI y cc2 nL2 rt2 n) (hv : gIV y) (hlk : gLk own index y) (hrm : gRm rm R nL2) (hm : (Kb, ib) ∈ NL) (hct : ct cA ad Kb ib (X Kb ib) = .inr (ci, fs)) (hcl : vwCl[ci]? = some q) (hqy : q.1 = y.cls) (hn : As.length = n) (hst : st0 = As.reverse ++ .ref (ad Kb ib) :: rest) (hW : (rest.map fun v => v.category).sum ≤ 8) (hf : cells ≤ R.cells ∧ slots ≤ R.slots) (hdg : decode cc pc = .ok (.invokevirtual index, 3))
    (kk : ∀ (H : Heap) (locs : List Loc), gH D cA ad NL X1 H → va_S A s.heap H locs → W p l e R s m args below meth c H locs cells slots Q (F0 m (pc + 3) ls (va_rf r :: rest))) : W p l e R s m args below meth c H locs cells slots Q (F0 m pc ls st0) := r_cV C hP hS hl hM hi hv hlk hrm hm hct hcl hqy hn hst hW hf hdg kk
theorem r_cSi {y : MethodName} {cc2 : ByteArray} {nL2 n index : Nat} {rt2 : Option FieldType} {rm : Room} {r : Int32} {X1 : gM} {As st0 : List Value} (C : gCx p c meth m s args cc nL rt own D cA ad NL A) (hP : gH D cA ad NL X H) (hS : va_S A s.heap H locs) (hl : ls.size = nL)
    (hM : gC l y cc2 nL2 rt2 rm D cA ad NL As X (some (.int r)) X1) (hi : gI y cc2 nL2 rt2 n) (hv : Cond.static y ∈ gTB) (hlk : Cond.methodLink own index y ∈ gTB) (hrm : gRm rm R nL2) (hn : As.length = n) (hst : st0 = As.reverse ++ rest) (hW : (rest.map fun v => v.category).sum ≤ 8) (hf : cells ≤ R.cells ∧ slots ≤ R.slots) (hdg : decode cc pc = .ok (.invokestatic index, 3))
    (kk : ∀ (H : Heap) (locs : List Loc), gH D cA ad NL X1 H → va_S A s.heap H locs → W p l e R s m args below meth c H locs cells slots Q (F0 m (pc + 3) ls (.int r :: rest))) : W p l e R s m args below meth c H locs cells slots Q (F0 m pc ls st0) := r_cS C hP hS hl hM hi hv hlk hrm hn hst hW hf hdg kk
theorem r_cSv {y : MethodName} {cc2 : ByteArray} {nL2 n index : Nat} {rt2 : Option FieldType} {rm : Room} {X1 : gM} {As st0 : List Value} (C : gCx p c meth m s args cc nL rt own D cA ad NL A) (hP : gH D cA ad NL X H) (hS : va_S A s.heap H locs) (hl : ls.size = nL)
    (hM : gC l y cc2 nL2 rt2 rm D cA ad NL As X none X1) (hi : gI y cc2 nL2 rt2 n) (hv : Cond.static y ∈ gTB) (hlk : Cond.methodLink own index y ∈ gTB) (hrm : gRm rm R nL2) (hn : As.length = n) (hst : st0 = As.reverse ++ rest) (hW : (rest.map fun v => v.category).sum ≤ 8) (hf : cells ≤ R.cells ∧ slots ≤ R.slots) (hdg : decode cc pc = .ok (.invokestatic index, 3))
    (kk : ∀ (H : Heap) (locs : List Loc), gH D cA ad NL X1 H → va_S A s.heap H locs → W p l e R s m args below meth c H locs cells slots Q (F0 m (pc + 3) ls rest)) : W p l e R s m args below meth c H locs cells slots Q (F0 m pc ls st0) := r_cS C hP hS hl hM hi hv hlk hrm hn hst hW hf hdg kk
theorem g_top {x : Int32} {α : Type} {f : Int32 → α} {o : α} (hf : gl x f = o) (k : ∀ y : Int32, y = x → f y = o → W p l e R s m args below meth c H locs cells slots Q (F0 m pc ls (.int y :: rest))) : W p l e R s m args below meth c H locs cells slots Q (F0 m pc ls (.int x :: rest)) := k x rfl hf
theorem r_mmax (C : gCx p c meth m s args cc nL rt own D cA ad NL A) (hl : ls.size = nL) {index : Nat} {x y : Int32} (hlk : Cond.methodLink own index Lib.Math.max.name ∈ gTB) (hst : Cond.static Lib.Math.max.name ∈ gTB) (hini : Cond.initialized "java/lang/Math" ∈ gTB) (hco : Cond.code Lib.Math.max.name Lib.Math.max.code 2 (some .int) ∈ gTB) (hrm : 1 ≤ R.frames ∧ (rest.map fun v => v.category).sum + 13 ≤ R.locals ∧ cells ≤ R.cells ∧ slots ≤ R.slots) (hdg : decode cc pc = .ok (.invokestatic index, 3))
    (kk : W p l e R s m args below meth c H locs cells slots Q (F0 m (pc + 3) ls (.int (if x < y then y else x) :: rest))) : W p l e R s m args below meth c H locs cells slots Q (F0 m pc ls (.int y :: .int x :: rest)) := by
  obtain ⟨hx, hb, hml, hown, hts, hr, hlk0, hK, hN, hD, hA⟩ := C
  exact va_mmax hx hb (hml.trans hl.symm) hown (hts _ hlk) (hts _ hst) (hts _ hini) (hts _ hco) hrm.1 hrm.2.1 hrm.2.2.1 hrm.2.2.2 hdg kk
theorem r_mmin (C : gCx p c meth m s args cc nL rt own D cA ad NL A) (hl : ls.size = nL) {index : Nat} {x y : Int32} (hlk : Cond.methodLink own index Lib.Math.min.name ∈ gTB) (hst : Cond.static Lib.Math.min.name ∈ gTB) (hini : Cond.initialized "java/lang/Math" ∈ gTB) (hco : Cond.code Lib.Math.min.name Lib.Math.min.code 2 (some .int) ∈ gTB) (hrm : 1 ≤ R.frames ∧ (rest.map fun v => v.category).sum + 13 ≤ R.locals ∧ cells ≤ R.cells ∧ slots ≤ R.slots) (hdg : decode cc pc = .ok (.invokestatic index, 3))
    (kk : W p l e R s m args below meth c H locs cells slots Q (F0 m (pc + 3) ls (.int (if y < x then y else x) :: rest))) : W p l e R s m args below meth c H locs cells slots Q (F0 m pc ls (.int y :: .int x :: rest)) := by
  obtain ⟨hx, hb, hml, hown, hts, hr, hlk0, hK, hN, hD, hA⟩ := C
  exact va_mmin hx hb (hml.trans hl.symm) hown (hts _ hlk) (hts _ hst) (hts _ hini) (hts _ hco) hrm.1 hrm.2.1 hrm.2.2.1 hrm.2.2.2 hdg kk
theorem r_mabs (C : gCx p c meth m s args cc nL rt own D cA ad NL A) (hl : ls.size = nL) {index : Nat} {x : Int32} (hlk : Cond.methodLink own index Lib.Math.abs.name ∈ gTB) (hst : Cond.static Lib.Math.abs.name ∈ gTB) (hini : Cond.initialized "java/lang/Math" ∈ gTB) (hco : Cond.code Lib.Math.abs.name Lib.Math.abs.code 1 (some .int) ∈ gTB) (hrm : 1 ≤ R.frames ∧ (rest.map fun v => v.category).sum + 13 ≤ R.locals ∧ cells ≤ R.cells ∧ slots ≤ R.slots) (hdg : decode cc pc = .ok (.invokestatic index, 3))
    (kk : W p l e R s m args below meth c H locs cells slots Q (F0 m (pc + 3) ls (.int (if 0 ≤ x then x else 0 - x) :: rest))) : W p l e R s m args below meth c H locs cells slots Q (F0 m pc ls (.int x :: rest)) := by
  obtain ⟨hx, hb, hml, hown, hts, hr, hlk0, hK, hN, hD, hA⟩ := C
  exact va_mabs hx hb (hml.trans hl.symm) hown (hts _ hlk) (hts _ hst) (hts _ hini) (hts _ hco) hrm.1 hrm.2.1 hrm.2.2.1 hrm.2.2.2 hdg kk
end GCALL
theorem gsome (a : Nat) : va_rf (some a) = .ref a := rfl
/-- a call's answer and memory -/
def bind2 {α : Type} (o : Option (Int32 × gM)) (f : Int32 → gM → Option α) : Option α := match o with
  | none => none
  | some q => f q.1 q.2
theorem b2_in {α : Type} {o : Option (Int32 × gM)} {f : Int32 → gM → Option α} {r : α} (h : bind2 o f = some r) : ∃ a X, o = some (a, X) ∧ f a X = some r := by
  cases o with
  | none => cases h
  | some q => exact ⟨q.1, q.2, rfl, h⟩
theorem g_int {x z : Int32} (h : x.toInt = z.toInt) : x = z := Int32.toInt_inj.mp h
theorem g_tab3 {x : Int32} (h0 : ¬ x = 0) (h1 : ¬ x = 1) (h2 : ¬ x = 2) : x.toInt < 0 ∨ 2 < x.toInt := by
  rcases Int.lt_or_le x.toInt 0 with q | q
  · exact Or.inl q
  · rcases Int.lt_or_le 2 x.toInt with q2 | q2
    · exact Or.inr q2
    · exfalso
      have q3 : x.toInt = 0 ∨ x.toInt = 1 ∨ x.toInt = 2 := by omega
      rcases q3 with q3 | q3 | q3
      · exact h0 (g_int q3)
      · exact h1 (g_int q3)
      · exact h2 (g_int q3)
def msl (X : gM) (K i : Nat) (x : Nat → Int32) : gM := fun K' i' => if K' = K ∧ i' = i then x else X K' i'
theorem msl_ne {X : gM} {K i K' i' : Nat} {x : Nat → Int32} (h : ¬ (K' = K ∧ i' = i)) : msl X K i x K' i' = X K' i' := by simp [msl, h]
theorem msl_eq (X : gM) (K i : Nat) (x : Nat → Int32) : msl X K i x K i = x := by simp [msl]
theorem gw_setS {A : Nat → Prop} {cA : Nat → ClassId} {ad : Nat → Nat → Nat} {NL : List (Nat × Nat)} {X : gM} {K i q0 : Nat} {x : Nat → Int32} {e : va_E} (hD : gD A ad NL) (hq : NL[q0]? = some (K, i)) (he : ct cA ad K i x = e) : (gw cA ad NL X).set q0 (ad K i, e) = gw cA ad NL (msl X K i x) := by
  subst he
  apply List.ext_getElem?
  intro q
  by_cases h : q = q0
  · subst h
    have hl : q < (gw cA ad NL X).length := by
      have := (List.getElem?_eq_some_iff.mp hq).1
      simpa [gw] using this
    rw [List.getElem?_set_self hl]
    simp [gw, hq, msl_eq]
  · rw [List.getElem?_set_ne (fun e => h e.symm)]
    unfold gw
    rw [List.getElem?_map, List.getElem?_map]
    cases hn : NL[q]? with
    | none => rfl
    | some n =>
      have hne : ¬ (n.1 = K ∧ n.2 = i) := by
        rintro ⟨h1, h2⟩
        exact h (hD.1 q q0 n (K, i) hn hq (by rw [h1, h2]))
      show some (ad n.1 n.2, ct cA ad n.1 n.2 (X n.1 n.2)) = some (ad n.1 n.2, ct cA ad n.1 n.2 (msl X K i x n.1 n.2))
      rw [msl_ne hne]
/-- a stretch of one row copied onto another -/
def cpok (sp dp n : Int32) (n0 n1 : Nat) : Option Int32 := if ¬ sp < 0 ∧ ¬ dp < 0 ∧ ¬ n < 0 ∧ sp.toNatClampNeg + n.toNatClampNeg ≤ n0 ∧ dp.toNatClampNeg + n.toNatClampNeg ≤ n1 then some n else none
theorem cpok_in {α : Type} {sp dp n : Int32} {n0 n1 : Nat} {f : Int32 → Option α} {r : α} (h : (cpok sp dp n n0 n1).bind f = some r) : (¬ sp < 0 ∧ ¬ dp < 0 ∧ ¬ n < 0 ∧ sp.toNatClampNeg + n.toNatClampNeg ≤ n0 ∧ dp.toNatClampNeg + n.toNatClampNeg ≤ n1) ∧ f n = some r := by
  unfold cpok at h
  split at h
  · next hq => exact ⟨hq, h⟩
  · cases h
/-- the first n places of a row, all v -/
def mfill (X : gM) (K i n : Nat) (v : Int32) : gM := msl X K i (fun j => if j < n then v else X K i j)
theorem mfill_0 (X : gM) (K i : Nat) (v : Int32) : mfill X K i 0 v = X := by
  funext K' i'
  by_cases h : K' = K ∧ i' = i
  · obtain ⟨rfl, rfl⟩ := h
    rw [mfill, msl_eq]
    simp
  · rw [mfill, msl_ne h]
theorem mfill_s (X : gM) (K i k : Nat) (v : Int32) : mset (mfill X K i k v) K i k v = mfill X K i (k + 1) v := by
  funext K' i'
  by_cases h : K' = K ∧ i' = i
  · obtain ⟨rfl, rfl⟩ := h
    rw [mset_eq, mfill, mfill, msl_eq, msl_eq]
    funext j
    unfold upd
    by_cases e : j = k
    · subst e; simp
    · have : j < k + 1 ↔ j < k := by omega
      simp [e, this]
  · rw [mset_ne h, mfill, msl_ne h, mfill, msl_ne h]
section GMORE
variable {p : Program} {l : Launch} {e : Env} {R : Room} {s : State} {m : MethodId} {args : Array Value} {below : List Frame} {meth : Method} {c : Code} {H : Heap} {locs : List Loc} {cells slots : Nat} {Q : State → Prop} {cc : ByteArray} {pc nL : Nat} {rt : Option FieldType} {own : String} {ls : Array Slot} {rest : List Value} {D : va_G} {cA : Nat → ClassId} {ad : Nat → Nat → Nat} {NL : List (Nat × Nat)} {A : Nat → Prop} {X : gM}
theorem g_adinj (hD : gD A ad NL) {K i j : Nat} (h1 : (K, i) ∈ NL) (h2 : (K, j) ∈ NL) (e : ad K i = ad K j) : i = j := by
  obtain ⟨a, ha⟩ := List.mem_iff_getElem?.mp h1
  obtain ⟨b, hb⟩ := List.mem_iff_getElem?.mp h2
  have := hD.1 a b (K, i) (K, j) ha hb e
  subst this
  rw [ha] at hb
  exact (Prod.mk.inj (Option.some.inj hb)).2
theorem r_acmp_eq {K i j : Nat} (C : gCx p c meth m s args cc nL rt own D cA ad NL A) (h1 : (K, i) ∈ NL) (h2 : (K, j) ∈ NL) {off : Int} {tgt : Nat} (hdg : decode cc pc = .ok (.if_acmp .eq off, 3)) (ht : (pc : Int) + off = (tgt : Int))
    (kt : i = j → W p l e R s m args below meth c H locs cells slots Q (F0 m tgt ls rest)) (kf : ¬ i = j → W p l e R s m args below meth c H locs cells slots Q (F0 m (pc + 3) ls rest)) : W p l e R s m args below meth c H locs cells slots Q (F0 m pc ls (.ref (ad K j) :: .ref (ad K i) :: rest)) :=
  lv_acmp_eq (rx := some (ad K i)) (ry := some (ad K j)) C.1 C.2.1 hdg ht (fun h => kt (g_adinj C.2.2.2.2.2.2.2.2.2.1 h1 h2 (Option.some.inj h))) (fun h => kf (fun e => h (by rw [e])))
theorem r_acmp_ne {K i j : Nat} (C : gCx p c meth m s args cc nL rt own D cA ad NL A) (h1 : (K, i) ∈ NL) (h2 : (K, j) ∈ NL) {off : Int} {tgt : Nat} (hdg : decode cc pc = .ok (.if_acmp .ne off, 3)) (ht : (pc : Int) + off = (tgt : Int))
    (kt : ¬ i = j → W p l e R s m args below meth c H locs cells slots Q (F0 m tgt ls rest)) (kf : i = j → W p l e R s m args below meth c H locs cells slots Q (F0 m (pc + 3) ls rest)) : W p l e R s m args below meth c H locs cells slots Q (F0 m pc ls (.ref (ad K j) :: .ref (ad K i) :: rest)) :=
  lv_acmp_ne (rx := some (ad K i)) (ry := some (ad K j)) C.1 C.2.1 hdg ht (fun h => kt (fun e => h (by rw [e]))) (fun h => kf (g_adinj C.2.2.2.2.2.2.2.2.2.1 h1 h2 (Option.some.inj h)))
theorem r_copy (C : gCx p c meth m s args cc nL rt own D cA ad NL A) (hP : gH D cA ad NL X H) (hS : va_S A s.heap H locs) (hls : ls.size = nL) {index K i0 i1 n0 n1 : Nat} {sp dp n : Int32} (hlk : Cond.methodLink own index arraycopyName ∈ gTB) (hw : Cond.native arraycopyName ∈ lw_tbl ∧ Cond.static arraycopyName ∈ gTB ∧ Cond.initialized "java/lang/System" ∈ gTB) (hnat : (Cond.native arraycopyName).before args s = true) (hm0 : (K, i0) ∈ NL) (hm1 : (K, i1) ∈ NL) (hct0 : ∀ x : Nat → Int32, ct cA ad K i0 x = .inl (cA 0, n0, .inl x)) (hct1 : ∀ x : Nat → Int32, ct cA ad K i1 x = .inl (cA 0, n1, .inl x))
    (hb5 : ¬ sp < 0 ∧ ¬ dp < 0 ∧ ¬ n < 0 ∧ sp.toNatClampNeg + n.toNatClampNeg ≤ n0 ∧ dp.toNatClampNeg + n.toNatClampNeg ≤ n1) (hrm : 1 ≤ R.frames ∧ (rest.map fun v => v.category).sum + (nativeFrameWords "java/lang/System" "arraycopy" 5 + 11) ≤ R.locals) (hdg : decode cc pc = .ok (.invokestatic index, 3))
    (kk : ∀ (H : Heap) (locs : List Loc), gH D cA ad NL (msl X K i1 (va_cpy (X K i0) (X K i1) sp.toNatClampNeg dp.toNatClampNeg n.toNatClampNeg)) H → va_S A s.heap H locs → W p l e R s m args below meth c H locs cells slots Q (F0 m (pc + 3) ls rest)) : W p l e R s m args below meth c H locs cells slots Q (F0 m pc ls (.int n :: .int dp :: .ref (ad K i1) :: .int sp :: .ref (ad K i0) :: rest)) := by
  obtain ⟨hx, hb, hml, hown, hts, hr, hlk0, hK, hN, hD, hA⟩ := C
  obtain ⟨q0, hq0, hw0⟩ := gw_at (cA := cA) (ad := ad) (X := X) hm0
  obtain ⟨q1, hq1, hw1⟩ := gw_at (cA := cA) (ad := ad) (X := X) hm1
  rw [hct0] at hw0
  rw [hct1] at hw1
  exact va_copyi hx hb (hml.trans hls.symm) hown (hts _ hlk) hnat (hts _ hw.2.1) (hts _ hw.2.2) hK hP (gD_gw X hD) hS q0 q1 0 0 hw0 hw1 rfl rfl rfl hb5.1 hb5.2.1 hb5.2.2.1 hb5.2.2.2.1 hb5.2.2.2.2 (fun _ _ => rfl) hrm.1 hrm.2 hdg (fun H1 locs1 h2 _ h4 => kk H1 locs1 (by unfold gH; rw [← gw_setS hD hq1 (hct1 _)]; exact h2) h4)
end GMORE
