/-! ends, entries and calls, over the world of named cells -/
section GCALL
variable {p : Program} {l : Launch} {e : Env} {R : Room} {s : State} {m : MethodId} {args : Array Value} {below : List Frame} {meth : Method} {c : Code} {H : Heap} {locs : List Loc} {cells slots : Nat} {Q : State → Prop} {cc : ByteArray} {pc nL : Nat} {rt : Option FieldType} {own : String} {ls : Array Slot} {rest : List Value} {D : va_G} {cA : Nat → ClassId} {ad : Nat → Nat → Nat} {NL : List (Nat × Nat)} {A : Nat → Prop} {X : gM}
theorem r_iret (C : gCx p c meth m s args cc nL (some .int) own D cA ad NL A) (hP : gH D cA ad NL X H) (hS : va_S A s.heap H locs) {v : Int32} (hdg : decode cc pc = .ok (.ireturn, 1)) : W p l e R s m args below meth c H locs cells slots (MQ below (gQ D cA ad NL (some (.int v)) X A) args s cells slots A) (F0 m pc ls [.int v]) := by
  obtain ⟨hx, hb, hml, hown, hts, hr, hlk, hK, hN, hD, hA⟩ := C
  exact W.iret (v := v) hx hb hr (fun t ht hW => ⟨rfl, by rw [ht]; exact hP, hS.F ht⟩) hS.2.2 hdg hlk
theorem r_zret (C : gCx p c meth m s args cc nL (some .boolean) own D cA ad NL A) (hP : gH D cA ad NL X H) (hS : va_S A s.heap H locs) {v : Int32} (hz : v = 0 ∨ v = 1) (hdg : decode cc pc = .ok (.ireturn, 1)) : W p l e R s m args below meth c H locs cells slots (MQ below (gQ D cA ad NL (some (.int v)) X A) args s cells slots A) (F0 m pc ls [.int v]) := by
  obtain ⟨hx, hb, hml, hown, hts, hr, hlk, hK, hN, hD, hA⟩ := C
  exact W.zret (v := v) hx hb hr (nar_z hz) (fun t ht hW => ⟨rfl, by rw [ht]; exact hP, hS.F ht⟩) hS.2.2 hdg hlk
theorem r_vret (C : gCx p c meth m s args cc nL none own D cA ad NL A) (hP : gH D cA ad NL X H) (hS : va_S A s.heap H locs) (hdg : decode cc pc = .ok (.return_, 1)) : W p l e R s m args below meth c H locs cells slots (MQ below (gQ D cA ad NL none X A) args s cells slots A) (F0 m pc ls []) := by
  obtain ⟨hx, hb, hml, hown, hts, hr, hlk, hK, hN, hD, hA⟩ := C
  exact W.vret hx hb hr (fun t ht hW => ⟨rfl, by rw [ht]; exact hP, hS.F ht⟩) hS.2.2 hdg hlk
theorem r_aret {n : String} (C : gCx p c meth m s args cc nL (some (.object n)) own D cA ad NL A) (hP : gH D cA ad NL X H) (hS : va_S A s.heap H locs) {r : Option Nat} (hdg : decode cc pc = .ok (.areturn, 1)) : W p l e R s m args below meth c H locs cells slots (MQ below (gQ D cA ad NL (some (va_rf r)) X A) args s cells slots A) (F0 m pc ls [va_rf r]) := by
  obtain ⟨hx, hb, hml, hown, hts, hr, hlk, hK, hN, hD, hA⟩ := C
  exact W.aret (v := va_rf r) hx hb hr (Or.inl ⟨n, rfl⟩) (by cases r with | none => exact Or.inl rfl | some a => exact Or.inr ⟨a, rfl⟩) (fun t ht hW => ⟨rfl, by rw [ht]; exact hP, hS.F ht⟩) hS.2.2 hdg hlk
/-- a method's contract out of the walk of its body -/
theorem g_ofW {y : MethodName} {rm : Room} {av : List Value} {r : Option Value} {X' : gM} {lv : List (Nat × Value)} (hy : plainName y.cls = true) (hD : gD (fun _ => True) ad NL) (hn : (lg_sl av).length ≤ nL) (hlv : lv_args 0 av = lv)
    (body : ∀ (p : Program) (e : Env) (s : State) (m : MethodId) (below : List Frame) (meth : Method) (c : Code) (ls : Array Slot), gCx p c meth m s av.toArray cc nL rt y.cls D cA ad NL (gA ad NL s.heap.size) → gH D cA ad NL X s.heap → va_S (gA ad NL s.heap.size) s.heap s.heap [] → lv_has ls nL lv →
      W p l e rm s m av.toArray below meth c s.heap [] 0 0 (MQ below (gQ D cA ad NL r X' (gA ad NL s.heap.size)) av.toArray s 0 0 (gA ad NL s.heap.size)) (F0 m 0 ls [])) : gC l y cc nL rt rm D cA ad NL av X r X' := by
  intro sz
  refine Met.ofW (cc := cc) (maxL := nL) (ret := rt) hy rfl ?_
  intro p e s m args below meth c s₁ B hml hv
  obtain ⟨rfl, rfl, hP, hK, hN⟩ := hv
  have hts := atoms_spec (ws := .code y cc nL rt :: gTB) B.pre
  have hl := lv_entry av hn
  rw [hlv] at hl
  have hb := body p e s m below meth c _ ⟨B.exec, B.bytes, hml, findClass_of_methodNamed B.named, fun w hw => hts w (List.mem_cons_of_mem _ hw), B.returns, B.notSynchronized, hK, hN, gD_in hD (fun n hn => Or.inl ⟨n, hn, rfl⟩), fun q hq => Or.inr hq⟩ hP va_S.rf hl
  rw [lg_entry_eq]
  exact hb
theorem gA_sub (C : gCx p c meth m s args cc nL rt own D cA ad NL A) (hS : va_S A s.heap H locs) : ∀ q, gA ad NL H.size q → A q := by
  obtain ⟨hx, hb, hml, hown, hts, hr, hlk, hK, hN, hD, hA⟩ := C
  rintro q (⟨n, hn, rfl⟩ | h)
  · exact hD.2 n hn
  · exact hA q (Nat.le_trans hS.1 h)
theorem r_call {r : Option Value} {X1 : gM} {st0 : List Value} {a : Array Value} (C : gCx p c meth m s args cc nL rt own D cA ad NL A) (hr : va_Run p l e R s m args below meth c H locs cells slots 0 0 (F0 m pc ls st0) rest (gQ D cA ad NL r X1 (gA ad NL H.size) a) (gA ad NL H.size)) (hS : va_S A s.heap H locs)
    (kk : ∀ (H : Heap) (locs : List Loc), gH D cA ad NL X1 H → va_S A s.heap H locs → W p l e R s m args below meth c H locs cells slots Q (F0 m (pc + 3) ls (r.toList ++ rest))) : W p l e R s m args below meth c H locs cells slots Q (F0 m pc ls st0) := by
  intro T hT X
  obtain ⟨v, st₀, t, T', L, h0, X', hL, e1, e2, ⟨hv, hP1, hz, hk⟩, st⟩ := hr T hT X
  cases hv
  have hA := gA_sub C hS
  rw [h0] at hz hk
  obtain ⟨t2, a1, b1⟩ := kk T'.heap (locs ++ L) (by rw [e1]; exact hP1)
    ⟨Nat.le_trans hS.1 (by rw [e1]; exact hz), fun q h1 h2 => by rw [e1, hk q (Nat.lt_of_lt_of_le h1 hS.1) (fun z => h2 (hA q z))]; exact hS.2.1 q h1 h2, fun q hq => by
      rcases List.mem_append.mp hq with h | h
      · exact hS.2.2 q h
      · exact hA _ (hL q h)⟩ T' rfl X'
  exact ⟨t2, st t2 a1, b1⟩
/-- what the tables say of a method that is called -/
def gI (y : MethodName) (cc : ByteArray) (nL : Nat) (rt : Option FieldType) (n : Nat) : Prop := Cond.code y cc nL rt ∈ gTB ∧ Cond.initialized y.cls ∈ gTB ∧ (y.cls ≠ "java/lang/invoke/MethodHandle" ∧ y.cls ≠ "java/lang/invoke/VarHandle" ∧ (parseMethodDescriptor y.desc).map (fun d => d.parameters.length) = some n)
def gIV (y : MethodName) : Prop := Cond.instanceMethod y ∈ gTB ∧ Cond.selects y.cls y y ∈ gTB
def gLk (own : String) (index : Nat) (y : MethodName) : Prop := (Cond.methodLink own index y ∈ gTB) ∨ ∃ host : String, Cond.methodLinkNest own index y host ∈ gNB
def gRm (rm R : Room) (nL : Nat) : Prop := rm.cells = 0 ∧ rm.slots = 0 ∧ rm.frames + 1 ≤ R.frames ∧ 8 + (nL + 11) + rm.locals ≤ R.locals
theorem g_cb {y : MethodName} {cc2 : ByteArray} {nL2 n index : Nat} {rt2 : Option FieldType} {rm : Room} (C : gCx p c meth m s args cc nL rt own D cA ad NL A) (hi : gI y cc2 nL2 rt2 n) (hlk : Cond.methodLink own index y ∈ gTB) (hrm : gRm rm R nL2) : CallB R s args own index y cc2 nL2 rt2 (.code y cc2 nL2 rt2 :: gTB) rm 0 0 n := by
  obtain ⟨hx, hb, hml, hown, hts, hr, hlk0, hK, hN, hD, hA⟩ := C
  have hts2 : ∀ w ∈ (Cond.code y cc2 nL2 rt2 :: gTB), w.before args s = true := fun w hw => by
    rcases List.mem_cons.mp hw with rfl | hw
    · exact hts _ hi.1
    · exact hts _ hw
  exact callB_of n hts2 (gGood hi.1) rfl hrm.1 hrm.2.1 (hts _ hi.2.1) (hts _ hlk) hi.2.2 hrm.2.2
theorem g_cn {y : MethodName} {cc2 : ByteArray} {nL2 n index : Nat} {rt2 : Option FieldType} {rm : Room} {host : String} (C : gCx p c meth m s args cc nL rt own D cA ad NL A) (hi : gI y cc2 nL2 rt2 n) (hlk : Cond.methodLinkNest own index y host ∈ gNB) (hrm : gRm rm R nL2) : va_CN R s args own index y host cc2 nL2 rt2 (.code y cc2 nL2 rt2 :: gTB) rm 0 0 n := by
  obtain ⟨hx, hb, hml, hown, hts, hr, hlk0, hK, hN, hD, hA⟩ := C
  have hts2 : ∀ w ∈ (Cond.code y cc2 nL2 rt2 :: gTB), w.before args s = true := fun w hw => by
    rcases List.mem_cons.mp hw with rfl | hw
    · exact hts _ hi.1
    · exact hts _ hw
  exact va_cnB n hts2 (gGood hi.1) rfl hrm.1 hrm.2.1 (hN _ hlk) (hts _ hi.2.1) hi.2.2 hrm.2.2
theorem gU_of {sz : Nat} {av : List Value} (C : gCx p c meth m s args cc nL rt own D cA ad NL A) (hP : gH D cA ad NL X H) (hsz : sz = H.size) : ∀ U : State, U.heap = H → s.WarmedH U.vm → va_Pc av (gU D cA ad NL X sz) av.toArray U := by
  obtain ⟨hx, hb, hml, hown, hts, hr, hlk0, hK, hN, hD, hA⟩ := C
  subst hsz
  intro U hU hW
  exact ⟨rfl, by rw [hU], by rw [hU]; exact hP, va_K.moved hW.alike hK, gNW.moved hW hN⟩
/-- an instance method is called -/
theorem r_cV {y : MethodName} {cc2 : ByteArray} {nL2 n index Kb ib ci : Nat} {rt2 : Option FieldType} {rm : Room} {r : Option Value} {X1 : gM} {As st0 : List Value} {fs : List Value} {q : vw_C} (C : gCx p c meth m s args cc nL rt own D cA ad NL A) (hP : gH D cA ad NL X H) (hS : va_S A s.heap H locs) (hl : ls.size = nL)
    (hM : gC l y cc2 nL2 rt2 rm D cA ad NL (.ref (ad Kb ib) :: As) X r X1) (hi : gI y cc2 nL2 rt2 n) (hv : gIV y) (hlk : gLk own index y) (hrm : gRm rm R nL2) (hm : (Kb, ib) ∈ NL) (hct : ct cA ad Kb ib (X Kb ib) = .inr (ci, fs)) (hcl : vwCl[ci]? = some q) (hqy : q.1 = y.cls) (hn : As.length = n) (hst : st0 = As.reverse ++ .ref (ad Kb ib) :: rest) (hW : (rest.map fun v => v.category).sum ≤ 8) (hf : cells ≤ R.cells ∧ slots ≤ R.slots) (hdg : decode cc pc = .ok (.invokevirtual index, 3))
    (kk : ∀ (H : Heap) (locs : List Loc), gH D cA ad NL X1 H → va_S A s.heap H locs → W p l e R s m args below meth c H locs cells slots Q (F0 m (pc + 3) ls (r.toList ++ rest))) : W p l e R s m args below meth c H locs cells slots Q (F0 m pc ls st0) := by
  have C' := C
  obtain ⟨hx, hb, hml, hown, hts, hr, hlk0, hK, hN, hD, hA⟩ := C
  obtain ⟨q0, hq, hw⟩ := gw_at (cA := cA) (ad := ad) (X := X) hm
  rw [hct] at hw
  have hrec := va_recv hK hP hcl hw
  rw [hqy] at hrec
  subst hst
  rcases hlk with hlk | ⟨host, hlk⟩
  · exact r_call C' (va_runV (As := As) (rest := rest) ⟨hx, hb, hml, hown, hts⟩ (hM H.size) ⟨g_cb C' hi hlk hrm, hts _ hv.1, hts _ hv.2⟩ ⟨gU_blind, hrec, gU_of C' hP rfl⟩ rfl hn hl rfl (lv_room hW) hdg ⟨hf.1, hf.2⟩) hS kk
  · exact r_call C' (va_runVN (As := As) (rest := rest) ⟨hx, hb, hml, hown, hts⟩ (hM H.size) ⟨g_cn C' hi hlk hrm, hts _ hv.1, hts _ hv.2⟩ ⟨gU_blind, hrec, gU_of C' hP rfl⟩ rfl hn hl rfl (lv_room hW) hdg ⟨hf.1, hf.2⟩) hS kk
/-- a static method is called -/
theorem r_cS {y : MethodName} {cc2 : ByteArray} {nL2 n index : Nat} {rt2 : Option FieldType} {rm : Room} {r : Option Value} {X1 : gM} {As st0 : List Value} (C : gCx p c meth m s args cc nL rt own D cA ad NL A) (hP : gH D cA ad NL X H) (hS : va_S A s.heap H locs) (hl : ls.size = nL)
    (hM : gC l y cc2 nL2 rt2 rm D cA ad NL As X r X1) (hi : gI y cc2 nL2 rt2 n) (hv : Cond.static y ∈ gTB) (hlk : Cond.methodLink own index y ∈ gTB) (hrm : gRm rm R nL2) (hn : As.length = n) (hst : st0 = As.reverse ++ rest) (hW : (rest.map fun v => v.category).sum ≤ 8) (hf : cells ≤ R.cells ∧ slots ≤ R.slots) (hdg : decode cc pc = .ok (.invokestatic index, 3))
    (kk : ∀ (H : Heap) (locs : List Loc), gH D cA ad NL X1 H → va_S A s.heap H locs → W p l e R s m args below meth c H locs cells slots Q (F0 m (pc + 3) ls (r.toList ++ rest))) : W p l e R s m args below meth c H locs cells slots Q (F0 m pc ls st0) := by
  have C' := C
  obtain ⟨hx, hb, hml, hown, hts, hr, hlk0, hK, hN, hD, hA⟩ := C
  subst hst
  exact r_call C' (va_runS (As := As) (rest := rest) ⟨hx, hb, hml, hown, hts⟩ (hM H.size) ⟨g_cb C' hi hlk hrm, hts _ hv⟩ ⟨gU_blind, gU_of C' hP rfl⟩ rfl hn hl rfl (lv_room hW) hdg ⟨hf.1, hf.2⟩) hS kk
end GCALL
