/-! the law's own small methods: a call of the class, its answer kept or its throw told by a number -/
/-- none of the three exceptions is another one -/
def gNc (U : State) : Prop := ∀ i j : Nat, (i = 1 ∨ i = 2 ∨ i = 3) → (j = 1 ∨ j = 2 ∨ j = 3) → i ≠ j → va_Nc (gXC i) (gXC j) U
theorem gNc.moved {u U : State} (hvm : u.vm.Alike U.vm) (h : gNc u) : gNc U := fun i j hi hj hne => va_Nc.moved hvm (h i j hi hj hne)
def gUL (D : va_G) (cA : Nat → ClassId) (ad : Nat → Nat → Nat) (NL : List (Nat × Nat)) (X : gM) (sz : Nat) : State → Prop := fun U => gUxa D cA ad NL X sz U ∧ gNc U
theorem gUxa_blind {D : va_G} {cA : Nat → ClassId} {ad : Nat → Nat → Nat} {NL : List (Nat × Nat)} {X : gM} {sz : Nat} {av : List Value} : FrameBlind (va_Pc av (gUxa D cA ad NL X sz)) := by
  intro a U g mk q
  obtain ⟨q0, q1, q2⟩ := q
  have h1 := gUx_blind (D := D) (cA := cA) (ad := ad) (NL := NL) (X := X) (sz := sz) (av := av) a U g mk ⟨q0, q1⟩
  exact ⟨q0, h1.2, gAW.moved (u := U) (U := U.calling g mk a) (Vm.Alike.refl U.vm) q2⟩
theorem gUL_blind {D : va_G} {cA : Nat → ClassId} {ad : Nat → Nat → Nat} {NL : List (Nat × Nat)} {X : gM} {sz : Nat} {av : List Value} : FrameBlind (va_Pc av (gUL D cA ad NL X sz)) := by
  intro a U g mk q
  obtain ⟨q0, q1, q2⟩ := q
  have h1 := gUxa_blind (D := D) (cA := cA) (ad := ad) (NL := NL) (X := X) (sz := sz) (av := av) a U g mk ⟨q0, q1⟩
  exact ⟨q0, h1.2, gNc.moved (u := U) (U := U.calling g mk a) (Vm.Alike.refl U.vm) q2⟩
theorem gCX_A {l : Launch} {y : MethodName} {cc : ByteArray} {nL : Nat} {rt : Option FieldType} {rm : Room} {D : va_G} {cA : Nat → ClassId} {ad : Nat → Nat → Nat} {NL : List (Nat × Nat)} {av : List Value} {X : gM} {k : Nat} {r : Option Value} {X' : gM} {sz : Nat} (h : gCX l y cc nL rt rm D cA ad NL av X k r X') : gCXA l y cc nL rt rm 1 6 D cA ad NL av X k r [] X' sz := by
  unfold gCXA
  rw [List.append_nil]
  intro p e ha hc hk s m args below hf hap hP ht
  exact h sz p e ha hc hk s m args below hf hap ⟨hP.1, hP.2.1⟩ ht
/-- a small method of the law: it answers r, leaves X', and the names nw are new -/
def gCL (l : Launch) (y : MethodName) (cc : ByteArray) (nL : Nat) (hh : List (Nat × Nat × Nat × Nat)) (rm : Room) (mc ms : Nat) (D : va_G) (cA : Nat → ClassId) (ad : Nat → Nat → Nat) (NL : List (Nat × Nat)) (av : List Value) (X : gM) (r : Int32) (nw : List (Nat × Nat)) (X' : gM) (sz : Nat) : Prop :=
  Met l y (.codeWith y cc nL (some .int) hh :: gTB) rm (va_Pc av (gUL D cA ad NL X sz)) (gQ D cA ad (NL ++ nw) (some (.int r)) X' (gA ad NL sz)) mc ms (gA ad NL sz)
theorem gIn01 : gIn (0 : Int32) 1 0 := ⟨by unfold vp_in; decide, rfl⟩
/-- a call's outcome: 0 or the number of what it threw, the answer, the memory -/
def bind3 {α : Type} (o : Option (Nat × Int32 × gM)) (f : Nat → Int32 → gM → Option α) : Option α := match o with
  | none => none
  | some q => f q.1 q.2.1 q.2.2
theorem b3_in {α : Type} {o : Option (Nat × Int32 × gM)} {f : Nat → Int32 → gM → Option α} {r : α} (h : bind3 o f = some r) : ∃ k a X, o = some (k, a, X) ∧ f k a X = some r := by
  cases o with
  | none => cases h
  | some q => exact ⟨q.1, q.2.1, q.2.2, rfl, h⟩
section GLAW
variable {p : Program} {l : Launch} {e : Env} {R : Room} {s : State} {m : MethodId} {args : Array Value} {below : List Frame} {meth : Method} {c : Code} {H : Heap} {locs : List Loc} {cells slots : Nat} {Q : State → Prop} {cc : ByteArray} {pc nL : Nat} {rt : Option FieldType} {own : String} {ls : Array Slot} {rest : List Value} {D : va_G} {cA : Nat → ClassId} {ad : Nat → Nat → Nat} {NL nw : List (Nat × Nat)} {A : Nat → Prop} {X : gM} {mc ms : Nat}
/-- what holds in the body of a small method of the law -/
def gCxL (p : Program) (c : Code) (meth : Method) (m : MethodId) (s : State) (args : Array Value) (cc : ByteArray) (nL : Nat) (hh : List (Nat × Nat × Nat × Nat)) (D : va_G) (cA : Nat → ClassId) (ad : Nat → Nat → Nat) (NL : List (Nat × Nat)) (A : Nat → Prop) : Prop :=
  gCx p c meth m s args cc nL (some .int) RL D cA ad NL A ∧ gEW s ∧ gZ A s s.heap ∧ gAW s ∧ gNc s ∧ c.exceptionTable.toList = tableOf hh
theorem g_ofL {y : MethodName} {hh : List (Nat × Nat × Nat × Nat)} {rm : Room} {av : List Value} {r : Int32} {X' : gM} {sz : Nat} {lv : List (Nat × Value)} (hy : plainName y.cls = true) (hyL : y.cls = RL) (hD : gD (fun _ => True) ad NL) (hn : (lg_sl av).length ≤ nL) (hlv : lv_args 0 av = lv)
    (body : ∀ (p : Program) (e : Env) (s : State) (m : MethodId) (below : List Frame) (meth : Method) (c : Code) (ls : Array Slot), s.heap.size = sz → gCxL p c meth m s av.toArray cc nL hh D cA ad NL (gA ad NL sz) → gH D cA ad NL X s.heap → va_S (gA ad NL sz) s.heap s.heap [] → lv_has ls nL lv →
      W p l e rm s m av.toArray below meth c s.heap [] 0 0 (MQ below (gQ D cA ad (NL ++ nw) (some (.int r)) X' (gA ad NL sz)) av.toArray s mc ms (gA ad NL sz)) (F0 m 0 ls [])) : gCL l y cc nL hh rm mc ms D cA ad NL av X r nw X' sz := by
  unfold gCL Met
  refine MetFree.of_bodyS (code := cc) (maxLocals := nL) (ret := some .int) hy ?_ ?_
  · intro args s m h hn
    obtain ⟨m9, meth, c, hn9, h1, h2, h3, h4, -, h5, h6, -⟩ := Cond.codeWith_spec (atoms_spec (ws := .codeWith y cc nL (some .int) hh :: gTB) h _ List.mem_cons_self)
    cases hn.symm.trans hn9
    exact ⟨meth, c, h1, h2, h3, h4, h5, h6⟩
  · intro p e s m args below meth c s₁ B hml0 hP0 _
    obtain ⟨rfl, ⟨⟨⟨rfl, hP, hK, hN⟩, hE, hZ⟩, hAW⟩, hNc⟩ := hP0
    have hts := atoms_spec (ws := .codeWith y cc nL (some .int) hh :: gTB) B.pre
    have htab : c.exceptionTable.toList = tableOf hh := vx_table (x := y) B (hts _ List.mem_cons_self)
    have hml : c.maxLocals = nL := hml0
    have hl := lv_entry av hn
    rw [hlv] at hl
    have hown : s.vm.findClass y.cls = some m.cls := findClass_of_methodNamed B.named
    rw [hyL] at hown
    have hb := body p e s m below meth c _ rfl ⟨⟨B.exec, B.bytes, hml, hown, fun w hw => hts w (List.mem_cons_of_mem _ hw), B.returns, B.notSynchronized, hK, hN, gD_in hD (fun n hn => Or.inl ⟨n, hn, rfl⟩), fun q hq => Or.inr hq⟩, hE, hZ, hAW, hNc, htab⟩ hP va_S.rf hl
    have hh0 : s₁.heap = s.heap := by rw [B.state]; rfl
    rw [lg_entry_eq]
    have K := hb
    obtain ⟨t, a1, o, b1, b2, b3⟩ := (show W p l e rm s m av.toArray below meth c s₁.heap [] 0 0 _ _ from by rw [hh0]; exact K) s₁ rfl (Stand.of_body B)
    exact ⟨t, o, a1, b1, b2, b3⟩
/-- a public method of the class is called: it returns or throws -/
theorem r_callX {y : MethodName} {cc2 : ByteArray} {nL2 n index ci Kb ib k : Nat} {rt2 : Option FieldType} {rm : Room} {r : Option Value} {X1 : gM} {As st0 : List Value} {fs : List Value} {q : vw_C} {sz : Nat} (C : gCx p c meth m s args cc nL rt own D cA ad NL A) (hE : gEW s) (hZ : gZ A s s.heap) (hAW : gAW s) (hP : gH D cA ad NL X H) (hS : va_S A s.heap H locs) (hl : ls.size = nL) (hsz : H.size = sz)
    (hM : gCXA l y cc2 nL2 rt2 rm mc ms D cA ad NL (.ref (ad Kb ib) :: As) X k r nw X1 sz) (hadr : gAdr ad sz nw) (hi : gI y cc2 nL2 rt2 n) (hv : gIV y) (hlk : Cond.methodLink own index y ∈ gTB) (hrm : gRmA rm R nL2 mc ms) (hm : (Kb, ib) ∈ NL) (hct : ct cA ad Kb ib (X Kb ib) = .inr (ci, fs)) (hcl : vwCl[ci]? = some q) (hqy : q.1 = y.cls) (hn : As.length = n) (hst : st0 = As.reverse ++ .ref (ad Kb ib) :: rest) (hW : (rest.map fun v => v.category).sum ≤ 8) (hf : cells + mc ≤ R.cells ∧ slots + ms ≤ R.slots) (hdg : decode cc pc = .ok (.invokevirtual index, 3))
    (kk : k = 0 → gCx p c meth m s args cc nL rt own D cA ad (NL ++ nw) A → ∀ (H : Heap) (locs : List Loc), gH D cA ad (NL ++ nw) X1 H → va_S A s.heap H locs → W p l e R s m args below meth c H locs (cells + mc) (slots + ms) Q (F0 m (pc + 3) ls (r.toList ++ rest)))
    (kx : k ≠ 0 → ∀ (ce : Cell) (q9 : Addr) (H : Heap) (locs : List Loc), gH D cA ad NL X1 H → va_S A s.heap H locs → H[q9]? = some ce → ce.vm = .none → s.vm.findClass (gXC k) = some ce.cls → vx_W p l e R s m args below meth c H locs (cells + mc) (slots + ms) Q (F0 m pc ls rest) q9) : W p l e R s m args below meth c H locs cells slots Q (F0 m pc ls st0) := by
  subst hsz
  have C' := C
  have C2 := gCx_app C hP (Nat.le_refl H.size) hS.1 (gAdr_at hadr)
  have hAs := gA_sub C hS
  obtain ⟨hx, hb, hml, hown, hts, hr, hlk0, hK, hN, hD, hA⟩ := C
  obtain ⟨q0, hq, hw⟩ := gw_at (cA := cA) (ad := ad) (X := X) hm
  rw [hct] at hw
  have hrec := va_recv hK hP hcl hw
  rw [hqy] at hrec
  subst hst
  have hpre : ∀ U : State, U.heap = H → s.WarmedH U.vm → va_Pc (.ref (ad Kb ib) :: As) (gUxa D cA ad NL X H.size) (Value.ref (ad Kb ib) :: As).toArray U := by
    intro U hU hW9
    refine ⟨rfl, ⟨⟨by rw [hU], by rw [hU]; exact hP, va_K.moved hW9.alike hK, gNW.moved hW9 hN⟩, gEW.moved hW9 hE, ?_⟩, gAW.moved hW9.alike hAW⟩
    have hkp : ∀ a : Nat, a < s.heap.size → ¬ A a → H[a]? = s.heap[a]? := hS.2.1
    rw [hU]
    exact ⟨((hZ.1.kept hkp).narrow hAs).moved hW9.alike, ((hZ.2.kept hkp).narrow hAs).moved hW9.alike⟩
  have hrun := vx_runV (As := As) (rest := rest) (g := F0 m pc ls (As.reverse ++ .ref (ad Kb ib) :: rest)) (cells := cells) (slots := slots) (locs := locs) (e := e) (below := below) (meth := meth) ⟨hx, hb, hml, hown, hts⟩ hM ⟨g_cbA C' hi hlk hrm, hts _ hv.1, hts _ hv.2⟩ ⟨gUxa_blind, hrec, hpre⟩ rfl hn hl rfl (lv_room hW) hdg hf
  intro T hT Y
  rcases hrun T hT Y with ⟨v, st₀, t, T', L, h0, X', hL, e1, e2, ⟨hk0, hv0, hP1, hz, hk⟩, st⟩ | ⟨q9, st₀, t, T', L, E, ce, h0, X', hL, e1, e2, ⟨hk0, rfl, hP1, hz, hk⟩, hce, hcv, hclx, st⟩
  · cases hv0
    rw [h0] at hz hk
    obtain ⟨t2, a1, b1⟩ := kk hk0 C2 T'.heap (locs ++ L) (by rw [e1]; exact hP1)
      ⟨Nat.le_trans hS.1 (by rw [e1]; exact hz), fun q h1 h2 => by rw [e1, hk q (Nat.lt_of_lt_of_le h1 hS.1) (fun z => h2 (hAs q z))]; exact hS.2.1 q h1 h2, fun q hq => by
        rcases List.mem_append.mp hq with h | h
        · exact hS.2.2 q h
        · exact hAs _ (hL q h)⟩ T' rfl X'
    exact ⟨t2, st t2 a1, b1⟩
  · rw [h0] at hz hk
    obtain ⟨t2, a1, b1⟩ := kx hk0 ce q9 T'.heap (locs ++ L) (by rw [e1]; exact hP1)
      ⟨Nat.le_trans hS.1 (by rw [e1]; exact hz), fun q h1 h2 => by rw [e1, hk q (Nat.lt_of_lt_of_le h1 hS.1) (fun z => h2 (hAs q z))]; exact hS.2.1 q h1 h2, fun q hq => by
        rcases List.mem_append.mp hq with h | h
        · exact hS.2.2 q h
        · exact hAs _ (hL q h)⟩ (by rw [e1]; exact hce) hcv hclx T' rfl X'
    exact ⟨t2, st.trans a1, b1⟩
end GLAW
