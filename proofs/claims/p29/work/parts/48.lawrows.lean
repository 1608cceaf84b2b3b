/-! the law's own body: its rows -/
section GLAWB
variable {p : Program} {l : Launch} {e : Env} {R : Room} {s : State} {m : MethodId} {args : Array Value} {below : List Frame} {meth : Method} {c : Code} {H : Heap} {locs : List Loc} {cells slots : Nat} {Q : State → Prop} {cc : ByteArray} {pc nL : Nat} {rt : Option FieldType} {own : String} {ls : Array Slot} {rest : List Value} {D : va_G} {cA : Nat → ClassId} {ad : Nat → Nat → Nat} {NL nw : List (Nat × Nat)} {A : Nat → Prop} {X : gM} {mc ms : Nat}
def gIL (y : MethodName) (cc : ByteArray) (nL : Nat) (hh : List (Nat × Nat × Nat × Nat)) (n : Nat) : Prop := Cond.codeWith y cc nL (some .int) hh ∈ gTB ∧ Cond.initialized y.cls ∈ gTB ∧ Cond.static y ∈ gTB ∧ (y.cls ≠ "java/lang/invoke/MethodHandle" ∧ y.cls ≠ "java/lang/invoke/VarHandle" ∧ (parseMethodDescriptor y.desc).map (fun d => d.parameters.length) = some n)
/-- what the law's body knows besides its context -/
def gWd (A : Nat → Prop) (s : State) : Prop := gEW s ∧ gZ A s s.heap ∧ gAW s ∧ gNc s
/-- a small method of the law is called -/
theorem r_callL {y : MethodName} {cc2 : ByteArray} {nL2 n index : Nat} {hh : List (Nat × Nat × Nat × Nat)} {rm : Room} {r : Int32} {X1 : gM} {As st0 : List Value} {sz : Nat} (C : gCx p c meth m s args cc nL rt own D cA ad NL A) (hWd : gWd A s) (hP : gH D cA ad NL X H) (hS : va_S A s.heap H locs) (hl : ls.size = nL) (hsz : H.size = sz)
    (hM : gCL l y cc2 nL2 hh rm mc ms D cA ad NL As X r nw X1 sz) (hadr : gAdr ad sz nw) (hi : gIL y cc2 nL2 hh n) (hlk : Cond.methodLink own index y ∈ gTB) (hrm : gRmA rm R nL2 mc ms) (hn : As.length = n) (hst : st0 = As.reverse ++ rest) (hW : (rest.map fun v => v.category).sum ≤ 8) (hf : cells + mc ≤ R.cells ∧ slots + ms ≤ R.slots) (hdg : decode cc pc = .ok (.invokestatic index, 3))
    (kk : gCx p c meth m s args cc nL rt own D cA ad (NL ++ nw) A → ∀ (H : Heap) (locs : List Loc), gH D cA ad (NL ++ nw) X1 H → va_S A s.heap H locs → W p l e R s m args below meth c H locs (cells + mc) (slots + ms) Q (F0 m (pc + 3) ls (.int r :: rest))) : W p l e R s m args below meth c H locs cells slots Q (F0 m pc ls st0) := by
  subst hsz
  have C2 := gCx_app C hP (Nat.le_refl H.size) hS.1 (gAdr_at hadr)
  have hAs := gA_sub C hS
  obtain ⟨hx, hb, hml, hown, hts, hr, hlk0, hK, hN, hD, hA⟩ := C
  obtain ⟨hE, hZ, hAW, hNc⟩ := hWd
  subst hst
  have hpre : ∀ U : State, U.heap = H → s.WarmedH U.vm → va_Pc As (gUL D cA ad NL X H.size) As.toArray U := by
    intro U hU hW9
    refine ⟨rfl, ⟨⟨⟨by rw [hU], by rw [hU]; exact hP, va_K.moved hW9.alike hK, gNW.moved hW9 hN⟩, gEW.moved hW9 hE, ?_⟩, gAW.moved hW9.alike hAW⟩, gNc.moved hW9.alike hNc⟩
    have hkp : ∀ a : Nat, a < s.heap.size → ¬ A a → H[a]? = s.heap[a]? := hS.2.1
    rw [hU]
    exact ⟨((hZ.1.kept hkp).narrow hAs).moved hW9.alike, ((hZ.2.kept hkp).narrow hAs).moved hW9.alike⟩
  have hts2 : ∀ w ∈ (Cond.codeWith y cc2 nL2 (some .int) hh :: gTB), w.before args s = true := fun w hw => by
    rcases List.mem_cons.mp hw with rfl | hw
    · exact hts _ hi.1
    · exact hts _ hw
  have hgo : GoodIn (Cond.codeWith y cc2 nL2 (some .int) hh :: gTB) (va_wsS own index y (Cond.codeWith y cc2 nL2 (some .int) hh :: gTB)) := by
    intro w hw
    unfold va_wsS at hw
    rcases List.mem_append.mp hw with h | h
    · simp only [List.mem_cons, List.not_mem_nil, or_false] at h
      rcases h with rfl | rfl | rfl
      · exact gGood hlk _ List.mem_cons_self
      · exact gGood hi.2.2.1 _ List.mem_cons_self
      · exact gGood hi.2.1 _ List.mem_cons_self
    · exact gGood hi.1 w h
  have cw := vx_cwSW (R := R) (s := s) (args := args) (own := own) (index := index) (y := y) (bytes := cc2) (maxL := nL2) (ret := some .int) (hh := hh) (rm := rm) (mc := mc) (ms := ms) n hts2 hgo rfl hrm.1 hrm.2.1 hi.2.2.2 hrm.2.2
  have hrun := vx_runSW (As := As) (rest := rest) (g := F0 m pc ls (As.reverse ++ rest)) (cells := cells) (slots := slots) (locs := locs) (e := e) (below := below) (meth := meth) ⟨hx, hb, hml, hown, hts⟩ hM cw ⟨gUL_blind, hpre⟩ rfl hn hl rfl (lv_room hW) hdg hf
  intro T hT Y
  obtain ⟨v, st₀, t, T', L, h0, X', hL, e1, e2, ⟨hv, hP1, hz, hk⟩, st⟩ := hrun T hT Y
  cases hv
  rw [h0] at hz hk
  obtain ⟨t2, a1, b1⟩ := kk C2 T'.heap (locs ++ L) (by rw [e1]; exact hP1)
    ⟨Nat.le_trans hS.1 (by rw [e1]; exact hz), fun q h1 h2 => by rw [e1, hk q (Nat.lt_of_lt_of_le h1 hS.1) (fun z => h2 (hAs q z))]; exact hS.2.1 q h1 h2, fun q hq => by
      rcases List.mem_append.mp hq with h | h
      · exact hS.2.2 q h
      · exact hAs _ (hL q h)⟩ T' rfl X'
  exact ⟨t2, st t2 a1, b1⟩
/-- an int is made a boolean -/
theorem r_bool {x : Int32} {t1 t2 : Nat} {o1 o2 : Int} (hexec : p.tables.exec = Jvm.exec) (hb : c.code = cc) (d0 : decode cc pc = .ok (.ifCond .eq o1, 3)) (h1 : (pc : Int) + o1 = (t1 : Int)) (d1 : decode cc (pc + 3) = .ok (.iconst 1, 1)) (d2 : decode cc (pc + 4) = .ok (.goto o2, 3)) (h2 : ((pc + 4 : Nat) : Int) + o2 = (t2 : Int)) (d3 : decode cc t1 = .ok (.iconst 0, 1)) (h3 : t1 + 1 = t2)
    (kk : W p l e R s m args below meth c H locs cells slots Q (F0 m t2 ls (.int (if x = (0 : Int32) then (0 : Int32) else (1 : Int32)) :: rest))) : W p l e R s m args below meth c H locs cells slots Q (F0 m pc ls (.int x :: rest)) := by
  refine lv_if_eq hexec hb d0 h1 (fun c1 => ?_) (fun c1 => ?_)
  · rw [if_pos c1] at kk
    subst h3
    exact lv_iconst hexec hb d3 (by decide) kk
  · rw [if_neg c1] at kk
    refine lv_iconst (v := 1) hexec hb d1 (by decide) ?_
    exact lv_goto hexec hb d2 h2 kk
end GLAWB
