/-! methods that may throw, over the world of named cells -/
def gXC (k : Nat) : String := match k with
  | 1 => "java/lang/IndexOutOfBoundsException"
  | 2 => "java/lang/IllegalArgumentException"
  | _ => "java/lang/IllegalStateException"
def gEx (w : Cond) : Bool := match w with
  | .castable .. => true
  | .declares .. => true
  | _ => false
def gEB : List Cond := lw_tbl.filter gEx
def gEW (U : State) : Prop := ∀ w ∈ gEB, va_Nw w U
theorem gEW.moved {s U : State} (hW : s.WarmedH U.vm) (h : gEW s) : gEW U := by
  intro w hw
  have hn := (List.mem_filter.mp hw).2
  have h1 := h w hw
  cases w <;> first | exact va_Nw.warmC hW h1 | exact va_Nw.warmD hW h1 | (simp [gEx] at hn)
theorem gEW_same {U V : State} (e : U.vm = V.vm) (h : gEW U) : gEW V := by
  intro w hw
  have hn := (List.mem_filter.mp hw).2
  have h1 := h w hw
  refine va_Nw.same ?_ e h1
  cases w <;> first | rfl | (simp [gEx] at hn)
/-- the two statics that a throw reads lie outside A -/
def gZ (A : Nat → Prop) (U : State) (H : Heap) : Prop := vx_Zq Bundle.tN "UNASSIGNED_STACK" Bundle.steD A U H ∧ vx_Zq Bundle.tN "SUPPRESSED_SENTINEL" Bundle.listD A U H
def gUx (D : va_G) (cA : Nat → ClassId) (ad : Nat → Nat → Nat) (NL : List (Nat × Nat)) (X : gM) (sz : Nat) : State → Prop := fun U => gU D cA ad NL X sz U ∧ gEW U ∧ gZ (gA ad NL sz) U U.heap
def gQx (D : va_G) (cA : Nat → ClassId) (ad : Nat → Nat → Nat) (NL : List (Nat × Nat)) (k : Nat) (r : Option Value) (X : gM) (A : Nat → Prop) : Array Value → State → Outcome → State → Prop := fun _ st oc t => k = 0 ∧ oc = .returned r ∧ gH D cA ad NL X t.heap ∧ va_F A st t
def gXx (D : va_G) (cA : Nat → ClassId) (ad : Nat → Nat → Nat) (NL : List (Nat × Nat)) (k : Nat) (X : gM) (A : Nat → Prop) : String → State → State → Prop := fun E st t => k ≠ 0 ∧ E = gXC k ∧ gH D cA ad NL X t.heap ∧ va_F A st t
def gCX (l : Launch) (y : MethodName) (cc : ByteArray) (nL : Nat) (rt : Option FieldType) (rm : Room) (D : va_G) (cA : Nat → ClassId) (ad : Nat → Nat → Nat) (NL : List (Nat × Nat)) (av : List Value) (X : gM) (k : Nat) (r : Option Value) (X' : gM) : Prop :=
  ∀ sz : Nat, vx_Met l y (.code y cc nL rt :: gTB) rm (va_Pc av (gUx D cA ad NL X sz)) (gQx D cA ad NL k r X' (gA ad NL sz)) (gXx D cA ad NL k X' (gA ad NL sz)) 1 6 (gA ad NL sz)
def gCxX (p : Program) (c : Code) (l : Launch) (meth : Method) (m : MethodId) (s : State) (args : Array Value) (cc : ByteArray) (nL : Nat) (rt : Option FieldType) (own : String) (D : va_G) (cA : Nat → ClassId) (ad : Nat → Nat → Nat) (NL : List (Nat × Nat)) (A : Nat → Prop) : Prop :=
  gCx p c meth m s args cc nL rt own D cA ad NL A ∧ l.stackTraces = false ∧ gEW s ∧ gZ A s s.heap ∧ ∀ x ∈ c.exceptionTable.toList, False
/-- what the tables say of a throw -/
def gTh (own : String) (ik ic k : Nat) : Prop := Cond.classLink own ik (gXC k) ∈ gTB ∧ Cond.initialized (gXC k) ∈ gTB ∧ (∀ w ∈ vx_at0 own ic (gXC k) ["java/lang/RuntimeException", "java/lang/Exception"], w ∈ gTB ∨ w ∈ gEB) ∧ (∀ w ∈ Cond.classLink own ik (gXC k) :: Cond.initialized (gXC k) :: vx_at0 own ic (gXC k) ["java/lang/RuntimeException", "java/lang/Exception"], vx_ot w = true) ∧ Bundle.fit (gXC k) = true ∧ k ≠ 0
theorem gUx_blind {D : va_G} {cA : Nat → ClassId} {ad : Nat → Nat → Nat} {NL : List (Nat × Nat)} {X : gM} {sz : Nat} {av : List Value} : FrameBlind (va_Pc av (gUx D cA ad NL X sz)) := by
  intro a U g mk q
  obtain ⟨q0, q1, q2, q3, q4⟩ := q
  have h1 := gU_blind (D := D) (cA := cA) (ad := ad) (NL := NL) (X := X) (sz := sz) (av := av) a U g mk ⟨q0, q1⟩
  exact ⟨q0, h1.2, gEW_same (U := U) (V := U.calling g mk a) rfl q2, vx_Zq.moved (u := U) (U := U.calling g mk a) (Vm.Alike.refl U.vm) q3, vx_Zq.moved (u := U) (U := U.calling g mk a) (Vm.Alike.refl U.vm) q4⟩
theorem gEW_at {args : Array Value} {s : State} (h : gEW s) {w : Cond} (hw : w ∈ gEB) : w.before args s = true := by
  have hn := (List.mem_filter.mp hw).2
  have h1 := h w hw
  refine va_Nw.use ?_ h1
  cases w <;> first | rfl | (simp [gEx] at hn)
section GTHROW
variable {p : Program} {l : Launch} {e : Env} {R : Room} {s : State} {m : MethodId} {args : Array Value} {below : List Frame} {meth : Method} {c : Code} {H : Heap} {locs : List Loc} {cells slots : Nat} {Q : State → Prop} {cc : ByteArray} {pc nL : Nat} {rt : Option FieldType} {own : String} {ls : Array Slot} {rest : List Value} {D : va_G} {cA : Nat → ClassId} {ad : Nat → Nat → Nat} {NL : List (Nat × Nat)} {A : Nat → Prop} {X : gM}
theorem r_iretX (C : gCxX p c l meth m s args cc nL (some .int) own D cA ad NL A) (hP : gH D cA ad NL X H) (hS : va_S A s.heap H locs) {v : Int32} (hdg : decode cc pc = .ok (.ireturn, 1)) : W p l e R s m args below meth c H locs 0 0 (vx_MQ below (gQx D cA ad NL 0 (some (.int v)) X A) (gXx D cA ad NL 0 X A) args s 1 6 A) (F0 m pc ls [.int v]) := by
  obtain ⟨⟨hx, hb, hml, hown, hts, hr, hlk, hK, hN, hD, hA⟩, -⟩ := C
  refine W.widen (k := 1) (n := 6) (Nat.zero_le _) (Nat.zero_le _) ?_
  refine vx_ret ?_
  exact W.iret (v := v) hx hb hr (fun t ht hW => ⟨rfl, rfl, by rw [ht]; exact hP, hS.F ht⟩) hS.2.2 hdg hlk
theorem r_zretX (C : gCxX p c l meth m s args cc nL (some .boolean) own D cA ad NL A) (hP : gH D cA ad NL X H) (hS : va_S A s.heap H locs) {v : Int32} (hz : v = 0 ∨ v = 1) (hdg : decode cc pc = .ok (.ireturn, 1)) : W p l e R s m args below meth c H locs 0 0 (vx_MQ below (gQx D cA ad NL 0 (some (.int v)) X A) (gXx D cA ad NL 0 X A) args s 1 6 A) (F0 m pc ls [.int v]) := by
  obtain ⟨⟨hx, hb, hml, hown, hts, hr, hlk, hK, hN, hD, hA⟩, -⟩ := C
  refine W.widen (k := 1) (n := 6) (Nat.zero_le _) (Nat.zero_le _) ?_
  refine vx_ret ?_
  exact W.zret (v := v) hx hb hr (nar_z hz) (fun t ht hW => ⟨rfl, rfl, by rw [ht]; exact hP, hS.F ht⟩) hS.2.2 hdg hlk
theorem r_vretX (C : gCxX p c l meth m s args cc nL none own D cA ad NL A) (hP : gH D cA ad NL X H) (hS : va_S A s.heap H locs) (hdg : decode cc pc = .ok (.return_, 1)) : W p l e R s m args below meth c H locs 0 0 (vx_MQ below (gQx D cA ad NL 0 none X A) (gXx D cA ad NL 0 X A) args s 1 6 A) (F0 m pc ls []) := by
  obtain ⟨⟨hx, hb, hml, hown, hts, hr, hlk, hK, hN, hD, hA⟩, -⟩ := C
  refine W.widen (k := 1) (n := 6) (Nat.zero_le _) (Nat.zero_le _) ?_
  refine vx_ret ?_
  exact W.vret hx hb hr (fun t ht hW => ⟨rfl, rfl, by rw [ht]; exact hP, hS.F ht⟩) hS.2.2 hdg hlk
theorem gH_kept {H1 : Heap} (hP : gH D cA ad NL X H) (hk : ∀ q : Nat, q < H.size → H1[q]? = H[q]?) : gH D cA ad NL X H1 := fun k q hq => (hP k q hq).kept (hk q.1 (hP k q hq).lt)
theorem r_throw {ik ic k : Nat} {r : Option Value} (C : gCxX p c l meth m s args cc nL rt own D cA ad NL A) (hP : gH D cA ad NL X H) (hS : va_S A s.heap H locs) (hl : ls.size = nL) (hw : gTh own ik ic k) (d0 : decode cc pc = .ok (.new ik, 3)) (d3 : decode cc (pc + 3) = .ok (.dup, 1)) (d4 : decode cc (pc + 4) = .ok (.invokespecial ic, 3)) (d7 : decode cc (pc + 7) = .ok (.athrow, 1))
    (hrm : 5 < R.frames ∧ (rest.map fun v => v.category).sum + 81 ≤ R.locals ∧ 1 ≤ R.cells ∧ 6 ≤ R.slots) : W p l e R s m args below meth c H locs 0 0 (vx_MQ below (gQx D cA ad NL k r X A) (gXx D cA ad NL k X A) args s 1 6 A) (F0 m pc ls rest) := by
  obtain ⟨⟨hx, hb, hml, hown, hts, hr, hlk, hK, hN, hD, hA⟩, htr, hE, hZ, hno⟩ := C
  refine vx_throw0 (cls := gXC k) (names := ["java/lang/RuntimeException", "java/lang/Exception"]) hx hb htr hown hw.2.2.2.2.1 (by decide +kernel) (hts _ hw.1) (hts _ hw.2.1) (fun w h => (hw.2.2.1 w h).elim (hts w) (gEW_at hE)) hw.2.2.2.1 hZ.1 hZ.2 hS (hl.trans hml.symm) d0 d3 d4 d7 (fun x h => (hno x h).elim) hrm.1 hrm.2.1 (by simpa using hrm.2.2.1) (by simpa using hrm.2.2.2) hlk (fun t ht hsz hk => ⟨hw.2.2.2.2.2, rfl, gH_kept hP hk, ?_⟩) hS.2.2 (Nat.le_refl _) (Nat.le_refl _)
  exact ⟨Nat.le_trans hS.1 hsz, fun q h1 h2 => (hk q (Nat.lt_of_lt_of_le h1 hS.1)).trans (hS.2.1 q h1 h2)⟩
theorem g_ofX {y : MethodName} {rm : Room} {av : List Value} {k : Nat} {r : Option Value} {X' : gM} {lv : List (Nat × Value)} (hy : plainName y.cls = true) (htr : l.stackTraces = false) (hD : gD (fun _ => True) ad NL) (hn : (lg_sl av).length ≤ nL) (hlv : lv_args 0 av = lv)
    (body : ∀ (p : Program) (e : Env) (s : State) (m : MethodId) (below : List Frame) (meth : Method) (c : Code) (ls : Array Slot), gCxX p c l meth m s av.toArray cc nL rt y.cls D cA ad NL (gA ad NL s.heap.size) → gH D cA ad NL X s.heap → va_S (gA ad NL s.heap.size) s.heap s.heap [] → lv_has ls nL lv →
      W p l e rm s m av.toArray below meth c s.heap [] 0 0 (vx_MQ below (gQx D cA ad NL k r X' (gA ad NL s.heap.size)) (gXx D cA ad NL k X' (gA ad NL s.heap.size)) av.toArray s 1 6 (gA ad NL s.heap.size)) (F0 m 0 ls [])) : gCX l y cc nL rt rm D cA ad NL av X k r X' := by
  intro sz
  refine vx_ofW (cc := cc) (maxL := nL) (ret := rt) hy rfl ?_
  intro p e s m args below meth c s₁ B hml hno hv
  obtain ⟨rfl, ⟨rfl, hP, hK, hN⟩, hE, hZ⟩ := hv
  have hts := atoms_spec (ws := .code y cc nL rt :: gTB) B.pre
  have hl := lv_entry av hn
  rw [hlv] at hl
  have hb := body p e s m below meth c _ ⟨⟨B.exec, B.bytes, hml, findClass_of_methodNamed B.named, fun w hw => hts w (List.mem_cons_of_mem _ hw), B.returns, B.notSynchronized, hK, hN, gD_in hD (fun n hn => Or.inl ⟨n, hn, rfl⟩), fun q hq => Or.inr hq⟩, htr, hE, hZ, hno⟩ hP va_S.rf hl
  rw [lg_entry_eq]
  exact hb
end GTHROW
theorem g_s3 {k k' : Nat} {a a' : Int32} {X X' : gM} (h : some (k, a, X) = some (k', a', X')) : k = k' ∧ a = a' ∧ X = X' := by cases h; exact ⟨rfl, rfl, rfl⟩
theorem fit_z {v : Int32} (h : v = 0 ∨ v = 1) : fits .boolean (.int v) = true := by rcases h with rfl | rfl <;> rfl
