/-! rows of the public methods that make cells -/
def ni (v : Int32) : Option Nat := if v < 0 then none else some v.toNatClampNeg
theorem ni_in {α : Type} {v : Int32} {f : Nat → Option α} {r : α} (h : (ni v).bind f = some r) : ∃ j, (¬ v < 0 ∧ v.toNatClampNeg = j) ∧ f j = some r := by
  unfold ni at h
  by_cases hv : v < 0
  · rw [if_pos hv] at h; cases h
  · rw [if_neg hv] at h; exact ⟨_, ⟨hv, rfl⟩, h⟩
def eqn (a b : List (Nat × Nat)) : Option Unit := if a = b then some () else none
theorem eqn_in {α : Type} {a b : List (Nat × Nat)} {f : Unit → Option α} {r : α} (h : (eqn a b).bind f = some r) : a = b ∧ f () = some r := by
  unfold eqn at h
  by_cases hv : a = b
  · rw [if_pos hv] at h; exact ⟨hv, h⟩
  · rw [if_neg hv] at h; cases h
def gadd (al : Nat → Nat → Bool) (nw : List (Nat × Nat)) : Nat → Nat → Bool := fun K i => al K i || decide ((K, i) ∈ nw)
theorem gadd_gal (NL nw : List (Nat × Nat)) : gadd (gal NL) nw = gal (NL ++ nw) := by
  funext K i
  simp [gadd, gal, List.mem_append]
/-- how many cells a new leaf gets -/
def lfc (v : Int32) : Nat := if v < 0 then 0 else if v.toNatClampNeg < 32 then v.toNatClampNeg else 32
theorem lfc_32 (v : Int32) : lfc v ≤ 32 := by
  unfold lfc
  split
  · omega
  · split <;> omega
theorem nI_of0 {v : Int32} (h : ¬ v < 0) : v = nI v.toNatClampNeg ∧ v.toNatClampNeg < 2147483648 := by
  obtain ⟨j, hj, rfl⟩ := nI_of h
  rw [nI_clamp hj]
  exact ⟨rfl, hj⟩
theorem lfc_lo {v : Int32} : ∀ j, j < lfc v → ¬ v ≤ nI j := by
  intro j hj h
  unfold lfc at hj
  split at hj
  · omega
  · next q =>
    obtain ⟨e, hb⟩ := nI_of0 q
    have hlt : j < v.toNatClampNeg := by split at hj <;> omega
    rw [e] at h
    exact nI_ge hlt hb h
theorem lfc_hi (v : Int32) : v ≤ nI (lfc v) ∨ lfc v = 32 := by
  unfold lfc
  split
  · next q => exact Or.inl (Int32.le_of_lt q)
  · next q =>
    split
    · obtain ⟨e, hb⟩ := nI_of0 q
      left
      rw [← e]
      exact Int32.le_refl v
    · exact Or.inr rfl
theorem gWf_raw {NL : List (Nat × Nat)} {K i : Nat} (hW : gWf NL) (h : gsr K i = []) : gWf (NL ++ [(K, i)]) := by
  intro K' i' q hm hq
  rcases List.mem_append.mp hm with hm | hm
  · exact List.mem_append_left _ (hW K' i' q hm hq)
  · simp only [List.mem_singleton] at hm
    obtain ⟨rfl, rfl⟩ := Prod.mk.inj hm
    rw [h] at hq
    cases hq
theorem gWf_app {NL L : List (Nat × Nat)} (hW : gWf NL) (h : ∀ n ∈ L, ∀ q ∈ gsr n.1 n.2, q ∈ L) : gWf (NL ++ L) := by
  intro K' i' q hm hq
  rcases List.mem_append.mp hm with hm | hm
  · exact List.mem_append_left _ (hW K' i' q hm hq)
  · exact List.mem_append_right _ (h _ hm q hq)
theorem cls_wf (k : Nat) : ∀ cnt, ∀ n ∈ cls k cnt, ∀ q ∈ gsr n.1 n.2, q ∈ cls k cnt
  | 0, n, h, _, _ => by simp [cls] at h
  | cnt + 1, n, h, q, hq => by
    simp only [cls, List.mem_append] at h ⊢
    rcases h with h | h
    · exact Or.inl (cls_wf k cnt n h q hq)
    · right
      simp only [nw_X0_init, List.mem_singleton, List.mem_cons, List.not_mem_nil, or_false] at h ⊢
      rcases h with rfl | rfl | rfl | rfl
      · simp only [gsr, List.mem_cons, List.not_mem_nil, or_false] at hq
        rcases hq with rfl | rfl | rfl <;> simp
      · simp [gsr] at hq
      · simp [gsr] at hq
      · simp [gsr] at hq
theorem gWf_leaf {NL : List (Nat × Nat)} {k cnt : Nat} (hW : gWf NL) : gWf (NL ++ ((5, k) :: (6, k) :: cls k cnt)) := by
  apply gWf_app hW
  intro n hn q hq
  simp only [List.mem_cons] at hn ⊢
  rcases hn with rfl | rfl | hn
  · simp only [gsr, List.mem_singleton] at hq
    exact Or.inr (Or.inl hq)
  · simp [gsr] at hq
  · exact Or.inr (Or.inr (cls_wf k cnt n hn q hq))
theorem gWf_fact {NL : List (Nat × Nat)} {k : Nat} (hW : gWf NL) : gWf (NL ++ [(23, k)]) := gWf_raw hW rfl
theorem gWf_text {NL : List (Nat × Nat)} {k : Nat} (hW : gWf NL) : gWf (NL ++ [(26, k), (27, k)]) := by
  apply gWf_app hW
  intro n hn q hq
  simp only [List.mem_cons, List.not_mem_nil, or_false] at hn ⊢
  rcases hn with rfl | rfl
  · simp only [gsr, List.mem_singleton] at hq
    exact Or.inr hq
  · simp [gsr] at hq
def gUxa (D : va_G) (cA : Nat → ClassId) (ad : Nat → Nat → Nat) (NL : List (Nat × Nat)) (X : gM) (sz : Nat) : State → Prop := fun U => gUx D cA ad NL X sz U ∧ gAW U
def gCXA (l : Launch) (y : MethodName) (cc : ByteArray) (nL : Nat) (rt : Option FieldType) (rm : Room) (mc ms : Nat) (D : va_G) (cA : Nat → ClassId) (ad : Nat → Nat → Nat) (NL : List (Nat × Nat)) (av : List Value) (X : gM) (k : Nat) (r : Option Value) (nw : List (Nat × Nat)) (X' : gM) (sz : Nat) : Prop :=
  vx_Met l y (.code y cc nL rt :: gTB) rm (va_Pc av (gUxa D cA ad NL X sz)) (gQx D cA ad (NL ++ nw) k r X' (gA ad NL sz)) (gXx D cA ad NL k X' (gA ad NL sz)) mc ms (gA ad NL sz)
section GAPUB
variable {p : Program} {l : Launch} {e : Env} {R : Room} {s : State} {m : MethodId} {args : Array Value} {below : List Frame} {meth : Method} {c : Code} {H : Heap} {locs : List Loc} {cells slots : Nat} {Q : State → Prop} {cc : ByteArray} {pc nL : Nat} {rt : Option FieldType} {own : String} {ls : Array Slot} {rest : List Value} {D : va_G} {cA : Nat → ClassId} {ad : Nat → Nat → Nat} {NL NL2 : List (Nat × Nat)} {A : Nat → Prop} {X : gM} {mc ms : Nat}
theorem r_iretG {XC : String → State → State → Prop} (C : gCx p c meth m s args cc nL (some .int) own D cA ad NL A) (hP : gH D cA ad NL X H) (hS : va_S A s.heap H locs) (hc : cells ≤ mc ∧ slots ≤ ms) {v : Int32} (hdg : decode cc pc = .ok (.ireturn, 1)) : W p l e R s m args below meth c H locs cells slots (vx_MQ below (gQx D cA ad NL 0 (some (.int v)) X A) XC args s mc ms A) (F0 m pc ls [.int v]) := by
  obtain ⟨hx, hb, hml, hown, hts, hr, hlk, hK, hN, hD, hA⟩ := C
  refine W.widen (k := mc) (n := ms) hc.1 hc.2 ?_
  refine vx_ret ?_
  exact W.iret (v := v) hx hb hr (fun t ht hW => ⟨rfl, rfl, by rw [ht]; exact hP, hS.F ht⟩) hS.2.2 hdg hlk
theorem r_throwA {Qc : Array Value → State → Outcome → State → Prop} {ik ic k : Nat} (C : gCxX p c l meth m s args cc nL rt own D cA ad NL A) (hP : gH D cA ad NL X H) (hS : va_S A s.heap H locs) (hl : ls.size = nL) (hw : gTh own ik ic k) (d0 : decode cc pc = .ok (.new ik, 3)) (d3 : decode cc (pc + 3) = .ok (.dup, 1)) (d4 : decode cc (pc + 4) = .ok (.invokespecial ic, 3)) (d7 : decode cc (pc + 7) = .ok (.athrow, 1))
    (hrm : 5 < R.frames ∧ (rest.map fun v => v.category).sum + 81 ≤ R.locals ∧ 1 ≤ R.cells ∧ 6 ≤ R.slots) (hm : 1 ≤ mc ∧ 6 ≤ ms) : W p l e R s m args below meth c H locs 0 0 (vx_MQ below Qc (gXx D cA ad NL k X A) args s mc ms A) (F0 m pc ls rest) := by
  obtain ⟨⟨hx, hb, hml, hown, hts, hr, hlk, hK, hN, hD, hA⟩, htr, hE, hZ, hno⟩ := C
  refine vx_throw0 (cls := gXC k) (names := ["java/lang/RuntimeException", "java/lang/Exception"]) hx hb htr hown hw.2.2.2.2.1 (by decide +kernel) (hts _ hw.1) (hts _ hw.2.1) (fun w h => (hw.2.2.1 w h).elim (hts w) (gEW_at hE)) hw.2.2.2.1 hZ.1 hZ.2 hS (hl.trans hml.symm) d0 d3 d4 d7 (fun x h => (hno x h).elim) hrm.1 hrm.2.1 (by simpa using hrm.2.2.1) (by simpa using hrm.2.2.2) hlk (fun t ht hsz hk => ⟨hw.2.2.2.2.2, rfl, gH_kept hP hk, ?_⟩) hS.2.2 (by simpa using hm.1) (by simpa using hm.2)
  exact ⟨Nat.le_trans hS.1 hsz, fun q h1 h2 => (hk q (Nat.lt_of_lt_of_le h1 hS.1)).trans (hS.2.1 q h1 h2)⟩
theorem g_ofXA {y : MethodName} {rm : Room} {av : List Value} {k : Nat} {r : Option Value} {X' : gM} {nw : List (Nat × Nat)} {sz : Nat} {lv : List (Nat × Value)} (hy : plainName y.cls = true) (htr : l.stackTraces = false) (hD : gD (fun _ => True) ad NL) (hn : (lg_sl av).length ≤ nL) (hlv : lv_args 0 av = lv)
    (body : ∀ (p : Program) (e : Env) (s : State) (m : MethodId) (below : List Frame) (meth : Method) (c : Code) (ls : Array Slot), s.heap.size = sz → gAW s → gCxX p c l meth m s av.toArray cc nL rt y.cls D cA ad NL (gA ad NL s.heap.size) → gH D cA ad NL X s.heap → va_S (gA ad NL s.heap.size) s.heap s.heap [] → lv_has ls nL lv →
      W p l e rm s m av.toArray below meth c s.heap [] 0 0 (vx_MQ below (gQx D cA ad (NL ++ nw) k r X' (gA ad NL s.heap.size)) (gXx D cA ad NL k X' (gA ad NL s.heap.size)) av.toArray s mc ms (gA ad NL s.heap.size)) (F0 m 0 ls [])) : gCXA l y cc nL rt rm mc ms D cA ad NL av X k r nw X' sz := by
  refine vx_ofW (cc := cc) (maxL := nL) (ret := rt) hy rfl ?_
  intro p e s m args below meth c s₁ B hml hno hv
  obtain ⟨rfl, ⟨⟨rfl, hP, hK, hN⟩, hE, hZ⟩, hAW⟩ := hv
  have hts := atoms_spec (ws := .code y cc nL rt :: gTB) B.pre
  have hl := lv_entry av hn
  rw [hlv] at hl
  have hb := body p e s m below meth c _ rfl hAW ⟨⟨B.exec, B.bytes, hml, findClass_of_methodNamed B.named, fun w hw => hts w (List.mem_cons_of_mem _ hw), B.returns, B.notSynchronized, hK, hN, gD_in hD (fun n hn => Or.inl ⟨n, hn, rfl⟩), fun q hq => Or.inr hq⟩, htr, hE, hZ, hno⟩ hP va_S.rf hl
  rw [lg_entry_eq]
  exact hb
/-- a constructor is called that leaves any list of names -/
theorem r_iniG {y : MethodName} {cc2 : ByteArray} {nL2 n index mc2 ms2 K0 ib : Nat} {rm : Room} {X1 : gM} {As st0 : List Value} (C : gCx p c meth m s args cc nL rt own D cA ad NL A) (hAW : gAW s) (hP : gH D cA ad NL X H) (hS : va_S A s.heap H locs) (hl : ls.size = nL) (hlo : s.heap.size + cells ≤ H.size)
    (hM : gCa l y cc2 nL2 none rm mc2 ms2 D cA ad NL (.ref (ad K0 ib) :: As) X none NL2 X1 (s.heap.size + cells)) (hi : gI y cc2 nL2 none n) (hinst : Cond.instanceMethod y ∈ gTB) (hy : y.name = "<init>") (hlk : gLk own index y) (hrm : gRmA rm R nL2 mc2 ms2) (hn : As.length = n) (hst : st0 = As.reverse ++ .ref (ad K0 ib) :: rest) (hW : (rest.map fun v => v.category).sum ≤ 8) (hf : cells + mc2 ≤ R.cells ∧ slots + ms2 ≤ R.slots) (hdg : decode cc pc = .ok (.invokespecial index, 3))
    (kk : H.size = s.heap.size + cells → ∀ (H : Heap) (locs : List Loc), gH D cA ad NL2 X1 H → va_S A s.heap H locs → W p l e R s m args below meth c H locs (cells + mc2) (slots + ms2) Q (F0 m (pc + 3) ls rest)) : W p l e R s m args below meth c H locs cells slots Q (F0 m pc ls st0) := by
  refine W_size (fun hup => ?_)
  have hsz : s.heap.size + cells = H.size := by omega
  rw [hsz] at hM
  have C' := C
  obtain ⟨hx, hb, hml, hown, hts, hr, hlk0, hK, hN, hD, hA⟩ := C
  subst hst
  rcases hlk with hlk | ⟨host, hlk⟩
  · exact r_callA C' (va_runI (As := As) (rest := rest) ⟨hx, hb, hml, hown, hts⟩ hM ⟨g_cbA C' hi hlk hrm, hy, hts _ hinst⟩ ⟨gUa_blind, gUa_of C' hAW hP rfl⟩ rfl hn hl rfl (lv_room hW) hdg hf) hS (kk hsz.symm)
  · exact r_callA C' (va_runIN (As := As) (rest := rest) ⟨hx, hb, hml, hown, hts⟩ hM ⟨g_cnA C' hi hlk hrm, hy, hts _ hinst⟩ ⟨gUa_blind, gUa_of C' hAW hP rfl⟩ rfl hn hl rfl (lv_room hW) hdg hf) hS (kk hsz.symm)
theorem r_iniT {y : MethodName} {cc2 : ByteArray} {nL2 n index mc2 ms2 K0 ib : Nat} {rm : Room} {X1 : gM} {As st0 : List Value} (C : gCx p c meth m s args cc nL rt own D cA ad NL A) (hAW : gAW s) (hE : gEW s) (hP : gH D cA ad NL X H) (hS : va_S A s.heap H locs) (hl : ls.size = nL) (hlo : s.heap.size + cells ≤ H.size)
    (hM : gCt l y cc2 nL2 none rm mc2 ms2 D cA ad NL (.ref (ad K0 ib) :: As) X none NL2 X1 (s.heap.size + cells)) (hi : gI y cc2 nL2 none n) (hinst : Cond.instanceMethod y ∈ gTB) (hy : y.name = "<init>") (hlk : gLk own index y) (hrm : gRmA rm R nL2 mc2 ms2) (hn : As.length = n) (hst : st0 = As.reverse ++ .ref (ad K0 ib) :: rest) (hW : (rest.map fun v => v.category).sum ≤ 8) (hf : cells + mc2 ≤ R.cells ∧ slots + ms2 ≤ R.slots) (hdg : decode cc pc = .ok (.invokespecial index, 3))
    (kk : H.size = s.heap.size + cells → ∀ (H : Heap) (locs : List Loc), gH D cA ad NL2 X1 H → va_S A s.heap H locs → W p l e R s m args below meth c H locs (cells + mc2) (slots + ms2) Q (F0 m (pc + 3) ls rest)) : W p l e R s m args below meth c H locs cells slots Q (F0 m pc ls st0) := by
  refine W_size (fun hup => ?_)
  have hsz : s.heap.size + cells = H.size := by omega
  rw [hsz] at hM
  have C' := C
  obtain ⟨hx, hb, hml, hown, hts, hr, hlk0, hK, hN, hD, hA⟩ := C
  subst hst
  rcases hlk with hlk | ⟨host, hlk⟩
  · exact r_callA C' (va_runI (As := As) (rest := rest) ⟨hx, hb, hml, hown, hts⟩ hM ⟨g_cbA C' hi hlk hrm, hy, hts _ hinst⟩ ⟨gUt_blind, gUt_of C' hAW hE hP rfl⟩ rfl hn hl rfl (lv_room hW) hdg hf) hS (kk hsz.symm)
  · exact r_callA C' (va_runIN (As := As) (rest := rest) ⟨hx, hb, hml, hown, hts⟩ hM ⟨g_cnA C' hi hlk hrm, hy, hts _ hinst⟩ ⟨gUt_blind, gUt_of C' hAW hE hP rfl⟩ rfl hn hl rfl (lv_room hW) hdg hf) hS (kk hsz.symm)
end GAPUB
