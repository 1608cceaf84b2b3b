/-! the world of named cells, contracts over it, and the rows of the instructions that read and write it -/
def gw (cA : Nat → ClassId) (ad : Nat → Nat → Nat) (NL : List (Nat × Nat)) (X : gM) : va_W := NL.map (fun n => (ad n.1 n.2, ct cA ad n.1 n.2 (X n.1 n.2)))
theorem gw_at {cA : Nat → ClassId} {ad : Nat → Nat → Nat} {NL : List (Nat × Nat)} {X : gM} {K i : Nat} (h : (K, i) ∈ NL) : ∃ q0 : Nat, NL[q0]? = some (K, i) ∧ (gw cA ad NL X)[q0]? = some (ad K i, ct cA ad K i (X K i)) := by
  obtain ⟨q0, hq⟩ := List.mem_iff_getElem?.mp h
  exact ⟨q0, hq, by simp [gw, hq]⟩
theorem gw_of {cA : Nat → ClassId} {ad : Nat → Nat → Nat} {NL : List (Nat × Nat)} {X : gM} {q0 : Nat} {p : Nat × va_E} (h : (gw cA ad NL X)[q0]? = some p) : ∃ n, NL[q0]? = some n ∧ p = (ad n.1 n.2, ct cA ad n.1 n.2 (X n.1 n.2)) := by
  unfold gw at h
  rw [List.getElem?_map] at h
  cases hn : NL[q0]? with
  | none => rw [hn] at h; cases h
  | some n => rw [hn] at h; exact ⟨n, rfl, (Option.some.inj h).symm⟩
/-- the addresses are apart, and of a kind -/
def gD (A : Nat → Prop) (ad : Nat → Nat → Nat) (NL : List (Nat × Nat)) : Prop := (∀ (i j : Nat) (p q : Nat × Nat), NL[i]? = some p → NL[j]? = some q → ad p.1 p.2 = ad q.1 q.2 → i = j) ∧ ∀ n ∈ NL, A (ad n.1 n.2)
theorem gD_gw {A : Nat → Prop} {cA : Nat → ClassId} {ad : Nat → Nat → Nat} {NL : List (Nat × Nat)} (X : gM) (h : gD A ad NL) : va_D A (gw cA ad NL X) := by
  refine ⟨fun i j p q hp hq e => ?_, fun k q hq => ?_⟩
  · obtain ⟨n1, h1, rfl⟩ := gw_of hp
    obtain ⟨n2, h2, rfl⟩ := gw_of hq
    exact h.1 i j n1 n2 h1 h2 e
  · obtain ⟨n1, h1, rfl⟩ := gw_of hq
    exact h.2 n1 (List.mem_of_getElem? h1)
theorem gD_in {A B : Nat → Prop} {ad : Nat → Nat → Nat} {NL : List (Nat × Nat)} (h : gD A ad NL) (hB : ∀ n ∈ NL, B (ad n.1 n.2)) : gD B ad NL := ⟨h.1, hB⟩
theorem gw_set {A : Nat → Prop} {cA : Nat → ClassId} {ad : Nat → Nat → Nat} {NL : List (Nat × Nat)} {X : gM} {K i q0 j : Nat} {w : Int32} {e : va_E} (hD : gD A ad NL) (hq : NL[q0]? = some (K, i)) (he : ct cA ad K i (upd (X K i) j w) = e) : (gw cA ad NL X).set q0 (ad K i, e) = gw cA ad NL (mset X K i j w) := by
  subst he
  apply List.ext_getElem?
  intro q
  by_cases h : q = q0
  · subst h
    have hl : q < (gw cA ad NL X).length := by
      have := (List.getElem?_eq_some_iff.mp hq).1
      simpa [gw] using this
    rw [List.getElem?_set_self hl]
    simp [gw, hq, mset_eq]
  · rw [List.getElem?_set_ne (fun e => h e.symm)]
    unfold gw
    rw [List.getElem?_map, List.getElem?_map]
    cases hn : NL[q]? with
    | none => rfl
    | some n =>
      have hne : ¬ (n.1 = K ∧ n.2 = i) := by
        rintro ⟨h1, h2⟩
        exact h (hD.1 q q0 n (K, i) hn hq (by rw [h1, h2]))
      show some (ad n.1 n.2, ct cA ad n.1 n.2 (X n.1 n.2)) = some (ad n.1 n.2, ct cA ad n.1 n.2 (mset X K i j w n.1 n.2))
      rw [mset_ne hne]
def gH (D : va_G) (cA : Nat → ClassId) (ad : Nat → Nat → Nat) (NL : List (Nat × Nat)) (X : gM) (H : Heap) : Prop := va_P D vwCl (gw cA ad NL X) H
/-- what a method may touch: the named cells, and what is new -/
def gA (ad : Nat → Nat → Nat) (NL : List (Nat × Nat)) (sz : Nat) : Nat → Prop := fun q => (∃ n ∈ NL, q = ad n.1 n.2) ∨ sz ≤ q
def gQ (D : va_G) (cA : Nat → ClassId) (ad : Nat → Nat → Nat) (NL : List (Nat × Nat)) (r : Option Value) (X : gM) (A : Nat → Prop) : Array Value → State → Outcome → State → Prop := fun _ st oc t => oc = .returned r ∧ gH D cA ad NL X t.heap ∧ va_F A st t
def gU (D : va_G) (cA : Nat → ClassId) (ad : Nat → Nat → Nat) (NL : List (Nat × Nat)) (X : gM) (sz : Nat) : State → Prop := fun U => U.heap.size = sz ∧ gH D cA ad NL X U.heap ∧ va_K D vwCl (gtys cA) U ∧ gNW U
/-- a contract: from the memory X, with these arguments, the method returns r and leaves the memory X' -/
def gC (l : Launch) (y : MethodName) (cc : ByteArray) (nL : Nat) (rt : Option FieldType) (rm : Room) (D : va_G) (cA : Nat → ClassId) (ad : Nat → Nat → Nat) (NL : List (Nat × Nat)) (av : List Value) (X : gM) (r : Option Value) (X' : gM) : Prop :=
  ∀ sz : Nat, Met l y (.code y cc nL rt :: gTB) rm (va_Pc av (gU D cA ad NL X sz)) (gQ D cA ad NL r X' (gA ad NL sz)) 0 0 (gA ad NL sz)
/-- what holds in the body of a method -/
def gCx (p : Program) (c : Code) (meth : Method) (m : MethodId) (s : State) (args : Array Value) (cc : ByteArray) (nL : Nat) (rt : Option FieldType) (own : String) (D : va_G) (cA : Nat → ClassId) (ad : Nat → Nat → Nat) (NL : List (Nat × Nat)) (A : Nat → Prop) : Prop :=
  p.tables.exec = Jvm.exec ∧ c.code = cc ∧ c.maxLocals = nL ∧ s.vm.findClass own = some m.cls ∧ (∀ w ∈ gTB, w.before args s = true) ∧ meth.sig.returnType = rt ∧ meth.locks = false ∧ va_K D vwCl (gtys cA) s ∧ gNW s ∧ gD A ad NL ∧ (∀ q : Nat, s.heap.size ≤ q → A q)
theorem gNW_same {U V : State} (e : U.vm = V.vm) (h : gNW U) : gNW V := by
  intro w hw
  have hn := (List.mem_filter.mp hw).2
  have h1 := h w hw
  refine va_Nw.same ?_ e h1
  cases w <;> first | rfl | (simp [gNest] at hn)
theorem gU_blind {D : va_G} {cA : Nat → ClassId} {ad : Nat → Nat → Nat} {NL : List (Nat × Nat)} {X : gM} {sz : Nat} {av : List Value} : FrameBlind (va_Pc av (gU D cA ad NL X sz)) := by
  intro a U g mk q
  obtain ⟨q0, q1, qP, qK, qN⟩ := q
  exact ⟨q0, q1, qP, va_K.moved (u := U) (U := U.calling g mk a) (Vm.Alike.refl U.vm) qK, gNW_same (U := U) (V := U.calling g mk a) rfl qN⟩
section GROWS
variable {p : Program} {l : Launch} {e : Env} {R : Room} {s : State} {m : MethodId} {args : Array Value} {below : List Frame} {meth : Method} {c : Code} {H : Heap} {locs : List Loc} {cells slots : Nat} {Q : State → Prop} {cc : ByteArray} {pc nL : Nat} {rt : Option FieldType} {own : String} {ls : Array Slot} {rest : List Value} {D : va_G} {cA : Nat → ClassId} {ad : Nat → Nat → Nat} {NL : List (Nat × Nat)} {A : Nat → Prop} {X : gM}
/-- a field, by its place in the pool of the method's class -/
def gF (own : String) (index ci f : Nat) : Prop := ∃ (C : String) (T : u_T) (N : Nat), vwCl[ci]? = some (C, T, N) ∧ f < N ∧ (∀ w ∈ u_ws C T N, w ∈ gTB) ∧ ((Cond.fieldLink own index (T f).1 (T f).2.1 (T f).2.2.1 ∈ gTB) ∨ ∃ host : String, Cond.fieldLinkNest own index (T f).1 (T f).2.1 (T f).2.2.1 host ∈ gNB)
/-- the same of one that may be written -/
def gP (own : String) (index ci f : Nat) (ty : FieldType) : Prop := ∃ (C : String) (T : u_T) (N : Nat) (ty0 : Nat → FieldType), vwCl[ci]? = some (C, T, N) ∧ f < N ∧ (∀ w ∈ u_ws C T N, w ∈ gTB) ∧ (∀ k, k < N → parseFieldDescriptor (T k).2.2.1 = some (ty0 k)) ∧ (∀ a, a < N → ∀ b, b < N → a ≠ b → (T a).2.1 ≠ (T b).2.1) ∧ (T f).2.2.2 = false ∧ ty0 f = ty ∧ ((Cond.fieldLink own index (T f).1 (T f).2.1 (T f).2.2.1 ∈ gTB) ∨ ∃ host : String, Cond.fieldLinkNest own index (T f).1 (T f).2.1 (T f).2.2.1 host ∈ gNB)
theorem r_get (C : gCx p c meth m s args cc nL rt own D cA ad NL A) (hP : gH D cA ad NL X H) {K i ci f index : Nat} {fs : List Value} {v : Value} (hm : (K, i) ∈ NL) (hct : ct cA ad K i (X K i) = .inr (ci, fs)) (hF : gF own index ci f) (hv : fs[f]? = some v) (hdg : decode cc pc = .ok (.getfield index, 3))
    (kk : W p l e R s m args below meth c H locs cells slots Q (F0 m (pc + 3) ls (v :: rest))) : W p l e R s m args below meth c H locs cells slots Q (F0 m pc ls (.ref (ad K i) :: rest)) := by
  obtain ⟨hx, hb, hml, hown, hts, hr, hlk, hK, hN, hD, hA⟩ := C
  obtain ⟨q0, hq, hw⟩ := gw_at (cA := cA) (ad := ad) (X := X) hm
  rw [hct] at hw
  obtain ⟨C, T, N, hc, hf, hin, h1 | ⟨host, h1⟩⟩ := hF
  · exact va_get hx hb hts hin hown hK hP q0 hw hc f hf (hts _ h1) (fun _ h => h) hv hdg kk
  · exact va_getN hx hb hts hin hown hK hP q0 hw hc f hf (va_Nw.use rfl (hN _ h1)) (fun _ h => h) hv hdg kk
theorem r_put (C : gCx p c meth m s args cc nL rt own D cA ad NL A) (hP : gH D cA ad NL X H) (hS : va_S A s.heap H locs) {K i ci f index : Nat} {fs : List Value} {v : Value} {ty : FieldType} (w : Int32) (hm : (K, i) ∈ NL) (hct : ct cA ad K i (X K i) = .inr (ci, fs)) (hF : gP own index ci f ty) (hct2 : ct cA ad K i (upd (X K i) f w) = .inr (ci, fs.set f v)) (hl : f < fs.length) (hn : narrow ty v = v) (hfit : fits ty v = true) (hdg : decode cc pc = .ok (.putfield index, 3))
    (kk : ∀ (H : Heap) (locs : List Loc), gH D cA ad NL (mset X K i f w) H → va_S A s.heap H locs → W p l e R s m args below meth c H locs cells slots Q (F0 m (pc + 3) ls rest)) : W p l e R s m args below meth c H locs cells slots Q (F0 m pc ls (v :: .ref (ad K i) :: rest)) := by
  obtain ⟨hx, hb, hml, hown, hts, hr, hlk, hK, hN, hD, hA⟩ := C
  obtain ⟨q0, hq, hw⟩ := gw_at (cA := cA) (ad := ad) (X := X) hm
  rw [hct] at hw
  obtain ⟨C, T, N, ty0, hc, hf, hin, hty, hnm, hfin, rfl, h1 | ⟨host, h1⟩⟩ := hF
  · exact va_put hx hb hts hin ty0 hty hnm hown hK hP (gD_gw X hD) hS q0 hw hc f hf (hts _ h1) (fun _ h => h) hfin (hty f hf) hn hfit hl hdg (fun H1 locs1 h2 _ h4 => kk H1 locs1 (by unfold gH; rw [← gw_set hD hq hct2]; exact h2) h4)
  · exact va_putN hx hb hts hin ty0 hty hnm hown hK hP (gD_gw X hD) hS q0 hw hc f hf (va_Nw.use rfl (hN _ h1)) (fun _ h => h) hfin (hty f hf) hn hfit hl hdg (fun H1 locs1 h2 _ h4 => kk H1 locs1 (by unfold gH; rw [← gw_set hD hq hct2]; exact h2) h4)
theorem nar_z {v : Int32} (h : v = 0 ∨ v = 1) : narrow .boolean (.int v) = .int v := by rcases h with rfl | rfl <;> rfl
theorem vnar_z {v : Int32} (h : v = 0 ∨ v = 1) : vp_nar .boolean v = v := by rcases h with rfl | rfl <;> rfl
theorem r_iald (C : gCx p c meth m s args cc nL rt own D cA ad NL A) (hP : gH D cA ad NL X H) {K i n : Nat} {v : Int32} (hm : (K, i) ∈ NL) (hct : ct cA ad K i (X K i) = .inl (cA 0, n, .inl (X K i))) {jj : Nat} (hjj : gIn v n jj) (hdg : decode cc pc = .ok (.iaload, 1))
    (kk : W p l e R s m args below meth c H locs cells slots Q (F0 m (pc + 1) ls (.int (X K i jj) :: rest))) : W p l e R s m args below meth c H locs cells slots Q (F0 m pc ls (.int v :: .ref (ad K i) :: rest)) := by
  obtain ⟨hin, rfl⟩ := hjj
  obtain ⟨hx, hb, hml, hown, hts, hr, hlk, hK, hN, hD, hA⟩ := C
  obtain ⟨q0, hq, hw⟩ := gw_at (cA := cA) (ad := ad) (X := X) hm
  rw [hct] at hw
  exact va_iald hx hb hK hP q0 0 hw rfl hin hdg kk
theorem r_zald (C : gCx p c meth m s args cc nL rt own D cA ad NL A) (hP : gH D cA ad NL X H) {K i n : Nat} {v : Int32} (hm : (K, i) ∈ NL) (hct : ct cA ad K i (X K i) = .inl (cA 1, n, .inl (X K i))) {jj : Nat} (hjj : gIn v n jj) (hdg : decode cc pc = .ok (.baload, 1))
    (kk : W p l e R s m args below meth c H locs cells slots Q (F0 m (pc + 1) ls (.int (X K i jj) :: rest))) : W p l e R s m args below meth c H locs cells slots Q (F0 m pc ls (.int v :: .ref (ad K i) :: rest)) := by
  obtain ⟨hin, rfl⟩ := hjj
  obtain ⟨hx, hb, hml, hown, hts, hr, hlk, hK, hN, hD, hA⟩ := C
  obtain ⟨q0, hq, hw⟩ := gw_at (cA := cA) (ad := ad) (X := X) hm
  rw [hct] at hw
  exact va_zald hx hb hK hP q0 1 hw rfl hin hdg kk
theorem r_iast (C : gCx p c meth m s args cc nL rt own D cA ad NL A) (hP : gH D cA ad NL X H) (hS : va_S A s.heap H locs) {K i n : Nat} {v w : Int32} (hm : (K, i) ∈ NL) (hct : ∀ x : Nat → Int32, ct cA ad K i x = .inl (cA 0, n, .inl x)) {jj : Nat} (hjj : gIn v n jj) (hdg : decode cc pc = .ok (.iastore, 1))
    (kk : ∀ (H : Heap) (locs : List Loc), gH D cA ad NL (mset X K i jj w) H → va_S A s.heap H locs → W p l e R s m args below meth c H locs cells slots Q (F0 m (pc + 1) ls rest)) : W p l e R s m args below meth c H locs cells slots Q (F0 m pc ls (.int w :: .int v :: .ref (ad K i) :: rest)) := by
  obtain ⟨hin, rfl⟩ := hjj
  obtain ⟨hx, hb, hml, hown, hts, hr, hlk, hK, hN, hD, hA⟩ := C
  obtain ⟨q0, hq, hw⟩ := gw_at (cA := cA) (ad := ad) (X := X) hm
  rw [hct] at hw
  exact va_iast hx hb hK hP (gD_gw X hD) hS q0 0 hw rfl hin hdg (fun H1 locs1 h2 _ h4 => kk H1 locs1 (by unfold gH; rw [← gw_set hD hq (hct _)]; exact h2) h4)
theorem r_zast (C : gCx p c meth m s args cc nL rt own D cA ad NL A) (hP : gH D cA ad NL X H) (hS : va_S A s.heap H locs) {K i n : Nat} {v w : Int32} (hz : w = 0 ∨ w = 1) (hm : (K, i) ∈ NL) (hct : ∀ x : Nat → Int32, ct cA ad K i x = .inl (cA 1, n, .inl x)) {jj : Nat} (hjj : gIn v n jj) (hdg : decode cc pc = .ok (.bastore, 1))
    (kk : ∀ (H : Heap) (locs : List Loc), gH D cA ad NL (mset X K i jj w) H → va_S A s.heap H locs → W p l e R s m args below meth c H locs cells slots Q (F0 m (pc + 1) ls rest)) : W p l e R s m args below meth c H locs cells slots Q (F0 m pc ls (.int w :: .int v :: .ref (ad K i) :: rest)) := by
  obtain ⟨hin, rfl⟩ := hjj
  obtain ⟨hx, hb, hml, hown, hts, hr, hlk, hK, hN, hD, hA⟩ := C
  obtain ⟨q0, hq, hw⟩ := gw_at (cA := cA) (ad := ad) (X := X) hm
  rw [hct] at hw
  exact va_zast hx hb hK hP (gD_gw X hD) hS q0 1 hw rfl hin hdg (fun H1 locs1 h2 _ h4 => kk H1 locs1 (by unfold gH; rw [← gw_set hD hq (hct _)]; rw [vnar_z hz] at h2; exact h2) h4)
theorem r_alen (C : gCx p c meth m s args cc nL rt own D cA ad NL A) (hP : gH D cA ad NL X H) {K i t : Nat} {x : vp_A} {ty : FieldType} (v : Int32) (hm : (K, i) ∈ NL) (hct : ct cA ad K i (X K i) = .inl (cA t, x)) (ht : (gtys cA)[t]? = some (cA t, ty)) (hv : Int32.ofNat x.1 = v) (hdg : decode cc pc = .ok (.arraylength, 1))
    (kk : W p l e R s m args below meth c H locs cells slots Q (F0 m (pc + 1) ls (.int v :: rest))) : W p l e R s m args below meth c H locs cells slots Q (F0 m pc ls (.ref (ad K i) :: rest)) := by
  obtain ⟨hx, hb, hml, hown, hts, hr, hlk, hK, hN, hD, hA⟩ := C
  obtain ⟨q0, hq, hw⟩ := gw_at (cA := cA) (ad := ad) (X := X) hm
  rw [hct] at hw
  exact va_alen hx hb hK hP q0 t hw ht hv hdg kk
theorem r_aldq (C : gCx p c meth m s args cc nL rt own D cA ad NL A) (hP : gH D cA ad NL X H) {K i n t : Nat} {f : Nat → Option Nat} {Cn : String} {v : Int32} (hm : (K, i) ∈ NL) (hct : ct cA ad K i (X K i) = .inl (cA t, n, .inr (.inr (.inr (.inr f))))) (ht : (gtys cA)[t]? = some (cA t, .object Cn)) {jj : Nat} (hjj : gIn v n jj) (hdg : decode cc pc = .ok (.aaload, 1))
    (kk : W p l e R s m args below meth c H locs cells slots Q (F0 m (pc + 1) ls (va_rf (f jj) :: rest))) : W p l e R s m args below meth c H locs cells slots Q (F0 m pc ls (.int v :: .ref (ad K i) :: rest)) := by
  obtain ⟨hin, rfl⟩ := hjj
  obtain ⟨hx, hb, hml, hown, hts, hr, hlk, hK, hN, hD, hA⟩ := C
  obtain ⟨q0, hq, hw⟩ := gw_at (cA := cA) (ad := ad) (X := X) hm
  rw [hct] at hw
  exact va_aldq hx hb hK hP q0 t hw ht hin hdg kk
theorem r_aldA (C : gCx p c meth m s args cc nL rt own D cA ad NL A) (hP : gH D cA ad NL X H) {K i n : Nat} {f : Nat → Option Nat} {v : Int32} (hm : (K, i) ∈ NL) (hct : ct cA ad K i (X K i) = .inl (cA 7, n, .inr (.inr (.inr (.inr f))))) {jj : Nat} (hjj : gIn v n jj) (hdg : decode cc pc = .ok (.aaload, 1))
    (kk : W p l e R s m args below meth c H locs cells slots Q (F0 m (pc + 1) ls (va_rf (f jj) :: rest))) : W p l e R s m args below meth c H locs cells slots Q (F0 m pc ls (.int v :: .ref (ad K i) :: rest)) := by
  obtain ⟨hin, rfl⟩ := hjj
  obtain ⟨hx, hb, hml, hown, hts, hr, hlk, hK, hN, hD, hA⟩ := C
  obtain ⟨q0, hq, hw⟩ := gw_at (cA := cA) (ad := ad) (X := X) hm
  rw [hct] at hw
  have hlt : v.toNatClampNeg < n := Nat.not_le.mp fun q => hin (Or.inr q)
  exact W.aald (v := va_rf (f v.toNatClampNeg)) (ty := .array .int) hx hb (hP q0 _ hw) ((hK.2 7 _ rfl).1 n (fun j => va_rf (f j))) rfl (fun q => by cases q) (by show ¬ (v < 0 ∨ (arrV _ _ _).slots.size ≤ _); rw [arrV_size]; exact hin) (by show (arrV _ _ _).slots[_]? = _; rw [arrV_read _ _ hlt]) rfl rfl hdg kk
theorem ro_up {ad : Nat → Nat → Nat} {K2 j : Nat} {x : Nat → Int32} {w : Int32} : (va_up (fun j => ro ad K2 (x j)) j (ro ad K2 w)) = (fun q => ro ad K2 (upd x j w q)) := by
  funext q
  by_cases h : q = j <;> simp [va_up, upd, h]
theorem r_astq (C : gCx p c meth m s args cc nL rt own D cA ad NL A) (hP : gH D cA ad NL X H) (hS : va_S A s.heap H locs) {K i n t K2 ci j : Nat} {r : vw_C} {fs : List Value} {v : Int32} (w : Int32) (hw0 : ¬ w < 0) (hwj : w.toNatClampNeg = j) (hm : (K, i) ∈ NL) (hct : ∀ x : Nat → Int32, ct cA ad K i x = .inl (cA t, n, .inr (.inr (.inr (.inr (fun j => ro ad K2 (x j))))))) (ht : (gtys cA)[t]? = some (cA t, .object r.1)) (hm2 : (K2, j) ∈ NL) (hct2 : ct cA ad K2 j (X K2 j) = .inr (ci, fs)) (hcl : vwCl[ci]? = some r) {jj : Nat} (hjj : gIn v n jj) (hdg : decode cc pc = .ok (.aastore, 1))
    (kk : ∀ (H : Heap) (locs : List Loc), gH D cA ad NL (mset X K i jj w) H → va_S A s.heap H locs → W p l e R s m args below meth c H locs cells slots Q (F0 m (pc + 1) ls rest)) : W p l e R s m args below meth c H locs cells slots Q (F0 m pc ls (.ref (ad K2 j) :: .int v :: .ref (ad K i) :: rest)) := by
  obtain ⟨hin, rfl⟩ := hjj
  obtain ⟨hx, hb, hml, hown, hts, hr, hlk, hK, hN, hD, hA⟩ := C
  obtain ⟨q0, hq, hw⟩ := gw_at (cA := cA) (ad := ad) (X := X) hm
  obtain ⟨q2, hq2, hw2⟩ := gw_at (cA := cA) (ad := ad) (X := X) hm2
  rw [hct] at hw
  rw [hct2] at hw2
  refine va_astq hx hb hK hP (gD_gw X hD) hS q0 t q2 ci hw ht hw2 hcl hin hdg (fun H1 locs1 h2 _ h4 => kk H1 locs1 ?_ h4)
  unfold gH
  have e1 : some (ad K2 j) = ro ad K2 w := by unfold ro; rw [if_neg hw0, hwj]
  rw [e1, ro_up] at h2
  rw [← gw_set hD hq (hct _)]
  exact h2
theorem r_astqq (C : gCx p c meth m s args cc nL rt own D cA ad NL A) (hP : gH D cA ad NL X H) (hS : va_S A s.heap H locs) {K i n t K2 ci : Nat} {r : vw_C} {fs : List Value} {v w : Int32} {j2 : Nat} (hw : gRf NL K2 w j2) (hm : (K, i) ∈ NL) (hct : ∀ x : Nat → Int32, ct cA ad K i x = .inl (cA t, n, .inr (.inr (.inr (.inr (fun j => ro ad K2 (x j))))))) (ht : (gtys cA)[t]? = some (cA t, .object r.1)) (hct2 : ct cA ad K2 j2 (X K2 j2) = .inr (ci, fs)) (hcl : vwCl[ci]? = some r) {jj : Nat} (hjj : gIn v n jj) (hdg : decode cc pc = .ok (.aastore, 1))
    (kk : ∀ (H : Heap) (locs : List Loc), gH D cA ad NL (mset X K i jj w) H → va_S A s.heap H locs → W p l e R s m args below meth c H locs cells slots Q (F0 m (pc + 1) ls rest)) : W p l e R s m args below meth c H locs cells slots Q (F0 m pc ls (va_rf (ro ad K2 w) :: .int v :: .ref (ad K i) :: rest)) := by
  rw [gref hw]
  exact r_astq C hP hS w hw.1 hw.2.1 hm hct ht hw.2.2 hct2 hcl hjj hdg kk
theorem r_astn (C : gCx p c meth m s args cc nL rt own D cA ad NL A) (hP : gH D cA ad NL X H) (hS : va_S A s.heap H locs) {K i n t K2 : Nat} {Cn : String} {v : Int32} (hm : (K, i) ∈ NL) (hct : ∀ x : Nat → Int32, ct cA ad K i x = .inl (cA t, n, .inr (.inr (.inr (.inr (fun j => ro ad K2 (x j))))))) (ht : (gtys cA)[t]? = some (cA t, .object Cn)) {jj : Nat} (hjj : gIn v n jj) (hdg : decode cc pc = .ok (.aastore, 1))
    (kk : ∀ (H : Heap) (locs : List Loc), gH D cA ad NL (mset X K i jj (-1)) H → va_S A s.heap H locs → W p l e R s m args below meth c H locs cells slots Q (F0 m (pc + 1) ls rest)) : W p l e R s m args below meth c H locs cells slots Q (F0 m pc ls (.null :: .int v :: .ref (ad K i) :: rest)) := by
  obtain ⟨hin, rfl⟩ := hjj
  obtain ⟨hx, hb, hml, hown, hts, hr, hlk, hK, hN, hD, hA⟩ := C
  obtain ⟨q0, hq, hw⟩ := gw_at (cA := cA) (ad := ad) (X := X) hm
  rw [hct] at hw
  refine va_astqN hx hb hK hP (gD_gw X hD) hS q0 t hw ht hin hdg (fun H1 locs1 h2 _ h4 => kk H1 locs1 ?_ h4)
  unfold gH
  have e1 : (none : Option Nat) = ro ad K2 (-1) := rfl
  rw [e1, ro_up] at h2
  rw [← gw_set hD hq (hct _)]
  exact h2
/-! references that may be null -/
theorem r_aloadn {r : Option Nat} (C : gCx p c meth m s args cc nL rt own D cA ad NL A) {k : Fin 4} {i : Nat} (hdg : decode cc pc = .ok (.aload_n k, 1)) (hi : (k : Nat) = i) (hl : ls[i]? = some (.val (va_rf r)))
    (kk : W p l e R s m args below meth c H locs cells slots Q (F0 m (pc + 1) ls (va_rf r :: rest))) : W p l e R s m args below meth c H locs cells slots Q (F0 m pc ls rest) := by
  cases r with
  | none => exact lv_aload_nN C.1 C.2.1 hdg hi hl kk
  | some a => exact lv_aload_n C.1 C.2.1 hdg hi hl kk
theorem r_aload {r : Option Nat} (C : gCx p c meth m s args cc nL rt own D cA ad NL A) {i : Nat} (hdg : decode cc pc = .ok (.aload i, 2)) (hl : ls[i]? = some (.val (va_rf r)))
    (kk : W p l e R s m args below meth c H locs cells slots Q (F0 m (pc + 2) ls (va_rf r :: rest))) : W p l e R s m args below meth c H locs cells slots Q (F0 m pc ls rest) := by
  cases r with
  | none => exact lv_aloadN C.1 C.2.1 hdg hl kk
  | some a => exact lv_aload C.1 C.2.1 hdg hl kk
theorem r_astore {r : Option Nat} (C : gCx p c meth m s args cc nL rt own D cA ad NL A) {i n : Nat} {lv lv' : List (Nat × Value)} (hdg : decode cc pc = .ok (.astore i, 2)) (h : lv_has ls n lv) (hn : i < n) (hl : (i, va_rf r) :: lv.filter (fun q => !(q.1 == i) && !(q.1 + 1 == i && q.2.category == 2)) = lv')
    (kk : ∀ ls' : Array Slot, lv_has ls' n lv' → W p l e R s m args below meth c H locs cells slots Q (F0 m (pc + 2) ls' rest)) : W p l e R s m args below meth c H locs cells slots Q (F0 m pc ls (va_rf r :: rest)) := by
  cases r with
  | none => exact lv_astoreN C.1 C.2.1 hdg h hn hl kk
  | some a => exact lv_astore C.1 C.2.1 hdg h hn hl kk
theorem r_astoren {r : Option Nat} (C : gCx p c meth m s args cc nL rt own D cA ad NL A) {k : Fin 4} {i n : Nat} {lv lv' : List (Nat × Value)} (hdg : decode cc pc = .ok (.astore_n k, 1)) (hi : (k : Nat) = i) (h : lv_has ls n lv) (hn : i < n) (hl : (i, va_rf r) :: lv.filter (fun q => !(q.1 == i) && !(q.1 + 1 == i && q.2.category == 2)) = lv')
    (kk : ∀ ls' : Array Slot, lv_has ls' n lv' → W p l e R s m args below meth c H locs cells slots Q (F0 m (pc + 1) ls' rest)) : W p l e R s m args below meth c H locs cells slots Q (F0 m pc ls (va_rf r :: rest)) := by
  cases r with
  | none => exact lv_astore_nN C.1 C.2.1 hdg hi h hn hl kk
  | some a => exact lv_astore_n C.1 C.2.1 hdg hi h hn hl kk
theorem r_ifnull {K : Nat} {v : Int32} (C : gCx p c meth m s args cc nL rt own D cA ad NL A) {off : Int} {tgt : Nat} (hdg : decode cc pc = .ok (.ifnull off, 3)) (ht : (pc : Int) + off = (tgt : Int))
    (kt : v < 0 → W p l e R s m args below meth c H locs cells slots Q (F0 m tgt ls rest)) (kf : ¬ v < 0 → W p l e R s m args below meth c H locs cells slots Q (F0 m (pc + 3) ls rest)) : W p l e R s m args below meth c H locs cells slots Q (F0 m pc ls (va_rf (ro ad K v) :: rest)) := by
  by_cases h : v < 0
  · rw [ro_null h]; exact lv_ifnullN C.1 C.2.1 hdg ht (kt h)
  · rw [ro_ref h]; exact lv_ifnull C.1 C.2.1 hdg (kf h)
theorem r_ifnonnull {K : Nat} {v : Int32} (C : gCx p c meth m s args cc nL rt own D cA ad NL A) {off : Int} {tgt : Nat} (hdg : decode cc pc = .ok (.ifnonnull off, 3)) (ht : (pc : Int) + off = (tgt : Int))
    (kt : v < 0 → W p l e R s m args below meth c H locs cells slots Q (F0 m (pc + 3) ls rest)) (kf : ¬ v < 0 → W p l e R s m args below meth c H locs cells slots Q (F0 m tgt ls rest)) : W p l e R s m args below meth c H locs cells slots Q (F0 m pc ls (va_rf (ro ad K v) :: rest)) := by
  by_cases h : v < 0
  · rw [ro_null h]; exact lv_ifnonnullN C.1 C.2.1 hdg (kt h)
  · rw [ro_ref h]; exact lv_ifnonnull C.1 C.2.1 hdg ht (kf h)
end GROWS
