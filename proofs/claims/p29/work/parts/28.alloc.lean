/-! methods that make cells: a new cell's name is put at the end of the list of names; its address is known ahead -/
theorem gH_lt {D : va_G} {cA : Nat → ClassId} {ad : Nat → Nat → Nat} {NL : List (Nat × Nat)} {X : gM} {H : Heap} (h : gH D cA ad NL X H) {n : Nat × Nat} (hn : n ∈ NL) : ad n.1 n.2 < H.size := by
  obtain ⟨q0, hq, hw⟩ := gw_at (cA := cA) (ad := ad) (X := X) (show (n.1, n.2) ∈ NL from hn)
  exact (h q0 _ hw).lt
theorem gw_out {cA : Nat → ClassId} {ad : Nat → Nat → Nat} {NL : List (Nat × Nat)} {X : gM} {K i : Nat} {x : Nat → Int32} (h : (K, i) ∉ NL) : gw cA ad NL (msl X K i x) = gw cA ad NL X := by
  unfold gw
  apply List.map_congr_left
  intro n hn
  have hne : ¬ (n.1 = K ∧ n.2 = i) := by
    rintro ⟨h1, h2⟩
    apply h
    rw [← h1, ← h2]
    exact hn
  show (ad n.1 n.2, ct cA ad n.1 n.2 (msl X K i x n.1 n.2)) = (ad n.1 n.2, ct cA ad n.1 n.2 (X n.1 n.2))
  rw [msl_ne hne]
theorem gH_push {D : va_G} {cA : Nat → ClassId} {ad : Nat → Nat → Nat} {NL : List (Nat × Nat)} {X : gM} {H H1 : Heap} {K i : Nat} {x : Nat → Int32} (h : gH D cA ad NL X H) (hk : ∀ q : Nat, q < H.size → H1[q]? = H[q]?) (ha : ad K i = H.size) (hat : va_at D vwCl (ad K i, ct cA ad K i x) H1) : gH D cA ad (NL ++ [(K, i)]) (msl X K i x) H1 := by
  have hout : (K, i) ∉ NL := fun hm => by
    have := gH_lt h hm
    simp only [ha] at this
    omega
  have e : gw cA ad (NL ++ [(K, i)]) (msl X K i x) = gw cA ad NL X ++ [(ad K i, ct cA ad K i x)] := by
    have e1 : gw cA ad (NL ++ [(K, i)]) (msl X K i x) = gw cA ad NL (msl X K i x) ++ [(ad K i, ct cA ad K i (msl X K i x K i))] := by simp [gw]
    rw [e1, gw_out hout, msl_eq]
  unfold gH
  rw [e]
  refine (va_P.kept h (fun k q hq => hk _ ((h k q hq).lt))).app (fun k q hq => ?_)
  have hz : k < 1 := (List.getElem?_eq_some_iff.mp hq).1
  rw [show k = 0 by omega] at hq
  cases hq
  exact hat
theorem gD_app {A : Nat → Prop} {ad : Nat → Nat → Nat} {NL new : List (Nat × Nat)} {sz : Nat} (hD : gD A ad NL) (hlt : ∀ n ∈ NL, ad n.1 n.2 < sz) (hnew : ∀ (j : Nat) (n : Nat × Nat), new[j]? = some n → ad n.1 n.2 = sz + j) (hA : ∀ q, sz ≤ q → A q) : gD A ad (NL ++ new) := by
  refine ⟨fun i j p q hp hq e => ?_, fun n hn => ?_⟩
  · by_cases hi : i < NL.length
    · rw [List.getElem?_append_left hi] at hp
      by_cases hj : j < NL.length
      · rw [List.getElem?_append_left hj] at hq
        exact hD.1 i j p q hp hq e
      · rw [List.getElem?_append_right (by omega)] at hq
        have h1 := hlt p (List.mem_of_getElem? hp)
        have h2 := hnew _ _ hq
        omega
    · rw [List.getElem?_append_right (by omega)] at hp
      have h1 := hnew _ _ hp
      by_cases hj : j < NL.length
      · rw [List.getElem?_append_left hj] at hq
        have h2 := hlt q (List.mem_of_getElem? hq)
        omega
      · rw [List.getElem?_append_right (by omega)] at hq
        have h2 := hnew _ _ hq
        omega
  · rcases List.mem_append.mp hn with h | h
    · exact hD.2 n h
    · obtain ⟨j, hj⟩ := List.mem_iff_getElem?.mp h
      rw [hnew j n hj]
      exact hA _ (by omega)
/-- the class of arrays of rows of ints -/
def gAO2 (U : State) : Prop := (Cond.arrayOver (.array .int)).before #[] U = true
theorem g_ao2s {s : State} (h : gAO2 s) : ∃ (comp c : ClassId) (k : Class), s.vm.findClass (FieldType.array .int).toString = some comp ∧ (s.vm.classes.findIdx? fun (x : Class) => match x.kind with | .array component _ => component == comp | _ => false) = some c ∧ s.vm.classes[c]? = some k ∧ k.kind = .array comp (.array .int) ∧ s.vm.findClass ("[" ++ (FieldType.array .int).toString) = some c := by
  unfold gAO2 Cond.before Cond.holds at h
  simp only [Cond.value, beq_iff_eq] at h
  cases hc : s.vm.findClass (FieldType.array .int).toString with
  | none => simp [hc] at h
  | some comp =>
    simp only [hc, Option.bind_some, Option.bind_eq_some_iff, Option.map_eq_some_iff] at h
    obtain ⟨c, hi, k, hk, hb⟩ := h
    have hp := (Array.findIdx?_eq_some_iff_getElem.mp hi)
    obtain ⟨hlt, hq, -⟩ := hp
    have hkk : s.vm.classes[c] = k := (Array.getElem?_eq_some_iff.mp hk).2
    rw [hkk] at hq
    cases hkind : k.kind with
    | array component ty =>
      rw [hkind] at hb hq
      simp at hb hq
      exact ⟨comp, c, k, rfl, hi, hk, by rw [hkind, hq, hb.1], hb.2⟩
    | _ => rw [hkind] at hb; simp at hb
theorem gAO2.moved {u U : State} (hvm : u.vm.Alike U.vm) (h : gAO2 u) : gAO2 U := by
  obtain ⟨comp, c, k, h1, h2, h3, h4, h5⟩ := g_ao2s h
  obtain ⟨k', hk', he⟩ := hvm.2.2 _ _ h3
  have hi : (U.vm.classes.findIdx? fun (x : Class) => match x.kind with | .array component _ => component == comp | _ => false) = some c := by
    have e1 := va_idx_bare U.vm comp
    have e2 := va_idx_bare u.vm comp
    first | rw [hvm.bare_eq] at e1 | rw [← hvm.bare_eq] at e1
    exact e1.symm.trans (e2.trans h2)
  have hkind : k'.kind = .array comp (.array .int) := by rw [he]; exact h4
  have f1 : U.vm.findClass (FieldType.array .int).toString = some comp := by rw [hvm.findClass]; exact h1
  have f2 : U.vm.findClass ("[" ++ (FieldType.array .int).toString) = some c := by rw [hvm.findClass]; exact h5
  unfold gAO2 Cond.before Cond.holds
  simp only [Cond.value]
  rw [f1, Option.bind_some]
  refine (congrArg (fun o : Option Nat => (o.bind (fun c => (U.vm.classes[c]?).map fun (k : Class) => match k.kind with | .array _ ty => decide (ty = FieldType.array .int) && decide (U.vm.findClass ("[" ++ (FieldType.array .int).toString) = some c) | _ => false) == some true)) hi).trans ?_
  simp [hk', hkind, f2]
/-- the classes of the arrays of references that are made -/
def gAW (U : State) : Prop := va_AO "Undertext$Leaf" U ∧ va_AO "Undertext$Quire" U ∧ va_AO "Undertext$Fact" U ∧ va_AO "Undertext$Text" U ∧ va_AO "Undertext$Cell" U ∧ gAO2 U
theorem gAW.moved {u U : State} (hvm : u.vm.Alike U.vm) (h : gAW u) : gAW U := ⟨va_AO.moved hvm h.1, va_AO.moved hvm h.2.1, va_AO.moved hvm h.2.2.1, va_AO.moved hvm h.2.2.2.1, va_AO.moved hvm h.2.2.2.2.1, gAO2.moved hvm h.2.2.2.2.2⟩
def gUa (D : va_G) (cA : Nat → ClassId) (ad : Nat → Nat → Nat) (NL : List (Nat × Nat)) (X : gM) (sz : Nat) : State → Prop := fun U => gU D cA ad NL X sz U ∧ gAW U
/-- a contract of a method that makes cells: with the heap of sz cells -/
def gCa (l : Launch) (y : MethodName) (cc : ByteArray) (nL : Nat) (rt : Option FieldType) (rm : Room) (mc ms : Nat) (D : va_G) (cA : Nat → ClassId) (ad : Nat → Nat → Nat) (NL : List (Nat × Nat)) (av : List Value) (X : gM) (r : Option Value) (NL' : List (Nat × Nat)) (X' : gM) (sz : Nat) : Prop :=
  Met l y (.code y cc nL rt :: gTB) rm (va_Pc av (gUa D cA ad NL X sz)) (gQ D cA ad NL' r X' (gA ad NL sz)) mc ms (gA ad NL sz)
theorem gUa_blind {D : va_G} {cA : Nat → ClassId} {ad : Nat → Nat → Nat} {NL : List (Nat × Nat)} {X : gM} {sz : Nat} {av : List Value} : FrameBlind (va_Pc av (gUa D cA ad NL X sz)) := by
  intro a U g mk q
  obtain ⟨q0, q1, q2⟩ := q
  have h1 := gU_blind (D := D) (cA := cA) (ad := ad) (NL := NL) (X := X) (sz := sz) (av := av) a U g mk ⟨q0, q1⟩
  exact ⟨q0, h1.2, gAW.moved (u := U) (U := U.calling g mk a) (Vm.Alike.refl U.vm) q2⟩
/-- objects under construction lie where they will lie -/
def gAl (ad : Nat → Nat → Nat) : Prop := ∀ i : Nat, ad 82 i = ad 0 i ∧ ad 83 i = ad 1 i ∧ ad 84 i = ad 5 i ∧ ad 85 i = ad 7 i ∧ ad 86 i = ad 12 i ∧ ad 87 i = ad 14 i ∧ ad 88 i = ad 23 i ∧ ad 89 i = ad 26 i ∧ ad 90 i = ad 29 i ∧ ad 91 i = ad 40 i ∧ ad 92 i = ad 43 i
section GALLOC
variable {p : Program} {l : Launch} {e : Env} {R : Room} {s : State} {m : MethodId} {args : Array Value} {below : List Frame} {meth : Method} {c : Code} {H : Heap} {locs : List Loc} {cells slots : Nat} {Q : State → Prop} {cc : ByteArray} {pc nL : Nat} {rt : Option FieldType} {own : String} {ls : Array Slot} {rest : List Value} {D : va_G} {cA : Nat → ClassId} {ad : Nat → Nat → Nat} {NL : List (Nat × Nat)} {A : Nat → Prop} {X : gM}
theorem W_size {g : JFrame} (k : H.size ≤ s.heap.size + cells → W p l e R s m args below meth c H locs cells slots Q g) : W p l e R s m args below meth c H locs cells slots Q g := fun T hT Y => k (by subst hT; exact Y.same.2.2.1) T hT Y
theorem g_lo (hP : gH D cA ad NL X H) {K i : Nat} (hm : (K, i) ∈ NL) (ha : ad K i + 1 = s.heap.size + cells) : s.heap.size + cells ≤ H.size := by
  have := gH_lt hP hm
  simp only at this
  omega
theorem gCx_app {new : List (Nat × Nat)} {sz : Nat} (C : gCx p c meth m s args cc nL rt own D cA ad NL A) (hP : gH D cA ad NL X H) (hsz : H.size ≤ sz) (h0 : s.heap.size ≤ sz) (hnew : ∀ (j : Nat) (n : Nat × Nat), new[j]? = some n → ad n.1 n.2 = sz + j) : gCx p c meth m s args cc nL rt own D cA ad (NL ++ new) A := by
  obtain ⟨hx, hb, hml, hown, hts, hr, hlk, hK, hN, hD, hA⟩ := C
  exact ⟨hx, hb, hml, hown, hts, hr, hlk, hK, hN, gD_app hD (fun n hn => Nat.lt_of_lt_of_le (gH_lt hP hn) hsz) hnew (fun q hq => hA q (Nat.le_trans h0 hq)), hA⟩
theorem g_new1 {K i z : Nat} (h : ad K i = z) : ∀ (j : Nat) (n : Nat × Nat), [(K, i)][j]? = some n → ad n.1 n.2 = z + j := by
  intro j n hn
  have hz : j < 1 := (List.getElem?_eq_some_iff.mp hn).1
  obtain rfl : j = 0 := by omega
  cases hn
  simpa using h
/-- what the tables say of a class whose object is made -/
def gNw (own : String) (index ci N : Nat) (fs : List Value) : Prop := ∃ (C : String) (T : u_T) (ty : Nat → FieldType), vwCl[ci]? = some (C, T, N) ∧ (∀ w ∈ u_ws C T N, w ∈ gTB) ∧ (∀ k, k < N → parseFieldDescriptor (T k).2.2.1 = some (ty k)) ∧ (Cond.classLink own index C ∈ gTB) ∧ (Cond.instantiable C N ∈ gTB) ∧ (Cond.initialized C ∈ gTB) ∧ ∀ j, j < N → defaultValue (ty j) = vp_V fs j
theorem r_new {K i ci N index : Nat} {fs : List Value} {x : Nat → Int32} (C : gCx p c meth m s args cc nL rt own D cA ad NL A) (hP : gH D cA ad NL X H) (hS : va_S A s.heap H locs) (hw : gNw own index ci N fs) (hct : ct cA ad K i x = .inr (ci, fs)) (ha : ad K i = s.heap.size + cells) (hlo : s.heap.size + cells ≤ H.size) (hrm : cells + 1 ≤ R.cells ∧ slots + N ≤ R.slots) (hdg : decode cc pc = .ok (.new index, 3))
    (kk : gCx p c meth m s args cc nL rt own D cA ad (NL ++ [(K, i)]) A → ∀ H : Heap, gH D cA ad (NL ++ [(K, i)]) (msl X K i x) H → va_S A s.heap H locs → W p l e R s m args below meth c H locs (cells + 1) (slots + N) Q (F0 m (pc + 3) ls (.ref (ad K i) :: rest))) : W p l e R s m args below meth c H locs cells slots Q (F0 m pc ls rest) := by
  refine W_size (fun hup => ?_)
  have C0 := C
  obtain ⟨hx, hb, hml, hown, hts, hr, hlk, hK, hN, hD, hA⟩ := C
  obtain ⟨Cn, T, ty, hc, hin, hty, hcl, hinst, hini, hfs⟩ := hw
  have hsz : ad K i = H.size := by omega
  have hKn := hK.1 ci _ hc
  refine W.newcK hx hb hown (hts _ hcl) (hts _ hinst) (hts _ hini) rfl hdg hrm.1 hrm.2 hKn.2.1 rfl fun H1 kC hkC e1 z1 o1 => ?_
  have hC' := gCx_app (new := [(K, i)]) C0 hP (Nat.le_refl H.size) hS.1 (g_new1 hsz)
  rw [← hsz]
  refine kk hC' H1 (gH_push hP o1 hsz ?_) ⟨Nat.le_trans hS.1 (by omega), fun x h1 h2 => (o1 x (Nat.lt_of_lt_of_le h1 hS.1)).trans (hS.2.1 x h1 h2), hS.2.2⟩
  rw [hct, hsz]
  exact ⟨_, hc, (u_born ty hts hin hKn hkC e1 hty).to hfs⟩
theorem r_newa {K i N t : Nat} {n : Int32} {atype : ArrayType} {ty : FieldType} {x : Nat → Int32} (C : gCx p c meth m s args cc nL rt own D cA ad NL A) (hP : gH D cA ad NL X H) (hS : va_S A s.heap H locs) (harr : Cond.arrayClass ty ∈ gTB) (hty : newarray.typeOf atype = ty) (ht : (gtys cA)[t]? = some (cA t, ty)) (hra : va_RA s (cA t) ty → s.vm.findClass ("[" ++ ty.toString) = some (cA t)) (hdf : defaultValue ty = .int 0) (hct : ct cA ad K i x = .inl (cA t, N, .inl (fun _ => 0))) (ha : ad K i = s.heap.size + cells) (hlo : s.heap.size + cells ≤ H.size) (hn : ¬ n < 0) (hN : n.toNatClampNeg = N) (hbytes : N * componentBytes ty ≤ 536870912) (hrm : cells + 1 ≤ R.cells ∧ slots + N ≤ R.slots) (hdg : decode cc pc = .ok (.newarray atype, 2))
    (kk : gCx p c meth m s args cc nL rt own D cA ad (NL ++ [(K, i)]) A → ∀ H : Heap, gH D cA ad (NL ++ [(K, i)]) (msl X K i x) H → va_S A s.heap H locs → W p l e R s m args below meth c H locs (cells + 1) (slots + N) Q (F0 m (pc + 2) ls (.ref (ad K i) :: rest))) : W p l e R s m args below meth c H locs cells slots Q (F0 m pc ls (.int n :: rest)) := by
  refine W_size (fun hup => ?_)
  have C0 := C
  obtain ⟨hx, hb, hml, hown, hts, hr, hlk, hK, hN0, hD, hA⟩ := C
  subst hty
  have hsz : ad K i = H.size := by omega
  refine va_newaK hx hb (hts _ harr) rfl hdg rfl hn hN hbytes hrm.1 hrm.2 rfl fun H1 c1 e1 z1 o1 hAr hNm => ?_
  have hc1 : c1 = cA t := by
    have h2 := hra (hK.2 t _ ht).2
    rw [hNm] at h2
    exact Option.some.inj h2
  have hC' := gCx_app (new := [(K, i)]) C0 hP (Nat.le_refl H.size) hS.1 (g_new1 hsz)
  rw [← hsz]
  refine kk hC' H1 (gH_push hP o1 hsz ?_) ⟨Nat.le_trans hS.1 (by omega), fun x h1 h2 => (o1 x (Nat.lt_of_lt_of_le h1 hS.1)).trans (hS.2.1 x h1 h2), hS.2.2⟩
  rw [hct, hsz]
  show H1[H.size]? = some (vp_cell _ _)
  rw [vp_cell_i, e1, hdf, hc1]
theorem r_newq {K i N t : Nat} {n : Int32} {index : Nat} {Cn : String} {x : Nat → Int32} (C : gCx p c meth m s args cc nL rt own D cA ad NL A) (hP : gH D cA ad NL X H) (hS : va_S A s.heap H locs) (hcl : Cond.classLink own index Cn ∈ gTB) (hover : va_AO Cn s) (ht : (gtys cA)[t]? = some (cA t, .object Cn)) (hct : ct cA ad K i x = .inl (cA t, N, .inr (.inr (.inr (.inr (fun _ => none)))))) (ha : ad K i = s.heap.size + cells) (hlo : s.heap.size + cells ≤ H.size) (hn : ¬ n < 0) (hN : n.toNatClampNeg = N) (hbytes : N * 4 ≤ 536870912) (hrm : cells + 1 ≤ R.cells ∧ slots + N ≤ R.slots) (hdg : decode cc pc = .ok (.anewarray index, 3))
    (kk : gCx p c meth m s args cc nL rt own D cA ad (NL ++ [(K, i)]) A → ∀ H : Heap, gH D cA ad (NL ++ [(K, i)]) (msl X K i x) H → va_S A s.heap H locs → W p l e R s m args below meth c H locs (cells + 1) (slots + N) Q (F0 m (pc + 3) ls (.ref (ad K i) :: rest))) : W p l e R s m args below meth c H locs cells slots Q (F0 m pc ls (.int n :: rest)) := by
  refine W_size (fun hup => ?_)
  have C0 := C
  obtain ⟨hx, hb, hml, hown, hts, hr, hlk, hK, hN0, hD, hA⟩ := C
  subst hN
  have hsz : ad K i = H.size := by omega
  refine W.anew hx hb hown (hts _ hcl) (va_AO.use hover) rfl hdg rfl hn hbytes hrm.1 hrm.2 fun c1 kA comp f1 f2 f3 f4 => ?_
  generalize hH1 : H.push ({ cls := c1, slots := Array.replicate n.toNatClampNeg .null, vm := .none } : Cell) = H1
  have z1 : H1.size = H.size + 1 := by rw [← hH1, Array.size_push]
  have e1 : H1[H.size]? = some (arrV c1 n.toNatClampNeg (fun _ => .null)) := by rw [← hH1, Array.getElem?_push_size, ← arrV_new]
  have o1 : ∀ q : Nat, q < H.size → H1[q]? = H[q]? := fun q hq => by rw [← hH1, Array.getElem?_push, if_neg (Nat.ne_of_lt hq)]
  have hc1 : c1 = cA t := by
    obtain ⟨kB, compB, g1, g2, g3, g4⟩ := (hK.2 t _ ht).2
    have h2 : s.vm.findClass ("[" ++ (FieldType.object Cn).toString) = some (cA t) := g4
    rw [f1] at h2
    exact Option.some.inj h2
  have hC' := gCx_app (new := [(K, i)]) C0 hP (Nat.le_refl H.size) hS.1 (g_new1 hsz)
  rw [← hsz]
  refine kk hC' H1 (gH_push hP o1 hsz ?_) ⟨Nat.le_trans hS.1 (by omega), fun x h1 h2 => (o1 x (Nat.lt_of_lt_of_le h1 hS.1)).trans (hS.2.1 x h1 h2), hS.2.2⟩
  rw [hct, hsz]
  show H1[H.size]? = some (vp_cell _ _)
  rw [vp_cell_q, e1, hc1]
  rfl
/-- a final field, written in a constructor -/
def gPF (own : String) (index ci f : Nat) (ty : FieldType) : Prop := ∃ (C : String) (T : u_T) (N : Nat) (ty0 : Nat → FieldType), vwCl[ci]? = some (C, T, N) ∧ f < N ∧ (∀ w ∈ u_ws C T N, w ∈ gTB) ∧ (∀ k, k < N → parseFieldDescriptor (T k).2.2.1 = some (ty0 k)) ∧ (∀ a, a < N → ∀ b, b < N → a ≠ b → (T a).2.1 ≠ (T b).2.1) ∧ (T f).2.2.2 = true ∧ (T f).1 = own ∧ ty0 f = ty ∧ (Cond.fieldLink own index (T f).1 (T f).2.1 (T f).2.2.1 ∈ gTB)
theorem r_putF (C : gCx p c meth m s args cc nL rt own D cA ad NL A) (hin : meth.name = "<init>") (hP : gH D cA ad NL X H) (hS : va_S A s.heap H locs) {K i ci f index : Nat} {fs : List Value} {v : Value} {ty : FieldType} (w : Int32) (hm : (K, i) ∈ NL) (hct : ct cA ad K i (X K i) = .inr (ci, fs)) (hF : gPF own index ci f ty) (hct2 : ct cA ad K i (upd (X K i) f w) = .inr (ci, fs.set f v)) (hl : f < fs.length) (hn : narrow ty v = v) (hfit : fits ty v = true) (hdg : decode cc pc = .ok (.putfield index, 3))
    (kk : ∀ (H : Heap) (locs : List Loc), gH D cA ad NL (mset X K i f w) H → va_S A s.heap H locs → W p l e R s m args below meth c H locs cells slots Q (F0 m (pc + 3) ls rest)) : W p l e R s m args below meth c H locs cells slots Q (F0 m pc ls (v :: .ref (ad K i) :: rest)) := by
  obtain ⟨hx, hb, hml, hown, hts, hr, hlk, hK, hN, hD, hA⟩ := C
  obtain ⟨q0, hq, hw⟩ := gw_at (cA := cA) (ad := ad) (X := X) hm
  rw [hct] at hw
  obtain ⟨C, T, N, ty0, hc, hf, hin1, hty, hnm, hfin, hdecl, rfl, h1⟩ := hF
  exact va_putF hx hb hts hin1 ty0 hty hnm hown hK hP (gD_gw X hD) hS q0 hw hc f hf (hts _ h1) (fun _ h => h) hfin hin hdecl (hty f hf) hn hfit hl hdg (fun H1 locs1 h2 _ h4 => kk H1 locs1 (by unfold gH; rw [← gw_set hD hq hct2]; exact h2) h4)
theorem gwref {K j : Nat} {w : Int32} (h : ¬ w < 0 ∧ w.toNatClampNeg = j) : va_rf (ro ad K w) = .ref (ad K j) := by rw [ro_ref h.1, h.2]
theorem g_ofA {y : MethodName} {rm : Room} {mc ms sz : Nat} {av : List Value} {r : Option Value} {NL' : List (Nat × Nat)} {X' : gM} {lv : List (Nat × Value)} (hy : plainName y.cls = true) (hD : gD (fun _ => True) ad NL) (hn : (lg_sl av).length ≤ nL) (hlv : lv_args 0 av = lv)
    (body : ∀ (p : Program) (e : Env) (s : State) (m : MethodId) (below : List Frame) (meth : Method) (c : Code) (ls : Array Slot), s.heap.size = sz → meth.name = y.name → gAW s → gCx p c meth m s av.toArray cc nL rt y.cls D cA ad NL (gA ad NL sz) → gH D cA ad NL X s.heap → va_S (gA ad NL sz) s.heap s.heap [] → lv_has ls nL lv →
      W p l e rm s m av.toArray below meth c s.heap [] 0 0 (MQ below (gQ D cA ad NL' r X' (gA ad NL sz)) av.toArray s mc ms (gA ad NL sz)) (F0 m 0 ls [])) : gCa l y cc nL rt rm mc ms D cA ad NL av X r NL' X' sz := by
  refine Met.ofW (cc := cc) (maxL := nL) (ret := rt) hy rfl ?_
  intro p e s m args below meth c s₁ B hml hv
  obtain ⟨rfl, ⟨rfl, hP, hK, hN⟩, hAW⟩ := hv
  have hts := atoms_spec (ws := .code y cc nL rt :: gTB) B.pre
  have hl := lv_entry av hn
  rw [hlv] at hl
  have hb := body p e s m below meth c _ rfl (name_of_methodNamed B.named B.method).1 hAW ⟨B.exec, B.bytes, hml, findClass_of_methodNamed B.named, fun w hw => hts w (List.mem_cons_of_mem _ hw), B.returns, B.notSynchronized, hK, hN, gD_in hD (fun n hn => Or.inl ⟨n, hn, rfl⟩), fun q hq => Or.inr hq⟩ hP va_S.rf hl
  rw [lg_entry_eq]
  exact hb
end GALLOC
section GINI
variable {p : Program} {l : Launch} {e : Env} {R : Room} {s : State} {m : MethodId} {args : Array Value} {below : List Frame} {meth : Method} {c : Code} {H : Heap} {locs : List Loc} {cells slots : Nat} {Q : State → Prop} {cc : ByteArray} {pc nL : Nat} {rt : Option FieldType} {own : String} {ls : Array Slot} {rest : List Value} {D : va_G} {cA : Nat → ClassId} {ad : Nat → Nat → Nat} {NL : List (Nat × Nat)} {A : Nat → Prop} {X : gM}
theorem r_callA {r : Option Value} {X1 : gM} {st0 : List Value} {a : Array Value} {NL' : List (Nat × Nat)} {mc ms : Nat} (C : gCx p c meth m s args cc nL rt own D cA ad NL A) (hr : va_Run p l e R s m args below meth c H locs cells slots mc ms (F0 m pc ls st0) rest (gQ D cA ad NL' r X1 (gA ad NL H.size) a) (gA ad NL H.size)) (hS : va_S A s.heap H locs)
    (kk : ∀ (H : Heap) (locs : List Loc), gH D cA ad NL' X1 H → va_S A s.heap H locs → W p l e R s m args below meth c H locs (cells + mc) (slots + ms) Q (F0 m (pc + 3) ls (r.toList ++ rest))) : W p l e R s m args below meth c H locs cells slots Q (F0 m pc ls st0) := by
  intro T hT X
  obtain ⟨v, st₀, t, T', L, h0, X', hL, e1, e2, ⟨hv, hP1, hz, hk⟩, st⟩ := hr T hT X
  cases hv
  have hA := gA_sub C hS
  rw [h0] at hz hk
  obtain ⟨t2, a1, b1⟩ := kk T'.heap (locs ++ L) (by rw [e1]; exact hP1)
    ⟨Nat.le_trans hS.1 (by rw [e1]; exact hz), fun q h1 h2 => by rw [e1, hk q (Nat.lt_of_lt_of_le h1 hS.1) (fun z => h2 (hA q z))]; exact hS.2.1 q h1 h2, fun q hq => by
      rcases List.mem_append.mp hq with h | h
      · exact hS.2.2 q h
      · exact hA _ (hL q h)⟩ T' rfl X'
  exact ⟨t2, st t2 a1, b1⟩
def gRmA (rm R : Room) (nL mc ms : Nat) : Prop := rm.cells = mc ∧ rm.slots = ms ∧ rm.frames + 1 ≤ R.frames ∧ 8 + (nL + 11) + rm.locals ≤ R.locals
theorem g_cbA {y : MethodName} {cc2 : ByteArray} {nL2 n index mc ms : Nat} {rt2 : Option FieldType} {rm : Room} (C : gCx p c meth m s args cc nL rt own D cA ad NL A) (hi : gI y cc2 nL2 rt2 n) (hlk : Cond.methodLink own index y ∈ gTB) (hrm : gRmA rm R nL2 mc ms) : CallB R s args own index y cc2 nL2 rt2 (.code y cc2 nL2 rt2 :: gTB) rm mc ms n := by
  obtain ⟨hx, hb, hml, hown, hts, hr, hlk0, hK, hN, hD, hA⟩ := C
  have hts2 : ∀ w ∈ (Cond.code y cc2 nL2 rt2 :: gTB), w.before args s = true := fun w hw => by
    rcases List.mem_cons.mp hw with rfl | hw
    · exact hts _ hi.1
    · exact hts _ hw
  exact callB_of n hts2 (gGood hi.1) rfl hrm.1 hrm.2.1 (hts _ hi.2.1) (hts _ hlk) hi.2.2 hrm.2.2
theorem g_cnA {y : MethodName} {cc2 : ByteArray} {nL2 n index mc ms : Nat} {rt2 : Option FieldType} {rm : Room} {host : String} (C : gCx p c meth m s args cc nL rt own D cA ad NL A) (hi : gI y cc2 nL2 rt2 n) (hlk : Cond.methodLinkNest own index y host ∈ gNB) (hrm : gRmA rm R nL2 mc ms) : va_CN R s args own index y host cc2 nL2 rt2 (.code y cc2 nL2 rt2 :: gTB) rm mc ms n := by
  obtain ⟨hx, hb, hml, hown, hts, hr, hlk0, hK, hN, hD, hA⟩ := C
  have hts2 : ∀ w ∈ (Cond.code y cc2 nL2 rt2 :: gTB), w.before args s = true := fun w hw => by
    rcases List.mem_cons.mp hw with rfl | hw
    · exact hts _ hi.1
    · exact hts _ hw
  exact va_cnB n hts2 (gGood hi.1) rfl hrm.1 hrm.2.1 (hN _ hlk) (hts _ hi.2.1) hi.2.2 hrm.2.2
theorem gUa_of {sz : Nat} {av : List Value} (C : gCx p c meth m s args cc nL rt own D cA ad NL A) (hAW : gAW s) (hP : gH D cA ad NL X H) (hsz : sz = H.size) : ∀ U : State, U.heap = H → s.WarmedH U.vm → va_Pc av (gUa D cA ad NL X sz) av.toArray U := by
  obtain ⟨hx, hb, hml, hown, hts, hr, hlk0, hK, hN, hD, hA⟩ := C
  subst hsz
  intro U hU hW
  exact ⟨rfl, ⟨by rw [hU], by rw [hU]; exact hP, va_K.moved hW.alike hK, gNW.moved hW hN⟩, gAW.moved hW.alike hAW⟩
/-- a constructor is called -/
theorem r_ini {y : MethodName} {cc2 : ByteArray} {nL2 n index mc ms K0 ib : Nat} {rm : Room} {X1 : gM} {As st0 : List Value} {new : List (Nat × Nat)} (C : gCx p c meth m s args cc nL rt own D cA ad NL A) (hAW : gAW s) (hP : gH D cA ad NL X H) (hS : va_S A s.heap H locs) (hl : ls.size = nL)
    (hM : gCa l y cc2 nL2 none rm mc ms D cA ad NL (.ref (ad K0 ib) :: As) X none (NL ++ new) X1 (s.heap.size + cells)) (hnew : ∀ (j : Nat) (n : Nat × Nat), new[j]? = some n → ad n.1 n.2 = s.heap.size + cells + j) (hlo : s.heap.size + cells ≤ H.size) (hi : gI y cc2 nL2 none n) (hinst : Cond.instanceMethod y ∈ gTB) (hy : y.name = "<init>") (hlk : gLk own index y) (hrm : gRmA rm R nL2 mc ms) (hn : As.length = n) (hst : st0 = As.reverse ++ .ref (ad K0 ib) :: rest) (hW : (rest.map fun v => v.category).sum ≤ 8) (hf : cells + mc ≤ R.cells ∧ slots + ms ≤ R.slots) (hdg : decode cc pc = .ok (.invokespecial index, 3))
    (kk : gCx p c meth m s args cc nL rt own D cA ad (NL ++ new) A → ∀ (H : Heap) (locs : List Loc), gH D cA ad (NL ++ new) X1 H → va_S A s.heap H locs → W p l e R s m args below meth c H locs (cells + mc) (slots + ms) Q (F0 m (pc + 3) ls rest)) : W p l e R s m args below meth c H locs cells slots Q (F0 m pc ls st0) := by
  refine W_size (fun hup => ?_)
  have hsz : s.heap.size + cells = H.size := by omega
  rw [hsz] at hM hnew
  have C' := C
  have C2 := gCx_app C hP (Nat.le_refl H.size) hS.1 hnew
  obtain ⟨hx, hb, hml, hown, hts, hr, hlk0, hK, hN, hD, hA⟩ := C
  subst hst
  rcases hlk with hlk | ⟨host, hlk⟩
  · exact r_callA C' (va_runI (As := As) (rest := rest) ⟨hx, hb, hml, hown, hts⟩ hM ⟨g_cbA C' hi hlk hrm, hy, hts _ hinst⟩ ⟨gUa_blind, gUa_of C' hAW hP rfl⟩ rfl hn hl rfl (lv_room hW) hdg hf) hS (kk C2)
  · exact r_callA C' (va_runIN (As := As) (rest := rest) ⟨hx, hb, hml, hown, hts⟩ hM ⟨g_cnA C' hi hlk hrm, hy, hts _ hinst⟩ ⟨gUa_blind, gUa_of C' hAW hP rfl⟩ rfl hn hl rfl (lv_room hW) hdg hf) hS (kk C2)
theorem g_rek {Kr K i : Nat} {NLa NLb : List (Nat × Nat)} (hal : ad Kr i = ad K i) : (NLa ++ [(Kr, i)] ++ NLb).map (fun n => ad n.1 n.2) = (NLa ++ [(K, i)] ++ NLb).map (fun n => ad n.1 n.2) := by simp [hal]
theorem gD_same {A : Nat → Prop} {N1 N2 : List (Nat × Nat)} (h : gD A ad N1) (e : N1.map (fun n => ad n.1 n.2) = N2.map (fun n => ad n.1 n.2)) : gD A ad N2 := by
  have key : ∀ (k : Nat) (n : Nat × Nat), N2[k]? = some n → ∃ n1, N1[k]? = some n1 ∧ ad n1.1 n1.2 = ad n.1 n.2 := by
    intro k n hn
    have h1 : (N1.map (fun n => ad n.1 n.2))[k]? = some (ad n.1 n.2) := by rw [e, List.getElem?_map, hn]; rfl
    rw [List.getElem?_map] at h1
    cases h2 : N1[k]? with
    | none => rw [h2] at h1; cases h1
    | some n1 => rw [h2] at h1; exact ⟨n1, rfl, Option.some.inj h1⟩
  refine ⟨fun i j p q hp hq e2 => ?_, fun n hn => ?_⟩
  · obtain ⟨p1, hp1, ep⟩ := key i p hp
    obtain ⟨q1, hq1, eq⟩ := key j q hq
    exact h.1 i j p1 q1 hp1 hq1 (by rw [ep, eq, e2])
  · obtain ⟨k, hk⟩ := List.mem_iff_getElem?.mp hn
    obtain ⟨n1, h1, h2⟩ := key k n hk
    rw [← h2]
    exact h.2 n1 (List.mem_of_getElem? h1)
theorem gCx_rek {Kr K i : Nat} {NLa NLb : List (Nat × Nat)} (C : gCx p c meth m s args cc nL rt own D cA ad (NLa ++ [(Kr, i)] ++ NLb) A) (hal : ad Kr i = ad K i) : gCx p c meth m s args cc nL rt own D cA ad (NLa ++ [(K, i)] ++ NLb) A := by
  obtain ⟨hx, hb, hml, hown, hts, hr, hlk, hK, hN, hD, hA⟩ := C
  exact ⟨hx, hb, hml, hown, hts, hr, hlk, hK, hN, gD_same hD (g_rek hal), hA⟩
theorem gH_rek {Kr K i : Nat} {NLa NLb : List (Nat × Nat)} {x : Nat → Int32} (hD : gD A ad (NLa ++ [(Kr, i)] ++ NLb)) (h : gH D cA ad (NLa ++ [(Kr, i)] ++ NLb) X H) (hne : K ≠ Kr) (hal : ad Kr i = ad K i) (hct : ct cA ad Kr i (X Kr i) = ct cA ad K i x) : gH D cA ad (NLa ++ [(K, i)] ++ NLb) (msl X K i x) H := by
  have hr : (NLa ++ [(Kr, i)] ++ NLb)[NLa.length]? = some (Kr, i) := by simp
  have ha : (K, i) ∉ NLa := fun hm => by
    obtain ⟨k, hk⟩ := List.mem_iff_getElem?.mp hm
    have hlt : k < NLa.length := (List.getElem?_eq_some_iff.mp hk).1
    have h1 : (NLa ++ [(Kr, i)] ++ NLb)[k]? = some (K, i) := by rw [List.append_assoc, List.getElem?_append_left hlt]; exact hk
    have := hD.1 k NLa.length (K, i) (Kr, i) h1 hr hal.symm
    omega
  have hb : (K, i) ∉ NLb := fun hm => by
    obtain ⟨k, hk⟩ := List.mem_iff_getElem?.mp hm
    have h1 : (NLa ++ [(Kr, i)] ++ NLb)[NLa.length + 1 + k]? = some (K, i) := by
      rw [List.getElem?_append_right (by simp)]
      simpa using hk
    have := hD.1 _ NLa.length (K, i) (Kr, i) h1 hr hal.symm
    omega
  unfold gH at h ⊢
  have e : gw cA ad (NLa ++ [(K, i)] ++ NLb) (msl X K i x) = gw cA ad (NLa ++ [(Kr, i)] ++ NLb) X := by
    have e1 : ∀ (N1 N2 : List (Nat × Nat)) (Y : gM), gw cA ad (N1 ++ N2) Y = gw cA ad N1 Y ++ gw cA ad N2 Y := fun N1 N2 Y => by simp [gw]
    rw [e1, e1, e1, e1, gw_out ha, gw_out hb]
    have e2 : gw cA ad [(K, i)] (msl X K i x) = gw cA ad [(Kr, i)] X := by
      show [(ad K i, ct cA ad K i (msl X K i x K i))] = [(ad Kr i, ct cA ad Kr i (X Kr i))]
      rw [msl_eq, hal, hct]
    rw [e2]
  rw [e]
  exact h
end GINI
/-- the addresses of new cells, one behind the other -/
def gAdr (ad : Nat → Nat → Nat) : Nat → List (Nat × Nat) → Prop
  | _, [] => True
  | sz, n :: L => ad n.1 n.2 = sz ∧ gAdr ad (sz + 1) L
theorem gAdr_app {ad : Nat → Nat → Nat} : ∀ {L1 L2 : List (Nat × Nat)} {sz : Nat}, gAdr ad sz (L1 ++ L2) ↔ gAdr ad sz L1 ∧ gAdr ad (sz + L1.length) L2
  | [], L2, sz => by simp [gAdr]
  | n :: L1, L2, sz => by
    have := gAdr_app (ad := ad) (L1 := L1) (L2 := L2) (sz := sz + 1)
    simp only [List.cons_append, gAdr, this, List.length_cons, and_assoc]
    rw [show sz + 1 + L1.length = sz + (L1.length + 1) by omega]
theorem gAdr_at {ad : Nat → Nat → Nat} : ∀ {L : List (Nat × Nat)} {sz : Nat}, gAdr ad sz L → ∀ (j : Nat) (n : Nat × Nat), L[j]? = some n → ad n.1 n.2 = sz + j
  | [], _, _, j, n, h => by simp at h
  | m :: L, sz, h, j, n, hn => by
    cases j with
    | zero => cases hn; exact h.1
    | succ j =>
      have := gAdr_at h.2 j n (by simpa using hn)
      omega
def nw_mna : List (Nat × Nat) := [(37, 0), (38, 0), (38, 1), (38, 2), (38, 3), (38, 4), (38, 5), (38, 6), (38, 7), (38, 8)]
theorem nwl_mna : nw_mna.length = 10 := rfl
/-- nine rows of eight noughts -/
def mrows (X : gM) : gM := fun K i => if K = 38 ∧ i < 9 then fun _ => 0 else X K i
def mnO (o : ClassId) (h i : Nat) : Cell := arrV o 9 (fun j => va_rf (if j < i then some (h + 1 + j) else none))
def mnR (r : ClassId) : Cell := arrV r 8 (fun _ => .int 0)
/-- the machine when i of the rows are made -/
def mnT (T : State) (o r : ClassId) : Nat → State
  | 0 => T.pushCell (mnO o T.heap.size 0)
  | i + 1 => ((mnT T o r i).pushCell (mnR r)).setCell T.heap.size (mnO o T.heap.size (i + 1))
theorem mn_arr {c : ClassId} {N : Nat} {f g : Nat → Value} (h : ∀ j, j < N → f j = g j) : arrV c N f = arrV c N g := by
  unfold arrV
  congr 1
  exact congrArg (Array.ofFn (n := N)) (funext fun j => h j.val j.isLt)
theorem mnO_set (o : ClassId) (h i : Nat) : (mnO o h i).setSlot i (.ref (h + 1 + i)) = mnO o h (i + 1) := by
  unfold mnO
  rw [arrV_store]
  refine mn_arr fun j _ => ?_
  unfold updV
  by_cases c : j = i
  · rw [if_pos c, if_pos (by omega), c]
    rfl
  · rw [if_neg c]
    show va_rf (if j < i then some (h + 1 + j) else none) = _
    by_cases c2 : j < i
    · rw [if_pos c2, if_pos (by omega)]
    · rw [if_neg c2, if_neg (by omega)]
theorem mnO_0 (o : ClassId) (h : Nat) : ({ cls := o, slots := Array.replicate 9 .null, vm := .none } : Cell) = mnO o h 0 := by
  rw [arrV_new]
  refine mn_arr fun j _ => ?_
  rw [if_neg (Nat.not_lt_zero j)]
  rfl
theorem mnO_z (o : ClassId) (h i : Nat) : (mnO o h i).slots.size = 9 := by simp [mnO, arrV]
theorem mnR_z (r : ClassId) : (mnR r).slots.size = 8 := by simp [mnR, arrV]
theorem mnT_at (T : State) (o r : ClassId) (i : Nat) : (mnT T o r i).heap.size = T.heap.size + 1 + i ∧ (mnT T o r i).heap[T.heap.size]? = some (mnO o T.heap.size i) ∧ (mnT T o r i).vm = T.vm ∧ (mnT T o r i).slotsUsed = T.slotsUsed + 9 + i * 8 ∧
    (∀ a : Nat, a < T.heap.size → (mnT T o r i).heap[a]? = T.heap[a]?) ∧ ∀ j : Nat, j < i → (mnT T o r i).heap[T.heap.size + 1 + j]? = some (mnR r) := by
  induction i with
  | zero => exact ⟨by simp [mnT], by simp [mnT], rfl, by simp [mnT, mnO_z], fun a ha => State.heap_pushCell_of_lt _ _ ha, fun j hj => absurd hj (Nat.not_lt_zero j)⟩
  | succ i ih =>
    obtain ⟨h1, h2, h3, h4, h5, h6⟩ := ih
    have hlt : T.heap.size < (mnT T o r i).heap.size := by omega
    have hb : ((mnT T o r i).pushCell (mnR r)).heap[T.heap.size]? = some (mnO o T.heap.size i) := by rw [State.heap_pushCell_of_lt (h := hlt)]; exact h2
    refine ⟨?_, State.heap_setCell_self hb, by simp [mnT, h3], ?_, fun a ha => ?_, fun j hj => ?_⟩
    · simp [mnT, State.setCell, h1]; omega
    · simp [mnT, h4, mnR_z]; omega
    · show (((mnT T o r i).pushCell (mnR r)).setCell T.heap.size _).heap[a]? = _
      rw [State.heap_setCell_other (Nat.ne_of_gt ha), State.heap_pushCell_of_lt (h := show a < (mnT T o r i).heap.size by omega)]
      exact h5 a ha
    · show (((mnT T o r i).pushCell (mnR r)).setCell T.heap.size _).heap[T.heap.size + 1 + j]? = _
      rw [State.heap_setCell_other (show T.heap.size ≠ T.heap.size + 1 + j by omega)]
      by_cases c : j < i
      · rw [State.heap_pushCell_of_lt (h := show T.heap.size + 1 + j < (mnT T o r i).heap.size by omega)]
        exact h6 j c
      · have e : T.heap.size + 1 + j = (mnT T o r i).heap.size := by omega
        rw [e]
        exact State.heap_pushCell_size _ _
theorem mnT_top (T : State) (f : JFrame) (o r : ClassId) (i : Nat) : mnT (T.setTop f) o r i = (mnT T o r i).setTop f := by
  induction i with
  | zero => rfl
  | succ i ih => simp only [mnT, ih, State.heap_setTop, State.pushCell_setTop, State.setCell_setTop]
section MNA
variable {p : Program} {l : Launch} {e : Env} {R : Room} {s T : State} {m : MethodId} {args : Array Value} {below : List Frame} {meth : Method} {c : Code} {locs : List Loc} {cells slots : Nat}
theorem mnT_stand (Y : Stand p l e R s m args below meth c T locs cells slots) (o r : ClassId) (i : Nat) : Stand p l e R s m args below meth c (mnT T o r i) (locs ++ (List.range i).map fun j => ⟨T.heap.size, j⟩) (cells + 1 + i) (slots + 9 + i * 8) := by
  induction i with
  | zero =>
    have h := Y.pushed (mnO o T.heap.size 0)
    rw [mnO_z] at h
    simpa [mnT] using h
  | succ i ih =>
    obtain ⟨h1, h2, h3, h4, h5, h6⟩ := mnT_at T o r i
    have hb : ((mnT T o r i).pushCell (mnR r)).heap[T.heap.size]? = some (mnO o T.heap.size i) := by rw [State.heap_pushCell_of_lt (h := show T.heap.size < (mnT T o r i).heap.size by omega)]; exact h2
    have h := (ih.pushed (mnR r)).stored hb i (.ref (T.heap.size + 1 + i))
    rw [mnR_z, mnO_set] at h
    have e2 : (locs ++ (List.range (i + 1)).map fun j => (⟨T.heap.size, j⟩ : Loc)) = (locs ++ (List.range i).map fun j => (⟨T.heap.size, j⟩ : Loc)) ++ [⟨T.heap.size, i⟩] := by simp [List.range_succ, List.append_assoc]
    have e3 : slots + 9 + (i + 1) * 8 = slots + 9 + i * 8 + 8 := by omega
    rw [e2, e3]
    exact h
end MNA
section MNB
variable {E : CtlPost} {e : Env} {d : Bool} {acts : List Action} {s : State}
/-- a row is made -/
theorem mn_row {r cc : ClassId} {k : Class} (hk : s.vm.classes[r]? = some k) (hkind : k.kind = .array cc .int) (hl : ¬ 8 > e.platform.arrayLengthLimit) (hh : ¬ 8 * componentBytes .int > e.platform.maxHeapBytes) (h1 : s.heap.size < e.platform.maxCells) (h2 : s.slotsUsed + 8 ≤ e.platform.maxSlots)
    {Q : Addr → Pre} (hq : ∀ acts', Q s.heap.size d acts' (s.pushCell (mnR r))) : wp (multianewarray.make r [8]) Q E e d acts s := by
  have hm : ((8 : Int32) < 0) = False := by decide
  have n8 : (8 : Int32).toNatClampNeg = 8 := by decide
  rw [multianewarray.make]
  simp only [wp_bind', W.ite, hm, if_false, wp_pure', W.theClass, hk, hkind, Option.some.injEq, exists_eq_left', n8]
  refine W.newArray_of hk hkind hl hh h1 h2 rfl fun acts' => ?_
  have e8 : ({ cls := r, slots := Array.replicate 8 (defaultValue .int) } : Cell) = mnR r := arrV_new r 8 (.int 0)
  rw [e8]
  exact hq acts'
/-- all of them -/
theorem mn_all {o r cc : ClassId} {k kr : Class} (hk : s.vm.classes[o]? = some k) (hkind : k.kind = .array r (.array .int)) (hkr : s.vm.classes[r]? = some kr) (hkindr : kr.kind = .array cc .int) (hl9 : ¬ 9 > e.platform.arrayLengthLimit) (hh9 : ¬ 9 * componentBytes (.array .int) > e.platform.maxHeapBytes) (hl : ¬ 8 > e.platform.arrayLengthLimit) (hh : ¬ 8 * componentBytes .int > e.platform.maxHeapBytes)
    (h1 : s.heap.size + 10 ≤ e.platform.maxCells) (h2 : s.slotsUsed + 81 ≤ e.platform.maxSlots) {Q : Addr → Pre} (hq : ∀ d' acts', Q s.heap.size d' acts' (mnT s o r 9)) : wp (multianewarray.make o [9, 8]) Q E e d acts s := by
  have hm : ((9 : Int32) < 0) = False := by decide
  have n9 : (9 : Int32).toNatClampNeg = 9 := by decide
  have hf : ([(8 : Int32)].find? (· < 0)) = none := by decide
  rw [multianewarray.make]
  simp only [wp_bind', W.ite, hm, if_false, wp_pure', W.theClass, hk, hkind, Option.some.injEq, exists_eq_left', n9]
  refine W.newArray_of hk hkind hl9 hh9 (by omega) (by omega) rfl fun acts' => ?_
  have e9 : ({ cls := o, slots := Array.replicate 9 .null } : Cell) = mnO o s.heap.size 0 := mnO_0 o s.heap.size
  rw [e9]
  simp only [hf]
  rw [ite_self, wp_bind', Std.Legacy.Range.forIn_eq_forIn_range']
  have hz : ([:9] : Std.Legacy.Range).size = 9 := by simp [Std.Legacy.Range.size]
  rw [hz]
  show wp (forIn (List.range' 0 9 1) PUnit.unit _) _ E e d acts' _
  refine wp_forIn_inv (fun rest s' => ∃ i, i + rest.length = 9 ∧ rest = List.range' i rest.length ∧ s' = mnT s o r i) _ _ ⟨0, by simp, by simp, rfl⟩ ?_ ?_
  · rintro x rest s' d' acts2 Q' ⟨i, hi, hls, rfl⟩ hnext
    rw [List.length_cons] at hi hls
    rw [List.range'_succ] at hls
    obtain ⟨hx, hrest⟩ := List.cons.inj hls
    subst hx
    obtain ⟨f1, f2, f3, f4, f5, f6⟩ := mnT_at s o r x
    simp only [wp_bind']
    refine mn_row (by rw [f3]; exact hkr) hkindr hl hh (by omega) (by omega) fun acts3 => ?_
    have hlt : s.heap.size < (mnT s o r x).heap.size := by omega
    simp only [wp_bind', W.writeLoc, wp_pure']
    refine ⟨mnO o s.heap.size x, by rw [State.heap_pushCell_of_lt (h := hlt)]; exact f2, by simp [mnO, arrV], by rw [mnO_z]; omega, ?_, hnext _ _ _ ⟨x + 1, by omega, hrest, ?_⟩⟩
    · have q1 : (mnO o s.heap.size x).cls = o := rfl
      have q2 : (mnO o s.heap.size x).vm = .none := rfl
      rw [q1, q2]
      simp [State.fitsSlot, State.slotType?, f3, hk, hkind]
      rfl
    · rw [f1, mnO_set]
      rfl
  · rintro s' d' acts2 ⟨i, hi, -, rfl⟩
    have : i = 9 := by simpa using hi
    subst this
    simp only [wp_pure']
    exact hq _ _
end MNB
theorem mn_step {p : Program} {l : Launch} {e : Env} {R : Room} {s T : State} {m : MethodId} {args : Array Value} {below : List Frame} {meth : Method} {c : Code} {locs : List Loc} {cells slots : Nat} {pc : Nat} {own : String} {ls : Array Slot} {rest : List Value} {o r : ClassId} {index : Nat}
    (Xs : Stand p l e R s m args below meth c T locs cells slots) (hx : p.tables.exec = Jvm.exec) (hown : s.vm.findClass own = some m.cls) (hcl : (Cond.classLink own index "[[I").before args s = true) (hac : (Cond.arrayClass .int).before args s = true) (hao : gAO2 s) (h7 : s.vm.findClass ("[" ++ (FieldType.array .int).toString) = some o) (h0 : s.vm.findClass ("[" ++ FieldType.int.toString) = some r) (hle : s.heap.size ≤ T.heap.size)
    (hrm : cells + 10 ≤ R.cells ∧ slots + 81 ≤ R.slots) (hdg : decode c.code pc = .ok (.multianewarray index 2, 4)) :
    ∃ F : State, F.heap.size = T.heap.size + 10 ∧ F.heap[T.heap.size]? = some (mnO o T.heap.size 9) ∧ (∀ a : Nat, a < T.heap.size → F.heap[a]? = T.heap[a]?) ∧ (∀ j : Nat, j < 9 → F.heap[T.heap.size + 1 + j]? = some (mnR r)) ∧ Stand p l e R s m args below meth c F locs (cells + 10) (slots + 81) ∧
      ∀ target, Steps p.tables e below (F.setTop (F0 m (pc + 4) ls (.ref T.heap.size :: rest))) target → Steps p.tables e below (T.setTop (F0 m pc ls (.int 8 :: .int 9 :: rest))) target := by
  have es : "[" ++ (FieldType.array .int).toString = "[[I" := by decide
  have hpl : e.platform.magicAccessors = ({} : Platform).magicAccessors := by rw [Xs.admits.platform]
  obtain ⟨comp, oc, kO, hcomp, -, hkO, hkindO, hnameO⟩ := g_ao2s hao
  obtain ⟨comp', kR, cr, hcomp', hkR, hkindR⟩ := Cond.arrayClass_spec hac
  obtain ⟨c0, hfc0, hcll⟩ := Cond.classLink_spec hown hcl e.platform hpl
  rw [← es] at hfc0
  have ec7 : oc = o := Option.some.inj (hnameO.symm.trans h7)
  have ec0 : comp = r := Option.some.inj (hcomp.symm.trans h0)
  have ecr : comp' = r := Option.some.inj (hcomp'.symm.trans h0)
  have ecc : c0 = o := Option.some.inj (hfc0.symm.trans h7)
  subst ec7 ec0
  rw [ecr] at hkR
  rw [ecc] at hcll
  obtain ⟨hg₁, hwarm₁, hready₁⟩ := State.classEntry (e := e) Xs.warmed hcll
  generalize T.vm.noted m.cls index (.cls oc) = vm₁ at hg₁ hwarm₁ hready₁
  have hal : s.vm.Alike vm₁ := hwarm₁.alike
  obtain ⟨kO₁, hkO₁, heO⟩ := hal.2.2 _ _ hkO
  obtain ⟨kR₁, hkR₁, heR⟩ := hal.2.2 _ _ hkR
  have hkindO₁ : kO₁.kind = .array comp (.array .int) := by rw [heO]; exact hkindO
  have hkindR₁ : kR₁.kind = .array cr .int := by rw [heR]; exact hkindR
  obtain ⟨hr1, hr2⟩ := Xs.roomAbove hrm.1 hrm.2
  have XF := mnT_stand (Xs.noted hwarm₁) oc comp 9
  obtain ⟨f1, f2, -, -, f5, f6⟩ := mnT_at (T.setVm vm₁) oc comp 9
  have hl9 : ¬ 9 > e.platform.arrayLengthLimit := by rw [Launch.admits_arrayLengthLimit Xs.admits]; omega
  have hh9 : ¬ 9 * componentBytes (.array .int) > e.platform.maxHeapBytes := by
    rw [Launch.admits_maxHeapBytes Xs.admits]
    show ¬ 9 * 4 > 536870912
    omega
  have hl8 : ¬ 8 > e.platform.arrayLengthLimit := by rw [Launch.admits_arrayLengthLimit Xs.admits]; omega
  have hh8 : ¬ 8 * componentBytes .int > e.platform.maxHeapBytes := by
    rw [Launch.admits_maxHeapBytes Xs.admits]
    show ¬ 8 * 4 > 536870912
    omega
  generalize hF : mnT (T.setVm vm₁) oc comp 9 = F at XF f1 f2 f5 f6
  have XD := XF.dropFresh (fun x hx => by
    obtain ⟨j, -, rfl⟩ := List.mem_map.mp hx
    exact hle)
  have e81 : slots + 9 + 9 * 8 = slots + 81 := by omega
  rw [e81] at XD
  refine ⟨F, f1, f2, f5, f6, XD, fun target a1 => ?_⟩
  jvm_step Xs.here [hx, hdg]
  simp only [multianewarray.sem, wp_bind', W.resolveClassAt_links (State.method?_setTop (F0 m pc ls (.int 8 :: .int 9 :: rest)) Xs.here.top) hg₁]
  rw [W.popN, if_neg (by decide)]
  refine ⟨F0 m pc ls (.int 8 :: .int 9 :: rest), State.topJava?_setTop' (s := T.setVm vm₁) (F0 m pc ls (.int 8 :: .int 9 :: rest)) Xs.here.top, [.int 9, .int 8], rest, rfl, rfl, ?_⟩
  simp only [List.mapM_cons, List.mapM_nil, wp_bind', wp_pure']
  refine mn_all (k := kO₁) (kr := kR₁) (cc := cr) hkO₁ hkindO₁ hkR₁ hkindR₁ hl9 hh9 hl8 hh8 (by show T.heap.size + 10 ≤ _; omega) (by show T.slotsUsed + 81 ≤ _; omega) (fun d' acts' => ?_)
  have eS : ((T.setTop (F0 m pc ls (.int 8 :: .int 9 :: rest))).setVm vm₁).setTop { F0 m pc ls (.int 8 :: .int 9 :: rest) with stack := rest } = (T.setVm vm₁).setTop { F0 m pc ls (.int 8 :: .int 9 :: rest) with stack := rest } := by
    show ((T.setVm vm₁).setTop (F0 m pc ls (.int 8 :: .int 9 :: rest))).setTop _ = _
    rw [State.setTop_setTop]
  rw [eS, mnT_top, hF]
  simp only [wp_bind', W.mark, W.pushRef, State.topJava?_setTop' _ XF.here.top, Option.some.injEq, exists_eq_left', State.setTop_setTop, State.heap_setTop]
  intro acts
  simp [jvm, XF.here.top]
  exact a1
theorem r_mna {p : Program} {l : Launch} {e : Env} {R : Room} {s : State} {m : MethodId} {args : Array Value} {below : List Frame} {meth : Method} {c : Code} {H : Heap} {locs : List Loc} {cells slots : Nat} {Q : State → Prop} {cc : ByteArray} {pc nL : Nat} {rt : Option FieldType} {own : String} {ls : Array Slot} {rest : List Value} {D : va_G} {cA : Nat → ClassId} {ad : Nat → Nat → Nat} {NL : List (Nat × Nat)} {A : Nat → Prop} {X : gM} {index : Nat}
    (C : gCx p c meth m s args cc nL rt own D cA ad NL A) (hP : gH D cA ad NL X H) (hS : va_S A s.heap H locs) (hcl : Cond.classLink own index "[[I" ∈ gTB) (hac : Cond.arrayClass .int ∈ gTB) (hao : gAO2 s) (ha : gAdr ad (s.heap.size + cells) nw_mna) (hlo : s.heap.size + cells ≤ H.size) (hrm : cells + 10 ≤ R.cells ∧ slots + 81 ≤ R.slots) (hdg : decode cc pc = .ok (.multianewarray index 2, 4))
    (kk : gCx p c meth m s args cc nL rt own D cA ad (NL ++ nw_mna) A → ∀ H : Heap, gH D cA ad (NL ++ nw_mna) (mrows X) H → va_S A s.heap H locs → W p l e R s m args below meth c H locs (cells + 10) (slots + 81) Q (F0 m (pc + 4) ls (.ref (ad 37 0) :: rest))) : W p l e R s m args below meth c H locs cells slots Q (F0 m pc ls (.int 8 :: .int 9 :: rest)) := by
  refine W_size (fun hup => ?_)
  have C0 := C
  obtain ⟨hx, hb, hml, hown, hts, hr, hlk, hK, hN0, hD, hA⟩ := C
  have hsz : s.heap.size + cells = H.size := by omega
  rw [hsz] at ha
  have h7 : s.vm.findClass ("[" ++ (FieldType.array .int).toString) = some (cA 7) := (hK.2 7 (cA 7, .array .int) rfl).2
  have h0 : s.vm.findClass ("[" ++ FieldType.int.toString) = some (cA 0) := (hK.2 0 (cA 0, .int) rfl).2
  have a37 : ad 37 0 = H.size := gAdr_at ha 0 (37, 0) rfl
  have a38 : ∀ j, j < 9 → ad 38 j = H.size + 1 + j := fun j hj => by
    have h9 : j = 0 ∨ j = 1 ∨ j = 2 ∨ j = 3 ∨ j = 4 ∨ j = 5 ∨ j = 6 ∨ j = 7 ∨ j = 8 := by omega
    rcases h9 with rfl | rfl | rfl | rfl | rfl | rfl | rfl | rfl | rfl
    · exact gAdr_at ha 1 (38, 0) rfl
    · exact gAdr_at ha 2 (38, 1) rfl
    · exact gAdr_at ha 3 (38, 2) rfl
    · exact gAdr_at ha 4 (38, 3) rfl
    · exact gAdr_at ha 5 (38, 4) rfl
    · exact gAdr_at ha 6 (38, 5) rfl
    · exact gAdr_at ha 7 (38, 6) rfl
    · exact gAdr_at ha 8 (38, 7) rfl
    · exact gAdr_at ha 9 (38, 8) rfl
  have hC' := gCx_app (new := nw_mna) C0 hP (Nat.le_refl H.size) hS.1 (gAdr_at ha)
  intro T hT Xs
  subst hT
  obtain ⟨F, f1, f2, hold, hrow, X', step⟩ := mn_step (ls := ls) (rest := rest) Xs hx hown (hts _ hcl) (hts _ hac) hao h7 h0 hS.1 hrm (by rw [hb]; exact hdg)
  have hGH : gH D cA ad (NL ++ nw_mna) (mrows X) F.heap := by
    have e1 : gw cA ad (NL ++ nw_mna) (mrows X) = gw cA ad NL X ++ gw cA ad nw_mna (mrows X) := by
      have e2 : gw cA ad (NL ++ nw_mna) (mrows X) = gw cA ad NL (mrows X) ++ gw cA ad nw_mna (mrows X) := by simp [gw]
      rw [e2]
      congr 1
      unfold gw
      apply List.map_congr_left
      intro n hn
      have hlt := gH_lt hP hn
      have : mrows X n.1 n.2 = X n.1 n.2 := by
        unfold mrows
        refine if_neg ?_
        rintro ⟨h1, h2⟩
        have := a38 n.2 h2
        rw [← h1] at this
        omega
      rw [this]
    unfold gH
    rw [e1]
    refine (va_P.kept hP (fun k q hq => hold _ ((hP k q hq).lt))).app (fun k q hq => ?_)
    obtain ⟨n, hn, rfl⟩ := List.mem_map.mp (List.mem_of_getElem? hq)
    have hn2 : n = (37, 0) ∨ ∃ j, j < 9 ∧ n = (38, j) := by
      simp only [nw_mna, List.mem_cons, List.not_mem_nil, or_false] at hn
      rcases hn with h | h | h | h | h | h | h | h | h | h
      · exact Or.inl h
      · exact Or.inr ⟨0, by omega, h⟩
      · exact Or.inr ⟨1, by omega, h⟩
      · exact Or.inr ⟨2, by omega, h⟩
      · exact Or.inr ⟨3, by omega, h⟩
      · exact Or.inr ⟨4, by omega, h⟩
      · exact Or.inr ⟨5, by omega, h⟩
      · exact Or.inr ⟨6, by omega, h⟩
      · exact Or.inr ⟨7, by omega, h⟩
      · exact Or.inr ⟨8, by omega, h⟩
    rcases hn2 with rfl | ⟨j, hj, rfl⟩
    · show F.heap[ad 37 0]? = some (vp_cell (cA 7) (9, .inr (.inr (.inr (.inr (fun j => some (ad 38 j)))))))
      rw [a37, f2, vp_cell_q]
      refine congrArg some (mn_arr fun j hj => ?_)
      show va_rf (if j < 9 then some (T.heap.size + 1 + j) else none) = _
      rw [if_pos hj, a38 j hj]
    · show F.heap[ad 38 j]? = some (vp_cell (cA 0) (8, .inl (mrows X 38 j)))
      have em : mrows X 38 j = fun _ => 0 := by
        unfold mrows
        exact if_pos ⟨rfl, hj⟩
      rw [a38 j hj, hrow j hj, em, vp_cell_i]
      rfl
  have hS' : va_S A s.heap F.heap locs := ⟨by omega, fun x h1 h2 => (hold x (by omega)).trans (hS.2.1 x h1 h2), hS.2.2⟩
  obtain ⟨t, a1, b1⟩ := kk hC' F.heap hGH hS' F rfl X'
  rw [a37] at a1
  exact ⟨t, step t a1, b1⟩
