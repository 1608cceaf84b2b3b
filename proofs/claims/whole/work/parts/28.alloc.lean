/-! methods that make cells: a new cell's name is put at the end of the list of names; its address is known ahead -/
theorem gH_lt {D : va_G} {cA : Nat → ClassId} {ad : Nat → Nat → Nat} {NL : List (Nat × Nat)} {X : gM} {H : Heap} (h : gH D cA ad NL X H) {n : Nat × Nat} (hn : n ∈ NL) : ad n.1 n.2 < H.size := by
  obtain ⟨q0, hq, hw⟩ := gw_at (cA := cA) (ad := ad) (X := X) (show (n.1, n.2) ∈ NL from hn)
  exact (h q0 _ hw).lt
theorem gw_out {cA : Nat → ClassId} {ad : Nat → Nat → Nat} {NL : List (Nat × Nat)} {X : gM} {K i : Nat} {x : Nat → Int32} (h : (K, i) ∉ NL) : gw cA ad NL (msl X K i x) = gw cA ad NL X := by
  unfold gw
  apply List.map_congr_left
  intro n hn
  have hne : ¬ (n.1 = K ∧ n.2 = i) := by
    rintro ⟨h1, h2⟩
    apply h
    rw [← h1, ← h2]
    exact hn
  show (ad n.1 n.2, ct cA ad n.1 n.2 (msl X K i x n.1 n.2)) = (ad n.1 n.2, ct cA ad n.1 n.2 (X n.1 n.2))
  rw [msl_ne hne]
theorem gH_push {D : va_G} {cA : Nat → ClassId} {ad : Nat → Nat → Nat} {NL : List (Nat × Nat)} {X : gM} {H H1 : Heap} {K i : Nat} {x : Nat → Int32} (h : gH D cA ad NL X H) (hk : ∀ q : Nat, q < H.size → H1[q]? = H[q]?) (ha : ad K i = H.size) (hat : va_at D vwCl (ad K i, ct cA ad K i x) H1) : gH D cA ad (NL ++ [(K, i)]) (msl X K i x) H1 := by
  have hout : (K, i) ∉ NL := fun hm => by
    have := gH_lt h hm
    simp only [ha] at this
    omega
  have e : gw cA ad (NL ++ [(K, i)]) (msl X K i x) = gw cA ad NL X ++ [(ad K i, ct cA ad K i x)] := by
    have e1 : gw cA ad (NL ++ [(K, i)]) (msl X K i x) = gw cA ad NL (msl X K i x) ++ [(ad K i, ct cA ad K i (msl X K i x K i))] := by simp [gw]
    rw [e1, gw_out hout, msl_eq]
  unfold gH
  rw [e]
  refine (va_P.kept h (fun k q hq => hk _ ((h k q hq).lt))).app (fun k q hq => ?_)
  have hz : k < 1 := (List.getElem?_eq_some_iff.mp hq).1
  rw [show k = 0 by omega] at hq
  cases hq
  exact hat
theorem gD_app {A : Nat → Prop} {ad : Nat → Nat → Nat} {NL new : List (Nat × Nat)} {sz : Nat} (hD : gD A ad NL) (hlt : ∀ n ∈ NL, ad n.1 n.2 < sz) (hnew : ∀ (j : Nat) (n : Nat × Nat), new[j]? = some n → ad n.1 n.2 = sz + j) (hA : ∀ q, sz ≤ q → A q) : gD A ad (NL ++ new) := by
  refine ⟨fun i j p q hp hq e => ?_, fun n hn => ?_⟩
  · by_cases hi : i < NL.length
    · rw [List.getElem?_append_left hi] at hp
      by_cases hj : j < NL.length
      · rw [List.getElem?_append_left hj] at hq
        exact hD.1 i j p q hp hq e
      · rw [List.getElem?_append_right (by omega)] at hq
        have h1 := hlt p (List.mem_of_getElem? hp)
        have h2 := hnew _ _ hq
        omega
    · rw [List.getElem?_append_right (by omega)] at hp
      have h1 := hnew _ _ hp
      by_cases hj : j < NL.length
      · rw [List.getElem?_append_left hj] at hq
        have h2 := hlt q (List.mem_of_getElem? hq)
        omega
      · rw [List.getElem?_append_right (by omega)] at hq
        have h2 := hnew _ _ hq
        omega
  · rcases List.mem_append.mp hn with h | h
    · exact hD.2 n h
    · obtain ⟨j, hj⟩ := List.mem_iff_getElem?.mp h
      rw [hnew j n hj]
      exact hA _ (by omega)
/-- the classes of the arrays of references that are made -/
def gAW (U : State) : Prop := va_AO "Undertext$Leaf" U ∧ va_AO "Undertext$Quire" U ∧ va_AO "Undertext$Fact" U ∧ va_AO "Undertext$Text" U ∧ va_AO "Undertext$Cell" U
theorem gAW.moved {u U : State} (hvm : u.vm.Alike U.vm) (h : gAW u) : gAW U := ⟨va_AO.moved hvm h.1, va_AO.moved hvm h.2.1, va_AO.moved hvm h.2.2.1, va_AO.moved hvm h.2.2.2.1, va_AO.moved hvm h.2.2.2.2⟩
def gUa (D : va_G) (cA : Nat → ClassId) (ad : Nat → Nat → Nat) (NL : List (Nat × Nat)) (X : gM) (sz : Nat) : State → Prop := fun U => gU D cA ad NL X sz U ∧ gAW U
/-- a contract of a method that makes cells: with the heap of sz cells -/
def gCa (l : Launch) (y : MethodName) (cc : ByteArray) (nL : Nat) (rt : Option FieldType) (rm : Room) (mc ms : Nat) (D : va_G) (cA : Nat → ClassId) (ad : Nat → Nat → Nat) (NL : List (Nat × Nat)) (av : List Value) (X : gM) (r : Option Value) (NL' : List (Nat × Nat)) (X' : gM) (sz : Nat) : Prop :=
  Met l y (.code y cc nL rt :: gTB) rm (va_Pc av (gUa D cA ad NL X sz)) (gQ D cA ad NL' r X' (gA ad NL sz)) mc ms (gA ad NL sz)
theorem gUa_blind {D : va_G} {cA : Nat → ClassId} {ad : Nat → Nat → Nat} {NL : List (Nat × Nat)} {X : gM} {sz : Nat} {av : List Value} : FrameBlind (va_Pc av (gUa D cA ad NL X sz)) := by
  intro a U g mk q
  obtain ⟨q0, q1, q2⟩ := q
  have h1 := gU_blind (D := D) (cA := cA) (ad := ad) (NL := NL) (X := X) (sz := sz) (av := av) a U g mk ⟨q0, q1⟩
  exact ⟨q0, h1.2, gAW.moved (u := U) (U := U.calling g mk a) (Vm.Alike.refl U.vm) q2⟩
/-- objects under construction lie where they will lie -/
def gAl (ad : Nat → Nat → Nat) : Prop := ∀ i : Nat, ad 82 i = ad 0 i ∧ ad 83 i = ad 1 i ∧ ad 84 i = ad 5 i ∧ ad 85 i = ad 7 i ∧ ad 86 i = ad 12 i ∧ ad 87 i = ad 14 i ∧ ad 88 i = ad 23 i ∧ ad 89 i = ad 26 i ∧ ad 90 i = ad 29 i ∧ ad 91 i = ad 40 i ∧ ad 92 i = ad 43 i
section GALLOC
variable {p : Program} {l : Launch} {e : Env} {R : Room} {s : State} {m : MethodId} {args : Array Value} {below : List Frame} {meth : Method} {c : Code} {H : Heap} {locs : List Loc} {cells slots : Nat} {Q : State → Prop} {cc : ByteArray} {pc nL : Nat} {rt : Option FieldType} {own : String} {ls : Array Slot} {rest : List Value} {D : va_G} {cA : Nat → ClassId} {ad : Nat → Nat → Nat} {NL : List (Nat × Nat)} {A : Nat → Prop} {X : gM}
theorem W_size {g : JFrame} (k : H.size ≤ s.heap.size + cells → W p l e R s m args below meth c H locs cells slots Q g) : W p l e R s m args below meth c H locs cells slots Q g := fun T hT Y => k (by subst hT; exact Y.same.2.2.1) T hT Y
theorem g_lo (hP : gH D cA ad NL X H) {K i : Nat} (hm : (K, i) ∈ NL) (ha : ad K i + 1 = s.heap.size + cells) : s.heap.size + cells ≤ H.size := by
  have := gH_lt hP hm
  simp only at this
  omega
theorem gCx_app {new : List (Nat × Nat)} {sz : Nat} (C : gCx p c meth m s args cc nL rt own D cA ad NL A) (hP : gH D cA ad NL X H) (hsz : H.size ≤ sz) (h0 : s.heap.size ≤ sz) (hnew : ∀ (j : Nat) (n : Nat × Nat), new[j]? = some n → ad n.1 n.2 = sz + j) : gCx p c meth m s args cc nL rt own D cA ad (NL ++ new) A := by
  obtain ⟨hx, hb, hml, hown, hts, hr, hlk, hK, hN, hD, hA⟩ := C
  exact ⟨hx, hb, hml, hown, hts, hr, hlk, hK, hN, gD_app hD (fun n hn => Nat.lt_of_lt_of_le (gH_lt hP hn) hsz) hnew (fun q hq => hA q (Nat.le_trans h0 hq)), hA⟩
theorem g_new1 {K i z : Nat} (h : ad K i = z) : ∀ (j : Nat) (n : Nat × Nat), [(K, i)][j]? = some n → ad n.1 n.2 = z + j := by
  intro j n hn
  have hz : j < 1 := (List.getElem?_eq_some_iff.mp hn).1
  obtain rfl : j = 0 := by omega
  cases hn
  simpa using h
/-- what the tables say of a class whose object is made -/
def gNw (own : String) (index ci N : Nat) (fs : List Value) : Prop := ∃ (C : String) (T : u_T) (ty : Nat → FieldType), vwCl[ci]? = some (C, T, N) ∧ (∀ w ∈ u_ws C T N, w ∈ gTB) ∧ (∀ k, k < N → parseFieldDescriptor (T k).2.2.1 = some (ty k)) ∧ (Cond.classLink own index C ∈ gTB) ∧ (Cond.instantiable C N ∈ gTB) ∧ (Cond.initialized C ∈ gTB) ∧ ∀ j, j < N → defaultValue (ty j) = vp_V fs j
theorem r_new {K i ci N index : Nat} {fs : List Value} {x : Nat → Int32} (C : gCx p c meth m s args cc nL rt own D cA ad NL A) (hP : gH D cA ad NL X H) (hS : va_S A s.heap H locs) (hw : gNw own index ci N fs) (hct : ct cA ad K i x = .inr (ci, fs)) (ha : ad K i = s.heap.size + cells) (hlo : s.heap.size + cells ≤ H.size) (hrm : cells + 1 ≤ R.cells ∧ slots + N ≤ R.slots) (hdg : decode cc pc = .ok (.new index, 3))
    (kk : gCx p c meth m s args cc nL rt own D cA ad (NL ++ [(K, i)]) A → ∀ H : Heap, gH D cA ad (NL ++ [(K, i)]) (msl X K i x) H → va_S A s.heap H locs → W p l e R s m args below meth c H locs (cells + 1) (slots + N) Q (F0 m (pc + 3) ls (.ref (ad K i) :: rest))) : W p l e R s m args below meth c H locs cells slots Q (F0 m pc ls rest) := by
  refine W_size (fun hup => ?_)
  have C0 := C
  obtain ⟨hx, hb, hml, hown, hts, hr, hlk, hK, hN, hD, hA⟩ := C
  obtain ⟨Cn, T, ty, hc, hin, hty, hcl, hinst, hini, hfs⟩ := hw
  have hsz : ad K i = H.size := by omega
  have hKn := hK.1 ci _ hc
  refine W.newcK hx hb hown (hts _ hcl) (hts _ hinst) (hts _ hini) rfl hdg hrm.1 hrm.2 hKn.2.1 rfl fun H1 kC hkC e1 z1 o1 => ?_
  have hC' := gCx_app (new := [(K, i)]) C0 hP (Nat.le_refl H.size) hS.1 (g_new1 hsz)
  rw [← hsz]
  refine kk hC' H1 (gH_push hP o1 hsz ?_) ⟨Nat.le_trans hS.1 (by omega), fun x h1 h2 => (o1 x (Nat.lt_of_lt_of_le h1 hS.1)).trans (hS.2.1 x h1 h2), hS.2.2⟩
  rw [hct, hsz]
  exact ⟨_, hc, (u_born ty hts hin hKn hkC e1 hty).to hfs⟩
theorem r_newa {K i N t : Nat} {n : Int32} {atype : ArrayType} {ty : FieldType} {x : Nat → Int32} (C : gCx p c meth m s args cc nL rt own D cA ad NL A) (hP : gH D cA ad NL X H) (hS : va_S A s.heap H locs) (harr : Cond.arrayClass ty ∈ gTB) (hty : newarray.typeOf atype = ty) (ht : (gtys cA)[t]? = some (cA t, ty)) (hra : va_RA s (cA t) ty → s.vm.findClass ("[" ++ ty.toString) = some (cA t)) (hdf : defaultValue ty = .int 0) (hct : ct cA ad K i x = .inl (cA t, N, .inl (fun _ => 0))) (ha : ad K i = s.heap.size + cells) (hlo : s.heap.size + cells ≤ H.size) (hn : ¬ n < 0) (hN : n.toNatClampNeg = N) (hbytes : N * componentBytes ty ≤ 536870912) (hrm : cells + 1 ≤ R.cells ∧ slots + N ≤ R.slots) (hdg : decode cc pc = .ok (.newarray atype, 2))
    (kk : gCx p c meth m s args cc nL rt own D cA ad (NL ++ [(K, i)]) A → ∀ H : Heap, gH D cA ad (NL ++ [(K, i)]) (msl X K i x) H → va_S A s.heap H locs → W p l e R s m args below meth c H locs (cells + 1) (slots + N) Q (F0 m (pc + 2) ls (.ref (ad K i) :: rest))) : W p l e R s m args below meth c H locs cells slots Q (F0 m pc ls (.int n :: rest)) := by
  refine W_size (fun hup => ?_)
  have C0 := C
  obtain ⟨hx, hb, hml, hown, hts, hr, hlk, hK, hN0, hD, hA⟩ := C
  subst hty
  have hsz : ad K i = H.size := by omega
  refine va_newaK hx hb (hts _ harr) rfl hdg rfl hn hN hbytes hrm.1 hrm.2 rfl fun H1 c1 e1 z1 o1 hAr hNm => ?_
  have hc1 : c1 = cA t := by
    have h2 := hra (hK.2 t _ ht).2
    rw [hNm] at h2
    exact Option.some.inj h2
  have hC' := gCx_app (new := [(K, i)]) C0 hP (Nat.le_refl H.size) hS.1 (g_new1 hsz)
  rw [← hsz]
  refine kk hC' H1 (gH_push hP o1 hsz ?_) ⟨Nat.le_trans hS.1 (by omega), fun x h1 h2 => (o1 x (Nat.lt_of_lt_of_le h1 hS.1)).trans (hS.2.1 x h1 h2), hS.2.2⟩
  rw [hct, hsz]
  show H1[H.size]? = some (vp_cell _ _)
  rw [vp_cell_i, e1, hdf, hc1]
theorem r_newq {K i N t : Nat} {n : Int32} {index : Nat} {Cn : String} {x : Nat → Int32} (C : gCx p c meth m s args cc nL rt own D cA ad NL A) (hP : gH D cA ad NL X H) (hS : va_S A s.heap H locs) (hcl : Cond.classLink own index Cn ∈ gTB) (hover : va_AO Cn s) (ht : (gtys cA)[t]? = some (cA t, .object Cn)) (hct : ct cA ad K i x = .inl (cA t, N, .inr (.inr (.inr (.inr (fun _ => none)))))) (ha : ad K i = s.heap.size + cells) (hlo : s.heap.size + cells ≤ H.size) (hn : ¬ n < 0) (hN : n.toNatClampNeg = N) (hbytes : N * 4 ≤ 536870912) (hrm : cells + 1 ≤ R.cells ∧ slots + N ≤ R.slots) (hdg : decode cc pc = .ok (.anewarray index, 3))
    (kk : gCx p c meth m s args cc nL rt own D cA ad (NL ++ [(K, i)]) A → ∀ H : Heap, gH D cA ad (NL ++ [(K, i)]) (msl X K i x) H → va_S A s.heap H locs → W p l e R s m args below meth c H locs (cells + 1) (slots + N) Q (F0 m (pc + 3) ls (.ref (ad K i) :: rest))) : W p l e R s m args below meth c H locs cells slots Q (F0 m pc ls (.int n :: rest)) := by
  refine W_size (fun hup => ?_)
  have C0 := C
  obtain ⟨hx, hb, hml, hown, hts, hr, hlk, hK, hN0, hD, hA⟩ := C
  subst hN
  have hsz : ad K i = H.size := by omega
  refine W.anew hx hb hown (hts _ hcl) (va_AO.use hover) rfl hdg rfl hn hbytes hrm.1 hrm.2 fun c1 kA comp f1 f2 f3 f4 => ?_
  generalize hH1 : H.push ({ cls := c1, slots := Array.replicate n.toNatClampNeg .null, vm := .none } : Cell) = H1
  have z1 : H1.size = H.size + 1 := by rw [← hH1, Array.size_push]
  have e1 : H1[H.size]? = some (arrV c1 n.toNatClampNeg (fun _ => .null)) := by rw [← hH1, Array.getElem?_push_size, ← arrV_new]
  have o1 : ∀ q : Nat, q < H.size → H1[q]? = H[q]? := fun q hq => by rw [← hH1, Array.getElem?_push, if_neg (Nat.ne_of_lt hq)]
  have hc1 : c1 = cA t := by
    obtain ⟨kB, compB, g1, g2, g3, g4⟩ := (hK.2 t _ ht).2
    have h2 : s.vm.findClass ("[" ++ (FieldType.object Cn).toString) = some (cA t) := g4
    rw [f1] at h2
    exact Option.some.inj h2
  have hC' := gCx_app (new := [(K, i)]) C0 hP (Nat.le_refl H.size) hS.1 (g_new1 hsz)
  rw [← hsz]
  refine kk hC' H1 (gH_push hP o1 hsz ?_) ⟨Nat.le_trans hS.1 (by omega), fun x h1 h2 => (o1 x (Nat.lt_of_lt_of_le h1 hS.1)).trans (hS.2.1 x h1 h2), hS.2.2⟩
  rw [hct, hsz]
  show H1[H.size]? = some (vp_cell _ _)
  rw [vp_cell_q, e1, hc1]
  rfl
/-- a final field, written in a constructor -/
def gPF (own : String) (index ci f : Nat) (ty : FieldType) : Prop := ∃ (C : String) (T : u_T) (N : Nat) (ty0 : Nat → FieldType), vwCl[ci]? = some (C, T, N) ∧ f < N ∧ (∀ w ∈ u_ws C T N, w ∈ gTB) ∧ (∀ k, k < N → parseFieldDescriptor (T k).2.2.1 = some (ty0 k)) ∧ (∀ a, a < N → ∀ b, b < N → a ≠ b → (T a).2.1 ≠ (T b).2.1) ∧ (T f).2.2.2 = true ∧ (T f).1 = own ∧ ty0 f = ty ∧ (Cond.fieldLink own index (T f).1 (T f).2.1 (T f).2.2.1 ∈ gTB)
theorem r_putF (C : gCx p c meth m s args cc nL rt own D cA ad NL A) (hin : meth.name = "<init>") (hP : gH D cA ad NL X H) (hS : va_S A s.heap H locs) {K i ci f index : Nat} {fs : List Value} {v : Value} {ty : FieldType} (w : Int32) (hm : (K, i) ∈ NL) (hct : ct cA ad K i (X K i) = .inr (ci, fs)) (hF : gPF own index ci f ty) (hct2 : ct cA ad K i (upd (X K i) f w) = .inr (ci, fs.set f v)) (hl : f < fs.length) (hn : narrow ty v = v) (hfit : fits ty v = true) (hdg : decode cc pc = .ok (.putfield index, 3))
    (kk : ∀ (H : Heap) (locs : List Loc), gH D cA ad NL (mset X K i f w) H → va_S A s.heap H locs → W p l e R s m args below meth c H locs cells slots Q (F0 m (pc + 3) ls rest)) : W p l e R s m args below meth c H locs cells slots Q (F0 m pc ls (v :: .ref (ad K i) :: rest)) := by
  obtain ⟨hx, hb, hml, hown, hts, hr, hlk, hK, hN, hD, hA⟩ := C
  obtain ⟨q0, hq, hw⟩ := gw_at (cA := cA) (ad := ad) (X := X) hm
  rw [hct] at hw
  obtain ⟨C, T, N, ty0, hc, hf, hin1, hty, hnm, hfin, hdecl, rfl, h1⟩ := hF
  exact va_putF hx hb hts hin1 ty0 hty hnm hown hK hP (gD_gw X hD) hS q0 hw hc f hf (hts _ h1) (fun _ h => h) hfin hin hdecl (hty f hf) hn hfit hl hdg (fun H1 locs1 h2 _ h4 => kk H1 locs1 (by unfold gH; rw [← gw_set hD hq hct2]; exact h2) h4)
theorem gwref {K j : Nat} {w : Int32} (h : ¬ w < 0 ∧ w.toNatClampNeg = j) : va_rf (ro ad K w) = .ref (ad K j) := by rw [ro_ref h.1, h.2]
theorem g_ofA {y : MethodName} {rm : Room} {mc ms sz : Nat} {av : List Value} {r : Option Value} {NL' : List (Nat × Nat)} {X' : gM} {lv : List (Nat × Value)} (hy : plainName y.cls = true) (hD : gD (fun _ => True) ad NL) (hn : (lg_sl av).length ≤ nL) (hlv : lv_args 0 av = lv)
    (body : ∀ (p : Program) (e : Env) (s : State) (m : MethodId) (below : List Frame) (meth : Method) (c : Code) (ls : Array Slot), s.heap.size = sz → meth.name = y.name → gAW s → gCx p c meth m s av.toArray cc nL rt y.cls D cA ad NL (gA ad NL sz) → gH D cA ad NL X s.heap → va_S (gA ad NL sz) s.heap s.heap [] → lv_has ls nL lv →
      W p l e rm s m av.toArray below meth c s.heap [] 0 0 (MQ below (gQ D cA ad NL' r X' (gA ad NL sz)) av.toArray s mc ms (gA ad NL sz)) (F0 m 0 ls [])) : gCa l y cc nL rt rm mc ms D cA ad NL av X r NL' X' sz := by
  refine Met.ofW (cc := cc) (maxL := nL) (ret := rt) hy rfl ?_
  intro p e s m args below meth c s₁ B hml hv
  obtain ⟨rfl, ⟨rfl, hP, hK, hN⟩, hAW⟩ := hv
  have hts := atoms_spec (ws := .code y cc nL rt :: gTB) B.pre
  have hl := lv_entry av hn
  rw [hlv] at hl
  have hb := body p e s m below meth c _ rfl (name_of_methodNamed B.named B.method).1 hAW ⟨B.exec, B.bytes, hml, findClass_of_methodNamed B.named, fun w hw => hts w (List.mem_cons_of_mem _ hw), B.returns, B.notSynchronized, hK, hN, gD_in hD (fun n hn => Or.inl ⟨n, hn, rfl⟩), fun q hq => Or.inr hq⟩ hP va_S.rf hl
  rw [lg_entry_eq]
  exact hb
end GALLOC
