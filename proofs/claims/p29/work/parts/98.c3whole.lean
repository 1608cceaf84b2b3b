/-! THE CLAIM OUT OF ONE WALK OF THE LAW'S BODY. Your part is whole_start (and what it stands on); all else here is the same for every law, but numbers. -/
def R_law : String := "UndertextLaw"
def lw_P (b : Addr) (xs : List Int32) (args : Array Value) (s : State) : Prop := args = #[.ref b] ∧ s.IntsAt b xs ∧ xs.length ≤ 260 ∧ (Jvm.Cond.and given_1 narrow_1).before args s = true
def lw_Q (_ : Array Value) (s : State) (o : Outcome) (t : State) : Prop := o = .returned (some (.int 1)) ∧ Framed s o t [] 736095 6893484
def lw_Z (below : List Frame) (a : Array Value) (s : State) : State → Prop := fun t => ∃ o, t.status = .running ∧ Ended t below o ∧ lw_Q a s o t
/-- the law's own end, with 1 on the stack, nothing written that was there before, its room as the claim has it -/
theorem lw_ret {p : Program} {l : Launch} {e : Env} {s : State} {m : MethodId} {below : List Frame} {meth : Method} {c : Code} {b : Nat} (hx : p.tables.exec = Jvm.exec) (hb : c.code = code) (hr : meth.sig.returnType = ret) (hlocks : meth.locks = false) {pc : Nat} {H : Heap} {ls : Array Slot} (hdg : decode code pc = .ok (.ireturn, 1)) : W p l e room_1 s m #[Value.ref b] below meth c H [] 736095 6893484 (lw_Z below #[Value.ref b] s) (F0 m pc ls [.int 1]) := by
  intro T hT X
  obtain ⟨fs, hret, hrun, hended, hW, hframe⟩ := X.leave (v := some (.int 1)) (hlocks := hlocks) (fun h => by rw [hr] at h; cases h)
  have hmeth' : T.vm.method? m = some meth := X.method'
  refine ⟨T.setFrames fs, ?_, .returned (some (.int 1)), hrun, hended, rfl, ⟨_, rfl⟩, hW, hframe⟩
  jvm_step X.here [X.here.top, hx, hb, hdg, hmeth', hr, ret, narrow_b1]
  (try refine ⟨rfl, ?_⟩); (try refine ⟨rfl, ?_⟩)
  first | (intro acts; rw [hret _ acts rfl rfl rfl]) | rw [hret _ _ rfl rfl rfl]
  exact Steps.refl _
/-- what holds at the law's entry: the machine, the code, the tables' words (any of lw_tbl by 'hts w (by decide +kernel)'), the script of L ints xs at the cell b, what the Statement gives of the start (any of its parts by flat_of_before) -/
def lw_At (p : Program) (s : State) (m : MethodId) (meth : Method) (c : Code) (b L : Nat) (xs : Nat → Int32) : Prop :=
  p.tables.exec = Jvm.exec ∧ c.code = code ∧ meth.sig.returnType = ret ∧ c.maxLocals = 13 ∧ s.vm.findClass R_law = some m.cls ∧ (∀ w ∈ lw_tbl, w.before #[Value.ref b] s = true) ∧ va_X b L xs s s.heap ∧ b < s.heap.size ∧ meth.locks = false ∧ (Jvm.Cond.and given_1 narrow_1).before #[Value.ref b] s = true
/-- a world of names that the law's rounds keep: leaves, facts, works -/
def gJv (J : List (Nat × Nat) → gM → Nat → Nat → Nat → Prop) : Prop := ∀ NL X a b c, J NL X a b c → gWf NL ∧ gDy NL X ∧ (0, 0) ∈ NL ∧ ∀ n ∈ NL, n.1 < 43
/-- each turn of the law comes to its end, finds nothing amiss, and keeps the world -/
def gTn (J : List (Nat × Nat) → gM → Nat → Nat → Nat → Prop) (N : Nat) : Prop := ∀ NL X a b c, J NL X a b c → ∀ (L : Nat) (xs : Nat → Int32) (i : Nat), L ≤ 260 → i < 100 → ∃ (nw : List (Nat × Nat)) (X' : gM) (a' b' c' : Nat), gFr NL nw ∧ Q_turn (gal NL) (gal (NL ++ nw)) N nw L xs (nI a) (nI b) (nI c) 1 (nI i) X = some (nI a', nI b', nI c', 1, X') ∧ J (NL ++ nw) X' a' b' c'
/-- behind the turns the law answers true -/
def gEn (J : List (Nat × Nat) → gM → Nat → Nat → Nat → Prop) (N : Nat) : Prop := ∀ NL X a b c, J NL X a b c → ∀ (L : Nat) (xs : Nat → Int32), ∃ X', Q_end (gal NL) N L xs (nI a) 1 X = some (1, X')
/-- before the turns -/
def gBg (J : List (Nat × Nat) → gM → Nat → Nat → Nat → Prop) (N : Nat) : Prop := ∃ (rr : Int32) (X : gM), KI N = some (rr, X) ∧ ∀ (L : Nat) (xs : Nat → Int32), L ≤ 260 → ∃ (t : Nat) (X' : gM), t < 100 ∧ Q_begin (gal gNI) N L xs X = some (0, 0, 0, 1, nI t, 0, X') ∧ J gNI X' 0 0 0
/-- what is left to show of the functions alone -/
def gMath : Prop := ∃ (N : Nat) (J : List (Nat × Nat) → gM → Nat → Nat → Nat → Prop), gJv J ∧ gTn J N ∧ gEn J N ∧ gBg J N
set_option maxRecDepth 100000 in
theorem gNI_nd : gNI.Nodup := by decide +kernel
set_option maxRecDepth 100000 in
theorem gNI_lt : ∀ n ∈ gNI, n.1 < 82 := by decide +kernel
set_option maxRecDepth 100000 in
theorem gNI_wf : gWf gNI := gWf_of (by decide +kernel)
set_option maxRecDepth 100000 in
theorem gNI_00 : (0, 0) ∈ gNI := by decide +kernel
set_option maxRecDepth 100000 in
set_option maxHeartbeats 4000000 in
theorem s_loop {p : Program} {l : Launch} {e : Env} {s : State} {m : MethodId} {args : Array Value} {below : List Frame} {meth : Method} {c : Code} {Q : State → Prop} {rt : Option FieldType} {D : va_G} {cA : Nat → ClassId} {A : Nat → Prop} {N b L t : Nat} {xs : Nat → Int32} {J : List (Nat × Nat) → gM → Nat → Nat → Nat → Prop} (hJ : gJv J) (hSt : gTn J N) (hEn : gEn J N) (hWd : gWd A s) (htr : l.stackTraces = false) (hX : va_X b L xs s s.heap) (hbl : b < s.heap.size) (hbA : ¬ A b) (hL : L ≤ 260) (ht : t < 100)
    (hend : ∀ (H : Heap) (locs : List Loc) (ls : Array Slot) (cells slots : Nat), cells ≤ room_1.cells → slots ≤ room_1.slots → va_S A s.heap H locs → W p l e room_1 s m args below meth c H locs cells slots Q (F0 m 1169 ls [.int 1])) :
    ∀ (q i : Nat) (NL : List (Nat × Nat)) (X : gM) (ad : Nat → Nat → Nat) (H : Heap) (locs : List Loc) (ls : Array Slot) (cells slots a1 a2 a3 : Nat), i + q = t → cells + 153 * q + 1 ≤ room_1.cells → slots + 1015 * q + 1 ≤ room_1.slots → J NL X a1 a2 a3 → gCx p c meth m s args cL_law 13 rt RL D cA ad NL A → gH D cA ad NL X H → va_S A s.heap H locs → lv_has ls 13 [(0, .ref b), (1, .ref (ad 0 0)), (2, .int (nI a1)), (3, .int (nI a2)), (4, .int (nI a3)), (5, .int 1), (6, .int (nI t)), (7, .int (nI i))] → W p l e room_1 s m args below meth c H locs cells slots Q (F0 m 58 ls []) := by
  intro q
  induction q with
  | zero =>
    intro i NL X ad H locs ls cells slots a1 a2 a3 hq hc1 hc2 hj C hP hS hl
    have hx := C.1
    have hb := C.2.1
    obtain ⟨hW, hdy, ha0, hg⟩ := hJ NL X a1 a2 a3 hj
    have hD0 : gD (fun _ => True) _ _ := gD_in C.2.2.2.2.2.2.2.2.2.1 (fun _ _ => trivial)
    obtain ⟨X', hf⟩ := hEn NL X a1 a2 a3 hj L xs
    refine lv_iload hx hb dL_law_58 (lv_at hl 7 rfl) ?_
    refine lv_iload hx hb dL_law_60 (lv_at hl 6 rfl) ?_
    refine lv_icmp_ge (tgt := 1141) hx hb dL_law_62 (by decide) (fun c1 => ?_) (fun c1 => ?_)
    · exact s_Q_end (KC := cells) (KS := slots) C hWd htr hW hg hD0 ha0 (fun H locs ls cells slots h1 h2 _ hS => hend H locs ls cells slots (by omega) (by omega) hS) ⟨by omega, by omega⟩ hX hbl hbA hL _ _ X _ _ _ _ _ ⟨by omega, by omega⟩ hP hS (lv_sub hl [1, 2, 5] rfl) hf
    · exact absurd ((zn_le (a := t) (b := i) (by omega) (by omega)).mpr (by omega)) c1
  | succ q ih =>
    intro i NL X ad H locs ls cells slots a1 a2 a3 hq hc1 hc2 hj C hP hS hl
    have hx := C.1
    have hb := C.2.1
    obtain ⟨hW, hdy, ha0, hg⟩ := hJ NL X a1 a2 a3 hj
    have hD0 : gD (fun _ => True) _ _ := gD_in C.2.2.2.2.2.2.2.2.2.1 (fun _ _ => trivial)
    refine lv_iload hx hb dL_law_58 (lv_at hl 7 rfl) ?_
    refine lv_iload hx hb dL_law_60 (lv_at hl 6 rfl) ?_
    refine lv_icmp_ge (tgt := 1141) hx hb dL_law_62 (by decide) (fun c1 => ?_) (fun c1 => ?_)
    · exact absurd ((zn_le (a := t) (b := i) (by omega) (by omega)).mp c1) (by omega)
    refine lv_iload hx hb dL_law_65 (lv_at hl 5 rfl) ?_
    refine lv_if_eq (tgt := 1141) hx hb dL_law_67 (by decide) (fun c2 => ?_) (fun c2 => ?_)
    · exact absurd c2 (by decide)
    obtain ⟨nw, X', b1, b2, b3, hfr, hf, hj2⟩ := hSt NL X a1 a2 a3 hj L xs i hL (by omega)
    obtain ⟨hW2, hdy2, ha02, hg2⟩ := hJ _ X' b1 b2 b3 hj2
    refine s_Q_turn (KC := cells + 153) (KS := slots + 1015) (p6 := nI t) (p7 := nI i) C hWd htr hW hW2 hg hg2 hD0 ha0 hfr (fun ad2 C2 H2 locs2 ls2 cells2 slots2 h1 h2 hP2 hS2 hl2 => ?_) ⟨by omega, by omega⟩ hX hbl hbA hL _ _ _ _ X _ _ _ _ _ ⟨by omega, by omega⟩ hdy hP hS hl hf
    refine lv_iinc (v := nI (i + 1)) (lv' := [(7, .int (nI (i + 1))), (0, .ref b), (1, .ref (ad2 0 0)), (2, .int (nI b1)), (3, .int (nI b2)), (4, .int (nI b3)), (5, .int 1), (6, .int (nI t))]) hx hb dL_law_1135 hl2 (k := 7) rfl (by rw [show Int32.ofInt 1 = nI 1 from by decide]; exact nI_add i 1) (Nat.le_of_ble_eq_true rfl) rfl (fun ls3 hl3 => ?_)
    refine lv_goto (tgt := 58) hx hb dL_law_1138 (by decide) ?_
    exact ih (i + 1) (NL ++ nw) X' ad2 H2 locs2 ls3 cells2 slots2 b1 b2 b3 (by omega) (by omega) (by omega) hj2 C2 hP2 hS2 (lv_sub hl3 [1, 2, 3, 4, 5, 6, 7, 0] rfl)
set_option maxRecDepth 100000 in
set_option maxHeartbeats 4000000 in
theorem start_of (hM : gMath) {p : Program} {e : Env} {s : State} {m : MethodId} {below : List Frame} {meth : Method} {c : Code} (l : Launch) (hflags : l.flags = flags0) {b L : Nat} {xs : Nat → Int32} (hL : L ≤ 260) (C0 : lw_At p s m meth c b L xs) : W p l e room_1 s m #[Value.ref b] below meth c s.heap [] 0 0 (lw_Z below #[Value.ref b] s) (entryFrame m ([Value.ref b] : List Value).toArray 13) := by
  obtain ⟨N, J, hJ, hSt, hEn, rr, X, hKI, hBg⟩ := hM
  obtain ⟨hx, hcode, hret, hml, hown, hts, hX, hbl, hlk, hgv⟩ := C0
  obtain ⟨D, cA, hK⟩ := g_world hts
  have htr : l.stackTraces = false := by
    unfold Launch.stackTraces
    rw [hflags]
    decide +kernel
  obtain ⟨t, X1, ht, hB, hj⟩ := hBg L xs hL
  have hA : gAdr (gOv (fun _ _ => 0) s.heap.size gNI) s.heap.size gNI := gOv_adr (ad := fun _ _ => 0) gNI_nd (fun n hn => by unfold gOv; rw [gFin_lt (gNI_lt n hn)])
  have C : gCx p c meth m s #[Value.ref b] cL_law 13 ret RL D cA (gOv (fun _ _ => 0) s.heap.size gNI) [] (fun q => s.heap.size ≤ q) := ⟨hx, hcode, hml, hown, fun w hw => hts w (List.mem_filter.mp hw).1, hret, hlk, hK, (g_nw hts).1, ⟨fun i j p q hp => by simp at hp, fun n hn => by simp at hn⟩, fun q h => h⟩
  have hWd : gWd (fun q => s.heap.size ≤ q) s := ⟨(g_nw hts).2, g_z hts hgv, g_aw hts, g_nc hgv⟩
  have hl : lv_has _ 13 [(0, .ref b)] := lv_entry (n := 13) [Value.ref b] (Nat.le_of_ble_eq_true rfl)
  rw [lg_entry_eq]
  refine s_start C hWd (gOv_al _ _ _) rfl hA hl hKI (fun C H locs ls hP hS hl => ?_)
  have hD0 : gD (fun _ => True) _ _ := gD_in C.2.2.2.2.2.2.2.2.2.1 (fun _ _ => trivial)
  refine s_Q_begin (KC := 100) (KS := 3000) C hWd htr gNI_wf gNI_k hD0 gNI_00 (fun H locs ls cells slots h1 h2 hP hS hl => ?_) ⟨Nat.le_of_ble_eq_true rfl, Nat.le_of_ble_eq_true rfl⟩ hX hbl (Nat.not_le.mpr hbl) hL X _ _ _ _ _ ⟨by omega, by omega⟩ hP hS hl hB
  refine s_loop (t := t) hJ hSt hEn hWd htr hX hbl (Nat.not_le.mpr hbl) hL ht (fun H locs ls cells slots h1 h2 hS => ?_) t 0 gNI X1 _ H locs ls _ _ 0 0 0 (by omega) (by show _ ≤ (736095 : Nat); omega) (by show _ ≤ (6893484 : Nat); omega) hj C hP hS hl
  refine va_forget (fun q hq => hS.2.2 q hq) ?_
  refine W.widen (k := 736095) (n := 6893484) h1 h2 ?_
  exact lw_ret hx hcode hret hlk dL_law_1169
