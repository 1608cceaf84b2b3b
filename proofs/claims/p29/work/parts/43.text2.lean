/-! the constructor of a text -/
def tx8 (X : gM) (t k : Nat) : gM := msl (mset (mset (msl X 27 t (tsl k (X 24 0))) 89 t 0 (nI t)) 89 t 1 (nI k)) 26 t ((mset (mset (msl X 27 t (tsl k (X 24 0))) 89 t 0 (nI t)) 89 t 1 (nI k)) 89 t)
def rm_X8_init : Room := { frames := 4, cells := 1, slots := 40, locals := 200 }
theorem gUt_of {p : Program} {s : State} {m : MethodId} {args : Array Value} {meth : Method} {c : Code} {H : Heap} {cc : ByteArray} {nL : Nat} {rt : Option FieldType} {own : String} {D : va_G} {cA : Nat → ClassId} {ad : Nat → Nat → Nat} {NL : List (Nat × Nat)} {A : Nat → Prop} {X : gM} {sz : Nat} {av : List Value} (C : gCx p c meth m s args cc nL rt own D cA ad NL A) (hAW : gAW s) (hE : gEW s) (hP : gH D cA ad NL X H) (hsz : sz = H.size) : ∀ U : State, U.heap = H → s.WarmedH U.vm → va_Pc av (gUt D cA ad NL X sz) av.toArray U := by
  intro U hU hW
  obtain ⟨h1, h2⟩ := gUa_of (av := av) C hAW hP hsz U hU hW
  exact ⟨h1, h2, gEW.moved hW hE⟩
set_option maxRecDepth 100000 in
set_option maxHeartbeats 4000000 in
theorem s_X8_init {l : Launch} {D : va_G} {cA : Nat → ClassId} {ad : Nat → Nat → Nat} {NL NLb : List (Nat × Nat)} {sz t k : Nat} {X : gM} (hNL : NL = NLb ++ [(89, t)]) (hD0 : gD (fun _ => True) ad NL) (hal : gAl ad) (ha : (24, 0) ∈ NL) (had : ad 27 t = sz) (hk : k ≤ 40) (ht : t < 2147483648) : gCt l yX8_init cX8_init 3 none rm_X8_init 1 40 D cA ad NL [.ref (ad 89 t), .ref (ad 24 0), .int (nI k)] X none (NLb ++ [(26, t)] ++ [(27, t)]) (tx8 X t k) sz := by
  refine Met.ofW (cc := cX8_init) (maxL := 3) (ret := none) (by decide) rfl ?_
  intro p e s m args below meth c s₁ B hml hv
  obtain ⟨rfl, ⟨⟨rfl, hP, hK, hN⟩, hAW⟩, hE⟩ := hv
  have hts0 := atoms_spec (ws := .code yX8_init cX8_init 3 none :: gTB) B.pre
  have hts : ∀ w ∈ gTB, w.before #[Value.ref (ad 89 t), Value.ref (ad 24 0), Value.int (nI k)] s = true := fun w hw => hts0 w (List.mem_cons_of_mem _ hw)
  have hl := lv_entry [.ref (ad 89 t), .ref (ad 24 0), .int (nI k)] (n := 3) (Nat.le_of_ble_eq_true rfl)
  rw [lg_entry_eq]
  generalize (lg_sl [.ref (ad 89 t), .ref (ad 24 0), .int (nI k)] ++ List.replicate (3 - (lg_sl [.ref (ad 89 t), .ref (ad 24 0), .int (nI k)]).length) Slot.unset).toArray = ls at hl ⊢
  have hl : lv_has ls 3 [(0, .ref (ad 89 t)), (1, .ref (ad 24 0)), (2, .int (nI k))] := hl
  have hown : s.vm.findClass RX8 = some m.cls := findClass_of_methodNamed B.named
  have hin : meth.name = "<init>" := (name_of_methodNamed B.named B.method).1
  have hx := B.exec
  have hb := B.bytes
  have hr89 : (89, t) ∈ NL := by rw [hNL]; simp
  have hD : gD (gA ad NL s.heap.size) ad NL := gD_in hD0 (fun n hn => Or.inl ⟨n, hn, rfl⟩)
  have hA : ∀ q : Nat, s.heap.size ≤ q → gA ad NL s.heap.size q := fun q hq => Or.inr hq
  have C : gCx p c meth m s #[Value.ref (ad 89 t), Value.ref (ad 24 0), Value.int (nI k)] cX8_init 3 none RX8 D cA ad NL (gA ad NL s.heap.size) := ⟨hx, hb, hml, hown, hts, B.returns, B.notSynchronized, hK, hN, hD, hA⟩
  have hS : va_S (gA ad NL s.heap.size) s.heap s.heap [] := va_S.rf
  refine lv_aload_n hx hb dX8_init_0 rfl (lv_at hl 0 rfl) ?_
  refine W.objInit hx hb hown (hts _ ob_X8_1) (hts _ ob_i.1) (hts _ ob_i.2) rfl (by rw [hml]; exact hl.1) rfl dX8_init_1 (Nat.le_of_ble_eq_true rfl) (Nat.le_of_ble_eq_true rfl) ?_
  refine W.eq (g2 := F0 m 4 ls []) rfl ?_
  refine lv_aload_n hx hb dX8_init_4 rfl (lv_at hl 0 rfl) ?_
  refine lv_aload_n hx hb dX8_init_5 rfl (lv_at hl 1 rfl) ?_
  refine lv_iload_n hx hb dX8_init_6 rfl (lv_at hl 2 rfl) ?_
  refine lv_if_ge (tgt := 14) hx hb dX8_init_7 (by decide) (fun c1 => ?_) (fun c1 => absurd (nI_pos' (by omega)) c1)
  refine lv_iload_n hx hb dX8_init_14 rfl (lv_at hl 2 rfl) ?_
  refine r_callA C (va_runS (As := [.ref (ad 24 0), .int (nI k)]) (rest := [.ref (ad 89 t)]) ⟨hx, hb, hml, hown, hts⟩ (s_J7_copyOf (k := k) hD0 ha had hk) ⟨g_cbA C ix_J7_copyOf_59c91 ls_X8_7 ⟨rfl, rfl, Nat.le_of_ble_eq_true rfl, Nat.le_of_ble_eq_true rfl⟩, hts _ is_J7_copyOf_59c91⟩ ⟨gUt_blind, gUt_of C hAW hE hP rfl⟩ rfl rfl hl.1 rfl (lv_room (Nat.le_of_ble_eq_true rfl)) dX8_init_15 ⟨Nat.le_of_ble_eq_true rfl, Nat.le_of_ble_eq_true rfl⟩) hS (fun H locs hP hS => ?_)
  have C := gCx_app (new := [(27, t)]) (sz := s.heap.size) C (show gH D cA ad NL X s.heap by assumption) (Nat.le_refl _) (Nat.le_refl _) (g_new1 had)
  generalize hX1 : msl X 27 t (tsl k (X 24 0)) = X1 at hP
  generalize gA ad NL s.heap.size = A at C hS ⊢
  show W p l e rm_X8_init s m _ below meth c H locs 1 40 _ (F0 m 18 ls [.ref (ad 27 t), .ref (ad 89 t)])
  have hm89 : (89, t) ∈ NL ++ [(27, t)] := List.mem_append_left _ hr89
  have hwt : ¬ nI t < 0 ∧ (nI t).toNatClampNeg = t := ⟨nI_pos ht, nI_clamp ht⟩
  refine r_putF C hin hP hS (nI t) hm89 (ct_89 _ _ _ _) pf_X8_13 (by rw [fp_89_0, gwref hwt]) (Nat.le_of_ble_eq_true rfl) rfl rfl dX8_init_18 (fun H locs hP hS => ?_)
  refine lv_aload_n hx hb dX8_init_21 rfl (lv_at hl 0 rfl) ?_
  refine lv_aload_n hx hb dX8_init_22 rfl (lv_at hl 0 rfl) ?_
  refine r_get C hP hm89 (ct_89 _ _ _ _) fx_X8_13 (fg_89_0 _ _ _) dX8_init_23 ?_
  have e0 : mset X1 89 t 0 (nI t) 89 t 0 = nI t := by rw [mset_eq]; rfl
  rw [e0, gwref hwt]
  have e27 : mset X1 89 t 0 (nI t) 27 t = tsl k (X 24 0) := by rw [mset_ne (fun h => absurd h.1 (by decide)), ← hX1, msl_eq]
  have hct : ct cA ad 27 t (mset X1 89 t 0 (nI t) 27 t) = .inl (cA 0, (k, .inl (tsl k (X 24 0)))) := by rw [e27]; exact tsl_ct hk
  refine r_alen (ty := .int) C hP (nI k) (by simp) hct rfl rfl dX8_init_26 ?_
  refine r_putF C hin hP hS (nI k) hm89 (ct_89 _ _ _ _) pf_X8_19 (fp_89_1 _ _ _ _ _) (Nat.le_of_ble_eq_true rfl) rfl rfl dX8_init_27 (fun H locs hP hS => ?_)
  rw [hNL] at C hP
  have hkk : ct cA ad 89 t (mset (mset X1 89 t 0 (nI t)) 89 t 1 (nI k) 89 t) = ct cA ad 26 t (mset (mset X1 89 t 0 (nI t)) 89 t 1 (nI k) 89 t) := by
    have e1 : mset (mset X1 89 t 0 (nI t)) 89 t 1 (nI k) 89 t 0 = nI t := by rw [mset_eq, mset_eq]; rfl
    rw [ct_89, ct_26]
    unfold fs_89 fs_26
    rw [e1, gwref hwt]
  have hP := gH_rek (K := 26) C.2.2.2.2.2.2.2.2.2.1 hP (by decide) (al_26 hal _) hkk
  have C := gCx_rek (K := 26) C (al_26 hal _)
  have htx : tx8 X t k = msl (mset (mset X1 89 t 0 (nI t)) 89 t 1 (nI k)) 26 t (mset (mset X1 89 t 0 (nI t)) 89 t 1 (nI k) 89 t) := by rw [tx8, hX1]
  rw [htx]
  exact r_vret C hP hS dX8_init_30
