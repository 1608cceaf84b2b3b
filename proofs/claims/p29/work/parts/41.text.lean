/-! Arrays.copyOf of the draft, and the constructor of a text -/
theorem arrV_congr {c : ClassId} {N : Nat} {f g : Nat → Value} (h : ∀ j, j < N → f j = g j) : arrV c N f = arrV c N g := by
  unfold arrV
  congr 1
  apply Array.ext_getElem?
  intro i
  by_cases hi : i < N
  · simp [hi, h i hi]
  · simp [hi]
/-- the letters of a text of k letters, and how many (at 99) -/
def tsl (k : Nat) (f : Nat → Int32) : Nat → Int32 := fun j => if j < k then f j else if j = 99 then nI k else 0
def ttx (t k : Nat) : Nat → Int32 := fun j => if j = 0 then nI t else nI k
theorem tsl_99 {k : Nat} {f : Nat → Int32} (hk : k ≤ 40) : (tsl k f 99).toNatClampNeg = k := by
  have h1 : ¬ 99 < k := by omega
  simp only [tsl, if_neg h1, if_pos]
  exact nI_clamp (by omega)
theorem tsl_ct {cA : Nat → ClassId} {ad : Nat → Nat → Nat} {t k : Nat} {f : Nat → Int32} (hk : k ≤ 40) : ct cA ad 27 t (tsl k f) = .inl (cA 0, k, .inl (tsl k f)) := by
  rw [ct_27, tsl_99 hk]
theorem tsl_cell {c : ClassId} {k : Nat} {f g : Nat → Int32} (h : ∀ j, j < k → g j = f j) : vp_cell c (k, .inl g) = vp_cell c (k, .inl (tsl k f)) := by
  rw [vp_cell_i, vp_cell_i]
  apply arrV_congr
  intro j hj
  rw [h j hj, tsl, if_pos hj]
def gUt (D : va_G) (cA : Nat → ClassId) (ad : Nat → Nat → Nat) (NL : List (Nat × Nat)) (X : gM) (sz : Nat) : State → Prop := fun U => gUa D cA ad NL X sz U ∧ gEW U
def gCt (l : Launch) (y : MethodName) (cc : ByteArray) (nL : Nat) (rt : Option FieldType) (rm : Room) (mc ms : Nat) (D : va_G) (cA : Nat → ClassId) (ad : Nat → Nat → Nat) (NL : List (Nat × Nat)) (av : List Value) (X : gM) (r : Option Value) (NL' : List (Nat × Nat)) (X' : gM) (sz : Nat) : Prop :=
  Met l y (.code y cc nL rt :: gTB) rm (va_Pc av (gUt D cA ad NL X sz)) (gQ D cA ad NL' r X' (gA ad NL sz)) mc ms (gA ad NL sz)
theorem gUt_blind {D : va_G} {cA : Nat → ClassId} {ad : Nat → Nat → Nat} {NL : List (Nat × Nat)} {X : gM} {sz : Nat} {av : List Value} : FrameBlind (va_Pc av (gUt D cA ad NL X sz)) := by
  intro a U g mk q
  obtain ⟨q0, q1, q2⟩ := q
  have h1 := gUa_blind (D := D) (cA := cA) (ad := ad) (NL := NL) (X := X) (sz := sz) (av := av) a U g mk ⟨q0, q1⟩
  exact ⟨q0, h1.2, gEW_same (U := U) (V := U.calling g mk a) rfl q2⟩
theorem gH_ofW {D : va_G} {cA : Nat → ClassId} {ad : Nat → Nat → Nat} {NL : List (Nat × Nat)} {X : gM} {H : Heap} {K i q : Nat} {e : va_E} {x : Nat → Int32} (h : va_P D vwCl (gw cA ad NL X ++ [(q, e)]) H) (hq : q = ad K i) (hout : (K, i) ∉ NL) (he : ∀ H : Heap, va_at D vwCl (q, e) H → va_at D vwCl (ad K i, ct cA ad K i x) H) : gH D cA ad (NL ++ [(K, i)]) (msl X K i x) H := by
  have e1 : gw cA ad (NL ++ [(K, i)]) (msl X K i x) = gw cA ad NL X ++ [(ad K i, ct cA ad K i x)] := by
    have e1 : gw cA ad (NL ++ [(K, i)]) (msl X K i x) = gw cA ad NL (msl X K i x) ++ [(ad K i, ct cA ad K i (msl X K i x K i))] := by simp [gw]
    rw [e1, gw_out hout, msl_eq]
  unfold gH
  rw [e1]
  refine va_P.app (fun k p hp => h k p ?_) (fun k p hp => ?_)
  · rw [List.getElem?_append_left (List.getElem?_eq_some_iff.mp hp).1]
    exact hp
  · have hz : k < 1 := (List.getElem?_eq_some_iff.mp hp).1
    rw [show k = 0 by omega] at hp
    cases hp
    apply he H
    refine h (gw cA ad NL X).length _ ?_
    simp
def rm_J7_copyOf : Room := { frames := 2, cells := 1, slots := 40, locals := 120 }
set_option maxRecDepth 100000 in
set_option maxHeartbeats 4000000 in
theorem s_J7_copyOf {l : Launch} {D : va_G} {cA : Nat → ClassId} {ad : Nat → Nat → Nat} {NL : List (Nat × Nat)} {sz t k : Nat} {X : gM} (hD0 : gD (fun _ => True) ad NL) (ha : (24, 0) ∈ NL) (had : ad 27 t = sz) (hk : k ≤ 40) : gCt l yJ7_copyOf_59c91 cJ7_copyOf_59c91 3 (some (.array .int)) rm_J7_copyOf 1 40 D cA ad NL [.ref (ad 24 0), .int (nI k)] X (some (.ref (ad 27 t))) (NL ++ [(27, t)]) (msl X 27 t (tsl k (X 24 0))) sz := by
  refine Met.ofW (cc := cJ7_copyOf_59c91) (maxL := 3) (ret := some (.array .int)) (by decide) rfl ?_
  intro p e s m args below meth c s₁ B hml hv
  obtain ⟨rfl, ⟨⟨rfl, hP, hK, hN⟩, hAW⟩, hE⟩ := hv
  have hts0 := atoms_spec (ws := .code yJ7_copyOf_59c91 cJ7_copyOf_59c91 3 (some (.array .int)) :: gTB) B.pre
  have hts : ∀ w ∈ gTB, w.before #[Value.ref (ad 24 0), Value.int (nI k)] s = true := fun w hw => hts0 w (List.mem_cons_of_mem _ hw)
  have hl := lv_entry [.ref (ad 24 0), .int (nI k)] (n := 3) (Nat.le_of_ble_eq_true rfl)
  rw [lg_entry_eq]
  generalize (lg_sl [.ref (ad 24 0), .int (nI k)] ++ List.replicate (3 - (lg_sl [.ref (ad 24 0), .int (nI k)]).length) Slot.unset).toArray = ls at hl ⊢
  have hl : lv_has ls 3 [(0, .ref (ad 24 0)), (1, .int (nI k))] := hl
  have hown : s.vm.findClass RJ7 = some m.cls := findClass_of_methodNamed B.named
  have hx := B.exec
  have hb := B.bytes
  have hD : gD (gA ad NL s.heap.size) ad NL := gD_in hD0 (fun n hn => Or.inl ⟨n, hn, rfl⟩)
  have hA : ∀ q : Nat, s.heap.size ≤ q → gA ad NL s.heap.size q := fun q hq => Or.inr hq
  have C : gCx p c meth m s #[Value.ref (ad 24 0), Value.int (nI k)] cJ7_copyOf_59c91 3 (some (.array .int)) RJ7 D cA ad NL (gA ad NL s.heap.size) := ⟨hx, hb, hml, hown, hts, B.returns, B.notSynchronized, hK, hN, hD, hA⟩
  have hS : va_S (gA ad NL s.heap.size) s.heap s.heap [] := va_S.rf
  have hnm : s.vm.findClass "[I" = some (cA 0) := (hK.2 0 _ rfl).2
  have hout : (27, t) ∉ NL := fun hm => by
    have := gH_lt hP hm
    simp only [had] at this
    omega
  obtain ⟨q0, hq0, hw0⟩ := gw_at (cA := cA) (ad := ad) (X := X) ha
  rw [ct_24] at hw0
  /- q that is new lies at the end -/
  have hend : ∀ (q : Nat) (e : va_E) (H1 : Heap), va_P D vwCl (gw cA ad NL X ++ [(q, e)]) H1 → va_D (gA ad NL s.heap.size) (gw cA ad NL X ++ [(q, e)]) → H1.size ≤ s.heap.size + 1 → q = ad 27 t := by
    intro q e H1 h1 h2 h3
    have hlast : (gw cA ad NL X ++ [(q, e)])[(gw cA ad NL X).length]? = some (q, e) := by simp
    have hlt := (h1 _ _ hlast).lt
    rcases h2.2 _ _ hlast with ⟨n, hn, hq⟩ | hq
    · exfalso
      obtain ⟨i, hi, hi2⟩ := gw_at (cA := cA) (ad := ad) (X := X) (show (n.1, n.2) ∈ NL from hn)
      have hil : i < (gw cA ad NL X).length := (List.getElem?_eq_some_iff.mp hi2).1
      have h4 : (gw cA ad NL X ++ [(q, e)])[i]? = some (ad n.1 n.2, ct cA ad n.1 n.2 (X n.1 n.2)) := by rw [List.getElem?_append_left hil]; exact hi2
      have := h2.1 i _ _ _ h4 hlast hq.symm
      omega
    · simp only at hlt
      omega
  refine lv_iload_n hx hb dJ7_copyOf_59c91_0 rfl (lv_at hl 1 rfl) ?_
  refine lv_aload_n hx hb dJ7_copyOf_59c91_1 rfl (lv_at hl 0 rfl) ?_
  refine r_alen C hP 40 ha (ct_24 _ _ _ _) rfl rfl dJ7_copyOf_59c91_2 ?_
  refine lv_icmp_ne (tgt := 14) hx hb dJ7_copyOf_59c91_3 (by decide) (fun c1 => ?_) (fun c1 => ?_)
  · refine lv_iload_n hx hb dJ7_copyOf_59c91_14 rfl (lv_at hl 1 rfl) ?_
    refine va_newa (atype := .int) (ty := .int) (a0 := (k, .inl (fun _ => 0))) (N' := k) hx hb (hts _ ac_int) rfl hK hP (gD_gw X hD) hS hA (fun _ => rfl) (nI_pos (by omega)) (nI_clamp (by omega)) (by show k * 4 ≤ 536870912; omega) (Nat.le_of_ble_eq_true rfl) (by show 0 + k ≤ 40; omega) dJ7_copyOf_59c91_15 (fun q c2 H hK2 hP hD2 hS => ?_)
    refine W_size (fun hup => ?_)
    have hq := hend q _ H hP hD2 hup
    have hc2 : c2 = cA 0 := by
      have h2 : s.vm.findClass "[I" = some c2 := (hK2.2 8 _ rfl).2
      rw [hnm] at h2
      exact (Option.some.inj h2).symm
    subst hc2
    refine W.widen (k := 1) (n := 40) (by omega) (by omega) ?_
    refine lv_astore_n (lv' := [(2, .ref q), (0, .ref (ad 24 0)), (1, .int (nI k))]) hx hb dJ7_copyOf_59c91_17 rfl hl (Nat.le_of_ble_eq_true rfl) rfl (fun ls hl => ?_)
    refine lv_aload_n hx hb dJ7_copyOf_59c91_18 rfl (lv_at hl 1 rfl) ?_
    refine lv_iconst (v := 0) hx hb dJ7_copyOf_59c91_19 (by decide) ?_
    refine lv_aload_n hx hb dJ7_copyOf_59c91_20 rfl (lv_at hl 0 rfl) ?_
    refine lv_iconst (v := 0) hx hb dJ7_copyOf_59c91_21 (by decide) ?_
    refine lv_aload_n hx hb dJ7_copyOf_59c91_22 rfl (lv_at hl 1 rfl) ?_
    have hla : (gw cA ad NL X ++ [(q, va_E_i (cA 0) k (fun _ => 0))])[q0]? = some (ad 24 0, .inl (cA 0, 40, .inl (X 24 0))) := by
      rw [List.getElem?_append_left (List.getElem?_eq_some_iff.mp hw0).1]
      exact hw0
    have hlq : (gw cA ad NL X ++ [(q, va_E_i (cA 0) k (fun _ => 0))])[(gw cA ad NL X).length]? = some (q, .inl (cA 0, k, .inl (fun _ => 0))) := by simp [va_E_i]
    refine va_alen hx hb hK2 hP q0 0 hla rfl (v := 40) rfl dJ7_copyOf_59c91_23 ?_
    refine lv_iload_n hx hb dJ7_copyOf_59c91_24 rfl (lv_at hl 2 rfl) ?_
    refine r_mmin C hl.1 jm_J7_304 jx_min.1 jx_min.2.1 jx_min.2.2 ⟨Nat.le_of_ble_eq_true rfl, Nat.le_of_ble_eq_true rfl, Nat.le_of_ble_eq_true rfl, Nat.le_of_ble_eq_true rfl⟩ dJ7_copyOf_59c91_25 ?_
    have hk40 : k < 40 := by
      rcases Nat.lt_or_ge k 40 with h | h
      · exact h
      · exfalso
        apply c1
        have : k = 40 := by omega
        rw [this]
        rfl
    have hmin : (if nI k < 40 then nI k else 40) = nI k := by
      rw [if_pos]
      exact (nI_ltI (a := k) (b := 40) (by omega) (by omega)).mpr hk40
    rw [hmin]
    have hkc : (nI k).toNatClampNeg = k := nI_clamp (by omega)
    refine va_copyi hx hb (hml.trans hl.1.symm) hown (hts _ jk_J7_150) (hts _ jc_copy.1) (hts _ jc_copy.2.1) (hts _ jc_copy.2.2) hK2 hP hD2 hS q0 (gw cA ad NL X).length 0 0 hla hlq rfl rfl rfl (by decide) (by decide) (nI_pos (by omega)) (by rw [hkc]; show 0 + k ≤ 40; omega) (by rw [hkc]; show 0 + k ≤ k; omega) (fun _ _ => rfl) (Nat.le_of_ble_eq_true rfl) (Nat.le_of_ble_eq_true rfl) dJ7_copyOf_59c91_28 (fun H locs hP hD3 hS => ?_)
    refine lv_aload_n hx hb dJ7_copyOf_59c91_31 rfl (lv_at hl 0 rfl) ?_
    have hset : ∀ e2 : va_E, (gw cA ad NL X ++ [(q, va_E_i (cA 0) k (fun _ => 0))]).set (gw cA ad NL X).length (q, e2) = gw cA ad NL X ++ [(q, e2)] := fun e2 => by simp
    have hP9 : gH D cA ad (NL ++ [(27, t)]) (msl X 27 t (tsl k (X 24 0))) H := by
      refine gH_ofW (q := q) (e := .inl (cA 0, k, .inl (va_cpy (X 24 0) (fun _ => 0) (0 : Int32).toNatClampNeg (0 : Int32).toNatClampNeg (nI k).toNatClampNeg))) (by rw [← hset]; exact hP) hq hout (fun H h => ?_)
      rw [tsl_ct hk]
      show H[ad 27 t]? = some (vp_cell _ _)
      rw [← hq]
      have h9 : H[q]? = some (vp_cell (cA 0) (k, .inl (va_cpy (X 24 0) (fun _ => 0) (0 : Int32).toNatClampNeg (0 : Int32).toNatClampNeg (nI k).toNatClampNeg))) := h
      rw [h9, tsl_cell]
      intro j hj
      have : (0 : Int32).toNatClampNeg = 0 := rfl
      simp only [va_cpy, this, hkc, Nat.zero_add]
      rw [if_pos ⟨Nat.zero_le _, hj⟩, Nat.sub_zero]
    rw [hq]
    exact W.aret (v := .ref (ad 27 t)) hx hb B.returns (Or.inr ⟨_, rfl⟩) (Or.inr ⟨_, rfl⟩) (fun t' ht' hW => ⟨rfl, by rw [ht']; exact hP9, hS.F ht'⟩) hS.2.2 dJ7_copyOf_59c91_32 B.notSynchronized
  · have hk40 : k = 40 := (nI_eq (a := k) (b := 40) (by omega) (by omega)).mp c1
    subst hk40
    refine lv_aload_n hx hb dJ7_copyOf_59c91_6 rfl (lv_at hl 0 rfl) ?_
    refine va_clone (x := (40, .inl (X 24 0))) (ty := .int) hx hb (hml.trans hl.1.symm) hown (hts _ clo_1) (hts _ clo_2) (hts _ clo_3) (hts _ clo_4) (hts _ clo_5) (hE _ clo_6) hK hP (gD_gw X hD) hS hA q0 0 hw0 rfl hnm (fun i v hv => ?_) (Nat.le_of_ble_eq_true rfl) (Nat.le_of_ble_eq_true rfl) (Nat.le_of_ble_eq_true rfl) (Nat.le_of_ble_eq_true rfl) dJ7_copyOf_59c91_7 (fun q H hK2 hP hD2 hS => ?_)
    · have hi : i < 40 := by
        have := (Array.getElem?_eq_some_iff.mp hv).1
        rw [vp_cell_i, arrV_size] at this
        exact this
      rw [vp_cell_i, arrV_read _ _ hi] at hv
      cases hv
      rfl
    refine W_size (fun hup => ?_)
    have hq := hend q _ H hP hD2 hup
    have hlq : (gw cA ad NL X ++ [(q, .inl (cA 0, (40, .inl (X 24 0))))])[(gw cA ad NL X).length]? = some (q, .inl (cA 0, (40, .inl (X 24 0)))) := by simp
    refine va_castA hx hb hown (hts _ cl_J7_317) hP (gw cA ad NL X).length hlq hnm dJ7_copyOf_59c91_10 ?_
    have hP9 : gH D cA ad (NL ++ [(27, t)]) (msl X 27 t (tsl 40 (X 24 0))) H := by
      refine gH_ofW (q := q) hP hq hout (fun H h => ?_)
      rw [tsl_ct hk]
      show H[ad 27 t]? = some (vp_cell _ _)
      rw [← hq]
      have h9 : H[q]? = some (vp_cell (cA 0) (40, .inl (X 24 0))) := h
      rw [h9, tsl_cell (fun _ _ => rfl)]
    rw [hq]
    exact W.aret (v := .ref (ad 27 t)) hx hb B.returns (Or.inr ⟨_, rfl⟩) (Or.inr ⟨_, rfl⟩) (fun t' ht' hW => ⟨rfl, by rw [ht']; exact hP9, hS.F ht'⟩) hS.2.2 dJ7_copyOf_59c91_13 B.notSynchronized
