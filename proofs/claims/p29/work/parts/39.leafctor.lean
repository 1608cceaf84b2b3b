/-! the constructor of a leaf: its cells are made in a loop -/
def cls (k : Nat) : Nat → List (Nat × Nat)
  | 0 => []
  | j + 1 => cls k j ++ ([(7, 32 * k + j)] ++ nw_X0_init (32 * k + j))
theorem cls_len (k : Nat) : ∀ j, (cls k j).length = 4 * j
  | 0 => rfl
  | j + 1 => by simp only [cls, List.length_append, cls_len k j, nwl_X0_init, List.length_cons, List.length_nil]; omega
theorem cls_adr {ad : Nat → Nat → Nat} {k z : Nat} : ∀ {cnt j : Nat}, j < cnt → gAdr ad z (cls k cnt) → ad 7 (32 * k + j) = z + 4 * j ∧ gAdr ad (z + 4 * j + 1) (nw_X0_init (32 * k + j))
  | 0, _, h, _ => absurd h (Nat.not_lt_zero _)
  | cnt + 1, j, h, hA => by
    simp only [cls] at hA
    rw [gAdr_app, gAdr_app, cls_len] at hA
    by_cases e : j = cnt
    · subst e
      exact ⟨hA.2.1.1, hA.2.2⟩
    · exact cls_adr (by omega) hA.1
/-- the loop: cell by cell -/
def X2_init_L (al : Nat → Nat → Bool) (N k : Nat) (lines width : Int32) : Nat → Int32 → gM → Option (Int32 × gM)
  | 0, _, _ => none
  | n + 1, i, X => if lines * width ≤ i then some (0, X) else if (32 : Int32) ≤ i then some (0, X) else
    gl (msl X 85 (32 * k + i.toNatClampNeg) rz_85) fun X1 => bind2 (X0_init al N (32 * k + i.toNatClampNeg) X1) fun _ X2 =>
    (rk_7 (32 * k + i.toNatClampNeg) (X2 85 (32 * k + i.toNatClampNeg))).bind fun _ => gl (msl X2 7 (32 * k + i.toNatClampNeg) (X2 85 (32 * k + i.toNatClampNeg))) fun X3 =>
    (rd i 32).bind fun j => (rn (32 * k + i.toNatClampNeg)).bind fun w => gl (mset X3 6 k j w) fun X4 => X2_init_L al N k lines width n (i + 1) X4
def X2_init (al : Nat → Nat → Bool) (N : Nat) (p0 : Nat) (p1 : Int32) (p2 : Nat) (p3 p4 : Int32) (X : gM) : Option (Int32 × gM) := gl (mset X 84 p0 5 (-1 : Int32)) fun X1 => gl (mset X1 84 p0 6 (0 : Int32)) fun X3 => gl (mset X3 84 p0 7 (0 : Int32)) fun X5 => gl (mset X5 84 p0 8 (0 : Int32)) fun X7 => gl (mset X7 84 p0 9 (0 : Int32)) fun X9 => gl (mset X9 84 p0 10 (0 : Int32)) fun X11 => gl (mset X11 84 p0 11 (0 : Int32)) fun X13 => gl (mset X13 84 p0 12 (4095 : Int32)) fun X15 => gl (mset X15 84 p0 0 p1) fun X17 => (rn p2).bind fun w21 => gl (mset X17 84 p0 1 w21) fun X19 => gl (mset X19 84 p0 2 p3) fun X23 => gl (mset X23 84 p0 3 p4) fun X25 => gl (msl X25 6 p0 (fun _ => -1)) fun X27 => (rn p0).bind fun w31 => gl (mset X27 84 p0 4 w31) fun X29 => (rk_5 p0 (X29 84 p0)).bind fun _ => gl (msl X29 5 p0 (X29 84 p0)) fun X99 => X2_init_L al N p0 p3 p4 N 0 X99
def rm_X2_init : Room := { frames := 4, cells := 129, slots := 864, locals := 200 }
set_option maxRecDepth 100000 in
set_option maxHeartbeats 4000000 in
theorem lf_loop {p : Program} {l : Launch} {e : Env} {s : State} {m : MethodId} {args : Array Value} {below : List Frame} {meth : Method} {c : Code} {D : va_G} {cA : Nat → ClassId} {ad : Nat → Nat → Nat} {NL0 : List (Nat × Nat)} {A : Nat → Prop} {rr : Int32} {XX : gM} {N : Nat} {al : Nat → Nat → Bool} {k p2 cnt : Nat} {p1 p3 p4 : Int32}
    (hAW : gAW s) (hal : gAl ad) (h5 : (5, k) ∈ NL0) (h6 : (6, k) ∈ NL0) (ha6 : ad 6 k = s.heap.size) (hadr : gAdr ad (s.heap.size + 1) (cls k cnt)) (hc32 : cnt ≤ 32) (hcnt : ∀ j, j < cnt → ¬ p3 * p4 ≤ nI j) (hend : p3 * p4 ≤ nI cnt ∨ cnt = 32) :
    ∀ (n j : Nat) (X : gM) (H : Heap) (locs : List Loc) (ls : Array Slot), j ≤ cnt → gCx p c meth m s args cX2_init 6 none RX2 D cA ad (NL0 ++ cls k j) A → gH D cA ad (NL0 ++ cls k j) X H → va_S A s.heap H locs → lv_has ls 6 [(5, .int (nI j)), (0, .ref (ad 5 k)), (1, .int p1), (2, .ref (ad 12 p2)), (3, .int p3), (4, .int p4)] → X2_init_L al N k p3 p4 n (nI j) X = some (rr, XX) →
    W p l e rm_X2_init s m args below meth c H locs (1 + 4 * j) (32 + 26 * j) (MQ below (gQ D cA ad (NL0 ++ cls k cnt) none XX A) args s 129 864 A) (F0 m 79 ls []) := by
  intro n
  induction n with
  | zero =>
    intro j X H locs ls hj C hP hS hl hf
    rw [X2_init_L] at hf
    cases hf
  | succ n ih =>
    intro j X H locs ls hj C hP hS hl hf
    have hx := C.1
    have hb := C.2.1
    have hjn : (nI j).toNatClampNeg = j := nI_clamp (by omega)
    rw [X2_init_L, hjn] at hf
    refine lv_iload hx hb dX2_init_79 (lv_at hl 0 rfl) ?_
    refine lv_iload_n hx hb dX2_init_81 rfl (lv_at hl 4 rfl) ?_
    refine lv_iload hx hb dX2_init_82 (lv_at hl 5 rfl) ?_
    refine lv_imul hx hb dX2_init_84 ?_
    refine lv_icmp_ge (tgt := 118) hx hb dX2_init_85 (by decide) (fun c1 => ?_) (fun c1 => ?_)
    · have hf := g_ip c1 hf
      obtain ⟨rfl, rfl⟩ := g_s1 hf
      have hjc : j = cnt := by
        rcases Nat.lt_or_ge j cnt with q | q
        · exact absurd c1 (hcnt j q)
        · omega
      subst hjc
      refine W.widen (k := 129) (n := 864) (by omega) (by omega) ?_
      exact r_vret C hP hS dX2_init_118
    · have hf := g_in c1 hf
      refine lv_iload hx hb dX2_init_88 (lv_at hl 0 rfl) ?_
      refine lv_aload_n hx hb dX2_init_90 rfl (lv_at hl 1 rfl) ?_
      have h5' : (5, k) ∈ NL0 ++ cls k j := List.mem_append_left _ h5
      have h6' : (6, k) ∈ NL0 ++ cls k j := List.mem_append_left _ h6
      refine r_get C hP h5' (ct_5 _ _ _ _) fx_X2_51 (fg_5_4 _ _ _) dX2_init_91 ?_
      refine r_alen C hP 32 h6' (ct_6 _ _ _ _) rfl rfl dX2_init_94 ?_
      refine lv_icmp_ge (tgt := 118) hx hb dX2_init_95 (by decide) (fun c2 => ?_) (fun c2 => ?_)
      · have hf := g_ip c2 hf
        obtain ⟨rfl, rfl⟩ := g_s1 hf
        have hj32 : 32 ≤ j := (nI_leI (a := 32) (b := j) (by omega) (by omega)).mp c2
        have hjc : j = cnt := by omega
        subst hjc
        refine W.widen (k := 129) (n := 864) (by omega) (by omega) ?_
        exact r_vret C hP hS dX2_init_118
      · have hf := g_in c2 hf
        have hj32 : j < 32 := by
          rcases Nat.lt_or_ge j 32 with q | q
          · exact q
          · exact absurd ((nI_leI (a := 32) (b := j) (by omega) (by omega)).mpr q) c2
        have hjc : j < cnt := by
          rcases Nat.lt_or_ge j cnt with q | q
          · exact q
          · have : j = cnt := by omega
            subst this
            rcases hend with h | h
            · exact absurd h c1
            · omega
        obtain ⟨hq7, hqn⟩ := cls_adr hjc hadr
        have hq85 := al_7 hal (32 * k + j)
        refine lv_aload_n hx hb dX2_init_98 rfl (lv_at hl 1 rfl) ?_
        refine r_get C hP h5' (ct_5 _ _ _ _) fx_X2_51 (fg_5_4 _ _ _) dX2_init_99 ?_
        refine lv_iload hx hb dX2_init_102 (lv_at hl 0 rfl) ?_
        have hlo : s.heap.size + (1 + 4 * j) ≤ H.size := by
          rcases Nat.eq_zero_or_pos j with q | q
          · have := gH_lt hP h6'
            simp only at this
            omega
          · obtain ⟨_, hz⟩ := cls_adr (j := j - 1) (by omega) hadr
            have hm : (10, 32 * k + (j - 1)) ∈ NL0 ++ cls k j := by
              obtain ⟨i, rfl⟩ : ∃ i, j = i + 1 := ⟨j - 1, by omega⟩
              simp [cls, nw_X0_init]
            have := gH_lt hP hm
            simp only [nw_X0_init, gAdr] at this hz
            omega
        refine r_new (K := 85) (i := 32 * k + j) (x := rz_85) C hP hS nx_X2_49 (rzc_85 _ _ _) (by omega) hlo ⟨by show 1 + 4 * j + 1 ≤ 129; omega, by show 32 + 26 * j + 5 ≤ 864; omega⟩ dX2_init_104 (fun C H hP hS => ?_)
        obtain ⟨X1, e1, hf⟩ := gl_in hf
        rw [← e1] at hP
        refine lv_dup hx hb dX2_init_107 rfl ?_
        obtain ⟨r2, X2, h2, hf⟩ := b2_in hf
        have hqn2 : gAdr ad (s.heap.size + (1 + 4 * j + 1)) (nw_X0_init (32 * k + j)) := by
          rw [show s.heap.size + (1 + 4 * j + 1) = s.heap.size + 1 + 4 * j + 1 by omega]
          exact hqn
        refine r_ini (rest := [.ref (ad 85 (32 * k + j)), .int (nI j), .ref (ad 6 k)]) (new := nw_X0_init (32 * k + j)) (mc := 3) (ms := 21) C hAW hP hS hl.1 (s_X0_init (gD_in C.2.2.2.2.2.2.2.2.2.1 (fun _ _ => trivial)) hal (by simp) hqn2 h2) (gAdr_at hqn2) (g_lo hP (K := 85) (i := 32 * k + j) (by simp) (by omega)) ix_X0_init im_X0_init rfl lk_X2_55 ⟨rfl, rfl, Nat.le_of_ble_eq_true rfl, Nat.le_of_ble_eq_true rfl⟩ rfl rfl (Nat.le_of_ble_eq_true rfl) ⟨by show 1 + 4 * j + 1 + 3 ≤ 129; omega, by show 32 + 26 * j + 5 + 21 ≤ 864; omega⟩ dX2_init_108 (fun C H locs hP hS => ?_)
        obtain ⟨hk3, hf⟩ := rkl_7 (cA := cA) (ad := ad) hf
        obtain ⟨X3, e3, hf⟩ := gl_in hf
        have hP := gH_rek (K := 7) C.2.2.2.2.2.2.2.2.2.1 hP (by decide) (al_7 hal _) hk3
        rw [← e3] at hP
        have C := gCx_rek (K := 7) C (al_7 hal _)
        rw [al_7 hal]
        obtain ⟨j4, h4, hf⟩ := rd_in hf
        obtain ⟨w5, h5w, hf⟩ := rn_in hf
        refine r_astq C hP hS w5 h5w.1 h5w.2 (by simp [h6]) (fun _ => ct_6 _ _ _ _) rfl (by simp) (ct_7 _ _ _ _) rfl h4 dX2_init_111 (fun H locs hP hS => ?_)
        obtain ⟨X4, e4, hf⟩ := gl_in hf
        rw [← e4] at hP
        refine lv_iinc (v := nI (j + 1)) (lv' := [(5, .int (nI (j + 1))), (0, .ref (ad 5 k)), (1, .int p1), (2, .ref (ad 12 p2)), (3, .int p3), (4, .int p4)]) hx hb dX2_init_112 hl (k := 0) rfl (by rw [nI_succ]; rfl) (Nat.le_of_ble_eq_true rfl) rfl (fun ls hl => ?_)
        refine lv_goto (tgt := 79) hx hb dX2_init_115 (by decide) ?_
        have eN : NL0 ++ cls k j ++ [(7, 32 * k + j)] ++ nw_X0_init (32 * k + j) = NL0 ++ cls k (j + 1) := by simp [cls]
        rw [eN] at C hP
        have h1j : nI j + 1 = nI (j + 1) := (nI_succ j).symm
        rw [h1j] at hf
        have := ih (j + 1) X4 H locs ls hjc C hP hS hl hf
        rw [show 1 + 4 * (j + 1) = 1 + 4 * j + 1 + 3 by omega, show 32 + 26 * (j + 1) = 32 + 26 * j + 5 + 21 by omega] at this
        exact this
set_option maxRecDepth 100000 in
set_option maxHeartbeats 4000000 in
theorem s_X2_init {l : Launch} {D : va_G} {cA : Nat → ClassId} {ad : Nat → Nat → Nat} {NL NLb : List (Nat × Nat)} {al : Nat → Nat → Bool} {N sz cnt : Nat} {p0 : Nat} {p1 : Int32} {p2 : Nat} {p3 p4 : Int32} {X : gM} {rr : Int32} {XX : gM} (hNL : NL = NLb ++ [(84, p0)]) (hD0 : gD (fun _ => True) ad NL) (hal : gAl ad) (hA : gAdr ad sz ((6, p0) :: cls p0 cnt)) (hc32 : cnt ≤ 32) (hcnt : ∀ j, j < cnt → ¬ p3 * p4 ≤ nI j) (hend : p3 * p4 ≤ nI cnt ∨ cnt = 32) (hf : X2_init al N p0 p1 p2 p3 p4 X = some (rr, XX)) : gCa l yX2_init cX2_init 6 none rm_X2_init 129 864 D cA ad NL [.ref (ad 84 p0), .int p1, .ref (ad 12 p2), .int p3, .int p4] X none (NLb ++ [(5, p0)] ++ ((6, p0) :: cls p0 cnt)) XX sz := by
  have ha : (84, p0) ∈ NL := by rw [hNL]; simp
  refine g_ofA (by decide) hD0 (Nat.le_of_ble_eq_true rfl) rfl (fun p e s m below meth c ls hsz hin hAW C hP hS hl => ?_)
  have hx := C.1
  have hb := C.2.1
  have hA2 : ad 6 p0 = sz := hA.1
  rw [X2_init] at hf
  refine lv_aload_n hx hb dX2_init_0 rfl (lv_at hl 0 rfl) ?_
  refine W.objInit hx hb C.2.2.2.1 (C.2.2.2.2.1 _ ob_X2_3) (C.2.2.2.2.1 _ ob_i.1) (C.2.2.2.2.1 _ ob_i.2) rfl (by rw [C.2.2.1]; exact hl.1) rfl dX2_init_1 (Nat.le_of_ble_eq_true rfl) (Nat.le_of_ble_eq_true rfl) ?_
  refine W.eq (g2 := F0 m 4 ls []) rfl ?_
  refine lv_aload_n hx hb dX2_init_4 rfl (lv_at hl 0 rfl) ?_
  refine lv_iconst (v := -1) hx hb dX2_init_5 (by decide) ?_
  refine r_put C hP hS (-1 : Int32) ha (ct_84 _ _ _ _) px_X2_9 (fp_84_5 _ _ _ _ _) (Nat.le_of_ble_eq_true rfl) rfl rfl dX2_init_6 (fun H locs hP hS => ?_)
  obtain ⟨X1, e2, hf⟩ := gl_in hf
  rw [← e2] at hP
  refine lv_aload_n hx hb dX2_init_9 rfl (lv_at hl 0 rfl) ?_
  refine lv_iconst (v := 0) hx hb dX2_init_10 (by decide) ?_
  refine r_put C hP hS (0 : Int32) ha (ct_84 _ _ _ _) px_X2_15 (fp_84_6 _ _ _ _ _) (Nat.le_of_ble_eq_true rfl) rfl rfl dX2_init_11 (fun H locs hP hS => ?_)
  obtain ⟨X3, e4, hf⟩ := gl_in hf
  rw [← e4] at hP
  refine lv_aload_n hx hb dX2_init_14 rfl (lv_at hl 0 rfl) ?_
  refine lv_iconst (v := 0) hx hb dX2_init_15 (by decide) ?_
  refine r_put C hP hS (0 : Int32) ha (ct_84 _ _ _ _) px_X2_18 (fp_84_7 _ _ _ _ _) (Nat.le_of_ble_eq_true rfl) rfl rfl dX2_init_16 (fun H locs hP hS => ?_)
  obtain ⟨X5, e6, hf⟩ := gl_in hf
  rw [← e6] at hP
  refine lv_aload_n hx hb dX2_init_19 rfl (lv_at hl 0 rfl) ?_
  refine lv_iconst (v := 0) hx hb dX2_init_20 (by decide) ?_
  refine r_put C hP hS (0 : Int32) ha (ct_84 _ _ _ _) px_X2_21 (fp_84_8 _ _ _ _ _) (Nat.le_of_ble_eq_true rfl) rfl rfl dX2_init_21 (fun H locs hP hS => ?_)
  obtain ⟨X7, e8, hf⟩ := gl_in hf
  rw [← e8] at hP
  refine lv_aload_n hx hb dX2_init_24 rfl (lv_at hl 0 rfl) ?_
  refine lv_iconst (v := 0) hx hb dX2_init_25 (by decide) ?_
  refine r_put C hP hS (0 : Int32) ha (ct_84 _ _ _ _) px_X2_24 (fp_84_9 _ _ _ _ _) (Nat.le_of_ble_eq_true rfl) rfl rfl dX2_init_26 (fun H locs hP hS => ?_)
  obtain ⟨X9, e10, hf⟩ := gl_in hf
  rw [← e10] at hP
  refine lv_aload_n hx hb dX2_init_29 rfl (lv_at hl 0 rfl) ?_
  refine lv_iconst (v := 0) hx hb dX2_init_30 (by decide) ?_
  refine r_put C hP hS (0 : Int32) ha (ct_84 _ _ _ _) px_X2_27 (fp_84_10 _ _ _ _ _) (Nat.le_of_ble_eq_true rfl) rfl rfl dX2_init_31 (fun H locs hP hS => ?_)
  obtain ⟨X11, e12, hf⟩ := gl_in hf
  rw [← e12] at hP
  refine lv_aload_n hx hb dX2_init_34 rfl (lv_at hl 0 rfl) ?_
  refine lv_iconst (v := 0) hx hb dX2_init_35 (by decide) ?_
  refine r_put C hP hS (0 : Int32) ha (ct_84 _ _ _ _) px_X2_30 (fp_84_11 _ _ _ _ _) (Nat.le_of_ble_eq_true rfl) rfl rfl dX2_init_36 (fun H locs hP hS => ?_)
  obtain ⟨X13, e14, hf⟩ := gl_in hf
  rw [← e14] at hP
  refine lv_aload_n hx hb dX2_init_39 rfl (lv_at hl 0 rfl) ?_
  refine lv_sipush (v := 4095) hx hb dX2_init_40 (by decide) ?_
  refine r_put C hP hS (4095 : Int32) ha (ct_84 _ _ _ _) px_X2_33 (fp_84_12 _ _ _ _ _) (Nat.le_of_ble_eq_true rfl) rfl rfl dX2_init_43 (fun H locs hP hS => ?_)
  obtain ⟨X15, e16, hf⟩ := gl_in hf
  rw [← e16] at hP
  refine lv_aload_n hx hb dX2_init_46 rfl (lv_at hl 0 rfl) ?_
  refine lv_iload_n hx hb dX2_init_47 rfl (lv_at hl 1 rfl) ?_
  refine r_putF C hin hP hS p1 ha (ct_84 _ _ _ _) pf_X2_36 (fp_84_0 _ _ _ _ _) (Nat.le_of_ble_eq_true rfl) rfl rfl dX2_init_48 (fun H locs hP hS => ?_)
  obtain ⟨X17, e18, hf⟩ := gl_in hf
  rw [← e18] at hP
  refine lv_aload_n hx hb dX2_init_51 rfl (lv_at hl 0 rfl) ?_
  refine lv_aload_n hx hb dX2_init_52 rfl (lv_at hl 2 rfl) ?_
  obtain ⟨w21, h22, hf⟩ := rn_in hf
  refine r_putF C hin hP hS w21 ha (ct_84 _ _ _ _) pf_X2_39 (by rw [fp_84_1, gwref h22]) (Nat.le_of_ble_eq_true rfl) rfl rfl dX2_init_53 (fun H locs hP hS => ?_)
  obtain ⟨X19, e20, hf⟩ := gl_in hf
  rw [← e20] at hP
  refine lv_aload_n hx hb dX2_init_56 rfl (lv_at hl 0 rfl) ?_
  refine lv_iload_n hx hb dX2_init_57 rfl (lv_at hl 3 rfl) ?_
  refine r_putF C hin hP hS p3 ha (ct_84 _ _ _ _) pf_X2_43 (fp_84_2 _ _ _ _ _) (Nat.le_of_ble_eq_true rfl) rfl rfl dX2_init_58 (fun H locs hP hS => ?_)
  obtain ⟨X23, e24, hf⟩ := gl_in hf
  rw [← e24] at hP
  refine lv_aload_n hx hb dX2_init_61 rfl (lv_at hl 0 rfl) ?_
  refine lv_iload hx hb dX2_init_62 (lv_at hl 4 rfl) ?_
  refine r_putF C hin hP hS p4 ha (ct_84 _ _ _ _) pf_X2_46 (fp_84_3 _ _ _ _ _) (Nat.le_of_ble_eq_true rfl) rfl rfl dX2_init_64 (fun H locs hP hS => ?_)
  obtain ⟨X25, e26, hf⟩ := gl_in hf
  rw [← e26] at hP
  refine lv_aload_n hx hb dX2_init_67 rfl (lv_at hl 0 rfl) ?_
  refine lv_bipush (v := 32) hx hb dX2_init_68 (by decide) ?_
  refine r_newq (K := 6) (i := p0) (t := 2) (N := 32) (x := fun _ => -1) C hP hS cl_X2_49 hAW.2.2.2.2.1 rfl rfl (by simp only [hsz, hA2, Nat.add_assoc, Nat.reduceAdd, Nat.add_zero, Nat.zero_add]) (by have := hS.1; omega) (by decide) (by decide) (by decide) (by decide) dX2_init_70 (fun C H hP hS => ?_)
  obtain ⟨X27, e28, hf⟩ := gl_in hf
  rw [← e28] at hP
  obtain ⟨w31, h32, hf⟩ := rn_in hf
  refine r_putF C hin hP hS w31 (by simp [ha]) (ct_84 _ _ _ _) pf_X2_51 (by rw [fp_84_4, gwref h32]) (Nat.le_of_ble_eq_true rfl) rfl rfl dX2_init_73 (fun H locs hP hS => ?_)
  obtain ⟨X29, e30, hf⟩ := gl_in hf
  rw [← e30] at hP
  obtain ⟨hk3, hf⟩ := rkl_5 (cA := cA) (ad := ad) hf
  obtain ⟨X99, e99, hf⟩ := gl_in hf
  generalize gA ad NL sz = A at C hS ⊢
  rw [hNL] at C hP
  have hP := gH_rek (K := 5) C.2.2.2.2.2.2.2.2.2.1 hP (by decide) (al_5 hal _) hk3
  rw [← e99] at hP
  have C := gCx_rek (K := 5) C (al_5 hal _)
  have hl := hl
  simp only [lv_args, g_catr, g_cati] at hl
  refine lv_iconst (v := 0) hx hb dX2_init_76 (by decide) ?_
  refine lv_istore (lv' := [(5, .int 0), (0, .ref (ad 84 p0)), (1, .int p1), (2, .ref (ad 12 p2)), (3, .int p3), (4, .int p4)]) hx hb dX2_init_77 hl (Nat.le_of_ble_eq_true rfl) rfl (fun ls hl => ?_)
  rw [al_5 hal] at hl
  rw [show NLb ++ [(5, p0)] ++ ((6, p0) :: cls p0 cnt) = NLb ++ [(5, p0)] ++ [(6, p0)] ++ cls p0 cnt by simp]
  have e0 : (NLb ++ [(5, p0)] ++ [(6, p0)]) ++ cls p0 0 = NLb ++ [(5, p0)] ++ [(6, p0)] := by simp [cls]
  exact lf_loop (NL0 := NLb ++ [(5, p0)] ++ [(6, p0)]) hAW hal (by simp) (by simp) (by rw [hA2, hsz]) (by rw [hsz]; exact hA.2) hc32 hcnt hend N 0 X99 _ _ ls (Nat.zero_le _) (by rw [e0]; exact C) (by rw [e0]; exact hP) hS hl hf
