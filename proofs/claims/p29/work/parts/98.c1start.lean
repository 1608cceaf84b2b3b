/-! the law's start -/
theorem nx_L_16 : gNw RL 16 9 15 [.null, .null, .int 0, .null, .null, .int 0, .null, .int 0, .null, .int 0, .null, .int 0, .null, .null, .null] := ⟨RX9, TX9, tyX9, rfl, kin_9, tyX9_ok, (gTB_in 78 (by decide +kernel) rfl), (gTB_in 79 (by decide +kernel) rfl), (gTB_in 58 (by decide +kernel) rfl), fun j hj => by rcases (show j = 0 ∨ j = 1 ∨ j = 2 ∨ j = 3 ∨ j = 4 ∨ j = 5 ∨ j = 6 ∨ j = 7 ∨ j = 8 ∨ j = 9 ∨ j = 10 ∨ j = 11 ∨ j = 12 ∨ j = 13 ∨ j = 14 by omega) with rfl | rfl | rfl | rfl | rfl | rfl | rfl | rfl | rfl | rfl | rfl | rfl | rfl | rfl | rfl <;> rfl⟩
theorem lk_L_93 : gLk RL 93 yX9_init := Or.inl (gTB_in 80 (by decide +kernel) rfl)
theorem fr_X10_init_J363 {S : Nat → Bool}  {al : Nat → Nat → Bool} {N : Nat}   {X0 X : gM}  (hX : frm S X0 X) : frG g2 S X0 (X10_init_J363 al N X) := by
  rw [X10_init_J363]
  repeat' (first | with_reducible assumption | with_reducible exact frG_none | with_reducible refine frG_some ?_ | with_reducible refine frG_b2 ?_ (fun _ _ _ => ?_) | with_reducible refine frG_b3 ?_ (fun _ _ _ _ => ?_) | with_reducible refine frG_bd (fun _ => ?_) | with_reducible refine frG_glm ?_ (fun _ _ => ?_) | with_reducible refine frG_gl (fun _ => ?_) | with_reducible refine frG_ite ?_ ?_ | with_reducible refine frm_set ?_ (by assumption) | with_reducible refine frm_sl ?_ (by assumption) | with_reducible refine frm_fill ?_ (by assumption) | with_reducible refine frm_tx8 ?_ (by assumption) (by assumption) (by assumption) | intro _)

theorem fr_X10_init_L343 {S : Nat → Bool} (h56 : S 56 = true) {al : Nat → Nat → Bool} {N : Nat}  {k363 : gM → Option (Int32 × gM)} {X0 : gM} (hk363 : ∀  (Y : gM), frm S X0 Y → frG g2 S X0 (k363  Y)) : ∀ (n : Nat) (a1 : Int32) (X : gM), frm S X0 X → frG g2 S X0 (X10_init_L343 al N k363 n a1 X) := by
  intro n
  induction n with
  | zero =>
    intro a1 X hX
    rw [X10_init_L343]
    exact frG_none
  | succ n ih =>
    intro a1 X hX
    rw [X10_init_L343]
    repeat' (first | with_reducible assumption | with_reducible exact frG_none | with_reducible refine frG_some ?_ | with_reducible refine hk363 _ ?_ | with_reducible refine ih _ _ ?_ | with_reducible refine frG_b2 ?_ (fun _ _ _ => ?_) | with_reducible refine frG_b3 ?_ (fun _ _ _ _ => ?_) | with_reducible refine frG_bd (fun _ => ?_) | with_reducible refine frG_glm ?_ (fun _ _ => ?_) | with_reducible refine frG_gl (fun _ => ?_) | with_reducible refine frG_ite ?_ ?_ | with_reducible refine frm_set ?_ (by assumption) | with_reducible refine frm_sl ?_ (by assumption) | with_reducible refine frm_fill ?_ (by assumption) | with_reducible refine frm_tx8 ?_ (by assumption) (by assumption) (by assumption) | intro _)

theorem fr_X10_init_J341 {S : Nat → Bool} (h56 : S 56 = true) {al : Nat → Nat → Bool} {N : Nat}   {X0 X : gM}  (hX : frm S X0 X) : frG g2 S X0 (X10_init_J341 al N X) := by
  rw [X10_init_J341]
  repeat' (first | with_reducible assumption | with_reducible exact frG_none | with_reducible refine frG_some ?_ | with_reducible refine fr_X10_init_L343 h56 ?_ _ _ _ ?_ | with_reducible refine fr_X10_init_J363   ?_ | with_reducible refine frG_b2 ?_ (fun _ _ _ => ?_) | with_reducible refine frG_b3 ?_ (fun _ _ _ _ => ?_) | with_reducible refine frG_bd (fun _ => ?_) | with_reducible refine frG_glm ?_ (fun _ _ => ?_) | with_reducible refine frG_gl (fun _ => ?_) | with_reducible refine frG_ite ?_ ?_ | with_reducible refine frm_set ?_ (by assumption) | with_reducible refine frm_sl ?_ (by assumption) | with_reducible refine frm_fill ?_ (by assumption) | with_reducible refine frm_tx8 ?_ (by assumption) (by assumption) (by assumption) | intro _)

theorem fr_X10_init_L316 {S : Nat → Bool} (h54 : S 54 = true) (h55 : S 55 = true) {al : Nat → Nat → Bool} {N : Nat}  {k341 : gM → Option (Int32 × gM)} {X0 : gM} (hk341 : ∀  (Y : gM), frm S X0 Y → frG g2 S X0 (k341  Y)) : ∀ (n : Nat) (a1 : Int32) (X : gM), frm S X0 X → frG g2 S X0 (X10_init_L316 al N k341 n a1 X) := by
  intro n
  induction n with
  | zero =>
    intro a1 X hX
    rw [X10_init_L316]
    exact frG_none
  | succ n ih =>
    intro a1 X hX
    rw [X10_init_L316]
    repeat' (first | with_reducible assumption | with_reducible exact frG_none | with_reducible refine frG_some ?_ | with_reducible refine hk341 _ ?_ | with_reducible refine ih _ _ ?_ | with_reducible refine frG_b2 ?_ (fun _ _ _ => ?_) | with_reducible refine frG_b3 ?_ (fun _ _ _ _ => ?_) | with_reducible refine frG_bd (fun _ => ?_) | with_reducible refine frG_glm ?_ (fun _ _ => ?_) | with_reducible refine frG_gl (fun _ => ?_) | with_reducible refine frG_ite ?_ ?_ | with_reducible refine frm_set ?_ (by assumption) | with_reducible refine frm_sl ?_ (by assumption) | with_reducible refine frm_fill ?_ (by assumption) | with_reducible refine frm_tx8 ?_ (by assumption) (by assumption) (by assumption) | intro _)

theorem fr_X10_init_T {S : Nat → Bool} (h53 : S 53 = true) (h54 : S 54 = true) (h55 : S 55 = true) (h56 : S 56 = true) {al : Nat → Nat → Bool} {N : Nat}   {X0 X : gM}  (hX : frm S X0 X) : frG g2 S X0 (X10_init_T al N X) := by
  rw [X10_init_T]
  repeat' (first | with_reducible assumption | with_reducible exact frG_none | with_reducible refine frG_some ?_ | with_reducible refine fr_X10_init_L316 h54 h55 ?_ _ _ _ ?_ | with_reducible refine fr_X10_init_J341 h56  ?_ | with_reducible refine frG_b2 ?_ (fun _ _ _ => ?_) | with_reducible refine frG_b3 ?_ (fun _ _ _ _ => ?_) | with_reducible refine frG_bd (fun _ => ?_) | with_reducible refine frG_glm ?_ (fun _ _ => ?_) | with_reducible refine frG_gl (fun _ => ?_) | with_reducible refine frG_ite ?_ ?_ | with_reducible refine frm_set ?_ (by assumption) | with_reducible refine frm_sl ?_ (by assumption) | with_reducible refine frm_fill ?_ (by assumption) | with_reducible refine frm_tx8 ?_ (by assumption) (by assumption) (by assumption) | intro _)

theorem fr_X10_init {S : Nat → Bool} (h44 : S 44 = true) (h45 : S 45 = true) (h46 : S 46 = true) (h47 : S 47 = true) (h48 : S 48 = true) (h49 : S 49 = true) (h50 : S 50 = true) (h51 : S 51 = true) (h52 : S 52 = true) (h53 : S 53 = true) (h54 : S 54 = true) (h55 : S 55 = true) (h56 : S 56 = true) (h57 : S 57 = true) (h58 : S 58 = true) (h59 : S 59 = true) (h60 : S 60 = true) (h61 : S 61 = true) (h62 : S 62 = true) (h63 : S 63 = true) (h64 : S 64 = true) (h65 : S 65 = true) (h66 : S 66 = true) (h67 : S 67 = true) (h68 : S 68 = true) (h69 : S 69 = true) (h70 : S 70 = true) (h71 : S 71 = true) (h72 : S 72 = true) (h73 : S 73 = true) (h74 : S 74 = true) (h75 : S 75 = true) (h76 : S 76 = true) (h77 : S 77 = true) (h78 : S 78 = true) (h79 : S 79 = true) (h80 : S 80 = true) (h92 : S 92 = true) {al : Nat → Nat → Bool} {N : Nat}   {X0 X : gM}  (hX : frm S X0 X) : frG g2 S X0 (X10_init al N X) := by
  rw [X10_init]
  repeat' (first | with_reducible assumption | with_reducible exact frG_none | with_reducible refine frG_some ?_ | with_reducible refine fr_X10_init_T h53 h54 h55 h56  ?_ | with_reducible refine frG_b2 ?_ (fun _ _ _ => ?_) | with_reducible refine frG_b3 ?_ (fun _ _ _ _ => ?_) | with_reducible refine frG_bd (fun _ => ?_) | with_reducible refine frG_glm ?_ (fun _ _ => ?_) | with_reducible refine frG_gl (fun _ => ?_) | with_reducible refine frG_ite ?_ ?_ | with_reducible refine frm_set ?_ (by assumption) | with_reducible refine frm_sl ?_ (by assumption) | with_reducible refine frm_fill ?_ (by assumption) | with_reducible refine frm_tx8 ?_ (by assumption) (by assumption) (by assumption) | intro _)

set_option maxRecDepth 100000 in
theorem gNI_k : ∀ n ∈ gNI, n.1 < 43 := by decide +kernel
set_option maxRecDepth 100000 in
set_option maxHeartbeats 4000000 in
theorem s_start {p : Program} {l : Launch} {e : Env} {s : State} {m : MethodId} {args : Array Value} {below : List Frame} {meth : Method} {c : Code} {Q : State → Prop} {rt : Option FieldType} {ls : Array Slot} {D : va_G} {cA : Nat → ClassId} {ad : Nat → Nat → Nat} {A : Nat → Prop} {N b sz : Nat} {X : gM} {rr : Int32} (C : gCx p c meth m s args cL_law 13 rt RL D cA ad [] A) (hWd : gWd A s) (hal : gAl ad) (hsz : s.heap.size = sz) (hA : gAdr ad sz gNI) (hl : lv_has ls 13 [(0, .ref b)]) (hf : KI N = some (rr, X))
    (kk : gCx p c meth m s args cL_law 13 rt RL D cA ad gNI A → ∀ (H : Heap) (locs : List Loc) (ls : Array Slot), gH D cA ad gNI X H → va_S A s.heap H locs → lv_has ls 13 [(0, .ref b), (1, .ref (ad 0 0))] → W p l e room_1 s m args below meth c H locs 84 2265 Q (F0 m 8 ls [])) : W p l e room_1 s m args below meth c s.heap [] 0 0 Q (F0 m 0 ls []) := by
  have hx := C.1
  have hb := C.2.1
  have hAW := hWd.2.2.1
  have hP : gH D cA ad [] (fun _ _ _ => 0) s.heap := fun k q hq => by simp [gw] at hq
  have hS : va_S A s.heap s.heap [] := va_S.rf
  simp only [gNI, gAdr_app, gAdr, List.length_append, List.length_cons, List.length_nil, and_true, true_and] at hA
  obtain ⟨h0, h9⟩ := hA
  subst hsz
  rw [KI] at hf
  have a0 := al_0 hal 0
  refine r_new (K := 82) (i := 0) (x := rz_82) C hP hS nx_L_16 (rzc_82 _ _ _) (by rw [a0, h0]) (Nat.le_refl _) ⟨Nat.le_of_ble_eq_true rfl, Nat.le_of_ble_eq_true rfl⟩ dL_law_0 (fun C H hP hS => ?_)
  obtain ⟨X1, e2, hf⟩ := gl_in hf
  rw [← e2] at hP
  refine lv_dup hx hb dL_law_3 rfl ?_
  obtain ⟨r4, X2, h6, hf⟩ := b2_in hf
  have g9 : gAdr ad (s.heap.size + (0 + 1)) nw_X9_init := h9
  refine r_ini (rest := [.ref (ad 82 0)]) (new := nw_X9_init) (mc := 83) (ms := 2250) C hAW hP hS hl.1 (s_X9_init (gD_in C.2.2.2.2.2.2.2.2.2.1 (fun _ _ => trivial)) hal (by simp) g9 h6) (gAdr_at g9) (g_lo hP (K := 82) (i := 0) (by simp) (by rw [a0, h0])) ix_X9_init im_X9_init rfl lk_L_93 ⟨rfl, rfl, Nat.le_of_ble_eq_true rfl, Nat.le_of_ble_eq_true rfl⟩ rfl rfl (Nat.le_of_ble_eq_true rfl) ⟨Nat.le_of_ble_eq_true rfl, Nat.le_of_ble_eq_true rfl⟩ dL_law_4 (fun C H locs hP hS => ?_)
  obtain ⟨k9, hf⟩ := rkl_0 (cA := cA) (ad := ad) hf
  obtain ⟨X3, e8, hf⟩ := gl_in hf
  have hP := gH_rek (K := 0) C.2.2.2.2.2.2.2.2.2.1 hP (by decide) (al_0 hal _) k9
  rw [← e8] at hP
  have C := gCx_rek (K := 0) C (al_0 hal _)
  rw [al_0 hal]
  refine lv_astore_n (i := 1) (lv' := [(1, .ref (ad 0 0)), (0, .ref b)]) hx hb dL_law_7 rfl hl (Nat.le_of_ble_eq_true rfl) rfl (fun ls hl => ?_)
  obtain ⟨X4, e9, hf⟩ := gl_in hf
  obtain ⟨r5, X5, h11, hf⟩ := b2_in hf
  obtain ⟨r6, h12, hf⟩ := bd_in hf
  obtain ⟨X6, e10, hf⟩ := gl_in hf
  obtain ⟨-, e11⟩ := g_s1 hf
  have f4 : frm sG X3 X4 := by rw [e9]; exact frm_sl frm_rfl rfl
  have f5 : frm sG X3 X5 := fr_X10_init (S := sG) rfl rfl rfl rfl rfl rfl rfl rfl rfl rfl rfl rfl rfl rfl rfl rfl rfl rfl rfl rfl rfl rfl rfl rfl rfl rfl rfl rfl rfl rfl rfl rfl rfl rfl rfl rfl rfl rfl f4 _ h11
  have f6 : frm sG X3 X6 := by rw [e10]; exact frm_sl f5 rfl
  have f7 : frm sG X3 X := by rw [← e11]; exact frm_sl f6 rfl
  exact kk C H locs ls (by rw [gH_gh gNI_k f7]; exact hP) hS (lv_sub hl [1, 0] rfl)
