/-! Arrays.fill over a row of ints of the world -/
theorem g_cat (r : Option Nat) : (va_rf r).category = 1 := by cases r <;> rfl
theorem g_catr (a : Nat) : (Value.ref a).category = 1 := rfl
theorem g_cati (x : Int32) : (Value.int x).category = 1 := rfl
def rm_J7_fill_53178 : Room := { frames := 0, cells := 0, slots := 0, locals := 0 }
set_option maxRecDepth 100000 in
set_option maxHeartbeats 4000000 in
theorem fill_loop {p : Program} {l : Launch} {e : Env} {s : State} {m : MethodId} {args : Array Value} {below : List Frame} {meth : Method} {c : Code} {D : va_G} {cA : Nat → ClassId} {ad : Nat → Nat → Nat} {NL : List (Nat × Nat)} {A : Nat → Prop} {K i n : Nat} {v : Int32} {X : gM}
    (C : gCx p c meth m s args cJ7_fill_53178 4 none RJ7 D cA ad NL A) (hm : (K, i) ∈ NL) (hct : ∀ x : Nat → Int32, ct cA ad K i x = .inl (cA 0, n, .inl x)) (hn : n < 2147483648) :
    ∀ (q k : Nat), k + q = n → ∀ (H : Heap) (locs : List Loc) (ls : Array Slot), gH D cA ad NL (mfill X K i k v) H → va_S A s.heap H locs → lv_has ls 4 [(2, .int (nI k)), (3, .int (nI n)), (0, .ref (ad K i)), (1, .int v)] → W p l e rm_J7_fill_53178 s m args below meth c H locs 0 0 (MQ below (gQ D cA ad NL none (mfill X K i n v) A) args s 0 0 A) (F0 m 5 ls []) := by
  have hx := C.1
  have hb := C.2.1
  intro q
  induction q with
  | zero =>
    intro k hk H locs ls hP hS hl
    obtain rfl : k = n := by omega
    refine lv_iload_n hx hb dJ7_fill_53178_5 rfl (lv_at hl 0 rfl) ?_
    refine lv_iload_n hx hb dJ7_fill_53178_6 rfl (lv_at hl 1 rfl) ?_
    refine lv_icmp_ge (tgt := 20) hx hb dJ7_fill_53178_7 (by decide) (fun c1 => ?_) (fun c1 => ?_)
    · exact r_vret C hP hS dJ7_fill_53178_20
    · exact absurd (nI_le (Nat.le_refl k) hn) c1
  | succ q ih =>
    intro k hk H locs ls hP hS hl
    refine lv_iload_n hx hb dJ7_fill_53178_5 rfl (lv_at hl 0 rfl) ?_
    refine lv_iload_n hx hb dJ7_fill_53178_6 rfl (lv_at hl 1 rfl) ?_
    refine lv_icmp_ge (tgt := 20) hx hb dJ7_fill_53178_7 (by decide) (fun c1 => ?_) (fun c1 => ?_)
    · exact absurd c1 (nI_ge (by omega) hn)
    · refine lv_aload_n hx hb dJ7_fill_53178_10 rfl (lv_at hl 2 rfl) ?_
      refine lv_iload_n hx hb dJ7_fill_53178_11 rfl (lv_at hl 0 rfl) ?_
      refine lv_iload_n hx hb dJ7_fill_53178_12 rfl (lv_at hl 3 rfl) ?_
      refine r_iast C hP hS hm hct (n := n) (jj := k) ⟨vp_in_nI (by omega) hn, nI_clamp (by omega)⟩ dJ7_fill_53178_13 (fun H locs hP hS => ?_)
      rw [mfill_s] at hP
      refine lv_iinc (v := nI (k + 1)) (lv' := [(2, .int (nI (k + 1))), (3, .int (nI n)), (0, .ref (ad K i)), (1, .int v)]) hx hb dJ7_fill_53178_14 hl (k := 0) rfl (by rw [nI_succ]; rfl) (Nat.le_of_ble_eq_true rfl) rfl (fun ls hl => ?_)
      refine lv_goto (tgt := 5) hx hb dJ7_fill_53178_17 (by decide) ?_
      exact ih (k + 1) (by omega) _ _ _ hP hS hl
set_option maxRecDepth 100000 in
set_option maxHeartbeats 4000000 in
theorem s_J7_fill_53178 {l : Launch} {D : va_G} {cA : Nat → ClassId} {ad : Nat → Nat → Nat} {NL : List (Nat × Nat)} {K i n : Nat} {v : Int32} {X : gM} (hD0 : gD (fun _ => True) ad NL) (hm : (K, i) ∈ NL) (hct : ∀ x : Nat → Int32, ct cA ad K i x = .inl (cA 0, n, .inl x)) (hn : n < 2147483648) : gC l yJ7_fill_53178 cJ7_fill_53178 4 none rm_J7_fill_53178 D cA ad NL [.ref (ad K i), .int v] X none (mfill X K i n v) := by
  refine g_ofW (by decide) hD0 (Nat.le_of_ble_eq_true rfl) rfl (fun p e s m below meth c ls C hP hS hl => ?_)
  have hx := C.1
  have hb := C.2.1
  refine lv_iconst (v := 0) hx hb dJ7_fill_53178_0 (by decide) ?_
  refine lv_istore_n (lv' := [(2, .int 0), (0, .ref (ad K i)), (1, .int v)]) hx hb dJ7_fill_53178_1 rfl hl (Nat.le_of_ble_eq_true rfl) rfl (fun ls hl => ?_)
  refine lv_aload_n hx hb dJ7_fill_53178_2 rfl (lv_at hl 1 rfl) ?_
  refine r_alen C hP (nI n) hm (hct _) rfl rfl dJ7_fill_53178_3 ?_
  refine lv_istore_n (lv' := [(3, .int (nI n)), (2, .int 0), (0, .ref (ad K i)), (1, .int v)]) hx hb dJ7_fill_53178_4 rfl hl (Nat.le_of_ble_eq_true rfl) rfl (fun ls hl => ?_)
  exact fill_loop C hm hct hn n 0 (by omega) _ _ _ (by rw [mfill_0]; exact hP) hS (lv_sub hl [1, 0, 2, 3] rfl)
