/-! the law's world at its entry -/
theorem g_arrT {s : State} {ty : FieldType} {c comp : ClassId} {k : Class} (hk : s.vm.classes[c]? = some k) (hkind : k.kind = .array comp ty) : ArrOfT s c ty := fun _ _ => ⟨fun _ => nofun, k, hk, comp, hkind⟩
theorem g_ac {args : Array Value} {s : State} {ty : FieldType} (hra : ∀ c : ClassId, s.vm.findClass ("[" ++ ty.toString) = some c → va_RA s c ty) (h : (Cond.arrayClass ty).before args s = true) : ∃ c : ClassId, ArrOfT s c ty ∧ va_RA s c ty := by
  obtain ⟨c, k, comp, h1, h2, h3⟩ := Cond.arrayClass_spec h
  exact ⟨c, g_arrT h2 h3, hra c h1⟩
theorem g_ao {args : Array Value} {s : State} {C : String} (h : (Cond.arrayOver (.object C)).before args s = true) : ∃ c : ClassId, ArrOfT s c (.object C) ∧ va_RA s c (.object C) := by
  obtain ⟨comp, c, k, h1, h2, h3, h4, h5⟩ := Cond.arrayOver_spec h
  exact ⟨c, g_arrT h3 h4, ⟨k, comp, h3, h4, h1, h5⟩⟩
theorem g_ao2 {s : State} (h : gAO2 s) : ∃ (c comp : ClassId) (k : Class), s.vm.classes[c]? = some k ∧ k.kind = .array comp (.array .int) ∧ s.vm.findClass ("[" ++ (FieldType.array .int).toString) = some c := by
  unfold gAO2 Cond.before Cond.holds at h
  simp only [Cond.value, beq_iff_eq] at h
  cases hc : s.vm.findClass (FieldType.array .int).toString with
  | none => simp [hc] at h
  | some comp =>
    simp only [hc, Option.bind_some, Option.bind_eq_some_iff, Option.map_eq_some_iff] at h
    obtain ⟨c, hi, k, hk, hb⟩ := h
    cases hkind : k.kind with
    | array component ty =>
      rw [hkind] at hb
      simp at hb
      exact ⟨c, component, k, hk, by rw [hkind, hb.1], hb.2⟩
    | _ => rw [hkind] at hb; simp at hb
set_option maxRecDepth 100000 in
set_option maxHeartbeats 4000000 in
theorem g_world {s : State} {args : Array Value} (hts : ∀ w ∈ lw_tbl, w.before args s = true) : ∃ (D : va_G) (cA : Nat → ClassId), va_K D vwCl (gtys cA) s := by
  have htb : ∀ w ∈ gTB, w.before args s = true := fun w hw => hts w (List.mem_filter.mp hw).1
  obtain ⟨c0, i0, h0⟩ := u_known (C := RX0) (T := TX0) (N := 5) htb kin_0 (hts (.instantiable RX0 5) (List.mem_of_getElem? (i := 391) (by decide +kernel)))
  obtain ⟨c1, i1, h1⟩ := u_known (C := RX1) (T := TX1) (N := 7) htb kin_1 (hts (.instantiable RX1 7) (List.mem_of_getElem? (i := 465) (by decide +kernel)))
  obtain ⟨c2, i2, h2⟩ := u_known (C := RX2) (T := TX2) (N := 13) htb kin_2 (hts (.instantiable RX2 13) (List.mem_of_getElem? (i := 386) (by decide +kernel)))
  obtain ⟨c3, i3, h3⟩ := u_known (C := RX3) (T := TX3) (N := 2) htb kin_3 (hts (.instantiable RX3 2) (List.mem_of_getElem? (i := 87) (by decide +kernel)))
  obtain ⟨c4, i4, h4⟩ := u_known (C := RX4) (T := TX4) (N := 3) htb kin_4 (hts (.instantiable RX4 3) (List.mem_of_getElem? (i := 235) (by decide +kernel)))
  obtain ⟨c5, i5, h5⟩ := u_known (C := RX5) (T := TX5) (N := 6) htb kin_5 (hts (.instantiable RX5 6) (List.mem_of_getElem? (i := 108) (by decide +kernel)))
  obtain ⟨c6, i6, h6⟩ := u_known (C := RX6) (T := TX6) (N := 10) htb kin_6 (hts (.instantiable RX6 10) (List.mem_of_getElem? (i := 194) (by decide +kernel)))
  obtain ⟨c7, i7, h7⟩ := u_known (C := RX7) (T := TX7) (N := 13) htb kin_7 (hts (.instantiable RX7 13) (List.mem_of_getElem? (i := 115) (by decide +kernel)))
  obtain ⟨c8, i8, h8⟩ := u_known (C := RX8) (T := TX8) (N := 2) htb kin_8 (hts (.instantiable RX8 2) (List.mem_of_getElem? (i := 674) (by decide +kernel)))
  obtain ⟨c9, i9, h9⟩ := u_known (C := RX9) (T := TX9) (N := 15) htb kin_9 (hts (.instantiable RX9 15) (List.mem_of_getElem? (i := 79) (by decide +kernel)))
  obtain ⟨a0, g0⟩ := g_ac (ty := .int) (fun c h => h) (hts _ (List.mem_of_getElem? (i := 103) (by decide +kernel)))
  obtain ⟨a1, g1⟩ := g_ac (ty := .boolean) (fun c h => h) (hts _ (List.mem_of_getElem? (i := 233) (by decide +kernel)))
  obtain ⟨a2, g2⟩ := g_ao (C := "Undertext$Cell") (hts _ (List.mem_of_getElem? (i := 570) (by decide +kernel)))
  obtain ⟨a3, g3⟩ := g_ao (C := "Undertext$Fact") (hts _ (List.mem_of_getElem? (i := 121) (by decide +kernel)))
  obtain ⟨a4, g4⟩ := g_ao (C := "Undertext$Leaf") (hts _ (List.mem_of_getElem? (i := 105) (by decide +kernel)))
  obtain ⟨a5, g5⟩ := g_ao (C := "Undertext$Quire") (hts _ (List.mem_of_getElem? (i := 107) (by decide +kernel)))
  obtain ⟨a6, g6⟩ := g_ao (C := "Undertext$Text") (hts _ (List.mem_of_getElem? (i := 192) (by decide +kernel)))
  have hao2 : gAO2 s := hts (.arrayOver (.array .int)) (List.mem_of_getElem? (i := 200) (by decide +kernel))
  obtain ⟨a7, cm7, k7, g71, g72, g73⟩ := g_ao2 hao2
  refine ⟨(fun k => if k = 0 then c0 else if k = 1 then c1 else if k = 2 then c2 else if k = 3 then c3 else if k = 4 then c4 else if k = 5 then c5 else if k = 6 then c6 else if k = 7 then c7 else if k = 8 then c8 else c9, fun k => if k = 0 then i0 else if k = 1 then i1 else if k = 2 then i2 else if k = 3 then i3 else if k = 4 then i4 else if k = 5 then i5 else if k = 6 then i6 else if k = 7 then i7 else if k = 8 then i8 else i9), fun k => if k = 0 then a0 else if k = 1 then a1 else if k = 2 then a2 else if k = 3 then a3 else if k = 4 then a4 else if k = 5 then a5 else if k = 6 then a6 else a7, fun k q hq => ?_, fun k q hq => ?_⟩
  · match k, hq with
    | 0, hq => cases hq; exact h0
    | 1, hq => cases hq; exact h1
    | 2, hq => cases hq; exact h2
    | 3, hq => cases hq; exact h3
    | 4, hq => cases hq; exact h4
    | 5, hq => cases hq; exact h5
    | 6, hq => cases hq; exact h6
    | 7, hq => cases hq; exact h7
    | 8, hq => cases hq; exact h8
    | 9, hq => cases hq; exact h9
    | k + 10, hq => simp [vwCl] at hq
  · match k, hq with
    | 0, hq => cases hq; exact g0
    | 1, hq => cases hq; exact g1
    | 2, hq => cases hq; exact g2
    | 3, hq => cases hq; exact g3
    | 4, hq => cases hq; exact g4
    | 5, hq => cases hq; exact g5
    | 6, hq => cases hq; exact g6
    | 7, hq => cases hq; exact ⟨g_arrT g71 g72, g73⟩
    | k + 8, hq => simp [gtys] at hq
theorem g_nw {s : State} {args : Array Value} (hts : ∀ w ∈ lw_tbl, w.before args s = true) : gNW s ∧ gEW s := by
  constructor
  · intro w hw
    obtain ⟨h1, h2⟩ := List.mem_filter.mp hw
    refine va_Nw.of ?_ (hts w h1)
    cases w <;> first | rfl | (simp [gNest] at h2)
  · intro w hw
    obtain ⟨h1, h2⟩ := List.mem_filter.mp hw
    refine va_Nw.of ?_ (hts w h1)
    cases w <;> first | rfl | (simp [gEx] at h2)
theorem g_aw {s : State} {args : Array Value} (hts : ∀ w ∈ lw_tbl, w.before args s = true) : gAW s := ⟨va_AO.of (hts _ (List.mem_of_getElem? (i := 105) (by decide +kernel))), va_AO.of (hts _ (List.mem_of_getElem? (i := 107) (by decide +kernel))), va_AO.of (hts _ (List.mem_of_getElem? (i := 121) (by decide +kernel))), va_AO.of (hts _ (List.mem_of_getElem? (i := 192) (by decide +kernel))), va_AO.of (hts _ (List.mem_of_getElem? (i := 570) (by decide +kernel))), hts (.arrayOver (.array .int)) (List.mem_of_getElem? (i := 200) (by decide +kernel))⟩
set_option maxRecDepth 100000 in
theorem g_z {s : State} {args : Array Value} (hts : ∀ w ∈ lw_tbl, w.before args s = true) (hgv : (Jvm.Cond.and given_1 narrow_1).before args s = true) : gZ (fun q => s.heap.size ≤ q) s s.heap := by
  have hs := flat_of_before _ hgv
  exact ⟨vx_Zqof (hts _ (List.mem_of_getElem? (i := 332) (by decide +kernel))) (hts _ (List.mem_of_getElem? (i := 67) (by decide +kernel))) (hs (.isRef (.static "java/lang/Throwable" "UNASSIGNED_STACK" "[Ljava/lang/StackTraceElement;")) (by decide +kernel)) (fun a h => Nat.not_le.mpr h), vx_Zqof (hts _ (List.mem_of_getElem? (i := 334) (by decide +kernel))) (hts _ (List.mem_of_getElem? (i := 67) (by decide +kernel))) (hs (.isRef (.static "java/lang/Throwable" "SUPPRESSED_SENTINEL" "Ljava/util/List;")) (by decide +kernel)) (fun a h => Nat.not_le.mpr h)⟩
set_option maxRecDepth 100000 in
theorem g_nc {s : State} {args : Array Value} (hgv : (Jvm.Cond.and given_1 narrow_1).before args s = true) : gNc s := by
  have hs := flat_of_before _ hgv
  intro i j hi hj hne
  rcases hi with rfl | rfl | rfl <;> rcases hj with rfl | rfl | rfl <;> first | exact absurd rfl hne | exact va_Nc.of (hs _ (by decide +kernel))
