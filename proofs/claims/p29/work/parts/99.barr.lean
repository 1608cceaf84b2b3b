/-! arrangements, places: what they answer -/
theorem fit_kp {X Y : gM} (h : keeps X Y) (F P : Nat) (ls : List Nat) (all : Bool) (wo : Nat) : fit Y F P ls all wo = fit X F P ls all wo := by
  funext a
  unfold fit geo cts brk
  rw [h 47 (by omega) (by omega), h 48 (by omega) (by omega), h 63 (by omega) (by omega), h 64 (by omega) (by omega), h 65 (by omega) (by omega), h 66 (by omega) (by omega), h 67 (by omega) (by omega)]
theorem keeps_sv {X Y : gM} {s : Nat} (h : sv s X Y) : keeps X Y := fun k a b => by
  funext i j
  exact h k i j (by omega)
theorem keeps_m {X Y : gM} (h : keeps X Y) (r v : Int32) : keeps X (mset (mset Y 81 0 0 r) 43 0 46 v) := fun k a b => by
  funext i j
  rw [mset_at, if_neg (by omega), mset_at, if_neg (by omega), h k a b]
theorem q_arr {NL : List (Nat × Nat)} {N L F D W K b : Nat} {X : gM} (hN : 1000000 ≤ N) (hJ : JJ NL L F D W K X) (hb : b < 2) (all : Bool) : ∃ sh X2, 1 ≤ sh ∧ sh ≤ 4 ∧ X 53 0 b = nI sh ∧ P_arrangements (gal NL) N (nI b) (if all = true then 1 else 0) X = some (0, nI (nc (2 * sh) (fit X F (2 * sh) (lvs (X 44 0) b L) all 99) (lvs (X 44 0) b L) a00), X2) ∧ JJ NL L F D W K X2 := by
  obtain ⟨g1, g2, g3, g4, g5, g6, g7, g8, g9, g10, g11, g12⟩ := id hJ
  obtain ⟨h11, hB⟩ := id g6
  have hir : (0 : Int32) ≤ nI b ∧ nI b ≤ 1 := (ir_2 _).mpr (ir_nI (by omega) hb)
  have ha : gal NL 12 b = true := gal_al g1 hb
  obtain ⟨s, hs, hsb, hall, hpall, hsur⟩ : ∃ (s : Nat), s < 6 ∧ s / 3 = b ∧ decide (s % 3 = 1) = all ∧ ((if all = true then (1 : Int32) else 0) = 0 ↔ all = false) ∧ X5_surveyed (gal NL) N b (if all = true then (1 : Int32) else 0) X = X5_surveyed_J15 (gal NL) N b s X := by
    cases all with
    | false => exact ⟨3 * b, by omega, by omega, decide_eq_false (by omega), ⟨fun _ => rfl, fun _ => rfl⟩, by show X5_surveyed (gal NL) N b 0 X = _; unfold X5_surveyed; rw [if_pos rfl]⟩
    | true => exact ⟨3 * b + 1, by omega, by omega, decide_eq_true (by omega), ⟨fun q => absurd q (by decide), fun q => (by cases q)⟩, by unfold X5_surveyed; rw [if_pos rfl, if_neg (by decide)]⟩
  generalize (if all = true then (1 : Int32) else 0) = p at hpall hsur ⊢
  obtain ⟨Y, y1, y2, y3, hJY⟩ := surv_J (N := N) (by omega) hJ hs hsb
  have hJZ := JJ_sm (Sm_out (X := Y) (Y 14 s 3) 0) hJY
  have has : gal NL 14 s = true := gal_al g1 hs
  obtain ⟨sh, Z, z1, z2, z3, z4, zf, z5, z6, -, -⟩ := arr_J (al := gal NL) (wo := 99) (x := 0) (y := 0) (all := all) (p2 := p) (p3 := -1) (p4 := -1) (p5 := -1) hN hJZ hb hpall wo99 (Or.inl rfl)
  have hsv := svOK_of hJZ hs (by rw [mset_at, if_neg (by omega), mset_at, if_neg (by omega)]; exact y3) sh _ z2 (by rw [hsb]; exact z3) rfl
  have kp : keeps X (mset (mset Y 81 0 0 (Y 14 s 3)) 43 0 46 0) := keeps_m (keeps_sv y2) _ _
  have hs1 := hsv.1
  rw [hall, hsb, mset_at, if_neg (by omega), mset_at, if_neg (by omega)] at hs1
  have ans : Z 43 0 40 = Y 14 s 3 := z6.trans hs1.symm
  have e44 : (mset (mset Y 81 0 0 (Y 14 s 3)) 43 0 46 0) 44 = X 44 := kp 44 (by omega) (by omega)
  refine ⟨sh, Z, z1, z2, ?_, ?_, JJ_sm z5 hJZ⟩
  · rw [← kp 53 (by omega) (by omega)]; exact z3
  · have ev : nI (nc (2 * sh) (fit X F (2 * sh) (lvs (X 44 0) b L) all 99) (lvs (X 44 0) b L) a00) = Y 14 s 3 := by
      rw [hs1, fit_kp kp, e44]
    rw [ev]
    have e9 : X9_arrangements (gal NL) N (nI b) p X = some (0, Y 14 s 3, Y) := by
      unfold X9_arrangements
      rw [X9_quireOf_yes h11 hb, bind2_some, if_neg (zn_nn (by omega)), dr_nI ha (by omega), Option.bind_some, hsur, y1, bind2_some, dr_nI has (by omega), Option.bind_some]
    have e10 : X10_arrangements (gal NL) N (nI b) p (gst 0 (Y 14 s 3) Y) = some (Y 14 s 3, Z) := by
      unfold X10_arrangements gst
      rw [if_pos rfl, X10_in_eq, bind2_some, if_pos hir, if_neg (by decide)]
      unfold X10_arrangements_J15
      rw [gl_eq, mset_same, if_pos (by decide), z4, bind2_some, ans]
    unfold P_arrangements
    rw [e9, bind3_some, e10, bind2_some]
theorem q_pl {NL : List (Nat × Nat)} {N L F D W K x : Nat} {X : gM} (hN : 1000000 ≤ N) (hJ : JJ NL L F D W K X) (hx : x < L) (all : Bool) : ∃ b sh m X2, b < 2 ∧ X 44 0 x = nI b ∧ 1 ≤ sh ∧ sh ≤ 4 ∧ X 53 0 b = nI sh ∧ m < 256 ∧ P_places (gal NL) N (nI x) (if all = true then 1 else 0) X = some (0, nI m, X2) ∧ JJ NL L F D W K X2 ∧
    ∀ v, v < 32 → (mb (nI m) v = true ↔ nc (2 * sh) (fun a => fit X F (2 * sh) (lvs (X 44 0) b L) all 99 a ∧ a x = v) (lvs (X 44 0) b L) a00 ≠ 0) := by
  obtain ⟨g1, g2, g3, g4, g5, g6, g7, g8, g9, g10, g11, g12⟩ := id hJ
  obtain ⟨hL, h430, -, h4, hlv⟩ := id g2
  obtain ⟨b, ln, w, hb, -, -, -, -, h44, -, -, h50, h51, -⟩ := hlv x hx
  have ha : gal NL 12 b = true := gal_al g1 hb
  have ha5 : gal NL 5 x = true := gal_al g1 hx
  have hir := ir_nI (n := L) (by omega) hx
  obtain ⟨s, hs, hsb, hall, hpall, hsur⟩ : ∃ (s : Nat), s < 6 ∧ s / 3 = b ∧ decide (s % 3 = 1) = all ∧ ((if all = true then (1 : Int32) else 0) = 0 ↔ all = false) ∧ X5_surveyed (gal NL) N b (if all = true then (1 : Int32) else 0) X = X5_surveyed_J15 (gal NL) N b s X := by
    cases all with
    | false => exact ⟨3 * b, by omega, by omega, decide_eq_false (by omega), ⟨fun _ => rfl, fun _ => rfl⟩, by show X5_surveyed (gal NL) N b 0 X = _; unfold X5_surveyed; rw [if_pos rfl]⟩
    | true => exact ⟨3 * b + 1, by omega, by omega, decide_eq_true (by omega), ⟨fun q => absurd q (by decide), fun q => (by cases q)⟩, by unfold X5_surveyed; rw [if_pos rfl, if_neg (by decide)]⟩
  generalize (if all = true then (1 : Int32) else 0) = p at hpall hsur ⊢
  obtain ⟨Y, y1, y2, y3, hJY⟩ := surv_J (N := N) (by omega) hJ hs hsb
  have hJZ := JJ_sm (Sm_out (X := Y) (Y 15 s x) 0) hJY
  have has : gal NL 14 s = true := gal_al g1 hs
  obtain ⟨sh, Z, z1, z2, z3, z4, zf, z5, -, z6, -⟩ := arr_J (al := gal NL) (wo := 99) (x := 0) (y := 0) (all := all) (p2 := p) (p3 := -1) (p4 := -1) (p5 := -1) hN hJZ hb hpall wo99 (Or.inl rfl)
  have hsv := svOK_of hJZ hs (by rw [mset_at, if_neg (by omega), mset_at, if_neg (by omega)]; exact y3) sh _ z2 (by rw [hsb]; exact z3) rfl
  have kp : keeps X (mset (mset Y 81 0 0 (Y 15 s x)) 43 0 46 0) := keeps_m (keeps_sv y2) _ _
  have e44 : (mset (mset Y 81 0 0 (Y 15 s x)) 43 0 46 0) 44 = X 44 := kp 44 (by omega) (by omega)
  have hxm : x ∈ lvs (X 44 0) b L := lvs_mem.mpr ⟨hx, h44⟩
  have hms : ∀ v, v < 32 → (mb (Y 15 s x) v = true ↔ nc (2 * sh) (fun a => fit X F (2 * sh) (lvs (X 44 0) b L) all 99 a ∧ a x = v) (lvs (X 44 0) b L) a00 ≠ 0) := fun v hv => by
    have h1 := hsv.2.1 x (by rw [hsb, e44]; exact hxm) v hv
    rw [hall, hsb, mset_at, if_neg (by omega), mset_at, if_neg (by omega), e44, fit_kp kp] at h1
    exact h1
  obtain ⟨m, hm, em⟩ := mask_n (P := 2 * sh) (by omega) hxm hms
  rw [e44, fit_kp kp] at z6
  have ans : Z 77 0 x = Y 15 s x := masks_eq (z6 x hxm) hms
  refine ⟨b, sh, m, Z, hb, h44, z1, z2, ?_, hm, ?_, JJ_sm z5 hJZ, ?_⟩
  · rw [← kp 53 (by omega) (by omega)]; exact z3
  · rw [← em]
    have e9 : X9_places (gal NL) N (nI x) p X = some (0, Y 15 s x, Y) := by
      unfold X9_places X9_placesOf
      rw [X9_leafOf_yes hL h4 hx, bind2_some, if_neg (zn_nn (by omega)), dr_nI ha5 (by omega), Option.bind_some, h51, dr_nI ha (by omega), Option.bind_some, hsur, y1, bind2_some, dr_nI has (by omega), Option.bind_some, y2 5 x 0 (by omega), h50, rd_nI (by omega) (by omega), Option.bind_some, bind2_some]
    have e10 : X10_places (gal NL) N (nI x) p (gst 0 (Y 15 s x) Y) = some (Y 15 s x, Z) := by
      unfold X10_places gst
      have hL430 : (mset Y 81 0 0 (Y 15 s x)) 43 0 0 = nI L := by rw [mset_at, if_neg (by omega), y2 43 0 0 (by omega), h430]
      rw [if_pos rfl, X10_isLeaf_eq (gal NL) N _ hL430 (by omega), bind2_some, if_pos hir, if_neg (by decide)]
      unfold X10_places_J14
      rw [gl_eq, mset_same, if_pos (by decide), rd_nI (by omega) (by omega), Option.bind_some, e44, h44, z4, bind2_some, Option.bind_some, ans]
    unfold P_places
    rw [e9, bind3_some, e10, bind2_some]
  · rw [← em]; exact hms
/-! all facts leave no more than the certain ones -/
theorem pc_mono {p q : Prop} (h : p → q) : pc p ≤ pc q := by
  unfold pc
  by_cases hp : p
  · rw [if_pos hp, if_pos (h hp)]; omega
  · rw [if_neg hp]; omega
theorem sumN_mono {f g : Nat → Nat} (h : ∀ v, f v ≤ g v) (n : Nat) : sumN f n ≤ sumN g n := by
  induction n with
  | zero => exact Nat.le_refl _
  | succ n ih => exact Nat.add_le_add ih (h n)
theorem nc_mono {P : Nat} {Φ Ψ : (Nat → Nat) → Prop} (h : ∀ a, Φ a → Ψ a) : ∀ (ls : List Nat) (a : Nat → Nat), nc P Φ ls a ≤ nc P Ψ ls a
  | [], a => pc_mono (h a)
  | l :: ls, a => sumN_mono (fun v => nc_mono h ls (updN a l v)) P
theorem fit_all {X : gM} {F P : Nat} {ls : List Nat} {wo : Nat} {a : Nat → Nat} (h : fit X F P ls true wo a) : fit X F P ls false wo a := by
  refine ⟨h.1, fun f hf hw => h.2 f ?_ hw⟩
  obtain ⟨h1, h2, h3, h4⟩ := hf
  exact ⟨h1, h2, Or.inl rfl, h4⟩
theorem sumN_le {f : Nat → Nat} {M : Nat} (h : ∀ v, f v ≤ M) (n : Nat) : sumN f n ≤ n * M := by
  induction n with
  | zero => exact Nat.zero_le _
  | succ n ih =>
    have := h n
    have e : (n + 1) * M = n * M + M := Nat.succ_mul n M
    show sumN f n + f n ≤ _
    omega
theorem nc_le {P : Nat} {Φ : (Nat → Nat) → Prop} : ∀ (ls : List Nat) (a : Nat → Nat), nc P Φ ls a ≤ P ^ ls.length
  | [], a => by
    show pc (Φ a) ≤ 1
    unfold pc
    split <;> omega
  | l :: ls, a => by
    have h1 : sumN (fun v => nc P Φ ls (updN a l v)) P ≤ P * P ^ ls.length := sumN_le (fun v => nc_le ls (updN a l v)) P
    have e : P ^ (l :: ls).length = P * P ^ ls.length := by rw [List.length_cons, Nat.pow_succ, Nat.mul_comm]
    rw [e]
    exact h1
theorem pow_8 {P n : Nat} (hP : P ≤ 8) (hn : n ≤ 6) : P ^ n ≤ 262144 := Nat.le_trans (Nat.pow_le_pow_left hP n) (Nat.le_trans (Nat.pow_le_pow_right (by omega) hn) (by decide))
