/-! arrangements: the class's survey -/
def fcl (X : gM) (F : Nat) (all : Bool) : Nat → List Nat
  | 0 => []
  | n + 1 => fcl X F all n ++ (if n < F ∧ X 67 0 n ≠ 0 ∧ (all = true ∨ X 66 0 n ≠ 0) then [n] else [])
theorem fcl_mem {X : gM} {F f : Nat} {all : Bool} {n : Nat} : f ∈ fcl X F all n ↔ f < n ∧ f < F ∧ X 67 0 f ≠ 0 ∧ (all = true ∨ X 66 0 f ≠ 0) := by
  induction n with
  | zero => simp [fcl]
  | succ n ih =>
    unfold fcl
    rw [List.mem_append, ih]
    by_cases c : n < F ∧ X 67 0 n ≠ 0 ∧ (all = true ∨ X 66 0 n ≠ 0)
    · rw [if_pos c, List.mem_singleton]
      constructor
      · rintro (⟨q1, q2⟩ | q)
        · exact ⟨by omega, q2⟩
        · subst q
          exact ⟨by omega, c⟩
      · rintro ⟨q1, q2⟩
        by_cases e : f = n
        · exact Or.inr e
        · exact Or.inl ⟨by omega, q2⟩
    · rw [if_neg c]
      constructor
      · rintro (⟨q1, q2⟩ | q)
        · exact ⟨by omega, q2⟩
        · cases q
      · rintro ⟨q1, q2⟩
        by_cases e : f = n
        · subst e
          exact absurd q2 c
        · exact Or.inl ⟨by omega, q2⟩
theorem fcl_len (X : gM) (F : Nat) (all : Bool) (n : Nat) : (fcl X F all n).length ≤ n := by
  induction n with
  | zero => exact Nat.le_refl _
  | succ n ih =>
    unfold fcl
    rw [List.length_append]
    split
    · show _ + 1 ≤ _
      omega
    · show _ + 0 ≤ _
      omega
theorem fcl_nd (X : gM) (F : Nat) (all : Bool) (n : Nat) : (fcl X F all n).Nodup := by
  induction n with
  | zero => exact List.nodup_nil
  | succ n ih =>
    unfold fcl
    rw [List.nodup_append]
    refine ⟨ih, ?_, fun i hi j hj hij => ?_⟩
    · split
      · exact List.nodup_cons.mpr ⟨by simp, List.nodup_nil⟩
      · exact List.nodup_nil
    · subst hij
      have h1 := (fcl_mem.mp hi).1
      split at hj
      · rw [List.mem_singleton] at hj
        omega
      · cases hj
theorem takeFacts_eq {al : Nat → Nat → Bool} {N s F : Nat} {X : gM} {all : Bool} (hN : 1000 ≤ N) (hF : F ≤ 12) (h22 : ∀ j, X 22 0 j = if j < F then nI j else -1) (hal : ∀ f, f < F → al 23 f = true) (h23 : ∀ f, f < F → X 23 f 5 = X 66 0 f ∧ X 23 f 6 = X 67 0 f) (h140 : X 14 s 0 = if all then 1 else 0) :
    ∃ Y, X7_takeFacts al N s X = some (0, Y) ∧ (∀ k p j, ¬ (p = s ∧ (k = 18 ∨ (k = 14 ∧ j = 8))) → Y k p j = X k p j) ∧ Y 14 s 8 = nI (fcl X F all 12).length ∧ (∀ t f, (fcl X F all 12)[t]? = some f → Y 18 s t = nI f) ∧ (∀ j, Y 18 s j = X 18 s j ∨ ∃ f, f < F ∧ Y 18 s j = nI f) := by
  unfold X7_takeFacts
  rw [gl_eq]
  refine exR fun R hR => ?_
  refine m_up0 12 (fun fu i (y : gM) => X7_takeFacts_L13 al N (fun Y => X7_takeFacts_J98 al N Y) fu s 12 i y)
    (fun i y => (∀ k p j, ¬ (p = s ∧ (k = 18 ∨ (k = 14 ∧ j = 8))) → y k p j = X k p j) ∧ y 14 s 8 = nI (fcl X F all i).length ∧ (∀ t f, (fcl X F all i)[t]? = some f → y 18 s t = nI f) ∧ (∀ j, y 18 s j = X 18 s j ∨ ∃ f, f < F ∧ y 18 s j = nI f)) (fun o => ∃ Y, o = some (0, Y) ∧ R Y) (mset X 14 s 8 0) (by omega) ?_ ?_ ⟨fun k p j hk => by rw [mset_at, if_neg (by omega)], by rw [mset_same]; rfl, fun t f h => by simp [fcl] at h, fun j => Or.inl (by rw [mset_at, if_neg (by omega)])⟩
  · rintro i fu y hi ⟨y1, y2, y3, y4⟩ ih
    have e22 : y 22 0 i = if i < F then nI i else -1 := by rw [y1 22 0 i (by omega), h22]
    have n12 : ¬ (12 : Int32) ≤ nI i := fun q => by
      have := (zn_lle (k := 12) (by omega) (by decide)).mp q
      have e8 : (OfNat.ofNat 12 : Nat) = 12 := rfl
      omega
    have hlen := fcl_len X F all i
    have skip : ¬ (i < F ∧ X 67 0 i ≠ 0 ∧ (all = true ∨ X 66 0 i ≠ 0)) → ∃ Y, X7_takeFacts_L13 al N (fun Y => X7_takeFacts_J98 al N Y) fu s 12 (nI i + 1) y = some (0, Y) ∧ _ := fun hc => by
      have el : fcl X F all (i + 1) = fcl X F all i := by
        show _ ++ (if _ then _ else _) = _
        rw [if_neg hc, List.append_nil]
      rw [zn_a1]
      exact ih y ⟨y1, by rw [el]; exact y2, by rw [el]; exact y3, y4⟩
    show ∃ Y, X7_takeFacts_L13 al N (fun Y => X7_takeFacts_J98 al N Y) (fu + 1) s 12 (nI i) y = some (0, Y) ∧ _
    unfold X7_takeFacts_L13
    rw [if_neg n12, rd_nI hi (by omega), Option.bind_some, e22]
    by_cases cF : i < F
    · obtain ⟨f5, f6⟩ := h23 i cF
      have e5 : y 23 i 5 = X 66 0 i := by rw [y1 23 i 5 (by omega), f5]
      have e6 : y 23 i 6 = X 67 0 i := by rw [y1 23 i 6 (by omega), f6]
      have e0 : y 14 s 0 = if all then 1 else 0 := by rw [y1 14 s 0 (by omega), h140]
      have put : (i < F ∧ X 67 0 i ≠ 0 ∧ (all = true ∨ X 66 0 i ≠ 0)) → ∃ Y, X7_takeFacts_J56 al N (X7_takeFacts_L13 al N (fun Y => X7_takeFacts_J98 al N Y) fu) (fun Y => X7_takeFacts_J98 al N Y) s 12 (nI i) (nI i) y = some (0, Y) ∧ _ := fun hc => by
        have el : fcl X F all (i + 1) = fcl X F all i ++ [i] := by
          show _ ++ (if _ then _ else _) = _
          rw [if_pos hc]
        have lt12 : nI (fcl X F all i).length < (12 : Int32) := (zn_ltl (k := 12) (by omega) (by decide)).mpr (by
          show _ < 12
          omega)
        unfold X7_takeFacts_J56
        rw [y2, if_pos lt12, dr_nI (hal i cF) (by omega), Option.bind_some, rd_nI (by omega) (by omega), Option.bind_some, gl_eq, gl_eq]
        show ∃ Y, X7_takeFacts_L13 al N _ fu s 12 (nI i + 1) _ = some (0, Y) ∧ _
        rw [zn_a1]
        refine ih _ ⟨fun k p j hk => ?_, ?_, fun t f ht => ?_, fun j => ?_⟩
        · rw [mset_at, if_neg (by omega), mset_at, if_neg (by omega), y1 k p j hk]
        · rw [mset_same, mset_at, if_neg (by omega), y2, zn_a1, el, List.length_append]
          rfl
        · rw [mset_at, if_neg (by omega), mset_at]
          rw [el] at ht
          by_cases ct : t = (fcl X F all i).length
          · rw [if_pos ⟨rfl, rfl, ct⟩]
            subst ct
            rw [List.getElem?_append_right (Nat.le_refl _), Nat.sub_self] at ht
            have : i = f := Option.some.inj ht
            rw [this]
          · rw [if_neg (fun z => ct z.2.2)]
            have : t < (fcl X F all i ++ [i]).length := lt_some ht
            rw [List.length_append] at this
            have e1 : [i].length = 1 := rfl
            rw [List.getElem?_append_left (by omega)] at ht
            exact y3 t f ht
        · rw [mset_at, if_neg (by omega), mset_at]
          by_cases cj : j = (fcl X F all i).length
          · rw [if_pos ⟨rfl, rfl, cj⟩]
            exact Or.inr ⟨i, cF, rfl⟩
          · rw [if_neg (fun z => cj z.2.2)]
            exact y4 j
      rw [if_pos cF, if_neg (zn_nn (by omega)), dr_nI (hal i cF) (by omega), Option.bind_some, e6, e5, e0]
      by_cases c6 : X 67 0 i = 0
      · rw [if_pos c6]
        exact skip fun q => q.2.1 c6
      · rw [if_neg c6]
        by_cases c5 : X 66 0 i = 0
        · rw [if_pos c5]
          cases all with
          | false =>
            rw [show (if (false = true) then (1 : Int32) else 0) = 0 from if_neg (by decide), if_pos rfl]
            exact skip fun q => q.2.2.elim (fun z => by cases z) (fun z => z c5)
          | true =>
            rw [show (if (true = true) then (1 : Int32) else 0) = 1 from if_pos rfl, if_neg (by decide)]
            exact put ⟨cF, c6, Or.inl rfl⟩
        · rw [if_neg c5]
          exact put ⟨cF, c6, Or.inr c5⟩
    · rw [if_neg cF, if_pos (by decide)]
      exact skip fun q => cF q.1
  · rintro fu y ⟨y1, y2, y3, y4⟩
    show ∃ Y, X7_takeFacts_L13 al N (fun Y => X7_takeFacts_J98 al N Y) (fu + 1) s 12 (nI 12) y = some (0, Y) ∧ _
    unfold X7_takeFacts_L13
    rw [if_pos (by decide)]
    subst hR
    exact ⟨y, rfl, y1, y2, y3, y4⟩
/-- what a survey may change -/
def sv (s : Nat) (X Y : gM) : Prop := ∀ k p j, ¬ (p = s ∧ (k = 15 ∨ k = 16 ∨ k = 17 ∨ k = 18 ∨ k = 20 ∨ (k = 14 ∧ (j = 2 ∨ j = 3 ∨ j = 8 ∨ j = 9 ∨ j = 10)))) → Y k p j = X k p j
theorem make_eq {NL : List (Nat × Nat)} {N L F D W K s b : Nat} {X : gM} (hN : 1000 ≤ N) (g1 : jN NL L F W K X) (g2 : jL L X) (g6 : jB L X) (g7 : jF L F X) (g12 : jS L F X) (hs : s < 6) (hb : s / 3 = b) :
    ∃ Y, X7_make (gal NL) N s b X = some (0, Y) ∧ sv s X Y ∧ Y 14 s 2 = 1 ∧ Y 14 s 9 = nI b ∧ (∀ j, Y 18 s j = X 18 s j ∨ ∃ f, f < F ∧ Y 18 s j = nI f) ∧ svOK L F Y s := by
  have hb2 : b < 2 := by omega
  obtain ⟨hL, -, -, -, hlv⟩ := g2
  obtain ⟨-, hq⟩ := g6
  obtain ⟨sh, sh1, sh4, h53, h120, h122, hm6, -, h13⟩ := hq b hb2
  obtain ⟨hF, -, -, h22, hfc⟩ := g7
  obtain ⟨q0, q1, -, q21, -, -, -⟩ := g12 s hs
  generalize hls : lvs (X 44 0) b L = ls at hm6 h122 h13
  have hlm : ∀ l, l ∈ ls ↔ l < L ∧ X 44 0 l = nI b := fun l => by rw [← hls]; exact lvs_mem
  have hl10 : ∀ l ∈ ls, l < 10 := fun l hl => by
    have := ((hlm l).mp hl).1
    omega
  unfold X7_make
  rw [gl_eq, gl_eq, gl_eq, gl_eq, gl_eq, rn_some (by omega : b < 2147483648), Option.bind_some, gl_eq]
  generalize hX11 : mset (mfill (mfill (mfill (mfill (mset X 14 s 3 0) 15 s 10 0) 16 s 100 0) 17 s 120 0) 20 s 10 (-1)) 14 s 9 (nI b) = X11
  have e11 : ∀ k p j, ¬ (p = s ∧ (k = 15 ∨ k = 16 ∨ k = 17 ∨ k = 20 ∨ (k = 14 ∧ (j = 3 ∨ j = 9)))) → X11 k p j = X k p j := fun k p j hk => by
    rw [← hX11, mset_at, if_neg (by omega), mfill_at, if_neg (by omega), mfill_at, if_neg (by omega), mfill_at, if_neg (by omega), mfill_at, if_neg (by omega), mset_at, if_neg (by omega)]
  have e11a : ∀ j, j < 10 → X11 15 s j = 0 := fun j hj => by
    rw [← hX11, mset_at, if_neg (by omega), mfill_at, if_neg (by omega), mfill_at, if_neg (by omega), mfill_at, if_neg (by omega), mfill_at, if_pos ⟨rfl, rfl, hj⟩]
  have e11b : ∀ j, j < 100 → X11 16 s j = 0 := fun j hj => by
    rw [← hX11, mset_at, if_neg (by omega), mfill_at, if_neg (by omega), mfill_at, if_neg (by omega), mfill_at, if_pos ⟨rfl, rfl, hj⟩]
  have e11c : ∀ j, j < 120 → X11 17 s j = 0 := fun j hj => by
    rw [← hX11, mset_at, if_neg (by omega), mfill_at, if_neg (by omega), mfill_at, if_pos ⟨rfl, rfl, hj⟩]
  have e11d : ∀ j, j < 10 → X11 20 s j = -1 := fun j hj => by
    rw [← hX11, mset_at, if_neg (by omega), mfill_at, if_pos ⟨rfl, rfl, hj⟩]
  have e11e : X11 14 s 3 = 0 := by
    rw [← hX11, mset_at, if_neg (by omega), mfill_at, if_neg (by omega), mfill_at, if_neg (by omega), mfill_at, if_neg (by omega), mfill_at, if_neg (by omega), mset_same]
  have e11f : X11 14 s 9 = nI b := by rw [← hX11, mset_same]
  have hP : (if (8 : Int32) < 2 * X11 12 b 0 then (8 : Int32) else 2 * X11 12 b 0) = nI (2 * sh) := by
    rw [e11 12 b 0 (by omega), h120, zn_lmul]
    show (if (8 : Int32) < nI (2 * sh) then (8 : Int32) else nI (2 * sh)) = nI (2 * sh)
    rw [if_neg]
    intro q
    have := (zn_llt (k := 8) (by omega) (by decide)).mp q
    have e8 : (OfNat.ofNat 8 : Nat) = 8 := rfl
    omega
  rw [gl_eq, hP, gl_eq]
  have e17 : ∀ k p j, ¬ (p = s ∧ k = 14 ∧ j = 10) → (mset X11 14 s 10 (nI (2 * sh))) k p j = X11 k p j := fun k p j hk => by rw [mset_at, if_neg (by omega)]
  have h1410 : (mset X11 14 s 10 (nI (2 * sh))) 14 s 10 = nI (2 * sh) := mset_same ..
  generalize mset X11 14 s 10 (nI (2 * sh)) = X17 at e17 h1410
  have e17x : ∀ k p j, ¬ (p = s ∧ (k = 15 ∨ k = 16 ∨ k = 17 ∨ k = 20 ∨ (k = 14 ∧ (j = 3 ∨ j = 9 ∨ j = 10)))) → X17 k p j = X k p j := fun k p j hk => by rw [e17 k p j (by omega), e11 k p j (by omega)]
  have hal23 : ∀ f, f < F → gal NL 23 f = true := fun f hf => gal_al g1 hf
  obtain ⟨X20, t1, t2, t3, t4, t5⟩ := takeFacts_eq (al := gal NL) (N := N) (s := s) (F := F) (X := X17) (all := decide (s % 3 = 1)) hN hF (fun j => by rw [e17x 22 0 j (by omega), h22]) hal23 (fun f hf => by
    obtain ⟨k, a, o, b', -, -, -, -, -, -, -, -, -, -, -, -, -, -, r5, r6, -⟩ := hfc f hf
    rw [e17x 23 f 5 (by omega), e17x 23 f 6 (by omega), e17x 66 0 f (by omega), e17x 67 0 f (by omega)]
    exact ⟨r5, r6⟩) (by
    rw [e17x 14 s 0 (by omega), q0]
    by_cases c : s % 3 = 1
    · rw [if_pos c, decide_eq_true c]; rfl
    · rw [if_neg c, decide_eq_false c]; rfl)
  rw [t1, bind2_some]
  have e20 : ∀ k p j, ¬ (p = s ∧ (k = 15 ∨ k = 16 ∨ k = 17 ∨ k = 18 ∨ k = 20 ∨ (k = 14 ∧ (j = 3 ∨ j = 8 ∨ j = 9 ∨ j = 10)))) → X20 k p j = X k p j := fun k p j hk => by rw [t2 k p j (by omega), e17x k p j (by omega)]
  have e122 : X20 12 b 2 = nI ls.length := by rw [e20 12 b 2 (by omega), h122]
  generalize hfl : fcl X17 F (decide (s % 3 = 1)) 12 = fl at t3 t4
  have hB0 : sB (gal NL) X20 s b F (2 * sh) ls fl (decide (s % 3 = 1)) (decide (s % 3 = 2)) := by
    refine ⟨⟨hm6, hl10, hls ▸ lvs_nodup _ _ _, by omega, by omega⟩, ⟨fun j => ?_, fun l hl => ?_⟩, ⟨gal_al g1 hb2, hb2, ?_, ?_, ?_, fun h => ?_⟩, ⟨t3, ?_, ?_, t4, hF, fun f => ?_⟩, fun f hf => ?_⟩
    · rw [e20 13 b j (by omega), h13]
    · have hlL := ((hlm l).mp hl).1
      obtain ⟨b', ln, w, r1, r2, r3, r4, r5, r6, r7, r8, r9, r10, r11, r12, r13, r14, r15, r16, r17, -⟩ := hlv l hlL
      rw [e20 5 l 0 (by omega), e20 5 l 5 (by omega), e20 5 l 6 (by omega), e20 47 0 l (by omega), e20 48 0 l (by omega)]
      exact ⟨gal_al g1 hlL, r9, r15, r17, r16⟩
    · rw [t2 14 s 9 (by omega), e17 14 s 9 (by omega), e11f]
    · rw [t2 14 s 10 (by omega), h1410]
    · rw [e20 14 s 1 (by omega), q1]
      by_cases c : s % 3 = 2
      · rw [if_pos c, decide_eq_true c]; rfl
      · rw [if_neg c, decide_eq_false c]; rfl
    · rw [decide_eq_true_eq] at h
      exact decide_eq_false (by omega)
    · rw [← hfl]; exact fcl_len _ _ _ _
    · rw [← hfl]; exact fcl_nd _ _ _ _
    · rw [← hfl, fcl_mem, e20 67 0 f (by omega), e20 66 0 f (by omega), e17x 67 0 f (by omega), e17x 66 0 f (by omega)]
      constructor
      · rintro ⟨-, q⟩; exact q
      · intro q; exact ⟨by omega, q⟩
    · obtain ⟨k, a, o, b', r1, r2, r3, r4, r5, r6, r7, r8, r9, w0, w1, w2, w3, w4, -⟩ := hfc f hf
      rw [e20 63 0 f (by omega), e20 64 0 f (by omega), e20 65 0 f (by omega), e20 23 f 0 (by omega), e20 23 f 2 (by omega), e20 23 f 3 (by omega), e20 23 f 4 (by omega)]
      refine ⟨k, a, o, r1, by omega, ?_, r5, r6, r7, fun ha hk => ?_, fun hk ho => ?_, hal23 f hf, w0, w2, w3, w4⟩
      · by_cases hk : k = 3
        · have := r8 hk; omega
        · have := (r9 hk).1; omega
      · obtain ⟨z1, z2, z3⟩ := r9 hk
        have hab := ((hlm a).mp ha).2
        exact (hlm o).mpr ⟨z1, by rw [z3, ← r4, hab]⟩
      · obtain ⟨z1, z2, z3⟩ := r9 hk
        have hob := ((hlm o).mp ho).2
        exact (hlm a).mpr ⟨r2, by rw [r4, ← z3, hob]⟩
  have efl : (ls.filter (fun l => !((fun _ => false : Nat → Bool) l))).length = ls.length := by
    congr 1
    exact List.filter_eq_self.mpr (fun _ _ => rfl)
  have f0 : ∀ (P' : (Nat → Nat) → Prop) V, (∀ b, ¬ V b) → nO (2 * sh) ls P' V = 0 := fun P' V h => nO_none fun b _ hV => absurd hV (h b)
  obtain ⟨Y, y1, y2, y3, y4, y5⟩ := seek_all hN hB0 10 0 (by omega) (by omega) X20 (fun _ => false) a00 0 0 (-1) (fun _ => False) fs.rfl
    ⟨fun l hl => by rw [t2 20 s l (by omega), e17 20 s l (by omega), e11d l (hl10 l hl)]; rfl, fun p _ => Or.inr ⟨by rw [e20 21 s p (by omega), q21], fun l hl => (by cases hl)⟩, fun l hl => (by cases hl), fun i j hi => (by cases hi), fun _ _ => rfl⟩
    ⟨fun h _ => by rw [b_0]; exact ⟨fun q => (by cases q), fun ⟨i, q, _⟩ => (by cases q)⟩, fun h _ => by rw [b_0]; exact ⟨fun q => (by cases q), fun ⟨i, j, q, _⟩ => (by cases q)⟩⟩
    ⟨fun h _ i hi => (by cases hi), fun i hi => (by cases hi)⟩ (Or.inl ⟨rfl, fun f ⟨_, ⟨k, x, o, _, _, _, _, _, _, q, _⟩, _⟩ => (by cases q)⟩)
    ⟨by rw [f0 _ _ (fun _ => id), t2 14 s 3 (by omega), e17 14 s 3 (by omega), e11e]; rfl, fun i hi v _ => by
      rw [f0 _ _ (fun _ q => q.1), t2 15 s i (by omega), e17 15 s i (by omega), e11a i (hl10 i hi), mb_bt, b_0]
      exact ⟨fun q => (by cases q), fun q => absurd rfl q⟩, fun i hi j hj _ => by
      have := hl10 i hi
      have := hl10 j hj
      rw [f0 _ _ (fun _ q => q.1), t2 16 s _ (by omega), e17 16 s _ (by omega), e11b _ (by omega)]; rfl, fun _ g hg i hi v _ => by
      have := hl10 i hi
      rw [f0 _ _ (fun _ q => q.1), t2 17 s _ (by omega), e17 17 s _ (by omega), e11c _ (by omega), mb_bt, b_0]
      exact ⟨fun q => (by cases q), fun q => absurd rfl q⟩⟩ (fun b _ q => q.elim)
  rw [efl] at y1
  have y1' : X7_seek (gal NL) N 10 s 0 (X20 12 b 2) 0 0 (-1) X20 = some (0, Y) := by rw [e122]; exact y1
  rw [y1', bind2_some, gl_eq]
  have eY : ∀ k p j, ¬ (p = s ∧ (k = 15 ∨ k = 16 ∨ k = 17 ∨ k = 18 ∨ k = 20 ∨ (k = 14 ∧ (j = 3 ∨ j = 8 ∨ j = 9 ∨ j = 10)))) → Y k p j = X k p j := fun k p j hk => by
    by_cases c : p = s ∧ k = 21
    · obtain ⟨rfl, rfl⟩ := c
      rw [y4, e20 21 p j (by omega)]
    · rw [y2 k p j (by omega), e20 k p j hk]
  have eYY : ∀ k p j, ¬ (p = s ∧ k = 14 ∧ j = 2) → (mset Y 14 s 2 1) k p j = Y k p j := fun k p j hk => by rw [mset_at, if_neg (by omega)]
  refine ⟨mset Y 14 s 2 1, rfl, fun k p j hk => ?_, mset_same .., ?_, fun j => ?_, ?_⟩
  · rw [eYY k p j (by omega), eY k p j (by omega)]
  · rw [eYY 14 s 9 (by omega), y2 14 s 9 (by omega), t2 14 s 9 (by omega), e17 14 s 9 (by omega), e11f]
  · rw [eYY 18 s j (by omega), y2 18 s j (by omega)]
    rcases t5 j with z | z
    · rw [z, e17x 18 s j (by omega)]
      exact Or.inl rfl
    · exact Or.inr z
  · have e0 : ∀ k j, k ≠ 14 → k ≤ 13 ∨ 22 ≤ k → (mset Y 14 s 2 1) k 0 j = X20 k 0 j := fun k j h1 h2 => by rw [eYY k 0 j (by omega), y2 k 0 j (by omega)]
    have e44 : (mset Y 14 s 2 1) 44 0 = X 44 0 := funext fun j => by rw [eYY 44 0 j (by omega), eY 44 0 j (by omega)]
    have fe : ∀ all wo a, fit (mset Y 14 s 2 1) F (2 * sh) ls all wo a ↔ fit X20 F (2 * sh) ls all wo a := fun all wo a => fit_e (fun k j h1 h2 => e0 k j (by omega) (by omega)) a
    have foe : ∀ g a, fito (mset Y 14 s 2 1) F (2 * sh) ls g a ↔ fito X20 F (2 * sh) ls g a := fun g a => fito_cg (fun a => geo_cg (fun i _ => e0 48 i (by omega) (by omega)) (fun i _ => e0 47 i (by omega) (by omega)) a) (fun f => by
      unfold cts
      rw [e0 67 f (by omega) (by omega), e0 66 f (by omega) (by omega), e0 64 f (by omega) (by omega)]) (fun f a _ => brk_cg (e0 63 f (by omega) (by omega)) (e0 64 f (by omega) (by omega)) (e0 65 f (by omega) (by omega)) a) g a
    have oall : ∀ b, Oq ls (fun _ => false) a00 0 b := fun b => ⟨fun l _ h => (by cases h), fun l _ _ => Nat.zero_le _⟩
    have hV : ∀ (Ψ Ψ' R : (Nat → Nat) → Prop), (∀ b, Ψ b ↔ Ψ' b) → nO (2 * sh) ls Ψ' (fun b => (False ∨ Oq ls (fun _ => false) a00 0 b) ∧ R b) = nc (2 * sh) (fun a => Ψ a ∧ R a) ls a00 := fun Ψ Ψ' R h => nc_cgv ls _ fun b _ => by
      constructor
      · rintro ⟨z1, -, z2⟩
        exact ⟨(h b).mpr z1, z2⟩
      · rintro ⟨z1, z2⟩
        exact ⟨(h b).mp z1, Or.inr (oall b), z2⟩
    have hV0 : ∀ (Ψ Ψ' : (Nat → Nat) → Prop), (∀ b, Ψ b ↔ Ψ' b) → nO (2 * sh) ls Ψ' (fun b => False ∨ Oq ls (fun _ => false) a00 0 b) = nc (2 * sh) Ψ ls a00 := fun Ψ Ψ' h => nc_cgv ls _ fun b _ => by
      constructor
      · rintro ⟨z1, -⟩
        exact (h b).mpr z1
      · intro z1
        exact ⟨(h b).mp z1, Or.inr (oall b)⟩
    obtain ⟨a1, a2, a3, a4⟩ := y5
    intro P ls' hP4 hP5 hls'
    rw [e44, hb, hls] at hls'
    subst hls'
    rw [hb] at hP5
    have hPs : P = sh := by
      rw [eYY 53 0 b (by omega), eY 53 0 b (by omega), h53] at hP5
      exact ((zn_eq (by omega) (by omega)).mp hP5).symm
    subst hPs
    refine ⟨?_, fun i hi v hv => ?_, fun i hi j hj hij => ?_, fun h2 g hg i hi v hv => ?_⟩
    · rw [eYY 14 s 3 (by omega), a1, hV0 _ _ (fe _ _)]
    · rw [eYY 15 s i (by omega), a2 i hi v hv, hV _ _ (fun b => b i = v) (fe _ _)]
    · rw [eYY 16 s _ (by omega), a3 i hi j hj hij, hV _ _ (fun b => b i + b j + 1 = 2 * P) (fe _ _)]
    · rw [eYY 17 s _ (by omega), a4 (decide_eq_true h2) g hg i hi v hv, hV _ _ (fun b => b i = v) (foe g)]
