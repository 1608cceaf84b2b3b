/-! which letters stand in the best readings: the sheets -/
section
variable {m W : Nat} {bl : Nat → Bool} {G : Nat → Nat → Nat} {gn : Nat → Nat} {wl : Nat → Nat} {wd : Nat → Nat → Nat} {al : Nat → Nat → Bool} {N : Nat}
/-- the sheets' row says what is meant -/
def rsR (m : Nat) (S : (Nat → Option Nat) × (Nat → Int32)) (Y : gM) : Prop := ∀ c, c ≤ m → Y 69 0 c = enc (S.1 c)
theorem enc_mxs {o : Option Nat} {v : Nat} (ho : ∀ u, o = some u → u < 2147483648) (hv : v < 2147483648) : (if nI v ≤ enc o then enc o else nI v) = nI (mxo o v) := by
  unfold mxo
  cases o with
  | none => exact if_neg (by
      show ¬ nI v ≤ (-1 : Int32)
      rw [Int32.le_iff_toInt_le, zn_tI hv]
      have : (-1 : Int32).toInt = -1 := rfl
      omega)
  | some u =>
    have := ho u rfl
    show (if nI v ≤ nI u then nI u else nI v) = nI (if u < v then v else u)
    by_cases c : u < v
    · rw [if_neg (fun q => by have := (zn_le (by omega) (by omega)).mp q; omega), if_pos c]
    · rw [if_pos ((zn_le hv (by omega)).mpr (by omega)), if_neg c]
theorem let_words {B : Nat → Option Nat} {B0 p x : Nat} {S : (Nat → Option Nat) × (Nat → Int32)} {Y : gM} (hN : 1000 ≤ N) (g : ldM m W bl G gn wl wd Y) (hB : bhP m W bl G gn wl wd B) (hB0 : B0 ≤ 648) (hBb : ∀ c g, c ≤ m → B c = some g → g ≤ 648) (h0 : B 0 = some B0) (h68 : ∀ c, c ≤ m → Y 68 0 c = enc (B c)) (hp : p < m) (hx : x < m) (hS : gaI B B0 S) (hb : bl p = false) (hn : S.1 p ≠ none) (hR : rsR m S Y)
    (k : Int32 → Int32 → Int32 → Int32 → gM → Option (Int32 × gM)) (Q : Option (Int32 × gM) → Prop)
    (hQ : ∀ Z, (∀ k q j, ¬ (q = 0 ∧ k = 69) → Z k q j = Y k q j) → rsR m (gaL m bl G gn wl wd B B0 p S W) Z → Q (k (nI x) (nI m) ((gaL m bl G gn wl wd B B0 p S W).2 x) (nI p) Z)) : Q (X10_lettersOf_L109 al N k N (nI x) (nI m) (S.2 x) (nI p) 0 Y) := by
  obtain ⟨g1, g2, g3, g4, g5, g6⟩ := id g
  have hwd : ∀ w, w < W → 1 ≤ wl w ∧ ∀ k, k < wl w → wd w k < 26 := fun w hw => by
    obtain ⟨q1, q2, q3, q4⟩ := g6 w hw
    exact ⟨q1, fun k hk => (q4 k hk).1⟩
  refine m_up0 W (fun fu w (s : Int32 × gM) => X10_lettersOf_L109 al N k fu (nI x) (nI m) s.1 (nI p) w s.2)
    (fun w s => s.1 = (gaL m bl G gn wl wd B B0 p S w).2 x ∧ (∀ k q j, ¬ (q = 0 ∧ k = 69) → s.2 k q j = Y k q j) ∧ rsR m (gaL m bl G gn wl wd B B0 p S w) s.2) Q (S.2 x, Y) (by omega) ?_ ?_ ⟨rfl, fun _ _ _ _ => rfl, hR⟩
  · rintro w fu ⟨mk, y⟩ hw ⟨h1, h2, h3⟩ ih
    simp only at h1 h2 h3
    subst h1
    obtain ⟨i1, i2, i3, -⟩ := gaL_st m W bl G gn wl wd B B0 hB hwd hp hb hS w (by omega)
    have eW : gaL m bl G gn wl wd B B0 p S (w + 1) = gaW m bl G gn wl wd B B0 p w (gaL m bl G gn wl wd B B0 p S w) := rfl
    rw [← i3] at hn
    generalize gaL m bl G gn wl wd B B0 p S w = T at h3 i1 hn eW ih
    have gy : ldM m W bl G gn wl wd y := ldM_cg (fun k q j hk => h2 k q j (by omega)) g
    obtain ⟨q1, q2, q3, q4⟩ := gy.2.2.2.2.2 w hw
    obtain ⟨a, ha⟩ : ∃ a, T.1 p = some a := by
      cases h : T.1 p with
      | none => exact absurd h hn
      | some a => exact ⟨a, rfl⟩
    obtain ⟨b, k1, k2⟩ := i1.1 p a ha
    have e69 : y 69 0 p = nI a := by rw [h3 p (by omega), ha]; rfl
    have e72 : y 72 0 p = 0 := by rw [(gy.2.2.2.1 p hp).1, hb]; rfl
    have e17 : y 43 0 17 = nI W := gy.1
    have nW : ¬ nI W ≤ nI w := fun q => by
      have := (zn_le (by omega) (by omega)).mp q
      omega
    have same : gaW m bl G gn wl wd B B0 p w T = T → Q (X10_lettersOf_J302 al N (X10_lettersOf_L109 al N k fu) k (nI x) (nI m) (T.2 x) (nI p) (nI w) y) := fun e => by
      show Q (X10_lettersOf_L109 al N k fu (nI x) (nI m) (T.2 x) (nI p) (nI w + 1) y)
      rw [zn_a1]
      refine ih (_, y) ⟨?_, h2, ?_⟩
      · show T.2 x = (gaL m bl G gn wl wd B B0 p S (w + 1)).2 x
        rw [eW, e]
      · rw [eW, e]
        exact h3
    show Q (X10_lettersOf_L109 al N k (fu + 1) (nI x) (nI m) (T.2 x) (nI p) (nI w) y)
    unfold X10_lettersOf_L109
    rw [e17, if_neg nW, rd_nI (by omega) (by omega), Option.bind_some, e69, if_neg (zn_ne1 (by omega)), rd_nI (by omega) (by omega), Option.bind_some, e72, if_pos rfl, X10_weightAt_eq hN gy hw hp, bind2_some, rd_nI (by omega) (by omega), Option.bind_some, q3, zn_add, gl_eq]
    cases hf : fitW m bl G gn wl wd w p with
    | none =>
      rw [if_pos (show enc none = -1 from rfl)]
      refine same ?_
      unfold gaW
      rw [hf, ha]
    | some f =>
      have hfl := fitF_le m bl G gn wd g5 w p (wl w) 0 f hf
      have hpw := hfl.2 (by omega)
      have hsp : p + 0 + wl w = p + wl w := by omega
      rw [hsp] at hpw
      have e68v : y 68 0 (p + wl w) = enc (B (p + wl w)) := by rw [h2 68 0 _ (by omega)]; exact h68 _ hpw
      have e680 : y 68 0 0 = nI B0 := by rw [h2 68 0 0 (by omega), h68 0 (by omega), h0]; rfl
      have en : ¬ enc (some f) = -1 := zn_ne1 (by omega)
      rw [if_neg en, rd_nI (by omega) (by omega), Option.bind_some, e68v]
      cases hg : B (p + wl w) with
      | none =>
        rw [if_pos (show enc none = -1 from rfl)]
        refine same ?_
        unfold gaW
        rw [hf, ha, hg]
      | some gg =>
        have hg648 := hBb _ gg hpw hg
        obtain ⟨b', k3, k4⟩ := hB.2.2.1 p w f gg hp hb hw hf hg
        have hbb : b = b' := Option.some.inj (k1.symm.trans k3)
        have en2 : ¬ enc (some gg) = -1 := zn_ne1 (by omega)
        have eS : gaW m bl G gn wl wd B B0 p w T = (fun x => if x = p + wl w then some (mxo (T.1 (p + wl w)) (a + f)) else T.1 x, fun x => if a + f + gg = B0 ∧ p ≤ x ∧ x < p + wl w then T.2 x ||| ((1 : Int32) <<< (nI (wd w (x - p)) &&& 31)) else T.2 x) := by
          unfold gaW
          rw [ha, hf, hg]
        have e0 : (rd (0 : Int32) 9) = some 0 := rd_nI (a := 0) (by omega) (by omega)
        have esum : nI a + enc (some f) + enc (some gg) = nI (a + f + gg) := by
          show nI a + nI f + nI gg = _
          rw [zn_add, zn_add]
        have eqi : nI (a + f + gg) = nI B0 ↔ a + f + gg = B0 := zn_eq (by omega) (by omega)
        have hub : ∀ u, T.1 (p + wl w) = some u → u < 2147483648 := fun u hu => by
          obtain ⟨g2, -, k⟩ := i1.1 _ u hu
          omega
        have emx := enc_mxs (v := a + f) hub (by omega)
        have last : ∀ s1 : Int32, T.2 x ||| s1 = (gaW m bl G gn wl wd B B0 p w T).2 x → Q (X10_lettersOf_J253 al N (X10_lettersOf_L109 al N k fu) k (nI x) (nI m) (nI p) (nI w) (nI f) (nI (p + wl w)) (T.2 x) s1 y) := fun s1 hs1 => by
          unfold X10_lettersOf_J253
          have eaf : y 69 0 p + nI f = nI (a + f) := by rw [e69, zn_add]
          have e69v : y 69 0 (p + wl w) = enc (T.1 (p + wl w)) := h3 _ hpw
          have fin : ∀ v : Int32, v = nI (mxo (T.1 (p + wl w)) (a + f)) → Q (X10_lettersOf_J301 al N (X10_lettersOf_L109 al N k fu) k (nI x) (nI m) (T.2 x ||| s1) (nI p) (nI w) (nI (p + wl w)) v y) := fun v hv => by
            unfold X10_lettersOf_J301
            rw [rd_nI (by omega) (by omega), Option.bind_some, gl_eq]
            show Q (X10_lettersOf_L109 al N k fu (nI x) (nI m) (T.2 x ||| s1) (nI p) (nI w + 1) (mset y 69 0 (p + wl w) v))
            rw [zn_a1]
            refine ih (_, _) ⟨?_, fun k q j hk => ?_, fun c hc => ?_⟩
            · show T.2 x ||| s1 = (gaL m bl G gn wl wd B B0 p S (w + 1)).2 x
              rw [eW, hs1]
            · show mset y 69 0 (p + wl w) v k q j = _
              rw [mset_at, if_neg (by omega), h2 k q j hk]
            · show mset y 69 0 (p + wl w) v 69 0 c = _
              rw [eW, eS, mset_at]
              show _ = enc (if c = p + wl w then some (mxo (T.1 (p + wl w)) (a + f)) else T.1 c)
              by_cases cc : c = p + wl w
              · rw [if_pos ⟨rfl, rfl, cc⟩, if_pos cc, hv]
                rfl
              · rw [if_neg (fun z => cc z.2.2), if_neg cc, h3 c hc]
          rw [gl_eq, rd_nI (by omega) (by omega), Option.bind_some, rd_nI (by omega) (by omega), Option.bind_some, eaf, e69v]
          by_cases c1 : nI (a + f) ≤ enc (T.1 (p + wl w))
          · rw [if_pos c1] at emx
            rw [if_pos c1, Option.bind_some, e69v]
            exact fin _ emx
          · rw [if_neg c1, Option.bind_some, eaf]
            rw [if_neg c1] at emx
            exact fin _ emx
        have no : ¬ (a + f + gg = B0 ∧ p ≤ x ∧ x < p + wl w) → Q (X10_lettersOf_J252 al N (X10_lettersOf_L109 al N k fu) k (nI x) (nI m) (nI p) (nI w) (nI f) (nI (p + wl w)) (T.2 x) y) := fun hc => by
          unfold X10_lettersOf_J252
          refine last 0 ?_
          rw [eS]
          show _ = if a + f + gg = B0 ∧ p ≤ x ∧ x < p + wl w then _ else _
          rw [if_neg hc, Int32.or_zero]
        rw [if_neg en2, Option.bind_some, Option.bind_some, e0, Option.bind_some, e69, e68v, hg, e680, esum]
        by_cases c1 : a + f + gg = B0
        · rw [if_pos (eqi.mpr c1)]
          unfold X10_lettersOf_J211
          have ein : (nI p ≤ nI x ∧ nI x ≤ nI (p + wl w) - 1) ↔ (p ≤ x ∧ x < p + wl w) := by
            rw [le_pred (by omega), zn_le (by omega) (by omega), zn_lt (by omega) (by omega)]
          rw [if_neg (by decide), X10_in_eq, bind2_some]
          by_cases c2 : p ≤ x ∧ x < p + wl w
          · have eix : (8 : Int32) * nI w + nI x - nI p = nI (8 * w + (x - p)) := by
              rw [zn_lmul, zn_add, zn_sub (by show p ≤ 8 * w + x; omega)]
              show nI (8 * w + x - p) = _
              congr 1
              omega
            rw [if_pos (ein.mpr c2), if_neg (by decide), eix, rd_nI (by omega) (by omega), Option.bind_some, (q4 (x - p) (by omega)).2]
            refine last _ ?_
            rw [eS]
            show _ = if a + f + gg = B0 ∧ p ≤ x ∧ x < p + wl w then _ else _
            rw [if_pos ⟨c1, c2⟩]
          · rw [if_neg (mt ein.mp c2), if_pos rfl]
            exact no fun z => c2 z.2
        · rw [if_neg (mt eqi.mp c1)]
          unfold X10_lettersOf_J211
          rw [if_pos rfl]
          exact no fun z => c1 z.1
  · rintro fu ⟨mk, y⟩ ⟨h1, h2, h3⟩
    simp only at h1 h2 h3
    subst h1
    have gy : ldM m W bl G gn wl wd y := ldM_cg (fun k q j hk => h2 k q j (by omega)) g
    show Q (X10_lettersOf_L109 al N k (fu + 1) (nI x) (nI m) _ (nI p) (nI W) y)
    unfold X10_lettersOf_L109
    rw [gy.1, if_pos (Int32.le_refl _)]
    exact hQ y h2 h3
theorem lettersOf_eq {B : Nat → Option Nat} {B0 x : Nat} {Y : gM} (hN : 1000 ≤ N) (g : ldM m W bl G gn wl wd Y) (hB : bhP m W bl G gn wl wd B) (hB0 : B0 ≤ 648) (hBb : ∀ c g, c ≤ m → B c = some g → g ≤ 648) (h0 : B 0 = some B0) (h68 : ∀ c, c ≤ m → Y 68 0 c = enc (B c)) (hx : x < m) :
    ∃ Z, X10_lettersOf al N (nI x) (nI m) Y = some ((gaT m W bl G gn wl wd B B0 m).2 x, Z) ∧ (∀ k q j, ¬ (q = 0 ∧ k = 69) → Z k q j = Y k q j) := by
  obtain ⟨g1, g2, g3, g4, g5, g6⟩ := id g
  have hwd : ∀ w, w < W → 1 ≤ wl w ∧ ∀ k, k < wl w → wd w k < 26 := fun w hw => by
    obtain ⟨q1, q2, q3, q4⟩ := g6 w hw
    exact ⟨q1, fun k hk => (q4 k hk).1⟩
  have hfl : ∀ p w f, w < W → fitW m bl G gn wl wd w p = some f → p + wl w ≤ m := fun p w f hw hf => by
    have := (fitF_le m bl G gn wd g5 w p (wl w) 0 f hf).2 (by have := (hwd w hw).1; omega)
    omega
  have e0 : (rd (0 : Int32) 9) = some 0 := rd_nI (a := 0) (by omega) (by omega)
  unfold X10_lettersOf
  refine m_up0 (m + 1) (fun fu i (y : gM) => X10_lettersOf_L2 al N (fun p1 p2 Y => X10_lettersOf_J20 al N p1 p2 Y) fu (nI x) (nI m) i y)
    (fun i y => (∀ k q j, ¬ (q = 0 ∧ k = 69) → y k q j = Y k q j) ∧ ∀ c, c < i → y 69 0 c = -1) (fun o => ∃ Z, o = some ((gaT m W bl G gn wl wd B B0 m).2 x, Z) ∧ (∀ k q j, ¬ (q = 0 ∧ k = 69) → Z k q j = Y k q j)) Y (by omega) ?_ ?_ ⟨fun _ _ _ _ => rfl, fun c hc => absurd hc (Nat.not_lt_zero c)⟩
  · rintro i fu y hi ⟨y1, y2⟩ ih
    have n1 : ¬ nI m < nI i := fun q => by
      have := (zn_lt (by omega) (by omega)).mp q
      omega
    show ∃ Z, X10_lettersOf_L2 al N (fun p1 p2 Y => X10_lettersOf_J20 al N p1 p2 Y) (fu + 1) (nI x) (nI m) (nI i) y = some (_, Z) ∧ _
    unfold X10_lettersOf_L2
    rw [if_neg n1, rd_nI (by omega) (by omega), Option.bind_some, gl_eq, gl_eq, zn_a1]
    refine ih _ ⟨fun k q j hk => by rw [mset_at, if_neg (by omega), y1 k q j hk], fun c hc => ?_⟩
    rw [mset_at]
    by_cases cc : c = i
    · rw [if_pos ⟨rfl, rfl, cc⟩]
    · rw [if_neg (fun z => cc z.2.2)]
      exact y2 c (by have : c < i + 1 := hc; omega)
  · rintro fu y ⟨y1, y2⟩
    show ∃ Z, X10_lettersOf_L2 al N (fun p1 p2 Y => X10_lettersOf_J20 al N p1 p2 Y) (fu + 1) (nI x) (nI m) (nI (m + 1)) y = some (_, Z) ∧ _
    unfold X10_lettersOf_L2
    rw [if_pos ((zn_lt (by omega) (by omega)).mpr (by omega))]
    show ∃ Z, X10_lettersOf_J20 al N (nI x) (nI m) y = some (_, Z) ∧ _
    unfold X10_lettersOf_J20
    rw [e0, Option.bind_some, gl_eq]
    have r0 : rsR m (gaT m W bl G gn wl wd B B0 0) (mset y 69 0 0 0) := fun c hc => by
      show _ = enc (if c = 0 then some 0 else none)
      rw [mset_at]
      by_cases cc : c = 0
      · rw [if_pos ⟨rfl, rfl, cc⟩, if_pos cc]; rfl
      · rw [if_neg (fun z => cc z.2.2), if_neg cc, y2 c (by omega)]; rfl
    have f0 : ∀ k q j, ¬ (q = 0 ∧ k = 69) → (mset y 69 0 0 0) k q j = Y k q j := fun k q j hk => by rw [mset_at, if_neg (by omega), y1 k q j hk]
    refine m_up0 m (fun fu p (s : Int32 × gM) => X10_lettersOf_L32 al N (fun p3 Y => X10_lettersOf_J314 al N p3 Y) fu (nI x) (nI m) s.1 p s.2)
      (fun p s => s.1 = (gaT m W bl G gn wl wd B B0 p).2 x ∧ (∀ k q j, ¬ (q = 0 ∧ k = 69) → s.2 k q j = Y k q j) ∧ rsR m (gaT m W bl G gn wl wd B B0 p) s.2) (fun o => ∃ Z, o = some ((gaT m W bl G gn wl wd B B0 m).2 x, Z) ∧ (∀ k q j, ¬ (q = 0 ∧ k = 69) → Z k q j = Y k q j)) (0, mset y 69 0 0 0) (by omega) ?_ ?_ ⟨rfl, f0, r0⟩
    · rintro p fu ⟨mk, z⟩ hp ⟨h1, h2, h3⟩ ih
      simp only at h1 h2 h3
      subst h1
      have gz : ldM m W bl G gn wl wd z := ldM_cg (fun k q j hk => h2 k q j (by omega)) g
      have i1 := (gaT_st m W bl G gn wl wd B B0 hB hwd hfl h0 p (by omega)).1
      have eT : gaT m W bl G gn wl wd B B0 (p + 1) = gaC m W bl G gn wl wd B B0 p (gaT m W bl G gn wl wd B B0 p) := rfl
      generalize gaT m W bl G gn wl wd B B0 p = S at h3 i1 eT
      have e72 : z 72 0 p = (if bl p = true then 1 else 0) := (gz.2.2.2.1 p hp).1
      have e69 : z 69 0 p = enc (S.1 p) := h3 p (by omega)
      have nm : ¬ nI m ≤ nI p := fun q => by
        have := (zn_le (by omega) (by omega)).mp q
        omega
      have nxt : ∀ (mk : Int32) (z' : gM), mk = (gaT m W bl G gn wl wd B B0 (p + 1)).2 x → (∀ k q j, ¬ (q = 0 ∧ k = 69) → z' k q j = Y k q j) → rsR m (gaT m W bl G gn wl wd B B0 (p + 1)) z' → ∃ Z, X10_lettersOf_J308 al N (X10_lettersOf_L32 al N (fun p3 Y => X10_lettersOf_J314 al N p3 Y) fu) (fun p3 Y => X10_lettersOf_J314 al N p3 Y) (nI x) (nI m) mk (nI p) z' = some ((gaT m W bl G gn wl wd B B0 m).2 x, Z) ∧ (∀ k q j, ¬ (q = 0 ∧ k = 69) → Z k q j = Y k q j) := fun mk z' a1 a2 a3 => by
        show ∃ Z, X10_lettersOf_L32 al N (fun p3 Y => X10_lettersOf_J314 al N p3 Y) fu (nI x) (nI m) mk (nI p + 1) z' = some (_, Z) ∧ _
        rw [zn_a1]
        exact ih (mk, z') ⟨a1, a2, a3⟩
      -- a round of words that is left at once
      have out : ∀ z' : gM, (∀ k q j, ¬ (q = 0 ∧ k = 69) → z' k q j = Y k q j) → (z' 69 0 p = -1 ∨ bl p = true) → (gaT m W bl G gn wl wd B B0 (p + 1)).2 x = S.2 x → rsR m (gaT m W bl G gn wl wd B B0 (p + 1)) z' → ∃ Z, X10_lettersOf_J106 al N (X10_lettersOf_L32 al N (fun p3 Y => X10_lettersOf_J314 al N p3 Y) fu) (fun p3 Y => X10_lettersOf_J314 al N p3 Y) (nI x) (nI m) (S.2 x) (nI p) z' = some ((gaT m W bl G gn wl wd B B0 m).2 x, Z) ∧ (∀ k q j, ¬ (q = 0 ∧ k = 69) → Z k q j = Y k q j) := fun z' a1 a2 a3 a4 => by
        have gz' : ldM m W bl G gn wl wd z' := ldM_cg (fun k q j hk => a1 k q j (by omega)) g
        have e72' : z' 72 0 p = (if bl p = true then 1 else 0) := (gz'.2.2.2.1 p hp).1
        unfold X10_lettersOf_J106
        suffices hs : ∀ N2, 1 ≤ N2 → ∃ Z, X10_lettersOf_L109 al N (fun p1 p2 p3 p4 Y => X10_lettersOf_J308 al N (X10_lettersOf_L32 al N (fun p3 Y => X10_lettersOf_J314 al N p3 Y) fu) (fun p3 Y => X10_lettersOf_J314 al N p3 Y) p1 p2 p3 p4 Y) N2 (nI x) (nI m) (S.2 x) (nI p) 0 z' = some ((gaT m W bl G gn wl wd B B0 m).2 x, Z) ∧ (∀ k q j, ¬ (q = 0 ∧ k = 69) → Z k q j = Y k q j) from hs N (by omega)
        intro N2 hN2
        obtain ⟨f2, rfl⟩ : ∃ f2, N2 = f2 + 1 := ⟨N2 - 1, by omega⟩
        unfold X10_lettersOf_L109
        rw [gz'.1]
        by_cases c0 : nI W ≤ (0 : Int32)
        · rw [if_pos c0]
          exact nxt _ z' a3.symm a1 a4
        · rw [if_neg c0, rd_nI (by omega) (by omega), Option.bind_some]
          by_cases c1 : z' 69 0 p = -1
          · rw [if_pos c1]
            exact nxt _ z' a3.symm a1 a4
          · have hb : bl p = true := a2.resolve_left c1
            rw [if_neg c1, rd_nI (by omega) (by omega), Option.bind_some, e72', hb, show (if (true = true) then (1 : Int32) else 0) = 1 from if_pos rfl, if_neg (by decide)]
            exact nxt _ z' a3.symm a1 a4
      show ∃ Z, X10_lettersOf_L32 al N (fun p3 Y => X10_lettersOf_J314 al N p3 Y) (fu + 1) (nI x) (nI m) (S.2 x) (nI p) z = some (_, Z) ∧ _
      unfold X10_lettersOf_L32
      rw [if_neg nm, rd_nI (by omega) (by omega), Option.bind_some, e69]
      cases ha : S.1 p with
      | none =>
        have eC : gaT m W bl G gn wl wd B B0 (p + 1) = S := by
          rw [eT]
          unfold gaC
          cases bl p with
          | true => rw [if_pos rfl, ha]
          | false => rw [if_neg (by decide)]; exact gaL_none ha W
        rw [if_pos (show enc none = -1 from rfl)]
        exact out z h2 (Or.inl (by rw [e69, ha]; rfl)) (by rw [eC]) (by rw [eC]; exact h3)
      | some a =>
        obtain ⟨b, k1, k2⟩ := i1.1 p a ha
        have en : ¬ enc (some a) = -1 := zn_ne1 (by omega)
        rw [if_neg en, rd_nI (by omega) (by omega), Option.bind_some, e72]
        cases hb : bl p with
        | false =>
          rw [show (if (false = true) then (1 : Int32) else 0) = 0 from if_neg (by decide), if_pos rfl]
          unfold X10_lettersOf_J106
          refine let_words hN gz hB hB0 hBb h0 (fun c hc => by rw [h2 68 0 c (by omega)]; exact h68 c hc) hp hx i1 hb (by rw [ha]; exact fun q => by cases q) h3 _ (fun o => ∃ Z, o = some ((gaT m W bl G gn wl wd B B0 m).2 x, Z) ∧ (∀ k q j, ¬ (q = 0 ∧ k = 69) → Z k q j = Y k q j)) fun Z z1 z2 => ?_
          have eC : gaT m W bl G gn wl wd B B0 (p + 1) = gaL m bl G gn wl wd B B0 p S W := by
            rw [eT]
            unfold gaC
            rw [hb, if_neg (by decide)]
          exact nxt _ Z (by rw [eC]) (fun k q j hk => by rw [z1 k q j hk, h2 k q j hk]) (by rw [eC]; exact z2)
        | true =>
          have eC : gaT m W bl G gn wl wd B B0 (p + 1) = (fun x => if x = p + 1 then some (mxo (S.1 (p + 1)) a) else S.1 x, S.2) := by
            rw [eT]
            unfold gaC
            rw [hb, if_pos rfl, ha]
          have hub : ∀ u, S.1 (p + 1) = some u → u < 2147483648 := fun u hu => by
            obtain ⟨g2, -, k⟩ := i1.1 _ u hu
            omega
          have emx := enc_mxs (v := a) hub (by omega)
          have e69q : z 69 0 (p + 1) = enc (S.1 (p + 1)) := h3 (p + 1) (by omega)
          have e69p : z 69 0 p = nI a := by rw [e69, ha]; rfl
          have fin : ∀ v : Int32, v = nI (mxo (S.1 (p + 1)) a) → ∃ Z, X10_lettersOf_J105 al N (X10_lettersOf_L32 al N (fun p3 Y => X10_lettersOf_J314 al N p3 Y) fu) (fun p3 Y => X10_lettersOf_J314 al N p3 Y) (nI x) (nI m) (S.2 x) (nI p) (nI (p + 1)) v z = some ((gaT m W bl G gn wl wd B B0 m).2 x, Z) ∧ (∀ k q j, ¬ (q = 0 ∧ k = 69) → Z k q j = Y k q j) := fun v hv => by
            unfold X10_lettersOf_J105
            rw [rd_nI (by omega) (by omega), Option.bind_some, gl_eq]
            refine out _ (fun k q j hk => by rw [mset_at, if_neg (by omega), h2 k q j hk]) (Or.inr hb) (by rw [eC]) (fun c hc => ?_)
            rw [eC, mset_at]
            show _ = enc (if c = p + 1 then some (mxo (S.1 (p + 1)) a) else S.1 c)
            by_cases cc : c = p + 1
            · rw [if_pos ⟨rfl, rfl, cc⟩, if_pos cc, hv]
              rfl
            · rw [if_neg (fun q => cc q.2.2), if_neg cc]
              exact h3 c hc
          have ea : enc (some a) = nI a := rfl
          rw [show (if (true = true) then (1 : Int32) else 0) = 1 from if_pos rfl, if_neg (by decide), Option.bind_some, zn_a1, rd_nI (by omega) (by omega), Option.bind_some, e69q, e69p]
          by_cases c1 : nI a ≤ enc (S.1 (p + 1))
          · rw [if_pos c1] at emx
            rw [if_pos c1, Option.bind_some, e69q]
            exact fin _ emx
          · rw [if_neg c1] at emx
            rw [if_neg c1, Option.bind_some, e69p]
            exact fin _ emx
    · rintro fu ⟨mk, z⟩ ⟨h1, h2, h3⟩
      simp only at h1 h2 h3
      subst h1
      show ∃ Z, X10_lettersOf_L32 al N (fun p3 Y => X10_lettersOf_J314 al N p3 Y) (fu + 1) (nI x) (nI m) _ (nI m) z = some (_, Z) ∧ _
      unfold X10_lettersOf_L32
      rw [if_pos (Int32.le_refl _)]
      exact ⟨z, rfl, h2⟩
end
