/-! which letters stand in the best readings: the class -/
section
variable {m W : Nat} {bl : Nat → Bool} {G : Nat → Nat → Nat} {gn : Nat → Nat} {wl : Nat → Nat} {wd : Nat → Nat → Nat} {al : Nat → Nat → Bool} {N : Nat}
theorem gw_letters {Y : gM} {w p : Nat} (hN : 1000 ≤ N) (hm : m ≤ 8) (h1 : 1 ≤ wl w) (h8 : wl w ≤ 8) (h26 : Y 26 w 1 = nI (wl w)) (h99 : Y 27 w 99 = nI (wl w)) (h27 : ∀ k, k < wl w → Y 27 w k = nI (wd w k)) (hp : p + wl w ≤ m) (k : gM → Option (Int32 × gM)) (Q : Option (Int32 × gM) → Prop)
    (hQ : ∀ Z, (∀ k q j, ¬ (q = 0 ∧ k = 39) → Z k q j = Y k q j) → (∀ x, Z 39 0 x = if p ≤ x ∧ x < p + wl w then Y 39 0 x ||| ((1 : Int32) <<< (nI (wd w (x - p)) &&& 31)) else Y 39 0 x) → Q (k Z)) : Q (X6_gatherWord_L81 al N k N w (nI p) 0 Y) := by
  refine m_up0 (wl w) (fun fu i (y : gM) => X6_gatherWord_L81 al N k fu w (nI p) i y)
    (fun i y => (∀ k q j, ¬ (q = 0 ∧ k = 39) → y k q j = Y k q j) ∧ (∀ x, y 39 0 x = if p ≤ x ∧ x < p + i then Y 39 0 x ||| ((1 : Int32) <<< (nI (wd w (x - p)) &&& 31)) else Y 39 0 x)) Q Y (by omega) ?_ ?_ ⟨fun _ _ _ _ => rfl, fun x => by rw [if_neg (by omega)]⟩
  · rintro i fu y hi ⟨y1, y2⟩ ih
    have e26 : y 26 w 1 = nI (wl w) := by rw [y1 26 w 1 (by omega), h26]
    have e99 : y 27 w 99 = nI (wl w) := by rw [y1 27 w 99 (by omega), h99]
    have e27 : y 27 w i = nI (wd w i) := by rw [y1 27 w i (by omega), h27 i hi]
    have n1 : ¬ nI (wl w) ≤ nI i := fun q => by
      have := (zn_le (by omega) (by omega)).mp q
      omega
    show Q (X6_gatherWord_L81 al N k (fu + 1) w (nI p) (nI i) y)
    unfold X6_gatherWord_L81
    rw [e26, if_neg n1, zn_add, rd_nI (by omega) (by omega), Option.bind_some, e99, zn_tN (by omega), rd_nI hi (by omega), Option.bind_some, Option.bind_some, gl_eq, e27, gl_eq, zn_a1]
    refine ih _ ⟨fun k q j hk => ?_, fun x => ?_⟩
    · rw [mset_at, if_neg (by omega), y1 k q j hk]
    · show mset y 39 0 (p + i) _ 39 0 x = if p ≤ x ∧ x < p + (i + 1) then _ else _
      rw [mset_at]
      by_cases c : x = p + i
      · subst c
        rw [if_pos ⟨rfl, rfl, rfl⟩, if_pos (by omega), y2, if_neg (by omega), Nat.add_sub_cancel_left]
      · rw [if_neg (fun z => c z.2.2), y2]
        by_cases c2 : p ≤ x ∧ x < p + i
        · rw [if_pos c2, if_pos (by omega)]
        · rw [if_neg c2, if_neg (by omega)]
  · rintro fu y ⟨y1, y2⟩
    have e26 : y 26 w 1 = nI (wl w) := by rw [y1 26 w 1 (by omega), h26]
    show Q (X6_gatherWord_L81 al N k (fu + 1) w (nI p) (nI (wl w)) y)
    unfold X6_gatherWord_L81
    rw [e26, if_pos (Int32.le_refl _)]
    exact hQ y y1 y2
theorem gatherWord_eq {Y : gM} {w p f : Nat} (hN : 1000 ≤ N) (g : ldC m W bl G gn wl wd Y) (hw : w < W) (hp : p + wl w ≤ m) :
    ∃ Z, X6_gatherWord al N w (nI f) (nI p) Y = some (0, Z) ∧ (∀ k q j, ¬ (q = 0 ∧ (k = 34 ∨ k = 39)) → Z k q j = Y k q j) ∧
      (∀ c, Z 34 0 c = if c = p + wl w then (if Y 34 0 (p + wl w) < Y 34 0 p + nI f then Y 34 0 p + nI f else Y 34 0 (p + wl w)) else Y 34 0 c) ∧
      (∀ x, Z 39 0 x = if (¬ Y 35 0 (p + wl w) = -1 ∧ Y 34 0 p + nI f + Y 35 0 (p + wl w) = Y 35 0 0) ∧ p ≤ x ∧ x < p + wl w then Y 39 0 x ||| ((1 : Int32) <<< (nI (wd w (x - p)) &&& 31)) else Y 39 0 x) := by
  obtain ⟨g1, g2, g3, g4, g5, g6, g7⟩ := g
  obtain ⟨q1, q2, q3, q4, q5⟩ := g7 w hw
  unfold X6_gatherWord
  rw [q3, zn_add, gl_eq, g1, if_pos ((zn_le (by omega) (by omega)).mpr hp), rd_nI (by omega) (by omega), Option.bind_some, gl_eq, rd_nI (by omega) (by omega), Option.bind_some, gl_eq, Option.bind_some, gl_eq, Option.bind_some]
  generalize hv : (if Y 34 0 (p + wl w) < Y 34 0 p + nI f then Y 34 0 p + nI f else Y 34 0 (p + wl w)) = v
  have e14 : ∀ k q j, ¬ (q = 0 ∧ k = 34 ∧ j = p + wl w) → (mset Y 34 0 (p + wl w) v) k q j = Y k q j := fun k q j h => by rw [mset_at, if_neg (by omega)]
  have e34 : ∀ c, (mset Y 34 0 (p + wl w) v) 34 0 c = if c = p + wl w then v else Y 34 0 c := fun c => by
    rw [mset_at]
    by_cases h : c = p + wl w
    · rw [if_pos ⟨rfl, rfl, h⟩, if_pos h]
    · rw [if_neg (fun z => h z.2.2), if_neg h]
  generalize mset Y 34 0 (p + wl w) v = Y1 at e14 e34
  have e35 : ∀ c, Y1 35 0 c = Y 35 0 c := fun c => e14 35 0 c (by omega)
  have e39 : ∀ c, Y1 39 0 c = Y 39 0 c := fun c => e14 39 0 c (by omega)
  rw [e35]
  by_cases c1 : Y 35 0 (p + wl w) = -1
  · rw [if_pos c1]
    exact ⟨Y1, rfl, fun k q j h => e14 k q j (by omega), e34, fun x => by rw [if_neg (fun z => z.1.1 c1), e39]⟩
  · rw [if_neg c1, Option.bind_some]
    show ∃ Z, (rd (nI 0) 9).bind _ = _ ∧ _
    rw [rd_nI (by omega) (by omega), Option.bind_some, e35, e35]
    by_cases c2 : Y 34 0 p + nI f + Y 35 0 (p + wl w) = Y 35 0 0
    · rw [if_pos c2]
      refine exR fun R hR => ?_
      refine gw_letters (wd := wd) (wl := wl) (m := m) hN g3 q1 q2 (by rw [e14 26 w 1 (by omega), q3]) (by rw [e14 27 w 99 (by omega), q4]) (fun k hk => by rw [e14 27 w k (by omega), (q5 k hk).2]) hp _ (fun o => ∃ Z, o = some (0, Z) ∧ R Z) fun Z z1 z2 => ?_
      subst hR
      refine ⟨Z, rfl, fun k q j h => by rw [z1 k q j (by omega), e14 k q j (by omega)], fun c => by rw [z1 34 0 c (by omega), e34], fun x => ?_⟩
      rw [z2, e39]
      by_cases c3 : p ≤ x ∧ x < p + wl w
      · rw [if_pos c3, if_pos ⟨⟨c1, c2⟩, c3⟩]
      · rw [if_neg c3, if_neg (fun z => c3 z.2)]
    · rw [if_neg c2]
      exact ⟨Y1, rfl, fun k q j h => e14 k q j (by omega), e34, fun x => by rw [if_neg (fun z => c2 z.1.2), e39]⟩
/-- the class's rows say what is meant, where the rest has a weight -/
def rcR (m : Nat) (B : Nat → Option Nat) (S : (Nat → Option Nat) × (Nat → Int32)) (Y : gM) : Prop := (∀ c, c ≤ m → B c ≠ none → Y 34 0 c = enc (S.1 c)) ∧ ∀ x, x < m → Y 39 0 x = S.2 x
theorem enc_mx {o : Option Nat} {v : Nat} (ho : ∀ u, o = some u → u < 2147483648) (hv : v < 2147483648) : (if enc o < nI v then nI v else enc o) = nI (mxo o v) := by
  unfold mxo
  cases o with
  | none => exact if_pos (by
      show (-1 : Int32) < nI v
      rw [Int32.lt_iff_toInt_lt, zn_tI hv]
      have : (-1 : Int32).toInt = -1 := rfl
      omega)
  | some u =>
    have := ho u rfl
    show (if nI u < nI v then nI v else nI u) = nI (if u < v then v else u)
    by_cases c : u < v
    · rw [if_pos ((zn_lt (by omega) hv).mpr c), if_pos c]
    · rw [if_neg (fun q => c ((zn_lt (by omega) hv).mp q)), if_neg c]
theorem fit_nb {w p f : Nat} (h1 : 1 ≤ wl w) (h : fitW m bl G gn wl wd w p = some f) : bl p = false := by
  unfold fitW at h
  obtain ⟨d, hd⟩ : ∃ d, wl w = d + 1 := ⟨wl w - 1, by omega⟩
  rw [hd] at h
  unfold fitF at h
  split at h
  · cases h
  · split at h
    · cases h
    · next c1 c2 =>
      rw [Nat.add_zero] at c2
      cases hb : bl p with
      | false => rfl
      | true => exact absurd hb c2
theorem rc_word2 {B : Nat → Option Nat} {B0 w p f : Nat} {S : (Nat → Option Nat) × (Nat → Int32)} {Y Z : gM} (hB : bhP m W bl G gn wl wd B) (hS : gaI B B0 S) (hB0 : B0 ≤ 648) (hBb : ∀ c g, c ≤ m → B c = some g → g ≤ 648) (h35 : ∀ c, c ≤ m → Y 35 0 c = enc (B c)) (h0 : B 0 = some B0) (hp : p < m) (hw : w < W) (hw1 : 1 ≤ wl w) (hpw : p + wl w ≤ m) (hf : fitW m bl G gn wl wd w p = some f) (hn : ¬ Y 34 0 p = -1) (h : rcR m B S Y)
    (hz34 : ∀ c, Z 34 0 c = if c = p + wl w then (if Y 34 0 (p + wl w) < Y 34 0 p + nI f then Y 34 0 p + nI f else Y 34 0 (p + wl w)) else Y 34 0 c)
    (hz39 : ∀ x, Z 39 0 x = if (¬ Y 35 0 (p + wl w) = -1 ∧ Y 34 0 p + nI f + Y 35 0 (p + wl w) = Y 35 0 0) ∧ p ≤ x ∧ x < p + wl w then Y 39 0 x ||| ((1 : Int32) <<< (nI (wd w (x - p)) &&& 31)) else Y 39 0 x) :
    rcR m B (gaW m bl G gn wl wd B B0 p w S) Z := by
  obtain ⟨h1, h2⟩ := h
  have hb := fit_nb hw1 hf
  have e35 := h35 (p + wl w) hpw
  have e350 := h35 0 (by omega)
  rw [h0] at e350
  cases hg : B (p + wl w) with
  | none =>
    rw [hg] at e35
    have eS : gaW m bl G gn wl wd B B0 p w S = S := by
      unfold gaW
      rw [hf, hg]
      cases S.1 p <;> rfl
    rw [eS]
    refine ⟨fun c hc hBc => ?_, fun x hx => ?_⟩
    · have : c ≠ p + wl w := fun e => hBc (by rw [e, hg])
      rw [hz34, if_neg this, h1 c hc hBc]
    · rw [hz39, if_neg (fun z => z.1.1 e35), h2 x hx]
  | some g =>
    rw [hg] at e35
    obtain ⟨b, hb1, hb2⟩ := hB.2.2.1 p w f g hp hb hw hf hg
    have e34p := h1 p (by omega) (by rw [hb1]; exact fun q => by cases q)
    have hb3 := hBb p b (by omega) hb1
    cases ha : S.1 p with
    | none =>
      rw [ha] at e34p
      exact absurd e34p hn
    | some a =>
      rw [ha] at e34p
      obtain ⟨b', k1, k2⟩ := hS.1 p a ha
      have : b' = b := Option.some.inj (k1.symm.trans hb1)
      subst this
      have e34v := h1 (p + wl w) hpw (by rw [hg]; exact fun q => by cases q)
      have hub : ∀ u, S.1 (p + wl w) = some u → u < 2147483648 := fun u hu => by
        obtain ⟨g2, -, k⟩ := hS.1 _ u hu
        omega
      have eaf : Y 34 0 p + nI f = nI (a + f) := by rw [e34p]; exact zn_add a f
      have emx := enc_mx (v := a + f) hub (by omega)
      have eS : gaW m bl G gn wl wd B B0 p w S = (fun x => if x = p + wl w then some (mxo (S.1 (p + wl w)) (a + f)) else S.1 x, fun x => if a + f + g = B0 ∧ p ≤ x ∧ x < p + wl w then S.2 x ||| ((1 : Int32) <<< (nI (wd w (x - p)) &&& 31)) else S.2 x) := by
        unfold gaW
        rw [ha, hf, hg]
      rw [eS]
      refine ⟨fun c hc hBc => ?_, fun x hx => ?_⟩
      · rw [hz34, eaf, e34v, emx]
        show _ = enc (if c = p + wl w then some (mxo (S.1 (p + wl w)) (a + f)) else S.1 c)
        by_cases cc : c = p + wl w
        · rw [if_pos cc, if_pos cc]
          rfl
        · rw [if_neg cc, if_neg cc, h1 c hc hBc]
      · have hg648 := hBb _ g hpw hg
        have ec : (¬ Y 35 0 (p + wl w) = -1 ∧ Y 34 0 p + nI f + Y 35 0 (p + wl w) = Y 35 0 0) ↔ a + f + g = B0 := by
          rw [e35, e350, eaf]
          have e1 : nI (a + f) + enc (some g) = nI (a + f + g) := zn_add _ _
          rw [e1]
          have e2 : nI (a + f + g) = enc (some B0) ↔ a + f + g = B0 := zn_eq (by omega) (by omega)
          rw [e2]
          exact ⟨fun q => q.2, fun q => ⟨zn_ne1 (by omega), q⟩⟩
        rw [hz39, h2 x hx]
        show _ = if a + f + g = B0 ∧ p ≤ x ∧ x < p + wl w then _ else _
        by_cases c3 : a + f + g = B0 ∧ p ≤ x ∧ x < p + wl w
        · rw [if_pos c3, if_pos ⟨ec.mpr c3.1, c3.2⟩]
        · rw [if_neg c3, if_neg (fun z => c3 ⟨ec.mp z.1, z.2⟩)]
theorem gaL_none {B : Nat → Option Nat} {B0 p : Nat} {S : (Nat → Option Nat) × (Nat → Int32)} (h : S.1 p = none) : ∀ w, gaL m bl G gn wl wd B B0 p S w = S := by
  intro w
  induction w with
  | zero => rfl
  | succ w ih =>
    show gaW m bl G gn wl wd B B0 p w (gaL m bl G gn wl wd B B0 p S w) = S
    rw [ih]
    unfold gaW
    rw [h]
theorem gaL_nofit {B : Nat → Option Nat} {B0 p : Nat} {S : (Nat → Option Nat) × (Nat → Int32)} (h : ∀ w, w < W → fitW m bl G gn wl wd w p = none) : ∀ w, w ≤ W → gaL m bl G gn wl wd B B0 p S w = S := by
  intro w
  induction w with
  | zero => exact fun _ => rfl
  | succ w ih =>
    intro hw
    show gaW m bl G gn wl wd B B0 p w (gaL m bl G gn wl wd B B0 p S w) = S
    rw [ih (by omega)]
    unfold gaW
    rw [h w (by omega)]
    cases S.1 p <;> rfl
theorem gather_words {B : Nat → Option Nat} {B0 p : Nat} {S : (Nat → Option Nat) × (Nat → Int32)} {Y : gM} (hN : 1000 ≤ N) (g : ldC m W bl G gn wl wd Y) (hft : ftC m W bl G gn wl wd Y) (hal : ∀ w, w < W → al 26 w = true) (hB : bhP m W bl G gn wl wd B) (hB0 : B0 ≤ 648) (hBb : ∀ c g, c ≤ m → B c = some g → g ≤ 648) (h35 : ∀ c, c ≤ m → Y 35 0 c = enc (B c)) (hp : p < m) (hn : ¬ Y 34 0 p = -1) (hS : gaI B B0 S) (hR : B 0 = some B0 → rcR m B S Y)
    (k : Int32 → gM → Option (Int32 × gM)) (Q : Option (Int32 × gM) → Prop)
    (hQ : ∀ Z, (∀ k q j, ¬ (q = 0 ∧ (k = 34 ∨ k = 39)) → Z k q j = Y k q j) → (B 0 = some B0 → rcR m B (gaL m bl G gn wl wd B B0 p S W) Z) → Q (k (nI p) Z)) : Q (X6_gatherLetters_L82 al N k N (nI p) 0 Y) := by
  obtain ⟨g1, g2, g3, g4, g5, g6, g7⟩ := id g
  have hwd : ∀ w, w < W → 1 ≤ wl w ∧ ∀ k, k < wl w → wd w k < 26 := fun w hw => by
    obtain ⟨q1, q2, q3, q4, q5⟩ := g7 w hw
    exact ⟨q1, fun k hk => (q5 k hk).1⟩
  refine m_up0 12 (fun fu j (y : gM) => X6_gatherLetters_L82 al N k fu (nI p) j y)
    (fun j y => (∀ k q j, ¬ (q = 0 ∧ (k = 34 ∨ k = 39)) → y k q j = Y k q j) ∧ y 34 0 p = Y 34 0 p ∧ (B 0 = some B0 → rcR m B (gaL m bl G gn wl wd B B0 p S (if j < W then j else W)) y)) Q Y (by omega) ?_ ?_ ⟨fun _ _ _ _ => rfl, rfl, fun h => by
      have e : (if 0 < W then 0 else W) = 0 := by
        by_cases c : 0 < W
        · rw [if_pos c]
        · rw [if_neg c]; omega
      rw [e]
      exact hR h⟩
  · rintro j fu y hj ⟨y1, y2, y3⟩ ih
    have gy : ldC m W bl G gn wl wd y := ldC_cg (fun k q j hk => y1 k q j (by omega)) g
    have n12 : ¬ (12 : Int32) ≤ nI j := fun q => by
      have := (zn_lle (k := 12) (by omega) (by decide)).mp q
      have e8 : (OfNat.ofNat 12 : Nat) = 12 := rfl
      omega
    have ei : nI p * (12 : Int32) + nI j = nI (12 * p + j) := by
      rw [zn_mull, zn_add]
      show nI (p * 12 + j) = _
      congr 1
      omega
    have e33 : y 33 0 (12 * p + j) = if j < W then enc (fitW m bl G gn wl wd j p) else -1 := by rw [y1 33 0 _ (by omega)]; exact hft p j hp hj
    have e25 : y 25 0 j = if j < W then nI j else -1 := by rw [y1 25 0 j (by omega)]; exact g6 j
    have nxt : ∀ y', (∀ k q j, ¬ (q = 0 ∧ (k = 34 ∨ k = 39)) → y' k q j = Y k q j) → y' 34 0 p = Y 34 0 p → (B 0 = some B0 → rcR m B (gaL m bl G gn wl wd B B0 p S (if j + 1 < W then j + 1 else W)) y') → Q (X6_gatherLetters_J132 al N (X6_gatherLetters_L82 al N k fu) k (nI p) (nI j) y') := fun y' a1 a2 a3 => by
      show Q (X6_gatherLetters_L82 al N k fu (nI p) (nI j + 1) y')
      rw [zn_a1]
      exact ih y' ⟨a1, a2, a3⟩
    show Q (X6_gatherLetters_L82 al N k (fu + 1) (nI p) (nI j) y)
    unfold X6_gatherLetters_L82
    rw [if_neg n12, if_neg n12, rd_nI hj (by omega), Option.bind_some, ei, rd_nI (by omega : 12 * p + j < 96) (by omega), Option.bind_some, gl_eq, e33, e25]
    by_cases c : j < W
    · rw [if_pos c] at y3
      have ee : (if j + 1 < W then j + 1 else W) = j + 1 := by
        by_cases c2 : j + 1 < W
        · rw [if_pos c2]
        · rw [if_neg c2]; omega
      rw [ee] at nxt
      rw [if_pos c, if_pos c, if_neg (zn_nn (by omega))]
      cases hf : fitW m bl G gn wl wd j p with
      | none =>
        rw [if_pos (show enc none = -1 from rfl)]
        refine nxt y y1 y2 fun h => ?_
        have e : gaL m bl G gn wl wd B B0 p S (j + 1) = gaL m bl G gn wl wd B B0 p S j := by
          show gaW m bl G gn wl wd B B0 p j (gaL m bl G gn wl wd B B0 p S j) = _
          unfold gaW
          rw [hf]
          cases (gaL m bl G gn wl wd B B0 p S j).1 p <;> rfl
        rw [e]
        exact y3 h
      | some f =>
        obtain ⟨q1, q2, q3, q4, q5⟩ := g7 j c
        have hfl := fitF_le m bl G gn wd g5 j p (wl j) 0 f hf
        have hpw := hfl.2 (by omega)
        have hf81 : f < 2147483648 := by omega
        have hb := fit_nb q1 hf
        have hsp : p + 0 + wl j = p + wl j := by omega
        rw [hsp] at hpw
        obtain ⟨Z, z1, z2, z3, z4⟩ := gatherWord_eq (al := al) (f := f) hN gy c hpw
        have en : ¬ enc (some f) = -1 := zn_ne1 hf81
        have z1' : X6_gatherWord al N j (enc (some f)) (nI p) y = some (0, Z) := z1
        rw [if_neg en, dr_nI (hal j c) (by omega), Option.bind_some, z1', bind2_some]
        refine nxt Z (fun k q j hk => by rw [z2 k q j hk, y1 k q j hk]) (by rw [z3, if_neg (by omega), y2]) fun h => ?_
        have hSj := (gaL_st m W bl G gn wl wd B B0 hB hwd hp hb hS j (by omega)).1
        exact rc_word2 hB hSj hB0 hBb (fun c hc => by rw [y1 35 0 c (by omega)]; exact h35 c hc) h hp c q1 hpw hf (by rw [y2]; exact hn) (y3 h) z3 z4
    · rw [if_neg c] at y3
      rw [if_neg c, if_neg c, if_pos (by decide)]
      refine nxt y y1 y2 ?_
      rw [if_neg (by omega)]
      exact y3
  · rintro fu y ⟨y1, y2, y3⟩
    have y3' : B 0 = some B0 → rcR m B (gaL m bl G gn wl wd B B0 p S (if 12 < W then 12 else W)) y := y3
    rw [if_neg (by omega)] at y3'
    show Q (X6_gatherLetters_L82 al N k (fu + 1) (nI p) (nI 12) y)
    unfold X6_gatherLetters_L82
    rw [if_pos (by decide)]
    exact hQ y y1 y3'
theorem gather_eq {B : Nat → Option Nat} {B0 : Nat} {Y : gM} (hN : 1000 ≤ N) (g : ldC m W bl G gn wl wd Y) (hft : ftC m W bl G gn wl wd Y) (hal : ∀ w, w < W → al 26 w = true) (hB : bhP m W bl G gn wl wd B) (hB0 : B0 ≤ 648) (hBb : ∀ c g, c ≤ m → B c = some g → g ≤ 648) (h35 : ∀ c, c ≤ m → Y 35 0 c = enc (B c)) :
    ∃ Z, X6_gatherLetters al N Y = some (0, Z) ∧ (∀ k q j, ¬ (q = 0 ∧ (k = 34 ∨ k = 39)) → Z k q j = Y k q j) ∧ (B 0 = some B0 → ∀ x, x < m → Z 39 0 x = (gaT m W bl G gn wl wd B B0 m).2 x) := by
  obtain ⟨g1, g2, g3, g4, g5, g6, g7⟩ := id g
  have hwd : ∀ w, w < W → 1 ≤ wl w ∧ ∀ k, k < wl w → wd w k < 26 := fun w hw => by
    obtain ⟨q1, q2, q3, q4, q5⟩ := g7 w hw
    exact ⟨q1, fun k hk => (q5 k hk).1⟩
  have hfl : ∀ p w f, w < W → fitW m bl G gn wl wd w p = some f → p + wl w ≤ m := fun p w f hw hf => by
    have := (fitF_le m bl G gn wd g5 w p (wl w) 0 f hf).2 (by have := (hwd w hw).1; omega)
    omega
  unfold X6_gatherLetters
  rw [gl_eq, gl_eq]
  show ∃ Z, (rd (nI 0) 9).bind _ = _ ∧ _
  rw [rd_nI (by omega) (by omega), Option.bind_some, gl_eq]
  generalize hY7 : mset (mfill (mfill Y 34 0 9 (-1)) 39 0 8 0) 34 0 0 0 = Y7
  have f7 : ∀ k q j, ¬ (q = 0 ∧ (k = 34 ∨ k = 39)) → Y7 k q j = Y k q j := fun k q j hk => by rw [← hY7, mset_at, if_neg (by omega), mfill_at, if_neg (by omega), mfill_at, if_neg (by omega)]
  have r7 : B 0 = some B0 → rcR m B (gaT m W bl G gn wl wd B B0 0) Y7 := fun _ => by
    refine ⟨fun c hc _ => ?_, fun x hx => ?_⟩
    · rw [← hY7, mset_at]
      show _ = enc (if c = 0 then some 0 else none)
      by_cases c0 : c = 0
      · rw [if_pos ⟨rfl, rfl, c0⟩, if_pos c0]; rfl
      · rw [if_neg (fun z => c0 z.2.2), if_neg c0, mfill_at, if_neg (by omega), mfill_at, if_pos ⟨rfl, rfl, by omega⟩]
        rfl
    · rw [← hY7, mset_at, if_neg (by omega), mfill_at, if_pos ⟨rfl, rfl, by omega⟩]
      rfl
  have hSt : ∀ p, p ≤ m → B 0 = some B0 → gaI B B0 (gaT m W bl G gn wl wd B B0 p) := fun p hp h => (gaT_st m W bl G gn wl wd B B0 hB hwd hfl h p hp).1
  refine exR fun R hRR => ?_
  refine m_up0 m (fun fu p (y : gM) => X6_gatherLetters_L25 al N (fun Y => X6_gatherLetters_J144 al N Y) fu p y)
    (fun p y => (∀ k q j, ¬ (q = 0 ∧ (k = 34 ∨ k = 39)) → y k q j = Y k q j) ∧ (B 0 = some B0 → rcR m B (gaT m W bl G gn wl wd B B0 p) y)) (fun o => ∃ Z, o = some (0, Z) ∧ R Z) Y7 (by omega) ?_ ?_ ⟨f7, r7⟩
  · rintro p fu y hp ⟨y1, y2⟩ ih
    have gy : ldC m W bl G gn wl wd y := ldC_cg (fun k q j hk => y1 k q j (by omega)) g
    have e29 : y 29 0 0 = nI m := gy.1
    have e30 : y 30 0 p = (if bl p = true then 1 else 0) := (gy.2.2.2.1 p hp).1
    have nm : ¬ nI m ≤ nI p := fun q => by
      have := (zn_le (by omega) (by omega)).mp q
      omega
    have eT : gaT m W bl G gn wl wd B B0 (p + 1) = gaC m W bl G gn wl wd B B0 p (gaT m W bl G gn wl wd B B0 p) := rfl
    have nxt : ∀ y', (∀ k q j, ¬ (q = 0 ∧ (k = 34 ∨ k = 39)) → y' k q j = Y k q j) → (B 0 = some B0 → rcR m B (gaT m W bl G gn wl wd B B0 (p + 1)) y') → ∃ Z, X6_gatherLetters_J138 al N (X6_gatherLetters_L25 al N (fun Y => X6_gatherLetters_J144 al N Y) fu) (fun Y => X6_gatherLetters_J144 al N Y) (nI p) y' = some (0, Z) ∧ R Z := fun y' a1 a2 => by
      show ∃ Z, X6_gatherLetters_L25 al N (fun Y => X6_gatherLetters_J144 al N Y) fu (nI p + 1) y' = some (0, Z) ∧ R Z
      rw [zn_a1]
      exact ih y' ⟨a1, a2⟩
    show ∃ Z, X6_gatherLetters_L25 al N (fun Y => X6_gatherLetters_J144 al N Y) (fu + 1) (nI p) y = some (0, Z) ∧ R Z
    unfold X6_gatherLetters_L25
    rw [e29, if_neg nm, rd_nI (by omega) (by omega), Option.bind_some]
    -- with B 0 = none the states are not used: any that lies in gaI will do
    obtain ⟨S, hS, hSR, hSe⟩ : ∃ S, gaI B B0 S ∧ (B 0 = some B0 → rcR m B S y) ∧ (B 0 = some B0 → S = gaT m W bl G gn wl wd B B0 p) := by
      by_cases h : B 0 = some B0
      · exact ⟨_, hSt p (by omega) h, y2, fun _ => rfl⟩
      · exact ⟨(fun _ => none, fun _ => 0), ⟨fun v a hv => (by cases hv), fun x v _ _ => b_0 v⟩, fun q => absurd q h, fun q => absurd q h⟩
    by_cases c1 : y 34 0 p = -1
    · rw [if_pos c1]
      refine nxt y y1 fun h => ?_
      have hn : S.1 p = none := by
        cases ha : S.1 p with
        | none => rfl
        | some a =>
          obtain ⟨g', k1, k2⟩ := hS.1 p a ha
          have := (hSR h).1 p (by omega) (by rw [k1]; exact fun q => by cases q)
          rw [c1, ha] at this
          exact absurd this.symm (zn_ne1 (by omega))
      rw [eT, ← hSe h]
      have : gaC m W bl G gn wl wd B B0 p S = S := by
        unfold gaC
        cases bl p with
        | true => rw [if_pos rfl, hn]
        | false => rw [if_neg (by decide)]; exact gaL_none hn W
      rw [this]
      exact hSR h
    · rw [if_neg c1, rd_nI (by omega) (by omega), Option.bind_some, e30]
      cases hb : bl p with
      | false =>
        rw [show (if (false = true) then (1 : Int32) else 0) = 0 from if_neg (by decide), if_pos rfl]
        unfold X6_gatherLetters_J80
        refine gather_words hN gy (fun c i hc hi => by rw [y1 33 0 _ (by omega)]; exact hft c i hc hi) hal hB hB0 hBb (fun c hc => by rw [y1 35 0 c (by omega)]; exact h35 c hc) hp c1 hS hSR _ (fun o => ∃ Z, o = some (0, Z) ∧ R Z) fun Z z1 z2 => ?_
        refine nxt Z (fun k q j hk => by rw [z1 k q j hk, y1 k q j hk]) fun h => ?_
        rw [eT, ← hSe h]
        unfold gaC
        rw [hb, if_neg (by decide)]
        exact z2 h
      | true =>
        rw [show (if (true = true) then (1 : Int32) else 0) = 1 from if_pos rfl, if_neg (by decide), zn_a1, rd_nI (by omega) (by omega), Option.bind_some, Option.bind_some, gl_eq, Option.bind_some, gl_eq]
        generalize hv : (if y 34 0 (p + 1) < y 34 0 p then y 34 0 p else y 34 0 (p + 1)) = v
        have f1 : ∀ k q j, ¬ (q = 0 ∧ (k = 34 ∨ k = 39)) → (mset y 34 0 (p + 1) v) k q j = Y k q j := fun k q j hk => by rw [mset_at, if_neg (by omega), y1 k q j hk]
        have e34 : ∀ c, (mset y 34 0 (p + 1) v) 34 0 c = if c = p + 1 then v else y 34 0 c := fun c => by
          rw [mset_at]
          by_cases h : c = p + 1
          · rw [if_pos ⟨rfl, rfl, h⟩, if_pos h]
          · rw [if_neg (fun z => h z.2.2), if_neg h]
        have e39 : ∀ c, (mset y 34 0 (p + 1) v) 39 0 c = y 39 0 c := fun c => by rw [mset_at, if_neg (by omega)]
        generalize mset y 34 0 (p + 1) v = y' at f1 e34 e39
        have gy' : ldC m W bl G gn wl wd y' := ldC_cg (fun k q j hk => f1 k q j (by omega)) g
        have hnf : ∀ w, w < W → fitW m bl G gn wl wd w p = none := fun w hw => by
          cases hf : fitW m bl G gn wl wd w p with
          | none => rfl
          | some f =>
            have := fit_nb (hwd w hw).1 hf
            rw [hb] at this
            cases this
        -- the state behind the blank
        obtain ⟨T, hT, hTR, hTe⟩ : ∃ T, gaI B B0 T ∧ (B 0 = some B0 → rcR m B T y') ∧ (B 0 = some B0 → T = gaT m W bl G gn wl wd B B0 (p + 1)) := by
          by_cases h : B 0 = some B0
          · refine ⟨_, hSt (p + 1) (by omega) h, fun _ => ?_, fun _ => rfl⟩
            rw [eT, ← hSe h]
            obtain ⟨r1, r2⟩ := hSR h
            have hBp := hB.2.1 p hp hb
            unfold gaC
            rw [hb, if_pos rfl]
            cases ha : S.1 p with
            | none =>
              have hBn : B p = none := by
                cases hq : B p with
                | none => rfl
                | some b =>
                  have := r1 p (by omega) (by rw [hq]; exact fun q => by cases q)
                  rw [ha] at this
                  exact absurd this c1
              refine ⟨fun c hc hBc => ?_, fun x hx => by rw [e39]; exact r2 x hx⟩
              have : c ≠ p + 1 := fun e => hBc (by rw [e, ← hBp, hBn])
              rw [e34, if_neg this]
              exact r1 c hc hBc
            | some a =>
              obtain ⟨b, k1, k2⟩ := hS.1 p a ha
              have ep := r1 p (by omega) (by rw [k1]; exact fun q => by cases q)
              have ep1 := r1 (p + 1) (by omega) (by rw [← hBp, k1]; exact fun q => by cases q)
              rw [ha] at ep
              have hub : ∀ u, S.1 (p + 1) = some u → u < 2147483648 := fun u hu => by
                obtain ⟨g2, -, k⟩ := hS.1 _ u hu
                omega
              have emx := enc_mx (v := a) hub (by omega)
              refine ⟨fun c hc hBc => ?_, fun x hx => by rw [e39]; exact r2 x hx⟩
              show _ = enc (if c = p + 1 then some (mxo (S.1 (p + 1)) a) else S.1 c)
              rw [e34]
              by_cases cc : c = p + 1
              · rw [if_pos cc, if_pos cc, ← hv, ep, ep1]
                exact emx
              · rw [if_neg cc, if_neg cc]
                exact r1 c hc hBc
          · exact ⟨(fun _ => none, fun _ => 0), ⟨fun v a hv => (by cases hv), fun x v _ _ => b_0 v⟩, fun q => absurd q h, fun q => absurd q h⟩
        unfold X6_gatherLetters_J80
        refine gather_words hN gy' (fun c i hc hi => by rw [f1 33 0 _ (by omega)]; exact hft c i hc hi) hal hB hB0 hBb (fun c hc => by rw [f1 35 0 c (by omega)]; exact h35 c hc) hp (by rw [e34, if_neg (by omega)]; exact c1) hT hTR _ (fun o => ∃ Z, o = some (0, Z) ∧ R Z) fun Z z1 z2 => ?_
        refine nxt Z (fun k q j hk => by rw [z1 k q j hk, f1 k q j hk]) fun h => ?_
        rw [← hTe h]
        have := z2 h
        rw [gaL_nofit hnf W (Nat.le_refl W)] at this
        exact this
  · rintro fu y ⟨y1, y2⟩
    have gy : ldC m W bl G gn wl wd y := ldC_cg (fun k q j hk => y1 k q j (by omega)) g
    show ∃ Z, X6_gatherLetters_L25 al N (fun Y => X6_gatherLetters_J144 al N Y) (fu + 1) (nI m) y = some (0, Z) ∧ R Z
    unfold X6_gatherLetters_L25
    rw [gy.1, if_pos (Int32.le_refl _)]
    subst hRR
    exact ⟨y, rfl, y1, fun h x hx => (y2 h).2 x hx⟩
end
