/-! which letters stand in the best readings: what is meant -/
def mxo (o : Option Nat) (v : Nat) : Nat := match o with
  | none => v
  | some u => if u < v then v else u
theorem mxo_ge (o : Option Nat) (v : Nat) : v ≤ mxo o v := by
  unfold mxo
  split
  · exact Nat.le_refl _
  · split <;> omega
theorem mxo_old {o : Option Nat} {u v : Nat} (h : o = some u) : u ≤ mxo o v := by
  subst h
  unfold mxo
  simp only []
  split <;> omega
theorem mxo_or (o : Option Nat) (v : Nat) : mxo o v = v ∨ o = some (mxo o v) := by
  unfold mxo
  split
  · exact Or.inl rfl
  · split
    · exact Or.inl rfl
    · exact Or.inr rfl
section
variable (m W : Nat) (bl : Nat → Bool) (G : Nat → Nat → Nat) (gn : Nat → Nat) (wl : Nat → Nat) (wd : Nat → Nat → Nat) (B : Nat → Option Nat) (B0 : Nat)
def gaW (p w : Nat) (S : (Nat → Option Nat) × (Nat → Int32)) : (Nat → Option Nat) × (Nat → Int32) :=
  match S.1 p, fitW m bl G gn wl wd w p, B (p + wl w) with
  | some a, some f, some g => (fun x => if x = p + wl w then some (mxo (S.1 (p + wl w)) (a + f)) else S.1 x, fun x => if a + f + g = B0 ∧ p ≤ x ∧ x < p + wl w then S.2 x ||| ((1 : Int32) <<< (nI (wd w (x - p)) &&& 31)) else S.2 x)
  | _, _, _ => S
def gaL (p : Nat) (S : (Nat → Option Nat) × (Nat → Int32)) : Nat → (Nat → Option Nat) × (Nat → Int32)
  | 0 => S
  | w + 1 => gaW m bl G gn wl wd B B0 p w (gaL p S w)
def gaC (p : Nat) (S : (Nat → Option Nat) × (Nat → Int32)) : (Nat → Option Nat) × (Nat → Int32) :=
  if bl p = true then (match S.1 p with
    | some a => (fun x => if x = p + 1 then some (mxo (S.1 (p + 1)) a) else S.1 x, S.2)
    | none => S) else gaL m bl G gn wl wd B B0 p S W
def gaT : Nat → (Nat → Option Nat) × (Nat → Int32)
  | 0 => (fun x => if x = 0 then some 0 else none, fun _ => 0)
  | p + 1 => gaC m W bl G gn wl wd B B0 p (gaT p)
/-- what the weights of the rests have of the rules -/
def bhP : Prop := B m = some 0 ∧ (∀ p, p < m → bl p = true → B p = B (p + 1)) ∧
  (∀ p w f g, p < m → bl p = false → w < W → fitW m bl G gn wl wd w p = some f → B (p + wl w) = some g → ∃ b, B p = some b ∧ f + g ≤ b) ∧
  (∀ p b, p < m → bl p = false → B p = some b → ∃ w f g, w < W ∧ fitW m bl G gn wl wd w p = some f ∧ B (p + wl w) = some g ∧ f + g = b)
theorem cellF_1 {beh : Nat → Option Nat} {bst : Nat → Int32} {row : Nat → Nat → Int32} {c : Nat} : ∀ w, (∀ v f g, v < w → fitW m bl G gn wl wd v c = some f → beh (c + wl v) = some g → ∃ b, (cellF m bl G gn wl wd beh bst row c w).1 = some b ∧ f + g ≤ b) ∧ ∀ b, (cellF m bl G gn wl wd beh bst row c w).1 = some b → ∃ v f g, v < w ∧ fitW m bl G gn wl wd v c = some f ∧ beh (c + wl v) = some g ∧ f + g = b := by
  intro w
  induction w with
  | zero => exact ⟨fun v f g h => absurd h (Nat.not_lt_zero v), fun b h => by cases h⟩
  | succ w ih =>
    obtain ⟨ih1, ih2⟩ := ih
    have e : cellF m bl G gn wl wd beh bst row c (w + 1) = stW m bl G gn wl wd beh bst row c w (cellF m bl G gn wl wd beh bst row c w) := rfl
    rw [e]
    generalize cellF m bl G gn wl wd beh bst row c w = s at ih1 ih2
    obtain ⟨s1, s2, s3⟩ := s
    simp only at ih1 ih2
    unfold stW
    cases hf : fitW m bl G gn wl wd w c with
    | none =>
      refine ⟨fun v f g hv h1 h2 => ?_, fun b h => ?_⟩
      · by_cases c1 : v = w
        · subst c1
          rw [hf] at h1; cases h1
        · exact ih1 v f g (by omega) h1 h2
      · obtain ⟨v, f, g, q1, q2⟩ := ih2 b h
        exact ⟨v, f, g, by omega, q2⟩
    | some f0 =>
      cases hg : beh (c + wl w) with
      | none =>
        refine ⟨fun v f g hv h1 h2 => ?_, fun b h => ?_⟩
        · by_cases c1 : v = w
          · subst c1
            rw [hg] at h2; cases h2
          · exact ih1 v f g (by omega) h1 h2
        · obtain ⟨v, f, g, q1, q2⟩ := ih2 b h
          exact ⟨v, f, g, by omega, q2⟩
      | some g0 =>
        cases s1 with
        | none =>
          refine ⟨fun v f g hv h1 h2 => ?_, fun b h => ?_⟩
          · by_cases c1 : v = w
            · subst c1
              rw [hf] at h1; rw [hg] at h2
              cases h1; cases h2
              exact ⟨f0 + g0, rfl, Nat.le_refl _⟩
            · obtain ⟨b, q, -⟩ := ih1 v f g (by omega) h1 h2
              cases q
          · have : f0 + g0 = b := Option.some.inj h
            exact ⟨w, f0, g0, by omega, hf, hg, this⟩
        | some b0 =>
          have key : ∃ b', (if f0 + g0 < b0 then (some b0, s2, s3) else if f0 + g0 = b0 then (some b0, s2 + bst (c + wl w), if lowF (newR wl wd row c w) s3 (m - c) c = true then newR wl wd row c w else s3) else (some (f0 + g0), bst (c + wl w), newR wl wd row c w)).1 = some b' ∧ f0 + g0 ≤ b' ∧ b0 ≤ b' ∧ (b' = b0 ∨ b' = f0 + g0) := by
            by_cases c1 : f0 + g0 < b0
            · rw [if_pos c1]; exact ⟨b0, rfl, by omega, Nat.le_refl _, Or.inl rfl⟩
            · rw [if_neg c1]
              by_cases c2 : f0 + g0 = b0
              · rw [if_pos c2]; exact ⟨b0, rfl, by omega, Nat.le_refl _, Or.inl rfl⟩
              · rw [if_neg c2]; exact ⟨f0 + g0, rfl, Nat.le_refl _, by omega, Or.inr rfl⟩
          obtain ⟨b', k1, k2, k3, k4⟩ := key
          refine ⟨fun v f g hv h1 h2 => ⟨b', k1, ?_⟩, fun b h => ?_⟩
          · by_cases c1 : v = w
            · subst c1
              rw [hf] at h1; rw [hg] at h2
              cases h1; cases h2
              exact k2
            · obtain ⟨b, q, q'⟩ := ih1 v f g (by omega) h1 h2
              cases q
              omega
          · have hb : b' = b := Option.some.inj (k1.symm.trans h)
            rcases k4 with k4 | k4
            · obtain ⟨v, f, g, q1, q2, q3, q4⟩ := ih2 b0 rfl
              exact ⟨v, f, g, by omega, q2, q3, by omega⟩
            · exact ⟨w, f0, g0, by omega, hf, hg, by omega⟩
theorem rdT_at : ∀ T t, t ≤ T → T ≤ m → ∀ c, m - t ≤ c → c ≤ m → (rdT m W bl G gn wl wd T).1 c = (rdT m W bl G gn wl wd t).1 c := by
  intro T
  induction T with
  | zero =>
    intro t ht _ c _ _
    have : t = 0 := by omega
    subst this
    rfl
  | succ T ih =>
    intro t ht hT c h1 h2
    by_cases e : t = T + 1
    · subst e; rfl
    · rw [← ih t (by omega) (by omega) c h1 h2]
      show (if c = m - (T + 1) then _ else _) = _
      rw [if_neg (by omega)]
theorem bhP_of (hG : ∀ c k, G c k ≤ 81) (hw : ∀ w, w < W → 1 ≤ wl w) : bhP m W bl G gn wl wd (rdT m W bl G gn wl wd m).1 := by
  have at1 : ∀ p, p < m → (rdT m W bl G gn wl wd m).1 p = (celQ m W bl G gn wl wd (rdT m W bl G gn wl wd (m - (p + 1))) p).1 := fun p hp => by
    have e1 := rdT_at m W bl G gn wl wd m (m - (p + 1) + 1) (by omega) (Nat.le_refl m) p (by omega) (by omega)
    rw [e1]
    have e2 : m - (m - (p + 1) + 1) = p := by omega
    show (if p = m - (m - (p + 1) + 1) then (celQ m W bl G gn wl wd (rdT m W bl G gn wl wd (m - (p + 1))) (m - (m - (p + 1) + 1))).1 else _) = _
    rw [e2, if_pos rfl]
  have at2 : ∀ p c, p < m → p < c → c ≤ m → (rdT m W bl G gn wl wd (m - (p + 1))).1 c = (rdT m W bl G gn wl wd m).1 c := fun p c h1 h2 h3 => (rdT_at m W bl G gn wl wd m (m - (p + 1)) (by omega) (Nat.le_refl m) c (by omega) h3).symm
  have fle : ∀ p w f, w < W → fitW m bl G gn wl wd w p = some f → p + wl w ≤ m := fun p w f hwW hf => by
    have h1 := hw w hwW
    have := (fitF_le m bl G gn wd hG w p (wl w) 0 f hf).2 (by omega)
    omega
  refine ⟨?_, fun p hp hb => ?_, fun p w f g hp hb hwW hf hg => ?_, fun p b hp hb hB => ?_⟩
  · exact rdT_at m W bl G gn wl wd m 0 (Nat.zero_le _) (Nat.le_refl m) m (by omega) (Nat.le_refl m)
  · rw [at1 p hp]
    unfold celQ
    rw [if_pos hb]
    exact at2 p (p + 1) hp (by omega) (by omega)
  · rw [at1 p hp]
    unfold celQ
    rw [if_neg (by rw [hb]; decide)]
    have h1 := hw w hwW
    have h2 := fle p w f hwW hf
    exact (cellF_1 m bl G gn wl wd W).1 w f g hwW hf (by rw [at2 p _ hp (by omega) h2]; exact hg)
  · rw [at1 p hp] at hB
    unfold celQ at hB
    rw [if_neg (by rw [hb]; decide)] at hB
    obtain ⟨v, f, g, q1, q2, q3, q4⟩ := (cellF_1 m bl G gn wl wd W).2 b hB
    have h1 := hw v q1
    have h2 := fle p v f q1 q2
    exact ⟨v, f, g, q1, q2, by rw [← at2 p _ hp (by omega) h2]; exact q3, q4⟩
/-- what holds of the states -/
def gaI (S : (Nat → Option Nat) × (Nat → Int32)) : Prop := (∀ v a, S.1 v = some a → ∃ g, B v = some g ∧ a + g ≤ B0) ∧ (∀ x v, 26 ≤ v → v < 32 → bt (S.2 x) v = false)
/-- later states have more -/
def gaG (S T : (Nat → Option Nat) × (Nat → Int32)) : Prop := (∀ v a, S.1 v = some a → ∃ a', T.1 v = some a' ∧ a ≤ a') ∧ ∀ x, S.2 x ≠ 0 → T.2 x ≠ 0
theorem gaG_refl {S : (Nat → Option Nat) × (Nat → Int32)} : gaG S S := ⟨fun v a h => ⟨a, h, Nat.le_refl a⟩, fun _ h => h⟩
theorem gaG_trans {S T U : (Nat → Option Nat) × (Nat → Int32)} (h : gaG S T) (g : gaG T U) : gaG S U := by
  refine ⟨fun v a hv => ?_, fun x hx => g.2 x (h.2 x hx)⟩
  obtain ⟨a', h1, h2⟩ := h.1 v a hv
  obtain ⟨a2, h3, h4⟩ := g.1 v a' h1
  exact ⟨a2, h3, by omega⟩
theorem or_ne0 {x y : Int32} (h : x ≠ 0) : x ||| y ≠ 0 := by
  intro e
  apply h
  rw [b_eq0] at e ⊢
  intro v hv
  have := e v hv
  rw [b_or, Bool.or_eq_false_iff] at this
  exact this.1
theorem or_bit {x : Int32} {i : Nat} (hi : i < 32) : x ||| ((1 : Int32) <<< (nI i &&& 31)) ≠ 0 := by
  intro e
  rw [b_eq0] at e
  have := e i hi
  rw [b_or, b_one hi hi, decide_eq_true rfl, Bool.or_true] at this
  cases this
/-- one word's step -/
theorem gaW_st (hB : bhP m W bl G gn wl wd B) (hwd : ∀ w, w < W → 1 ≤ wl w ∧ ∀ k, k < wl w → wd w k < 26) {p w : Nat} (hp : p < m) (hb : bl p = false) (hw : w < W) {S : (Nat → Option Nat) × (Nat → Int32)} (hS : gaI B B0 S) :
    gaI B B0 (gaW m bl G gn wl wd B B0 p w S) ∧ gaG S (gaW m bl G gn wl wd B B0 p w S) ∧ (gaW m bl G gn wl wd B B0 p w S).1 p = S.1 p ∧
    (∀ a f g, S.1 p = some a → fitW m bl G gn wl wd w p = some f → B (p + wl w) = some g → (∃ a', (gaW m bl G gn wl wd B B0 p w S).1 (p + wl w) = some a' ∧ a + f ≤ a') ∧ (a + f + g = B0 → ∀ x, p ≤ x → x < p + wl w → (gaW m bl G gn wl wd B B0 p w S).2 x ≠ 0)) := by
  obtain ⟨h1, h2⟩ := hS
  obtain ⟨w1, w2⟩ := hwd w hw
  unfold gaW
  cases ha : S.1 p with
  | none => exact ⟨⟨h1, h2⟩, gaG_refl, ha, fun a f g q => by cases q⟩
  | some a =>
    cases hf : fitW m bl G gn wl wd w p with
    | none => exact ⟨⟨h1, h2⟩, gaG_refl, ha, fun a f g _ q => by cases q⟩
    | some f =>
      cases hg : B (p + wl w) with
      | none => exact ⟨⟨h1, h2⟩, gaG_refl, ha, fun a f g _ _ q => by cases q⟩
      | some g =>
        refine ⟨⟨fun v a' hv => ?_, fun x v v1 v2 => ?_⟩, ⟨fun v a' hv => ?_, fun x hx => ?_⟩, ?_, fun a' f' g' q1 q2 q3 => ⟨?_, fun q4 x x1 x2 => ?_⟩⟩
        · have hv' : (if v = p + wl w then some (mxo (S.1 (p + wl w)) (a + f)) else S.1 v) = some a' := hv
          by_cases c : v = p + wl w
          · rw [if_pos c] at hv'
            have hv2 := Option.some.inj hv'
            rw [c]
            refine ⟨g, hg, ?_⟩
            rcases mxo_or (S.1 (p + wl w)) (a + f) with q | q
            · obtain ⟨b, k1, k2⟩ := hB.2.2.1 p w f g hp hb hw hf hg
              obtain ⟨g2, k3, k4⟩ := h1 p a ha
              have : b = g2 := Option.some.inj (k1.symm.trans k3)
              omega
            · obtain ⟨g2, k3, k4⟩ := h1 _ _ q
              have : g = g2 := Option.some.inj (hg.symm.trans k3)
              omega
          · rw [if_neg c] at hv'
            exact h1 v a' hv'
        · show bt (if a + f + g = B0 ∧ p ≤ x ∧ x < p + wl w then S.2 x ||| ((1 : Int32) <<< (nI (wd w (x - p)) &&& 31)) else S.2 x) v = false
          by_cases c : a + f + g = B0 ∧ p ≤ x ∧ x < p + wl w
          · have hd := w2 (x - p) (by omega)
            rw [if_pos c, b_or, h2 x v v1 v2, b_one (by omega) v2, decide_eq_false (by omega)]
            rfl
          · rw [if_neg c]
            exact h2 x v v1 v2
        · show ∃ a2, (if v = p + wl w then some (mxo (S.1 (p + wl w)) (a + f)) else S.1 v) = some a2 ∧ a' ≤ a2
          by_cases c : v = p + wl w
          · rw [if_pos c]
            exact ⟨_, rfl, mxo_old (by rw [← c]; exact hv)⟩
          · rw [if_neg c]
            exact ⟨a', hv, Nat.le_refl _⟩
        · show (if a + f + g = B0 ∧ p ≤ x ∧ x < p + wl w then S.2 x ||| ((1 : Int32) <<< (nI (wd w (x - p)) &&& 31)) else S.2 x) ≠ 0
          by_cases c : a + f + g = B0 ∧ p ≤ x ∧ x < p + wl w
          · rw [if_pos c]; exact or_ne0 hx
          · rw [if_neg c]; exact hx
        · show (if p = p + wl w then some (mxo (S.1 (p + wl w)) (a + f)) else S.1 p) = some a
          rw [if_neg (by omega)]
          exact ha
        · cases q1; cases q2; cases q3
          refine ⟨_, if_pos rfl, mxo_ge _ _⟩
        · cases q1; cases q2; cases q3
          show (if a + f + g = B0 ∧ p ≤ x ∧ x < p + wl w then S.2 x ||| ((1 : Int32) <<< (nI (wd w (x - p)) &&& 31)) else S.2 x) ≠ 0
          have hd := w2 (x - p) (by omega)
          rw [if_pos ⟨q4, x1, x2⟩]
          exact or_bit (by omega)
theorem gaL_st (hB : bhP m W bl G gn wl wd B) (hwd : ∀ w, w < W → 1 ≤ wl w ∧ ∀ k, k < wl w → wd w k < 26) {p : Nat} (hp : p < m) (hb : bl p = false) {S : (Nat → Option Nat) × (Nat → Int32)} (hS : gaI B B0 S) : ∀ w, w ≤ W →
    gaI B B0 (gaL m bl G gn wl wd B B0 p S w) ∧ gaG S (gaL m bl G gn wl wd B B0 p S w) ∧ (gaL m bl G gn wl wd B B0 p S w).1 p = S.1 p ∧
    (∀ v a f g, v < w → S.1 p = some a → fitW m bl G gn wl wd v p = some f → B (p + wl v) = some g → (∃ a', (gaL m bl G gn wl wd B B0 p S w).1 (p + wl v) = some a' ∧ a + f ≤ a') ∧ (a + f + g = B0 → ∀ x, p ≤ x → x < p + wl v → (gaL m bl G gn wl wd B B0 p S w).2 x ≠ 0)) := by
  intro w
  induction w with
  | zero => exact fun _ => ⟨hS, gaG_refl, rfl, fun v a f g h => absurd h (Nat.not_lt_zero v)⟩
  | succ w ih =>
    intro hw
    obtain ⟨i1, i2, i3, i4⟩ := ih (by omega)
    obtain ⟨j1, j2, j3, j4⟩ := gaW_st m W bl G gn wl wd B B0 hB hwd hp hb (by omega : w < W) i1
    refine ⟨j1, gaG_trans i2 j2, j3.trans i3, fun v a f g hv ha hf hg => ?_⟩
    by_cases c : v = w
    · subst c
      exact j4 a f g (i3.trans ha) hf hg
    · obtain ⟨⟨a', k1, k2⟩, k3⟩ := i4 v a f g (by omega) ha hf hg
      obtain ⟨a2, k4, k5⟩ := j2.1 _ _ k1
      exact ⟨⟨a2, k4, by omega⟩, fun q x x1 x2 => j2.2 x (k3 q x x1 x2)⟩
theorem gaT_st (hB : bhP m W bl G gn wl wd B) (hwd : ∀ w, w < W → 1 ≤ wl w ∧ ∀ k, k < wl w → wd w k < 26) (hfl : ∀ p w f, w < W → fitW m bl G gn wl wd w p = some f → p + wl w ≤ m) (h0 : B 0 = some B0) : ∀ p, p ≤ m →
    gaI B B0 (gaT m W bl G gn wl wd B B0 p) ∧ ∃ c a g, p ≤ c ∧ c ≤ m ∧ (gaT m W bl G gn wl wd B B0 p).1 c = some a ∧ B c = some g ∧ a + g = B0 ∧ ∀ x, x < c → bl x = false → (gaT m W bl G gn wl wd B B0 p).2 x ≠ 0 := by
  intro p
  induction p with
  | zero =>
    refine fun _ => ⟨⟨fun v a hv => ?_, fun x v _ _ => b_0 v⟩, 0, 0, B0, Nat.le_refl 0, Nat.zero_le m, rfl, h0, by omega, fun x hx => by omega⟩
    have hv' : (if v = 0 then some 0 else none) = some a := hv
    by_cases c : v = 0
    · rw [if_pos c] at hv'
      have := Option.some.inj hv'
      rw [c]
      exact ⟨B0, h0, by omega⟩
    · rw [if_neg c] at hv'
      cases hv'
  | succ p ih =>
    intro hp
    obtain ⟨i1, c, a, g, k1, k2, k3, k4, k5, k6⟩ := ih (by omega)
    have e : gaT m W bl G gn wl wd B B0 (p + 1) = gaC m W bl G gn wl wd B B0 p (gaT m W bl G gn wl wd B B0 p) := rfl
    rw [e]
    generalize gaT m W bl G gn wl wd B B0 p = S at i1 k3 k6
    unfold gaC
    cases hb : bl p with
    | true =>
      rw [if_pos rfl]
      cases ha : S.1 p with
      | none =>
        refine ⟨i1, c, a, g, ?_, k2, k3, k4, k5, k6⟩
        have : c ≠ p := fun e => by rw [e, ha] at k3; cases k3
        omega
      | some a0 =>
        have hBp := hB.2.1 p (by omega) hb
        have i1' : gaI B B0 (fun x => if x = p + 1 then some (mxo (S.1 (p + 1)) a0) else S.1 x, S.2) := by
          refine ⟨fun v a' hv => ?_, i1.2⟩
          have hv' : (if v = p + 1 then some (mxo (S.1 (p + 1)) a0) else S.1 v) = some a' := hv
          by_cases cv : v = p + 1
          · rw [if_pos cv] at hv'
            have hv2 := Option.some.inj hv'
            rw [cv]
            rcases mxo_or (S.1 (p + 1)) a0 with q | q
            · obtain ⟨g2, k7, k8⟩ := i1.1 p a0 ha
              exact ⟨g2, by rw [← hBp]; exact k7, by omega⟩
            · obtain ⟨g2, k7, k8⟩ := i1.1 _ _ q
              exact ⟨g2, k7, by omega⟩
          · rw [if_neg cv] at hv'
            exact i1.1 v a' hv'
        refine ⟨i1', ?_⟩
        by_cases cp : c = p
        · subst cp
          have : a0 = a := Option.some.inj (ha.symm.trans k3)
          subst this
          have hs : (fun x => if x = c + 1 then some (mxo (S.1 (c + 1)) a0) else S.1 x) (c + 1) = some (mxo (S.1 (c + 1)) a0) := if_pos rfl
          obtain ⟨g2, k7, k8⟩ := i1'.1 (c + 1) _ hs
          have hge := mxo_ge (S.1 (c + 1)) a0
          have : g2 = g := by
            rw [← hBp, k4] at k7
            exact (Option.some.inj k7).symm
          subst this
          refine ⟨c + 1, _, g2, Nat.le_refl _, by omega, hs, by rw [← hBp]; exact k4, by omega, fun x hx hbx => ?_⟩
          by_cases cx : x = c
          · rw [cx, hb] at hbx; cases hbx
          · exact k6 x (by omega) hbx
        · by_cases cc : c = p + 1
          · have hs : (fun x => if x = p + 1 then some (mxo (S.1 (p + 1)) a0) else S.1 x) (p + 1) = some (mxo (S.1 (p + 1)) a0) := if_pos rfl
            obtain ⟨g2, k7, k8⟩ := i1'.1 (p + 1) _ hs
            have hge : a ≤ mxo (S.1 (p + 1)) a0 := mxo_old (by rw [← cc]; exact k3)
            have : g2 = g := by
              rw [← cc, k4] at k7
              exact (Option.some.inj k7).symm
            subst this
            exact ⟨p + 1, _, g2, Nat.le_refl _, hp, hs, by rw [← cc]; exact k4, by omega, fun x hx => k6 x (by omega)⟩
          · refine ⟨c, a, g, by omega, k2, ?_, k4, k5, k6⟩
            show (if c = p + 1 then some (mxo (S.1 (p + 1)) a0) else S.1 c) = some a
            rw [if_neg cc]
            exact k3
    | false =>
      rw [if_neg (by decide)]
      obtain ⟨j1, j2, j3, j4⟩ := gaL_st m W bl G gn wl wd B B0 hB hwd (by omega : p < m) hb i1 W (Nat.le_refl W)
      refine ⟨j1, ?_⟩
      by_cases cp : c = p
      · subst cp
        obtain ⟨w, f, g', q1, q2, q3, q4⟩ := hB.2.2.2 c g (by omega) hb k4
        obtain ⟨⟨a', r1, r2⟩, r3⟩ := j4 w a f g' q1 k3 q2 q3
        have hw1 := (hwd w q1).1
        obtain ⟨g2, r4, r5⟩ := j1.1 _ _ r1
        have : g2 = g' := Option.some.inj (r4.symm.trans q3)
        subst this
        refine ⟨c + wl w, a', g2, by omega, hfl c w f q1 q2, r1, q3, by omega, fun x hx hbx => ?_⟩
        by_cases cx : x < c
        · exact j2.2 x (k6 x cx hbx)
        · exact r3 (by omega) x (by omega) hx
      · obtain ⟨a', r1, r2⟩ := j2.1 c a k3
        obtain ⟨g2, r4, r5⟩ := j1.1 _ _ r1
        have : g2 = g := Option.some.inj (r4.symm.trans k4)
        subst this
        exact ⟨c, a', g2, by omega, k2, r1, k4, by omega, fun x hx hbx => j2.2 x (k6 x hx hbx)⟩
end
