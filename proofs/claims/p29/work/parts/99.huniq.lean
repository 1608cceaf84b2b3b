/-! one best reading: one letter at each cell -/
section
variable {m W : Nat} {bl : Nat → Bool} {G : Nat → Nat → Nat} {gn : Nat → Nat} {wl : Nat → Nat} {wd : Nat → Nat → Nat}
def stp (m W : Nat) (bl : Nat → Bool) (G : Nat → Nat → Nat) (gn : Nat → Nat) (wl : Nat → Nat) (wd : Nat → Nat → Nat) (B : Nat → Option Nat) (p q : Nat) : Prop := p < m ∧ ((bl p = true ∧ q = p + 1) ∨ (bl p = false ∧ ∃ w b, w < W ∧ B p = some b ∧ optW m bl G gn wl wd B p b w ∧ q = p + wl w))
def opR (m W : Nat) (bl : Nat → Bool) (G : Nat → Nat → Nat) (gn : Nat → Nat) (wl : Nat → Nat) (wd : Nat → Nat → Nat) (B : Nat → Option Nat) (v : Nat) : Prop := ∀ Q : Nat → Prop, Q 0 → (∀ p q, stp m W bl G gn wl wd B p q → Q p → Q q) → Q v
theorem opn_0 {B : Nat → Option Nat} : opR m W bl G gn wl wd B 0 := fun _ h _ => h
theorem opn_s {B : Nat → Option Nat} {p q : Nat} (h : opR m W bl G gn wl wd B p) (hs : stp m W bl G gn wl wd B p q) : opR m W bl G gn wl wd B q := fun Q h0 hq => hq p q hs (h Q h0 hq)
theorem op_pre {B : Nat → Option Nat} {v : Nat} (h : opR m W bl G gn wl wd B v) : v = 0 ∨ ∃ u, opR m W bl G gn wl wd B u ∧ stp m W bl G gn wl wd B u v := by
  have := h (fun v => opR m W bl G gn wl wd B v ∧ (v = 0 ∨ ∃ u, opR m W bl G gn wl wd B u ∧ stp m W bl G gn wl wd B u v)) ⟨opn_0, Or.inl rfl⟩ (fun p q hs hp => ⟨opn_s hp.1 hs, Or.inr ⟨p, hp.1, hs⟩⟩)
  exact this.2
variable {S : (Nat → Option Nat) × (Nat → Int32) × (Nat → Nat → Int32)}
theorem op_one (hG : ∀ c k, G c k ≤ 81) (hw : ∀ w, w < W → 1 ≤ wl w) (hA : ∀ c, c ≤ m → wyA m W bl G gn wl wd S c) (h0 : S.1 0 ≠ none) (h1 : nW S 0 = 1) {v : Nat} (h : opR m W bl G gn wl wd S.1 v) : v ≤ m ∧ S.1 v ≠ none ∧ nW S v = 1 := by
  refine h (fun v => v ≤ m ∧ S.1 v ≠ none ∧ nW S v = 1) ⟨Nat.zero_le m, h0, h1⟩ (fun p q hs hp => ?_)
  obtain ⟨p1, p2, p3⟩ := hp
  obtain ⟨hpm, hs⟩ := hs
  obtain ⟨a1, a2, a3, a4, a5⟩ := hA p p1
  rcases hs with ⟨hb, rfl⟩ | ⟨hb, w, b, hwW, hB, ⟨f, g, o1, o2, o3⟩, rfl⟩
  · obtain ⟨q1, q2⟩ := a4 hpm hb
    exact ⟨by omega, by rw [← q1]; exact p2, by rw [← q2]; exact p3⟩
  · have hle := fitW_le hG (hw w hwW) o1
    have hne : S.1 (p + wl w) ≠ none := by rw [o2]; nofun
    have hN := (a5 hpm hb b hB).1 w hwW ⟨f, g, o1, o2, o3⟩
    have hge := (hA (p + wl w) hle).2.2.1 hne
    exact ⟨hle, hne, by omega⟩
theorem stp_lt {B : Nat → Option Nat} (hw : ∀ w, w < W → 1 ≤ wl w) {p q : Nat} (h : stp m W bl G gn wl wd B p q) : p < q := by
  obtain ⟨_, ⟨-, rfl⟩ | ⟨-, w, b, hwW, -, -, rfl⟩⟩ := h
  · omega
  · have := hw w hwW; omega
theorem op_w (hG : ∀ c k, G c k ≤ 81) (hw : ∀ w, w < W → 1 ≤ wl w) (hA : ∀ c, c ≤ m → wyA m W bl G gn wl wd S c) (h0 : S.1 0 ≠ none) (h1 : nW S 0 = 1) {p b b' v v' : Nat} (h : opR m W bl G gn wl wd S.1 p) (hp : p < m) (hb : bl p = false) (hB : S.1 p = some b) (hB' : S.1 p = some b') (hv : v < W) (hv' : v' < W) (o : optW m bl G gn wl wd S.1 p b v) (o' : optW m bl G gn wl wd S.1 p b' v') : v = v' := by
  have e : b = b' := Option.some.inj (hB.symm.trans hB')
  subst e
  have hone := (op_one hG hw hA h0 h1 h).2.2
  by_cases hne : v = v'
  · exact hne
  · have := ((hA p (by omega)).2.2.2.2 hp hb b hB).2 v v' hv hv' hne o o'
    omega
theorem stp_fun (hG : ∀ c k, G c k ≤ 81) (hw : ∀ w, w < W → 1 ≤ wl w) (hA : ∀ c, c ≤ m → wyA m W bl G gn wl wd S c) (h0 : S.1 0 ≠ none) (h1 : nW S 0 = 1) {p q q' : Nat} (h : opR m W bl G gn wl wd S.1 p) (hq : stp m W bl G gn wl wd S.1 p q) (hq' : stp m W bl G gn wl wd S.1 p q') : q = q' := by
  obtain ⟨hp, hq⟩ := hq
  obtain ⟨-, hq'⟩ := hq'
  rcases hq with ⟨hb, rfl⟩ | ⟨hb, w, b, hwW, hB, o, rfl⟩
  · rcases hq' with ⟨_, rfl⟩ | ⟨hb', _⟩
    · rfl
    · rw [hb] at hb'; cases hb'
  · rcases hq' with ⟨hb', _⟩ | ⟨hb', w', b', hwW', hB', o', rfl⟩
    · rw [hb] at hb'; cases hb'
    · rw [op_w hG hw hA h0 h1 h hp hb hB hB' hwW hwW' o o']
theorem op_chain (hG : ∀ c k, G c k ≤ 81) (hw : ∀ w, w < W → 1 ≤ wl w) (hA : ∀ c, c ≤ m → wyA m W bl G gn wl wd S c) (h0 : S.1 0 ≠ none) (h1 : nW S 0 = 1) : ∀ n u v, u + v ≤ n → opR m W bl G gn wl wd S.1 u → opR m W bl G gn wl wd S.1 v → v < u → ∀ v', stp m W bl G gn wl wd S.1 v v' → v' ≤ u := by
  intro n
  induction n with
  | zero => intro u v h _ _ hl; omega
  | succ n ih =>
    intro u v hn hu hv hl v' hv'
    rcases op_pre hu with q | ⟨u', hu', hs⟩
    · omega
    · have hlt := stp_lt hw hs
      by_cases c1 : v = u'
      · subst c1
        rw [stp_fun hG hw hA h0 h1 hv hv' hs]
        exact Nat.le_refl _
      · by_cases c2 : v < u'
        · have := ih u' v (by omega) hu' hv c2 v' hv'
          omega
        · have := ih v u' (by omega) hv hu' (by omega) u hs
          omega
/-- a letter on a best way -/
def onW (m W : Nat) (bl : Nat → Bool) (G : Nat → Nat → Nat) (gn : Nat → Nat) (wl : Nat → Nat) (wd : Nat → Nat → Nat) (B : Nat → Option Nat) (x i : Nat) : Prop := ∃ q w b, opR m W bl G gn wl wd B q ∧ q < m ∧ bl q = false ∧ w < W ∧ B q = some b ∧ optW m bl G gn wl wd B q b w ∧ q ≤ x ∧ x < q + wl w ∧ i = wd w (x - q)
def gaO (m W : Nat) (bl : Nat → Bool) (G : Nat → Nat → Nat) (gn : Nat → Nat) (wl : Nat → Nat) (wd : Nat → Nat → Nat) (B : Nat → Option Nat) (B0 : Nat) (T : (Nat → Option Nat) × (Nat → Int32)) : Prop := (∀ v a g, T.1 v = some a → B v = some g → a + g = B0 → opR m W bl G gn wl wd B v) ∧ ∀ x i, i < 32 → bt (T.2 x) i = true → onW m W bl G gn wl wd B x i
theorem gaW_O {B : Nat → Option Nat} {B0 p w : Nat} (hB : bhP m W bl G gn wl wd B) (hwd : ∀ w, w < W → 1 ≤ wl w ∧ ∀ k, k < wl w → wd w k < 26) (hp : p < m) (hb : bl p = false) (hw : w < W) {T : (Nat → Option Nat) × (Nat → Int32)} (hI : gaI B B0 T) (hT : gaO m W bl G gn wl wd B B0 T) : gaO m W bl G gn wl wd B B0 (gaW m bl G gn wl wd B B0 p w T) := by
  unfold gaW
  cases h1 : T.1 p with
  | none => simp only [h1]; exact hT
  | some a =>
    cases h2 : fitW m bl G gn wl wd w p with
    | none => simp only [h1, h2]; exact hT
    | some f =>
      cases h3 : B (p + wl w) with
      | none => simp only [h1, h2, h3]; exact hT
      | some g =>
        simp only [h1, h2, h3]
        have best : a + f + g = B0 → ∃ b, B p = some b ∧ opR m W bl G gn wl wd B p ∧ optW m bl G gn wl wd B p b w := fun he => by
          obtain ⟨b, q1, q2⟩ := hB.2.2.1 p w f g hp hb hw h2 h3
          obtain ⟨b', q3, q4⟩ := hI.1 p a h1
          have : b' = b := Option.some.inj (q3.symm.trans q1)
          subst this
          exact ⟨b', q1, hT.1 p a b' h1 q1 (by omega), f, g, h2, h3, by omega⟩
        refine ⟨fun v a' g' hv hg he => ?_, fun x i hi hbit => ?_⟩
        · simp only at hv
          by_cases hvp : v = p + wl w
          · rw [if_pos hvp] at hv
            have hv := Option.some.inj hv
            rcases mxo_or (T.1 (p + wl w)) (a + f) with q | q
            · have hg' : g' = g := by rw [hvp] at hg; exact Option.some.inj (hg.symm.trans h3)
              obtain ⟨b, r1, r2, r3⟩ := best (by omega)
              rw [hvp]
              exact opn_s r2 ⟨hp, Or.inr ⟨hb, w, b, hw, r1, r3, rfl⟩⟩
            · refine hT.1 v a' g' ?_ hg he
              rw [hvp, ← hv]
              exact q
          · rw [if_neg hvp] at hv
            exact hT.1 v a' g' hv hg he
        · simp only at hbit
          by_cases hc : a + f + g = B0 ∧ p ≤ x ∧ x < p + wl w
          · rw [if_pos hc, b_or] at hbit
            rcases Bool.or_eq_true_iff.mp hbit with q | q
            · exact hT.2 x i hi q
            · have hlt := (hwd w hw).2 (x - p) (by omega)
              rw [b_one (by omega) hi] at q
              have e : i = wd w (x - p) := of_decide_eq_true q
              obtain ⟨b, r1, r2, r3⟩ := best hc.1
              exact ⟨p, w, b, r2, hp, hb, hw, r1, r3, hc.2.1, hc.2.2, e⟩
          · rw [if_neg hc] at hbit
            exact hT.2 x i hi hbit
theorem gaL_O {B : Nat → Option Nat} {B0 p : Nat} (hB : bhP m W bl G gn wl wd B) (hwd : ∀ w, w < W → 1 ≤ wl w ∧ ∀ k, k < wl w → wd w k < 26) (hp : p < m) (hb : bl p = false) {T : (Nat → Option Nat) × (Nat → Int32)} (hI : gaI B B0 T) (hT : gaO m W bl G gn wl wd B B0 T) : ∀ w, w ≤ W → gaO m W bl G gn wl wd B B0 (gaL m bl G gn wl wd B B0 p T w)
  | 0, _ => hT
  | w + 1, hw => gaW_O hB hwd hp hb (by omega) (gaL_st m W bl G gn wl wd B B0 hB hwd hp hb hI w (by omega)).1 (gaL_O hB hwd hp hb hI hT w (by omega))
theorem gaT_O {B : Nat → Option Nat} {B0 : Nat} (hB : bhP m W bl G gn wl wd B) (hwd : ∀ w, w < W → 1 ≤ wl w ∧ ∀ k, k < wl w → wd w k < 26) (hfl : ∀ p w f, w < W → fitW m bl G gn wl wd w p = some f → p + wl w ≤ m) (h0 : B 0 = some B0) : ∀ p, p ≤ m → gaO m W bl G gn wl wd B B0 (gaT m W bl G gn wl wd B B0 p) := by
  intro p
  induction p with
  | zero =>
    intro _
    refine ⟨fun v a g hv hg he => ?_, fun x i hi hbit => ?_⟩
    · have hv : (if v = 0 then some 0 else none) = some a := hv
      by_cases hv0 : v = 0
      · rw [hv0]; exact opn_0
      · rw [if_neg hv0] at hv; cases hv
    · have hbit : bt (0 : Int32) i = true := hbit
      rw [b_0] at hbit
      cases hbit
  | succ p ih =>
    intro hp
    have hT := ih (by omega)
    have hI := (gaT_st m W bl G gn wl wd B B0 hB hwd hfl h0 p (by omega)).1
    show gaO m W bl G gn wl wd B B0 (gaC m W bl G gn wl wd B B0 p (gaT m W bl G gn wl wd B B0 p))
    generalize gaT m W bl G gn wl wd B B0 p = T at hT hI
    unfold gaC
    by_cases hb : bl p = true
    · rw [if_pos hb]
      cases h1 : T.1 p with
      | none => simp only [h1]; exact hT
      | some a =>
        simp only [h1]
        refine ⟨fun v a' g' hv hg he => ?_, hT.2⟩
        simp only at hv
        by_cases hvp : v = p + 1
        · rw [if_pos hvp] at hv
          have hv := Option.some.inj hv
          rcases mxo_or (T.1 (p + 1)) a with q | q
          · have hbp := hB.2.1 p (by omega) hb
            rw [hvp]
            refine opn_s (hT.1 p a g' h1 (by rw [hbp, ← hvp]; exact hg) (by omega)) ⟨by omega, Or.inl ⟨hb, rfl⟩⟩
          · refine hT.1 v a' g' ?_ hg he
            rw [hvp, ← hv]
            exact q
        · rw [if_neg hvp] at hv
          exact hT.1 v a' g' hv hg he
    · rw [if_neg hb]
      exact gaL_O hB hwd (by omega) (Bool.eq_false_iff.mpr hb) hI hT W (Nat.le_refl W)
theorem one_letter (hG : ∀ c k, G c k ≤ 81) (hwd : ∀ w, w < W → 1 ≤ wl w ∧ ∀ k, k < wl w → wd w k < 26) (hA : ∀ c, c ≤ m → wyA m W bl G gn wl wd S c) (h0 : S.1 0 ≠ none) (h1 : nW S 0 = 1) {x i j : Nat} (hi : onW m W bl G gn wl wd S.1 x i) (hj : onW m W bl G gn wl wd S.1 x j) : i = j := by
  have hw : ∀ w, w < W → 1 ≤ wl w := fun w q => (hwd w q).1
  obtain ⟨q, w, b, r1, r2, r3, r4, r5, r6, r7, r8, r9⟩ := hi
  obtain ⟨q', w', b', s1, s2, s3, s4, s5, s6, s7, s8, s9⟩ := hj
  have hqq : q = q' := by
    by_cases c1 : q < q'
    · have := op_chain hG hw hA h0 h1 (q' + q) q' q (Nat.le_refl _) s1 r1 c1 (q + wl w) ⟨r2, Or.inr ⟨r3, w, b, r4, r5, r6, rfl⟩⟩
      omega
    · by_cases c2 : q' < q
      · have := op_chain hG hw hA h0 h1 (q + q') q q' (Nat.le_refl _) r1 s1 c2 (q' + wl w') ⟨s2, Or.inr ⟨s3, w', b', s4, s5, s6, rfl⟩⟩
        omega
      · omega
  subst hqq
  have hww := op_w hG hw hA h0 h1 r1 r2 r3 r5 s5 r4 s4 r6 s6
  subst hww
  rw [r9, s9]
end
theorem bcE_1 : bcE 0 ≤ 1 ∧ ∀ i, i < 32 → bcE ((1 : Int32) <<< (nI i &&& 31)) ≤ 1 := by decide +kernel
theorem bcE_le {m : Int32} (h : ∀ i j, i < 32 → j < 32 → bt m i = true → bt m j = true → i = j) : bcE m ≤ 1 := by
  by_cases c : m = 0
  · rw [c]; exact bcE_1.1
  · have hex : ∃ i, i < 32 ∧ bt m i = true := by
      refine Classical.byContradiction (fun q => c ((b_eq0 m).mpr (fun v hv => ?_)))
      exact Bool.eq_false_iff.mpr (fun z => q ⟨v, hv, z⟩)
    obtain ⟨i, hi, hbi⟩ := hex
    have e : m = (1 : Int32) <<< (nI i &&& 31) := b_ext fun v hv => by
      rw [b_one hi hv]
      by_cases hvi : v = i
      · rw [hvi, hbi, decide_eq_true rfl]
      · rw [decide_eq_false hvi]
        exact Bool.eq_false_iff.mpr (fun z => hvi (h v i hv hi z hbi))
    rw [e]
    exact bcE_1.2 i hi
