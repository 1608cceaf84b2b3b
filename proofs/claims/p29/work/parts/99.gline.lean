/-! reading a line: how many readings, which letters -/
section
variable {m W : Nat} {bl : Nat → Bool} {G : Nat → Nat → Nat} {gn : Nat → Nat} {wl : Nat → Nat} {wd : Nat → Nat → Nat}
theorem fitF_nb (w c : Nat) : ∀ d k f, fitF m bl G gn wd w c d k = some f → ∀ i, k ≤ i → i < k + d → bl (c + i) = false := by
  intro d
  induction d with
  | zero => intro k f _ i h1 h2; omega
  | succ d ih =>
    intro k f h i h1 h2
    unfold fitF at h
    split at h
    · cases h
    · split at h
      · cases h
      · split at h
        · cases h
        · next q1 q2 q3 =>
          cases hf : fitF m bl G gn wd w c d (k + 1) with
          | none => rw [hf] at h; cases h
          | some x =>
            by_cases hi : i = k
            · subst hi
              exact Bool.eq_false_iff.mpr q2
            · exact ih (k + 1) x hf i (by omega) (by omega)
theorem fitW_nb {w c f : Nat} (h : fitW m bl G gn wl wd w c = some f) {k : Nat} (h1 : c ≤ k) (h2 : k < c + wl w) : bl k = false := by
  have := fitF_nb w c (wl w) 0 f h (k - c) (by omega) (by omega)
  rw [show c + (k - c) = k by omega] at this
  exact this
theorem fitW_le (hG : ∀ c k, G c k ≤ 81) {w c f : Nat} (hw : 1 ≤ wl w) (h : fitW m bl G gn wl wd w c = some f) : c + wl w ≤ m := by
  have := (fitF_le m bl G gn wd hG w c (wl w) 0 f h).2 (by omega)
  omega
/-- the best words at a place -/
def optW (m : Nat) (bl : Nat → Bool) (G : Nat → Nat → Nat) (gn : Nat → Nat) (wl : Nat → Nat) (wd : Nat → Nat → Nat) (B : Nat → Option Nat) (c b v : Nat) : Prop := ∃ f g, fitW m bl G gn wl wd v c = some f ∧ B (c + wl v) = some g ∧ f + g = b
def nW (S : (Nat → Option Nat) × (Nat → Int32) × (Nat → Nat → Int32)) (c : Nat) : Nat := (S.2.1 c).toNatClampNeg
def wyA (m W : Nat) (bl : Nat → Bool) (G : Nat → Nat → Nat) (gn : Nat → Nat) (wl : Nat → Nat) (wd : Nat → Nat → Nat) (S : (Nat → Option Nat) × (Nat → Int32) × (Nat → Nat → Int32)) (c : Nat) : Prop := S.2.1 c = nI (nW S c) ∧ nW S c ≤ 12 ^ (m - c) ∧ (S.1 c ≠ none → 1 ≤ nW S c) ∧
  (c < m → bl c = true → S.1 c = S.1 (c + 1) ∧ nW S c = nW S (c + 1)) ∧
  (c < m → bl c = false → ∀ b, S.1 c = some b → (∀ v, v < W → optW m bl G gn wl wd S.1 c b v → nW S (c + wl v) ≤ nW S c) ∧ (∀ v v', v < W → v' < W → v ≠ v' → optW m bl G gn wl wd S.1 c b v → optW m bl G gn wl wd S.1 c b v' → 2 ≤ nW S c))
theorem wyA_cg {S T : (Nat → Option Nat) × (Nat → Int32) × (Nat → Nat → Int32)} {c : Nat} (h1 : ∀ x, c ≤ x → T.1 x = S.1 x) (h2 : ∀ x, c ≤ x → T.2.1 x = S.2.1 x) (h : wyA m W bl G gn wl wd S c) : wyA m W bl G gn wl wd T c := by
  have en : ∀ x, c ≤ x → nW T x = nW S x := fun x hx => by unfold nW; rw [h2 x hx]
  obtain ⟨a1, a2, a3, a4, a5⟩ := h
  have eo : ∀ b v, optW m bl G gn wl wd T.1 c b v ↔ optW m bl G gn wl wd S.1 c b v := fun b v => by
    unfold optW
    rw [h1 (c + wl v) (by omega)]
  refine ⟨?_, ?_, ?_, ?_, ?_⟩
  · rw [h2 c (by omega), en c (by omega)]; exact a1
  · rw [en c (by omega)]; exact a2
  · rw [h1 c (by omega), en c (by omega)]; exact a3
  · rw [h1 c (by omega), h1 (c + 1) (by omega), en c (by omega), en (c + 1) (by omega)]; exact a4
  · intro hc hb b hs
    rw [h1 c (by omega)] at hs
    obtain ⟨q1, q2⟩ := a5 hc hb b hs
    refine ⟨fun v hv ho => ?_, fun v v' hv hv' hne ho ho' => ?_⟩
    · rw [en c (by omega), en (c + wl v) (by omega)]
      exact q1 v hv ((eo b v).mp ho)
    · rw [en c (by omega)]
      exact q2 v v' hv hv' hne ((eo b v).mp ho) ((eo b v').mp ho')
theorem pow12 {a b : Nat} (h : a ≤ b) : 12 ^ a ≤ 12 ^ b := Nat.pow_le_pow_right (by omega) h
theorem pow12_8 {a : Nat} (h : a ≤ 8) : 12 ^ a ≤ 429981696 := Nat.le_trans (pow12 h) (by decide)
/-- counting at one cell -/
theorem cellF_n (hG : ∀ c k, G c k ≤ 81) (hw : ∀ w, w < W → 1 ≤ wl w) (hW : W ≤ 12) (hm : m ≤ 8) {S : (Nat → Option Nat) × (Nat → Int32) × (Nat → Nat → Int32)} {c : Nat} (hc : c < m)
    (hS : ∀ x, c < x → x ≤ m → wyA m W bl G gn wl wd S x) : ∀ w, w ≤ W → ∃ n, (cellF m bl G gn wl wd S.1 S.2.1 S.2.2 c w).2.1 = nI n ∧ n ≤ w * 12 ^ (m - c - 1) ∧ ((cellF m bl G gn wl wd S.1 S.2.1 S.2.2 c w).1 ≠ none → 1 ≤ n) ∧
      ∀ b, (cellF m bl G gn wl wd S.1 S.2.1 S.2.2 c w).1 = some b → (∀ v, v < w → optW m bl G gn wl wd S.1 c b v → nW S (c + wl v) ≤ n) ∧ (∀ v v', v < w → v' < w → v ≠ v' → optW m bl G gn wl wd S.1 c b v → optW m bl G gn wl wd S.1 c b v' → 2 ≤ n) := by
  have hn1 : ∀ v, v < W → ∀ f g, fitW m bl G gn wl wd v c = some f → S.1 (c + wl v) = some g → S.2.1 (c + wl v) = nI (nW S (c + wl v)) ∧ 1 ≤ nW S (c + wl v) ∧ nW S (c + wl v) ≤ 12 ^ (m - c - 1) := fun v hv f g hf hg => by
    have hle := fitW_le hG (hw v hv) hf
    have h1 := hw v hv
    obtain ⟨a1, a2, a3, -⟩ := hS (c + wl v) (by omega) hle
    exact ⟨a1, a3 (by rw [hg]; nofun), Nat.le_trans a2 (pow12 (by omega))⟩
  have hp := pow12_8 (a := m - c - 1) (by omega)
  intro w
  induction w with
  | zero =>
    intro _
    exact ⟨0, rfl, Nat.zero_le _, fun h => absurd rfl h, fun b h => by cases h⟩
  | succ w ih =>
    intro hwW
    obtain ⟨n, e1, e2, e3, e4⟩ := ih (by omega)
    have hwP : w * 12 ^ (m - c - 1) ≤ 12 * 429981696 := Nat.mul_le_mul (by omega) hp
    have esucc : (w + 1) * 12 ^ (m - c - 1) = w * 12 ^ (m - c - 1) + 12 ^ (m - c - 1) := Nat.succ_mul _ _
    have c1 := cellF_1 (m := m) (bl := bl) (G := G) (gn := gn) (wl := wl) (wd := wd) (beh := S.1) (bst := S.2.1) (row := S.2.2) (c := c) w
    have ec : cellF m bl G gn wl wd S.1 S.2.1 S.2.2 c (w + 1) = stW m bl G gn wl wd S.1 S.2.1 S.2.2 c w (cellF m bl G gn wl wd S.1 S.2.1 S.2.2 c w) := rfl
    rw [ec]
    generalize cellF m bl G gn wl wd S.1 S.2.1 S.2.2 c w = s at e1 e2 e3 e4 c1
    -- the word does not fit, or nothing stands behind it
    have skip : (∀ f g, fitW m bl G gn wl wd w c = some f → S.1 (c + wl w) = some g → False) → ∃ n, s.2.1 = nI n ∧ n ≤ (w + 1) * 12 ^ (m - c - 1) ∧ (s.1 ≠ none → 1 ≤ n) ∧ ∀ b, s.1 = some b → (∀ v, v < w + 1 → optW m bl G gn wl wd S.1 c b v → nW S (c + wl v) ≤ n) ∧ (∀ v v', v < w + 1 → v' < w + 1 → v ≠ v' → optW m bl G gn wl wd S.1 c b v → optW m bl G gn wl wd S.1 c b v' → 2 ≤ n) := fun hno => by
      have hlt : ∀ b v, v < w + 1 → optW m bl G gn wl wd S.1 c b v → v < w := fun b v hv ⟨f, g, o1, o2, _⟩ => by
        by_cases hvw : v = w
        · subst hvw
          exact absurd o2 (fun o2 => hno f g o1 o2)
        · omega
      refine ⟨n, e1, Nat.le_trans e2 (by rw [esucc]; exact Nat.le_add_right _ _), e3, fun b hb => ?_⟩
      obtain ⟨q1, q2⟩ := e4 b hb
      exact ⟨fun v hv ho => q1 v (hlt b v hv ho) ho, fun v v' hv hv' hne ho ho' => q2 v v' (hlt b v hv ho) (hlt b v' hv' ho') hne ho ho'⟩
    unfold stW
    cases hf : fitW m bl G gn wl wd w c with
    | none => exact skip (fun f g q _ => by rw [hf] at q; cases q)
    | some f =>
      cases hg : S.1 (c + wl w) with
      | none => exact skip (fun f g _ q => by rw [hg] at q; cases q)
      | some g =>
        obtain ⟨b1, b2, b3⟩ := hn1 w (by omega) f g hf hg
        -- only this word is best
        have only : (∀ b', s.1 = some b' → b' < f + g) → ∃ n, S.2.1 (c + wl w) = nI n ∧ n ≤ (w + 1) * 12 ^ (m - c - 1) ∧ (some (f + g) ≠ none → 1 ≤ n) ∧ ∀ b, some (f + g) = some b → (∀ v, v < w + 1 → optW m bl G gn wl wd S.1 c b v → nW S (c + wl v) ≤ n) ∧ (∀ v v', v < w + 1 → v' < w + 1 → v ≠ v' → optW m bl G gn wl wd S.1 c b v → optW m bl G gn wl wd S.1 c b v' → 2 ≤ n) := fun hlow => by
          have hv : ∀ v, v < w + 1 → optW m bl G gn wl wd S.1 c (f + g) v → v = w := fun v hv ⟨f', g', o1, o2, o3⟩ => by
            by_cases hvw : v = w
            · exact hvw
            · obtain ⟨b', r1, r2⟩ := c1.1 v f' g' (by omega) o1 o2
              have := hlow b' r1
              omega
          refine ⟨nW S (c + wl w), b1, Nat.le_trans b3 (by rw [esucc]; exact Nat.le_add_left _ _), fun _ => b2, fun b hb => ?_⟩
          cases hb
          refine ⟨fun v hvv ho => ?_, fun v v' hvv hvv' hne ho ho' => ?_⟩
          · rw [hv v hvv ho]
            exact Nat.le_refl _
          · exact absurd ((hv v hvv ho).trans (hv v' hvv' ho').symm) hne
        cases hs : s.1 with
        | none =>
          simp only [hs]
          exact only (fun b' q => by rw [hs] at q; cases q)
        | some b =>
          simp only [hs]
          by_cases l1 : f + g < b
          · simp only [if_pos l1, hs]
            have hlt : ∀ v, v < w + 1 → optW m bl G gn wl wd S.1 c b v → v < w := fun v hv ⟨f', g', o1, o2, o3⟩ => by
              by_cases hvw : v = w
              · subst hvw
                rw [hf] at o1; rw [hg] at o2
                cases o1; cases o2
                omega
              · omega
            refine ⟨n, e1, Nat.le_trans e2 (by rw [esucc]; exact Nat.le_add_right _ _), fun _ => e3 (by rw [hs]; nofun), fun b' hb' => ?_⟩
            cases hb'
            obtain ⟨q1, q2⟩ := e4 b hs
            exact ⟨fun v hv ho => q1 v (hlt v hv ho) ho, fun v v' hv hv' hne ho ho' => q2 v v' (hlt v hv ho) (hlt v' hv' ho') hne ho ho'⟩
          · by_cases l2 : f + g = b
            · simp only [if_neg l1, if_pos l2]
              have hn := e3 (by rw [hs]; nofun)
              refine ⟨n + nW S (c + wl w), ?_, by rw [esucc]; exact Nat.add_le_add e2 b3, fun _ => by omega, fun b' hb' => ?_⟩
              · rw [e1, b1, zn_add]
              · cases hb'
                obtain ⟨q1, q2⟩ := e4 b hs
                refine ⟨fun v hv ho => ?_, fun v v' hv hv' hne ho ho' => ?_⟩
                · by_cases hvw : v = w
                  · subst hvw; omega
                  · have := q1 v (by omega) ho
                    omega
                · by_cases hvw : v = w
                  · omega
                  · by_cases hvw' : v' = w
                    · omega
                    · have := q2 v v' (by omega) (by omega) hne ho ho'
                      omega
            · simp only [if_neg l1, if_neg l2]
              exact only (fun b' q => by rw [hs] at q; cases q; omega)
theorem rdT_n (hG : ∀ c k, G c k ≤ 81) (hw : ∀ w, w < W → 1 ≤ wl w) (hW : W ≤ 12) (hm : m ≤ 8) : ∀ t, t ≤ m → ∀ c, m - t ≤ c → c ≤ m → wyA m W bl G gn wl wd (rdT m W bl G gn wl wd t) c := by
  intro t
  induction t with
  | zero =>
    intro _ c h1 h2
    have hcm : c = m := by omega
    subst hcm
    have e1 : nW (rdT c W bl G gn wl wd 0) c = 1 := by show (1 : Int32).toNatClampNeg = 1; decide
    refine ⟨?_, ?_, ?_, fun h => absurd h (Nat.lt_irrefl _), fun h => absurd h (Nat.lt_irrefl _)⟩
    · rw [e1]; rfl
    · rw [e1, Nat.sub_self]; exact Nat.le_refl 1
    · rw [e1]; exact fun _ => Nat.le_refl 1
  | succ t ih =>
    intro ht c h1 h2
    have ih' := ih (by omega)
    have eT : rdT m W bl G gn wl wd (t + 1) = setQ (rdT m W bl G gn wl wd t) (m - (t + 1)) (celQ m W bl G gn wl wd (rdT m W bl G gn wl wd t) (m - (t + 1))) := rfl
    generalize rdT m W bl G gn wl wd t = S at ih' eT
    generalize hd : m - (t + 1) = d at eT h1
    have hdm : d < m := by omega
    have ho1 : ∀ x, x ≠ d → (setQ S d (celQ m W bl G gn wl wd S d)).1 x = S.1 x := fun x hx => if_neg hx
    have ho2 : ∀ x, x ≠ d → (setQ S d (celQ m W bl G gn wl wd S d)).2.1 x = S.2.1 x := fun x hx => if_neg hx
    have hs1 : (setQ S d (celQ m W bl G gn wl wd S d)).1 d = (celQ m W bl G gn wl wd S d).1 := if_pos rfl
    have hs2 : (setQ S d (celQ m W bl G gn wl wd S d)).2.1 d = (celQ m W bl G gn wl wd S d).2.1 := if_pos rfl
    rw [eT]
    by_cases hcd : c = d
    · subst hcd
      have en : ∀ x, x ≠ c → nW (setQ S c (celQ m W bl G gn wl wd S c)) x = nW S x := fun x hx => by unfold nW; rw [ho2 x hx]
      have eo : ∀ b v, v < W → (optW m bl G gn wl wd (setQ S c (celQ m W bl G gn wl wd S c)).1 c b v ↔ optW m bl G gn wl wd S.1 c b v) := fun b v hv => by
        unfold optW
        rw [ho1 (c + wl v) (by have := hw v hv; omega)]
      have hpm : 12 ^ (m - c) = 12 * 12 ^ (m - c - 1) := by rw [show m - c = (m - c - 1) + 1 by omega, Nat.pow_succ, Nat.mul_comm]; rfl
      have hp8 := pow12_8 (a := m - c) (by omega)
      by_cases hb : bl c = true
      · have eq : celQ m W bl G gn wl wd S c = (S.1 (c + 1), S.2.1 (c + 1), fun k => if k = c then -1 else S.2.2 (c + 1) k) := by unfold celQ; rw [if_pos hb]
        obtain ⟨a1, a2, a3, -, -⟩ := ih' (c + 1) (by omega) (by omega)
        have ev : nW (setQ S c (celQ m W bl G gn wl wd S c)) c = nW S (c + 1) := by unfold nW; rw [hs2, eq]
        refine ⟨?_, ?_, ?_, fun _ _ => ⟨?_, ?_⟩, fun _ q => absurd q (by rw [hb]; nofun)⟩
        · rw [ev, hs2, eq]; exact a1
        · rw [ev]; exact Nat.le_trans a2 (pow12 (by omega))
        · rw [ev, hs1, eq]; exact a3
        · rw [hs1, ho1 (c + 1) (by omega), eq]
        · rw [ev, en (c + 1) (by omega)]
      · have eq : celQ m W bl G gn wl wd S c = cellF m bl G gn wl wd S.1 S.2.1 S.2.2 c W := by unfold celQ; rw [if_neg hb]
        obtain ⟨n, q1, q2, q3, q4⟩ := cellF_n hG hw hW hm hdm (fun x h1 h2 => ih' x (by omega) h2) W (Nat.le_refl W)
        have hn : n ≤ 12 ^ (m - c) := Nat.le_trans q2 (by rw [hpm]; exact Nat.mul_le_mul_right _ hW)
        have ev : nW (setQ S c (celQ m W bl G gn wl wd S c)) c = n := by unfold nW; rw [hs2, eq, q1, zn_tN (by omega)]
        refine ⟨?_, ?_, ?_, fun _ q => absurd q hb, fun _ _ b hbs => ?_⟩
        · rw [ev, hs2, eq]; exact q1
        · rw [ev]; exact hn
        · rw [ev, hs1, eq]; exact q3
        · rw [hs1, eq] at hbs
          obtain ⟨r1, r2⟩ := q4 b hbs
          refine ⟨fun v hv o => ?_, fun v v' hv hv' hne o o' => ?_⟩
          · rw [ev, en (c + wl v) (by have := hw v hv; omega)]
            exact r1 v hv ((eo b v hv).mp o)
          · rw [ev]
            exact r2 v v' hv hv' hne ((eo b v hv).mp o) ((eo b v' hv').mp o')
    · exact wyA_cg (fun x hx => ho1 x (by omega)) (fun x hx => ho2 x (by omega)) (ih' c (by omega) h2)
/-! the letters of the first best reading -/
def rwA (m : Nat) (bl : Nat → Bool) (S : (Nat → Option Nat) × (Nat → Int32) × (Nat → Nat → Int32)) (c : Nat) : Prop := S.1 c ≠ none → ∀ k, c ≤ k → k < m → (bl k = true → S.2.2 c k = -1) ∧ (bl k = false → ∃ v, v < 26 ∧ S.2.2 c k = nI v)
theorem cellF_r (hG : ∀ c k, G c k ≤ 81) (hw : ∀ w, w < W → 1 ≤ wl w ∧ ∀ k, k < wl w → wd w k < 26) {S : (Nat → Option Nat) × (Nat → Int32) × (Nat → Nat → Int32)} {c : Nat} (hS : ∀ x, c < x → x ≤ m → rwA m bl S x) : ∀ w, w ≤ W → ((cellF m bl G gn wl wd S.1 S.2.1 S.2.2 c w).1 ≠ none → ∀ k, c ≤ k → k < m → (bl k = true → (cellF m bl G gn wl wd S.1 S.2.1 S.2.2 c w).2.2 k = -1) ∧ (bl k = false → ∃ v, v < 26 ∧ (cellF m bl G gn wl wd S.1 S.2.1 S.2.2 c w).2.2 k = nI v)) := by
  intro w
  induction w with
  | zero => intro _ h; exact absurd rfl h
  | succ w ih =>
    intro hwW
    have ih' := ih (by omega)
    have ec : cellF m bl G gn wl wd S.1 S.2.1 S.2.2 c (w + 1) = stW m bl G gn wl wd S.1 S.2.1 S.2.2 c w (cellF m bl G gn wl wd S.1 S.2.1 S.2.2 c w) := rfl
    rw [ec]
    generalize cellF m bl G gn wl wd S.1 S.2.1 S.2.2 c w = s at ih'
    unfold stW
    cases hf : fitW m bl G gn wl wd w c with
    | none => exact ih'
    | some f =>
      cases hg : S.1 (c + wl w) with
      | none => exact ih'
      | some g =>
        obtain ⟨w1, w2⟩ := hw w (by omega)
        have hle := fitW_le hG w1 hf
        have hnew : ∀ k, c ≤ k → k < m → (bl k = true → newR wl wd S.2.2 c w k = -1) ∧ (bl k = false → ∃ v, v < 26 ∧ newR wl wd S.2.2 c w k = nI v) := fun k h1 h2 => by
          by_cases hk : k < c + wl w
          · have hb := fitW_nb hf h1 hk
            have e : newR wl wd S.2.2 c w k = nI (wd w (k - c)) := by unfold newR; exact if_pos hk
            rw [e]
            exact ⟨fun q => absurd q (by rw [hb]; nofun), fun _ => ⟨_, w2 (k - c) (by omega), rfl⟩⟩
          · have e : newR wl wd S.2.2 c w k = S.2.2 (c + wl w) k := by unfold newR; exact if_neg hk
            rw [e]
            exact hS (c + wl w) (by omega) hle (by rw [hg]; nofun) k (by omega) h2
        cases hs : s.1 with
        | none => simp only [hs]; exact fun _ => hnew
        | some b =>
          have hold := ih' (by rw [hs]; nofun)
          simp only [hs]
          by_cases l1 : f + g < b
          · simp only [if_pos l1]
            exact fun _ => hold
          · by_cases l2 : f + g = b
            · simp only [if_neg l1, if_pos l2]
              intro _ k h1 h2
              split
              · exact hnew k h1 h2
              · exact hold k h1 h2
            · simp only [if_neg l1, if_neg l2]
              exact fun _ => hnew
theorem rdT_r (hG : ∀ c k, G c k ≤ 81) (hw : ∀ w, w < W → 1 ≤ wl w ∧ ∀ k, k < wl w → wd w k < 26) : ∀ t, t ≤ m → ∀ c, m - t ≤ c → c ≤ m → rwA m bl (rdT m W bl G gn wl wd t) c := by
  intro t
  induction t with
  | zero => intro _ c h1 h2 _ k h3 h4; omega
  | succ t ih =>
    intro ht c h1 h2
    have ih' := ih (by omega)
    have eT : rdT m W bl G gn wl wd (t + 1) = setQ (rdT m W bl G gn wl wd t) (m - (t + 1)) (celQ m W bl G gn wl wd (rdT m W bl G gn wl wd t) (m - (t + 1))) := rfl
    generalize rdT m W bl G gn wl wd t = S at ih' eT
    generalize hd : m - (t + 1) = d at eT h1
    have hdm : d < m := by omega
    rw [eT]
    by_cases hcd : c = d
    · subst hcd
      have hs1 : (setQ S c (celQ m W bl G gn wl wd S c)).1 c = (celQ m W bl G gn wl wd S c).1 := if_pos rfl
      have hs2 : (setQ S c (celQ m W bl G gn wl wd S c)).2.2 c = (celQ m W bl G gn wl wd S c).2.2 := if_pos rfl
      unfold rwA
      rw [hs1, hs2]
      by_cases hb : bl c = true
      · have eq : celQ m W bl G gn wl wd S c = (S.1 (c + 1), S.2.1 (c + 1), fun k => if k = c then -1 else S.2.2 (c + 1) k) := by unfold celQ; rw [if_pos hb]
        rw [eq]
        intro hn k h3 h4
        show (bl k = true → (if k = c then (-1 : Int32) else S.2.2 (c + 1) k) = -1) ∧ (bl k = false → ∃ v, v < 26 ∧ (if k = c then (-1 : Int32) else S.2.2 (c + 1) k) = nI v)
        by_cases hk : k = c
        · rw [if_pos hk]
          exact ⟨fun _ => rfl, fun q => by rw [hk, hb] at q; cases q⟩
        · rw [if_neg hk]
          exact ih' (c + 1) (by omega) (by omega) hn k (by omega) h4
      · have eq : celQ m W bl G gn wl wd S c = cellF m bl G gn wl wd S.1 S.2.1 S.2.2 c W := by unfold celQ; rw [if_neg hb]
        rw [eq]
        exact cellF_r hG hw (fun x h1 h2 => ih' x (by omega) h2) W (Nat.le_refl W)
    · have e1 : (setQ S d (celQ m W bl G gn wl wd S d)).1 c = S.1 c := if_neg hcd
      have e2 : (setQ S d (celQ m W bl G gn wl wd S d)).2.2 c = S.2.2 c := if_neg hcd
      unfold rwA
      rw [e1, e2]
      exact ih' c (by omega) h2
theorem cellF_z {S : (Nat → Option Nat) × (Nat → Int32) × (Nat → Nat → Int32)} {c : Nat} : ∀ w, (cellF m bl G gn wl wd S.1 S.2.1 S.2.2 c w).1 = none → (cellF m bl G gn wl wd S.1 S.2.1 S.2.2 c w).2.1 = 0 := by
  intro w
  induction w with
  | zero => intro _; rfl
  | succ w ih =>
    have ec : cellF m bl G gn wl wd S.1 S.2.1 S.2.2 c (w + 1) = stW m bl G gn wl wd S.1 S.2.1 S.2.2 c w (cellF m bl G gn wl wd S.1 S.2.1 S.2.2 c w) := rfl
    rw [ec]
    generalize cellF m bl G gn wl wd S.1 S.2.1 S.2.2 c w = s at ih
    unfold stW
    cases hf : fitW m bl G gn wl wd w c with
    | none => exact ih
    | some f =>
      cases hg : S.1 (c + wl w) with
      | none => exact ih
      | some g =>
        cases hs : s.1 with
        | none => simp only [hs]; intro h; cases h
        | some b =>
          simp only [hs]
          by_cases l1 : f + g < b
          · simp only [if_pos l1, hs]; intro h; cases h
          · by_cases l2 : f + g = b
            · simp only [if_neg l1, if_pos l2]; intro h; cases h
            · simp only [if_neg l1, if_neg l2]; intro h; cases h
theorem rdT_z : ∀ t, t ≤ m → ∀ c, m - t ≤ c → c ≤ m → (rdT m W bl G gn wl wd t).1 c = none → (rdT m W bl G gn wl wd t).2.1 c = 0 := by
  intro t
  induction t with
  | zero => intro _ c _ _ h; cases h
  | succ t ih =>
    intro ht c h1 h2
    have ih' := ih (by omega)
    have eT : rdT m W bl G gn wl wd (t + 1) = setQ (rdT m W bl G gn wl wd t) (m - (t + 1)) (celQ m W bl G gn wl wd (rdT m W bl G gn wl wd t) (m - (t + 1))) := rfl
    generalize rdT m W bl G gn wl wd t = S at ih' eT
    generalize hd : m - (t + 1) = d at eT h1
    rw [eT]
    by_cases hcd : c = d
    · subst hcd
      have hs1 : (setQ S c (celQ m W bl G gn wl wd S c)).1 c = (celQ m W bl G gn wl wd S c).1 := if_pos rfl
      have hs2 : (setQ S c (celQ m W bl G gn wl wd S c)).2.1 c = (celQ m W bl G gn wl wd S c).2.1 := if_pos rfl
      rw [hs1, hs2]
      by_cases hb : bl c = true
      · have eq : celQ m W bl G gn wl wd S c = (S.1 (c + 1), S.2.1 (c + 1), fun k => if k = c then -1 else S.2.2 (c + 1) k) := by unfold celQ; rw [if_pos hb]
        rw [eq]
        exact ih' (c + 1) (by omega) (by omega)
      · have eq : celQ m W bl G gn wl wd S c = cellF m bl G gn wl wd S.1 S.2.1 S.2.2 c W := by unfold celQ; rw [if_neg hb]
        rw [eq]
        exact cellF_z W
    · have e1 : (setQ S d (celQ m W bl G gn wl wd S d)).1 c = S.1 c := if_neg hcd
      have e2 : (setQ S d (celQ m W bl G gn wl wd S d)).2.1 c = S.2.1 c := if_neg hcd
      rw [e1, e2]
      exact ih' c (by omega) h2
end
