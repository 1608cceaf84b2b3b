/-! reading a line: what is meant -/
def enc : Option Nat → Int32
  | none => -1
  | some f => nI f
section
variable (m W : Nat) (bl : Nat → Bool) (G : Nat → Nat → Nat) (gn : Nat → Nat) (wl : Nat → Nat) (wd : Nat → Nat → Nat)
def fitF (w c : Nat) : Nat → Nat → Option Nat
  | 0, _ => some 0
  | d + 1, k => if m ≤ c + k then none else if bl (c + k) = true then none else if G (c + k) (wd w k) = 0 ∧ 0 < gn (c + k) then none else (fitF w c d (k + 1)).map (fun x => G (c + k) (wd w k) + x)
def fitW (w c : Nat) : Option Nat := fitF m bl G gn wd w c (wl w) 0
def newR (row : Nat → Nat → Int32) (c w : Nat) : Nat → Int32 := fun k => if k < c + wl w then nI (wd w (k - c)) else row (c + wl w) k
def lowF (x y : Nat → Int32) : Nat → Nat → Bool
  | 0, _ => false
  | d + 1, k => if x k = y k then lowF x y d (k + 1) else decide (x k < y k)
def stW (beh : Nat → Option Nat) (bst : Nat → Int32) (row : Nat → Nat → Int32) (c w : Nat) (s : Option Nat × Int32 × (Nat → Int32)) : Option Nat × Int32 × (Nat → Int32) :=
  match fitW m bl G gn wl wd w c, beh (c + wl w) with
  | some f, some g => match s.1 with
    | none => (some (f + g), bst (c + wl w), newR wl wd row c w)
    | some b => if f + g < b then s else if f + g = b then (some b, s.2.1 + bst (c + wl w), if lowF (newR wl wd row c w) s.2.2 (m - c) c = true then newR wl wd row c w else s.2.2) else (some (f + g), bst (c + wl w), newR wl wd row c w)
  | _, _ => s
def cellF (beh : Nat → Option Nat) (bst : Nat → Int32) (row : Nat → Nat → Int32) (c : Nat) : Nat → Option Nat × Int32 × (Nat → Int32)
  | 0 => (none, 0, fun _ => 0)
  | w + 1 => stW m bl G gn wl wd beh bst row c w (cellF beh bst row c w)
def celQ (S : (Nat → Option Nat) × (Nat → Int32) × (Nat → Nat → Int32)) (c : Nat) : Option Nat × Int32 × (Nat → Int32) :=
  if bl c = true then (S.1 (c + 1), S.2.1 (c + 1), fun k => if k = c then -1 else S.2.2 (c + 1) k) else cellF m bl G gn wl wd S.1 S.2.1 S.2.2 c W
def setQ (S : (Nat → Option Nat) × (Nat → Int32) × (Nat → Nat → Int32)) (c : Nat) (q : Option Nat × Int32 × (Nat → Int32)) : (Nat → Option Nat) × (Nat → Int32) × (Nat → Nat → Int32) :=
  (fun x => if x = c then q.1 else S.1 x, fun x => if x = c then q.2.1 else S.2.1 x, fun x => if x = c then q.2.2 else S.2.2 x)
def rdT : Nat → (Nat → Option Nat) × (Nat → Int32) × (Nat → Nat → Int32)
  | 0 => (fun _ => some 0, fun _ => 1, fun _ _ => 0)
  | t + 1 => setQ (rdT t) (m - (t + 1)) (celQ m W bl G gn wl wd (rdT t) (m - (t + 1)))
theorem fitF_le (hG : ∀ c k, G c k ≤ 81) (w c d : Nat) : ∀ k f, fitF m bl G gn wd w c d k = some f → f ≤ 81 * d ∧ (0 < d → c + k + d ≤ m) := by
  induction d with
  | zero =>
    intro k f h
    cases h
    exact ⟨Nat.zero_le _, fun h => absurd h (Nat.lt_irrefl 0)⟩
  | succ d ih =>
    intro k f h
    unfold fitF at h
    split at h
    · cases h
    · split at h
      · cases h
      · split at h
        · cases h
        · next h1 h2 h3 =>
          cases hf : fitF m bl G gn wd w c d (k + 1) with
          | none => rw [hf] at h; cases h
          | some x =>
            rw [hf] at h
            have h : G (c + k) (wd w k) + x = f := Option.some.inj h
            obtain ⟨q1, q2⟩ := ih (k + 1) x hf
            have := hG (c + k) (wd w k)
            refine ⟨by omega, fun _ => ?_⟩
            by_cases hd : d = 0
            · omega
            · have := q2 (by omega); omega
/-- weights stay small -/
def bhB (S : (Nat → Option Nat) × (Nat → Int32) × (Nat → Nat → Int32)) (lo : Nat) : Prop := ∀ c g, lo ≤ c → c ≤ m → S.1 c = some g → g ≤ 81 * (m - c)
theorem stW_le (hG : ∀ c k, G c k ≤ 81) (hw : ∀ w, w < W → 1 ≤ wl w) {beh : Nat → Option Nat} {bst : Nat → Int32} {row : Nat → Nat → Int32} {c w : Nat} {s : Option Nat × Int32 × (Nat → Int32)} (hwW : w < W)
    (hb : ∀ c' g, c < c' → c' ≤ m → beh c' = some g → g ≤ 81 * (m - c')) (hs : ∀ g, s.1 = some g → g ≤ 81 * (m - c)) : ∀ g, (stW m bl G gn wl wd beh bst row c w s).1 = some g → g ≤ 81 * (m - c) := by
  intro g hg
  unfold stW at hg
  split at hg
  · next f g' hf hg' =>
    have hw1 := hw w hwW
    obtain ⟨q1, q2⟩ := fitF_le m bl G gn wd hG w c (wl w) 0 f hf
    have q2 := q2 hw1
    have q3 := hb (c + wl w) g' (by omega) (by omega) hg'
    have q4 : f + g' ≤ 81 * (m - c) := by omega
    split at hg
    · have := Option.some.inj hg; omega
    · next b hb' =>
      split at hg
      · exact hs g hg
      · split at hg
        · have := Option.some.inj hg
          exact hs g (by rw [hb', this])
        · have := Option.some.inj hg; omega
  · exact hs g hg
theorem cellF_le (hG : ∀ c k, G c k ≤ 81) (hw : ∀ w, w < W → 1 ≤ wl w) {beh : Nat → Option Nat} {bst : Nat → Int32} {row : Nat → Nat → Int32} {c : Nat}
    (hb : ∀ c' g, c < c' → c' ≤ m → beh c' = some g → g ≤ 81 * (m - c')) (w : Nat) (hwW : w ≤ W) : ∀ g, (cellF m bl G gn wl wd beh bst row c w).1 = some g → g ≤ 81 * (m - c) := by
  induction w with
  | zero => intro g hg; cases hg
  | succ w ih => exact stW_le m W bl G gn wl wd hG hw (by omega) hb (ih (by omega))
theorem rdT_le (hG : ∀ c k, G c k ≤ 81) (hw : ∀ w, w < W → 1 ≤ wl w) (t : Nat) (ht : t ≤ m) : bhB m (rdT m W bl G gn wl wd t) (m - t) := by
  induction t with
  | zero =>
    intro c g h1 h2 h3
    have : g = 0 := (Option.some.inj h3).symm
    omega
  | succ t ih =>
    have ih := ih (by omega)
    intro c g h1 h2 h3
    have e : (rdT m W bl G gn wl wd (t + 1)).1 c = if c = m - (t + 1) then (celQ m W bl G gn wl wd (rdT m W bl G gn wl wd t) (m - (t + 1))).1 else (rdT m W bl G gn wl wd t).1 c := rfl
    rw [e] at h3
    by_cases hc : c = m - (t + 1)
    · rw [if_pos hc, ← hc] at h3
      unfold celQ at h3
      split at h3
      · have := ih (c + 1) g (by omega) (by omega) h3
        omega
      · exact cellF_le m W bl G gn wl wd hG hw (fun c' g' q1 q2 q3 => ih c' g' (by omega) q2 q3) W (Nat.le_refl W) g h3
    · rw [if_neg hc] at h3
      exact ih c g (by omega) h2 h3
end
theorem enc_m1 {o : Option Nat} (h : ∀ f, o = some f → f < 2147483648) : enc o = -1 ↔ o = none := by
  cases o with
  | none => exact ⟨fun _ => rfl, fun _ => rfl⟩
  | some f => exact ⟨fun q => absurd q (zn_ne1 (h f rfl)), fun q => by cases q⟩
/-- the rows of a side say what is meant -/
def rdR (m lo : Nat) (a b : Nat → Int32) (r : Nat → Nat → Int32) (S : (Nat → Option Nat) × (Nat → Int32) × (Nat → Nat → Int32)) : Prop := ∀ c, lo ≤ c → c ≤ m → a c = enc (S.1 c) ∧ b c = S.2.1 c ∧ (S.1 c ≠ none → ∀ k, c ≤ k → k < m → r c k = S.2.2 c k)
def clR (m c : Nat) (a b : Nat → Int32) (r : Nat → Nat → Int32) (s : Option Nat × Int32 × (Nat → Int32)) : Prop := a c = enc s.1 ∧ b c = s.2.1 ∧ (s.1 ≠ none → ∀ k, c ≤ k → k < m → r c k = s.2.2 k)
theorem rdR_set {m c : Nat} {a b : Nat → Int32} {r : Nat → Nat → Int32} {S : (Nat → Option Nat) × (Nat → Int32) × (Nat → Nat → Int32)} {q : Option Nat × Int32 × (Nat → Int32)} (h : rdR m (c + 1) a b r S) (g : clR m c a b r q) : rdR m c a b r (setQ S c q) := by
  intro x h1 h2
  by_cases hx : x = c
  · subst hx
    have e1 : (setQ S x q).1 x = q.1 := if_pos rfl
    have e2 : (setQ S x q).2.1 x = q.2.1 := if_pos rfl
    have e3 : (setQ S x q).2.2 x = q.2.2 := if_pos rfl
    rw [e1, e2, e3]
    exact g
  · have e1 : (setQ S c q).1 x = S.1 x := if_neg hx
    have e2 : (setQ S c q).2.1 x = S.2.1 x := if_neg hx
    have e3 : (setQ S c q).2.2 x = S.2.2 x := if_neg hx
    rw [e1, e2, e3]
    exact h x (by omega) h2
theorem lowF_cg {x y x' y' : Nat → Int32} (d : Nat) : ∀ k, (∀ i, k ≤ i → i < k + d → x i = x' i ∧ y i = y' i) → lowF x y d k = lowF x' y' d k := by
  induction d with
  | zero => intro k _; rfl
  | succ d ih =>
    intro k h
    unfold lowF
    obtain ⟨h1, h2⟩ := h k (Nat.le_refl k) (by omega)
    rw [h1, h2, ih (k + 1) (fun i q1 q2 => h i (by omega) (by omega))]
