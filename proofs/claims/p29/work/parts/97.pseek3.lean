/-! arrangements: what the class has counted of those met so far -/
def accC (X0 : gM) (s F P : Nat) (ls : List Nat) (all sp : Bool) (V : (Nat → Nat) → Prop) (X : gM) : Prop :=
  X 14 s 3 = nI (nO P ls (fit X0 F P ls all 99) V) ∧
  (∀ i ∈ ls, ∀ v, v < 32 → (mb (X 15 s i) v = true ↔ nO P ls (fit X0 F P ls all 99) (fun b => V b ∧ b i = v) ≠ 0)) ∧
  (∀ i ∈ ls, ∀ j ∈ ls, i ≠ j → X 16 s (10 * i + j) = nI (nO P ls (fit X0 F P ls all 99) (fun b => V b ∧ b i + b j + 1 = P))) ∧
  (sp = true → ∀ g, g < 12 → ∀ i ∈ ls, ∀ v, v < 32 → (mb (X 17 s (10 * g + i)) v = true ↔ nO P ls (fito X0 F P ls g) (fun b => V b ∧ b i = v) ≠ 0))
def Goal (X0 : gM) (F P : Nat) (ls : List Nat) (all sp : Bool) (b : Nat → Nat) : Prop := fit X0 F P ls all 99 b ∨ (sp = true ∧ ∃ g, fito X0 F P ls g b)
theorem Goal_geo {X0 : gM} {F P : Nat} {ls : List Nat} {all sp : Bool} {b : Nat → Nat} (h : Goal X0 F P ls all sp b) : geo X0 ls b := by
  rcases h with h | ⟨-, g, h⟩
  · exact h.1
  · exact h.1
theorem accC_cg {X0 X : gM} {s F P : Nat} {ls : List Nat} {all sp : Bool} {V V' : (Nat → Nat) → Prop} (h : ∀ b, okA P ls a00 b → Goal X0 F P ls all sp b → (V b ↔ V' b)) (g : accC X0 s F P ls all sp V X) : accC X0 s F P ls all sp V' X := by
  obtain ⟨g1, g2, g3, g4⟩ := g
  have e : ∀ (Ψ R : (Nat → Nat) → Prop), (∀ b, Ψ b → Goal X0 F P ls all sp b) → nO P ls Ψ (fun b => V b ∧ R b) = nO P ls Ψ (fun b => V' b ∧ R b) := fun Ψ R hΨ => nO_cg fun b hb => by
    constructor
    · rintro ⟨q, q1, q2⟩; exact ⟨q, (h b hb (hΨ b q)).mp q1, q2⟩
    · rintro ⟨q, q1, q2⟩; exact ⟨q, (h b hb (hΨ b q)).mpr q1, q2⟩
  have e0 : nO P ls (fit X0 F P ls all 99) V = nO P ls (fit X0 F P ls all 99) V' := nO_cg fun b hb => by
    constructor
    · rintro ⟨q, q1⟩; exact ⟨q, (h b hb (Or.inl q)).mp q1⟩
    · rintro ⟨q, q1⟩; exact ⟨q, (h b hb (Or.inl q)).mpr q1⟩
  refine ⟨by rw [g1, e0], fun i hi v hv => ?_, fun i hi j hj hij => ?_, fun hsp q hq i hi v hv => ?_⟩
  · rw [g2 i hi v hv, e _ (fun b => b i = v) (fun b => Or.inl)]
  · rw [g3 i hi j hj hij, e _ (fun b => b i + b j + 1 = P) (fun b => Or.inl)]
  · rw [g4 hsp q hq i hi v hv, e _ (fun b => b i = v) (fun b hb => Or.inr ⟨hsp, q, hb⟩)]
theorem accC_X {X0 X Y : gM} {s F P : Nat} {ls : List Nat} {all sp : Bool} {V : (Nat → Nat) → Prop} (h1 : Y 14 s 3 = X 14 s 3) (h2 : ∀ j, Y 15 s j = X 15 s j) (h3 : ∀ j, Y 16 s j = X 16 s j) (h4 : ∀ j, Y 17 s j = X 17 s j) (g : accC X0 s F P ls all sp V X) : accC X0 s F P ls all sp V Y := by
  obtain ⟨g1, g2, g3, g4⟩ := g
  exact ⟨by rw [h1, g1], fun i hi v hv => by rw [h2, g2 i hi v hv], fun i hi j hj hij => by rw [h3, g3 i hi j hj hij], fun hsp q hq i hi v hv => by rw [h4, g4 hsp q hq i hi v hv]⟩
theorem keep_eq {al : Nat → Nat → Bool} {N s b F P p1 : Nat} {X0 X : gM} {ls fl : List Nat} {all sp : Bool} {S : Nat → Bool} {a : Nat → Nat} {p : Int32} {V : (Nat → Nat) → Prop} (hN : 1000 ≤ N) (hB : sB al X s b F P ls fl all sp) (hS : sS X s p1 ls S a) (hSl : ∀ l ∈ ls, S l = true) (haP : ∀ l ∈ ls, a l < P) (hacc : accC X0 s F P ls all sp V X) (hd : ∀ b, okA P ls a00 b → V b → ¬ ∀ l ∈ ls, b l = a l)
    (hp : (p = -1 ∧ fit X0 F P ls all 99 a ∧ ∀ g, ¬ fito X0 F P ls g a) ∨ ∃ g, p = nI g ∧ g < 12 ∧ sp = true ∧ ¬ fit X0 F P ls all 99 a ∧ ∀ g', fito X0 F P ls g' a ↔ g' = g) :
    ∃ Y, X7_keep al N s p X = some (0, Y) ∧ fs s X Y ∧ (∀ j, Y 20 s j = X 20 s j) ∧ (∀ j, Y 21 s j = X 21 s j) ∧ accC X0 s F P ls all sp (fun b => V b ∨ ∀ l ∈ ls, b l = a l) Y := by
  obtain ⟨⟨b1, b2, b3, b4, b5⟩, ⟨b6, b7⟩, ⟨b8, b9, b10, b11, b12, b13⟩, -, -⟩ := id hB
  obtain ⟨s1, s2, s3, s4, s5⟩ := id hS
  obtain ⟨g1, g2, g3, g4⟩ := hacc
  have ha0 : ∀ i, i ∉ ls → a i = a00 i := fun i hi => s5 i (by
    cases h : S i with
    | false => rfl
    | true => exact absurd (s3 i h).1 hi)
  have h20 : ∀ l ∈ ls, X 20 s l = nI (a l) := fun l hl => by rw [s1 l hl, if_pos (hSl l hl)]
  have nb : ∀ (Ψ : (Nat → Nat) → Prop) i v, i ∈ ls → nO P ls Ψ (fun b => (V b ∨ ∀ l ∈ ls, b l = a l) ∧ b i = v) = nO P ls Ψ (fun b => V b ∧ b i = v) + pc (Ψ a ∧ a i = v) := fun Ψ i v hi => nO_leaf (R := fun b => b i = v) b3 haP ha0 hd (fun b _ hb => by rw [hb i hi])
  have nj : ∀ (Ψ : (Nat → Nat) → Prop) i j, i ∈ ls → j ∈ ls → nO P ls Ψ (fun b => (V b ∨ ∀ l ∈ ls, b l = a l) ∧ b i + b j + 1 = P) = nO P ls Ψ (fun b => V b ∧ b i + b j + 1 = P) + pc (Ψ a ∧ a i + a j + 1 = P) := fun Ψ i j hi hj => nO_leaf (R := fun b => b i + b j + 1 = P) b3 haP ha0 hd (fun b _ hb => by rw [hb i hi, hb j hj])
  have n0 : ∀ (Ψ : (Nat → Nat) → Prop), nO P ls Ψ (fun b => V b ∨ ∀ l ∈ ls, b l = a l) = nO P ls Ψ V + pc (Ψ a) := fun Ψ => nO_leaf0 b3 haP ha0 hd
  unfold X7_keep
  rcases hp with ⟨rfl, hf, hfo⟩ | ⟨g, rfl, hg12, hsp, hf, hfo⟩
  · rw [if_pos rfl]
    have e1 : ∃ Y, X7_keepFit al N s X = some (0, Y) ∧ (∀ k p j, ¬ (p = s ∧ (k = 15 ∨ k = 16 ∨ (k = 14 ∧ j = 3))) → Y k p j = X k p j) ∧ Y 14 s 3 = X 14 s 3 + 1 ∧ (∀ l ∈ ls, Y 15 s l = X 15 s l ||| ((1 : Int32) <<< (nI (a l) &&& 31))) ∧ (∀ i ∈ ls, ∀ j ∈ ls, Y 16 s (10 * i + j) = X 16 s (10 * i + j) + if a i + a j + 1 = P then 1 else 0) := by
      unfold X7_keepFit
      rw [gl_eq]
      have hf1 : fs s X (mset X 14 s 3 (X 14 s 3 + 1)) := fs.rfl.set (by omega)
      have hB1 := sB_fs hf1 hB
      have e149 : (mset X 14 s 3 (X 14 s 3 + 1)) 14 s 9 = nI b := by rw [mset_at, if_neg (by omega), b10]
      rw [e149, dr_nI b8 (by omega), Option.bind_some]
      refine exR fun R hR => ?_
      refine keep_L20 (a := a) hN hB1 (fun l hl => by rw [mset_at, if_neg (by omega), h20 l hl]) _ (fun o => ∃ Y, o = some (0, Y) ∧ R Y) fun Y y1 y2 => ?_
      have hf2 : fs s X Y := fun k p j hk => by rw [y1 k p j (by omega), hf1 k p j hk]
      have hB2 := sB_fs hf2 hB
      have hS2 : sS Y s p1 ls S a := by
        refine ⟨fun l hl => ?_, fun q hq => ?_, s3, s4, s5⟩
        · rw [y1 20 s l (by omega), mset_at, if_neg (by omega)]; exact s1 l hl
        · rw [y1 21 s q (by omega), mset_at, if_neg (by omega)]; exact s2 q hq
      show ∃ Z, X7_keepFit_J66 al N s Y = some (0, Z) ∧ _
      unfold X7_keepFit_J66
      refine keep_L68 hN hB2 hS2 hSl _ (fun o => ∃ Y, o = some (0, Y) ∧ R Y) haP fun Z z1 z2 => ?_
      subst hR
      refine ⟨Z, rfl, fun k p j hk => ?_, ?_, fun l hl => ?_, fun i hi j hj => ?_⟩
      · rw [z1 k p j (by omega), y1 k p j (by omega), mset_at, if_neg (by omega)]
      · rw [z1 14 s 3 (by omega), y1 14 s 3 (by omega), mset_same]
      · rw [z1 15 s l (by omega), y2 l hl, mset_at, if_neg (by omega)]
      · rw [z2 i hi j hj, y1 16 s _ (by omega), mset_at, if_neg (by omega)]
    obtain ⟨Y, k1, k2, k3, k4, k5⟩ := e1
    rw [k1, bind2_some]
    refine ⟨Y, rfl, fun k p j hk => k2 k p j (by omega), fun j => k2 20 s j (by omega), fun j => k2 21 s j (by omega), ?_, fun i hi v hv => ?_, fun i hi j hj hij => ?_, fun hsp q hq i hi v hv => ?_⟩
    · rw [n0, pc_t hf, k3, g1, zn_a1]
    · rw [nb _ i v hi, k4 i hi]
      refine bit_leaf (g2 i hi v hv) hv (by have := haP i hi; omega) ?_
      by_cases c : a i = v
      · rw [if_pos c, pc_t ⟨hf, c⟩]
      · rw [if_neg c, pc_f (fun q => c q.2)]
    · rw [nj _ i j hi hj, k5 i hi j hj, g3 i hi j hj hij]
      by_cases c : a i + a j + 1 = P
      · rw [if_pos c, pc_t ⟨hf, c⟩, zn_a1]
      · rw [if_neg c, pc_f (fun q => c q.2)]
        exact zn_addl _ 0
    · rw [nb _ i v hi, pc_f (fun z => hfo q z.1), Nat.add_zero, k2 17 s _ (by omega)]
      exact g4 hsp q hq i hi v hv
  · rw [if_neg (zn_ne1 (by omega))]
    have e1 : ∃ Y, X7_keepSpared al N s (nI g) X = some (0, Y) ∧ (∀ k p j, ¬ (k = 17 ∧ p = s) → Y k p j = X k p j) ∧ (∀ q, q < 12 → ∀ l ∈ ls, Y 17 s (10 * q + l) = if q = g then X 17 s (10 * q + l) ||| ((1 : Int32) <<< (nI (a l) &&& 31)) else X 17 s (10 * q + l)) := by
      unfold X7_keepSpared
      rw [b10, dr_nI b8 (by omega), Option.bind_some]
      refine exR fun R hR => ?_
      refine keep_L11 hN hg12 hB h20 _ (fun o => ∃ Y, o = some (0, Y) ∧ R Y) fun Y y1 y2 => ?_
      subst hR
      exact ⟨Y, rfl, y1, y2⟩
    obtain ⟨Y, k1, k2, k3⟩ := e1
    rw [k1, bind2_some]
    refine ⟨Y, rfl, fun k p j hk => k2 k p j (by omega), fun j => k2 20 s j (by omega), fun j => k2 21 s j (by omega), ?_, fun i hi v hv => ?_, fun i hi j hj hij => ?_, fun _ q hq i hi v hv => ?_⟩
    · rw [n0, pc_f hf, Nat.add_zero, k2 14 s 3 (by omega), g1]
    · rw [nb _ i v hi, pc_f (fun z => hf z.1), Nat.add_zero, k2 15 s i (by omega)]
      exact g2 i hi v hv
    · rw [nj _ i j hi hj, pc_f (fun z => hf z.1), Nat.add_zero, k2 16 s _ (by omega)]
      exact g3 i hi j hj hij
    · rw [nb _ i v hi, k3 q hq i hi]
      by_cases c : q = g
      · rw [if_pos c]
        refine bit_leaf (g4 hsp q hq i hi v hv) hv (by have := haP i hi; omega) ?_
        by_cases c2 : a i = v
        · rw [if_pos c2, pc_t ⟨(hfo q).mpr c, c2⟩]
        · rw [if_neg c2, pc_f (fun z => c2 z.2)]
      · rw [if_neg c, pc_f (fun z => c ((hfo q).mp z.1)), Nat.add_zero]
        exact g4 hsp q hq i hi v hv
/-! arrangements: the search -/
theorem pigeon {b : Nat → Nat} : ∀ (m : Nat) (l : List Nat), l.Nodup → (∀ x ∈ l, b x < m) → (∀ x ∈ l, ∀ y ∈ l, b x = b y → x = y) → l.length ≤ m := by
  intro m
  induction m with
  | zero =>
    intro l _ h _
    cases l with
    | nil => exact Nat.le_refl _
    | cons x l => exact absurd (h x List.mem_cons_self) (Nat.not_lt_zero _)
  | succ m ih =>
    intro l hn h hi
    by_cases c : ∃ x, x ∈ l ∧ b x = m
    · obtain ⟨x, hx, hxm⟩ := c
      have h1 := ih (l.erase x) (hn.sublist List.erase_sublist) (fun y hy => by
        have hy2 : y ∈ l := List.mem_of_mem_erase hy
        have := h y hy2
        have hne : b y ≠ m := fun e => by
          have : y = x := hi y hy2 x hx (e.trans hxm.symm)
          subst this
          exact (List.Nodup.not_mem_erase hn) hy
        omega) (fun y hy z hz e => hi y (List.mem_of_mem_erase hy) z (List.mem_of_mem_erase hz) e)
      rw [List.length_erase_of_mem hx] at h1
      omega
    · have := ih l hn (fun x hx => by
        have := h x hx
        have : b x ≠ m := fun e => c ⟨x, hx, e⟩
        omega) hi
      omega
theorem filter_put {S : Nat → Bool} {l : Nat} : ∀ (ls : List Nat), ls.Nodup → l ∈ ls → S l = false → (ls.filter (fun x => !(S x || decide (x = l)))).length + 1 = (ls.filter (fun x => !S x)).length := by
  intro ls
  have same : ∀ ls : List Nat, l ∉ ls → ls.filter (fun x => !(S x || decide (x = l))) = ls.filter (fun x => !S x) := fun ls h => by
    refine List.filter_congr fun x hx => ?_
    have : x ≠ l := fun e => h (e ▸ hx)
    simp [this]
  induction ls with
  | nil => intro _ h; cases h
  | cons x ls ih =>
    intro hn hl hS
    obtain ⟨n1, n2⟩ := List.nodup_cons.mp hn
    by_cases c : x = l
    · subst c
      rw [List.filter_cons, List.filter_cons, same ls n1]
      simp [hS]
    · have hl2 : l ∈ ls := by
        rcases List.mem_cons.mp hl with q | q
        · exact absurd q.symm c
        · exact q
      have := ih n2 hl2 hS
      rw [List.filter_cons, List.filter_cons, show (!(S x || decide (x = l))) = (!S x) from by simp [c]]
      by_cases h : (!S x) = true
      · rw [if_pos h, if_pos h, List.length_cons, List.length_cons]; omega
      · rw [if_neg h, if_neg h]; exact this
/-- the layers seen and closed, and what holds among those that stand -/
def sM (X : gM) (S : Nat → Bool) (a : Nat → Nat) (p3 p4 : Int32) : Prop := (∀ h, h < 8 → (bt p3 h = true ↔ ∃ i, S i = true ∧ mb (X 48 0 i) h = true)) ∧ (∀ h, h < 8 → (bt p4 h = true ↔ ∃ i j, S i = true ∧ S j = true ∧ a i < a j ∧ mb (X 48 0 i) h = true ∧ ¬ mb (X 48 0 j) h = true))
def sGo (X : gM) (S : Nat → Bool) (a : Nat → Nat) : Prop := (∀ h, h < 8 → ∀ i, S i = true → ∀ j, S j = true → ∀ k, S k = true → mb (X 48 0 i) h = true → mb (X 48 0 k) h = true → a i < a j → a j < a k → mb (X 48 0 j) h = true) ∧ (∀ i, S i = true → ∀ j, S j = true → a j = a i + 1 → X 47 0 i ≠ -1 → X 47 0 j ≠ -1 → X 47 0 i ≠ X 47 0 j)
/-- those that are left: they agree with the leaves that stand, and have the others at p1 or behind -/
def Oq (ls : List Nat) (S : Nat → Bool) (a : Nat → Nat) (p1 : Nat) (b : Nat → Nat) : Prop := (∀ l ∈ ls, S l = true → b l = a l) ∧ ∀ l ∈ ls, S l = false → p1 ≤ b l
