/-! arrangements: the class's tests -/
theorem unlike_eq {al : Nat → Nat → Bool} {N i j : Nat} {X : gM} : ∃ r : Int32, X2_isUnlikeFront al N i j X = some (r, X) ∧ (r = 0 ∨ r = 1) ∧ (r = 0 ↔ X 5 i 5 ≠ -1 ∧ X 5 j 5 ≠ -1 ∧ X 5 i 5 = X 5 j 5) := by
  unfold X2_isUnlikeFront
  have u : ¬ ((1 : Int32) = 0) := by decide
  by_cases c1 : X 5 i 5 = -1
  · rw [if_pos c1]
    exact ⟨1, rfl, Or.inr rfl, fun q => absurd q u, fun q => absurd c1 q.1⟩
  · rw [if_neg c1]
    by_cases c2 : X 5 j 5 = -1
    · rw [if_pos c2]
      exact ⟨1, rfl, Or.inr rfl, fun q => absurd q u, fun q => absurd c2 q.2.1⟩
    · rw [if_neg c2]
      by_cases c3 : X 5 i 5 = X 5 j 5
      · rw [if_pos c3]
        exact ⟨0, rfl, Or.inl rfl, fun _ => ⟨c1, c2, c3⟩, fun _ => rfl⟩
      · rw [if_neg c3]
        exact ⟨1, rfl, Or.inr rfl, fun q => absurd q u, fun q => absurd q.2.2 c3⟩
theorem isOf_eq {al : Nat → Nat → Bool} {N f k x o l : Nat} {X : gM} (h2 : X 23 f 2 = nI k) (h3 : X 23 f 3 = nI x) (h4 : X 23 f 4 = nI o) (hk : k ≤ 4) (hx : x < 10) (ho : o < 10) (hl : l < 10) : ∃ r : Int32, X1_isOf al N f (nI l) X = some (r, X) ∧ (r = 0 ∨ r = 1) ∧ (r = 0 ↔ ¬ (x = l ∨ (k ≠ 3 ∧ o = l))) := by
  unfold X1_isOf
  have u : ¬ ((1 : Int32) = 0) := by decide
  have e1 : nI x = nI l ↔ x = l := zn_eq (by omega) (by omega)
  have e2 : (nI k = (3 : Int32)) ↔ k = 3 := zn_eql (k := 3) (by omega) (by decide)
  have e3 : nI o = nI l ↔ o = l := zn_eq (by omega) (by omega)
  rw [h2, h3, h4]
  by_cases c1 : x = l
  · rw [if_pos (e1.mpr c1)]
    exact ⟨1, rfl, Or.inr rfl, fun q => absurd q u, fun q => absurd (Or.inl c1) q⟩
  · rw [if_neg (mt e1.mp c1)]
    by_cases c2 : k = 3
    · rw [if_pos (e2.mpr c2)]
      exact ⟨0, rfl, Or.inl rfl, fun _ => by omega, fun _ => rfl⟩
    · rw [if_neg (mt e2.mp c2)]
      by_cases c3 : o = l
      · rw [if_pos (e3.mpr c3)]
        exact ⟨1, rfl, Or.inr rfl, fun q => absurd q u, fun q => absurd (Or.inr ⟨c2, c3⟩) q⟩
      · rw [if_neg (mt e3.mp c3)]
        exact ⟨0, rfl, Or.inl rfl, fun _ => by omega, fun _ => rfl⟩
theorem isBroken_eq {al : Nat → Nat → Bool} {N s f k x o P : Nat} {X : gM} {S : Nat → Bool} {a : Nat → Nat} (h2 : X 23 f 2 = nI k) (h3 : X 23 f 3 = nI x) (h4 : X 23 f 4 = nI o) (hk : k ≤ 4) (hx : x < 10) (ho : o < 10) (hP : P ≤ 8) (hP1 : 1 ≤ P) (h10 : X 14 s 10 = nI P)
    (hax : a x < 10) (hao : k ≠ 3 → a o < 10) (hkx : k = 3 → S x = true) (hsx : X 20 s x = if S x then nI (a x) else -1) (hso : k ≠ 3 → X 20 s o = if S o then nI (a o) else -1) :
    ∃ r : Int32, X7_isBroken al N s f X = some (r, X) ∧ (r = 0 ∨ r = 1) ∧ (r = 0 ↔ ¬ ((S x = true ∧ (k ≠ 3 → S o = true)) ∧ ((k = 0 ∧ a x + a o + 1 ≠ P) ∨ (k = 1 ∧ a o ≠ a x + 1) ∨ (k = 2 ∧ ¬ a x < a o) ∨ (k = 3 ∧ a x ≠ o) ∨ (k = 4 ∧ a x + a o + 1 = P)))) := by
  have u : ¬ ((1 : Int32) = 0) := by decide
  have t1 : ∀ {A : Option (Int32 × gM)} {R : Prop}, A = some (1, X) → R → ∃ r : Int32, A = some (r, X) ∧ (r = 0 ∨ r = 1) ∧ (r = 0 ↔ ¬ R) := fun h hR => ⟨1, h, Or.inr rfl, fun q => absurd q u, fun q => absurd hR q⟩
  have t0 : ∀ {A : Option (Int32 × gM)} {R : Prop}, A = some (0, X) → ¬ R → ∃ r : Int32, A = some (r, X) ∧ (r = 0 ∨ r = 1) ∧ (r = 0 ↔ ¬ R) := fun h hR => ⟨0, h, Or.inl rfl, fun _ => hR, fun _ => rfl⟩
  have e3 : (nI k = (3 : Int32)) ↔ k = 3 := zn_eql (k := 3) (by omega) (by decide)
  have e0 : (nI k = (0 : Int32)) ↔ k = 0 := zn_eql (k := 0) (by omega) (by decide)
  have e1 : (nI k = (1 : Int32)) ↔ k = 1 := zn_eql (k := 1) (by omega) (by decide)
  have e2 : (nI k = (2 : Int32)) ↔ k = 2 := zn_eql (k := 2) (by omega) (by decide)
  unfold X7_isBroken
  rw [h3, rd_nI hx (by omega), Option.bind_some, gl_eq, h2, h4]
  by_cases c3 : k = 3
  · rw [if_pos (e3.mpr c3), hsx, if_pos (hkx c3)]
    have e : nI (a x) = nI o ↔ a x = o := zn_eq (by omega) (by omega)
    by_cases c : a x = o
    · rw [if_pos (e.mpr c)]
      exact t0 rfl (by omega)
    · rw [if_neg (mt e.mp c)]
      exact t1 rfl ⟨⟨hkx c3, fun q => absurd c3 q⟩, by omega⟩
  · have hao' := hao c3
    rw [if_neg (mt e3.mp c3), rd_nI ho (by omega), Option.bind_some, gl_eq, hsx, hso c3]
    cases hSx : S x with
    | false =>
      rw [show (if (false = true) then nI (a x) else (-1 : Int32)) = -1 from if_neg (by decide), if_pos rfl]
      exact t0 rfl (fun q => absurd q.1.1 (by decide))
    | true =>
      rw [if_pos rfl, if_neg (zn_ne1 (by omega))]
      cases hSo : S o with
      | false =>
        rw [show (if (false = true) then nI (a o) else (-1 : Int32)) = -1 from if_neg (by decide), if_pos rfl]
        exact t0 rfl (fun q => absurd (q.1.2 c3) (by decide))
      | true =>
        rw [if_pos rfl, if_neg (zn_ne1 (by omega)), h10]
        have es : (nI (a x) + nI (a o) = nI P - (1 : Int32)) ↔ a x + a o + 1 = P := by
          rw [zn_add, zn_s1 (a := P) hP1, zn_eq (by omega) (by omega)]
          show a x + a o = P - 1 ↔ _
          omega
        have ea : (nI (a o) = nI (a x) + (1 : Int32)) ↔ a o = a x + 1 := by rw [zn_a1 (a x)]; exact zn_eq (by omega) (by omega)
        have el : nI (a x) < nI (a o) ↔ a x < a o := zn_lt (by omega) (by omega)
        have hT : (true = true ∧ (k ≠ 3 → true = true)) := ⟨rfl, fun _ => rfl⟩
        by_cases c0 : k = 0
        · rw [if_pos (e0.mpr c0)]
          by_cases c : a x + a o + 1 = P
          · rw [if_pos (es.mpr c)]
            exact t0 rfl (by omega)
          · rw [if_neg (mt es.mp c)]
            exact t1 rfl ⟨hT, by omega⟩
        · rw [if_neg (mt e0.mp c0)]
          by_cases c1 : k = 1
          · rw [if_pos (e1.mpr c1)]
            by_cases c : a o = a x + 1
            · rw [if_pos (ea.mpr c)]
              exact t0 rfl (by omega)
            · rw [if_neg (mt ea.mp c)]
              exact t1 rfl ⟨hT, by omega⟩
          · rw [if_neg (mt e1.mp c1)]
            by_cases c2 : k = 2
            · rw [if_pos (e2.mpr c2)]
              by_cases c : a x < a o
              · rw [if_pos (el.mpr c)]
                exact t0 rfl (by omega)
              · rw [if_neg (mt el.mp c)]
                exact t1 rfl ⟨hT, by omega⟩
            · rw [if_neg (mt e2.mp c2)]
              by_cases c : a x + a o + 1 = P
              · rw [if_pos (es.mpr c)]
                exact t1 rfl ⟨hT, by omega⟩
              · rw [if_neg (mt es.mp c)]
                exact t0 rfl (by omega)
/-- what the survey works on -/
def sB (al : Nat → Nat → Bool) (X : gM) (s b F P : Nat) (ls fl : List Nat) (all sp : Bool) : Prop :=
  (ls.length ≤ 6 ∧ (∀ l ∈ ls, l < 10) ∧ ls.Nodup ∧ P ≤ 8 ∧ 1 ≤ P) ∧
  ((∀ j, X 13 b j = lvg ls j) ∧ (∀ l ∈ ls, al 5 l = true ∧ X 5 l 0 = nI l ∧ X 5 l 5 = X 47 0 l ∧ X 5 l 6 = X 48 0 l ∧ ∃ v, v ≤ 255 ∧ X 48 0 l = nI v)) ∧
  (al 13 b = true ∧ b < 2 ∧ X 14 s 9 = nI b ∧ X 14 s 10 = nI P ∧ X 14 s 1 = (if sp then 1 else 0) ∧ (sp = true → all = false)) ∧
  (X 14 s 8 = nI fl.length ∧ fl.length ≤ 12 ∧ fl.Nodup ∧ (∀ i f, fl[i]? = some f → X 18 s i = nI f) ∧ F ≤ 12 ∧ (∀ f, f ∈ fl ↔ f < F ∧ X 67 0 f ≠ 0 ∧ (all = true ∨ X 66 0 f ≠ 0))) ∧
  (∀ f, f < F → ∃ k x o : Nat, k ≤ 4 ∧ x < 10 ∧ o < 10 ∧ X 63 0 f = nI k ∧ X 64 0 f = nI x ∧ X 65 0 f = nI o ∧ (x ∈ ls → k ≠ 3 → o ∈ ls) ∧ (k ≠ 3 → o ∈ ls → x ∈ ls) ∧ al 23 f = true ∧ X 23 f 0 = nI f ∧ X 23 f 2 = nI k ∧ X 23 f 3 = nI x ∧ X 23 f 4 = nI o)
def fs (s : Nat) (X Y : gM) : Prop := ∀ k p j, ¬ (p = s ∧ (k = 15 ∨ k = 16 ∨ k = 17 ∨ k = 20 ∨ k = 21 ∨ (k = 14 ∧ j = 3))) → Y k p j = X k p j
theorem fs.rfl {s : Nat} {X : gM} : fs s X X := fun _ _ _ _ => Eq.refl _
theorem fs.trans {s : Nat} {X Y Z : gM} (h : fs s X Y) (g : fs s Y Z) : fs s X Z := fun k p j q => (g k p j q).trans (h k p j q)
theorem fs.set {s : Nat} {X Y : gM} {K j : Nat} {v : Int32} (h : fs s X Y) (hs : K = 15 ∨ K = 16 ∨ K = 17 ∨ K = 20 ∨ K = 21 ∨ (K = 14 ∧ j = 3)) : fs s X (mset Y K s j v) := by
  intro k p q hq
  rw [mset_at, if_neg, h k p q hq]
  rintro ⟨rfl, rfl, rfl⟩
  exact hq ⟨Eq.refl _, hs⟩
theorem sB_fs {al : Nat → Nat → Bool} {X Y : gM} {s b F P : Nat} {ls fl : List Nat} {all sp : Bool} (h : fs s X Y) (g : sB al X s b F P ls fl all sp) : sB al Y s b F P ls fl all sp := by
  obtain ⟨g1, ⟨g2, g3⟩, ⟨g4, g5, g6, g7, g8, g9⟩, ⟨g10, g11, g12, g13, g14, g15⟩, g16⟩ := g
  refine ⟨g1, ⟨fun j => ?_, fun l hl => ?_⟩, ⟨g4, g5, ?_, ?_, ?_, g9⟩, ⟨?_, g11, g12, fun i f hf => ?_, g14, fun f => ?_⟩, fun f hf => ?_⟩
  · rw [h 13 b j (by omega)]; exact g2 j
  · obtain ⟨q1, q2, q3, q4, q5⟩ := g3 l hl
    rw [h 5 l 0 (by omega), h 5 l 5 (by omega), h 5 l 6 (by omega), h 47 0 l (by omega), h 48 0 l (by omega)]
    exact ⟨q1, q2, q3, q4, q5⟩
  · rw [h 14 s 9 (by omega)]; exact g6
  · rw [h 14 s 10 (by omega)]; exact g7
  · rw [h 14 s 1 (by omega)]; exact g8
  · rw [h 14 s 8 (by omega)]; exact g10
  · rw [h 18 s i (by omega)]; exact g13 i f hf
  · rw [h 67 0 f (by omega), h 66 0 f (by omega)]; exact g15 f
  · rw [h 63 0 f (by omega), h 64 0 f (by omega), h 65 0 f (by omega), h 23 f 0 (by omega), h 23 f 2 (by omega), h 23 f 3 (by omega), h 23 f 4 (by omega)]
    exact g16 f hf
/-- the leaves that stand -/
def sS (X : gM) (s p1 : Nat) (ls : List Nat) (S : Nat → Bool) (a : Nat → Nat) : Prop :=
  (∀ l ∈ ls, X 20 s l = if S l then nI (a l) else -1) ∧
  (∀ p, p < 8 → (∃ l, S l = true ∧ a l = p ∧ X 21 s p = nI l) ∨ (X 21 s p = -1 ∧ ∀ l, S l = true → a l ≠ p)) ∧
  (∀ l, S l = true → l ∈ ls ∧ a l < p1) ∧ (∀ i j, S i = true → S j = true → a i = a j → i = j) ∧ (∀ i, S i = false → a i = 0)
/-- all leaves of a fact stand -/
def pl (X : gM) (S : Nat → Bool) (f : Nat) : Prop := ∃ k x o : Nat, X 63 0 f = nI k ∧ X 64 0 f = nI x ∧ X 65 0 f = nI o ∧ k ≤ 4 ∧ x < 10 ∧ o < 10 ∧ S x = true ∧ (k ≠ 3 → S o = true)
theorem pl_iff {X : gM} {f k x o : Nat} {S : Nat → Bool} (hk : k ≤ 4) (hx : x < 10) (ho : o < 10) (f63 : X 63 0 f = nI k) (f64 : X 64 0 f = nI x) (f65 : X 65 0 f = nI o) : pl X S f ↔ S x = true ∧ (k ≠ 3 → S o = true) := by
  constructor
  · rintro ⟨k', x', o', q1, q2, q3, q4, q5, q6, q7⟩
    have ek : k' = k := (zn_eq (by omega) (by omega)).mp (q1.symm.trans f63)
    have ex : x' = x := (zn_eq (by omega) (by omega)).mp (q2.symm.trans f64)
    have eo : o' = o := (zn_eq (by omega) (by omega)).mp (q3.symm.trans f65)
    subst ek ex eo
    exact q7
  · intro q
    exact ⟨k, x, o, f63, f64, f65, hk, hx, ho, q⟩
/-- the facts that are broken, and the one that may be -/
def Bf (X : gM) (P : Nat) (fl : List Nat) (S : Nat → Bool) (a : Nat → Nat) (f : Nat) : Prop := f ∈ fl ∧ pl X S f ∧ brk X P f a
def brI (sp : Bool) (B : Nat → Prop) (p : Int32) : Prop := (p = -1 ∧ ∀ f, ¬ B f) ∨ ∃ g, p = nI g ∧ g < 12 ∧ sp = true ∧ B g ∧ ∀ f, B f → f = g
theorem brI_cg {sp : Bool} {B C : Nat → Prop} {p : Int32} (h : ∀ f, B f ↔ C f) (g : brI sp B p) : brI sp C p := by
  rcases g with ⟨q, q1⟩ | ⟨g, q, q0, q1, q2, q3⟩
  · exact Or.inl ⟨q, fun f => mt (h f).mpr (q1 f)⟩
  · exact Or.inr ⟨g, q, q0, q1, (h g).mp q2, fun f hf => q3 f ((h f).mpr hf)⟩
theorem brokenWith_eq {al : Nat → Nat → Bool} {N s b F P l : Nat} {X : gM} {ls fl : List Nat} {all sp : Bool} {S : Nat → Bool} {a : Nat → Nat} {B : Nat → Prop} {p : Int32} (hN : 1000 ≤ N) (hB : sB al X s b F P ls fl all sp) (hl : l ∈ ls) (hS : S l = true) (h20 : ∀ l ∈ ls, X 20 s l = if S l then nI (a l) else -1) (ha : ∀ l ∈ ls, a l < 10)
    (hp : brI sp B p) (hBl : ∀ f, f ∈ fl → B f → ¬ (X 64 0 f = nI l ∨ (X 63 0 f ≠ 3 ∧ X 65 0 f = nI l))) :
    ∃ r : Int32, X7_brokenWith al N s (nI l) p X = some (r, X) ∧ ((r = -2 ∧ ((sp = false ∧ ∃ f, Bf X P fl S a f) ∨ ∃ f g, f ≠ g ∧ (B f ∨ Bf X P fl S a f) ∧ (B g ∨ Bf X P fl S a g))) ∨ (r ≠ -2 ∧ brI sp (fun f => B f ∨ (Bf X P fl S a f ∧ (X 64 0 f = nI l ∨ (X 63 0 f ≠ 3 ∧ X 65 0 f = nI l)))) r)) := by
  obtain ⟨⟨b1, b2, b3, b4, b5⟩, ⟨b6, b7⟩, ⟨b8, b9, b10, b11, b12, b13⟩, ⟨b14, b15, b16, b17, b18, b19⟩, b20⟩ := id hB
  have hl10 := b2 l hl
  unfold X7_brokenWith
  refine exR fun R hR => ?_
  refine m_up0 fl.length (fun fu i (r : Int32) => X7_brokenWith_L5 al N (fun Y => X7_brokenWith_J61 al N Y) (fun p3 Y => X7_brokenWith_J76 al N p3 Y) fu s (nI l) r i X)
    (fun i r => brI sp (fun f => B f ∨ (f ∈ fl.take i ∧ Bf X P fl S a f ∧ (X 64 0 f = nI l ∨ (X 63 0 f ≠ 3 ∧ X 65 0 f = nI l)))) r) (fun o => ∃ r : Int32, o = some (r, X) ∧ R r) p (by omega) ?_ ?_ (brI_cg (fun f => ⟨Or.inl, fun q => q.elim id (fun q => absurd q.1 (by rw [List.take_zero]; exact List.not_mem_nil))⟩) hp)
  · rintro i fu r hi hr ih
    have hg : fl[i]? = some fl[i] := List.getElem?_eq_getElem hi
    generalize fl[i] = f at hg
    have hfm : f ∈ fl := List.mem_of_getElem? hg
    have hfn : f ∉ fl.take i := nd_take b16 hg
    have h18 := b17 i f hg
    have hfF := ((b19 f).mp hfm).1
    obtain ⟨k, x, o, hk, hx, ho, f63, f64, f65, hxo, hox, hal, w0, w2, w3, w4⟩ := b20 f hfF
    have e2 : ¬ nI fl.length ≤ nI i := fun q => by
      have := (zn_le (by omega) (by omega)).mp q
      omega
    have eof : (X 64 0 f = nI l ∨ (X 63 0 f ≠ 3 ∧ X 65 0 f = nI l)) ↔ (x = l ∨ (k ≠ 3 ∧ o = l)) := by
      rw [f63, f64, f65]
      have z1 : nI x = nI l ↔ x = l := zn_eq (by omega) (by omega)
      have z2 : nI o = nI l ↔ o = l := zn_eq (by omega) (by omega)
      have z3 : (nI k ≠ (3 : Int32)) ↔ k ≠ 3 := not_congr (zn_eql (k := 3) (by omega) (by decide))
      rw [z1, z2, z3]
    have skip : ¬ (Bf X P fl S a f ∧ (X 64 0 f = nI l ∨ (X 63 0 f ≠ 3 ∧ X 65 0 f = nI l))) → ∃ r' : Int32, X7_brokenWith_L5 al N (fun Y => X7_brokenWith_J61 al N Y) (fun p3 Y => X7_brokenWith_J76 al N p3 Y) fu s (nI l) r (nI (i + 1)) X = some (r', X) ∧ _ := fun hc => by
      refine ih r (brI_cg (fun f' => ?_) hr)
      rw [take_mem hg]
      constructor
      · rintro (q | ⟨q1, q2⟩)
        · exact Or.inl q
        · exact Or.inr ⟨Or.inl q1, q2⟩
      · rintro (q | ⟨q1 | q1, q2⟩)
        · exact Or.inl q
        · exact Or.inr ⟨q1, q2⟩
        · subst q1
          exact absurd q2 hc
    show ∃ r' : Int32, X7_brokenWith_L5 al N (fun Y => X7_brokenWith_J61 al N Y) (fun p3 Y => X7_brokenWith_J76 al N p3 Y) (fu + 1) s (nI l) r (nI i) X = some (r', X) ∧ _
    unfold X7_brokenWith_L5
    rw [b14, if_neg e2, rd_nI (by omega) (by omega), Option.bind_some, h18, if_neg (zn_nn (by omega)), dr_nI hal (by omega), Option.bind_some]
    obtain ⟨r1, g1, g2, g3⟩ := isOf_eq (al := al) (N := N) w2 w3 w4 hk hx ho hl10
    rw [g1, bind2_some]
    by_cases c1 : r1 = 0
    · rw [if_pos c1]
      show ∃ r' : Int32, X7_brokenWith_L5 al N _ _ fu s (nI l) r (nI i + 1) X = some (r', X) ∧ _
      rw [zn_a1]
      exact skip fun q => (g3.mp c1) (eof.mp q.2)
    · have hof : x = l ∨ (k ≠ 3 ∧ o = l) := Classical.byContradiction fun q => c1 (g3.mpr q)
      have hxl : x ∈ ls := by
        rcases hof with q | ⟨q1, q2⟩
        · exact q ▸ hl
        · exact hox q1 (q2 ▸ hl)
      have hol : k ≠ 3 → o ∈ ls := hxo hxl
      rw [if_neg c1]
      obtain ⟨r2, g4, g5, g6⟩ := isBroken_eq (al := al) (N := N) (S := S) (a := a) w2 w3 w4 hk hx ho b4 b5 b11 (ha x hxl) (fun q => ha o (hol q)) (fun q => by
        rcases hof with z | ⟨z, -⟩
        · rw [z]; exact hS
        · exact absurd q z) (h20 x hxl) (fun q => h20 o (hol q))
      have hBf : Bf X P fl S a f ↔ ¬ r2 = 0 := by
        unfold Bf
        rw [pl_iff hk hx ho f63 f64 f65, brk_iff hk hx ho f63 f64 f65, g6, Classical.not_not]
        exact ⟨fun q => q.2, fun q => ⟨hfm, q⟩⟩
      rw [g4, bind2_some]
      by_cases c2 : r2 = 0
      · rw [if_pos c2]
        show ∃ r' : Int32, X7_brokenWith_L5 al N _ _ fu s (nI l) r (nI i + 1) X = some (r', X) ∧ _
        rw [zn_a1]
        exact skip fun q => hBf.mp q.1 c2
      · have hBff := hBf.mpr c2
        rw [if_neg c2, b12]
        cases hsp : sp with
        | false =>
          rw [show (if (false = true) then (1 : Int32) else 0) = 0 from if_neg (by decide), if_pos rfl]
          subst hR
          exact ⟨-2, rfl, Or.inl ⟨rfl, Or.inl ⟨hsp, f, hBff⟩⟩⟩
        | true =>
          rw [show (if (true = true) then (1 : Int32) else 0) = 1 from if_pos rfl, if_neg (by decide)]
          rcases hr with ⟨q1, q2⟩ | ⟨g, q1, q0, -, q3, q4⟩
          · rw [if_pos q1, gl_eq, w0]
            show ∃ r' : Int32, X7_brokenWith_L5 al N _ _ fu s (nI l) (nI f) (nI i + 1) X = some (r', X) ∧ _
            rw [zn_a1]
            refine ih (nI f) (Or.inr ⟨f, rfl, by omega, hsp, Or.inr ⟨(take_mem hg).mpr (Or.inr rfl), hBff, eof.mpr hof⟩, fun f' hf' => ?_⟩)
            rcases hf' with z | ⟨z1, z2⟩
            · exact absurd (Or.inl z) (q2 f')
            · rcases (take_mem hg).mp z1 with z | z
              · exact absurd (Or.inr ⟨z, z2⟩) (q2 f')
              · exact z
          · rw [if_neg (by rw [q1]; exact zn_ne1 (by omega))]
            subst hR
            refine ⟨-2, rfl, Or.inl ⟨rfl, Or.inr ⟨f, g, ?_, Or.inr hBff, ?_⟩⟩⟩
            · intro e
              subst e
              rcases q3 with z | ⟨z, -⟩
              · exact hBl f hfm z (eof.mpr hof)
              · exact hfn z
            · rcases q3 with z | ⟨-, z, -⟩
              · exact Or.inl z
              · exact Or.inr z
  · rintro fu r hr
    rw [List.take_length] at hr
    show ∃ r' : Int32, X7_brokenWith_L5 al N (fun Y => X7_brokenWith_J61 al N Y) (fun p3 Y => X7_brokenWith_J76 al N p3 Y) (fu + 1) s (nI l) r (nI fl.length) X = some (r', X) ∧ _
    unfold X7_brokenWith_L5
    rw [b14, if_pos (Int32.le_refl _)]
    subst hR
    refine ⟨r, rfl, Or.inr ⟨?_, brI_cg (fun f => ?_) hr⟩⟩
    · rcases hr with ⟨q1, -⟩ | ⟨g, q1, q0, -⟩
      · rw [q1]; decide
      · rw [q1]
        intro q
        exact zn_nn (a := g) (by omega) (by rw [q]; decide)
    · constructor
      · rintro (q | ⟨-, q⟩)
        · exact Or.inl q
        · exact Or.inr q
      · rintro (q | q)
        · exact Or.inl q
        · exact Or.inr ⟨q.1.1, q⟩
