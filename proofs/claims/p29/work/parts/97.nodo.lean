/-! arrangements: one more is met -/
theorem nO_leaf {P : Nat} {ls : List Nat} {Ψ V R : (Nat → Nat) → Prop} {a : Nat → Nat} (hn : ls.Nodup) (ha : ∀ l ∈ ls, a l < P) (ha0 : ∀ i, i ∉ ls → a i = a00 i) (hd : ∀ b, okA P ls a00 b → V b → ¬ ∀ l ∈ ls, b l = a l) (hR : ∀ b, okA P ls a00 b → (∀ l ∈ ls, b l = a l) → (R b ↔ R a)) :
    nO P ls Ψ (fun b => (V b ∨ ∀ l ∈ ls, b l = a l) ∧ R b) = nO P ls Ψ (fun b => V b ∧ R b) + pc (Ψ a ∧ R a) := by
  have e1 : nO P ls Ψ (fun b => (V b ∨ ∀ l ∈ ls, b l = a l) ∧ R b) = nO P ls Ψ (fun b => (V b ∧ R b) ∨ ((∀ l ∈ ls, b l = a l) ∧ R b)) := nO_cg fun b hb => by
    constructor
    · rintro ⟨q, q1 | q1, q2⟩
      · exact ⟨q, Or.inl ⟨q1, q2⟩⟩
      · exact ⟨q, Or.inr ⟨q1, q2⟩⟩
    · rintro ⟨q, ⟨q1, q2⟩ | ⟨q1, q2⟩⟩
      · exact ⟨q, Or.inl q1, q2⟩
      · exact ⟨q, Or.inr q1, q2⟩
  rw [e1, nO_or (fun b hb q1 q2 => hd b hb q1.1 q2.1)]
  congr 1
  have e2 : nO P ls Ψ (fun b => (∀ l ∈ ls, b l = a l) ∧ R b) = nO P ls (fun b => Ψ b ∧ R a) (fun b => ∀ l ∈ ls, b l = a l) := nO_cg fun b hb => by
    constructor
    · rintro ⟨q, q1, q2⟩
      exact ⟨⟨q, (hR b hb q1).mp q2⟩, q1⟩
    · rintro ⟨⟨q, q2⟩, q1⟩
      exact ⟨q, q1, (hR b hb q1).mpr q2⟩
  rw [e2, nO_point (Ψ := fun b => Ψ b ∧ R a) (b := a) hn ha]
  have e3 : ovr ls a00 a = a := funext fun i => by
    unfold ovr
    by_cases c : i ∈ ls
    · rw [if_pos c]
    · rw [if_neg c, ha0 i c]
  rw [e3]
theorem nO_leaf0 {P : Nat} {ls : List Nat} {Ψ V : (Nat → Nat) → Prop} {a : Nat → Nat} (hn : ls.Nodup) (ha : ∀ l ∈ ls, a l < P) (ha0 : ∀ i, i ∉ ls → a i = a00 i) (hd : ∀ b, okA P ls a00 b → V b → ¬ ∀ l ∈ ls, b l = a l) :
    nO P ls Ψ (fun b => V b ∨ ∀ l ∈ ls, b l = a l) = nO P ls Ψ V + pc (Ψ a) := by
  have e1 : nO P ls Ψ (fun b => V b ∨ ∀ l ∈ ls, b l = a l) = nO P ls Ψ (fun b => (V b ∨ ∀ l ∈ ls, b l = a l) ∧ True) := nO_cg fun b hb => by simp
  have e2 : nO P ls Ψ V = nO P ls Ψ (fun b => V b ∧ True) := nO_cg fun b hb => by simp
  rw [e1, e2, nO_leaf (R := fun _ => True) hn ha ha0 hd (fun _ _ _ => Iff.rfl)]
  congr 1
  exact pc_cg (by simp)
/-- a mask of places gains one -/
theorem bit_leaf {m : Int32} {c d v p : Nat} (h : mb m v = true ↔ c ≠ 0) (hv : v < 32) (hp : p < 32) (hd : d = if p = v then 1 else 0) : mb (m ||| ((1 : Int32) <<< (nI p &&& 31))) v = true ↔ c + d ≠ 0 := by
  have e : mb (m ||| ((1 : Int32) <<< (nI p &&& 31))) v = (mb m v || decide (v = p)) := by
    rw [mb_bt, b_or, b_one hp hv]
    rfl
  rw [e, Bool.or_eq_true, h, decide_eq_true_eq]
  by_cases c1 : v = p
  · rw [hd, if_pos c1.symm]; omega
  · rw [hd, if_neg (fun q => c1 q.symm)]; omega
/-! the sheets' count -/
def mB (X : gM) (F P : Nat) (ls : List Nat) : Prop := ls.length ≤ 6 ∧ (∀ l ∈ ls, l < 10) ∧ ls.Nodup ∧ P ≤ 8 ∧ 1 ≤ P ∧ fcs X F ls ∧ (∀ l ∈ ls, X 47 0 l = -1 ∨ X 47 0 l = 0 ∨ X 47 0 l = 1) ∧ (∀ i l, ls[i]? = some l → X 75 0 i = nI l)
def fm (ls : List Nat) (X Y : gM) : Prop := ∀ k p j, k ≠ 76 → ¬ (k = 77 ∧ j ∈ ls) → ¬ (k = 43 ∧ (j = 40 ∨ j = 42)) → Y k p j = X k p j
theorem fm.rfl {ls : List Nat} {X : gM} : fm ls X X := fun _ _ _ _ _ _ => Eq.refl _
theorem fm.set {ls : List Nat} {X Y : gM} {K i j : Nat} {v : Int32} (h : fm ls X Y) (hs : K = 76 ∨ (K = 43 ∧ (j = 40 ∨ j = 42))) : fm ls X (mset Y K i j v) := by
  intro k p q h1 h2 h3
  rw [mset_at, if_neg, h k p q h1 h2 h3]
  rintro ⟨rfl, -, rfl⟩
  rcases hs with hs | hs
  · exact h1 hs
  · exact h3 hs
theorem fm.trans {ls : List Nat} {X Y Z : gM} (h : fm ls X Y) (g : fm ls Y Z) : fm ls X Z := fun k p j h1 h2 h3 => (g k p j h1 h2 h3).trans (h k p j h1 h2 h3)
theorem mB_fm {X Y : gM} {F P : Nat} {ls : List Nat} (h : fm ls X Y) (g : mB X F P ls) : mB Y F P ls := by
  obtain ⟨g1, g2, g3, g4, g5, ⟨q1, q2, q3⟩, g7, g8⟩ := g
  have e : ∀ k j, k ≠ 76 → k ≠ 77 → k ≠ 43 → Y k 0 j = X k 0 j := fun k j h1 h2 h3 => h k 0 j h1 (fun z => h2 z.1) (fun z => h3 z.1)
  refine ⟨g1, g2, g3, g4, g5, ⟨q1, ?_, fun f hf => ?_⟩, fun l hl => ?_, fun i l hi => ?_⟩
  · rw [h 43 0 23 (by omega) (fun z => by omega) (by omega)]; exact q2
  · rw [e 63 f (by omega) (by omega) (by omega), e 64 f (by omega) (by omega) (by omega), e 65 f (by omega) (by omega) (by omega)]; exact q3 f hf
  · rw [e 47 l (by omega) (by omega) (by omega)]; exact g7 l hl
  · rw [e 75 i (by omega) (by omega) (by omega)]; exact g8 i l hi
theorem fit_e {X Y : gM} {F P wo : Nat} {ls : List Nat} {all : Bool} (e : ∀ k j, 47 ≤ k → k ≤ 67 → Y k 0 j = X k 0 j) (a : Nat → Nat) : fit Y F P ls all wo a ↔ fit X F P ls all wo a := by
  refine fit_cg (fun a => geo_cg (fun i _ => e 48 i (by omega) (by omega)) (fun i _ => e 47 i (by omega) (by omega)) a) (fun f => ?_) (fun f a _ => brk_cg (e 63 f (by omega) (by omega)) (e 64 f (by omega) (by omega)) (e 65 f (by omega) (by omega)) a) wo a
  unfold cts
  rw [e 67 f (by omega) (by omega), e 66 f (by omega) (by omega), e 64 f (by omega) (by omega)]
theorem fit_fm {X Y : gM} {F P wo : Nat} {ls : List Nat} {all : Bool} (h : fm ls X Y) (a : Nat → Nat) : fit Y F P ls all wo a ↔ fit X F P ls all wo a :=
  fit_e (fun k j h1 h2 => h k 0 j (by omega) (fun z => by omega) (fun z => by omega)) a
/-- what the sheets have counted of those met so far -/
def accM (P : Nat) (ls : List Nat) (Ψ : (Nat → Nat) → Prop) (p4 : Int32) (x y : Nat) (V : (Nat → Nat) → Prop) (X : gM) : Prop := X 43 0 40 = nI (nO P ls Ψ V) ∧ (∀ l ∈ ls, ∀ v, v < 32 → (mb (X 77 0 l) v = true ↔ nO P ls Ψ (fun b => V b ∧ b l = v) ≠ 0)) ∧
  (p4 ≠ -1 → X 43 0 42 = nI (nO P ls Ψ (fun b => V b ∧ b x + b y + 1 = P)))
theorem accM_cg {P x y : Nat} {ls : List Nat} {Ψ V V' : (Nat → Nat) → Prop} {p4 : Int32} {X : gM} (h : ∀ b, okA P ls a00 b → Ψ b → (V b ↔ V' b)) (g : accM P ls Ψ p4 x y V X) : accM P ls Ψ p4 x y V' X := by
  obtain ⟨g1, g2, g3⟩ := g
  have e : ∀ R : (Nat → Nat) → Prop, nO P ls Ψ (fun b => V b ∧ R b) = nO P ls Ψ (fun b => V' b ∧ R b) := fun R => nO_cg fun b hb => by
    constructor
    · rintro ⟨q, q1, q2⟩; exact ⟨q, (h b hb q).mp q1, q2⟩
    · rintro ⟨q, q1, q2⟩; exact ⟨q, (h b hb q).mpr q1, q2⟩
  have e0 : nO P ls Ψ V = nO P ls Ψ V' := nO_cg fun b hb => by
    constructor
    · rintro ⟨q, q1⟩; exact ⟨q, (h b hb q).mp q1⟩
    · rintro ⟨q, q1⟩; exact ⟨q, (h b hb q).mpr q1⟩
  refine ⟨by rw [g1, e0], fun l hl v hv => ?_, fun hp => ?_⟩
  · rw [g2 l hl v hv, e (fun b => b l = v)]
  · rw [g3 hp, e (fun b => b x + b y + 1 = P)]
theorem accM_X {P x y : Nat} {ls : List Nat} {Ψ V : (Nat → Nat) → Prop} {p4 : Int32} {X Y : gM} (h1 : Y 43 0 40 = X 43 0 40) (h2 : Y 43 0 42 = X 43 0 42) (h3 : ∀ l ∈ ls, Y 77 0 l = X 77 0 l) (g : accM P ls Ψ p4 x y V X) : accM P ls Ψ p4 x y V Y := by
  obtain ⟨g1, g2, g3⟩ := g
  exact ⟨by rw [h1, g1], fun l hl v hv => by rw [h3 l hl, g2 l hl v hv], fun hp => by rw [h2, g3 hp]⟩
theorem accM_leaf {P x y : Nat} {ls : List Nat} {Ψ V : (Nat → Nat) → Prop} {p4 : Int32} {X Y : gM} {a : Nat → Nat} (hn : ls.Nodup) (hP : P ≤ 8) (ha : ∀ l ∈ ls, a l < P) (ha0 : ∀ i, i ∉ ls → a i = a00 i) (hd : ∀ b, okA P ls a00 b → V b → ¬ ∀ l ∈ ls, b l = a l) (hΨ : Ψ a) (hxy : p4 ≠ -1 → x ∈ ls ∧ y ∈ ls)
    (h1 : Y 43 0 40 = X 43 0 40 + 1) (h3 : ∀ l ∈ ls, Y 77 0 l = X 77 0 l ||| ((1 : Int32) <<< (nI (a l) &&& 31))) (h2 : p4 ≠ -1 → Y 43 0 42 = X 43 0 42 + (if a x + a y + 1 = P then 1 else 0)) (g : accM P ls Ψ p4 x y V X) : accM P ls Ψ p4 x y (fun b => V b ∨ ∀ l ∈ ls, b l = a l) Y := by
  obtain ⟨g1, g2, g3⟩ := g
  refine ⟨?_, fun l hl v hv => ?_, fun hp => ?_⟩
  · rw [nO_leaf0 hn ha ha0 hd, pc_t hΨ, h1, g1, zn_a1]
  · rw [nO_leaf (R := fun b => b l = v) hn ha ha0 hd (fun b _ hb => by rw [hb l hl]), h3 l hl]
    refine bit_leaf (g2 l hl v hv) hv (by have := ha l hl; omega) ?_
    by_cases c : a l = v
    · rw [if_pos c, pc_t ⟨hΨ, c⟩]
    · rw [if_neg c, pc_f (fun q => c q.2)]
  · obtain ⟨hx, hy⟩ := hxy hp
    rw [nO_leaf (R := fun b => b x + b y + 1 = P) hn ha ha0 hd (fun b _ hb => by rw [hb x hx, hb y hy]), h2 hp, g3 hp]
    by_cases c : a x + a y + 1 = P
    · rw [if_pos c, pc_t ⟨hΨ, c⟩, zn_a1]
    · rw [if_neg c, pc_f (fun q => c q.2)]
      exact zn_addl _ 0
/-! the sheets' odometer -/
theorem nd_take {ls : List Nat} {i l : Nat} (hn : ls.Nodup) (h : ls[i]? = some l) : l ∉ ls.take i := by
  intro hm
  have e : ls.take (i + 1) = ls.take i ++ [l] := by rw [List.take_succ, h]; rfl
  have h2 : (ls.take (i + 1)).Nodup := hn.sublist (List.take_sublist ..)
  rw [e, List.nodup_append] at h2
  exact h2.2.2 l hm l List.mem_cons_self rfl
theorem lt_some {ls : List Nat} {i l : Nat} (h : ls[i]? = some l) : i < ls.length := by
  apply Classical.byContradiction
  intro q
  rw [List.getElem?_eq_none (by omega)] at h
  cases h
theorem take_of {ls : List Nat} {i j l : Nat} (h : ls[i]? = some l) (hij : i < j) : l ∈ ls.take j := by
  induction j with
  | zero => omega
  | succ j ih =>
    by_cases c : i = j
    · subst c
      exact (take_mem h).mpr (Or.inr rfl)
    · have := ih (by omega)
      rw [List.take_succ]
      exact List.mem_append_left _ this
theorem odo_L118 {al : Nat → Nat → Bool} {N P j c : Nat} {X : gM} {ls : List Nat} {a : Nat → Nat} {p2 p3 p4 p5 p6 p7 : Int32} (hN : 1000 ≤ N) (hj : j < ls.length) (hn : ls.length ≤ 6) (hP : P ≤ 8) (hc : c ≤ 8) (h76 : ∀ i l, i < j → ls[i]? = some l → X 76 0 i = nI (a l) ∧ a l < P) (hjc : X 76 0 j = nI c) (k : Int32 → Int32 → Int32 → Int32 → Int32 → Int32 → Int32 → Int32 → gM → Option (Int32 × gM)) (Q : Option (Int32 × gM) → Prop)
    (hQ : ∀ r, (r = 0 ∨ r = 1) → (r = 1 ↔ ∀ l ∈ ls.take j, a l ≠ c) → Q (k p2 p3 p4 p5 p6 p7 (nI j) r X)) : Q (X10_arranges_L118 al N k N p2 p3 p4 p5 p6 p7 (nI j) 1 0 X) := by
  refine m_up0 j (fun fu i (s : Int32) => X10_arranges_L118 al N k fu p2 p3 p4 p5 p6 p7 (nI j) s i X)
    (fun i s => (s = 0 ∨ s = 1) ∧ (s = 1 ↔ ∀ l ∈ ls.take i, a l ≠ c)) Q 1 (by omega) ?_ ?_ ⟨Or.inr rfl, fun _ l hl => (by rw [List.take_zero] at hl; cases hl), fun _ => rfl⟩
  · rintro i fu s hi ⟨hs, hs1⟩ ih
    have hg : ls[i]? = some ls[i] := List.getElem?_eq_getElem (by omega)
    obtain ⟨q1, q2⟩ := h76 i _ hi hg
    have e2 : ¬ nI j ≤ nI i := fun q => by
      have := (zn_le (by omega) (by omega)).mp q
      omega
    show Q (X10_arranges_L118 al N k (fu + 1) p2 p3 p4 p5 p6 p7 (nI j) s (nI i) X)
    have no : ¬ (s = 1 ∧ a ls[i] ≠ c) → Q (X10_arranges_J151 al N (X10_arranges_L118 al N k fu) k p2 p3 p4 p5 p6 p7 (nI j) (nI i) X) := fun h1 => by
      simp (disch := omega) only [X10_arranges_J151, X10_arranges_J152, zn_add, zn_mul, zn_addl, zn_ladd, zn_mull, zn_lmul, zn_le, zn_lt, zn_eq, zn_lel, zn_ltl, zn_eql, zn_lle, zn_llt, zn_leq, zn_sub, zn_subl, zn_m1, gl_eq, bind2_some, bind3_some, Option.bind_some, bz_0, bz_1, ib_0, ib_1, ib_bz, rd_nI, rd_l, if_pos, if_neg, if_true, if_false, ite_true, ite_false, eq_self, j00, j10, j20, j30, k00, k01, k02, k03, i20, i30, km0, i10, i01, im0, im1, i0m, i1m]
      refine ih 0 ⟨Or.inl rfl, fun q => absurd q (by decide), fun q => ?_⟩
      rw [take_all hg] at q
      exact absurd ⟨hs1.mpr q.1, q.2⟩ h1
    unfold X10_arranges_L118
    rw [if_neg e2]
    rcases hs with rfl | rfl
    · rw [if_pos rfl]
      exact no fun q => absurd q.1 (by decide)
    · rw [if_neg (by decide : ¬ (1 : Int32) = 0), rd_nI (by omega) (by omega), Option.bind_some, rd_nI (by omega) (by omega), Option.bind_some, q1, hjc]
      by_cases c1 : a ls[i] = c
      · rw [if_pos (by rw [c1])]
        exact no fun q => q.2 c1
      · rw [if_neg (fun q => c1 ((zn_eq (by omega) (by omega)).mp q))]
        simp (disch := omega) only [X10_arranges_J152, zn_add, zn_mul, zn_addl, zn_ladd, zn_mull, zn_lmul, zn_le, zn_lt, zn_eq, zn_lel, zn_ltl, zn_eql, zn_lle, zn_llt, zn_leq, zn_sub, zn_subl, zn_m1, gl_eq, bind2_some, bind3_some, Option.bind_some, bz_0, bz_1, ib_0, ib_1, ib_bz, rd_nI, rd_l, if_pos, if_neg, if_true, if_false, ite_true, ite_false, eq_self, j00, j10, j20, j30, k00, k01, k02, k03, i20, i30, km0, i10, i01, im0, im1, i0m, i1m]
        refine ih 1 ⟨Or.inr rfl, fun _ => ?_, fun _ => rfl⟩
        rw [take_all hg]
        exact ⟨hs1.mp rfl, c1⟩
  · rintro fu s ⟨hs, hs1⟩
    show Q (X10_arranges_L118 al N k (fu + 1) p2 p3 p4 p5 p6 p7 (nI j) s (nI j) X)
    simp (disch := omega) only [X10_arranges_L118, zn_add, zn_mul, zn_addl, zn_ladd, zn_mull, zn_lmul, zn_le, zn_lt, zn_eq, zn_lel, zn_ltl, zn_eql, zn_lle, zn_llt, zn_leq, zn_sub, zn_subl, zn_m1, gl_eq, bind2_some, bind3_some, Option.bind_some, bz_0, bz_1, ib_0, ib_1, ib_bz, rd_nI, rd_l, if_pos, if_neg, if_true, if_false, ite_true, ite_false, eq_self, j00, j10, j20, j30, k00, k01, k02, k03, i20, i30, km0, i10, i01, im0, im1, i0m, i1m]
    exact hQ s hs hs1
theorem odo_L237 {al : Nat → Nat → Bool} {N : Nat} {X : gM} {ls : List Nat} {a : Nat → Nat} {p2 p3 p4 p5 p7 p8 : Int32} (hN : 1000 ≤ N) (hn : ls.length ≤ 6) (hl : ∀ l ∈ ls, l < 10) (hnd : ls.Nodup) (h : slt X ls a) (k : Int32 → Int32 → Int32 → Int32 → Int32 → Int32 → Int32 → gM → Option (Int32 × gM)) (Q : Option (Int32 × gM) → Prop)
    (hQ : ∀ Y, (∀ k p j, ¬ (k = 77 ∧ j ∈ ls) → Y k p j = X k p j) → (∀ l ∈ ls, Y 77 0 l = X 77 0 l ||| ((1 : Int32) <<< (nI (a l) &&& 31))) → Q (k p2 p3 p4 p5 (nI ls.length) p7 p8 Y)) : Q (X10_arranges_L237 al N k N p2 p3 p4 p5 (nI ls.length) p7 p8 0 X) := by
  refine m_up0 ls.length (fun fu i (s : gM) => X10_arranges_L237 al N k fu p2 p3 p4 p5 (nI ls.length) p7 p8 i s)
    (fun i s => (∀ k p j, ¬ (k = 77 ∧ j ∈ ls) → s k p j = X k p j) ∧ (∀ l ∈ ls, s 77 0 l = if l ∈ ls.take i then X 77 0 l ||| ((1 : Int32) <<< (nI (a l) &&& 31)) else X 77 0 l)) Q X (by omega) ?_ ?_ ⟨fun _ _ _ _ => rfl, fun l hl => by rw [List.take_zero, if_neg (by simp)]⟩
  · rintro i fu s hi ⟨hs, hs1⟩ ih
    obtain ⟨l, hm, hg, q1, q2⟩ := slt_get h hi
    have hl10 := hl l hm
    have w1 : s 75 0 i = nI l := by rw [hs 75 0 i (fun z => by omega), q1]
    have w2 : s 76 0 i = nI (a l) := by rw [hs 76 0 i (fun z => by omega), q2]
    show Q (X10_arranges_L237 al N k (fu + 1) p2 p3 p4 p5 (nI ls.length) p7 p8 (nI i) s)
    simp (disch := omega) only [X10_arranges_L237, w1, w2, zn_add, zn_mul, zn_addl, zn_ladd, zn_mull, zn_lmul, zn_le, zn_lt, zn_eq, zn_lel, zn_ltl, zn_eql, zn_lle, zn_llt, zn_leq, zn_sub, zn_subl, zn_m1, gl_eq, bind2_some, bind3_some, Option.bind_some, bz_0, bz_1, ib_0, ib_1, ib_bz, rd_nI, rd_l, if_pos, if_neg, if_true, if_false, ite_true, ite_false, eq_self, j00, j10, j20, j30, k00, k01, k02, k03, i20, i30, km0, i10, i01, im0, im1, i0m, i1m]
    refine ih _ ⟨fun k p j hk => ?_, fun u hu => ?_⟩
    · rw [mset_at, if_neg (fun z => hk ⟨z.1, by rw [z.2.2]; exact hm⟩), hs k p j hk]
    · rw [mset_at]
      by_cases c : u = l
      · subst c
        rw [if_pos ⟨rfl, rfl, rfl⟩, if_pos ((take_mem hg).mpr (Or.inr rfl)), hs1 u hu, if_neg (nd_take hnd hg)]
      · rw [if_neg (fun z => c z.2.2), hs1 u hu]
        by_cases c2 : u ∈ ls.take i
        · rw [if_pos c2, if_pos ((take_mem hg).mpr (Or.inl c2))]
        · rw [if_neg c2, if_neg (fun z => (take_mem hg).mp z |>.elim c2 c)]
  · rintro fu s ⟨hs, hs1⟩
    show Q (X10_arranges_L237 al N k (fu + 1) p2 p3 p4 p5 (nI ls.length) p7 p8 (nI ls.length) s)
    simp (disch := omega) only [X10_arranges_L237, zn_add, zn_mul, zn_addl, zn_ladd, zn_mull, zn_lmul, zn_le, zn_lt, zn_eq, zn_lel, zn_ltl, zn_eql, zn_lle, zn_llt, zn_leq, zn_sub, zn_subl, zn_m1, gl_eq, bind2_some, bind3_some, Option.bind_some, bz_0, bz_1, ib_0, ib_1, ib_bz, rd_nI, rd_l, if_pos, if_neg, if_true, if_false, ite_true, ite_false, eq_self, j00, j10, j20, j30, k00, k01, k02, k03, i20, i30, km0, i10, i01, im0, im1, i0m, i1m]
    refine hQ s hs fun l hl => ?_
    rw [hs1 l hl, List.take_length, if_pos hl]
/-- the test and the count at an arrangement -/
theorem odo_leaf {al : Nat → Nat → Bool} {N P F wo x y : Nat} {X0 X : gM} {ls : List Nat} {a : Nat → Nat} {all : Bool} {p2 p3 p4 p5 p8 : Int32} {V : (Nat → Nat) → Prop} (hN : 1000 ≤ N) (hB : mB X0 F P ls) (hf0 : fm ls X0 X) (hp2 : p2 = 0 ↔ all = false) (hp3 : ∀ f, f < 12 → (nI f = p3 ↔ f = wo)) (hj : p4 = -1 ∨ (p4 = nI x ∧ p5 = nI y ∧ x ∈ ls ∧ y ∈ ls))
    (hacc : accM P ls (fit X0 F P ls all wo) p4 x y V X) (ha : ∀ l ∈ ls, a l < P) (ha0 : ∀ i, i ∉ ls → a i = a00 i) (hd : ∀ b, okA P ls a00 b → V b → ¬ ∀ l ∈ ls, b l = a l) (hdi : ∀ i ∈ ls, ∀ j ∈ ls, a i = a j → i = j) (h76 : ∀ i l, ls[i]? = some l → X 76 0 i = nI (a l))
    (kk : Int32 → Int32 → Int32 → Int32 → Int32 → Int32 → Int32 → gM → Option (Int32 × gM)) (k321 : gM → Option (Int32 × gM)) (Q : Option (Int32 × gM) → Prop)
    (hQ : ∀ Y, fm ls X0 Y → (∀ j, Y 76 0 j = X 76 0 j) → accM P ls (fit X0 F P ls all wo) p4 x y (fun b => V b ∨ ∀ l ∈ ls, b l = a l) Y → Q (kk p2 p3 p4 p5 (nI ls.length) (nI P) p8 Y)) : Q (X10_arranges_J206 al N kk k321 p2 p3 p4 p5 (nI ls.length) (nI P) p8 1 X) := by
  obtain ⟨b1, b2, b3, b4, b5, b6, b7, b8⟩ := mB_fm hf0 hB
  have hs : slt X ls a := fun i l hi => ⟨b8 i l hi, h76 i l hi⟩
  obtain ⟨r, r1, r2, r3⟩ := X10_fits_eq (al := al) hN b1 b2 b4 b5 ha hs hdi b6 hp2 hp3 b7
  rw [fit_fm hf0] at r3
  unfold X10_arranges_J206
  rw [if_neg (by decide : ¬ (1 : Int32) = 0), r1, bind2_some]
  rcases r2 with rfl | rfl
  · rw [if_pos rfl]
    show Q (kk p2 p3 p4 p5 (nI ls.length) (nI P) p8 X)
    refine hQ X hf0 (fun _ => rfl) (accM_cg (fun b hb hΨ => ⟨Or.inl, fun q => q.elim id fun q => ?_⟩) hacc)
    have e : b = a := by
      funext i
      by_cases c : i ∈ ls
      · exact q i c
      · rw [hb.2 i c, ha0 i c]
    subst e
    exact absurd (r3.mpr hΨ) (by decide)
  · rw [if_neg (by decide : ¬ (1 : Int32) = 0), gl_eq]
    have hs6 : slt (mset X 43 0 40 (X 43 0 40 + 1)) ls a := fun i l hi => by
      rw [mset_at, if_neg (by omega), mset_at, if_neg (by omega)]
      exact hs i l hi
    refine odo_L237 hN b1 b2 b3 hs6 _ Q fun Y hY1 hY2 => ?_
    show Q (X10_arranges_J274 al N kk k321 p2 p3 p4 p5 (nI ls.length) (nI P) p8 Y)
    have e40 : Y 43 0 40 = X 43 0 40 + 1 := by rw [hY1 43 0 40 (fun z => by omega), mset_same]
    have e42 : Y 43 0 42 = X 43 0 42 := by rw [hY1 43 0 42 (fun z => by omega), mset_at, if_neg (by omega)]
    have e77 : ∀ l ∈ ls, Y 77 0 l = X 77 0 l ||| ((1 : Int32) <<< (nI (a l) &&& 31)) := fun l hl => by rw [hY2 l hl, mset_at, if_neg (by omega)]
    have e76 : ∀ j, Y 76 0 j = X 76 0 j := fun j => by rw [hY1 76 0 j (fun z => by omega), mset_at, if_neg (by omega)]
    have hfY : fm ls X0 Y := by
      intro k p j h1 h2 h3
      rw [hY1 k p j h2, mset_at, if_neg (fun z => h3 ⟨z.1, Or.inl z.2.2⟩), hf0 k p j h1 h2 h3]
    have fin : ∀ v : Int32, (p4 ≠ -1 → v = X 43 0 42 + (if a x + a y + 1 = P then 1 else 0)) → Q (kk p2 p3 p4 p5 (nI ls.length) (nI P) p8 (mset Y 43 0 42 v)) := fun v hv => by
      refine hQ _ (hfY.set (Or.inr ⟨rfl, Or.inr rfl⟩)) (fun j => ?_) (accM_leaf b3 b4 ha ha0 hd (r3.mp rfl) (fun hp => ?_) ?_ (fun l hl => ?_) (fun hp => ?_) hacc)
      · rw [mset_at, if_neg (by omega), e76]
      · rcases hj with q | ⟨-, -, q⟩
        · exact absurd q hp
        · exact q
      · rw [mset_at, if_neg (by omega), e40]
      · rw [mset_at, if_neg (by omega), e77 l hl]
      · rw [mset_same, hv hp]
    unfold X10_arranges_J274
    rcases hj with rfl | ⟨rfl, rfl, hx, hy⟩
    · rw [if_pos rfl]
      show Q (kk p2 p3 (-1) p5 (nI ls.length) (nI P) p8 (mset Y 43 0 42 (Y 43 0 42 + 0)))
      exact fin _ fun q => absurd rfl q
    · have hx10 := b2 x hx
      have hy10 := b2 y hy
      have hsY : slt Y ls a := fun i l hi => by
        rw [hY1 75 0 i (fun z => by omega), hY1 76 0 i (fun z => by omega)]
        exact hs6 i l hi
      have hax := ha x hx
      have hay := ha y hy
      rw [if_neg (zn_ne1 (by omega)), X10_placeOf_eq hN b1 b2 hx10 hsY, bind2_some, X10_placeOf_eq hN b1 b2 hy10 hsY, bind2_some, if_pos hx, if_pos hy]
      have e : (nI (a x) + nI (a y) = nI P - (1 : Int32)) ↔ a x + a y + 1 = P := by
        rw [zn_add, zn_s1 (a := P) b5, zn_eq (by omega) (by omega)]
        show a x + a y = P - 1 ↔ _
        omega
      by_cases c : a x + a y + 1 = P
      · rw [if_pos (e.mpr c)]
        show Q (kk p2 p3 (nI x) (nI y) (nI ls.length) (nI P) p8 (mset Y 43 0 42 (Y 43 0 42 + 1)))
        exact fin _ fun _ => by rw [e42, if_pos c]
      · rw [if_neg (mt e.mp c)]
        show Q (kk p2 p3 (nI x) (nI y) (nI ls.length) (nI P) p8 (mset Y 43 0 42 (Y 43 0 42 + 0)))
        exact fin _ fun _ => by rw [e42, if_neg c]
def oT (P : Nat) : Nat → Nat
  | 0 => 0
  | k + 1 => P * (1 + oT P k) + 1
theorem dI_a1 (c : Nat) : dI c + (1 : Int32) = nI c := by
  unfold dI
  by_cases h : c = 0
  · rw [if_pos h, h]; rfl
  · rw [if_neg h, zn_a1]
    show nI (c - 1 + 1) = nI c
    congr 1
    omega
theorem odo {al : Nat → Nat → Bool} {N P F wo x y : Nat} {X0 : gM} {ls : List Nat} {all : Bool} {p2 p3 p4 p5 : Int32} (hN : 1000 ≤ N) (hB : mB X0 F P ls) (hp2 : p2 = 0 ↔ all = false) (hp3 : ∀ f, f < 12 → (nI f = p3 ↔ f = wo)) (hj : p4 = -1 ∨ (p4 = nI x ∧ p5 = nI y ∧ x ∈ ls ∧ y ∈ ls)) (k321 : gM → Option (Int32 × gM)) (Q : Option (Int32 × gM) → Prop) :
    ∀ k j l, j + k + 1 = ls.length → ls[j]? = some l → ∀ r c, c + r = P → ∀ (fu : Nat) (a : Nat → Nat) (V : (Nat → Nat) → Prop) (X : gM), fm ls X0 X → accM P ls (fit X0 F P ls all wo) p4 x y V X → (∀ i, i ∉ ls → a i = a00 i) → (∀ i u, i < j → ls[i]? = some u → X 76 0 i = nI (a u) ∧ a u < P) → X 76 0 j = dI c →
      (∀ u ∈ ls.take j, a u < P) → (∀ u ∈ ls.take j, ∀ w ∈ ls.take j, a u = a w → u = w) → (∀ b, okA P ls a00 b → V b → ¬ ((∀ u ∈ ls.take j, b u = a u) ∧ c ≤ b l)) → r * (1 + oT P k) + 1 ≤ fu →
      (∀ fu' Y, fu ≤ fu' + (r * (1 + oT P k) + 1) → fm ls X0 Y → accM P ls (fit X0 F P ls all wo) p4 x y (fun b => V b ∨ ((∀ u ∈ ls.take j, b u = a u) ∧ c ≤ b l)) Y → (∀ i, i < j → Y 76 0 i = X 76 0 i) → Q (X10_arranges_L91 al N k321 fu' p2 p3 p4 p5 (nI ls.length) (nI P) (dI j) Y)) →
      Q (X10_arranges_L91 al N k321 fu p2 p3 p4 p5 (nI ls.length) (nI P) (nI j) X) := by
  intro k
  induction k using Nat.strongRecOn with
  | ind k ihk =>
    intro j l hjk hg r
    have hjn : j < ls.length := lt_some hg
    have hlm : l ∈ ls := List.mem_of_getElem? hg
    obtain ⟨b1, b2, b3, b4, b5, b6, b7, b8⟩ := id hB
    have hlt : l ∉ ls.take j := nd_take b3 hg
    induction r with
    | zero =>
      intro c hc fu a V X hf0 hacc ha0 h76 hjc hA hdi hdis hfu hQ
      obtain ⟨f, rfl⟩ : ∃ f, fu = f + 1 := ⟨fu - 1, by omega⟩
      unfold X10_arranges_L91
      have n1 : ¬ nI ls.length ≤ (0 : Int32) := fun q => by
        have := (zn_lel (k := 0) (by omega) (by decide)).mp q
        have e0 : (OfNat.ofNat 0 : Nat) = 0 := rfl
        omega
      rw [if_neg (zn_nn (by omega)), if_neg n1, rd_nI (by omega) (by omega), Option.bind_some, Option.bind_some, gl_eq, hjc, dI_a1]
      refine odo_L118 (a := a) (P := P) (c := c) hN hjn b1 b4 (by omega) (fun i u hi hu => ?_) (mset_same ..) _ Q fun q q1 q2 => ?_
      · rw [mset_at, if_neg (by omega)]
        exact h76 i u hi hu
      · show Q (X10_arranges_J160 al N (X10_arranges_L91 al N k321 f) k321 p2 p3 p4 p5 (nI ls.length) (nI P) (nI j) q (mset X 76 0 j (nI c)))
        unfold X10_arranges_J160
        have n2 : ¬ nI c < nI P := fun z => by
          have := (zn_lt (by omega) (by omega)).mp z
          omega
        rw [rd_nI (by omega) (by omega), Option.bind_some, mset_same, if_neg n2, gl_eq, dI_m1]
        show Q (X10_arranges_L91 al N k321 f p2 p3 p4 p5 (nI ls.length) (nI P) (dI j) (mset X 76 0 j (nI c)))
        refine hQ f _ (by omega) (hf0.set (Or.inl rfl)) (accM_X (by rw [mset_at, if_neg (by omega)]) (by rw [mset_at, if_neg (by omega)]) (fun u _ => by rw [mset_at, if_neg (by omega)]) (accM_cg (fun b hb _ => ⟨Or.inl, fun z => z.elim id fun z => ?_⟩) hacc)) (fun i hi => by rw [mset_at, if_neg (by omega)])
        have := hb.1 l hlm
        omega
    | succ r ihr =>
      intro c hc fu a V X hf0 hacc ha0 h76 hjc hA hdi hdis hfu hQ
      rw [Nat.succ_mul] at hfu
      obtain ⟨f, rfl⟩ : ∃ f, fu = f + 1 := ⟨fu - 1, by omega⟩
      have hgo : ∀ f1 X1, fm ls X0 X1 → (∀ i, i < j → X1 76 0 i = X 76 0 i) → X1 76 0 j = nI c → accM P ls (fit X0 F P ls all wo) p4 x y (fun b => V b ∨ ((∀ u ∈ ls.take j, b u = a u) ∧ b l = c)) X1 → r * (1 + oT P k) + 1 ≤ f1 → f + 1 ≤ f1 + ((r + 1) * (1 + oT P k) + 1) - (r * (1 + oT P k) + 1) →
          Q (X10_arranges_L91 al N k321 f1 p2 p3 p4 p5 (nI ls.length) (nI P) (nI j) X1) := fun f1 X1 w1 w2 w3 w4 w5 w6 => by
        refine ihr (c + 1) (by omega) f1 a _ X1 w1 w4 ha0 (fun i u hi hu => by rw [w2 i hi]; exact h76 i u hi hu) (by rw [w3]; rfl) hA hdi (fun b hb z1 z2 => ?_) w5 (fun fu' Y z1 z2 z3 z4 => ?_)
        · rcases z1 with z1 | z1
          · exact hdis b hb z1 ⟨z2.1, by omega⟩
          · omega
        · refine hQ fu' Y (by omega) z2 (accM_cg (fun b hb _ => ?_) z3) (fun i hi => by rw [z4 i hi, w2 i hi])
          constructor
          · rintro ((z | ⟨z, z'⟩) | ⟨z, z'⟩)
            · exact Or.inl z
            · exact Or.inr ⟨z, by omega⟩
            · exact Or.inr ⟨z, by omega⟩
          · rintro (z | ⟨z, z'⟩)
            · exact Or.inl (Or.inl z)
            · by_cases e : b l = c
              · exact Or.inl (Or.inr ⟨z, e⟩)
              · exact Or.inr ⟨z, by omega⟩
      have hX7 : fm ls X0 (mset X 76 0 j (nI c)) := hf0.set (Or.inl rfl)
      have hX7a : ∀ V', (∀ b, okA P ls a00 b → fit X0 F P ls all wo b → (V b ↔ V' b)) → accM P ls (fit X0 F P ls all wo) p4 x y V' (mset X 76 0 j (nI c)) := fun V' hV => accM_X (by rw [mset_at, if_neg (by omega)]) (by rw [mset_at, if_neg (by omega)]) (fun u _ => by rw [mset_at, if_neg (by omega)]) (accM_cg hV hacc)
      have hX7s : ∀ i, i < j → (mset X 76 0 j (nI c)) 76 0 i = X 76 0 i := fun i hi => by rw [mset_at, if_neg (by omega)]
      unfold X10_arranges_L91
      have n1 : ¬ nI ls.length ≤ (0 : Int32) := fun q => by
        have := (zn_lel (k := 0) (by omega) (by decide)).mp q
        have e0 : (OfNat.ofNat 0 : Nat) = 0 := rfl
        omega
      rw [if_neg (zn_nn (by omega)), if_neg n1, rd_nI (by omega) (by omega), Option.bind_some, Option.bind_some, gl_eq, hjc, dI_a1]
      refine odo_L118 (a := a) (P := P) (c := c) hN hjn b1 b4 (by omega) (fun i u hi hu => ?_) (mset_same ..) _ Q fun q q1 q2 => ?_
      · rw [hX7s i hi]
        exact h76 i u hi hu
      · show Q (X10_arranges_J160 al N (X10_arranges_L91 al N k321 f) k321 p2 p3 p4 p5 (nI ls.length) (nI P) (nI j) q (mset X 76 0 j (nI c)))
        unfold X10_arranges_J160
        have n2 : nI c < nI P := (zn_lt (by omega) (by omega)).mpr (by omega)
        rw [rd_nI (by omega) (by omega), Option.bind_some, mset_same, if_pos n2]
        rcases q1 with rfl | rfl
        · rw [if_pos rfl]
          unfold X10_arranges_J206
          rw [if_pos rfl]
          show Q (X10_arranges_L91 al N k321 f p2 p3 p4 p5 (nI ls.length) (nI P) (nI j) (mset X 76 0 j (nI c)))
          refine hgo f _ hX7 hX7s (mset_same ..) (hX7a _ fun b hb hΨ => ⟨Or.inl, fun z => z.elim id fun z => ?_⟩) (by omega) (by rw [Nat.succ_mul]; omega)
          exfalso
          have : ¬ (∀ u ∈ ls.take j, a u ≠ c) := fun w => absurd (q2.mpr w) (by decide)
          apply this
          intro u hu e
          have hul : u = l := hΨ.1.1 u (List.mem_of_mem_take hu) l hlm (by rw [z.1 u hu, z.2, e])
          subst hul
          exact hlt hu
        · have hac := q2.mp rfl
          rw [if_neg (by decide : ¬ (1 : Int32) = 0)]
          have en : nI ls.length - (1 : Int32) = nI (ls.length - 1) := zn_s1 (a := ls.length) (by omega)
          have a'l : updN a l c l = c := if_pos rfl
          have a'u : ∀ u, u ≠ l → updN a l c u = a u := fun u hu => if_neg hu
          have a't : ∀ u ∈ ls.take j, updN a l c u = a u := fun u hu => a'u u fun e => hlt (e ▸ hu)
          have a'0 : ∀ i, i ∉ ls → updN a l c i = a00 i := fun i hi => by
            rw [a'u i (fun e => hi (e ▸ hlm))]
            exact ha0 i hi
          have hd1 : ∀ u ∈ ls.take (j + 1), ∀ w ∈ ls.take (j + 1), updN a l c u = updN a l c w → u = w := fun u hu w hw e => by
            rcases (take_mem hg).mp hu with hu | hu <;> rcases (take_mem hg).mp hw with hw | hw
            · rw [a't u hu, a't w hw] at e
              exact hdi u hu w hw e
            · subst hw
              rw [a't u hu, a'l] at e
              exact absurd e (hac u hu)
            · subst hu
              rw [a't w hw, a'l] at e
              exact absurd e.symm (hac w hw)
            · rw [hu, hw]
          have hA1 : ∀ u ∈ ls.take (j + 1), updN a l c u < P := fun u hu => by
            rcases (take_mem hg).mp hu with hu | hu
            · rw [a't u hu]; exact hA u hu
            · subst hu
              rw [a'l]; omega
          have hag : ∀ b : Nat → Nat, (∀ u ∈ ls.take (j + 1), b u = updN a l c u) ↔ ((∀ u ∈ ls.take j, b u = a u) ∧ b l = c) := fun b => by
            rw [take_all hg, a'l]
            constructor
            · rintro ⟨z1, z2⟩
              exact ⟨fun u hu => by rw [z1 u hu, a't u hu], z2⟩
            · rintro ⟨z1, z2⟩
              exact ⟨fun u hu => by rw [z1 u hu, a't u hu], z2⟩
          have h76' : ∀ i u, i < j + 1 → ls[i]? = some u → (mset X 76 0 j (nI c)) 76 0 i = nI (updN a l c u) ∧ updN a l c u < P := fun i u hi hu => by
            by_cases e : i = j
            · subst e
              have : u = l := Option.some.inj (hu.symm.trans hg)
              subst this
              rw [mset_same, a'l]
              exact ⟨rfl, by omega⟩
            · rw [hX7s i (by omega), a't u (take_of hu (by omega))]
              exact h76 i u (by omega) hu
          by_cases hk0 : k = 0
          ·    have ejn : ls.length = j + 1 := by omega
               have tk : ls.take (j + 1) = ls := by rw [← ejn, List.take_length]
               have n3 : nI ls.length - (1 : Int32) ≤ nI j := by rw [en]; exact (zn_le (by omega) (by omega)).mpr (by omega)
               rw [if_pos n3]
               rw [tk] at hd1 hA1 hag
               refine odo_leaf hN hB hX7 hp2 hp3 hj (hX7a V fun _ _ _ => Iff.rfl) hA1 a'0 (fun b hb hV z => ?_) hd1 (fun i u hu => (h76' i u (by have := lt_some hu; omega) hu).1) _ _ Q fun Y y1 y2 y3 => ?_
               · obtain ⟨z1, z2⟩ := (hag b).mp z
                 exact hdis b hb hV ⟨z1, by omega⟩
               · refine hgo f Y y1 (fun i hi => by rw [y2, hX7s i hi]) (by rw [y2, mset_same]) (accM_cg (fun b _ _ => by rw [hag b]) y3) (by omega) (by rw [Nat.succ_mul]; omega)
          ·    obtain ⟨k, rfl⟩ : ∃ k2, k = k2 + 1 := ⟨k - 1, by omega⟩
               have n3 : ¬ nI ls.length - (1 : Int32) ≤ nI j := fun z => by
                 rw [en] at z
                 have := (zn_le (by omega) (by omega)).mp z
                 omega
               rw [if_neg n3, gl_eq, zn_a1, rd_nI (by omega : j + 1 < 6) (by omega), Option.bind_some, gl_eq]
               show Q (X10_arranges_L91 al N k321 f p2 p3 p4 p5 (nI ls.length) (nI P) (nI (j + 1)) (mset (mset X 76 0 j (nI c)) 76 0 (j + 1) (-1)))
               obtain ⟨l1, hl1⟩ : ∃ l1, ls[j + 1]? = some l1 := ⟨_, List.getElem?_eq_getElem (by omega)⟩
               have hs2 : ∀ i, i < j + 1 → (mset (mset X 76 0 j (nI c)) 76 0 (j + 1) (-1)) 76 0 i = (mset X 76 0 j (nI c)) 76 0 i := fun i hi => by rw [mset_at, if_neg (by omega)]
               refine ihk k (by omega) (j + 1) l1 (by omega) hl1 P 0 (by omega) f (updN a l c) V _ (hX7.set (Or.inl rfl)) (accM_X (by rw [mset_at, if_neg (by omega)]) (by rw [mset_at, if_neg (by omega)]) (fun u _ => by rw [mset_at, if_neg (by omega)]) (hX7a V fun _ _ _ => Iff.rfl)) a'0 (fun i u hi hu => by rw [hs2 i hi]; exact h76' i u hi hu) (mset_same ..) hA1 hd1 (fun b hb hV z => ?_) ?_ fun fu' Y y0 y1 y2 y3 => ?_
               · obtain ⟨z1, z2⟩ := (hag b).mp z.1
                 exact hdis b hb hV ⟨z1, by omega⟩
               · show oT P (k + 1) ≤ f
                 omega
               · have y0' : f ≤ fu' + oT P (k + 1) := y0
                 refine hgo fu' Y y1 (fun i hi => by rw [y3 i (by omega), hs2 i (by omega), hX7s i hi]) (by rw [y3 j (by omega), hs2 j (by omega), mset_same]) (accM_cg (fun b _ _ => ?_) y2) (by omega) (by rw [Nat.succ_mul]; omega)
                 rw [hag b]
                 exact ⟨fun z => z.elim Or.inl fun z => Or.inr z.1, fun z => z.elim Or.inl fun z => Or.inr ⟨z, Nat.zero_le _⟩⟩
