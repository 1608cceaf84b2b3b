/-! arrangements: one more leaf is put -/
def pS (S : Nat → Bool) (l : Nat) : Nat → Bool := fun x => S x || decide (x = l)
theorem pS_l (S : Nat → Bool) (l : Nat) : pS S l l = true := by simp [pS]
theorem pS_o {S : Nat → Bool} {l x : Nat} (h : x ≠ l) : pS S l x = S x := by simp [pS, h]
theorem pS_iff {S : Nat → Bool} {l x : Nat} : pS S l x = true ↔ S x = true ∨ x = l := by simp [pS]
theorem un_l (a : Nat → Nat) (l v : Nat) : updN a l v l = v := if_pos rfl
theorem un_o {a : Nat → Nat} {l v x : Nat} (h : x ≠ l) : updN a l v x = a x := if_neg h
theorem put_sS {X : gM} {s p1 l : Nat} {ls : List Nat} {S : Nat → Bool} {a : Nat → Nat} (h : sS X s p1 ls S a) (hl : l ∈ ls) (hS : S l = false) : sS (mset (mset X 21 s p1 (nI l)) 20 s l (nI p1)) s (p1 + 1) ls (pS S l) (updN a l p1) := by
  obtain ⟨s1, s2, s3, s4, s5⟩ := h
  have ne : ∀ u, S u = true → u ≠ l := fun u hu e => by rw [e, hS] at hu; cases hu
  refine ⟨fun u hu => ?_, fun p hp => ?_, fun u hu => ?_, fun i j hi hj e => ?_, fun i hi => ?_⟩
  · rw [mset_at]
    by_cases c : u = l
    · subst c
      rw [if_pos ⟨rfl, rfl, rfl⟩, pS_l, if_pos rfl, un_l]
    · rw [if_neg (fun z => c z.2.2), mset_at, if_neg (by omega), s1 u hu, pS_o c, un_o c]
  · rw [mset_at, if_neg (by omega), mset_at]
    by_cases c : p = p1
    · subst c
      exact Or.inl ⟨l, pS_l S l, un_l a l p, if_pos ⟨rfl, rfl, rfl⟩⟩
    · rw [if_neg (fun z => c z.2.2)]
      rcases s2 p hp with ⟨u, z1, z2, z3⟩ | ⟨z1, z2⟩
      · exact Or.inl ⟨u, pS_iff.mpr (Or.inl z1), by rw [un_o (ne u z1)]; exact z2, z3⟩
      · refine Or.inr ⟨z1, fun u hu => ?_⟩
        by_cases cu : u = l
        · subst cu
          rw [un_l]
          exact fun e => c e.symm
        · rw [un_o cu]
          exact z2 u ((pS_iff.mp hu).resolve_right cu)
  · by_cases cu : u = l
    · subst cu
      rw [un_l]
      exact ⟨hl, by omega⟩
    · obtain ⟨z1, z2⟩ := s3 u ((pS_iff.mp hu).resolve_right cu)
      rw [un_o cu]
      exact ⟨z1, by omega⟩
  · by_cases ci : i = l
    · by_cases cj : j = l
      · rw [ci, cj]
      · have := (s3 j ((pS_iff.mp hj).resolve_right cj)).2
        rw [ci, un_l, un_o cj] at e
        omega
    · by_cases cj : j = l
      · have := (s3 i ((pS_iff.mp hi).resolve_right ci)).2
        rw [cj, un_l, un_o ci] at e
        omega
      · rw [un_o ci, un_o cj] at e
        exact s4 i j ((pS_iff.mp hi).resolve_right ci) ((pS_iff.mp hj).resolve_right cj) e
  · have ci : i ≠ l := fun e => by rw [e, pS_l] at hi; cases hi
    rw [pS_o ci] at hi
    rw [un_o ci]
    exact s5 i hi
theorem put_sM {X : gM} {p1 l : Nat} {S : Nat → Bool} {a : Nat → Nat} {p3 p4 : Int32} (h : sM X S a p3 p4) (hlt : ∀ u, S u = true → a u < p1) (hS : S l = false) : sM X (pS S l) (updN a l p1) (p3 ||| X 48 0 l) (p4 ||| (p3 &&& (X 48 0 l ^^^ (-1)))) := by
  obtain ⟨h1, h2⟩ := h
  have ne : ∀ u, S u = true → u ≠ l := fun u hu e => by rw [e, hS] at hu; cases hu
  refine ⟨fun h hh => ?_, fun h hh => ?_⟩
  · rw [b_or, Bool.or_eq_true, h1 h hh]
    constructor
    · rintro (⟨i, z1, z2⟩ | z)
      · exact ⟨i, pS_iff.mpr (Or.inl z1), z2⟩
      · exact ⟨l, pS_l S l, z⟩
    · rintro ⟨i, z1, z2⟩
      rcases pS_iff.mp z1 with z | z
      · exact Or.inl ⟨i, z, z2⟩
      · subst z
        exact Or.inr z2
  · rw [b_or, b_and, b_xor, b_m1 h (by omega), Bool.or_eq_true, Bool.and_eq_true, h2 h hh, h1 h hh]
    have ex : ((bt (X 48 0 l) h ^^ true) = true) ↔ ¬ mb (X 48 0 l) h = true := by
      rw [mb_bt]
      cases bt (X 48 0 l) h <;> simp
    rw [ex]
    constructor
    · rintro (⟨i, j, z1, z2, z3, z4, z5⟩ | ⟨⟨i, z1, z2⟩, z3⟩)
      · exact ⟨i, j, pS_iff.mpr (Or.inl z1), pS_iff.mpr (Or.inl z2), by rw [un_o (ne i z1), un_o (ne j z2)]; exact z3, z4, z5⟩
      · exact ⟨i, l, pS_iff.mpr (Or.inl z1), pS_l S l, by rw [un_o (ne i z1), un_l]; exact hlt i z1, z2, z3⟩
    · rintro ⟨i, j, z1, z2, z3, z4, z5⟩
      rcases pS_iff.mp z1 with y1 | y1
      · rcases pS_iff.mp z2 with y2 | y2
        · rw [un_o (ne i y1), un_o (ne j y2)] at z3
          exact Or.inl ⟨i, j, y1, y2, z3, z4, z5⟩
        · subst y2
          exact Or.inr ⟨⟨i, y1, z4⟩, z5⟩
      · subst y1
        rw [un_l] at z3
        rcases pS_iff.mp z2 with y2 | y2
        · rw [un_o (ne j y2)] at z3
          have := hlt j y2
          omega
        · subst y2
          rw [un_l] at z3
          omega
theorem put_sG {X : gM} {p1 l : Nat} {S : Nat → Bool} {a : Nat → Nat} {p3 p4 : Int32} (h : sGo X S a) (hM : sM X S a p3 p4) (hlt : ∀ u, S u = true → a u < p1) (hS : S l = false) (h4 : X 48 0 l &&& p4 = 0) (hf : ∀ u, S u = true → a u + 1 = p1 → X 47 0 l ≠ -1 → X 47 0 u ≠ -1 → X 47 0 l ≠ X 47 0 u) : sGo X (pS S l) (updN a l p1) := by
  obtain ⟨h1, h2⟩ := h
  have ne : ∀ u, S u = true → u ≠ l := fun u hu e => by rw [e, hS] at hu; cases hu
  have va : ∀ u, S u = true → updN a l p1 u = a u := fun u hu => un_o (ne u hu)
  refine ⟨fun h hh i hi j hj k hk b1 b2 e1 e2 => ?_, fun i hi j hj e n1 n2 => ?_⟩
  · rcases pS_iff.mp hi with yi | yi
    · rcases pS_iff.mp hj with yj | yj
      · rw [va i yi, va j yj] at e1
        rw [va j yj] at e2
        rcases pS_iff.mp hk with yk | yk
        · rw [va k yk] at e2
          exact h1 h hh i yi j yj k yk b1 b2 e1 e2
        · subst yk
          apply Classical.byContradiction
          intro nb
          have t1 : bt p4 h = true := (hM.2 h hh).mpr ⟨i, j, yi, yj, e1, b1, nb⟩
          have t2 := (b_eq0 _).mp h4 h (by omega)
          rw [b_and, t1, Bool.and_true] at t2
          rw [mb_bt, t2] at b2
          cases b2
      · subst yj
        rw [un_l] at e2
        rcases pS_iff.mp hk with yk | yk
        · rw [va k yk] at e2
          have := hlt k yk
          omega
        · subst yk
          rw [un_l] at e2
          omega
    · subst yi
      rw [un_l] at e1
      rcases pS_iff.mp hj with yj | yj
      · rw [va j yj] at e1
        have := hlt j yj
        omega
      · subst yj
        rw [un_l] at e1
        omega
  · rcases pS_iff.mp hi with yi | yi
    · rcases pS_iff.mp hj with yj | yj
      · rw [va i yi, va j yj] at e
        exact h2 i yi j yj e n1 n2
      · subst yj
        rw [un_l, va i yi] at e
        exact fun q => hf i yi e.symm n2 n1 q.symm
    · subst yi
      rw [un_l] at e
      rcases pS_iff.mp hj with yj | yj
      · rw [va j yj] at e
        have := hlt j yj
        omega
      · subst yj
        rw [un_l] at e
        omega
theorem put_Oq {p1 l : Nat} {ls : List Nat} {S : Nat → Bool} {a b : Nat → Nat} (hl : l ∈ ls) (hS : S l = false) : Oq ls (pS S l) (updN a l p1) (p1 + 1) b ↔ (∀ u ∈ ls, S u = true → b u = a u) ∧ b l = p1 ∧ ∀ u ∈ ls, S u = false → u ≠ l → p1 + 1 ≤ b u := by
  have ne : ∀ u, S u = true → u ≠ l := fun u hu e => by rw [e, hS] at hu; cases hu
  constructor
  · rintro ⟨q1, q2⟩
    refine ⟨fun u hu hSu => ?_, ?_, fun u hu hSu hul => ?_⟩
    · rw [q1 u hu (pS_iff.mpr (Or.inl hSu)), un_o (ne u hSu)]
    · rw [q1 l hl (pS_l S l), un_l]
    · exact q2 u hu (by rw [pS_o hul]; exact hSu)
  · rintro ⟨q1, q2, q3⟩
    refine ⟨fun u hu hSu => ?_, fun u hu hSu => ?_⟩
    · rcases pS_iff.mp hSu with z | z
      · rw [un_o (ne u z)]; exact q1 u hu z
      · subst z
        rw [un_l]; exact q2
    · have hul : u ≠ l := fun e => by rw [e, pS_l] at hSu; cases hSu
      rw [pS_o hul] at hSu
      exact q3 u hu hSu hul
theorem brk_agree {X : gM} {P f : Nat} {S : Nat → Bool} {a b : Nat → Nat} (h : pl X S f) (e : ∀ x, S x = true → b x = a x) : brk X P f b ↔ brk X P f a := by
  obtain ⟨k, x, o, f63, f64, f65, hk, hx, ho, h1, h2⟩ := h
  rw [brk_iff hk hx ho f63 f64 f65, brk_iff hk hx ho f63 f64 f65, e x h1]
  by_cases c : k = 3
  · subst c
    omega
  · rw [e o (h2 c)]
theorem pl_mono {X : gM} {f : Nat} {S T : Nat → Bool} (h : pl X S f) (e : ∀ x, S x = true → T x = true) : pl X T f := by
  obtain ⟨k, x, o, f63, f64, f65, hk, hx, ho, h1, h2⟩ := h
  exact ⟨k, x, o, f63, f64, f65, hk, hx, ho, e x h1, fun q => e o (h2 q)⟩
theorem Bf_fs {s P f : Nat} {X Y : gM} {fl : List Nat} {S : Nat → Bool} {a : Nat → Nat} (h : fs s X Y) : Bf Y P fl S a f ↔ Bf X P fl S a f := by
  unfold Bf pl brk
  rw [h 63 0 f (by omega), h 64 0 f (by omega), h 65 0 f (by omega)]
/-- a broken fact of those that stand goes on being broken -/
theorem Bf_put {X : gM} {P f l p1 : Nat} {fl : List Nat} {S : Nat → Bool} {a : Nat → Nat} (hS : S l = false) : Bf X P fl (pS S l) (updN a l p1) f ↔ Bf X P fl S a f ∨ (Bf X P fl (pS S l) (updN a l p1) f ∧ (X 64 0 f = nI l ∨ (X 63 0 f ≠ 3 ∧ X 65 0 f = nI l))) := by
  have ne : ∀ u, S u = true → u ≠ l := fun u hu e => by rw [e, hS] at hu; cases hu
  constructor
  · intro h
    by_cases c : X 64 0 f = nI l ∨ (X 63 0 f ≠ 3 ∧ X 65 0 f = nI l)
    · exact Or.inr ⟨h, c⟩
    · obtain ⟨h1, h2, h3⟩ := h
      obtain ⟨k, x, o, f63, f64, f65, hk, hx, ho, q1, q2⟩ := id h2
      rw [not_or] at c
      obtain ⟨c1, c2⟩ := c
      have nx : x ≠ l := fun e => c1 (by rw [f64, e])
      have no : k ≠ 3 → o ≠ l := fun hk3 e => c2 ⟨by rw [f63]; exact mt (zn_eql (k := 3) (by omega) (by decide)).mp hk3, by rw [f65, e]⟩
      have hpl : pl X S f := ⟨k, x, o, f63, f64, f65, hk, hx, ho, (pS_iff.mp q1).resolve_right nx, fun hk3 => (pS_iff.mp (q2 hk3)).resolve_right (no hk3)⟩
      exact Or.inl ⟨h1, hpl, (brk_agree hpl (fun x hx => un_o (ne x hx))).mp h3⟩
  · rintro (⟨h1, h2, h3⟩ | h)
    · exact ⟨h1, pl_mono h2 (fun x hx => pS_iff.mpr (Or.inl hx)), (brk_agree h2 (fun x hx => un_o (ne x hx))).mpr h3⟩
    · exact h.1
/-- where too many facts are broken nothing is left -/
theorem no_goal {al : Nat → Nat → Bool} {X0 : gM} {s b F P : Nat} {ls fl : List Nat} {all sp : Bool} {S : Nat → Bool} {a c : Nat → Nat} (hB : sB al X0 s b F P ls fl all sp) (hSl : ∀ u, S u = true → u ∈ ls) (he : ∀ u, S u = true → c u = a u) (h : (sp = false ∧ ∃ f, Bf X0 P fl S a f) ∨ ∃ f g, f ≠ g ∧ Bf X0 P fl S a f ∧ Bf X0 P fl S a g) : ¬ Goal X0 F P ls all sp c := by
  obtain ⟨-, -, ⟨b8, b9, b10, b11, b12, b13⟩, ⟨b14, b15, b16, b17, b18, b19⟩, b20⟩ := hB
  have key : ∀ f, Bf X0 P fl S a f → f < 12 ∧ cts X0 F ls all f ∧ brk X0 P f c := fun f hf => by
    obtain ⟨h1, h2, h3⟩ := hf
    obtain ⟨q1, q2, q3⟩ := (b19 f).mp h1
    refine ⟨by omega, ⟨q1, q2, q3, ?_⟩, (brk_agree h2 he).mpr h3⟩
    obtain ⟨k, x, o, -, f64, -, -, -, -, z1, -⟩ := h2
    exact ⟨x, hSl x z1, f64⟩
  intro hg
  rcases hg with hg | ⟨hsp, g0, -, -, -, hg⟩
  · rcases h with ⟨-, f, hf⟩ | ⟨f, -, -, hf, -⟩
    · obtain ⟨q1, q2, q3⟩ := key f hf
      exact hg.2 f q2 (by omega) q3
    · obtain ⟨q1, q2, q3⟩ := key f hf
      exact hg.2 f q2 (by omega) q3
  · have ha := b13 hsp
    rw [ha] at key
    rcases h with ⟨h, -⟩ | ⟨f, g, hfg, hf, hg'⟩
    · rw [hsp] at h; cases h
    · obtain ⟨q1, q2, q3⟩ := key f hf
      obtain ⟨r1, r2, r3⟩ := key g hg'
      by_cases c1 : f = g0
      · exact hg g r2 (fun e => hfg (c1.trans e.symm)) r3
      · exact hg f q2 c1 q3
