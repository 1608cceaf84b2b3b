/-! the sheets' arrangements, counted -/
theorem lvs_mono (x : Nat → Int32) (b : Nat) {i j : Nat} (h : i ≤ j) : (lvs x b i).length ≤ (lvs x b j).length := by
  induction j with
  | zero =>
    have : i = 0 := by omega
    subst this
    exact Nat.le_refl _
  | succ j ih =>
    by_cases c : i = j + 1
    · subst c; exact Nat.le_refl _
    · have := ih (by omega)
      show _ ≤ (lvs x b j ++ _).length
      rw [List.length_append]
      omega
theorem arr_L6 {al : Nat → Nat → Bool} {N L b : Nat} {X : gM} {p2 p3 p4 p5 : Int32} (hN : 1000 ≤ N) (hb : b < 2) (hL : L ≤ 10) (h0 : X 43 0 0 = nI L) (h6 : (lvs (X 44 0) b L).length ≤ 6) (k : Int32 → Int32 → Int32 → Int32 → Int32 → Int32 → gM → Option (Int32 × gM)) (Q : Option (Int32 × gM) → Prop)
    (hQ : ∀ Y, (∀ k p j, k ≠ 75 → ¬ (k = 77 ∧ j ∈ lvs (X 44 0) b L) → Y k p j = X k p j) → (∀ i l, (lvs (X 44 0) b L)[i]? = some l → Y 75 0 i = nI l) → (∀ l ∈ lvs (X 44 0) b L, Y 77 0 l = 0) → Q (k (nI b) p2 p3 p4 p5 (nI (lvs (X 44 0) b L).length) Y)) : Q (X10_arranges_L6 al N k N (nI b) p2 p3 p4 p5 0 0 X) := by
  refine m_up0 L (fun fu i (s : Int32 × gM) => X10_arranges_L6 al N k fu (nI b) p2 p3 p4 p5 s.1 i s.2)
    (fun i s => s.1 = nI (lvs (X 44 0) b i).length ∧ (∀ k p j, k ≠ 75 → ¬ (k = 77 ∧ j ∈ lvs (X 44 0) b L) → s.2 k p j = X k p j) ∧ (∀ t l, (lvs (X 44 0) b i)[t]? = some l → s.2 75 0 t = nI l) ∧ (∀ l ∈ lvs (X 44 0) b i, s.2 77 0 l = 0)) Q (0, X) (by omega) ?_ ?_ ⟨rfl, fun _ _ _ _ _ => rfl, fun t l h => by simp [lvs] at h, fun l h => by simp [lvs] at h⟩
  · rintro i fu ⟨s1, s⟩ hi ⟨q1, q2, q3, q4⟩ ih
    simp only at q1 q2 q3 q4
    subst q1
    have e0 : s 43 0 0 = nI L := by rw [q2 43 0 0 (by omega) (fun z => by omega), h0]
    have e44 : s 44 0 i = X 44 0 i := q2 44 0 i (by omega) (fun z => by omega)
    have hlen := lvs_mono (X 44 0) b (show i + 1 ≤ L by omega)
    show Q (X10_arranges_L6 al N k (fu + 1) (nI b) p2 p3 p4 p5 (nI (lvs (X 44 0) b i).length) (nI i) s)
    by_cases c : X 44 0 i = nI b
    · have el : lvs (X 44 0) b (i + 1) = lvs (X 44 0) b i ++ [i] := by
        show lvs (X 44 0) b i ++ (if X 44 0 i = nI b then [i] else []) = _
        rw [if_pos c]
      have el2 : (lvs (X 44 0) b (i + 1)).length = (lvs (X 44 0) b i).length + 1 := by rw [el, List.length_append]; rfl
      have es : s 44 0 i = nI b := e44.trans c
      simp (disch := omega) only [X10_arranges_L6, e0, es, if_pos c, X10_arranges_J46, zn_add, zn_mul, zn_addl, zn_ladd, zn_mull, zn_lmul, zn_le, zn_lt, zn_eq, zn_lel, zn_ltl, zn_eql, zn_lle, zn_llt, zn_leq, zn_sub, zn_subl, zn_m1, gl_eq, bind2_some, bind3_some, Option.bind_some, bz_0, bz_1, ib_0, ib_1, ib_bz, rd_nI, rd_l, if_pos, if_neg, if_true, if_false, ite_true, ite_false, eq_self, j00, j10, j20, j30, k00, k01, k02, k03, i20, i30, km0, i10, i01, im0, im1, i0m, i1m]
      refine ih (_, _) ⟨?_, fun k p j h1 h2 => ?_, fun t l ht => ?_, fun l hl => ?_⟩
      · show nI ((lvs (X 44 0) b i).length + 1) = _
        rw [el2]
      · show mset (mset s 75 0 (lvs (X 44 0) b i).length (nI i)) 77 0 i 0 k p j = _
        rw [mset_at, if_neg (fun z => h2 ⟨z.1, by rw [z.2.2]; exact lvs_mem.mpr ⟨hi, c⟩⟩), mset_at, if_neg (fun z => h1 z.1), q2 k p j h1 h2]
      · show mset (mset s 75 0 (lvs (X 44 0) b i).length (nI i)) 77 0 i 0 75 0 t = _
        rw [mset_at, if_neg (by omega), mset_at]
        rw [el] at ht
        by_cases ct : t = (lvs (X 44 0) b i).length
        · rw [if_pos ⟨rfl, rfl, ct⟩]
          subst ct
          rw [List.getElem?_append_right (Nat.le_refl _), Nat.sub_self] at ht
          have : i = l := Option.some.inj ht
          rw [this]
        · rw [if_neg (fun z => ct z.2.2)]
          have : t < (lvs (X 44 0) b i ++ [i]).length := lt_some ht
          rw [List.length_append] at this
          have e1 : [i].length = 1 := rfl
          rw [List.getElem?_append_left (by omega)] at ht
          exact q3 t l ht
      · show mset (mset s 75 0 (lvs (X 44 0) b i).length (nI i)) 77 0 i 0 77 0 l = 0
        rw [mset_at]
        by_cases cl : l = i
        · rw [if_pos ⟨rfl, rfl, cl⟩]
        · rw [if_neg (fun z => cl z.2.2), mset_at, if_neg (by omega)]
          rw [el, List.mem_append] at hl
          rcases hl with hl | hl
          · exact q4 l hl
          · rw [List.mem_singleton] at hl
            exact absurd hl cl
    · have el : lvs (X 44 0) b (i + 1) = lvs (X 44 0) b i := by
        show lvs (X 44 0) b i ++ (if X 44 0 i = nI b then [i] else []) = _
        rw [if_neg c, List.append_nil]
      have es : ¬ s 44 0 i = nI b := by rw [e44]; exact c
      simp (disch := omega) only [X10_arranges_L6, e0, if_neg es, X10_arranges_J46, zn_add, zn_mul, zn_addl, zn_ladd, zn_mull, zn_lmul, zn_le, zn_lt, zn_eq, zn_lel, zn_ltl, zn_eql, zn_lle, zn_llt, zn_leq, zn_sub, zn_subl, zn_m1, gl_eq, bind2_some, bind3_some, Option.bind_some, bz_0, bz_1, ib_0, ib_1, ib_bz, rd_nI, rd_l, if_pos, if_neg, if_true, if_false, ite_true, ite_false, eq_self, j00, j10, j20, j30, k00, k01, k02, k03, i20, i30, km0, i10, i01, im0, im1, i0m, i1m]
      refine ih (_, _) ⟨(by show nI _ = nI _; rw [el]), q2, by rw [el]; exact q3, by rw [el]; exact q4⟩
  · rintro fu ⟨s1, s⟩ ⟨q1, q2, q3, q4⟩
    simp only at q1 q2 q3 q4
    subst q1
    have e0 : s 43 0 0 = nI L := by rw [q2 43 0 0 (by omega) (fun z => by omega), h0]
    show Q (X10_arranges_L6 al N k (fu + 1) (nI b) p2 p3 p4 p5 (nI (lvs (X 44 0) b L).length) (nI L) s)
    simp (disch := omega) only [X10_arranges_L6, e0, zn_add, zn_mul, zn_addl, zn_ladd, zn_mull, zn_lmul, zn_le, zn_lt, zn_eq, zn_lel, zn_ltl, zn_eql, zn_lle, zn_llt, zn_leq, zn_sub, zn_subl, zn_m1, gl_eq, bind2_some, bind3_some, Option.bind_some, bz_0, bz_1, ib_0, ib_1, ib_bz, rd_nI, rd_l, if_pos, if_neg, if_true, if_false, ite_true, ite_false, eq_self, j00, j10, j20, j30, k00, k01, k02, k03, i20, i30, km0, i10, i01, im0, im1, i0m, i1m]
    exact hQ s q2 q3 q4
theorem oT_8 {P k : Nat} (hP : P ≤ 8) (hk : k ≤ 5) : P * (1 + oT P k) + 1 ≤ 400000 := by
  have h0 : oT P 0 ≤ 0 := Nat.le_refl _
  have st : ∀ k m, oT P k ≤ m → oT P (k + 1) ≤ 8 * (1 + m) + 1 := fun k m h => by
    have : P * (1 + oT P k) ≤ 8 * (1 + m) := Nat.mul_le_mul hP (by omega)
    show P * (1 + oT P k) + 1 ≤ _
    omega
  have h1 := st 0 0 h0
  have h2 := st 1 _ h1
  have h3 := st 2 _ h2
  have h4 := st 3 _ h3
  have h5 := st 4 _ h4
  have h6 := st 5 _ h5
  have key : oT P (k + 1) ≤ 400000 := by
    have : k = 0 ∨ k = 1 ∨ k = 2 ∨ k = 3 ∨ k = 4 ∨ k = 5 := by omega
    rcases this with rfl | rfl | rfl | rfl | rfl | rfl
    · exact Nat.le_trans h1 (by decide)
    · exact Nat.le_trans h2 (by decide)
    · exact Nat.le_trans h3 (by decide)
    · exact Nat.le_trans h4 (by decide)
    · exact Nat.le_trans h5 (by decide)
    · exact Nat.le_trans h6 (by decide)
  exact key
theorem X10_arranges_eq {al : Nat → Nat → Bool} {N L F b s wo x y : Nat} {X : gM} {all : Bool} {p2 p3 p4 p5 : Int32} (hN : 1000000 ≤ N) (hb : b < 2) (hL : L ≤ 10) (h0 : X 43 0 0 = nI L) (h6 : (lvs (X 44 0) b L).length ≤ 6) (h53 : X 53 0 b = nI s) (hs1 : 1 ≤ s) (hs4 : s ≤ 4) (hF : fcs X F (lvs (X 44 0) b L)) (h47 : ∀ l ∈ lvs (X 44 0) b L, X 47 0 l = -1 ∨ X 47 0 l = 0 ∨ X 47 0 l = 1)
    (hp2 : p2 = 0 ↔ all = false) (hp3 : ∀ f, f < 12 → (nI f = p3 ↔ f = wo)) (hj : p4 = -1 ∨ (p4 = nI x ∧ p5 = nI y ∧ x ∈ lvs (X 44 0) b L ∧ y ∈ lvs (X 44 0) b L)) :
    ∃ Y, X10_arranges al N (nI b) p2 p3 p4 p5 X = some (0, Y) ∧ (∀ k p j, k ≠ 75 → k ≠ 76 → ¬ (k = 77 ∧ j ∈ lvs (X 44 0) b L) → ¬ (k = 43 ∧ (j = 40 ∨ j = 42)) → Y k p j = X k p j) ∧
      Y 43 0 40 = nI (nc (2 * s) (fit X F (2 * s) (lvs (X 44 0) b L) all wo) (lvs (X 44 0) b L) a00) ∧
      (∀ l ∈ lvs (X 44 0) b L, ∀ v, v < 32 → (mb (Y 77 0 l) v = true ↔ nc (2 * s) (fun a => fit X F (2 * s) (lvs (X 44 0) b L) all wo a ∧ a l = v) (lvs (X 44 0) b L) a00 ≠ 0)) ∧
      (p4 ≠ -1 → Y 43 0 42 = nI (nc (2 * s) (fun a => fit X F (2 * s) (lvs (X 44 0) b L) all wo a ∧ a x + a y + 1 = 2 * s) (lvs (X 44 0) b L) a00)) := by
  unfold X10_arranges
  refine exR fun R hR => ?_
  refine arr_L6 (al := al) (N := N) (by omega) hb hL h0 h6 _ (fun o => ∃ Y, o = some (0, Y) ∧ R Y) fun Y0 y1 y2 y3 => ?_
  subst hR
  generalize hls : lvs (X 44 0) b L = ls at h6 hF h47 hj y1 y2 y3 ⊢
  have hl10 : ∀ l ∈ ls, l < 10 := fun l hl => by
    rw [← hls] at hl
    have := (lvs_mem.mp hl).1
    omega
  have hnd : ls.Nodup := hls ▸ lvs_nodup _ _ _
  show ∃ Y, X10_arranges_J52 al N (nI b) p2 p3 p4 p5 (nI ls.length) Y0 = some (0, Y) ∧ _
  have e53 : Y0 53 0 b = nI s := by rw [y1 53 0 b (by omega) (fun z => by omega), h53]
  have main : ∀ v : Int32, v = nI (if ls.length = 0 then 1 else 0) → ∃ Y, X10_arranges_J63 al N (nI b) p2 p3 p4 p5 (nI ls.length) v Y0 = some (0, Y) ∧ (∀ k p j, k ≠ 75 → k ≠ 76 → ¬ (k = 77 ∧ j ∈ ls) → ¬ (k = 43 ∧ (j = 40 ∨ j = 42)) → Y k p j = X k p j) ∧
      Y 43 0 40 = nI (nc (2 * s) (fit X F (2 * s) ls all wo) ls a00) ∧
      (∀ l ∈ ls, ∀ v, v < 32 → (mb (Y 77 0 l) v = true ↔ nc (2 * s) (fun a => fit X F (2 * s) ls all wo a ∧ a l = v) ls a00 ≠ 0)) ∧
      (p4 ≠ -1 → Y 43 0 42 = nI (nc (2 * s) (fun a => fit X F (2 * s) ls all wo a ∧ a x + a y + 1 = 2 * s) ls a00)) := by
    intro v hv
    generalize hX0 : mset (mset (mset Y0 43 0 40 v) 43 0 42 0) 76 0 0 (-1) = X0
    have f0 : ∀ k p j, k ≠ 75 → k ≠ 76 → ¬ (k = 77 ∧ j ∈ ls) → ¬ (k = 43 ∧ (j = 40 ∨ j = 42)) → X0 k p j = X k p j := fun k p j h1 h2 h3 h4 => by
      rw [← hX0, mset_at, if_neg (fun z => h2 z.1), mset_at, if_neg (fun z => h4 ⟨z.1, Or.inr z.2.2⟩), mset_at, if_neg (fun z => h4 ⟨z.1, Or.inl z.2.2⟩), y1 k p j h1 h3]
    have fe : ∀ a, fit X0 F (2 * s) ls all wo a ↔ fit X F (2 * s) ls all wo a := fun a => fit_e (fun k j h1 h2 => f0 k 0 j (by omega) (by omega) (fun z => by omega) (by omega)) a
    have e1 : X10_arranges_J63 al N (nI b) p2 p3 p4 p5 (nI ls.length) v Y0 = X10_arranges_L91 al N (fun Y => X10_arranges_J321 al N Y) N p2 p3 p4 p5 (nI ls.length) (nI (2 * s)) (nI 0) X0 := by
      have e53' : (mset (mset Y0 43 0 40 v) 43 0 42 0) 53 0 b = nI s := by rw [mset_at, if_neg (by omega), mset_at, if_neg (by omega), e53]
      unfold X10_arranges_J63
      rw [gl_eq, gl_eq, rd_nI hb (by omega), Option.bind_some, gl_eq, e53', zn_lmul]
      show (rd (nI 0) 6).bind _ = _
      rw [rd_nI (by omega) (by omega), Option.bind_some, gl_eq, hX0]
      rfl
    rw [e1]
    by_cases hn0 : ls.length = 0
    · have hnil : ls = [] := List.length_eq_zero_iff.mp hn0
      subst hnil
      have eL : ∀ M, X10_arranges_L91 al N (fun Y => X10_arranges_J321 al N Y) (M + 1) p2 p3 p4 p5 (nI ([] : List Nat).length) (nI (2 * s)) (nI 0) X0 = some (0, X0) := fun M => by
        unfold X10_arranges_L91
        rw [if_neg (by decide), if_pos (by decide)]
        rfl
      obtain ⟨M, hM⟩ : ∃ M, N = M + 1 := ⟨N - 1, by omega⟩
      have eL2 := eL M
      rw [← hM] at eL2
      refine ⟨X0, eL2, f0, ?_, fun l hl => (by cases hl), fun hp => ?_⟩
      · have : fit X F (2 * s) [] all wo a00 := ⟨⟨fun i hi => (by cases hi), fun h _ i hi => (by cases hi), fun i hi => (by cases hi)⟩, fun f hf => by
          obtain ⟨-, -, -, z, hz, -⟩ := hf
          cases hz⟩
        show _ = nI (pc _)
        rw [pc_t this, ← hX0, mset_at, if_neg (by omega), mset_at, if_neg (by omega), mset_same, hv]
        rfl
      · rcases hj with z | ⟨-, -, z, -⟩
        · exact absurd z hp
        · cases z
    · obtain ⟨l0, hl0⟩ : ∃ l, ls[0]? = some l := ⟨_, List.getElem?_eq_getElem (by omega)⟩
      have hB : mB X0 F (2 * s) ls := by
        obtain ⟨q1, q2, q3⟩ := hF
        refine ⟨h6, hl10, hnd, by omega, by omega, ⟨q1, ?_, fun f hf => ?_⟩, fun l hl => ?_, fun i l hi => ?_⟩
        · rw [f0 43 0 23 (by omega) (by omega) (fun z => by omega) (by omega)]; exact q2
        · rw [f0 63 0 f (by omega) (by omega) (fun z => by omega) (by omega), f0 64 0 f (by omega) (by omega) (fun z => by omega) (by omega), f0 65 0 f (by omega) (by omega) (fun z => by omega) (by omega)]; exact q3 f hf
        · rw [f0 47 0 l (by omega) (by omega) (fun z => by omega) (by omega)]; exact h47 l hl
        · rw [← hX0, mset_at, if_neg (by omega), mset_at, if_neg (by omega), mset_at, if_neg (by omega)]; exact y2 i l hi
      refine exR fun R hR => ?_
      refine odo (x := x) (y := y) (by omega) hB hp2 hp3 hj _ (fun o => ∃ Y, o = some (0, Y) ∧ R Y) (ls.length - 1) 0 l0 (by omega) hl0 (2 * s) 0 (by omega) N a00 (fun _ => False) X0 fm.rfl ⟨?_, fun l hl v' hv' => ?_, fun _ => ?_⟩ (fun _ _ => rfl) (fun i u hi => by omega) ?_ (fun u hu => (by rw [List.take_zero] at hu; cases hu)) (fun u hu => (by rw [List.take_zero] at hu; cases hu)) (fun b _ z => z.elim) ?_ fun fu' Y w1 w2 w3 w4 => ?_
      · rw [← hX0, mset_at, if_neg (by omega), mset_at, if_neg (by omega), mset_same, hv, if_neg hn0, nO_none (fun b _ z => z.elim)]
      · rw [nO_none (fun b _ z => z.1.elim), ← hX0, mset_at, if_neg (by omega), mset_at, if_neg (by omega), mset_at, if_neg (by omega), y3 l hl, mb_bt, b_0]
        exact ⟨fun z => absurd z (by decide), fun z => absurd rfl z⟩
      · rw [nO_none (fun b _ z => z.1.elim), ← hX0, mset_at, if_neg (by omega), mset_same]
        rfl
      · rw [← hX0, mset_same]; rfl
      · have := oT_8 (P := 2 * s) (k := ls.length - 1) (by omega) (by omega)
        omega
      · have := oT_8 (P := 2 * s) (k := ls.length - 1) (by omega) (by omega)
        obtain ⟨g, rfl⟩ : ∃ g, fu' = g + 1 := ⟨fu' - 1, by omega⟩
        have hV : ∀ R : (Nat → Nat) → Prop, nO (2 * s) ls (fit X0 F (2 * s) ls all wo) (fun b => (False ∨ (∀ u ∈ ls.take 0, b u = a00 u) ∧ 0 ≤ b l0) ∧ R b) = nc (2 * s) (fun a => fit X F (2 * s) ls all wo a ∧ R a) ls a00 := fun R => nc_cgv ls _ fun b _ => by
          constructor
          · rintro ⟨z1, -, z2⟩
            exact ⟨(fe b).mp z1, z2⟩
          · rintro ⟨z1, z2⟩
            exact ⟨(fe b).mpr z1, Or.inr ⟨fun u hu => (by rw [List.take_zero] at hu; cases hu), Nat.zero_le _⟩, z2⟩
        have hV0 : nO (2 * s) ls (fit X0 F (2 * s) ls all wo) (fun b => False ∨ (∀ u ∈ ls.take 0, b u = a00 u) ∧ 0 ≤ b l0) = nc (2 * s) (fit X F (2 * s) ls all wo) ls a00 := nc_cgv ls _ fun b _ => by
          constructor
          · rintro ⟨z1, -⟩
            exact (fe b).mp z1
          · intro z1
            exact ⟨(fe b).mpr z1, Or.inr ⟨fun u hu => (by rw [List.take_zero] at hu; cases hu), Nat.zero_le _⟩⟩
        obtain ⟨a1, a2, a3⟩ := w3
        subst hR
        refine ⟨Y, ?_, fun k p j h1 h2 h3 h4 => by rw [w2 k p j h2 h3 h4, f0 k p j h1 h2 h3 h4], ?_, fun l hl v' hv' => ?_, fun hp => ?_⟩
        · unfold X10_arranges_L91
          rw [if_pos (show dI 0 < (0 : Int32) from by decide)]
          rfl
        · rw [a1, hV0]
        · rw [a2 l hl v' hv', hV]
        · rw [a3 hp, hV]
  unfold X10_arranges_J52
  have e0 : nI ls.length = (0 : Int32) ↔ ls.length = 0 := zn_eql (k := 0) (by omega) (by decide)
  by_cases c : ls.length = 0
  · rw [if_pos (e0.mpr c)]
    exact main 1 (by rw [if_pos c]; rfl)
  · rw [if_neg (mt e0.mp c)]
    exact main 0 (by rw [if_neg c]; rfl)
