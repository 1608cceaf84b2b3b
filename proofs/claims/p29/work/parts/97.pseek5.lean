/-! arrangements: the class's search finds each of them once -/
def seekS (al : Nat → Nat → Bool) (N : Nat) (X0 : gM) (s F P : Nat) (ls fl : List Nat) (all sp : Bool) (d : Nat) : Prop :=
  ∀ p1, p1 + d = 10 → p1 ≤ P → ∀ (X : gM) (S : Nat → Bool) (a : Nat → Nat) (p3 p4 p5 : Int32) (V : (Nat → Nat) → Prop), fs s X0 X → sS X s p1 ls S a → sM X0 S a p3 p4 → sGo X0 S a → brI sp (Bf X0 P fl S a) p5 → accC X0 s F P ls all sp V X → (∀ b, okA P ls a00 b → V b → ¬ Oq ls S a p1 b) →
    ∃ Y, X7_seek al N d s (nI p1) (nI (ls.filter (fun l => !S l)).length) p3 p4 p5 X = some (0, Y) ∧ fs s X Y ∧ (∀ j, Y 20 s j = X 20 s j) ∧ (∀ j, Y 21 s j = X 21 s j) ∧ accC X0 s F P ls all sp (fun b => V b ∨ Oq ls S a p1 b) Y
theorem seek_leaf {al : Nat → Nat → Bool} {N s b F P p1 : Nat} {X0 X : gM} {ls fl : List Nat} {all sp : Bool} {S : Nat → Bool} {a : Nat → Nat} {p5 : Int32} {V : (Nat → Nat) → Prop} (hN : 1000 ≤ N) (hB0 : sB al X0 s b F P ls fl all sp) (hf : fs s X0 X) (hp1 : p1 ≤ P) (hS : sS X s p1 ls S a) (hSl : ∀ l ∈ ls, S l = true) (hG : sGo X0 S a) (hb : brI sp (Bf X0 P fl S a) p5) (hacc : accC X0 s F P ls all sp V X) (hd : ∀ b, okA P ls a00 b → V b → ¬ ∀ l ∈ ls, b l = a l) :
    ∃ Y, X7_keep al N s p5 X = some (0, Y) ∧ fs s X Y ∧ (∀ j, Y 20 s j = X 20 s j) ∧ (∀ j, Y 21 s j = X 21 s j) ∧ accC X0 s F P ls all sp (fun b => V b ∨ ∀ l ∈ ls, b l = a l) Y := by
  obtain ⟨⟨b1, b2, b3, b4, b5⟩, -, ⟨b8, b9, b10, b11, b12, b13⟩, ⟨b14, b15, b16, b17, b18, b19⟩, b20⟩ := id hB0
  obtain ⟨s1, s2, s3, s4, s5⟩ := id hS
  have hgeo : geo X0 ls a := ⟨fun i hi j hj e => s4 i j (hSl i hi) (hSl j hj) e, fun h hh i hi j hj k hk => hG.1 h hh i (hSl i hi) j (hSl j hj) k (hSl k hk), fun i hi j hj => hG.2 i (hSl i hi) j (hSl j hj)⟩
  have hpl : ∀ f al2, cts X0 F ls al2 f → pl X0 S f := fun f al2 hc => by
    obtain ⟨q1, q2, q3, z, hz, e64⟩ := hc
    obtain ⟨k, x, o, hk, hx, ho, f63, f64, f65, hxo, hox, -⟩ := b20 f q1
    have hz10 := b2 z hz
    have : x = z := (zn_eq (by omega) (by omega)).mp (f64.symm.trans e64)
    subst this
    exact ⟨k, x, o, f63, f64, f65, hk, hx, ho, hSl x hz, fun hk3 => hSl o (hxo hz hk3)⟩
  have hcB : ∀ f, cts X0 F ls all f → brk X0 P f a → Bf X0 P fl S a f := fun f hc hbr => ⟨(b19 f).mpr ⟨hc.1, hc.2.1, hc.2.2.1⟩, hpl f all hc, hbr⟩
  have hBc : ∀ f, Bf X0 P fl S a f → f < 12 ∧ cts X0 F ls all f ∧ brk X0 P f a := fun f hf => by
    obtain ⟨h1, h2, h3⟩ := hf
    obtain ⟨q1, q2, q3⟩ := (b19 f).mp h1
    refine ⟨by omega, ⟨q1, q2, q3, ?_⟩, h3⟩
    obtain ⟨k, x, o, -, f64, -, -, -, -, z1, -⟩ := h2
    exact ⟨x, (s3 x z1).1, f64⟩
  refine keep_eq hN (sB_fs hf hB0) hS hSl (fun l hl => by have := (s3 l (hSl l hl)).2; omega) hacc hd ?_
  have c2c : ∀ f, cts X0 F ls false f → cts X0 F ls all f := fun f hc => ⟨hc.1, hc.2.1, Or.inr (hc.2.2.1.resolve_left (by decide)), hc.2.2.2⟩
  rcases hb with ⟨q1, q2⟩ | ⟨g, q1, q0, q2, q3, q4⟩
  · refine Or.inl ⟨q1, ⟨hgeo, fun f hc _ hbr => q2 f (hcB f hc hbr)⟩, fun g hg => ?_⟩
    exact q2 g (hcB g (c2c g hg.2.1) hg.2.2.1)
  · obtain ⟨k1, k2, k3⟩ := hBc g q3
    have hall := b13 q2
    refine Or.inr ⟨g, q1, q0, q2, fun hfit => hfit.2 g k2 (by omega) k3, fun g' => ⟨fun hg' => q4 g' (hcB g' (c2c g' hg'.2.1) hg'.2.2.1), fun e => ?_⟩⟩
    subst e
    rw [hall] at k2
    refine ⟨hgeo, k2, k3, fun f hc hne hbr => hne (q4 f (hcB f (c2c f hc) hbr))⟩
theorem seek_all {al : Nat → Nat → Bool} {N s b F P : Nat} {X0 : gM} {ls fl : List Nat} {all sp : Bool} (hN : 1000 ≤ N) (hB0 : sB al X0 s b F P ls fl all sp) : ∀ d, seekS al N X0 s F P ls fl all sp d := by
  intro d
  obtain ⟨⟨b1, b2, b3, b4, b5⟩, ⟨b6, b7⟩, ⟨b8, b9, b10, b11, b12, b13⟩, -, -⟩ := id hB0
  induction d with
  | zero => intro p1 h1 h2; omega
  | succ d ihd =>
    intro p1 hpd hpP X S a p3 p4 p5 V hf hS hM hG hb hacc hdis
    obtain ⟨s1, s2, s3, s4, s5⟩ := id hS
    have hBX := sB_fs hf hB0
    have hu10 : (ls.filter (fun l => !S l)).length ≤ 6 := Nat.le_trans (List.length_filter_le _ _) b1
    show ∃ Y, X7_seek_B al N (X7_seek al N d) s (nI p1) (nI (ls.filter (fun l => !S l)).length) p3 p4 p5 X = some (0, Y) ∧ _
    unfold X7_seek_B
    by_cases hu : (ls.filter (fun l => !S l)).length = 0
    · have hSl : ∀ l ∈ ls, S l = true := fun l hl => by
        have h0 := List.length_eq_zero_iff.mp hu
        cases h : S l with
        | true => rfl
        | false =>
          have : l ∈ ls.filter (fun l => !S l) := List.mem_filter.mpr ⟨hl, by rw [h]; rfl⟩
          rw [h0] at this
          cases this
      have hO : ∀ b, Oq ls S a p1 b ↔ ∀ l ∈ ls, b l = a l := fun b => ⟨fun q l hl => q.1 l hl (hSl l hl), fun q => ⟨fun l hl _ => q l hl, fun l hl h => by rw [hSl l hl] at h; cases h⟩⟩
      obtain ⟨Y, y1, y2, y3, y4, y5⟩ := seek_leaf (al := al) hN hB0 hf hpP hS hSl hG hb hacc (fun b hb hV q => hdis b hb hV ((hO b).mpr q))
      rw [hu, if_pos (show nI 0 = (0 : Int32) from rfl), y1, bind2_some]
      exact ⟨Y, rfl, y2, y3, y4, accC_cg (fun b _ _ => by rw [hO b]) y5⟩
    · have n0 : ¬ nI (ls.filter (fun l => !S l)).length = (0 : Int32) := mt (zn_eql (k := 0) (by omega) (by decide)).mp hu
      have e10 : X 14 s 10 = nI P := by rw [hf 14 s 10 (by omega), b11]
      obtain ⟨l0, hl0⟩ : ∃ l0, l0 ∈ ls.filter (fun l => !S l) := by
        cases h : ls.filter (fun l => !S l) with
        | nil => rw [h] at hu; exact absurd rfl hu
        | cons x t => exact ⟨x, List.mem_cons_self⟩
      obtain ⟨hl0m, hl0S⟩ := List.mem_filter.mp hl0
      have hl0S' : S l0 = false := by simpa using hl0S
      rw [if_neg n0, e10]
      by_cases hPp : P ≤ p1
      · rw [if_pos ((zn_le (by omega) (by omega)).mpr hPp)]
        refine ⟨X, rfl, fs.rfl, fun _ => rfl, fun _ => rfl, accC_cg (fun b hb _ => ⟨Or.inl, fun q => q.elim id fun q => ?_⟩) hacc⟩
        have h1 := hb.1 l0 hl0m
        have h2 := q.2 l0 hl0m hl0S'
        omega
      · have hp8 : p1 < 8 := by omega
        rw [if_neg (fun q => hPp ((zn_le (by omega) (by omega)).mp q)), zn_sub (by omega : p1 ≤ P)]
        by_cases hpig : (ls.filter (fun l => !S l)).length ≤ P - p1
        · rw [if_pos ((zn_le (by omega) (by omega)).mpr hpig), zn_a1]
          obtain ⟨Y1, y1, y2, y3, y4, y5⟩ := ihd (p1 + 1) (by omega) (by omega) X S a p3 p4 p5 V hf ⟨s1, s2, fun l hl => by
            obtain ⟨q1, q2⟩ := s3 l hl
            exact ⟨q1, by omega⟩, s4, s5⟩ hM hG hb hacc (fun b hb hV q => hdis b hb hV ⟨q.1, fun l hl hSl => by have := q.2 l hl hSl; omega⟩)
          rw [y1, bind2_some]
          have hf1 : fs s X0 Y1 := hf.trans y2
          have e149 : Y1 14 s 9 = nI b := by rw [hf1 14 s 9 (by omega), b10]
          rw [e149, dr_nI b8 (by omega), Option.bind_some]
          refine exR fun R hR => ?_
          refine m_up0 6 (fun fu i (y : gM) => X7_seek_L57 al N (X7_seek al N d) (fun Y => X7_seek_J185 al N (X7_seek al N d) Y) fu s (nI p1) (nI (ls.filter (fun l => !S l)).length) p3 p4 p5 b 6 i y)
            (fun i y => fs s X y ∧ (∀ j, y 20 s j = X 20 s j) ∧ (∀ j, y 21 s j = X 21 s j) ∧ accC X0 s F P ls all sp (fun c => (V c ∨ Oq ls S a (p1 + 1) c) ∨ (Oq ls S a p1 c ∧ ∃ l ∈ ls.take i, S l = false ∧ c l = p1)) y) (fun o => ∃ Y, o = some (0, Y) ∧ R Y) Y1 (by omega) ?_ ?_ ⟨y2, y3, y4, accC_cg (fun c _ _ => ⟨Or.inl, fun q => q.elim id fun q => by
              obtain ⟨-, l, hl, -⟩ := q
              rw [List.take_zero] at hl
              cases hl⟩) y5⟩
          · rintro i fu y hi ⟨w1, w2, w3, w4⟩ ih
            have hfy : fs s X0 y := hf.trans w1
            have hBy := sB_fs hfy hB0
            have hSy : sS y s p1 ls S a := ⟨fun l hl => by rw [w2]; exact s1 l hl, fun p hp => by rw [w3]; exact s2 p hp, s3, s4, s5⟩
            have n6 : ¬ (6 : Int32) ≤ nI i := fun q => by
              have := (zn_lle (k := 6) (by omega) (by decide)).mp q
              have e8 : (OfNat.ofNat 6 : Nat) = 6 := rfl
              omega
            have e13 : y 13 b i = lvg ls i := by rw [hfy 13 b i (by omega), b6]
            show ∃ Y, X7_seek_L57 al N (X7_seek al N d) (fun Y => X7_seek_J185 al N (X7_seek al N d) Y) (fu + 1) s (nI p1) (nI (ls.filter (fun l => !S l)).length) p3 p4 p5 b 6 (nI i) y = some (0, Y) ∧ _
            unfold X7_seek_L57
            rw [if_neg n6, rd_nI hi (by omega), Option.bind_some, e13]
            cases hg : ls[i]? with
            | none =>
              rw [lvg_none hg, if_pos (by decide)]
              show ∃ Y, X7_seek_L57 al N (X7_seek al N d) _ fu s (nI p1) (nI (ls.filter (fun l => !S l)).length) p3 p4 p5 b 6 (nI i + 1) y = some (0, Y) ∧ _
              rw [zn_a1]
              refine ih y ⟨w1, w2, w3, ?_⟩
              rw [take_none hg]
              exact w4
            | some l =>
              have hm : l ∈ ls := List.mem_of_getElem? hg
              have hl10 := b2 l hm
              have hlt := nd_take b3 hg
              obtain ⟨v1, v2, v3, v4, vm, v5, v6⟩ := b7 l hm
              rw [lvg_some hg, if_neg (zn_nn (by omega)), dr_nI v1 (by omega), Option.bind_some]
              obtain ⟨r, r1, r2, r3⟩ := canStand_eq (al := al) (N := N) (p4 := p4) hBy hSy hm hp8
              rw [hfy 48 0 l (by omega), hfy 47 0 l (by omega)] at r3
              rw [r1, bind2_some]
              have skipA : (∀ c, okA P ls a00 c → Goal X0 F P ls all sp c → ¬ (Oq ls S a p1 c ∧ S l = false ∧ c l = p1)) → accC X0 s F P ls all sp (fun c => (V c ∨ Oq ls S a (p1 + 1) c) ∨ (Oq ls S a p1 c ∧ ∃ l ∈ ls.take (i + 1), S l = false ∧ c l = p1)) y := fun hc => by
                refine accC_cg (fun c hok hgl => ?_) w4
                constructor
                · rintro (q | ⟨q1, u, q2, q3⟩)
                  · exact Or.inl q
                  · exact Or.inr ⟨q1, u, (take_mem hg).mpr (Or.inl q2), q3⟩
                · rintro (q | ⟨q1, u, q2, q3⟩)
                  · exact Or.inl q
                  · rcases (take_mem hg).mp q2 with z | z
                    · exact Or.inr ⟨q1, u, z, q3⟩
                    · subst z
                      exact absurd ⟨q1, q3⟩ (hc c hok hgl)
              by_cases c1 : r = 0
              · rw [if_pos c1]
                show ∃ Y, X7_seek_L57 al N (X7_seek al N d) _ fu s (nI p1) (nI (ls.filter (fun l => !S l)).length) p3 p4 p5 b 6 (nI i + 1) y = some (0, Y) ∧ _
                rw [zn_a1]
                refine ih y ⟨w1, w2, w3, skipA fun c hok hgl hq => ?_⟩
                obtain ⟨q1, q2, q3⟩ := hq
                obtain ⟨gd, gc, gf⟩ := Goal_geo hgl
                rcases r3.mp c1 with z | z | ⟨u, z1, z2, z3, z4, z5⟩
                · rw [q2] at z; cases z
                · have : ∃ h, h < 8 ∧ bt (X0 48 0 l) h = true ∧ bt p4 h = true := by
                    apply Classical.byContradiction
                    intro hno
                    apply z
                    rw [b_eq0]
                    intro h hh
                    rw [b_and]
                    cases e1 : bt (X0 48 0 l) h with
                    | false => rfl
                    | true =>
                      by_cases h8 : h < 8
                      · cases e2 : bt p4 h with
                        | false => rfl
                        | true => exact absurd ⟨h, h8, e1, e2⟩ hno
                      · exfalso
                        rw [v6] at e1
                        have hlb : bt (nI vm) h = false := by
                          unfold bt
                          have e3 : (nI vm).toBitVec.toNat = vm := by
                            show (BitVec.ofNat 32 vm).toNat = vm
                            rw [BitVec.toNat_ofNat]
                            exact Nat.mod_eq_of_lt (by omega)
                          rw [BitVec.getLsbD, e3]
                          refine Nat.testBit_lt_two_pow (Nat.lt_of_lt_of_le (by omega : vm < 2 ^ 8) (Nat.pow_le_pow_right (by omega) (by omega)))
                        rw [hlb] at e1
                        cases e1
                  obtain ⟨h, h8, t1, t2⟩ := this
                  obtain ⟨i0, j0, t3, t4, t5, t6, t7⟩ := (hM.2 h h8).mp t2
                  obtain ⟨mi, ai⟩ := s3 i0 t3
                  obtain ⟨mj, aj⟩ := s3 j0 t4
                  exact t7 (gc h h8 i0 mi j0 mj l hm t6 t1 (by rw [q1.1 i0 mi t3, q1.1 j0 mj t4]; exact t5) (by rw [q1.1 j0 mj t4, q3]; exact aj))
                · obtain ⟨mu, au⟩ := s3 u z1
                  rw [hfy 47 0 u (by omega)] at z4 z5
                  exact gf u mu l hm (by rw [q1.1 u mu z1, q3]; exact z2.symm) z4 z3 z5.symm
              · have hn3 := mt r3.mpr c1
                rw [not_or, not_or] at hn3
                obtain ⟨k1, k2, k3⟩ := hn3
                have hSl : S l = false := by
                  cases h : S l with
                  | false => rfl
                  | true => exact absurd h k1
                have k2' := Classical.not_not.mp k2
                have hle6 : (mset y 21 s p1 (nI l)) 5 l 0 = nI l := by rw [mset_at, if_neg (by omega), hfy 5 l 0 (by omega), v2]
                rw [if_neg c1, rd_nI hp8 (by omega), Option.bind_some, gl_eq, hle6, rd_nI hl10 (by omega), Option.bind_some, gl_eq]
                have hfX : fs s X (mset (mset y 21 s p1 (nI l)) 20 s l (nI p1)) := (w1.set (by omega)).set (by omega)
                have hS17 := put_sS hSy hm hSl
                generalize hX17 : mset (mset y 21 s p1 (nI l)) 20 s l (nI p1) = X17 at hfX hS17
                have hf17 : fs s X0 X17 := hf.trans hfX
                have e17a : ∀ j, X17 20 s j = if j = l then nI p1 else X 20 s j := fun j => by
                  rw [← hX17, mset_at]
                  by_cases c : j = l
                  · rw [if_pos ⟨rfl, rfl, c⟩, if_pos c]
                  · rw [if_neg (fun z => c z.2.2), mset_at, if_neg (by omega), if_neg c, w2]
                have e17b : ∀ j, X17 21 s j = if j = p1 then nI l else X 21 s j := fun j => by
                  rw [← hX17, mset_at, if_neg (by omega), mset_at]
                  by_cases c : j = p1
                  · rw [if_pos ⟨rfl, rfl, c⟩, if_pos c]
                  · rw [if_neg (fun z => c z.2.2), if_neg c, w3]
                have e17c : ∀ k j, k ≠ 20 → k ≠ 21 → X17 k s j = y k s j := fun k j h1 h2 => by
                  rw [← hX17, mset_at, if_neg (fun z => h1 z.1), mset_at, if_neg (fun z => h2 z.1)]
                have hB17 := sB_fs hf17 hB0
                have e170 : X17 5 l 0 = nI l := by rw [hf17 5 l 0 (by omega), v2]
                have e176 : X17 5 l 6 = X0 48 0 l := by rw [hf17 5 l 6 (by omega), v4]
                have hltS : ∀ u, S u = true → a u < p1 := fun u hu => (s3 u hu).2
                have h20a : X 20 s l = -1 := by rw [s1 l hm, hSl]; rfl
                have h21a : X 21 s p1 = -1 := by
                  rcases s2 p1 hp8 with ⟨u, z1, z2, -⟩ | ⟨z1, -⟩
                  · have := hltS u z1
                    omega
                  · exact z1
                have un : ∀ Z, fs s X Z → (∀ j, Z 20 s j = X17 20 s j) → (∀ j, Z 21 s j = X17 21 s j) → accC X0 s F P ls all sp (fun c => (V c ∨ Oq ls S a (p1 + 1) c) ∨ (Oq ls S a p1 c ∧ ∃ l ∈ ls.take (i + 1), S l = false ∧ c l = p1)) Z →
                    ∃ Y, X7_seek_J161 al N (X7_seek al N d) (X7_seek_L57 al N (X7_seek al N d) (fun Y => X7_seek_J185 al N (X7_seek al N d) Y) fu) (fun Y => X7_seek_J185 al N (X7_seek al N d) Y) s (nI p1) (nI (ls.filter (fun l => !S l)).length) p3 p4 p5 b 6 (nI i) (nI l) Z = some (0, Y) ∧ R Y := fun Z z1 z2 z3 z4 => by
                  unfold X7_seek_J161
                  have e5 : Z 5 l 0 = nI l := by rw [z1 5 l 0 (by omega), hf 5 l 0 (by omega), v2]
                  rw [dr_nI v1 (by omega), Option.bind_some, e5, rd_nI hl10 (by omega), Option.bind_some, gl_eq, rd_nI hp8 (by omega), Option.bind_some, gl_eq]
                  show ∃ Y, X7_seek_L57 al N (X7_seek al N d) _ fu s (nI p1) (nI (ls.filter (fun l => !S l)).length) p3 p4 p5 b 6 (nI i + 1) (mset (mset Z 20 s l (-1)) 21 s p1 (-1)) = some (0, Y) ∧ _
                  rw [zn_a1]
                  refine ih _ ⟨(z1.set (by omega)).set (by omega), fun j => ?_, fun j => ?_, accC_X (by rw [mset_at, if_neg (by omega), mset_at, if_neg (by omega)]) (fun j => by rw [mset_at, if_neg (by omega), mset_at, if_neg (by omega)]) (fun j => by rw [mset_at, if_neg (by omega), mset_at, if_neg (by omega)]) (fun j => by rw [mset_at, if_neg (by omega), mset_at, if_neg (by omega)]) z4⟩
                  · rw [mset_at, if_neg (by omega), mset_at]
                    by_cases c : j = l
                    · rw [if_pos ⟨rfl, rfl, c⟩, c, h20a]
                    · rw [if_neg (fun z => c z.2.2), z2, e17a, if_neg c]
                  · rw [mset_at]
                    by_cases c : j = p1
                    · rw [if_pos ⟨rfl, rfl, c⟩, c, h21a]
                    · rw [if_neg (fun z => c z.2.2), mset_at, if_neg (by omega), z3, e17b, if_neg c]
                obtain ⟨rb, t1, t2⟩ := brokenWith_eq (al := al) (B := Bf X0 P fl S a) (p := p5) hN hB17 hm (pS_l S l) hS17.1 (fun u hu => by
                  by_cases c : u = l
                  · rw [c, un_l]; omega
                  · rw [un_o c]
                    cases h : S u with
                    | true => have := hltS u h; omega
                    | false => rw [s5 u h]; omega) hb (fun f hf1 hBf hc => by
                  obtain ⟨-, ⟨k, x, o, f63, f64, f65, hk, hx, ho, q1, q2⟩, -⟩ := hBf
                  rw [hf17 63 0 f (by omega), hf17 64 0 f (by omega), hf17 65 0 f (by omega), f63, f64, f65] at hc
                  rcases hc with z | ⟨z1, z2⟩
                  · have : x = l := (zn_eq (by omega) (by omega)).mp z
                    rw [this, hSl] at q1
                    cases q1
                  · have : o = l := (zn_eq (by omega) (by omega)).mp z2
                    have hk3 : k ≠ 3 := fun e => z1 (by rw [e]; rfl)
                    have := q2 hk3
                    rw [‹o = l›, hSl] at this
                    cases this)
                rw [e170, t1, bind2_some]
                have hpO : ∀ c, Oq ls S a p1 c → c l = p1 → geo X0 ls c → Oq ls (pS S l) (updN a l p1) (p1 + 1) c := fun c q1 q2 hgo => by
                  rw [put_Oq hm hSl]
                  refine ⟨q1.1, q2, fun u hu hSu hul => ?_⟩
                  have h1 := q1.2 u hu hSu
                  have h2 : c u ≠ p1 := fun e => hul (hgo.1 u hu l hm (e.trans q2.symm))
                  omega
                rcases t2 with ⟨t2, t3⟩ | ⟨t2, t3⟩
                · rw [if_pos t2]
                  have hno : ∀ c, okA P ls a00 c → Goal X0 F P ls all sp c → ¬ (Oq ls S a p1 c ∧ S l = false ∧ c l = p1) := fun c hok hgl hq => by
                    have hO := hpO c hq.1 hq.2.2 (Goal_geo hgl)
                    refine no_goal (S := pS S l) (a := updN a l p1) hB0 (fun u hu => (hS17.2.2.1 u hu).1) (fun u hu => hO.1 u (hS17.2.2.1 u hu).1 hu) ?_ hgl
                    rcases t3 with ⟨q, f, hf1⟩ | ⟨f, g, hfg, hf1, hg1⟩
                    · exact Or.inl ⟨q, f, (Bf_fs hf17).mp hf1⟩
                    · have up : ∀ f, (Bf X0 P fl S a f ∨ Bf X17 P fl (pS S l) (updN a l p1) f) → Bf X0 P fl (pS S l) (updN a l p1) f := fun f hf2 => by
                        rcases hf2 with z | z
                        · exact (Bf_put hSl).mpr (Or.inl z)
                        · exact (Bf_fs hf17).mp z
                      exact Or.inr ⟨f, g, hfg, up f hf1, up g hg1⟩
                  exact un X17 hfX (fun _ => rfl) (fun _ => rfl) (accC_X (e17c 14 3 (by omega) (by omega)) (fun j => e17c 15 j (by omega) (by omega)) (fun j => e17c 16 j (by omega) (by omega)) (fun j => e17c 17 j (by omega) (by omega)) (skipA hno))
                · rw [if_neg t2]
                  have hbr : brI sp (Bf X0 P fl (pS S l) (updN a l p1)) rb := brI_cg (fun f => by
                    have e := Bf_put (X := X0) (P := P) (fl := fl) (a := a) (p1 := p1) (f := f) hSl
                    rw [Bf_fs hf17, hf17 63 0 f (by omega), hf17 64 0 f (by omega), hf17 65 0 f (by omega)]
                    exact e.symm) t3
                  have ecnt := filter_put (S := S) (l := l) ls b3 hm hSl
                  have ecnt2 : (ls.filter (fun x => !(pS S l x))).length + 1 = (ls.filter (fun x => !S x)).length := ecnt
                  have e1 : nI (ls.filter (fun l => !S l)).length - (1 : Int32) = nI (ls.filter (fun x => !(pS S l x))).length := by
                    rw [zn_s1 (by omega)]
                    show nI (_ - 1) = _
                    congr 1
                    omega
                  obtain ⟨Y2, x1, x2, x3, x4, x5⟩ := ihd (p1 + 1) (by omega) (by omega) X17 (pS S l) (updN a l p1) (p3 ||| X0 48 0 l) (p4 ||| (p3 &&& (X0 48 0 l ^^^ (-1)))) rb _ hf17 hS17 (put_sM hM hltS hSl) (put_sG hG hM hltS hSl k2' (fun u hu hau n1 n2 e => k3 ⟨u, hu, hau, n1, by rw [hfy 47 0 u (by omega)]; exact n2, by rw [hfy 47 0 u (by omega)]; exact e⟩)) hbr
                    (accC_X (e17c 14 3 (by omega) (by omega)) (fun j => e17c 15 j (by omega) (by omega)) (fun j => e17c 16 j (by omega) (by omega)) (fun j => e17c 17 j (by omega) (by omega)) w4) (fun c hok hV hO => by
                      obtain ⟨o1, o2, o3⟩ := (put_Oq hm hSl).mp hO
                      rcases hV with (hV | hV) | ⟨-, u, hu, hu1, hu2⟩
                      · refine hdis c hok hV ⟨o1, fun u hu hSu => ?_⟩
                        by_cases cu : u = l
                        · rw [cu, o2]; exact Nat.le_refl _
                        · have := o3 u hu hSu cu
                          omega
                      · have := hV.2 l hm hSl
                        omega
                      · have cu : u ≠ l := fun e => hlt (e ▸ hu)
                        have := o3 u (List.mem_of_mem_take hu) hu1 cu
                        omega)
                  rw [e1, e176, zn_a1, x1, bind2_some]
                  refine un Y2 (hfX.trans x2) x3 x4 (accC_cg (fun c hok hgl => ?_) x5)
                  constructor
                  · rintro ((q | ⟨q1, u, q2, q3⟩) | q)
                    · exact Or.inl q
                    · exact Or.inr ⟨q1, u, (take_mem hg).mpr (Or.inl q2), q3⟩
                    · obtain ⟨o1, o2, o3⟩ := (put_Oq hm hSl).mp q
                      refine Or.inr ⟨⟨o1, fun u hu hSu => ?_⟩, l, (take_mem hg).mpr (Or.inr rfl), hSl, o2⟩
                      by_cases cu : u = l
                      · rw [cu, o2]; exact Nat.le_refl _
                      · have := o3 u hu hSu cu
                        omega
                  · rintro (q | ⟨q1, u, q2, q3, q4⟩)
                    · exact Or.inl (Or.inl q)
                    · rcases (take_mem hg).mp q2 with z | z
                      · exact Or.inl (Or.inr ⟨q1, u, z, q3, q4⟩)
                      · subst z
                        exact Or.inr (hpO c q1 q4 (Goal_geo hgl))
          · rintro fu y ⟨w1, w2, w3, w4⟩
            show ∃ Y, X7_seek_L57 al N (X7_seek al N d) (fun Y => X7_seek_J185 al N (X7_seek al N d) Y) (fu + 1) s (nI p1) (nI (ls.filter (fun l => !S l)).length) p3 p4 p5 b 6 (nI 6) y = some (0, Y) ∧ _
            unfold X7_seek_L57
            rw [if_pos (by decide)]
            subst hR
            refine ⟨y, rfl, w1, w2, w3, accC_cg (fun c hok hgl => ?_) w4⟩
            rw [List.take_of_length_le b1]
            constructor
            · rintro ((q | q) | q)
              · exact Or.inl q
              · exact Or.inr ⟨q.1, fun l hl hSl => by have := q.2 l hl hSl; omega⟩
              · exact Or.inr q.1
            · rintro (q | q)
              · exact Or.inl (Or.inl q)
              · by_cases c1 : ∃ l ∈ ls, S l = false ∧ c l = p1
                · exact Or.inr ⟨q, c1⟩
                · refine Or.inl (Or.inr ⟨q.1, fun l hl hSl => ?_⟩)
                  have h1 := q.2 l hl hSl
                  have h2 : c l ≠ p1 := fun e => c1 ⟨l, hl, hSl, e⟩
                  omega
        · rw [if_neg (fun q => hpig ((zn_le (by omega) (by omega)).mp q))]
          refine ⟨X, rfl, fs.rfl, fun _ => rfl, fun _ => rfl, accC_cg (fun b hb hgl => ⟨Or.inl, fun q => q.elim id fun q => ?_⟩) hacc⟩
          exfalso
          apply hpig
          have hgo := Goal_geo hgl
          have hme : ∀ x ∈ ls.filter (fun l => !S l), x ∈ ls ∧ S x = false := fun x hx => by
            obtain ⟨z1, z2⟩ := List.mem_filter.mp hx
            exact ⟨z1, by simpa using z2⟩
          refine pigeon (b := fun x => b x - p1) (P - p1) _ (b3.sublist List.filter_sublist) (fun x hx => ?_) (fun x hx y hy e => ?_)
          · obtain ⟨z1, z2⟩ := hme x hx
            have h1 := q.2 x z1 z2
            have h2 := hb.1 x z1
            show b x - p1 < P - p1
            omega
          · obtain ⟨z1, z2⟩ := hme x hx
            obtain ⟨z3, z4⟩ := hme y hy
            have h1 := q.2 x z1 z2
            have h2 := q.2 y z3 z4
            have e' : b x - p1 = b y - p1 := e
            exact hgo.1 x z1 y z3 (by omega)
