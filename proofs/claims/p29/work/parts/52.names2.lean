/-! the law's loop: before each round the names to come get their addresses -/
/-- the final kind of a raw one -/
def gFin (K : Nat) : Nat := if K = 82 then 0 else if K = 83 then 1 else if K = 84 then 5 else if K = 85 then 7 else if K = 86 then 12 else if K = 87 then 14 else if K = 88 then 23 else if K = 89 then 26 else if K = 90 then 29 else if K = 91 then 40 else if K = 92 then 43 else K
theorem gFin_lt {K : Nat} (h : K < 82) : gFin K = K := by
  unfold gFin
  iterate 11 rw [if_neg (by omega)]
def gOn (ad : Nat → Nat → Nat) : Nat → List (Nat × Nat) → Nat → Nat → Nat
  | _, [], K, i => ad K i
  | sz, n :: L, K, i => if K = n.1 ∧ i = n.2 then sz else gOn ad (sz + 1) L K i
def gOv (ad : Nat → Nat → Nat) (sz : Nat) (nw : List (Nat × Nat)) (K i : Nat) : Nat := gOn ad sz nw (gFin K) i
theorem gOv_al (ad : Nat → Nat → Nat) (sz : Nat) (nw : List (Nat × Nat)) : gAl (gOv ad sz nw) := fun _ => ⟨rfl, rfl, rfl, rfl, rfl, rfl, rfl, rfl, rfl, rfl, rfl⟩
theorem gOn_out {ad : Nat → Nat → Nat} : ∀ {nw : List (Nat × Nat)} {sz K i : Nat}, (K, i) ∉ nw → gOn ad sz nw K i = ad K i
  | [], _, _, _, _ => rfl
  | n :: L, sz, K, i, h => by
    have h1 : ¬ (K = n.1 ∧ i = n.2) := fun e => h (by rw [e.1, e.2]; exact List.mem_cons_self)
    rw [gOn, if_neg h1]
    exact gOn_out (fun q => h (List.mem_cons_of_mem _ q))
theorem gOv_out {ad : Nat → Nat → Nat} {nw : List (Nat × Nat)} {sz K i : Nat} (hK : K < 82) (h : (K, i) ∉ nw) : gOv ad sz nw K i = ad K i := by
  unfold gOv
  rw [gFin_lt hK]
  exact gOn_out h
theorem gOv_adr {ad ad' : Nat → Nat → Nat} : ∀ {nw : List (Nat × Nat)} {sz : Nat}, nw.Nodup → (∀ n ∈ nw, ad' n.1 n.2 = gOn ad sz nw n.1 n.2) → gAdr ad' sz nw
  | [], _, _, _ => True.intro
  | n :: L, sz, hn, h => by
    have hn2 := List.nodup_cons.mp hn
    refine ⟨?_, gOv_adr (ad := ad) hn2.2 (fun q hq => ?_)⟩
    · rw [h n List.mem_cons_self, gOn, if_pos ⟨rfl, rfl⟩]
    · rw [h q (List.mem_cons_of_mem _ hq), gOn, if_neg]
      rintro ⟨e1, e2⟩
      have : q = n := Prod.ext e1 e2
      exact hn2.1 (this ▸ hq)
/-- names that may be made: fresh, final, none of the fixed rows -/
def gFr (NL nw : List (Nat × Nat)) : Prop := nw.Nodup ∧ ∀ n ∈ nw, n ∉ NL ∧ n.1 < 82 ∧ n.1 ≠ 38
theorem gOv_nw {ad : Nat → Nat → Nat} {NL nw : List (Nat × Nat)} {sz : Nat} (h : gFr NL nw) : gAdr (gOv ad sz nw) sz nw := gOv_adr h.1 (fun n hn => by unfold gOv; rw [gFin_lt (h.2 n hn).2.1])
/-- a reference is null or alive -/
def gok (NL : List (Nat × Nat)) (K : Nat) (v : Int32) : Prop := v < 0 ∨ (K, v.toNatClampNeg) ∈ NL
/-- the references of a cell that may change -/
def gdy (NL : List (Nat × Nat)) (K i : Nat) (x : Nat → Int32) : Prop := match K with
  | 4 => ∀ j, gok NL 5 (x j)
  | 5 => gok NL 12 (x 1)
  | 6 => ∀ j, gok NL 7 (x j)
  | 11 => ∀ j, gok NL 12 (x j)
  | 13 => ∀ j, gok NL 5 (x j)
  | 14 => (x 9 < 0 ∧ (19, i) ∈ NL) ∨ (¬ x 9 < 0 ∧ (13, (x 9).toNatClampNeg) ∈ NL)
  | 18 => ∀ j, gok NL 23 (x j)
  | 19 => ∀ j, gok NL 5 (x j)
  | 21 => ∀ j, gok NL 5 (x j)
  | 22 => ∀ j, gok NL 23 (x j)
  | 23 => gok NL 12 (x 1)
  | 25 => ∀ j, gok NL 26 (x j)
  | 28 => ∀ j, gok NL 26 (x j)
  | _ => True
def gDy (NL : List (Nat × Nat)) (X : gM) : Prop := ∀ K i, (K, i) ∈ NL → K < 82 ∧ gdy NL K i (X K i)
theorem ro_cg {NL : List (Nat × Nat)} {ad ad' : Nat → Nat → Nat} (hag : ∀ n ∈ NL, ad n.1 n.2 = ad' n.1 n.2) {K : Nat} {v : Int32} (h : gok NL K v) : ro ad K v = ro ad' K v := by
  unfold ro
  by_cases c : v < 0
  · rw [if_pos c, if_pos c]
  · rw [if_neg c, if_neg c]
    rcases h with h | h
    · exact absurd h c
    · rw [hag _ h]
theorem gsm_cg {NL : List (Nat × Nat)} {ad ad' : Nat → Nat → Nat} (hag : ∀ n ∈ NL, ad n.1 n.2 = ad' n.1 n.2) {i : Nat} {v : Int32} (h : (v < 0 ∧ (19, i) ∈ NL) ∨ (¬ v < 0 ∧ (13, v.toNatClampNeg) ∈ NL)) : gsm ad i v = gsm ad' i v := by
  unfold gsm
  rcases h with ⟨h1, h2⟩ | ⟨h1, h2⟩
  · rw [if_pos h1, if_pos h1, hag _ h2]
  · rw [if_neg h1, if_neg h1, hag _ h2]
set_option maxHeartbeats 4000000 in
theorem ct_cg {cA : Nat → ClassId} {NL : List (Nat × Nat)} {ad ad' : Nat → Nat → Nat} (hW : gWf NL) (hag : ∀ n ∈ NL, ad n.1 n.2 = ad' n.1 n.2) (h38 : ∀ j, ad 38 j = ad' 38 j) {K i : Nat} {x : Nat → Int32} (hm : (K, i) ∈ NL) (hK : K < 82) (hd : gdy NL K i x) : ct cA ad K i x = ct cA ad' K i x := by
  have hg : ∀ q ∈ gsr K i, ad q.1 q.2 = ad' q.1 q.2 := fun q hq => hag q (hW K i q hm hq)
  have ha : ∀ (k : Nat), (∀ j, gok NL k (x j)) → (fun j => ro ad k (x j)) = fun j => ro ad' k (x j) := fun k h => funext fun j => ro_cg hag (h j)
  unfold ct
  split
  all_goals first
    | rfl
    | omega
    | (simp only [gsr, List.mem_cons, List.not_mem_nil, or_false, forall_eq_or_imp, forall_eq] at hg; simp only [fs_0, fs_1, fs_7, fs_12, fs_26, fs_29, fs_40, fs_43, hg]; done)
    | (rw [ha _ hd]; done)
    | (rw [funext h38]; done)
    | (simp only [gsr, List.mem_cons, List.not_mem_nil, or_false, forall_eq_or_imp, forall_eq] at hg; simp only [fs_5, hg, ro_cg hag hd]; done)
    | (simp only [fs_23, ro_cg hag hd]; done)
    | (simp only [gsr, List.mem_cons, List.not_mem_nil, or_false, forall_eq_or_imp, forall_eq] at hg; simp only [fs_14, hg, gsm_cg hag hd]; done)
theorem gw_cg {cA : Nat → ClassId} {NL : List (Nat × Nat)} {ad ad' : Nat → Nat → Nat} {X : gM} (hW : gWf NL) (hag : ∀ n ∈ NL, ad n.1 n.2 = ad' n.1 n.2) (h38 : ∀ j, ad 38 j = ad' 38 j) (hd : gDy NL X) : gw cA ad' NL X = gw cA ad NL X := by
  unfold gw
  refine List.map_congr_left (fun n hn => ?_)
  have h := hd n.1 n.2 hn
  rw [hag n hn, ct_cg (cA := cA) hW hag h38 (K := n.1) (i := n.2) hn h.1 h.2]
theorem gD_cg {A : Nat → Prop} {NL : List (Nat × Nat)} {ad ad' : Nat → Nat → Nat} (hag : ∀ n ∈ NL, ad n.1 n.2 = ad' n.1 n.2) (h : gD A ad NL) : gD A ad' NL := by
  refine ⟨fun i j p q hp hq e => h.1 i j p q hp hq ?_, fun n hn => ?_⟩
  · rw [hag p (List.mem_of_getElem? hp), hag q (List.mem_of_getElem? hq)]
    exact e
  · rw [← hag n hn]
    exact h.2 n hn
