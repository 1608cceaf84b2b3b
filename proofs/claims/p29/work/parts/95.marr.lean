/-! arrangements: how they are counted -/
theorem sumA_cg {f g : Nat → Nat} {n : Nat} (h : ∀ v, v < n → f v = g v) : sumN f n = sumN g n := by
  induction n with
  | zero => rfl
  | succ n ih => unfold sumN; rw [ih (fun v hv => h v (by omega)), h n (by omega)]
theorem sumN_add (f g : Nat → Nat) (n : Nat) : sumN (fun v => f v + g v) n = sumN f n + sumN g n := by
  induction n with
  | zero => rfl
  | succ n ih => unfold sumN; rw [ih]; omega
theorem sumN_0 {f : Nat → Nat} {n : Nat} (h : ∀ v, v < n → f v = 0) : sumN f n = 0 := by
  induction n with
  | zero => rfl
  | succ n ih => unfold sumN; rw [ih (fun v hv => h v (by omega)), h n (by omega)]
theorem sumN_one {f : Nat → Nat} {n v0 : Nat} (h0 : v0 < n) (h : ∀ v, v < n → v ≠ v0 → f v = 0) : sumN f n = f v0 := by
  induction n with
  | zero => omega
  | succ n ih =>
    unfold sumN
    by_cases c : v0 = n
    · subst c
      rw [sumN_0 (fun v hv => h v (by omega) (by omega)), Nat.zero_add]
    · rw [ih (by omega) (fun v hv => h v (by omega)), h n (by omega) (fun q => c q.symm), Nat.add_zero]
theorem pc_t {p : Prop} (h : p) : pc p = 1 := by unfold pc; exact if_pos h
theorem pc_f {p : Prop} (h : ¬ p) : pc p = 0 := by unfold pc; exact if_neg h
theorem pc_cg {p q : Prop} (h : p ↔ q) : pc p = pc q := by rw [propext h]
/-- an assignment of places to these leaves, on a given ground -/
def okA (P : Nat) (ls : List Nat) (a b : Nat → Nat) : Prop := (∀ l ∈ ls, b l < P) ∧ ∀ i, i ∉ ls → b i = a i
theorem okA_up {P l v : Nat} {ls : List Nat} {a b : Nat → Nat} (hv : v < P) (h : okA P ls (updN a l v) b) : okA P (l :: ls) a b := by
  obtain ⟨h1, h2⟩ := h
  refine ⟨fun x hx => ?_, fun i hi => ?_⟩
  · by_cases c : x ∈ ls
    · exact h1 x c
    · rcases List.mem_cons.mp hx with q | q
      · subst q
        rw [h2 x c]
        unfold updN
        rw [if_pos rfl]; exact hv
      · exact absurd q c
  · rw [List.mem_cons, not_or] at hi
    rw [h2 i hi.2]
    unfold updN
    rw [if_neg hi.1]
theorem nc_cgv {P : Nat} {Φ Ψ : (Nat → Nat) → Prop} (ls : List Nat) : ∀ (a : Nat → Nat), (∀ b, okA P ls a b → (Φ b ↔ Ψ b)) → nc P Φ ls a = nc P Ψ ls a := by
  induction ls with
  | nil =>
    intro a h
    exact pc_cg (h a ⟨fun l hl => (by cases hl), fun _ _ => rfl⟩)
  | cons l ls ih =>
    intro a h
    exact sumA_cg fun v hv => ih _ (fun b hb => h b (okA_up hv hb))
theorem nc_none {P : Nat} {Φ : (Nat → Nat) → Prop} (ls : List Nat) : ∀ (a : Nat → Nat), (∀ b, okA P ls a b → ¬ Φ b) → nc P Φ ls a = 0 := by
  induction ls with
  | nil =>
    intro a h
    exact pc_f (h a ⟨fun l hl => (by cases hl), fun _ _ => rfl⟩)
  | cons l ls ih =>
    intro a h
    exact sumN_0 fun v hv => ih _ (fun b hb => h b (okA_up hv hb))
theorem nc_add {P : Nat} {Φ Ψ : (Nat → Nat) → Prop} (ls : List Nat) : ∀ (a : Nat → Nat), (∀ b, okA P ls a b → ¬ (Φ b ∧ Ψ b)) → nc P (fun b => Φ b ∨ Ψ b) ls a = nc P Φ ls a + nc P Ψ ls a := by
  induction ls with
  | nil =>
    intro a h
    have h0 := h a ⟨fun l hl => (by cases hl), fun _ _ => rfl⟩
    unfold nc
    by_cases c1 : Φ a
    · have c2 : ¬ Ψ a := fun q => h0 ⟨c1, q⟩
      rw [pc_t c1, pc_f c2, pc_t (Or.inl c1)]
    · by_cases c2 : Ψ a
      · rw [pc_f c1, pc_t c2, pc_t (Or.inr c2)]
      · rw [pc_f c1, pc_f c2, pc_f (fun q => q.elim c1 c2)]
  | cons l ls ih =>
    intro a h
    unfold nc
    rw [← sumN_add]
    exact sumA_cg fun v hv => ih _ (fun b hb => h b (okA_up hv hb))
def ovr (ls : List Nat) (a b : Nat → Nat) : Nat → Nat := fun i => if i ∈ ls then b i else a i
theorem nc_point {P : Nat} {Q : (Nat → Nat) → Prop} {b : Nat → Nat} (ls : List Nat) : ∀ (a : Nat → Nat), ls.Nodup → (∀ l ∈ ls, b l < P) → nc P (fun c => Q c ∧ ∀ l ∈ ls, c l = b l) ls a = pc (Q (ovr ls a b)) := by
  induction ls with
  | nil =>
    intro a _ _
    have e : ovr [] a b = a := funext fun i => if_neg (by simp)
    rw [e]
    exact pc_cg ⟨fun h => h.1, fun h => ⟨h, fun l hl => by cases hl⟩⟩
  | cons l ls ih =>
    intro a hn hb
    obtain ⟨hn1, hn2⟩ := List.nodup_cons.mp hn
    unfold nc
    rw [sumN_one (hb l List.mem_cons_self) (fun v hv hne => ?_)]
    · have e1 : nc P (fun c => Q c ∧ ∀ x ∈ l :: ls, c x = b x) ls (updN a l (b l)) = nc P (fun c => Q c ∧ ∀ x ∈ ls, c x = b x) ls (updN a l (b l)) := nc_cgv ls _ fun c hc => by
        constructor
        · rintro ⟨q1, q2⟩
          exact ⟨q1, fun x hx => q2 x (List.mem_cons_of_mem _ hx)⟩
        · rintro ⟨q1, q2⟩
          refine ⟨q1, fun x hx => ?_⟩
          rcases List.mem_cons.mp hx with q | q
          · subst q
            rw [hc.2 x hn1]
            unfold updN
            rw [if_pos rfl]
          · exact q2 x q
      rw [e1, ih _ hn2 (fun x hx => hb x (List.mem_cons_of_mem _ hx))]
      have e2 : ovr ls (updN a l (b l)) b = ovr (l :: ls) a b := by
        funext i
        unfold ovr updN
        by_cases c1 : i ∈ ls
        · rw [if_pos c1, if_pos (List.mem_cons_of_mem _ c1)]
        · by_cases c2 : i = l
          · subst c2
            rw [if_neg c1, if_pos rfl, if_pos List.mem_cons_self]
          · rw [if_neg c1, if_neg c2, if_neg (by rw [List.mem_cons, not_or]; exact ⟨c2, c1⟩)]
      rw [e2]
    · refine nc_none ls _ fun c hc hq => hne ?_
      have h1 := hc.2 l hn1
      unfold updN at h1
      rw [if_pos rfl] at h1
      rw [← h1]
      exact hq.2 l List.mem_cons_self
/-- the count of those where something holds, among some -/
noncomputable def nO (P : Nat) (ls : List Nat) (Ψ O : (Nat → Nat) → Prop) : Nat := nc P (fun a => Ψ a ∧ O a) ls a00
theorem nO_none {P : Nat} {ls : List Nat} {Ψ O : (Nat → Nat) → Prop} (h : ∀ b, okA P ls a00 b → O b → ¬ Ψ b) : nO P ls Ψ O = 0 := nc_none ls _ fun b hb hq => h b hb hq.2 hq.1
theorem nO_cg {P : Nat} {ls : List Nat} {Ψ Ψ' O O' : (Nat → Nat) → Prop} (h : ∀ b, okA P ls a00 b → (Ψ b ∧ O b ↔ Ψ' b ∧ O' b)) : nO P ls Ψ O = nO P ls Ψ' O' := nc_cgv ls _ h
theorem nO_or {P : Nat} {ls : List Nat} {Ψ O1 O2 : (Nat → Nat) → Prop} (h : ∀ b, okA P ls a00 b → O1 b → ¬ O2 b) : nO P ls Ψ (fun b => O1 b ∨ O2 b) = nO P ls Ψ O1 + nO P ls Ψ O2 := by
  unfold nO
  rw [← nc_add ls a00 (fun b hb q => h b hb q.1.2 q.2.2)]
  refine nc_cgv ls _ fun b hb => ?_
  constructor
  · rintro ⟨q1, q2 | q2⟩
    · exact Or.inl ⟨q1, q2⟩
    · exact Or.inr ⟨q1, q2⟩
  · rintro (⟨q1, q2⟩ | ⟨q1, q2⟩)
    · exact ⟨q1, Or.inl q2⟩
    · exact ⟨q1, Or.inr q2⟩
theorem nO_point {P : Nat} {ls : List Nat} {Ψ : (Nat → Nat) → Prop} {b : Nat → Nat} (hn : ls.Nodup) (hb : ∀ l ∈ ls, b l < P) : nO P ls Ψ (fun c => ∀ l ∈ ls, c l = b l) = pc (Ψ (ovr ls a00 b)) := nc_point ls a00 hn hb
theorem lvs_nodup (x : Nat → Int32) (b n : Nat) : (lvs x b n).Nodup := by
  induction n with
  | zero => exact List.nodup_nil
  | succ n ih =>
    unfold lvs
    rw [List.nodup_append]
    refine ⟨ih, ?_, fun i hi j hj hij => ?_⟩
    · split
      · exact List.nodup_cons.mpr ⟨by simp, List.nodup_nil⟩
      · exact List.nodup_nil
    · subst hij
      have h1 := (lvs_mem.mp hi).1
      split at hj
      · rw [List.mem_singleton] at hj
        omega
      · cases hj
