/-! hand, handOf -/
theorem sumN_cg {f g : Nat → Nat} {n : Nat} (h : ∀ i, i < n → f i = g i) : sumN f n = sumN g n := by
  induction n with
  | zero => rfl
  | succ n ih => unfold sumN; rw [ih (fun i hi => h i (by omega)), h n (by omega)]
theorem sumN_upd {f : Nat → Nat} {n k v : Nat} (hk : k < n) (hv : v < f k) : sumN (updN f k v) n < sumN f n := by
  induction n with
  | zero => omega
  | succ n ih =>
    unfold sumN
    by_cases h : k = n
    · subst h
      rw [sumN_cg (f := updN f k v) (g := f) (fun i hi => if_neg (by omega))]
      have : updN f k v k = v := if_pos rfl
      omega
    · have := ih (by omega)
      have e : updN f k v n = f n := if_neg (by omega)
      omega
theorem updN_at (f : Nat → Nat) (k v i : Nat) : updN f k v i = if i = k then v else f i := rfl
/-- the roots as numbers -/
def rtM (n : Nat) (Y : gM) (f : Nat → Nat) : Prop := ∀ k, k < n → Y 78 0 k = nI (f k)
theorem rtM_set {n : Nat} {Y : gM} {f : Nat → Nat} {k v : Nat} (h : rtM n Y f) : rtM n (mset Y 78 0 k (nI v)) (updN f k v) := by
  intro i hi
  rw [mset_at, updN_at]
  by_cases hik : i = k
  · rw [if_pos ⟨rfl, rfl, hik⟩, if_pos hik]
  · rw [if_neg (fun q => hik q.2.2), if_neg hik]; exact h i hi
/-- what holds in a pass of the reference; done: the pairs looked at -/
def psI (R : Nat → Nat → Bool) (n : Nat) (f0 f : Nat → Nat) (p1 : Int32) (done : Nat → Nat → Prop) : Prop := (∀ k, k < n → f k ≤ k ∧ conn R n (f k) k) ∧
  ((p1 = 0 ∧ f = f0 ∧ ∀ j k, j < n → k < n → done j k → R j k = true → f k ≤ f j) ∨ (p1 = 1 ∧ sumN f n < sumN f0 n))
theorem psI_skip {R : Nat → Nat → Bool} {n : Nat} {f0 f : Nat → Nat} {p1 : Int32} {D E : Nat → Nat → Prop} {j k : Nat} (h : psI R n f0 f p1 D) (hE : ∀ a b, E a b → D a b ∨ (a = j ∧ b = k)) (hn : R j k = true → f k ≤ f j) : psI R n f0 f p1 E := by
  obtain ⟨h1, h2⟩ := h
  refine ⟨h1, ?_⟩
  rcases h2 with ⟨q1, q2, q3⟩ | q
  · refine Or.inl ⟨q1, q2, fun a b ha hb he hr => ?_⟩
    rcases hE a b he with hd | ⟨rfl, rfl⟩
    · exact q3 a b ha hb hd hr
    · exact hn hr
  · exact Or.inr q
theorem psI_set {R : Nat → Nat → Bool} {n : Nat} {f0 f : Nat → Nat} {p1 : Int32} {D E : Nat → Nat → Prop} {j k : Nat} (h : psI R n f0 f p1 D) (hj : j < n) (hk : k < n) (hl : f j < f k) (hr : R j k = true) : psI R n f0 (updN f k (f j)) 1 E := by
  obtain ⟨h1, h2⟩ := h
  refine ⟨fun i hi => ?_, Or.inr ⟨rfl, ?_⟩⟩
  · rw [updN_at]
    by_cases hik : i = k
    · subst hik
      rw [if_pos rfl]
      refine ⟨by have := (h1 i hi).1; omega, conn_st (h1 j hj).2 hj hi hr⟩
    · rw [if_neg hik]; exact h1 i hi
  · have h3 := sumN_upd hk hl
    rcases h2 with ⟨-, q2, -⟩ | ⟨-, q⟩
    · subst q2; exact h3
    · omega
theorem fh_L43 {al : Nat → Nat → Bool} {N n j : Nat} {X : gM} {h : Nat → Nat → Nat} {s : Nat → Nat} {f0 : Nat → Nat} {k95 : Int32 → Int32 → gM → Option (Int32 × gM)} (Q : Option (Int32 × gM) → Prop) (hN : 1000 ≤ N) (hn : n ≤ 10) (hL : X 43 0 0 = nI n) (hm : hM n X h s) (hj : j < n)
    (p1 : Int32) (Y : gM) (hY : ∀ k i j, ¬ k = 78 → Y k i j = X k i j) (hf : ∃ f, rtM n Y f ∧ psI (alkF h s) n f0 f p1 (fun a _ => a < j))
    (hk : ∀ p1 Z, (∀ k i j, ¬ k = 78 → Z k i j = X k i j) → (∃ f, rtM n Z f ∧ psI (alkF h s) n f0 f p1 (fun a _ => a < j + 1)) → Q (k95 p1 (nI j) Z)) : Q (X10_findsHands_L43 al N k95 N p1 (nI j) 0 Y) := by
  refine m_up0 n (fun f i (s : Int32 × gM) => X10_findsHands_L43 al N k95 f s.1 (nI j) i s.2) (fun i t => (∀ k i j, ¬ k = 78 → t.2 k i j = X k i j) ∧ ∃ f, rtM n t.2 f ∧ psI (alkF h s) n f0 f t.1 (fun a b => a < j ∨ (a = j ∧ b < i))) Q (p1, Y) (by omega) ?_ ?_ ?_
  · rintro k fu ⟨p1, Y⟩ hkn ⟨hY, f, hf, hp⟩ ih
    dsimp only at hY hf hp ih ⊢
    have e43 : Y 43 0 0 = nI n := (hY 43 0 0 (by omega)).trans hL
    have hmY : hM n Y h s := fun i hi => by
      obtain ⟨q1, q2, q3⟩ := hm i hi
      exact ⟨fun k hk => ⟨(q1 k hk).1, (hY 49 0 _ (by omega)).trans (q1 k hk).2⟩, q2, (hY 50 0 _ (by omega)).trans q3⟩
    have hfj := (hp.1 j hj).1
    have hfk := (hp.1 k hkn).1
    unfold X10_findsHands_L43
    simp (disch := omega) only [zn_add, zn_mul, zn_addl, zn_ladd, zn_mull, zn_lmul, zn_le, zn_lt, zn_eq, zn_lel, zn_ltl, zn_eql, zn_lle, zn_llt, zn_leq, zn_sub, zn_subl, zn_m1, gl_eq, bind2_some, bind3_some, Option.bind_some, bz_0, bz_1, ib_0, ib_1, ib_bz, rd_nI, rd_l, if_pos, if_neg, if_true, if_false, ite_true, ite_false, eq_self, j00, j10, j20, j30, k00, k01, k02, k03, i20, i30, km0, i10, i01, im0, im1, i0m, i1m, e43, hf j hj, hf k hkn, X10_findsHands_J89, X10_areAlike_eq hN hn hmY hj hkn]
    by_cases hle : f k ≤ f j
    · rw [if_pos hle]
      exact ih (p1, Y) ⟨hY, f, hf, psI_skip (j := j) (k := k) hp (fun a b hab => by omega) (fun _ => hle)⟩
    · rw [if_neg hle]
      by_cases hr : alkF h s j k = true
      · rw [if_pos hr]
        refine ih (1, mset Y 78 0 k (nI (f j))) ⟨fun k' i' j' hk' => ?_, updN f k (f j), rtM_set hf, psI_set hp hj hkn (by omega) hr⟩
        simp only [mset_at]
        rw [if_neg (fun q => hk' q.1), hY k' i' j' hk']
      · rw [if_neg hr]
        exact ih (p1, Y) ⟨hY, f, hf, psI_skip (j := j) (k := k) hp (fun a b hab => by omega) (fun q => absurd q hr)⟩
  · rintro fu ⟨p1, Y⟩ ⟨hY, f, hf, hp⟩
    dsimp only at hY hf hp ⊢
    have e43 : Y 43 0 0 = nI n := (hY 43 0 0 (by omega)).trans hL
    unfold X10_findsHands_L43
    simp (disch := omega) only [zn_add, zn_mul, zn_addl, zn_ladd, zn_mull, zn_lmul, zn_le, zn_lt, zn_eq, zn_lel, zn_ltl, zn_eql, zn_lle, zn_llt, zn_leq, zn_sub, zn_subl, zn_m1, gl_eq, bind2_some, bind3_some, Option.bind_some, bz_0, bz_1, ib_0, ib_1, ib_bz, rd_nI, rd_l, if_pos, if_neg, if_true, if_false, ite_true, ite_false, eq_self, j00, j10, j20, j30, k00, k01, k02, k03, i20, i30, km0, i10, i01, im0, im1, i0m, i1m, e43]
    refine hk p1 Y hY ⟨f, hf, hp.1, hp.2.imp (fun q => ⟨q.1, q.2.1, fun a b ha hb hab hr => q.2.2 a b ha hb (by omega) hr⟩) id⟩
  · obtain ⟨f, hf, hp⟩ := hf
    exact ⟨hY, f, hf, hp.1, hp.2.imp (fun q => ⟨q.1, q.2.1, fun a b ha hb hab hr => q.2.2 a b ha hb (by omega) hr⟩) id⟩
theorem fh_L33 {al : Nat → Nat → Bool} {N n : Nat} {X : gM} {h : Nat → Nat → Nat} {s : Nat → Nat} {k101 : Int32 → gM → Option (Int32 × gM)} (Q : Option (Int32 × gM) → Prop) (hN : 1000 ≤ N) (hn : n ≤ 10) (hL : X 43 0 0 = nI n) (hm : hM n X h s)
    (Y : gM) (hY : ∀ k i j, ¬ k = 78 → Y k i j = X k i j) (f0 : Nat → Nat) (hf0 : rtM n Y f0) (h0 : ∀ k, k < n → f0 k ≤ k ∧ conn (alkF h s) n (f0 k) k)
    (hk : ∀ p1 Z f, (∀ k i j, ¬ k = 78 → Z k i j = X k i j) → rtM n Z f → (∀ k, k < n → f k ≤ k ∧ conn (alkF h s) n (f k) k) → ((p1 = 0 ∧ finR (alkF h s) n f) ∨ (p1 = 1 ∧ sumN f n < sumN f0 n)) → Q (k101 p1 Z)) : Q (X10_findsHands_L33 al N k101 N 0 0 Y) := by
  refine m_up0 n (fun f i (s : Int32 × gM) => X10_findsHands_L33 al N k101 f s.1 i s.2) (fun i t => (∀ k i j, ¬ k = 78 → t.2 k i j = X k i j) ∧ ∃ f, rtM n t.2 f ∧ psI (alkF h s) n f0 f t.1 (fun a _ => a < i)) Q (0, Y) (by omega) ?_ ?_ ?_
  · rintro j fu ⟨p1, Y⟩ hj ⟨hY, hf⟩ ih
    dsimp only at hY hf ih ⊢
    have e43 : Y 43 0 0 = nI n := (hY 43 0 0 (by omega)).trans hL
    unfold X10_findsHands_L33
    simp (disch := omega) only [zn_add, zn_mul, zn_addl, zn_ladd, zn_mull, zn_lmul, zn_le, zn_lt, zn_eq, zn_lel, zn_ltl, zn_eql, zn_lle, zn_llt, zn_leq, zn_sub, zn_subl, zn_m1, gl_eq, bind2_some, bind3_some, Option.bind_some, bz_0, bz_1, ib_0, ib_1, ib_bz, rd_nI, rd_l, if_pos, if_neg, if_true, if_false, ite_true, ite_false, eq_self, j00, j10, j20, j30, k00, k01, k02, k03, i20, i30, km0, i10, i01, im0, im1, i0m, i1m, e43]
    refine fh_L43 Q hN hn hL hm hj p1 Y hY hf (fun p1 Z hZ hf => ?_)
    unfold X10_findsHands_J95
    simp (disch := omega) only [zn_add, zn_mul, zn_addl, zn_ladd, zn_mull, zn_lmul, zn_le, zn_lt, zn_eq, zn_lel, zn_ltl, zn_eql, zn_lle, zn_llt, zn_leq, zn_sub, zn_subl, zn_m1, gl_eq, bind2_some, bind3_some, Option.bind_some, bz_0, bz_1, ib_0, ib_1, ib_bz, rd_nI, rd_l, if_pos, if_neg, if_true, if_false, ite_true, ite_false, eq_self, j00, j10, j20, j30, k00, k01, k02, k03, i20, i30, km0, i10, i01, im0, im1, i0m, i1m]
    exact ih (p1, Z) ⟨hZ, hf⟩
  · rintro fu ⟨p1, Y⟩ ⟨hY, f, hf, hp⟩
    dsimp only at hY hf hp ⊢
    have e43 : Y 43 0 0 = nI n := (hY 43 0 0 (by omega)).trans hL
    unfold X10_findsHands_L33
    simp (disch := omega) only [zn_add, zn_mul, zn_addl, zn_ladd, zn_mull, zn_lmul, zn_le, zn_lt, zn_eq, zn_lel, zn_ltl, zn_eql, zn_lle, zn_llt, zn_leq, zn_sub, zn_subl, zn_m1, gl_eq, bind2_some, bind3_some, Option.bind_some, bz_0, bz_1, ib_0, ib_1, ib_bz, rd_nI, rd_l, if_pos, if_neg, if_true, if_false, ite_true, ite_false, eq_self, j00, j10, j20, j30, k00, k01, k02, k03, i20, i30, km0, i10, i01, im0, im1, i0m, i1m, e43]
    refine hk p1 Y f hY hf hp.1 (hp.2.imp (fun q => ⟨q.1, hp.1, fun a b ha hb hr => q.2.2 a b ha hb ha hr⟩) id)
  · exact ⟨hY, f0, hf0, h0, Or.inl ⟨rfl, rfl, fun a b _ _ hab => absurd hab (Nat.not_lt_zero a)⟩⟩
theorem sumN_id_le (f : Nat → Nat) (n : Nat) (h : ∀ k, k < n → f k ≤ k) (hn : n ≤ 10) : sumN f n ≤ 100 := by
  have : ∀ m, m ≤ n → sumN f m ≤ 10 * m := by
    intro m
    induction m with
    | zero => intro _; exact Nat.le_refl _
    | succ m ih =>
      intro hm
      have := ih (by omega)
      have := h m (by omega)
      unfold sumN
      omega
  have := this n (Nat.le_refl n)
  omega
theorem X10_findsHands_eq {al : Nat → Nat → Bool} {N n : Nat} {X : gM} {h : Nat → Nat → Nat} {s : Nat → Nat} (hN : 1000 ≤ N) (hn : n ≤ 10) (hL : X 43 0 0 = nI n) (hm : hM n X h s) :
    ∃ Y f, X10_findsHands al N X = some (0, Y) ∧ (∀ k i j, ¬ k = 78 → Y k i j = X k i j) ∧ rtM n Y f ∧ finR (alkF h s) n f := by
  have key : ∀ Q : Option (Int32 × gM) → Prop, (∀ Y f, (∀ k i j, ¬ k = 78 → Y k i j = X k i j) → rtM n Y f → finR (alkF h s) n f → Q (some (0, Y))) → Q (X10_findsHands al N X) := by
    intro Q hQ
    unfold X10_findsHands
    refine m_up0 n (fun f i (Y : gM) => X10_findsHands_L2 al N (fun Y => X10_findsHands_J23 al N Y) f i Y) (fun i Y => (∀ k i j, ¬ k = 78 → Y k i j = X k i j) ∧ ∀ k, k < i → Y 78 0 k = nI k) Q X (by omega) ?_ ?_ ⟨fun _ _ _ _ => rfl, fun k hk => absurd hk (Nat.not_lt_zero k)⟩
    · rintro i fu Y hi ⟨hY, hr⟩ ih
      have e43 : Y 43 0 0 = nI n := (hY 43 0 0 (by omega)).trans hL
      unfold X10_findsHands_L2
      simp (disch := omega) only [zn_add, zn_mul, zn_addl, zn_ladd, zn_mull, zn_lmul, zn_le, zn_lt, zn_eq, zn_lel, zn_ltl, zn_eql, zn_lle, zn_llt, zn_leq, zn_sub, zn_subl, zn_m1, gl_eq, bind2_some, bind3_some, Option.bind_some, bz_0, bz_1, ib_0, ib_1, ib_bz, rd_nI, rd_l, if_pos, if_neg, if_true, if_false, ite_true, ite_false, eq_self, j00, j10, j20, j30, k00, k01, k02, k03, i20, i30, km0, i10, i01, im0, im1, i0m, i1m, e43]
      refine ih (mset Y 78 0 i (nI i)) ⟨fun k' i' j' hk' => ?_, fun k hk => ?_⟩
      · simp only [mset_at]
        rw [if_neg (fun q => hk' q.1), hY k' i' j' hk']
      · by_cases hki : k = i
        · subst hki; simp [mset_at]
        · simp [mset_at, hki, hr k (by omega)]
    · rintro fu Y ⟨hY, hr⟩
      have e43 : Y 43 0 0 = nI n := (hY 43 0 0 (by omega)).trans hL
      unfold X10_findsHands_L2
      simp (disch := omega) only [zn_add, zn_mul, zn_addl, zn_ladd, zn_mull, zn_lmul, zn_le, zn_lt, zn_eq, zn_lel, zn_ltl, zn_eql, zn_lle, zn_llt, zn_leq, zn_sub, zn_subl, zn_m1, gl_eq, bind2_some, bind3_some, Option.bind_some, bz_0, bz_1, ib_0, ib_1, ib_bz, rd_nI, rd_l, if_pos, if_neg, if_true, if_false, ite_true, ite_false, eq_self, j00, j10, j20, j30, k00, k01, k02, k03, i20, i30, km0, i10, i01, im0, im1, i0m, i1m, e43]
      unfold X10_findsHands_J23
      refine m_wh (fun f (t : Int32 × gM) => X10_findsHands_L25 al N (fun Y => X10_findsHands_J104 al N Y) f t.1 t.2)
        (fun d t => (∀ k i j, ¬ k = 78 → t.2 k i j = X k i j) ∧ ∃ f, rtM n t.2 f ∧ (∀ k, k < n → f k ≤ k ∧ conn (alkF h s) n (f k) k) ∧ ((t.1 = 0 ∧ finR (alkF h s) n f) ∨ (t.1 = 1 ∧ d = sumN f n + 1))) Q ?_ N (sumN (fun k => k) n + 1) (1, Y) ?_ ?_
      · rintro d fu ⟨p1, Y⟩ ⟨hY, f, hf, h1, h2⟩ ih
        dsimp only at hY hf h1 h2 ih ⊢
        unfold X10_findsHands_L25
        rcases h2 with ⟨rfl, hfin⟩ | ⟨rfl, hd⟩
        · rw [if_pos rfl]
          unfold X10_findsHands_J104
          exact hQ Y f hY hf hfin
        · rw [if_neg (by decide)]
          refine fh_L33 Q hN hn hL hm Y hY f hf h1 (fun p1 Z f' hZ hf' h1' h2' => ?_)
          unfold X10_findsHands_J101
          rcases h2' with ⟨rfl, hfin⟩ | ⟨rfl, hd'⟩
          · exact ih 0 (0, Z) (by omega) ⟨hZ, f', hf', h1', Or.inl ⟨rfl, hfin⟩⟩
          · exact ih (sumN f' n + 1) (1, Z) (by omega) ⟨hZ, f', hf', h1', Or.inr ⟨rfl, rfl⟩⟩
      · have := sumN_id_le (fun k => k) n (fun k _ => Nat.le_refl k) hn
        omega
      · exact ⟨hY, fun k => k, hr, fun k _ => ⟨Nat.le_refl k, conn_rfl _ _ _⟩, Or.inr ⟨rfl, rfl⟩⟩
  exact key (fun o => ∃ Y f, o = some (0, Y) ∧ (∀ k i j, ¬ k = 78 → Y k i j = X k i j) ∧ rtM n Y f ∧ finR (alkF h s) n f) (fun Y f h1 h2 h3 => ⟨Y, f, rfl, h1, h2, h3⟩)
/-! the class -/
def rtC (n : Nat) (Y : gM) (f : Nat → Nat) : Prop := ∀ k, k < n → Y 42 0 k = nI (f k)
theorem rtC_set {n : Nat} {Y : gM} {f : Nat → Nat} {k v : Nat} (h : rtC n Y f) : rtC n (mset Y 42 0 k (nI v)) (updN f k v) := by
  intro i hi
  rw [mset_at, updN_at]
  by_cases hik : i = k
  · rw [if_pos ⟨rfl, rfl, hik⟩, if_pos hik]
  · rw [if_neg (fun q => hik q.2.2), if_neg hik]; exact h i hi
/-- what holds in a round of the class; t: the leaves behind -/
def rdI (R : Nat → Nat → Bool) (n : Nat) (f g : Nat → Nat) (done : Nat → Nat → Prop) : Prop := ∀ k, k < n → g k ≤ f k ∧ (∃ j, j < n ∧ conn R n j k ∧ g k = f j) ∧ ∀ j, j < n → done j k → R j k = true → g k ≤ f j
theorem rdI_skip {R : Nat → Nat → Bool} {n : Nat} {f g : Nat → Nat} {D E : Nat → Nat → Prop} {j k : Nat} (hj : j < n) (h : rdI R n f g D) (hE : ∀ a b, E a b → D a b ∨ (a = j ∧ b = k)) (hn : R j k = true → g k ≤ g j) : rdI R n f g E := by
  intro i hi
  obtain ⟨q1, q2, q3⟩ := h i hi
  refine ⟨q1, q2, fun a ha hE' hr => ?_⟩
  rcases hE a i hE' with hd | ⟨rfl, rfl⟩
  · exact q3 a ha hd hr
  · exact Nat.le_trans (hn hr) (h a hj).1
theorem rdI_set {R : Nat → Nat → Bool} {n : Nat} {f g : Nat → Nat} {D E : Nat → Nat → Prop} {j k : Nat} (hj : j < n) (hk : k < n) (h : rdI R n f g D) (hE : ∀ a b, E a b → D a b ∨ (a = j ∧ b = k)) (hl : g j < g k) (hr : R j k = true) : rdI R n f (updN g k (g j)) E := by
  intro i hi
  obtain ⟨q1, q2, q3⟩ := h i hi
  rw [updN_at]
  by_cases hik : i = k
  · subst hik
    rw [if_pos rfl]
    obtain ⟨r1, ⟨j2, hj2, hc, r2⟩, r3⟩ := h j hj
    refine ⟨by omega, ⟨j2, hj2, conn_st hc hj hi hr, r2⟩, fun a ha hE' hr' => ?_⟩
    rcases hE a i hE' with hd | ⟨rfl, -⟩
    · have := q3 a ha hd hr'
      omega
    · exact r1
  · rw [if_neg hik]
    refine ⟨q1, q2, fun a ha hE' hr' => ?_⟩
    rcases hE a i hE' with hd | ⟨-, rfl⟩
    · exact q3 a ha hd hr'
    · exact absurd rfl hik
theorem tl_L11 {al : Nat → Nat → Bool} {N n t : Nat} {X : gM} {h : Nat → Nat → Nat} {s : Nat → Nat} {f0 : Nat → Nat} (Q : Option (Int32 × gM) → Prop) (hN : 1000 ≤ N) (hn : n ≤ 10) (h4 : ∀ j, X 4 0 j = if j < n then nI j else -1) (h5 : ∀ i, i < n → X 5 i 0 = nI i) (hal : ∀ i, i < n → al 5 i = true) (hm : hC n X h s) (ht : t < n) (hf0 : ∀ k, k < n → f0 k ≤ k)
    (Y : gM) (hY : ∀ k i j, ¬ k = 42 → Y k i j = X k i j) (hf : ∃ g, rtC n Y g ∧ rdI (alkF h s) n f0 g (fun _ b => b < t))
    (hk : ∀ Z, (∀ k i j, ¬ k = 42 → Z k i j = X k i j) → (∃ g, rtC n Z g ∧ rdI (alkF h s) n f0 g (fun _ b => b < t + 1)) → Q (some (0, Z))) : Q (X9_takeLowest al N t Y) := by
  unfold X9_takeLowest
  refine m_up0 10 (fun f i (Y : gM) => X9_takeLowest_L11 al N (fun Y => X9_takeLowest_J87 al N Y) f t 10 i Y) (fun i Y => (∀ k i j, ¬ k = 42 → Y k i j = X k i j) ∧ ∃ g, rtC n Y g ∧ rdI (alkF h s) n f0 g (fun a b => b < t ∨ (b = t ∧ a < i))) Q Y (by omega) ?_ ?_ ?_
  · rintro j fu Y hj ⟨hY, g, hg, hp⟩ ih
    have e4 : Y 4 0 j = if j < n then nI j else -1 := (hY 4 0 j (by omega)).trans (h4 j)
    unfold X9_takeLowest_L11
    simp (disch := omega) only [zn_add, zn_mul, zn_addl, zn_ladd, zn_mull, zn_lmul, zn_le, zn_lt, zn_eq, zn_lel, zn_ltl, zn_eql, zn_lle, zn_llt, zn_leq, zn_sub, zn_subl, zn_m1, gl_eq, bind2_some, bind3_some, Option.bind_some, bz_0, bz_1, ib_0, ib_1, ib_bz, rd_nI, rd_l, if_pos, if_neg, if_true, if_false, ite_true, ite_false, eq_self, j00, j10, j20, j30, k00, k01, k02, k03, i20, i30, km0, i10, i01, im0, im1, i0m, i1m, e4, X9_takeLowest_J81]
    by_cases hjn : j < n
    · have e5j : Y 5 j 0 = nI j := (hY 5 j 0 (by omega)).trans (h5 j hjn)
      have e5t : Y 5 t 0 = nI t := (hY 5 t 0 (by omega)).trans (h5 t ht)
      have hmY : hC n Y h s := fun i hi => by
        obtain ⟨q1, q2, q3, q4, q5, q6⟩ := hm i hi
        exact ⟨q1, (hY 5 _ _ (by omega)).trans q2, (hY 5 _ _ (by omega)).trans q3, (hY 5 _ _ (by omega)).trans q4, q5, (hY 5 _ _ (by omega)).trans q6⟩
      have b1 := (hp j hjn).1
      have b2 := (hp t ht).1
      have b3 := hf0 j hjn
      have b4 := hf0 t ht
      simp (disch := omega) only [if_pos hjn, if_neg (zn_nn (a := j) (by omega)), dr_nI (hal j hjn) (by omega : j < 2147483648), e5j, e5t, hg j hjn, hg t ht, X2_isAlike_eq hmY ht hjn, zn_add, zn_mul, zn_addl, zn_ladd, zn_mull, zn_lmul, zn_le, zn_lt, zn_eq, zn_lel, zn_ltl, zn_eql, zn_lle, zn_llt, zn_leq, zn_sub, zn_subl, zn_m1, gl_eq, bind2_some, bind3_some, Option.bind_some, bz_0, bz_1, ib_0, ib_1, ib_bz, rd_nI, rd_l, if_pos, if_neg, if_true, if_false, ite_true, ite_false, eq_self, j00, j10, j20, j30, k00, k01, k02, k03, i20, i30, km0, i10, i01, im0, im1, i0m, i1m]
      have hsy := alkF_symm h s t j
      by_cases hl : g j < g t
      · rw [if_pos hl]
        by_cases hr : alkF h s t j = true
        · rw [if_pos hr]
          refine ih (mset Y 42 0 t (nI (g j))) ⟨fun k' i' j' hk' => ?_, updN g t (g j), rtC_set hg, rdI_set hjn ht hp (fun a b hab => by omega) hl (hsy.symm.trans hr)⟩
          simp only [mset_at]
          rw [if_neg (fun q => hk' q.1), hY k' i' j' hk']
        · rw [if_neg hr]
          exact ih Y ⟨hY, g, hg, rdI_skip (j := j) (k := t) hjn hp (fun a b hab => by omega) (fun q => absurd (hsy.trans q) hr)⟩
      · rw [if_neg hl]
        exact ih Y ⟨hY, g, hg, rdI_skip (j := j) (k := t) hjn hp (fun a b hab => by omega) (fun _ => by omega)⟩
    · simp (disch := omega) only [if_neg hjn, zn_add, zn_mul, zn_addl, zn_ladd, zn_mull, zn_lmul, zn_le, zn_lt, zn_eq, zn_lel, zn_ltl, zn_eql, zn_lle, zn_llt, zn_leq, zn_sub, zn_subl, zn_m1, gl_eq, bind2_some, bind3_some, Option.bind_some, bz_0, bz_1, ib_0, ib_1, ib_bz, rd_nI, rd_l, if_pos, if_neg, if_true, if_false, ite_true, ite_false, eq_self, j00, j10, j20, j30, k00, k01, k02, k03, i20, i30, km0, i10, i01, im0, im1, i0m, i1m]
      refine ih Y ⟨hY, g, hg, fun i hi => ?_⟩
      obtain ⟨q1, q2, q3⟩ := hp i hi
      exact ⟨q1, q2, fun a ha hE hr => q3 a ha (by omega) hr⟩
  · rintro fu Y ⟨hY, g, hg, hp⟩
    unfold X9_takeLowest_L11 X9_takeLowest_J87
    simp (disch := omega) only [zn_add, zn_mul, zn_addl, zn_ladd, zn_mull, zn_lmul, zn_le, zn_lt, zn_eq, zn_lel, zn_ltl, zn_eql, zn_lle, zn_llt, zn_leq, zn_sub, zn_subl, zn_m1, gl_eq, bind2_some, bind3_some, Option.bind_some, bz_0, bz_1, ib_0, ib_1, ib_bz, rd_nI, rd_l, if_pos, if_neg, if_true, if_false, ite_true, ite_false, eq_self, j00, j10, j20, j30, k00, k01, k02, k03, i20, i30, km0, i10, i01, im0, im1, i0m, i1m]
    refine hk Y hY ⟨g, hg, fun i hi => ?_⟩
    obtain ⟨q1, q2, q3⟩ := hp i hi
    exact ⟨q1, q2, fun a ha hE hr => q3 a ha (by omega) hr⟩
  · obtain ⟨g, hg, hp⟩ := hf
    refine ⟨hY, g, hg, fun i hi => ?_⟩
    obtain ⟨q1, q2, q3⟩ := hp i hi
    exact ⟨q1, q2, fun a ha hE hr => q3 a ha (by omega) hr⟩
theorem X9_settleHands_eq {al : Nat → Nat → Bool} {N n : Nat} {X : gM} {h : Nat → Nat → Nat} {s : Nat → Nat} (hN : 1000 ≤ N) (hn : n ≤ 10) (h4 : ∀ j, X 4 0 j = if j < n then nI j else -1) (h5 : ∀ i, i < n → X 5 i 0 = nI i) (hal : ∀ i, i < n → al 5 i = true) (hm : hC n X h s) :
    ∃ Y f, X9_settleHands al N X = some (0, Y) ∧ (∀ k i j, ¬ k = 42 → Y k i j = X k i j) ∧ rtC n Y f ∧ finR (alkF h s) n f := by
  have key : ∀ Q : Option (Int32 × gM) → Prop, (∀ Y f, (∀ k i j, ¬ k = 42 → Y k i j = X k i j) → rtC n Y f → finR (alkF h s) n f → Q (some (0, Y))) → Q (X9_settleHands al N X) := by
    intro Q hQ
    unfold X9_settleHands
    refine m_up0 10 (fun f i (Y : gM) => X9_settleHands_L2 al N (fun Y => X9_settleHands_J24 al N Y) f i Y) (fun i Y => (∀ k i j, ¬ k = 42 → Y k i j = X k i j) ∧ ∀ k, k < i → Y 42 0 k = nI k) Q X (by omega) ?_ ?_ ⟨fun _ _ _ _ => rfl, fun k hk => absurd hk (Nat.not_lt_zero k)⟩
    · rintro i fu Y hi ⟨hY, hr⟩ ih
      unfold X9_settleHands_L2
      simp (disch := omega) only [zn_add, zn_mul, zn_addl, zn_ladd, zn_mull, zn_lmul, zn_le, zn_lt, zn_eq, zn_lel, zn_ltl, zn_eql, zn_lle, zn_llt, zn_leq, zn_sub, zn_subl, zn_m1, gl_eq, bind2_some, bind3_some, Option.bind_some, bz_0, bz_1, ib_0, ib_1, ib_bz, rd_nI, rd_l, if_pos, if_neg, if_true, if_false, ite_true, ite_false, eq_self, j00, j10, j20, j30, k00, k01, k02, k03, i20, i30, km0, i10, i01, im0, im1, i0m, i1m]
      refine ih (mset Y 42 0 i (nI i)) ⟨fun k' i' j' hk' => ?_, fun k hk => ?_⟩
      · simp only [mset_at]
        rw [if_neg (fun q => hk' q.1), hY k' i' j' hk']
      · by_cases hki : k = i
        · subst hki; simp [mset_at]
        · simp [mset_at, hki, hr k (by omega)]
    · rintro fu Y ⟨hY, hr⟩
      unfold X9_settleHands_L2
      simp (disch := omega) only [zn_add, zn_mul, zn_addl, zn_ladd, zn_mull, zn_lmul, zn_le, zn_lt, zn_eq, zn_lel, zn_ltl, zn_eql, zn_lle, zn_llt, zn_leq, zn_sub, zn_subl, zn_m1, gl_eq, bind2_some, bind3_some, Option.bind_some, bz_0, bz_1, ib_0, ib_1, ib_bz, rd_nI, rd_l, if_pos, if_neg, if_true, if_false, ite_true, ite_false, eq_self, j00, j10, j20, j30, k00, k01, k02, k03, i20, i30, km0, i10, i01, im0, im1, i0m, i1m]
      unfold X9_settleHands_J24
      refine m_up0 10 (fun f i (Y : gM) => X9_settleHands_L26 al N (fun Y => X9_settleHands_J78 al N Y) f i Y) (fun i Y => (∀ k i j, ¬ k = 42 → Y k i j = X k i j) ∧ ∃ f, rtC n Y f ∧ hdI (alkF h s) n i f) Q Y (by omega) ?_ ?_ ⟨hY, fun k => k, fun k hk => hr k (by omega), hdI_0 _ _ (fun _ _ => rfl)⟩
      · rintro r fu Y hr10 ⟨hY, f0, hf0, hI⟩ ih
        unfold X9_settleHands_L26
        simp (disch := omega) only [zn_add, zn_mul, zn_addl, zn_ladd, zn_mull, zn_lmul, zn_le, zn_lt, zn_eq, zn_lel, zn_ltl, zn_eql, zn_lle, zn_llt, zn_leq, zn_sub, zn_subl, zn_m1, gl_eq, bind2_some, bind3_some, Option.bind_some, bz_0, bz_1, ib_0, ib_1, ib_bz, rd_nI, rd_l, if_pos, if_neg, if_true, if_false, ite_true, ite_false, eq_self, j00, j10, j20, j30, k00, k01, k02, k03, i20, i30, km0, i10, i01, im0, im1, i0m, i1m]
        refine m_up0 10 (fun f i (Z : gM) => X9_settleHands_L43 al N (fun p1 Y => X9_settleHands_J72 al N (X9_settleHands_L26 al N (fun Y => X9_settleHands_J78 al N Y) fu) (fun Y => X9_settleHands_J78 al N Y) p1 Y) f (nI r) 10 i Z) (fun i Z => (∀ k i j, ¬ k = 42 → Z k i j = X k i j) ∧ ∃ g, rtC n Z g ∧ rdI (alkF h s) n f0 g (fun _ b => b < i)) Q Y (by omega) ?_ ?_ ?_
        · rintro t fu' Z ht ⟨hZ, hg⟩ ih'
          have e4 : Z 4 0 t = if t < n then nI t else -1 := (hZ 4 0 t (by omega)).trans (h4 t)
          unfold X9_settleHands_L43
          simp (disch := omega) only [zn_add, zn_mul, zn_addl, zn_ladd, zn_mull, zn_lmul, zn_le, zn_lt, zn_eq, zn_lel, zn_ltl, zn_eql, zn_lle, zn_llt, zn_leq, zn_sub, zn_subl, zn_m1, gl_eq, bind2_some, bind3_some, Option.bind_some, bz_0, bz_1, ib_0, ib_1, ib_bz, rd_nI, rd_l, if_pos, if_neg, if_true, if_false, ite_true, ite_false, eq_self, j00, j10, j20, j30, k00, k01, k02, k03, i20, i30, km0, i10, i01, im0, im1, i0m, i1m, e4, X9_settleHands_J66]
          by_cases htn : t < n
          · simp (disch := omega) only [if_pos htn, if_neg (zn_nn (a := t) (by omega)), dr_nI (hal t htn) (by omega : t < 2147483648), zn_add, zn_mul, zn_addl, zn_ladd, zn_mull, zn_lmul, zn_le, zn_lt, zn_eq, zn_lel, zn_ltl, zn_eql, zn_lle, zn_llt, zn_leq, zn_sub, zn_subl, zn_m1, gl_eq, bind2_some, bind3_some, Option.bind_some, bz_0, bz_1, ib_0, ib_1, ib_bz, rd_nI, rd_l, if_pos, if_neg, if_true, if_false, ite_true, ite_false, eq_self, j00, j10, j20, j30, k00, k01, k02, k03, i20, i30, km0, i10, i01, im0, im1, i0m, i1m]
            refine tl_L11 (fun o => Q (bind2 o fun r7 X8 => X9_settleHands_L43 al N (fun p1 Y => X9_settleHands_J72 al N (X9_settleHands_L26 al N (fun Y => X9_settleHands_J78 al N Y) fu) (fun Y => X9_settleHands_J78 al N Y) p1 Y) fu' (nI r) 10 (nI (t + 1)) X8)) hN hn h4 h5 hal hm htn (fun k hk => (hI.1 k hk).1) Z hZ hg (fun Z2 hZ2 hg2 => ?_)
            rw [bind2_some]
            exact ih' Z2 ⟨hZ2, hg2⟩
          · simp (disch := omega) only [if_neg htn, zn_add, zn_mul, zn_addl, zn_ladd, zn_mull, zn_lmul, zn_le, zn_lt, zn_eq, zn_lel, zn_ltl, zn_eql, zn_lle, zn_llt, zn_leq, zn_sub, zn_subl, zn_m1, gl_eq, bind2_some, bind3_some, Option.bind_some, bz_0, bz_1, ib_0, ib_1, ib_bz, rd_nI, rd_l, if_pos, if_neg, if_true, if_false, ite_true, ite_false, eq_self, j00, j10, j20, j30, k00, k01, k02, k03, i20, i30, km0, i10, i01, im0, im1, i0m, i1m]
            obtain ⟨g, hg, hp⟩ := hg
            refine ih' Z ⟨hZ, g, hg, fun i hi => ?_⟩
            obtain ⟨q1, q2, q3⟩ := hp i hi
            exact ⟨q1, q2, fun a ha hE hr => q3 a ha (by omega) hr⟩
        · rintro fu' Z ⟨hZ, g, hg, hp⟩
          unfold X9_settleHands_L43 X9_settleHands_J72
          simp (disch := omega) only [zn_add, zn_mul, zn_addl, zn_ladd, zn_mull, zn_lmul, zn_le, zn_lt, zn_eq, zn_lel, zn_ltl, zn_eql, zn_lle, zn_llt, zn_leq, zn_sub, zn_subl, zn_m1, gl_eq, bind2_some, bind3_some, Option.bind_some, bz_0, bz_1, ib_0, ib_1, ib_bz, rd_nI, rd_l, if_pos, if_neg, if_true, if_false, ite_true, ite_false, eq_self, j00, j10, j20, j30, k00, k01, k02, k03, i20, i30, km0, i10, i01, im0, im1, i0m, i1m]
          refine ih Z ⟨hZ, g, hg, hdI_s hI (fun i hi => ?_)⟩
          obtain ⟨q1, q2, q3⟩ := hp i hi
          exact ⟨q1, q2, fun a ha hr => q3 a ha (by omega) hr⟩
        · exact ⟨hY, f0, hf0, fun i hi => ⟨Nat.le_refl _, ⟨i, hi, conn_rfl _ _ _, rfl⟩, fun a _ hE => absurd hE (Nat.not_lt_zero i)⟩⟩
      · rintro fu Y ⟨hY, f, hf, hI⟩
        unfold X9_settleHands_L26 X9_settleHands_J78
        simp (disch := omega) only [zn_add, zn_mul, zn_addl, zn_ladd, zn_mull, zn_lmul, zn_le, zn_lt, zn_eq, zn_lel, zn_ltl, zn_eql, zn_lle, zn_llt, zn_leq, zn_sub, zn_subl, zn_m1, gl_eq, bind2_some, bind3_some, Option.bind_some, bz_0, bz_1, ib_0, ib_1, ib_bz, rd_nI, rd_l, if_pos, if_neg, if_true, if_false, ite_true, ite_false, eq_self, j00, j10, j20, j30, k00, k01, k02, k03, i20, i30, km0, i10, i01, im0, im1, i0m, i1m]
        exact hQ Y f hY hf (hdI_e hI hn)
  exact key (fun o => ∃ Y f, o = some (0, Y) ∧ (∀ k i j, ¬ k = 42 → Y k i j = X k i j) ∧ rtC n Y f ∧ finR (alkF h s) n f) (fun Y f h1 h2 h3 => ⟨Y, f, rfl, h1, h2, h3⟩)
