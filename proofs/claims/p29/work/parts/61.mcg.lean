/-! each part of the kept world speaks of some slices alone -/
theorem nc_cg {P : Nat} {Φ Ψ : (Nat → Nat) → Prop} (h : ∀ a, Φ a ↔ Ψ a) (ls : List Nat) (a : Nat → Nat) : nc P Φ ls a = nc P Ψ ls a := by
  have : Φ = Ψ := funext fun a => propext (h a)
  rw [this]
theorem geo_cg {X Y : gM} {ls : List Nat} (h48 : ∀ i ∈ ls, Y 48 0 i = X 48 0 i) (h47 : ∀ i ∈ ls, Y 47 0 i = X 47 0 i) (a : Nat → Nat) : geo Y ls a ↔ geo X ls a := by
  unfold geo
  refine and_congr Iff.rfl (and_congr ?_ ?_)
  · refine forall_congr' fun h => forall_congr' fun _ => forall_congr' fun i => forall_congr' fun hi => forall_congr' fun j => forall_congr' fun hj => forall_congr' fun k => forall_congr' fun hk => ?_
    rw [h48 i hi, h48 j hj, h48 k hk]
  · refine forall_congr' fun i => forall_congr' fun hi => forall_congr' fun j => forall_congr' fun hj => ?_
    rw [h47 i hi, h47 j hj]
theorem fit_cg {X Y : gM} {F F' P : Nat} {ls : List Nat} {all : Bool} (hg : ∀ a, geo Y ls a ↔ geo X ls a) (hc : ∀ f, cts Y F' ls all f ↔ cts X F ls all f) (hb : ∀ f a, cts X F ls all f → (brk Y P f a ↔ brk X P f a)) (wo : Nat) (a : Nat → Nat) : fit Y F' P ls all wo a ↔ fit X F P ls all wo a := by
  unfold fit
  refine and_congr (hg a) (forall_congr' fun f => ?_)
  rw [hc f]
  refine forall_congr' fun h => forall_congr' fun _ => ?_
  rw [hb f a h]
theorem fito_cg {X Y : gM} {F F' P : Nat} {ls : List Nat} (hg : ∀ a, geo Y ls a ↔ geo X ls a) (hc : ∀ f, cts Y F' ls false f ↔ cts X F ls false f) (hb : ∀ f a, cts X F ls false f → (brk Y P f a ↔ brk X P f a)) (g : Nat) (a : Nat → Nat) : fito Y F' P ls g a ↔ fito X F P ls g a := by
  unfold fito
  refine and_congr (hg a) ?_
  rw [hc g]
  constructor
  · rintro ⟨h1, h2, h3⟩
    exact ⟨h1, (hb g a h1).mp h2, fun f hf hn => fun q => h3 f ((hc f).mpr hf) hn ((hb f a hf).mpr q)⟩
  · rintro ⟨h1, h2, h3⟩
    exact ⟨h1, (hb g a h1).mpr h2, fun f hf hn => fun q => h3 f ((hc f).mp hf) hn ((hb f a ((hc f).mp hf)).mp q)⟩
theorem brk_cg {X Y : gM} {P f : Nat} (h63 : Y 63 0 f = X 63 0 f) (h64 : Y 64 0 f = X 64 0 f) (h65 : Y 65 0 f = X 65 0 f) (a : Nat → Nat) : brk Y P f a ↔ brk X P f a := by
  unfold brk
  rw [h63, h64, h65]
theorem svOK_cg {L L' F F' s : Nat} {X Y : gM} (hls : lvs (Y 44 0) (s / 3) L' = lvs (X 44 0) (s / 3) L) (h53 : Y 53 0 (s / 3) = X 53 0 (s / 3))
    (h48 : ∀ i ∈ lvs (X 44 0) (s / 3) L, Y 48 0 i = X 48 0 i) (h47 : ∀ i ∈ lvs (X 44 0) (s / 3) L, Y 47 0 i = X 47 0 i)
    (hc : ∀ all f, cts Y F' (lvs (X 44 0) (s / 3) L) all f ↔ cts X F (lvs (X 44 0) (s / 3) L) all f)
    (hb : ∀ all f, cts X F (lvs (X 44 0) (s / 3) L) all f → Y 63 0 f = X 63 0 f ∧ Y 64 0 f = X 64 0 f ∧ Y 65 0 f = X 65 0 f)
    (h14 : Y 14 s 3 = X 14 s 3) (h15 : Y 15 s = X 15 s) (h16 : Y 16 s = X 16 s) (h17 : Y 17 s = X 17 s) (g : svOK L F X s) : svOK L' F' Y s := by
  intro P ls hP4 hP hl
  rw [h53] at hP
  rw [hls] at hl
  subst hl
  have hg := geo_cg (X := X) (Y := Y) h48 h47
  have hbb : ∀ all f a, cts X F (lvs (X 44 0) (s / 3) L) all f → (brk Y (2 * P) f a ↔ brk X (2 * P) f a) := fun all f a h => by
    obtain ⟨q1, q2, q3⟩ := hb all f h
    exact brk_cg q1 q2 q3 a
  have hf : ∀ all wo a, fit Y F' (2 * P) (lvs (X 44 0) (s / 3) L) all wo a ↔ fit X F (2 * P) (lvs (X 44 0) (s / 3) L) all wo a := fun all wo a => fit_cg hg (hc all) (hbb all) wo a
  have ho : ∀ q a, fito Y F' (2 * P) (lvs (X 44 0) (s / 3) L) q a ↔ fito X F (2 * P) (lvs (X 44 0) (s / 3) L) q a := fun q a => fito_cg hg (hc false) (hbb false) q a
  obtain ⟨g1, g2, g3, g4⟩ := g P _ hP4 hP rfl
  refine ⟨?_, fun i hi v hv => ?_, fun i hi j hj hn => ?_, fun h2 q hq i hi v hv => ?_⟩
  · rw [h14, g1, nc_cg (hf _ _)]
  · rw [h15, g2 i hi v hv, nc_cg (fun a => and_congr (hf _ _ a) Iff.rfl)]
  · rw [h16, g3 i hi j hj hn, nc_cg (fun a => and_congr (hf _ _ a) Iff.rfl)]
  · rw [h17, g4 h2 q hq i hi v hv, nc_cg (fun a => and_congr (ho _ a) Iff.rfl)]

def djN (k j : Nat) : Bool := decide (k = 45) || decide (k = 46)
theorem jN_cg {NL : List (Nat × Nat)} {L : Nat} {F : Nat} {W : Nat} {K : Nat} {X Y : gM} (h : ∀ k i j, djN k j = true → Y k i j = X k i j) (g : jN NL L F W K X) : jN NL L F W K Y := by
  have e45 : Y 45 = X 45 := funext fun i => funext fun j => h 45 i j rfl
  have e46 : Y 46 = X 46 := funext fun i => funext fun j => h 46 i j rfl
  intro k i; rw [g k i]; unfold avl; rw [e45, e46]
def djL (k j : Nat) : Bool := decide (k = 4) || decide (k = 5) || decide (k = 6) || decide (k = 44) || decide (k = 45) || decide (k = 46) || decide (k = 47) || decide (k = 48) || decide (k = 49) || decide (k = 50) || decide (k = 51) || decide (k = 52) || (decide (k = 43) && decide (j = 0)) || (decide (k = 0) && decide (j = 2))
theorem jL_cg {L : Nat} {X Y : gM} (h : ∀ k i j, djL k j = true → Y k i j = X k i j) (g : jL L X) : jL L Y := by
  have e4 : Y 4 = X 4 := funext fun i => funext fun j => h 4 i j rfl
  have e5 : Y 5 = X 5 := funext fun i => funext fun j => h 5 i j rfl
  have e6 : Y 6 = X 6 := funext fun i => funext fun j => h 6 i j rfl
  have e44 : Y 44 = X 44 := funext fun i => funext fun j => h 44 i j rfl
  have e45 : Y 45 = X 45 := funext fun i => funext fun j => h 45 i j rfl
  have e46 : Y 46 = X 46 := funext fun i => funext fun j => h 46 i j rfl
  have e47 : Y 47 = X 47 := funext fun i => funext fun j => h 47 i j rfl
  have e48 : Y 48 = X 48 := funext fun i => funext fun j => h 48 i j rfl
  have e49 : Y 49 = X 49 := funext fun i => funext fun j => h 49 i j rfl
  have e50 : Y 50 = X 50 := funext fun i => funext fun j => h 50 i j rfl
  have e51 : Y 51 = X 51 := funext fun i => funext fun j => h 51 i j rfl
  have e52 : Y 52 = X 52 := funext fun i => funext fun j => h 52 i j rfl
  have e43_0 : Y 43 0 0 = X 43 0 0 := h 43 0 0 rfl
  have e0_2 : Y 0 0 2 = X 0 0 2 := h 0 0 2 rfl
  unfold jL at g ⊢
  simp only [e4, e5, e6, e44, e45, e46, e47, e48, e49, e50, e51, e52, e43_0, e0_2]
  exact g
def djC (k j : Nat) : Bool := decide (k = 7) || decide (k = 8) || decide (k = 9) || decide (k = 10) || decide (k = 45) || decide (k = 46) || decide (k = 54) || decide (k = 55) || decide (k = 56) || decide (k = 57)
theorem jC_cg {L : Nat} {X Y : gM} (h : ∀ k i j, djC k j = true → Y k i j = X k i j) (g : jC L X) : jC L Y := by
  have e7 : Y 7 = X 7 := funext fun i => funext fun j => h 7 i j rfl
  have e8 : Y 8 = X 8 := funext fun i => funext fun j => h 8 i j rfl
  have e9 : Y 9 = X 9 := funext fun i => funext fun j => h 9 i j rfl
  have e10 : Y 10 = X 10 := funext fun i => funext fun j => h 10 i j rfl
  have e45 : Y 45 = X 45 := funext fun i => funext fun j => h 45 i j rfl
  have e46 : Y 46 = X 46 := funext fun i => funext fun j => h 46 i j rfl
  have e54 : Y 54 = X 54 := funext fun i => funext fun j => h 54 i j rfl
  have e55 : Y 55 = X 55 := funext fun i => funext fun j => h 55 i j rfl
  have e56 : Y 56 = X 56 := funext fun i => funext fun j => h 56 i j rfl
  have e57 : Y 57 = X 57 := funext fun i => funext fun j => h 57 i j rfl
  unfold jC at g ⊢
  simp only [cR, sR] at g ⊢
  simp only [e7, e8, e9, e10, e45, e46, e54, e55, e56, e57]
  exact g
def djZ (k j : Nat) : Bool := decide (k = 49) || decide (k = 50) || decide (k = 51) || decide (k = 56) || decide (k = 57)
theorem jZ_cg {L : Nat} {X Y : gM} (h : ∀ k i j, djZ k j = true → Y k i j = X k i j) (g : jZ L X) : jZ L Y := by
  have e49 : Y 49 = X 49 := funext fun i => funext fun j => h 49 i j rfl
  have e50 : Y 50 = X 50 := funext fun i => funext fun j => h 50 i j rfl
  have e51 : Y 51 = X 51 := funext fun i => funext fun j => h 51 i j rfl
  have e56 : Y 56 = X 56 := funext fun i => funext fun j => h 56 i j rfl
  have e57 : Y 57 = X 57 := funext fun i => funext fun j => h 57 i j rfl
  unfold jZ at g ⊢
  simp only [e49, e50, e51, e56, e57]
  exact g
def djH (k j : Nat) : Bool := decide (k = 49) || decide (k = 50)
theorem jH_cg  {X Y : gM} (h : ∀ k i j, djH k j = true → Y k i j = X k i j) (g : jH  X) : jH  Y := by
  have e49 : Y 49 = X 49 := funext fun i => funext fun j => h 49 i j rfl
  have e50 : Y 50 = X 50 := funext fun i => funext fun j => h 50 i j rfl
  unfold jH at g ⊢
  simp only [e49, e50]
  exact g
def djB (k j : Nat) : Bool := decide (k = 11) || decide (k = 12) || decide (k = 13) || decide (k = 44) || decide (k = 53)
theorem jB_cg {L : Nat} {X Y : gM} (h : ∀ k i j, djB k j = true → Y k i j = X k i j) (g : jB L X) : jB L Y := by
  have e11 : Y 11 = X 11 := funext fun i => funext fun j => h 11 i j rfl
  have e12 : Y 12 = X 12 := funext fun i => funext fun j => h 12 i j rfl
  have e13 : Y 13 = X 13 := funext fun i => funext fun j => h 13 i j rfl
  have e44 : Y 44 = X 44 := funext fun i => funext fun j => h 44 i j rfl
  have e53 : Y 53 = X 53 := funext fun i => funext fun j => h 53 i j rfl
  unfold jB at g ⊢
  simp only [e11, e12, e13, e44, e53]
  exact g
def djF (k j : Nat) : Bool := decide (k = 22) || decide (k = 23) || decide (k = 44) || decide (k = 63) || decide (k = 64) || decide (k = 65) || decide (k = 66) || decide (k = 67) || (decide (k = 43) && decide (j = 23)) || (decide (k = 0) && decide (j = 5))
theorem jF_cg {L : Nat} {F : Nat} {X Y : gM} (h : ∀ k i j, djF k j = true → Y k i j = X k i j) (g : jF L F X) : jF L F Y := by
  have e22 : Y 22 = X 22 := funext fun i => funext fun j => h 22 i j rfl
  have e23 : Y 23 = X 23 := funext fun i => funext fun j => h 23 i j rfl
  have e44 : Y 44 = X 44 := funext fun i => funext fun j => h 44 i j rfl
  have e63 : Y 63 = X 63 := funext fun i => funext fun j => h 63 i j rfl
  have e64 : Y 64 = X 64 := funext fun i => funext fun j => h 64 i j rfl
  have e65 : Y 65 = X 65 := funext fun i => funext fun j => h 65 i j rfl
  have e66 : Y 66 = X 66 := funext fun i => funext fun j => h 66 i j rfl
  have e67 : Y 67 = X 67 := funext fun i => funext fun j => h 67 i j rfl
  have e43_23 : Y 43 0 23 = X 43 0 23 := h 43 0 23 rfl
  have e0_5 : Y 0 0 5 = X 0 0 5 := h 0 0 5 rfl
  unfold jF at g ⊢
  simp only [e22, e23, e44, e63, e64, e65, e66, e67, e43_23, e0_5]
  exact g
def djD (k j : Nat) : Bool := decide (k = 24) || decide (k = 58) || (decide (k = 43) && decide (j = 15)) || (decide (k = 0) && decide (j = 7))
theorem jD_cg {D : Nat} {X Y : gM} (h : ∀ k i j, djD k j = true → Y k i j = X k i j) (g : jD D X) : jD D Y := by
  have e24 : Y 24 = X 24 := funext fun i => funext fun j => h 24 i j rfl
  have e58 : Y 58 = X 58 := funext fun i => funext fun j => h 58 i j rfl
  have e43_15 : Y 43 0 15 = X 43 0 15 := h 43 0 15 rfl
  have e0_7 : Y 0 0 7 = X 0 0 7 := h 0 0 7 rfl
  unfold jD at g ⊢
  simp only [e24, e58, e43_15, e0_7]
  exact g
def djW (k j : Nat) : Bool := decide (k = 25) || decide (k = 26) || decide (k = 27) || decide (k = 59) || decide (k = 60) || (decide (k = 43) && decide (j = 17)) || (decide (k = 0) && decide (j = 9))
theorem jW_cg {W : Nat} {X Y : gM} (h : ∀ k i j, djW k j = true → Y k i j = X k i j) (g : jW W X) : jW W Y := by
  have e25 : Y 25 = X 25 := funext fun i => funext fun j => h 25 i j rfl
  have e26 : Y 26 = X 26 := funext fun i => funext fun j => h 26 i j rfl
  have e27 : Y 27 = X 27 := funext fun i => funext fun j => h 27 i j rfl
  have e59 : Y 59 = X 59 := funext fun i => funext fun j => h 59 i j rfl
  have e60 : Y 60 = X 60 := funext fun i => funext fun j => h 60 i j rfl
  have e43_17 : Y 43 0 17 = X 43 0 17 := h 43 0 17 rfl
  have e0_9 : Y 0 0 9 = X 0 0 9 := h 0 0 9 rfl
  unfold jW at g ⊢
  simp only [e25, e26, e27, e59, e60, e43_17, e0_9]
  exact g
def djK (k j : Nat) : Bool := decide (k = 26) || decide (k = 27) || decide (k = 28) || decide (k = 61) || decide (k = 62) || (decide (k = 43) && decide (j = 20)) || (decide (k = 0) && decide (j = 11))
theorem jK_cg {K : Nat} {X Y : gM} (h : ∀ k i j, djK k j = true → Y k i j = X k i j) (g : jK K X) : jK K Y := by
  have e26 : Y 26 = X 26 := funext fun i => funext fun j => h 26 i j rfl
  have e27 : Y 27 = X 27 := funext fun i => funext fun j => h 27 i j rfl
  have e28 : Y 28 = X 28 := funext fun i => funext fun j => h 28 i j rfl
  have e61 : Y 61 = X 61 := funext fun i => funext fun j => h 61 i j rfl
  have e62 : Y 62 = X 62 := funext fun i => funext fun j => h 62 i j rfl
  have e43_20 : Y 43 0 20 = X 43 0 20 := h 43 0 20 rfl
  have e0_11 : Y 0 0 11 = X 0 0 11 := h 0 0 11 rfl
  unfold jK at g ⊢
  simp only [e26, e27, e28, e61, e62, e43_20, e0_11]
  exact g
def djI (k j : Nat) : Bool := decide (k = 2) || decide (k = 3) || decide (k = 54) || decide (k = 55)
theorem jI_cg  {X Y : gM} (h : ∀ k i j, djI k j = true → Y k i j = X k i j) (g : jI  X) : jI  Y := by
  have e2 : Y 2 = X 2 := funext fun i => funext fun j => h 2 i j rfl
  have e3 : Y 3 = X 3 := funext fun i => funext fun j => h 3 i j rfl
  have e54 : Y 54 = X 54 := funext fun i => funext fun j => h 54 i j rfl
  have e55 : Y 55 = X 55 := funext fun i => funext fun j => h 55 i j rfl
  unfold jI at g ⊢
  simp only [e2, e3, e54, e55]
  exact g
def djS (k j : Nat) : Bool := decide (k = 14) || decide (k = 15) || decide (k = 16) || decide (k = 17) || decide (k = 18) || decide (k = 19) || decide (k = 21) || decide (k = 44) || decide (k = 47) || decide (k = 48) || decide (k = 53) || decide (k = 63) || decide (k = 64) || decide (k = 65) || decide (k = 66) || decide (k = 67)
theorem jS_cg {L : Nat} {F : Nat} {X Y : gM} (h : ∀ k i j, djS k j = true → Y k i j = X k i j) (g : jS L F X) : jS L F Y := by
  have e14 : Y 14 = X 14 := funext fun i => funext fun j => h 14 i j rfl
  have e15 : Y 15 = X 15 := funext fun i => funext fun j => h 15 i j rfl
  have e16 : Y 16 = X 16 := funext fun i => funext fun j => h 16 i j rfl
  have e17 : Y 17 = X 17 := funext fun i => funext fun j => h 17 i j rfl
  have e18 : Y 18 = X 18 := funext fun i => funext fun j => h 18 i j rfl
  have e19 : Y 19 = X 19 := funext fun i => funext fun j => h 19 i j rfl
  have e21 : Y 21 = X 21 := funext fun i => funext fun j => h 21 i j rfl
  have e44 : Y 44 = X 44 := funext fun i => funext fun j => h 44 i j rfl
  have e47 : Y 47 = X 47 := funext fun i => funext fun j => h 47 i j rfl
  have e48 : Y 48 = X 48 := funext fun i => funext fun j => h 48 i j rfl
  have e53 : Y 53 = X 53 := funext fun i => funext fun j => h 53 i j rfl
  have e63 : Y 63 = X 63 := funext fun i => funext fun j => h 63 i j rfl
  have e64 : Y 64 = X 64 := funext fun i => funext fun j => h 64 i j rfl
  have e65 : Y 65 = X 65 := funext fun i => funext fun j => h 65 i j rfl
  have e66 : Y 66 = X 66 := funext fun i => funext fun j => h 66 i j rfl
  have e67 : Y 67 = X 67 := funext fun i => funext fun j => h 67 i j rfl
  intro s hs
  obtain ⟨q1, q2, q3, q4, q5, q6, q7⟩ := g s hs
  rw [e14, e18, e19, e21]
  refine ⟨q1, q2, q3, q4, q5, q6, q7.imp id (fun q => svOK_cg ?_ ?_ ?_ ?_ ?_ ?_ ?_ ?_ ?_ ?_ q)⟩
  · rw [e44]
  · rw [e53]
  · intro i _; rw [e48]
  · intro i _; rw [e47]
  · intro all f; unfold cts; rw [e64, e66, e67]
  · intro all f _; rw [e63, e64, e65]; exact ⟨rfl, rfl, rfl⟩
  · rw [e14]
  · rw [e15]
  · rw [e16]
  · rw [e17]
/-- cells that no promise speaks of between two calls -/
def scr (k j : Nat) : Bool := (decide (29 ≤ k) && decide (k ≤ 36)) || (decide (38 ≤ k) && decide (k ≤ 42)) || (decide (68 ≤ k) && decide (k ≤ 81)) || (decide (k = 43) && (decide (j = 29) || decide (j = 30) || decide (j = 40) || decide (j = 42) || decide (j = 46))) || decide (k = 20)
def Sm (X Y : gM) : Prop := ∀ k i j, scr k j = false → Y k i j = X k i j
theorem Sm.rfl {X : gM} : Sm X X := fun _ _ _ _ => Eq.refl _
theorem Sm.trans {X Y Z : gM} (h : Sm X Y) (g : Sm Y Z) : Sm X Z := fun k i j hs => (g k i j hs).trans (h k i j hs)
theorem Sm.set {X Y : gM} {K i j : Nat} {v : Int32} (h : Sm X Y) (hs : scr K j = true) : Sm X (mset Y K i j v) := by
  intro k' i' j' h'
  rw [mset_at, if_neg, h k' i' j' h']
  rintro ⟨rfl, _, rfl⟩
  rw [hs] at h'
  cases h'
theorem djN_scr {k j : Nat} (h : djN k j = true) : scr k j = false := by
  simp only [djN, Bool.or_eq_true, Bool.and_eq_true, decide_eq_true_eq, or_assoc] at h
  rcases h with h | h
  all_goals first | (subst h; rfl) | (obtain ⟨rfl, rfl⟩ := h; rfl)
theorem djL_scr {k j : Nat} (h : djL k j = true) : scr k j = false := by
  simp only [djL, Bool.or_eq_true, Bool.and_eq_true, decide_eq_true_eq, or_assoc] at h
  rcases h with h | h | h | h | h | h | h | h | h | h | h | h | h | h
  all_goals first | (subst h; rfl) | (obtain ⟨rfl, rfl⟩ := h; rfl)
theorem djC_scr {k j : Nat} (h : djC k j = true) : scr k j = false := by
  simp only [djC, Bool.or_eq_true, Bool.and_eq_true, decide_eq_true_eq, or_assoc] at h
  rcases h with h | h | h | h | h | h | h | h | h | h
  all_goals first | (subst h; rfl) | (obtain ⟨rfl, rfl⟩ := h; rfl)
theorem djZ_scr {k j : Nat} (h : djZ k j = true) : scr k j = false := by
  simp only [djZ, Bool.or_eq_true, Bool.and_eq_true, decide_eq_true_eq, or_assoc] at h
  rcases h with h | h | h | h | h
  all_goals first | (subst h; rfl) | (obtain ⟨rfl, rfl⟩ := h; rfl)
theorem djH_scr {k j : Nat} (h : djH k j = true) : scr k j = false := by
  simp only [djH, Bool.or_eq_true, Bool.and_eq_true, decide_eq_true_eq, or_assoc] at h
  rcases h with h | h
  all_goals first | (subst h; rfl) | (obtain ⟨rfl, rfl⟩ := h; rfl)
theorem djB_scr {k j : Nat} (h : djB k j = true) : scr k j = false := by
  simp only [djB, Bool.or_eq_true, Bool.and_eq_true, decide_eq_true_eq, or_assoc] at h
  rcases h with h | h | h | h | h
  all_goals first | (subst h; rfl) | (obtain ⟨rfl, rfl⟩ := h; rfl)
theorem djF_scr {k j : Nat} (h : djF k j = true) : scr k j = false := by
  simp only [djF, Bool.or_eq_true, Bool.and_eq_true, decide_eq_true_eq, or_assoc] at h
  rcases h with h | h | h | h | h | h | h | h | h | h
  all_goals first | (subst h; rfl) | (obtain ⟨rfl, rfl⟩ := h; rfl)
theorem djD_scr {k j : Nat} (h : djD k j = true) : scr k j = false := by
  simp only [djD, Bool.or_eq_true, Bool.and_eq_true, decide_eq_true_eq, or_assoc] at h
  rcases h with h | h | h | h
  all_goals first | (subst h; rfl) | (obtain ⟨rfl, rfl⟩ := h; rfl)
theorem djW_scr {k j : Nat} (h : djW k j = true) : scr k j = false := by
  simp only [djW, Bool.or_eq_true, Bool.and_eq_true, decide_eq_true_eq, or_assoc] at h
  rcases h with h | h | h | h | h | h | h
  all_goals first | (subst h; rfl) | (obtain ⟨rfl, rfl⟩ := h; rfl)
theorem djK_scr {k j : Nat} (h : djK k j = true) : scr k j = false := by
  simp only [djK, Bool.or_eq_true, Bool.and_eq_true, decide_eq_true_eq, or_assoc] at h
  rcases h with h | h | h | h | h | h | h
  all_goals first | (subst h; rfl) | (obtain ⟨rfl, rfl⟩ := h; rfl)
theorem djI_scr {k j : Nat} (h : djI k j = true) : scr k j = false := by
  simp only [djI, Bool.or_eq_true, Bool.and_eq_true, decide_eq_true_eq, or_assoc] at h
  rcases h with h | h | h | h
  all_goals first | (subst h; rfl) | (obtain ⟨rfl, rfl⟩ := h; rfl)
theorem djS_scr {k j : Nat} (h : djS k j = true) : scr k j = false := by
  simp only [djS, Bool.or_eq_true, Bool.and_eq_true, decide_eq_true_eq, or_assoc] at h
  rcases h with h | h | h | h | h | h | h | h | h | h | h | h | h | h | h | h
  all_goals first | (subst h; rfl) | (obtain ⟨rfl, rfl⟩ := h; rfl)
theorem gJ_sm {NL : List (Nat × Nat)} {X Y : gM} (h : Sm X Y) (g : gJ NL X) : gJ NL Y := by
  obtain ⟨L, F, D, W, K, g1, g2, g3, g4, g5, g6, g7, g8, g9, g10, g11, g12⟩ := g
  exact ⟨L, F, D, W, K, jN_cg (fun k i j hd => h k i j (djN_scr hd)) g1, jL_cg (fun k i j hd => h k i j (djL_scr hd)) g2, jC_cg (fun k i j hd => h k i j (djC_scr hd)) g3, jZ_cg (fun k i j hd => h k i j (djZ_scr hd)) g4, jH_cg (fun k i j hd => h k i j (djH_scr hd)) g5, jB_cg (fun k i j hd => h k i j (djB_scr hd)) g6, jF_cg (fun k i j hd => h k i j (djF_scr hd)) g7, jD_cg (fun k i j hd => h k i j (djD_scr hd)) g8, jW_cg (fun k i j hd => h k i j (djW_scr hd)) g9, jK_cg (fun k i j hd => h k i j (djK_scr hd)) g10, jI_cg (fun k i j hd => h k i j (djI_scr hd)) g11, jS_cg (fun k i j hd => h k i j (djS_scr hd)) g12⟩
