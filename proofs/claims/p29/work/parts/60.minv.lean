/-! the kept world -/
def cntP (P : Nat → Bool) : Nat → Nat
  | 0 => 0
  | n + 1 => cntP P n + (if P n then 1 else 0)
def lastP (P : Nat → Bool) : Nat → Nat
  | 0 => 0
  | n + 1 => if P n then n else lastP P n
/-- a measure of both inks gives an image -/
abbrev c1 (im ov un : Nat → Int32) (b o u k : Nat) : Prop := im (3 * b + k) = -1 ∨ im (3 * b + k) = ov k * nI o + un k * nI u
def cmB (im ov un : Nat → Int32) (b q : Nat) : Bool := decide (c1 im ov un b (q / 10) (q % 10) 0 ∧ c1 im ov un b (q / 10) (q % 10) 1 ∧ c1 im ov un b (q / 10) (q % 10) 2)
def mO (im ov un : Nat → Int32) (b : Nat) : Int32 := if cntP (cmB im ov un b) 100 = 1 then nI (lastP (cmB im ov un b) 100 / 10) else -1
def mU (im ov un : Nat → Int32) (b : Nat) : Int32 := if cntP (cmB im ov un b) 100 = 1 then nI (lastP (cmB im ov un b) 100 % 10) else -1
/-- the slots of a scholar and the weights of the letters -/
def sR (X : gM) (a b s : Nat) : Prop := ∃ l0 l1 l2 v0 v1 v2 : Nat, l0 < 26 ∧ l1 < 26 ∧ l2 < 26 ∧ v0 ≤ 9 ∧ v1 ≤ 9 ∧ v2 ≤ 9 ∧
  X 9 a (3 * s) = nI l0 ∧ X 9 a (3 * s + 1) = nI l1 ∧ X 9 a (3 * s + 2) = nI l2 ∧ X 10 a (3 * s) = nI v0 ∧ X 10 a (3 * s + 1) = nI v1 ∧ X 10 a (3 * s + 2) = nI v2 ∧
  (v0 ≠ 0 → v1 ≠ 0 → l0 ≠ l1) ∧ (v0 ≠ 0 → v2 ≠ 0 → l0 ≠ l2) ∧ (v1 ≠ 0 → v2 ≠ 0 → l1 ≠ l2) ∧
  ∀ k, k < 26 → X 57 0 (26 * (320 * s + b) + k) = nI ((if l0 = k then v0 else 0) + (if l1 = k then v1 else 0) + (if l2 = k then v2 else 0))
def cR (X : gM) (a b : Nat) : Prop := (∀ k, k < 3 → X 8 a k = X 56 0 (3 * b + k)) ∧ X 7 a 3 = mO (X 56 0) (X 54 0) (X 55 0) b ∧ X 7 a 4 = mU (X 56 0) (X 54 0) (X 55 0) b ∧ ∀ s, s < 3 → sR X a b s
def jC (L : Nat) (X : gM) : Prop := ∀ i ln w, i < L → X 45 0 i = nI ln → X 46 0 i = nI w → ln ≤ 4 → w ≤ 8 → ∀ l c, l < ln → c < w → cR X (32 * i + (l * w + c)) (32 * i + 8 * l + c)
/-- leaves that are not told yet -/
def jZ (L : Nat) (X : gM) : Prop := ∀ i, L ≤ i → i < 10 → (∀ c, c < 32 → (∀ k, k < 3 → X 56 0 (3 * (32 * i + c) + k) = -1) ∧ ∀ s k, s < 3 → k < 26 → X 57 0 (26 * (320 * s + (32 * i + c)) + k) = 0) ∧
  (∀ k, k < 3 → X 49 0 (3 * i + k) = 0) ∧ X 50 0 i = 0 ∧ X 51 0 i = 0
/-- the hands are in range -/
def jH (X : gM) : Prop := ∀ i, i < 10 → (∀ k, k < 3 → ∃ v, v ≤ 20 ∧ X 49 0 (3 * i + k) = nI v) ∧ ∃ v, v ≤ 3 ∧ X 50 0 i = nI v
def lvg (l : List Nat) (j : Nat) : Int32 := match l[j]? with
  | some i => nI i
  | none => -1
def jB (L : Nat) (X : gM) : Prop := (∀ j, X 11 0 j = if j < 2 then nI j else -1) ∧ ∀ b, b < 2 → ∃ s : Nat, 1 ≤ s ∧ s ≤ 4 ∧ X 53 0 b = nI s ∧ X 12 b 0 = nI s ∧ X 12 b 2 = nI (lvs (X 44 0) b L).length ∧
  (lvs (X 44 0) b L).length ≤ 6 ∧ (lvs (X 44 0) b L).length ≤ 2 * s ∧ ∀ j, X 13 b j = lvg (lvs (X 44 0) b L) j
def jF (L F : Nat) (X : gM) : Prop := F ≤ 12 ∧ X 43 0 23 = nI F ∧ X 0 0 5 = nI F ∧ (∀ j, X 22 0 j = if j < F then nI j else -1) ∧
  ∀ f, f < F → ∃ k a o b : Nat, k ≤ 4 ∧ a < L ∧ b < 2 ∧ X 44 0 a = nI b ∧ X 63 0 f = nI k ∧ X 64 0 f = nI a ∧ X 65 0 f = nI o ∧ (k = 3 → o < 8) ∧ (k ≠ 3 → o < L ∧ a ≠ o ∧ X 44 0 o = nI b) ∧
    X 23 f 0 = nI f ∧ X 23 f 1 = nI b ∧ X 23 f 2 = nI k ∧ X 23 f 3 = nI a ∧ X 23 f 4 = nI o ∧ X 23 f 5 = X 66 0 f ∧ X 23 f 6 = X 67 0 f ∧ (X 66 0 f = 0 ∨ X 66 0 f = 1) ∧ (X 67 0 f = 0 ∨ X 67 0 f = 1)
def jD (D : Nat) (X : gM) : Prop := D ≤ 40 ∧ X 43 0 15 = nI D ∧ X 0 0 7 = nI D ∧ ∀ j, j < D → ∃ v, v < 26 ∧ X 58 0 j = nI v ∧ X 24 0 j = nI v
def jW (W : Nat) (X : gM) : Prop := W ≤ 12 ∧ X 43 0 17 = nI W ∧ X 0 0 9 = nI W ∧ (∀ j, X 25 0 j = if j < W then nI j else -1) ∧
  ∀ w, w < W → ∃ n, 1 ≤ n ∧ n ≤ 8 ∧ X 59 0 w = nI n ∧ X 26 w 1 = nI n ∧ X 27 w 99 = nI n ∧ ∀ k, k < n → ∃ v, v < 26 ∧ X 60 0 (8 * w + k) = nI v ∧ X 27 w k = nI v
def jK (K : Nat) (X : gM) : Prop := K ≤ 4 ∧ X 43 0 20 = nI K ∧ X 0 0 11 = nI K ∧ (∀ j, X 28 0 j = if j < K then nI (12 + j) else -1) ∧
  ∀ w, w < K → ∃ n, 1 ≤ n ∧ n ≤ 40 ∧ X 61 0 w = nI n ∧ X 26 (12 + w) 1 = nI n ∧ X 27 (12 + w) 99 = nI n ∧ ∀ k, k < n → ∃ v, v < 26 ∧ X 62 0 (40 * w + k) = nI v ∧ X 27 (12 + w) k = nI v
def jI (X : gM) : Prop := ∀ k, k < 3 → X 2 0 k = X 54 0 k ∧ X 3 0 k = X 55 0 k
/-! arrangements: what is meant -/
def sumN (f : Nat → Nat) : Nat → Nat
  | 0 => 0
  | n + 1 => sumN f n + f n
noncomputable def pc (p : Prop) : Nat := @ite Nat p (Classical.propDecidable p) 1 0
def updN (a : Nat → Nat) (l v : Nat) : Nat → Nat := fun i => if i = l then v else a i
/-- how many ways there are to give each of the leaves a place so that something holds -/
noncomputable def nc (P : Nat) (Φ : (Nat → Nat) → Prop) : List Nat → (Nat → Nat) → Nat
  | [], a => pc (Φ a)
  | l :: ls, a => sumN (fun v => nc P Φ ls (updN a l v)) P
def mb (m : Int32) (v : Nat) : Bool := m.toBitVec.getLsbD v
def geo (X : gM) (ls : List Nat) (a : Nat → Nat) : Prop := (∀ i ∈ ls, ∀ j ∈ ls, a i = a j → i = j) ∧
  (∀ h, h < 8 → ∀ i ∈ ls, ∀ j ∈ ls, ∀ k ∈ ls, mb (X 48 0 i) h = true → mb (X 48 0 k) h = true → a i < a j → a j < a k → mb (X 48 0 j) h = true) ∧
  (∀ i ∈ ls, ∀ j ∈ ls, a j = a i + 1 → X 47 0 i ≠ -1 → X 47 0 j ≠ -1 → X 47 0 i ≠ X 47 0 j)
/-- a fact is broken -/
def brk (X : gM) (P f : Nat) (a : Nat → Nat) : Prop := ∃ k x o : Nat, X 63 0 f = nI k ∧ X 64 0 f = nI x ∧ X 65 0 f = nI o ∧ k ≤ 4 ∧ x < 10 ∧ o < 10 ∧
  ((k = 0 ∧ a x + a o + 1 ≠ P) ∨ (k = 1 ∧ a o ≠ a x + 1) ∨ (k = 2 ∧ ¬ a x < a o) ∨ (k = 3 ∧ a x ≠ o) ∨ (k = 4 ∧ a x + a o + 1 = P))
/-- a fact that counts, of these leaves -/
def cts (X : gM) (F : Nat) (ls : List Nat) (all : Bool) (f : Nat) : Prop := f < F ∧ X 67 0 f ≠ 0 ∧ (all = true ∨ X 66 0 f ≠ 0) ∧ ∃ x, x ∈ ls ∧ X 64 0 f = nI x
def fit (X : gM) (F P : Nat) (ls : List Nat) (all : Bool) (wo : Nat) (a : Nat → Nat) : Prop := geo X ls a ∧ ∀ f, cts X F ls all f → f ≠ wo → ¬ brk X P f a
/-- just that fact is broken -/
def fito (X : gM) (F P : Nat) (ls : List Nat) (g : Nat) (a : Nat → Nat) : Prop := geo X ls a ∧ cts X F ls false g ∧ brk X P g a ∧ ∀ f, cts X F ls false f → f ≠ g → ¬ brk X P f a
def a00 : Nat → Nat := fun _ => 0
/-- a kept survey says what it is to say -/
def svOK (L F : Nat) (X : gM) (s : Nat) : Prop := ∀ P ls, P ≤ 4 → X 53 0 (s / 3) = nI P → ls = lvs (X 44 0) (s / 3) L →
  (X 14 s 3 = nI (nc (2 * P) (fit X F (2 * P) ls (decide (s % 3 = 1)) 99) ls a00)) ∧
  (∀ i ∈ ls, ∀ v, v < 32 → (mb (X 15 s i) v = true ↔ nc (2 * P) (fun a => fit X F (2 * P) ls (decide (s % 3 = 1)) 99 a ∧ a i = v) ls a00 ≠ 0)) ∧
  (∀ i ∈ ls, ∀ j ∈ ls, i ≠ j → X 16 s (10 * i + j) = nI (nc (2 * P) (fun a => fit X F (2 * P) ls (decide (s % 3 = 1)) 99 a ∧ a i + a j + 1 = 2 * P) ls a00)) ∧
  (s % 3 = 2 → ∀ g, g < 12 → ∀ i ∈ ls, ∀ v, v < 32 → (mb (X 17 s (10 * g + i)) v = true ↔ nc (2 * P) (fun a => fito X F (2 * P) ls g a ∧ a i = v) ls a00 ≠ 0))
def jS (L F : Nat) (X : gM) : Prop := ∀ s, s < 6 → X 14 s 0 = (if s % 3 = 1 then 1 else 0) ∧ X 14 s 1 = (if s % 3 = 2 then 1 else 0) ∧ (X 14 s 9 < 0 ∨ X 14 s 9 = nI (s / 3)) ∧ (∀ j, X 21 s j = -1) ∧
  (∀ j, X 18 s j < 0 ∨ ∃ f, f < F ∧ X 18 s j = nI f) ∧ (∀ j, X 19 s j < 0) ∧ (X 14 s 2 = 0 ∨ svOK L F X s)
/-- which names are alive -/
def avl (L F W K : Nat) (X : gM) (k i : Nat) : Prop := match k with
  | 5 => i < L
  | 6 => i < L
  | 7 => ∃ q ln w j, q < L ∧ X 45 0 q = nI ln ∧ X 46 0 q = nI w ∧ ln ≤ 4 ∧ w ≤ 8 ∧ j < ln * w ∧ i = 32 * q + j
  | 8 => ∃ q ln w j, q < L ∧ X 45 0 q = nI ln ∧ X 46 0 q = nI w ∧ ln ≤ 4 ∧ w ≤ 8 ∧ j < ln * w ∧ i = 32 * q + j
  | 9 => ∃ q ln w j, q < L ∧ X 45 0 q = nI ln ∧ X 46 0 q = nI w ∧ ln ≤ 4 ∧ w ≤ 8 ∧ j < ln * w ∧ i = 32 * q + j
  | 10 => ∃ q ln w j, q < L ∧ X 45 0 q = nI ln ∧ X 46 0 q = nI w ∧ ln ≤ 4 ∧ w ≤ 8 ∧ j < ln * w ∧ i = 32 * q + j
  | 12 => i < 2
  | 13 => i < 2
  | 14 => i < 6
  | 15 => i < 6
  | 16 => i < 6
  | 17 => i < 6
  | 18 => i < 6
  | 19 => i < 6
  | 20 => i < 6
  | 21 => i < 6
  | 23 => i < F
  | 26 => i < W ∨ (12 ≤ i ∧ i < 12 + K)
  | 27 => i < W ∨ (12 ≤ i ∧ i < 12 + K)
  | 38 => i < 9
  | k => k < 43 ∧ i = 0
def jN (NL : List (Nat × Nat)) (L F W K : Nat) (X : gM) : Prop := ∀ k i, (k, i) ∈ NL ↔ avl L F W K X k i
def gJ (NL : List (Nat × Nat)) (X : gM) : Prop := ∃ L F D W K : Nat, jN NL L F W K X ∧ jL L X ∧ jC L X ∧ jZ L X ∧ jH X ∧ jB L X ∧ jF L F X ∧ jD D X ∧ jW W X ∧ jK K X ∧ jI X ∧ jS L F X
