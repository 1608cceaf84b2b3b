/-! how many bits: of 32 -/
theorem two_split (k q b j : Nat) (hb : b < 2 ^ k) : (2 ^ k * q + b).testBit j = if j < k then b.testBit j else q.testBit (j - k) := Nat.testBit_two_pow_mul_add q hb j
theorem and_split {k q b Q B : Nat} (hb : b < 2 ^ k) (hB : B < 2 ^ k) : (2 ^ k * q + b) &&& (2 ^ k * Q + B) = 2 ^ k * (q &&& Q) + (b &&& B) := by
  refine Nat.eq_of_testBit_eq fun j => ?_
  have h1 : b &&& B < 2 ^ k := Nat.lt_of_le_of_lt Nat.and_le_left hb
  rw [Nat.testBit_and, two_split k q b j hb, two_split k Q B j hB, two_split k _ _ j h1]
  by_cases c : j < k
  · rw [if_pos c, if_pos c, if_pos c, Nat.testBit_and]
  · rw [if_neg c, if_neg c, if_neg c, Nat.testBit_and]
theorem sh_split {s q b Q B : Nat} (hs : s ≤ 8) (hb : b < 256) (hB : B < 2 ^ (8 - s)) : ((256 * q + b) >>> s) &&& (256 * Q + B) = 256 * ((q >>> s) &&& Q) + ((b >>> s) &&& B) := by
  have hB' : B < 2 ^ 8 := Nat.lt_of_lt_of_le hB (Nat.pow_le_pow_right (by omega) (by omega))
  have hb' : b < 2 ^ 8 := hb
  have h1 : (b >>> s) &&& B < 2 ^ 8 := Nat.lt_of_le_of_lt Nat.and_le_right hB'
  refine Nat.eq_of_testBit_eq fun j => ?_
  have e1 : 256 * q + b = 2 ^ 8 * q + b := rfl
  have e2 : 256 * Q + B = 2 ^ 8 * Q + B := rfl
  have e3 : 256 * ((q >>> s) &&& Q) + ((b >>> s) &&& B) = 2 ^ 8 * ((q >>> s) &&& Q) + ((b >>> s) &&& B) := rfl
  rw [e1, e2, e3, Nat.testBit_and, Nat.testBit_shiftRight, two_split 8 q b _ hb', two_split 8 Q B j hB', two_split 8 _ _ j h1]
  by_cases c : j < 8
  · rw [if_pos c, if_pos c, Nat.testBit_and, Nat.testBit_shiftRight]
    by_cases c2 : s + j < 8
    · rw [if_pos c2]
    · rw [if_neg c2]
      have : B.testBit j = false := Nat.testBit_lt_two_pow (Nat.lt_of_lt_of_le hB (Nat.pow_le_pow_right (by omega) (by omega)))
      rw [this, Bool.and_false, Bool.and_false]
  · rw [if_neg c, if_neg c, Nat.testBit_and, Nat.testBit_shiftRight, if_neg (by omega)]
    congr 2
    omega
/-- four bytes -/
def by4 (a b c d : Nat) : Nat := 256 * (256 * (256 * d + c) + b) + a
theorem by4_of (n : Nat) (h : n < 4294967296) : n = by4 (n % 256) (n / 256 % 256) (n / 65536 % 256) (n / 16777216) ∧ n / 16777216 < 256 := by
  unfold by4
  omega
def b1 (b : Nat) : Nat := b - ((b >>> 1) &&& 85)
def b2 (b : Nat) : Nat := (b1 b &&& 51) + ((b1 b >>> 2) &&& 51)
theorem b_bytes : ∀ b, b < 256 → (b >>> 1) &&& 85 ≤ b ∧ b1 b < 256 ∧ b2 b ≤ 68 ∧ b2 b % 16 ≤ 4 ∧ b2 b / 16 ≤ 4 ∧ b2 b % 16 + b2 b / 16 = popk 8 b ∧ popk 8 b ≤ 8 := by decide +kernel
theorem sh4 {s a b c d M : Nat} (hs : s ≤ 8) (ha : a < 256) (hb : b < 256) (hc : c < 256) (hM : M < 2 ^ (8 - s)) : (by4 a b c d >>> s) &&& by4 M M M M = by4 ((a >>> s) &&& M) ((b >>> s) &&& M) ((c >>> s) &&& M) ((d >>> s) &&& M) := by
  unfold by4
  rw [sh_split hs ha hM, sh_split hs hb hM, sh_split hs hc hM]
theorem and4 {a b c d M : Nat} (ha : a < 256) (hb : b < 256) (hc : c < 256) (hM : M < 256) : by4 a b c d &&& by4 M M M M = by4 (a &&& M) (b &&& M) (c &&& M) (d &&& M) := by
  have := sh4 (s := 0) (a := a) (b := b) (c := c) (d := d) (M := M) (by omega) ha hb hc hM
  simpa using this
theorem swar1 {a b c d : Nat} (ha : a < 256) (hb : b < 256) (hc : c < 256) (hd : d < 256) : by4 a b c d - ((by4 a b c d >>> 1) &&& 1431655765) = by4 (b1 a) (b1 b) (b1 c) (b1 d) := by
  have e : (1431655765 : Nat) = by4 85 85 85 85 := rfl
  rw [e, sh4 (by omega) ha hb hc (by decide)]
  obtain ⟨ka, -⟩ := b_bytes a ha
  obtain ⟨kb, -⟩ := b_bytes b hb
  obtain ⟨kc, -⟩ := b_bytes c hc
  obtain ⟨kd, -⟩ := b_bytes d hd
  unfold by4 b1
  omega
theorem swar2 {a b c d : Nat} (ha : a < 256) (hb : b < 256) (hc : c < 256) (hd : d < 256) : (by4 (b1 a) (b1 b) (b1 c) (b1 d) &&& 858993459) + ((by4 (b1 a) (b1 b) (b1 c) (b1 d) >>> 2) &&& 858993459) = by4 (b2 a) (b2 b) (b2 c) (b2 d) := by
  have e : (858993459 : Nat) = by4 51 51 51 51 := rfl
  have ka := (b_bytes a ha).2.1
  have kb := (b_bytes b hb).2.1
  have kc := (b_bytes c hc).2.1
  rw [e, sh4 (by omega) ka kb kc (by decide), and4 ka kb kc (by decide)]
  unfold by4 b2
  omega
theorem low4 (x q : Nat) (hx : x < 256) : (256 * q + x) % 256 = x := by omega
theorem and15 (x : Nat) : x &&& 15 = x % 16 := Nat.and_two_pow_sub_one_eq_mod x 4
theorem swar3 {a b c d : Nat} (ha : a < 256) (hb : b < 256) (hc : c < 256) (hd : d < 256) : (by4 (b2 a) (b2 b) (b2 c) (b2 d) + by4 (b2 a) (b2 b) (b2 c) (b2 d) >>> 4) &&& 252645135 = by4 (popk 8 a) (popk 8 b) (popk 8 c) (popk 8 d) := by
  have e : (252645135 : Nat) = by4 15 15 15 15 := rfl
  obtain ⟨-, -, a3, a4, a5, a6, a7⟩ := b_bytes a ha
  obtain ⟨-, -, b3, b4, b5, b6, b7⟩ := b_bytes b hb
  obtain ⟨-, -, c3, c4, c5, c6, c7⟩ := b_bytes c hc
  obtain ⟨-, -, d3, d4, d5, d6, d7⟩ := b_bytes d hd
  generalize b2 a = A at *
  generalize b2 b = B at *
  generalize b2 c = C at *
  generalize b2 d = E at *
  have s : by4 A B C E + by4 A B C E >>> 4 = by4 (A + A / 16 + 16 * (B % 16)) (B + B / 16 + 16 * (C % 16)) (C + C / 16 + 16 * (E % 16)) (E + E / 16) := by
    rw [Nat.shiftRight_eq_div_pow]
    unfold by4
    have e16 : (2 : Nat) ^ 4 = 16 := rfl
    rw [e16]
    omega
  rw [s, e, and4 (by omega) (by omega) (by omega) (by decide), and15, and15, and15, and15]
  unfold by4
  omega
theorem swar4 {a b c d : Nat} (ha : a ≤ 8) (hb : b ≤ 8) (hc : c ≤ 8) (hd : d ≤ 8) : ((by4 a b c d + by4 a b c d >>> 8) + (by4 a b c d + by4 a b c d >>> 8) >>> 16) &&& 63 = a + b + c + d := by
  have e63 : ∀ x : Nat, x &&& 63 = x % 64 := fun x => Nat.and_two_pow_sub_one_eq_mod x 6
  rw [e63, Nat.shiftRight_eq_div_pow, Nat.shiftRight_eq_div_pow]
  have e8 : (2 : Nat) ^ 8 = 256 := rfl
  have e16 : (2 : Nat) ^ 16 = 65536 := rfl
  rw [e8, e16]
  have e1 : by4 a b c d / 256 = 256 * (256 * d + c) + b := by unfold by4; omega
  have e2 : by4 a b c d + by4 a b c d / 256 = by4 (a + b) (b + c) (c + d) d := by rw [e1]; unfold by4; omega
  have e3 : by4 (a + b) (b + c) (c + d) d / 65536 = 256 * d + (c + d) := by unfold by4; omega
  rw [e2, e3]
  unfold by4
  omega
/-- the numbers behind the words -/
theorem nI_bv (n : Nat) : (nI n).toBitVec = BitVec.ofNat 32 n := rfl
theorem nI_and (a b : Nat) (hb : b < 4294967296) : nI a &&& nI b = nI (a &&& b) := by
  refine b_ext fun i hi => ?_
  rw [b_and]
  unfold bt
  rw [nI_bv, nI_bv, nI_bv, BitVec.getLsbD_ofNat, BitVec.getLsbD_ofNat, BitVec.getLsbD_ofNat, Nat.testBit_and]
  cases decide (i < 32) <;> rfl
theorem nI_shr (a n : Nat) (ha : a < 4294967296) (hn : n < 32) : ((nI a).toUInt32 >>> ((nI n).toUInt32 &&& Int32.toUInt32 31)).toInt32 = nI (a >>> n) := by
  refine b_ext fun i hi => ?_
  rw [b_ushr n hn]
  unfold bt
  rw [nI_bv, nI_bv, BitVec.getLsbD_ofNat, BitVec.getLsbD_ofNat, Nat.testBit_shiftRight, decide_eq_true hi, Bool.true_and]
  by_cases c : n + i < 32
  · rw [decide_eq_true c, Bool.true_and]
  · rw [decide_eq_false c, Bool.false_and]
    exact (Nat.testBit_lt_two_pow (Nat.lt_of_lt_of_le ha (by
      have : (4294967296 : Nat) = 2 ^ 32 := rfl
      rw [this]
      exact Nat.pow_le_pow_right (by omega) (by omega)))).symm
theorem popk_add : ∀ (j k n : Nat), popk (j + k) n = popk j (n % 2 ^ j) + popk k (n / 2 ^ j) := by
  intro j
  induction j with
  | zero => intro k n; simp [popk]
  | succ j ih =>
    intro k n
    have e : j + 1 + k = (j + k) + 1 := by omega
    rw [e]
    show n % 2 + popk (j + k) (n / 2) = (n % 2 ^ (j + 1)) % 2 + popk j (n % 2 ^ (j + 1) / 2) + popk k (n / 2 ^ (j + 1))
    rw [ih]
    have e1 : n % 2 ^ (j + 1) % 2 = n % 2 := Nat.mod_mod_of_dvd n ⟨2 ^ j, by rw [Nat.pow_succ, Nat.mul_comm]⟩
    have e2 : n % 2 ^ (j + 1) / 2 = n / 2 % 2 ^ j := by
      rw [Nat.pow_succ, Nat.mul_comm, Nat.mod_mul_right_div_self]
    have e3 : n / 2 / 2 ^ j = n / 2 ^ (j + 1) := by rw [Nat.div_div_eq_div_mul, Nat.pow_succ, Nat.mul_comm]
    rw [e1, e2, e3]
    omega
/-- the four steps -/
def bE1 (p : Int32) : Int32 := p - ((p.toUInt32 >>> ((1 : Int32).toUInt32 &&& Int32.toUInt32 31)).toInt32 &&& (1431655765 : Int32))
def bE2 (p : Int32) : Int32 := (p &&& (858993459 : Int32)) + ((p.toUInt32 >>> ((2 : Int32).toUInt32 &&& Int32.toUInt32 31)).toInt32 &&& (858993459 : Int32))
def bE3 (p : Int32) : Int32 := (p + (p.toUInt32 >>> ((4 : Int32).toUInt32 &&& Int32.toUInt32 31)).toInt32) &&& (252645135 : Int32)
def bE4 (p : Int32) : Int32 := p + (p.toUInt32 >>> ((8 : Int32).toUInt32 &&& Int32.toUInt32 31)).toInt32
def bE5 (p : Int32) : Int32 := (p + (p.toUInt32 >>> ((16 : Int32).toUInt32 &&& Int32.toUInt32 31)).toInt32) &&& (63 : Int32)
theorem bcE_5 (p : Int32) : bcE p = bE5 (bE4 (bE3 (bE2 (bE1 p)))) := rfl
theorem shr_lit (n k : Nat) (h : n < 4294967296) (hk : k < 32) : ((nI n).toUInt32 >>> ((nI k).toUInt32 &&& Int32.toUInt32 31)).toInt32 = nI (n >>> k) := nI_shr n k h hk
theorem bE1_eq (n : Nat) (h : n < 4294967296) : bE1 (nI n) = nI (n - ((n >>> 1) &&& 1431655765)) := by
  have l0 : (n >>> 1) &&& 1431655765 ≤ n := by
    refine Nat.le_trans Nat.and_le_left ?_
    rw [Nat.shiftRight_eq_div_pow]
    exact Nat.div_le_self _ _
  have s2 := shr_lit n 1 h (by omega)
  have s4 := nI_and (n >>> 1) 1431655765 (by decide)
  rw [← zn_sub l0, ← s4, ← s2]
  rfl
theorem bE2_eq (n : Nat) (h : n < 4294967296) : bE2 (nI n) = nI ((n &&& 858993459) + ((n >>> 2) &&& 858993459)) := by
  have s2 := shr_lit n 2 h (by omega)
  have s3 := nI_and n 858993459 (by decide)
  have s4 := nI_and (n >>> 2) 858993459 (by decide)
  rw [← zn_add, ← s3, ← s4, ← s2]
  rfl
theorem bE3_eq (n : Nat) (h : n < 4294967296) : bE3 (nI n) = nI ((n + n >>> 4) &&& 252645135) := by
  have s2 := shr_lit n 4 h (by omega)
  have s3 := nI_and (n + n >>> 4) 252645135 (by decide)
  rw [← s3, ← zn_add, ← s2]
  rfl
theorem bE4_eq (n : Nat) (h : n < 4294967296) : bE4 (nI n) = nI (n + n >>> 8) := by
  have s2 := shr_lit n 8 h (by omega)
  rw [← zn_add, ← s2]
  rfl
theorem bE5_eq (n : Nat) (h : n < 4294967296) : bE5 (nI n) = nI ((n + n >>> 16) &&& 63) := by
  have s2 := shr_lit n 16 h (by omega)
  have s3 := nI_and (n + n >>> 16) 63 (by decide)
  rw [← s3, ← zn_add, ← s2]
  rfl
theorem by4_lt {a b c d : Nat} (ha : a < 256) (hb : b < 256) (hc : c < 256) (hd : d < 256) : by4 a b c d < 4294967296 := by
  unfold by4
  omega
theorem bcE_by {a b c d : Nat} (ha : a < 256) (hb : b < 256) (hc : c < 256) (hd : d < 256) : bcE (nI (by4 a b c d)) = nI (popk 8 a + popk 8 b + popk 8 c + popk 8 d) := by
  obtain ⟨-, a2, a3, -, -, -, a7⟩ := b_bytes a ha
  obtain ⟨-, b2', b3, -, -, -, b7⟩ := b_bytes b hb
  obtain ⟨-, c2, c3, -, -, -, c7⟩ := b_bytes c hc
  obtain ⟨-, d2, d3, -, -, -, d7⟩ := b_bytes d hd
  have h3 : by4 (popk 8 a) (popk 8 b) (popk 8 c) (popk 8 d) ≤ 2147483647 := by unfold by4; omega
  have h4 : by4 (popk 8 a) (popk 8 b) (popk 8 c) (popk 8 d) >>> 8 ≤ by4 (popk 8 a) (popk 8 b) (popk 8 c) (popk 8 d) := by
    rw [Nat.shiftRight_eq_div_pow]
    exact Nat.div_le_self _ _
  rw [bcE_5, bE1_eq _ (by4_lt ha hb hc hd), swar1 ha hb hc hd, bE2_eq _ (by4_lt a2 b2' c2 d2), swar2 ha hb hc hd, bE3_eq _ (by4_lt (by omega) (by omega) (by omega) (by omega)), swar3 ha hb hc hd, bE4_eq _ (by omega), bE5_eq _ (by omega), swar4 a7 b7 c7 d7]
theorem popk_s {j k K M n : Nat} (h1 : K = j + k) (h2 : M = 2 ^ j) : popk K n = popk j (n % M) + popk k (n / M) := by
  subst h1 h2
  exact popk_add j k n
theorem popk_by (n : Nat) : popk 32 n = popk 8 (n % 256) + (popk 8 (n / 256 % 256) + (popk 8 (n / 65536 % 256) + popk 8 (n / 16777216))) := by
  have q1 : popk 32 n = popk 8 (n % 256) + popk 24 (n / 256) := popk_s (by decide) (by decide)
  have q2 : popk 24 (n / 256) = popk 8 (n / 256 % 256) + popk 16 (n / 256 / 256) := popk_s (by decide) (by decide)
  have q3 : popk 16 (n / 65536) = popk 8 (n / 65536 % 256) + popk 8 (n / 65536 / 256) := popk_s (by decide) (by decide)
  have f1 : n / 256 / 256 = n / 65536 := by rw [Nat.div_div_eq_div_mul]
  have f3 : n / 65536 / 256 = n / 16777216 := by rw [Nat.div_div_eq_div_mul]
  rw [q1, q2, f1, q3, f3]
theorem bcE_all (n : Nat) (h : n < 4294967296) : bcE (nI n) = nI (popk 32 n) := by
  have e := (by4_of n h).1
  have hd := (by4_of n h).2
  have key := bcE_by (a := n % 256) (b := n / 256 % 256) (c := n / 65536 % 256) (d := n / 16777216) (Nat.mod_lt _ (by decide)) (Nat.mod_lt _ (by decide)) (Nat.mod_lt _ (by decide)) hd
  rw [← e] at key
  rw [key, popk_by, Nat.add_assoc, Nat.add_assoc]
theorem popk_0 {k n : Nat} (h : n < 2 ^ k) : popk k n = 0 ↔ n = 0 := by
  induction k generalizing n with
  | zero =>
    have : n = 0 := by simpa using h
    exact ⟨fun _ => this, fun _ => rfl⟩
  | succ k ih =>
    have h2 : n / 2 < 2 ^ k := by rw [Nat.pow_succ] at h; omega
    show n % 2 + popk k (n / 2) = 0 ↔ n = 0
    have := ih h2
    omega
theorem popk_1 {k n : Nat} (h : n < 2 ^ k) (h0 : n ≠ 0) : popk k n ≤ 1 ↔ n &&& (n - 1) = 0 := by
  induction k generalizing n with
  | zero =>
    have : n = 0 := by simpa using h
    exact absurd this h0
  | succ k ih =>
    have h2 : n / 2 < 2 ^ k := by rw [Nat.pow_succ] at h; omega
    show n % 2 + popk k (n / 2) ≤ 1 ↔ _
    have hz := popk_0 h2
    by_cases c : n % 2 = 0
    · have q0 : n / 2 ≠ 0 := by omega
      have e1 : n = 2 ^ 1 * (n / 2) + 0 := by omega
      have e2 : n - 1 = 2 ^ 1 * (n / 2 - 1) + 1 := by omega
      have e3 := and_split (k := 1) (q := n / 2) (b := 0) (Q := n / 2 - 1) (B := 1) (by decide) (by decide)
      rw [← e1, ← e2] at e3
      have := ih h2 q0
      have e4 : (0 : Nat) &&& 1 = 0 := rfl
      rw [e4] at e3
      omega
    · have e1 : n = 2 ^ 1 * (n / 2) + 1 := by omega
      have e2 : n - 1 = 2 ^ 1 * (n / 2) + 0 := by omega
      have e3 := and_split (k := 1) (q := n / 2) (b := 1) (Q := n / 2) (B := 0) (by decide) (by decide)
      rw [← e1, ← e2, Nat.and_self] at e3
      have e4 : (1 : Nat) &&& 0 = 0 := rfl
      rw [e4] at e3
      omega
/-- one bit or none, of a mask that isn't empty -/
theorem one_all {m : Int32} (h0 : ¬ m = 0) (h26 : ∀ v, 26 ≤ v → v < 32 → bt m v = false) : bcE m ≤ 1 ↔ m &&& (m - 1) = 0 := by
  have hn : m = nI m.toBitVec.toNat := by
    refine Int32.toBitVec_inj.mp ?_
    show m.toBitVec = BitVec.ofNat 32 m.toBitVec.toNat
    rw [BitVec.ofNat_toNat, BitVec.setWidth_eq]
  have hlt : m.toBitVec.toNat < 2 ^ 26 := Nat.lt_pow_two_of_testBit (n := 26) _ fun i hi => by
    by_cases c : i < 32
    · exact h26 i hi c
    · exact BitVec.getLsbD_of_ge m.toBitVec i (by omega)
  generalize m.toBitVec.toNat = n at hn hlt
  subst hn
  have e26 : (2 : Nat) ^ 26 = 67108864 := rfl
  rw [e26] at hlt
  have hn0 : n ≠ 0 := fun e => h0 (by rw [e]; rfl)
  have hle : n &&& (n - 1) ≤ n := Nat.and_le_left
  have hp32 : ∀ k n, popk k n ≤ k := fun k => by
    induction k with
    | zero => intro n; exact Nat.le_refl _
    | succ k ih =>
      intro n
      have := ih (n / 2)
      show n % 2 + popk k (n / 2) ≤ k + 1
      omega
  have := hp32 32 n
  have h32 : n < 2 ^ 32 := by
    have : (2 : Nat) ^ 32 = 4294967296 := rfl
    omega
  rw [bcE_all n (by omega), zn_s1 (by omega : 1 ≤ n), nI_and _ _ (by omega)]
  have e1 : nI (popk 32 n) ≤ (1 : Int32) ↔ popk 32 n ≤ 1 := zn_lel (k := 1) (by omega) (by decide)
  have e2 : nI (n &&& (n - 1)) = (0 : Int32) ↔ n &&& (n - 1) = 0 := zn_eql (k := 0) (by omega) (by decide)
  rw [e1, e2, popk_1 h32 hn0]
