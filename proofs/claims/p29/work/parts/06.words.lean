/-! MY FRAME: a memory of named cells. A name is (kind, index); ad gives its address; the memory X holds an int for each name and place; ct (part 07) says how a cell of a kind holds its slice of X. -/
def gTB : List Cond := lw_tbl.filter goodWord
theorem gTB_in {w : Cond} (i : Nat) (h : lw_tbl[i]? = some w) (hg : goodWord w = true) : w ∈ gTB := List.mem_filter.mpr ⟨List.mem_of_getElem? h, hg⟩
def gNest (w : Cond) : Bool := match w with
  | .fieldLinkNest .. => true
  | .methodLinkNest .. => true
  | _ => false
def gNB : List Cond := lw_tbl.filter gNest
theorem gNB_in {w : Cond} (i : Nat) (h : lw_tbl[i]? = some w) (hg : gNest w = true) : w ∈ gNB := List.mem_filter.mpr ⟨List.mem_of_getElem? h, hg⟩
def gNW (U : State) : Prop := ∀ w ∈ gNB, va_Nw w U
theorem gNW.moved {s U : State} (hW : s.WarmedH U.vm) (h : gNW s) : gNW U := by
  intro w hw
  have hn := (List.mem_filter.mp hw).2
  have h1 := h w hw
  cases w <;> first | exact va_Nw.warmF hW h1 | exact va_Nw.warmM hW h1 | (simp [gNest] at hn)
theorem gTB_good {w : Cond} (h : w ∈ gTB) : (w.onTables && w.keeps) = true ∨ ∃ ty, w = .arrayClass ty := good_of_word (List.mem_filter.mp h).2
theorem gGood {a b : Cond} (h : b ∈ gTB) : GoodIn (a :: gTB) (b :: gTB) := by
  intro w hw
  rcases List.mem_cons.mp hw with rfl | hw
  · exact ⟨List.mem_cons_of_mem _ h, gTB_good h⟩
  · exact ⟨List.mem_cons_of_mem _ hw, gTB_good hw⟩
/-- a memory: kind, index, place -/
abbrev gM : Type := Nat → Nat → Nat → Int32
def mset (X : gM) (K i j : Nat) (v : Int32) : gM := fun K' i' => if K' = K ∧ i' = i then upd (X K i) j v else X K' i'
theorem mset_eq (X : gM) (K i j : Nat) (v : Int32) : mset X K i j v K i = upd (X K i) j v := by simp [mset]
theorem mset_ne {X : gM} {K i j K' i' : Nat} {v : Int32} (h : ¬ (K' = K ∧ i' = i)) : mset X K i j v K' i' = X K' i' := by simp [mset, h]
/-- null, or the cell of a kind with that index -/
def ro (ad : Nat → Nat → Nat) (K : Nat) (v : Int32) : Option Nat := if v < 0 then none else some (ad K v.toNatClampNeg)
/-- a named computation: what follows speaks of its value by a name -/
def gl {α β : Type} (a : α) (f : α → β) : β := f a
theorem gl_in {α β : Type} {a : α} {f : α → β} {r : β} (h : gl a f = r) : ∃ x, x = a ∧ f x = r := ⟨a, rfl, h⟩
/-- an index that is looked at -/
def rd (v : Int32) (n : Nat) : Option Nat := if v < 0 ∨ n ≤ v.toNatClampNeg then none else some v.toNatClampNeg
def gIn (v : Int32) (n j : Nat) : Prop := vp_in v n ∧ v.toNatClampNeg = j
theorem rd_in {α : Type} {v : Int32} {n : Nat} {f : Nat → Option α} {r : α} (h : (rd v n).bind f = some r) : ∃ j, gIn v n j ∧ f j = some r := by
  unfold rd at h
  by_cases hv : v < 0 ∨ n ≤ v.toNatClampNeg
  · rw [if_pos hv] at h; cases h
  · rw [if_neg hv] at h; exact ⟨_, ⟨hv, rfl⟩, h⟩
/-- a reference that is followed: not null, and alive -/
def dr (al : Nat → Nat → Bool) (K : Nat) (v : Int32) : Option Nat := if v < 0 then none else if al K v.toNatClampNeg = true then some v.toNatClampNeg else none
def gal (NL : List (Nat × Nat)) (K i : Nat) : Bool := decide ((K, i) ∈ NL)
def gRf (NL : List (Nat × Nat)) (K : Nat) (v : Int32) (j : Nat) : Prop := ¬ v < 0 ∧ v.toNatClampNeg = j ∧ (K, j) ∈ NL
theorem dr_in {α : Type} {NL : List (Nat × Nat)} {K : Nat} {v : Int32} {f : Nat → Option α} {r : α} (h : (dr (gal NL) K v).bind f = some r) : ∃ j, gRf NL K v j ∧ f j = some r := by
  unfold dr at h
  by_cases hv : v < 0
  · rw [if_pos hv] at h; cases h
  · rw [if_neg hv] at h
    by_cases ha : gal NL K v.toNatClampNeg = true
    · rw [if_pos ha] at h; exact ⟨_, ⟨hv, rfl, of_decide_eq_true ha⟩, h⟩
    · rw [if_neg ha] at h; cases h
theorem ro_ref {ad : Nat → Nat → Nat} {K : Nat} {v : Int32} (h : ¬ v < 0) : va_rf (ro ad K v) = .ref (ad K v.toNatClampNeg) := by unfold ro; rw [if_neg h]; rfl
theorem ro_null {ad : Nat → Nat → Nat} {K : Nat} {v : Int32} (h : v < 0) : va_rf (ro ad K v) = .null := by unfold ro; rw [if_pos h]; rfl
theorem gref {NL : List (Nat × Nat)} {ad : Nat → Nat → Nat} {K j : Nat} {v : Int32} (h : gRf NL K v j) : va_rf (ro ad K v) = .ref (ad K j) := by rw [ro_ref h.1, h.2.1]
/-- the number of a name -/
def rn (j : Nat) : Option Int32 := if j < 2147483648 then some (nI j) else none
theorem rn_in {α : Type} {j : Nat} {f : Int32 → Option α} {r : α} (h : (rn j).bind f = some r) : ∃ w, (¬ w < 0 ∧ w.toNatClampNeg = j) ∧ f w = some r := by
  unfold rn at h
  by_cases hj : j < 2147483648
  · rw [if_pos hj] at h; exact ⟨nI j, ⟨nI_pos hj, nI_clamp hj⟩, h⟩
  · rw [if_neg hj] at h; cases h
/-- a boolean that is kept -/
def bz (v : Int32) : Option Int32 := if v = 0 ∨ v = 1 then some v else none
theorem bz_in {α : Type} {v : Int32} {f : Int32 → Option α} {r : α} (h : (bz v).bind f = some r) : (v = 0 ∨ v = 1) ∧ f v = some r := by
  unfold bz at h
  by_cases hv : v = 0 ∨ v = 1
  · rw [if_pos hv] at h; exact ⟨hv, h⟩
  · rw [if_neg hv] at h; cases h
/-- a divisor that is looked at -/
def nz (v : Int32) : Option Int32 := if v = 0 then none else some v
theorem nz_in {α : Type} {v : Int32} {f : Int32 → Option α} {r : α} (h : (nz v).bind f = some r) : ¬ v = 0 ∧ f v = some r := by
  unfold nz at h
  by_cases hv : v = 0
  · rw [if_pos hv] at h; cases h
  · rw [if_neg hv] at h; exact ⟨hv, h⟩
theorem bd_in {α β : Type} {o : Option α} {f : α → Option β} {r : β} (h : o.bind f = some r) : ∃ a, o = some a ∧ f a = some r := by
  cases o with
  | none => cases h
  | some a => exact ⟨a, rfl, h⟩
theorem g_ip {α : Sort _} {P : Prop} {i : Decidable P} {a b c : α} (h : P) (e : @ite α P i a b = c) : a = c := by rw [if_pos h] at e; exact e
theorem g_in {α : Sort _} {P : Prop} {i : Decidable P} {a b c : α} (h : ¬ P) (e : @ite α P i a b = c) : b = c := by rw [if_neg h] at e; exact e
theorem g_s1 {a a' : Int32} {X X' : gM} (h : some (a, X) = some (a', X')) : a = a' ∧ X = X' := by cases h; exact ⟨rfl, rfl⟩
