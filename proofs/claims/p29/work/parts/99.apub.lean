/-! what the public methods, with the sheets' step, leave alone -/
def kQ (k : Nat) : Bool := decide (¬ (44 ≤ k ∧ k ≤ 67))
def k52 (k : Nat) : Bool := decide (k ≠ 52)
theorem frm_gst2 {S : Nat → Bool} {k : Nat} {r : Int32} {X0 X : gM} (h81 : S 81 = true) (h : frm S X0 X) : frm S X0 (gst k r X) := by
  unfold gst
  by_cases h : k = 0
  · rw [if_pos h]; exact frm_set ‹frm S X0 X› h81
  · rw [if_neg h]; assumption
/-- the sheets' own arrays stay -/
def keeps (X Y : gM) : Prop := ∀ k, 44 ≤ k → k ≤ 67 → Y k = X k
theorem keeps_tr {X Y Z : gM} (h : keeps X Y) (g : keeps Y Z) : keeps X Z := fun k a b => (g k a b).trans (h k a b)
theorem keeps_rfl {X : gM} : keeps X X := fun _ _ _ => rfl
theorem keeps_of {X Y : gM} (h : frm kQ X Y) : keeps X Y := fun k a b => h k (by unfold kQ; exact decide_eq_false (by omega))

theorem pf_unmix {al : Nat → Nat → Bool} {N : Nat}  {p1 : Int32} {p2 : Int32} {p3 : Int32} {p4 : Int32} {X X2 : gM} {k : Nat} {r : Int32} (hf : P_unmix al N  p1 p2 p3 p4 X = some (k, r, X2)) : frm kQ X X2 := by
  unfold P_unmix at hf
  obtain ⟨k1, r1, X1, h1, hf⟩ := b3_in hf
  obtain ⟨r2, X3, h2, hf⟩ := b2_in hf
  cases hf
  have hA : frm kQ X X1 := fr_X9_unmix (S := kQ)  frm_rfl _ h1
  exact fr_X10_unmix (S := kQ) rfl (frm_gst2 rfl hA) _ h2
theorem pf_weight {al : Nat → Nat → Bool} {N : Nat}  {p1 : Int32} {p2 : Int32} {p3 : Int32} {X X2 : gM} {k : Nat} {r : Int32} (hf : P_weight al N  p1 p2 p3 X = some (k, r, X2)) : frm kQ X X2 := by
  unfold P_weight at hf
  obtain ⟨k1, r1, X1, h1, hf⟩ := b3_in hf
  obtain ⟨r2, X3, h2, hf⟩ := b2_in hf
  cases hf
  have hA : frm kQ X X1 := fr_X9_weight (S := kQ) rfl rfl rfl rfl rfl rfl rfl rfl frm_rfl _ h1
  exact fr_X10_weight (S := kQ) rfl rfl rfl rfl rfl rfl rfl (frm_gst2 rfl hA) _ h2
theorem pf_readings {al : Nat → Nat → Bool} {N : Nat}  {p1 : Int32} {p2 : Int32} {p3 : Int32} {X X2 : gM} {k : Nat} {r : Int32} (hf : P_readings al N  p1 p2 p3 X = some (k, r, X2)) : frm kQ X X2 := by
  unfold P_readings at hf
  obtain ⟨k1, r1, X1, h1, hf⟩ := b3_in hf
  obtain ⟨r2, X3, h2, hf⟩ := b2_in hf
  cases hf
  have hA : frm kQ X X1 := fr_X9_readings (S := kQ) rfl rfl rfl rfl rfl rfl rfl rfl frm_rfl _ h1
  exact fr_X10_readings (S := kQ) rfl rfl rfl rfl rfl rfl rfl (frm_gst2 rfl hA) _ h2
theorem pf_letter {al : Nat → Nat → Bool} {N : Nat}  {p1 : Int32} {p2 : Int32} {p3 : Int32} {p4 : Int32} {X X2 : gM} {k : Nat} {r : Int32} (hf : P_letter al N  p1 p2 p3 p4 X = some (k, r, X2)) : frm kQ X X2 := by
  unfold P_letter at hf
  obtain ⟨k1, r1, X1, h1, hf⟩ := b3_in hf
  obtain ⟨r2, X3, h2, hf⟩ := b2_in hf
  cases hf
  have hA : frm kQ X X1 := fr_X9_letter (S := kQ) rfl rfl rfl rfl rfl rfl rfl rfl frm_rfl _ h1
  exact fr_X10_letter (S := kQ) rfl rfl rfl rfl rfl rfl rfl (frm_gst2 rfl hA) _ h2
theorem pf_arrangements {al : Nat → Nat → Bool} {N : Nat}  {p1 : Int32} {p2 : Int32} {X X2 : gM} {k : Nat} {r : Int32} (hf : P_arrangements al N  p1 p2 X = some (k, r, X2)) : frm kQ X X2 := by
  unfold P_arrangements at hf
  obtain ⟨k1, r1, X1, h1, hf⟩ := b3_in hf
  obtain ⟨r2, X3, h2, hf⟩ := b2_in hf
  cases hf
  have hA : frm kQ X X1 := fr_X9_arrangements (S := kQ) rfl rfl rfl rfl rfl rfl rfl frm_rfl _ h1
  exact fr_X10_arrangements (S := kQ) rfl rfl rfl rfl (frm_gst2 rfl hA) _ h2
theorem pf_places {al : Nat → Nat → Bool} {N : Nat}  {p1 : Int32} {p2 : Int32} {X X2 : gM} {k : Nat} {r : Int32} (hf : P_places al N  p1 p2 X = some (k, r, X2)) : frm kQ X X2 := by
  unfold P_places at hf
  obtain ⟨k1, r1, X1, h1, hf⟩ := b3_in hf
  obtain ⟨r2, X3, h2, hf⟩ := b2_in hf
  cases hf
  have hA : frm kQ X X1 := fr_X9_places (S := kQ) rfl rfl rfl rfl rfl rfl rfl frm_rfl _ h1
  exact fr_X10_places (S := kQ) rfl rfl rfl rfl (frm_gst2 rfl hA) _ h2
theorem pf_handOf {al : Nat → Nat → Bool} {N : Nat}  {p1 : Int32} {X X2 : gM} {k : Nat} {r : Int32} (hf : P_handOf al N  p1 X = some (k, r, X2)) : frm kQ X X2 := by
  unfold P_handOf at hf
  obtain ⟨k1, r1, X1, h1, hf⟩ := b3_in hf
  obtain ⟨r2, X3, h2, hf⟩ := b2_in hf
  cases hf
  have hA : frm kQ X X1 := fr_X9_handOf (S := kQ) rfl frm_rfl _ h1
  exact fr_X10_handOf (S := kQ) rfl rfl (frm_gst2 rfl hA) _ h2
theorem pf_dates {al : Nat → Nat → Bool} {N : Nat}  {p1 : Int32} {X X2 : gM} {k : Nat} {r : Int32} (hf : P_dates al N  p1 X = some (k, r, X2)) : frm kQ X X2 := by
  unfold P_dates at hf
  obtain ⟨k1, r1, X1, h1, hf⟩ := b3_in hf
  obtain ⟨r2, X3, h2, hf⟩ := b2_in hf
  cases hf
  have hA : frm kQ X X1 := fr_X9_dates (S := kQ)  frm_rfl _ h1
  exact fr_X10_dates (S := kQ) rfl (frm_gst2 rfl hA) _ h2
theorem pf_match {al : Nat → Nat → Bool} {N : Nat}  {p1 : Int32} {p2 : Int32} {p3 : Int32} {p4 : Int32} {p5 : Int32} {X X2 : gM} {k : Nat} {r : Int32} (hf : P_match al N  p1 p2 p3 p4 p5 X = some (k, r, X2)) : frm kQ X X2 := by
  unfold P_match at hf
  obtain ⟨k1, r1, X1, h1, hf⟩ := b3_in hf
  obtain ⟨r2, X3, h2, hf⟩ := b2_in hf
  cases hf
  have hA : frm kQ X X1 := fr_X9_match (S := kQ) rfl rfl rfl rfl rfl rfl rfl rfl rfl rfl frm_rfl _ h1
  exact fr_X10_match (S := kQ) rfl rfl rfl rfl rfl rfl rfl rfl rfl (frm_gst2 rfl hA) _ h2
theorem pf_state {al : Nat → Nat → Bool} {N : Nat}  {p1 : Int32} {p2 : Int32} {p3 : Int32} {p4 : Int32} {X X2 : gM} {k : Nat} {r : Int32} (hf : P_state al N  p1 p2 p3 p4 X = some (k, r, X2)) : frm kQ X X2 := by
  unfold P_state at hf
  obtain ⟨k1, r1, X1, h1, hf⟩ := b3_in hf
  obtain ⟨r2, X3, h2, hf⟩ := b2_in hf
  cases hf
  have hA : frm kQ X X1 := fr_X9_state (S := kQ) rfl rfl rfl rfl rfl rfl rfl rfl rfl rfl frm_rfl _ h1
  exact fr_X10_state (S := kQ) rfl rfl rfl rfl rfl rfl rfl rfl (frm_gst2 rfl hA) _ h2
theorem pf_rests {al : Nat → Nat → Bool} {N : Nat}  {p1 : Int32} {X X2 : gM} {k : Nat} {r : Int32} (hf : P_rests al N  p1 X = some (k, r, X2)) : frm kQ X X2 := by
  unfold P_rests at hf
  obtain ⟨k1, r1, X1, h1, hf⟩ := b3_in hf
  obtain ⟨r2, X3, h2, hf⟩ := b2_in hf
  cases hf
  have hA : frm kQ X X1 := fr_X9_rests (S := kQ) rfl rfl rfl rfl rfl rfl rfl frm_rfl _ h1
  exact fr_X10_rests (S := kQ) rfl rfl rfl rfl (frm_gst2 rfl hA) _ h2
theorem pf_sheets {al : Nat → Nat → Bool} {N : Nat}  {p1 : Int32} {p2 : Int32} {X X2 : gM} {k : Nat} {r : Int32} (hf : P_sheets al N  p1 p2 X = some (k, r, X2)) : frm k52 X X2 := by
  unfold P_sheets at hf
  obtain ⟨k1, r1, X1, h1, hf⟩ := b3_in hf
  obtain ⟨r2, X3, h2, hf⟩ := b2_in hf
  cases hf
  have hA : frm k52 X X1 := fr_X9_sheets (S := k52) rfl rfl frm_rfl _ h1
  exact fr_X10_sheets (S := k52) rfl rfl (frm_gst2 rfl hA) _ h2
theorem pf_light {al : Nat → Nat → Bool} {N : Nat}  {p1 : Int32} {p2 : Int32} {p3 : Int32} {X X2 : gM} {k : Nat} {r : Int32} (hf : P_light al N  p1 p2 p3 X = some (k, r, X2)) : frm k52 X X2 := by
  unfold P_light at hf
  obtain ⟨k1, r1, X1, h1, hf⟩ := b3_in hf
  obtain ⟨r2, X3, h2, hf⟩ := b2_in hf
  cases hf
  have hA : frm k52 X X1 := fr_X9_light (S := k52) rfl rfl rfl frm_rfl _ h1
  exact fr_X10_light (S := k52) rfl rfl rfl hA _ h2
theorem pf_image {al : Nat → Nat → Bool} {N : Nat}  {p1 : Int32} {p2 : Int32} {p3 : Int32} {p4 : Int32} {p5 : Int32} {X X2 : gM} {k : Nat} {r : Int32} (hf : P_image al N  p1 p2 p3 p4 p5 X = some (k, r, X2)) : frm k52 X X2 := by
  unfold P_image at hf
  obtain ⟨k1, r1, X1, h1, hf⟩ := b3_in hf
  obtain ⟨r2, X3, h2, hf⟩ := b2_in hf
  cases hf
  have hA : frm k52 X X1 := fr_X9_image (S := k52) rfl rfl frm_rfl _ h1
  exact fr_X10_image (S := k52) rfl rfl (frm_gst2 rfl hA) _ h2
theorem pf_give {al : Nat → Nat → Bool} {N : Nat}  {p1 : Int32} {p2 : Int32} {p3 : Int32} {p4 : Int32} {p5 : Int32} {p6 : Int32} {X X2 : gM} {k : Nat} {r : Int32} (hf : P_give al N  p1 p2 p3 p4 p5 p6 X = some (k, r, X2)) : frm k52 X X2 := by
  unfold P_give at hf
  obtain ⟨k1, r1, X1, h1, hf⟩ := b3_in hf
  obtain ⟨r2, X3, h2, hf⟩ := b2_in hf
  cases hf
  have hA : frm k52 X X1 := fr_X9_give (S := k52) rfl rfl frm_rfl _ h1
  exact fr_X10_give (S := k52) rfl rfl (frm_gst2 rfl hA) _ h2
theorem pf_type {al : Nat → Nat → Bool} {N : Nat}  {p1 : Int32} {X X2 : gM} {k : Nat} {r : Int32} (hf : P_type al N  p1 X = some (k, r, X2)) : frm k52 X X2 := by
  unfold P_type at hf
  obtain ⟨k1, r1, X1, h1, hf⟩ := b3_in hf
  obtain ⟨r2, X3, h2, hf⟩ := b2_in hf
  cases hf
  have hA : frm k52 X X1 := fr_X9_type (S := k52) rfl rfl frm_rfl _ h1
  exact fr_X10_type (S := k52) rfl rfl (frm_gst2 rfl hA) _ h2
theorem pf_hold {al : Nat → Nat → Bool} {N : Nat}  {p1 : Int32} {p2 : Int32} {X X2 : gM} {k : Nat} {r : Int32} (hf : P_hold al N  p1 p2 X = some (k, r, X2)) : frm k52 X X2 := by
  unfold P_hold at hf
  obtain ⟨k1, r1, X1, h1, hf⟩ := b3_in hf
  obtain ⟨r2, X3, h2, hf⟩ := b2_in hf
  cases hf
  have hA : frm k52 X X1 := fr_X9_hold (S := k52) rfl rfl frm_rfl _ h1
  exact fr_X10_hold (S := k52) rfl rfl (frm_gst2 rfl hA) _ h2
theorem pf_hand {al : Nat → Nat → Bool} {N : Nat}  {p1 : Int32} {p2 : Int32} {p3 : Int32} {p4 : Int32} {p5 : Int32} {X X2 : gM} {k : Nat} {r : Int32} (hf : P_hand al N  p1 p2 p3 p4 p5 X = some (k, r, X2)) : frm k52 X X2 := by
  unfold P_hand at hf
  obtain ⟨k1, r1, X1, h1, hf⟩ := b3_in hf
  obtain ⟨r2, X3, h2, hf⟩ := b2_in hf
  cases hf
  have hA : frm k52 X X1 := fr_X9_hand (S := k52) rfl rfl frm_rfl _ h1
  exact fr_X10_hand (S := k52) rfl rfl rfl rfl (frm_gst2 rfl hA) _ h2
theorem pf_fact {al : Nat → Nat → Bool} {N : Nat} {nw : List (Nat × Nat)} {p1 : Int32} {p2 : Int32} {p3 : Int32} {p4 : Int32} {X X2 : gM} {k : Nat} {r : Int32} (hf : P_fact al N nw p1 p2 p3 p4 X = some (k, r, X2)) : frm k52 X X2 := by
  unfold P_fact at hf
  obtain ⟨k1, r1, X1, h1, hf⟩ := b3_in hf
  obtain ⟨r2, X3, h2, hf⟩ := b2_in hf
  cases hf
  have hA : frm k52 X X1 := fr_X9_fact (S := k52) rfl rfl rfl rfl rfl frm_rfl _ h1
  exact fr_X10_fact (S := k52) rfl rfl rfl rfl rfl rfl (frm_gst2 rfl hA) _ h2
theorem pf_word {al : Nat → Nat → Bool} {N : Nat} {nw : List (Nat × Nat)}  {X X2 : gM} {k : Nat} {r : Int32} (hf : P_word al N nw  X = some (k, r, X2)) : frm k52 X X2 := by
  unfold P_word at hf
  obtain ⟨k1, r1, X1, h1, hf⟩ := b3_in hf
  obtain ⟨r2, X3, h2, hf⟩ := b2_in hf
  cases hf
  have hA : frm k52 X X1 := fr_X9_word (S := k52) rfl rfl rfl rfl rfl frm_rfl _ h1
  exact fr_X10_word (S := k52) rfl rfl rfl (frm_gst2 rfl hA) _ h2
theorem pf_work {al : Nat → Nat → Bool} {N : Nat} {nw : List (Nat × Nat)}  {X X2 : gM} {k : Nat} {r : Int32} (hf : P_work al N nw  X = some (k, r, X2)) : frm k52 X X2 := by
  unfold P_work at hf
  obtain ⟨k1, r1, X1, h1, hf⟩ := b3_in hf
  obtain ⟨r2, X3, h2, hf⟩ := b2_in hf
  cases hf
  have hA : frm k52 X X1 := fr_X9_work (S := k52) rfl rfl rfl rfl rfl frm_rfl _ h1
  exact fr_X10_work (S := k52) rfl rfl rfl (frm_gst2 rfl hA) _ h2
theorem pf_worth {al : Nat → Nat → Bool} {N : Nat} {X X2 : gM} {r : Int32} (hf : P_worth al N X = some (r, X2)) : frm kQ X X2 := by
  unfold P_worth at hf
  obtain ⟨r1, X1, h1, hf⟩ := b2_in hf
  obtain ⟨r2, X3, h2, hf⟩ := b2_in hf
  cases hf
  have hA : frm kQ X X1 := fr_X9_worth (S := kQ) rfl rfl rfl rfl rfl rfl rfl frm_rfl _ h1
  exact fr_X10_worth (S := kQ) rfl rfl rfl rfl hA _ h2
theorem keeps_52 {X Y : gM} (h : keeps X Y) : Y 52 = X 52 := h 52 (by omega) (by omega)
theorem k52_of {X Y : gM} (h : frm k52 X Y) : Y 52 = X 52 := h 52 rfl
/-- the names alive tell how many leaves, facts, words and works there are -/
theorem jN_inj {NL : List (Nat × Nat)} {L F W K L' F' W' K' : Nat} {X Y : gM} (h : jN NL L F W K X) (g : jN NL L' F' W' K' Y) (hW : W ≤ 12) (hW' : W' ≤ 12) : L = L' ∧ F = F' ∧ W = W' ∧ K = K' := by
  have e5 : ∀ i, i < L ↔ i < L' := fun i => ((h 5 i).symm.trans (g 5 i))
  have e23 : ∀ i, i < F ↔ i < F' := fun i => ((h 23 i).symm.trans (g 23 i))
  have e26 : ∀ i, (i < W ∨ (12 ≤ i ∧ i < 12 + K)) ↔ (i < W' ∨ (12 ≤ i ∧ i < 12 + K')) := fun i => ((h 26 i).symm.trans (g 26 i))
  refine ⟨?_, ?_, ?_, ?_⟩
  · have a := e5 L; have b := e5 L'; omega
  · have a := e23 F; have b := e23 F'; omega
  · have a := e26 W; have b := e26 W'; omega
  · have a := e26 (12 + K); have b := e26 (12 + K'); omega
