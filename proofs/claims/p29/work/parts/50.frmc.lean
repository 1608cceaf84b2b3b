/-! frames: the class's own functions -/
theorem fr_J6_bitCount_0f7a4 {S : Nat → Bool}  {al : Nat → Nat → Bool} {N : Nat} {p0 : Int32}  {X0 X : gM}  (hX : frm S X0 X) : frG g2 S X0 (J6_bitCount_0f7a4 al N p0 X) := by
  rw [J6_bitCount_0f7a4]
  repeat' (first | with_reducible assumption | with_reducible exact frG_none | with_reducible refine frG_some ?_ | with_reducible refine frG_b2 ?_ (fun _ _ _ => ?_) | with_reducible refine frG_b3 ?_ (fun _ _ _ _ => ?_) | with_reducible refine frG_bd (fun _ => ?_) | with_reducible refine frG_glm ?_ (fun _ _ => ?_) | with_reducible refine frG_gl (fun _ => ?_) | with_reducible refine frG_ite ?_ ?_ | with_reducible refine frm_set ?_ (by assumption) | with_reducible refine frm_sl ?_ (by assumption) | with_reducible refine frm_fill ?_ (by assumption) | with_reducible refine frm_tx8 ?_ (by assumption) (by assumption) (by assumption) | intro _)

theorem fr_X0_isUnmixed_J13 {S : Nat → Bool}  {al : Nat → Nat → Bool} {N : Nat} {s0 : Int32}  {X0 X : gM}  (hX : frm S X0 X) : frG g2 S X0 (X0_isUnmixed_J13 al N s0 X) := by
  rw [X0_isUnmixed_J13]
  repeat' (first | with_reducible assumption | with_reducible exact frG_none | with_reducible refine frG_some ?_ | with_reducible refine frG_b2 ?_ (fun _ _ _ => ?_) | with_reducible refine frG_b3 ?_ (fun _ _ _ _ => ?_) | with_reducible refine frG_bd (fun _ => ?_) | with_reducible refine frG_glm ?_ (fun _ _ => ?_) | with_reducible refine frG_gl (fun _ => ?_) | with_reducible refine frG_ite ?_ ?_ | with_reducible refine frm_set ?_ (by assumption) | with_reducible refine frm_sl ?_ (by assumption) | with_reducible refine frm_fill ?_ (by assumption) | with_reducible refine frm_tx8 ?_ (by assumption) (by assumption) (by assumption) | intro _)

theorem fr_X0_isUnmixed {S : Nat → Bool}  {al : Nat → Nat → Bool} {N : Nat} {p0 : Nat}  {X0 X : gM}  (hX : frm S X0 X) : frG g2 S X0 (X0_isUnmixed al N p0 X) := by
  rw [X0_isUnmixed]
  repeat' (first | with_reducible assumption | with_reducible exact frG_none | with_reducible refine frG_some ?_ | with_reducible refine fr_X0_isUnmixed_J13   ?_ | with_reducible refine frG_b2 ?_ (fun _ _ _ => ?_) | with_reducible refine frG_b3 ?_ (fun _ _ _ _ => ?_) | with_reducible refine frG_bd (fun _ => ?_) | with_reducible refine frG_glm ?_ (fun _ _ => ?_) | with_reducible refine frG_gl (fun _ => ?_) | with_reducible refine frG_ite ?_ ?_ | with_reducible refine frm_set ?_ (by assumption) | with_reducible refine frm_sl ?_ (by assumption) | with_reducible refine frm_fill ?_ (by assumption) | with_reducible refine frm_tx8 ?_ (by assumption) (by assumption) (by assumption) | intro _)

theorem fr_X0_isBlank_J12 {S : Nat → Bool}  {al : Nat → Nat → Bool} {N : Nat} {s0 : Int32}  {X0 X : gM}  (hX : frm S X0 X) : frG g2 S X0 (X0_isBlank_J12 al N s0 X) := by
  rw [X0_isBlank_J12]
  repeat' (first | with_reducible assumption | with_reducible exact frG_none | with_reducible refine frG_some ?_ | with_reducible refine frG_b2 ?_ (fun _ _ _ => ?_) | with_reducible refine frG_b3 ?_ (fun _ _ _ _ => ?_) | with_reducible refine frG_bd (fun _ => ?_) | with_reducible refine frG_glm ?_ (fun _ _ => ?_) | with_reducible refine frG_gl (fun _ => ?_) | with_reducible refine frG_ite ?_ ?_ | with_reducible refine frm_set ?_ (by assumption) | with_reducible refine frm_sl ?_ (by assumption) | with_reducible refine frm_fill ?_ (by assumption) | with_reducible refine frm_tx8 ?_ (by assumption) (by assumption) (by assumption) | intro _)

theorem fr_X0_isBlank {S : Nat → Bool}  {al : Nat → Nat → Bool} {N : Nat} {p0 : Nat}  {X0 X : gM}  (hX : frm S X0 X) : frG g2 S X0 (X0_isBlank al N p0 X) := by
  rw [X0_isBlank]
  repeat' (first | with_reducible assumption | with_reducible exact frG_none | with_reducible refine frG_some ?_ | with_reducible refine fr_X0_isBlank_J12   ?_ | with_reducible refine frG_b2 ?_ (fun _ _ _ => ?_) | with_reducible refine frG_b3 ?_ (fun _ _ _ _ => ?_) | with_reducible refine frG_bd (fun _ => ?_) | with_reducible refine frG_glm ?_ (fun _ _ => ?_) | with_reducible refine frG_gl (fun _ => ?_) | with_reducible refine frG_ite ?_ ?_ | with_reducible refine frm_set ?_ (by assumption) | with_reducible refine frm_sl ?_ (by assumption) | with_reducible refine frm_fill ?_ (by assumption) | with_reducible refine frm_tx8 ?_ (by assumption) (by assumption) (by assumption) | intro _)

theorem fr_X0_isImaged_J34 {S : Nat → Bool}  {al : Nat → Nat → Bool} {N : Nat}   {X0 X : gM}  (hX : frm S X0 X) : frG g2 S X0 (X0_isImaged_J34 al N X) := by
  rw [X0_isImaged_J34]
  repeat' (first | with_reducible assumption | with_reducible exact frG_none | with_reducible refine frG_some ?_ | with_reducible refine frG_b2 ?_ (fun _ _ _ => ?_) | with_reducible refine frG_b3 ?_ (fun _ _ _ _ => ?_) | with_reducible refine frG_bd (fun _ => ?_) | with_reducible refine frG_glm ?_ (fun _ _ => ?_) | with_reducible refine frG_gl (fun _ => ?_) | with_reducible refine frG_ite ?_ ?_ | with_reducible refine frm_set ?_ (by assumption) | with_reducible refine frm_sl ?_ (by assumption) | with_reducible refine frm_fill ?_ (by assumption) | with_reducible refine frm_tx8 ?_ (by assumption) (by assumption) (by assumption) | intro _)

theorem fr_X0_isImaged_J26 {S : Nat → Bool}  {al : Nat → Nat → Bool} {N : Nat}   {X0 X : gM}  (hX : frm S X0 X) : frG g2 S X0 (X0_isImaged_J26 al N X) := by
  rw [X0_isImaged_J26]
  repeat' (first | with_reducible assumption | with_reducible exact frG_none | with_reducible refine frG_some ?_ | with_reducible refine frG_b2 ?_ (fun _ _ _ => ?_) | with_reducible refine frG_b3 ?_ (fun _ _ _ _ => ?_) | with_reducible refine frG_bd (fun _ => ?_) | with_reducible refine frG_glm ?_ (fun _ _ => ?_) | with_reducible refine frG_gl (fun _ => ?_) | with_reducible refine frG_ite ?_ ?_ | with_reducible refine frm_set ?_ (by assumption) | with_reducible refine frm_sl ?_ (by assumption) | with_reducible refine frm_fill ?_ (by assumption) | with_reducible refine frm_tx8 ?_ (by assumption) (by assumption) (by assumption) | intro _)

theorem fr_X0_isImaged_L10 {S : Nat → Bool}  {al : Nat → Nat → Bool} {N : Nat}  {k26 : gM → Option (Int32 × gM)} {k34 : gM → Option (Int32 × gM)} {X0 : gM} (hk26 : ∀  (Y : gM), frm S X0 Y → frG g2 S X0 (k26  Y)) (hk34 : ∀  (Y : gM), frm S X0 Y → frG g2 S X0 (k34  Y)) : ∀ (n : Nat) (a1 : Nat) (a2 : Int32) (a3 : Int32) (X : gM), frm S X0 X → frG g2 S X0 (X0_isImaged_L10 al N k26 k34 n a1 a2 a3 X) := by
  intro n
  induction n with
  | zero =>
    intro a1 a2 a3 X hX
    rw [X0_isImaged_L10]
    exact frG_none
  | succ n ih =>
    intro a1 a2 a3 X hX
    rw [X0_isImaged_L10]
    repeat' (first | with_reducible assumption | with_reducible exact frG_none | with_reducible refine frG_some ?_ | with_reducible refine hk26 _ ?_ | with_reducible refine hk34 _ ?_ | with_reducible refine ih _ _ _ _ ?_ | with_reducible refine frG_b2 ?_ (fun _ _ _ => ?_) | with_reducible refine frG_b3 ?_ (fun _ _ _ _ => ?_) | with_reducible refine frG_bd (fun _ => ?_) | with_reducible refine frG_glm ?_ (fun _ _ => ?_) | with_reducible refine frG_gl (fun _ => ?_) | with_reducible refine frG_ite ?_ ?_ | with_reducible refine frm_set ?_ (by assumption) | with_reducible refine frm_sl ?_ (by assumption) | with_reducible refine frm_fill ?_ (by assumption) | with_reducible refine frm_tx8 ?_ (by assumption) (by assumption) (by assumption) | intro _)

theorem fr_X0_isImaged {S : Nat → Bool}  {al : Nat → Nat → Bool} {N : Nat} {p0 : Nat}  {X0 X : gM}  (hX : frm S X0 X) : frG g2 S X0 (X0_isImaged al N p0 X) := by
  rw [X0_isImaged]
  repeat' (first | with_reducible assumption | with_reducible exact frG_none | with_reducible refine frG_some ?_ | with_reducible refine fr_X0_isImaged_L10  ?_ ?_ _ _ _ _ _ ?_ | with_reducible refine fr_X0_isImaged_J26   ?_ | with_reducible refine fr_X0_isImaged_J34   ?_ | with_reducible refine frG_b2 ?_ (fun _ _ _ => ?_) | with_reducible refine frG_b3 ?_ (fun _ _ _ _ => ?_) | with_reducible refine frG_bd (fun _ => ?_) | with_reducible refine frG_glm ?_ (fun _ _ => ?_) | with_reducible refine frG_gl (fun _ => ?_) | with_reducible refine frG_ite ?_ ?_ | with_reducible refine frm_set ?_ (by assumption) | with_reducible refine frm_sl ?_ (by assumption) | with_reducible refine frm_fill ?_ (by assumption) | with_reducible refine frm_tx8 ?_ (by assumption) (by assumption) (by assumption) | intro _)

theorem fr_X0_comesOf_J57 {S : Nat → Bool}  {al : Nat → Nat → Bool} {N : Nat}   {X0 X : gM}  (hX : frm S X0 X) : frG g2 S X0 (X0_comesOf_J57 al N X) := by
  rw [X0_comesOf_J57]
  repeat' (first | with_reducible assumption | with_reducible exact frG_none | with_reducible refine frG_some ?_ | with_reducible refine frG_b2 ?_ (fun _ _ _ => ?_) | with_reducible refine frG_b3 ?_ (fun _ _ _ _ => ?_) | with_reducible refine frG_bd (fun _ => ?_) | with_reducible refine frG_glm ?_ (fun _ _ => ?_) | with_reducible refine frG_gl (fun _ => ?_) | with_reducible refine frG_ite ?_ ?_ | with_reducible refine frm_set ?_ (by assumption) | with_reducible refine frm_sl ?_ (by assumption) | with_reducible refine frm_fill ?_ (by assumption) | with_reducible refine frm_tx8 ?_ (by assumption) (by assumption) (by assumption) | intro _)

theorem fr_X0_comesOf_J51 {S : Nat → Bool}  {al : Nat → Nat → Bool} {N : Nat} {p0 : Nat} {p2 : Int32} {p3 : Int32} {p4 : Int32} {kk : Nat → Int32 → Int32 → Int32 → gM → Option (Int32 × gM)} {k49 : gM → Option (Int32 × gM)} {k57 : gM → Option (Int32 × gM)} {X0 X : gM} (hkk : ∀ (a0 : Nat) (a1 : Int32) (a2 : Int32) (a3 : Int32) (Y : gM), frm S X0 Y → frG g2 S X0 (kk a0 a1 a2 a3 Y)) (hk49 : ∀  (Y : gM), frm S X0 Y → frG g2 S X0 (k49  Y)) (hk57 : ∀  (Y : gM), frm S X0 Y → frG g2 S X0 (k57  Y)) (hX : frm S X0 X) : frG g2 S X0 (X0_comesOf_J51 al N kk k49 k57 p0 p2 p3 p4 X) := by
  rw [X0_comesOf_J51]
  repeat' (first | with_reducible assumption | with_reducible exact frG_none | with_reducible refine frG_some ?_ | with_reducible refine hkk _ _ _ _ _ ?_ | with_reducible refine hk49 _ ?_ | with_reducible refine hk57 _ ?_ | with_reducible refine frG_b2 ?_ (fun _ _ _ => ?_) | with_reducible refine frG_b3 ?_ (fun _ _ _ _ => ?_) | with_reducible refine frG_bd (fun _ => ?_) | with_reducible refine frG_glm ?_ (fun _ _ => ?_) | with_reducible refine frG_gl (fun _ => ?_) | with_reducible refine frG_ite ?_ ?_ | with_reducible refine frm_set ?_ (by assumption) | with_reducible refine frm_sl ?_ (by assumption) | with_reducible refine frm_fill ?_ (by assumption) | with_reducible refine frm_tx8 ?_ (by assumption) (by assumption) (by assumption) | intro _)

theorem fr_X0_comesOf_J49 {S : Nat → Bool}  {al : Nat → Nat → Bool} {N : Nat}   {X0 X : gM}  (hX : frm S X0 X) : frG g2 S X0 (X0_comesOf_J49 al N X) := by
  rw [X0_comesOf_J49]
  repeat' (first | with_reducible assumption | with_reducible exact frG_none | with_reducible refine frG_some ?_ | with_reducible refine frG_b2 ?_ (fun _ _ _ => ?_) | with_reducible refine frG_b3 ?_ (fun _ _ _ _ => ?_) | with_reducible refine frG_bd (fun _ => ?_) | with_reducible refine frG_glm ?_ (fun _ _ => ?_) | with_reducible refine frG_gl (fun _ => ?_) | with_reducible refine frG_ite ?_ ?_ | with_reducible refine frm_set ?_ (by assumption) | with_reducible refine frm_sl ?_ (by assumption) | with_reducible refine frm_fill ?_ (by assumption) | with_reducible refine frm_tx8 ?_ (by assumption) (by assumption) (by assumption) | intro _)

theorem fr_X0_comesOf_L3 {S : Nat → Bool}  {al : Nat → Nat → Bool} {N : Nat}  {k49 : gM → Option (Int32 × gM)} {k57 : gM → Option (Int32 × gM)} {X0 : gM} (hk49 : ∀  (Y : gM), frm S X0 Y → frG g2 S X0 (k49  Y)) (hk57 : ∀  (Y : gM), frm S X0 Y → frG g2 S X0 (k57  Y)) : ∀ (n : Nat) (a1 : Nat) (a2 : Int32) (a3 : Int32) (a4 : Int32) (X : gM), frm S X0 X → frG g2 S X0 (X0_comesOf_L3 al N k49 k57 n a1 a2 a3 a4 X) := by
  intro n
  induction n with
  | zero =>
    intro a1 a2 a3 a4 X hX
    rw [X0_comesOf_L3]
    exact frG_none
  | succ n ih =>
    intro a1 a2 a3 a4 X hX
    rw [X0_comesOf_L3]
    repeat' (first | with_reducible assumption | with_reducible exact frG_none | with_reducible refine frG_some ?_ | with_reducible refine fr_X0_comesOf_J51  ?_ ?_ ?_ ?_ | with_reducible refine hk49 _ ?_ | with_reducible refine hk57 _ ?_ | with_reducible refine ih _ _ _ _ _ ?_ | with_reducible refine frG_b2 ?_ (fun _ _ _ => ?_) | with_reducible refine frG_b3 ?_ (fun _ _ _ _ => ?_) | with_reducible refine frG_bd (fun _ => ?_) | with_reducible refine frG_glm ?_ (fun _ _ => ?_) | with_reducible refine frG_gl (fun _ => ?_) | with_reducible refine frG_ite ?_ ?_ | with_reducible refine frm_set ?_ (by assumption) | with_reducible refine frm_sl ?_ (by assumption) | with_reducible refine frm_fill ?_ (by assumption) | with_reducible refine frm_tx8 ?_ (by assumption) (by assumption) (by assumption) | intro _)

theorem fr_X0_comesOf {S : Nat → Bool}  {al : Nat → Nat → Bool} {N : Nat} {p0 : Nat} {p2 : Int32} {p3 : Int32}  {X0 X : gM}  (hX : frm S X0 X) : frG g2 S X0 (X0_comesOf al N p0 p2 p3 X) := by
  rw [X0_comesOf]
  repeat' (first | with_reducible assumption | with_reducible exact frG_none | with_reducible refine frG_some ?_ | with_reducible refine fr_X0_comesOf_L3  ?_ ?_ _ _ _ _ _ _ ?_ | with_reducible refine fr_X0_comesOf_J49   ?_ | with_reducible refine fr_X0_comesOf_J57   ?_ | with_reducible refine frG_b2 ?_ (fun _ _ _ => ?_) | with_reducible refine frG_b3 ?_ (fun _ _ _ _ => ?_) | with_reducible refine frG_bd (fun _ => ?_) | with_reducible refine frG_glm ?_ (fun _ _ => ?_) | with_reducible refine frG_gl (fun _ => ?_) | with_reducible refine frG_ite ?_ ?_ | with_reducible refine frm_set ?_ (by assumption) | with_reducible refine frm_sl ?_ (by assumption) | with_reducible refine frm_fill ?_ (by assumption) | with_reducible refine frm_tx8 ?_ (by assumption) (by assumption) (by assumption) | intro _)

theorem fr_X0_measure_J93 {S : Nat → Bool}  {al : Nat → Nat → Bool} {N : Nat}   {X0 X : gM}  (hX : frm S X0 X) : frG g2 S X0 (X0_measure_J93 al N X) := by
  rw [X0_measure_J93]
  repeat' (first | with_reducible assumption | with_reducible exact frG_none | with_reducible refine frG_some ?_ | with_reducible refine frG_b2 ?_ (fun _ _ _ => ?_) | with_reducible refine frG_b3 ?_ (fun _ _ _ _ => ?_) | with_reducible refine frG_bd (fun _ => ?_) | with_reducible refine frG_glm ?_ (fun _ _ => ?_) | with_reducible refine frG_gl (fun _ => ?_) | with_reducible refine frG_ite ?_ ?_ | with_reducible refine frm_set ?_ (by assumption) | with_reducible refine frm_sl ?_ (by assumption) | with_reducible refine frm_fill ?_ (by assumption) | with_reducible refine frm_tx8 ?_ (by assumption) (by assumption) (by assumption) | intro _)

theorem fr_X0_measure_J78 {S : Nat → Bool} (h7 : S 7 = true) {al : Nat → Nat → Bool} {N : Nat} {p0 : Nat} {p2 : Int32}  {X0 X : gM}  (hX : frm S X0 X) : frG g2 S X0 (X0_measure_J78 al N p0 p2 X) := by
  rw [X0_measure_J78]
  repeat' (first | with_reducible assumption | with_reducible exact frG_none | with_reducible refine frG_some ?_ | with_reducible refine fr_X0_measure_J93   ?_ | with_reducible refine frG_b2 ?_ (fun _ _ _ => ?_) | with_reducible refine frG_b3 ?_ (fun _ _ _ _ => ?_) | with_reducible refine frG_bd (fun _ => ?_) | with_reducible refine frG_glm ?_ (fun _ _ => ?_) | with_reducible refine frG_gl (fun _ => ?_) | with_reducible refine frG_ite ?_ ?_ | with_reducible refine frm_set ?_ (by assumption) | with_reducible refine frm_sl ?_ (by assumption) | with_reducible refine frm_fill ?_ (by assumption) | with_reducible refine frm_tx8 ?_ (by assumption) (by assumption) (by assumption) | intro _)

theorem fr_X0_measure_J72 {S : Nat → Bool}  {al : Nat → Nat → Bool} {N : Nat} {p0 : Nat} {p2 : Int32} {p3 : Int32} {kk : Nat → Int32 → Int32 → gM → Option (Int32 × gM)} {k78 : Nat → Int32 → gM → Option (Int32 × gM)} {X0 X : gM} (hkk : ∀ (a0 : Nat) (a1 : Int32) (a2 : Int32) (Y : gM), frm S X0 Y → frG g2 S X0 (kk a0 a1 a2 Y)) (hk78 : ∀ (a0 : Nat) (a1 : Int32) (Y : gM), frm S X0 Y → frG g2 S X0 (k78 a0 a1 Y)) (hX : frm S X0 X) : frG g2 S X0 (X0_measure_J72 al N kk k78 p0 p2 p3 X) := by
  rw [X0_measure_J72]
  repeat' (first | with_reducible assumption | with_reducible exact frG_none | with_reducible refine frG_some ?_ | with_reducible refine hkk _ _ _ _ ?_ | with_reducible refine hk78 _ _ _ ?_ | with_reducible refine frG_b2 ?_ (fun _ _ _ => ?_) | with_reducible refine frG_b3 ?_ (fun _ _ _ _ => ?_) | with_reducible refine frG_bd (fun _ => ?_) | with_reducible refine frG_glm ?_ (fun _ _ => ?_) | with_reducible refine frG_gl (fun _ => ?_) | with_reducible refine frG_ite ?_ ?_ | with_reducible refine frm_set ?_ (by assumption) | with_reducible refine frm_sl ?_ (by assumption) | with_reducible refine frm_fill ?_ (by assumption) | with_reducible refine frm_tx8 ?_ (by assumption) (by assumption) (by assumption) | intro _)

theorem fr_X0_measure_J66 {S : Nat → Bool}  {al : Nat → Nat → Bool} {N : Nat} {p0 : Nat} {p2 : Int32} {p3 : Int32} {p4 : Int32} {kk : Nat → Int32 → Int32 → Int32 → gM → Option (Int32 × gM)} {k72 : Nat → Int32 → Int32 → gM → Option (Int32 × gM)} {X0 X : gM} (hkk : ∀ (a0 : Nat) (a1 : Int32) (a2 : Int32) (a3 : Int32) (Y : gM), frm S X0 Y → frG g2 S X0 (kk a0 a1 a2 a3 Y)) (hk72 : ∀ (a0 : Nat) (a1 : Int32) (a2 : Int32) (Y : gM), frm S X0 Y → frG g2 S X0 (k72 a0 a1 a2 Y)) (hX : frm S X0 X) : frG g2 S X0 (X0_measure_J66 al N kk k72 p0 p2 p3 p4 X) := by
  rw [X0_measure_J66]
  repeat' (first | with_reducible assumption | with_reducible exact frG_none | with_reducible refine frG_some ?_ | with_reducible refine hkk _ _ _ _ _ ?_ | with_reducible refine hk72 _ _ _ _ ?_ | with_reducible refine frG_b2 ?_ (fun _ _ _ => ?_) | with_reducible refine frG_b3 ?_ (fun _ _ _ _ => ?_) | with_reducible refine frG_bd (fun _ => ?_) | with_reducible refine frG_glm ?_ (fun _ _ => ?_) | with_reducible refine frG_gl (fun _ => ?_) | with_reducible refine frG_ite ?_ ?_ | with_reducible refine frm_set ?_ (by assumption) | with_reducible refine frm_sl ?_ (by assumption) | with_reducible refine frm_fill ?_ (by assumption) | with_reducible refine frm_tx8 ?_ (by assumption) (by assumption) (by assumption) | intro _)

theorem fr_X0_measure_L31 {S : Nat → Bool} (h7 : S 7 = true) {al : Nat → Nat → Bool} {N : Nat}  {k72 : Nat → Int32 → Int32 → gM → Option (Int32 × gM)} {X0 : gM} (hk72 : ∀ (a0 : Nat) (a1 : Int32) (a2 : Int32) (Y : gM), frm S X0 Y → frG g2 S X0 (k72 a0 a1 a2 Y)) : ∀ (n : Nat) (a1 : Nat) (a2 : Int32) (a3 : Int32) (a4 : Int32) (X : gM), frm S X0 X → frG g2 S X0 (X0_measure_L31 al N k72 n a1 a2 a3 a4 X) := by
  intro n
  induction n with
  | zero =>
    intro a1 a2 a3 a4 X hX
    rw [X0_measure_L31]
    exact frG_none
  | succ n ih =>
    intro a1 a2 a3 a4 X hX
    rw [X0_measure_L31]
    repeat' (first | with_reducible assumption | with_reducible exact frG_none | with_reducible refine frG_some ?_ | with_reducible refine fr_X0_comesOf   ?_ | with_reducible refine fr_X0_measure_J66  ?_ ?_ ?_ | with_reducible refine hk72 _ _ _ _ ?_ | with_reducible refine ih _ _ _ _ _ ?_ | with_reducible refine frG_b2 ?_ (fun _ _ _ => ?_) | with_reducible refine frG_b3 ?_ (fun _ _ _ _ => ?_) | with_reducible refine frG_bd (fun _ => ?_) | with_reducible refine frG_glm ?_ (fun _ _ => ?_) | with_reducible refine frG_gl (fun _ => ?_) | with_reducible refine frG_ite ?_ ?_ | with_reducible refine frm_set ?_ (by assumption) | with_reducible refine frm_sl ?_ (by assumption) | with_reducible refine frm_fill ?_ (by assumption) | with_reducible refine frm_tx8 ?_ (by assumption) (by assumption) (by assumption) | intro _)

theorem fr_X0_measure_L22 {S : Nat → Bool} (h7 : S 7 = true) {al : Nat → Nat → Bool} {N : Nat}  {k78 : Nat → Int32 → gM → Option (Int32 × gM)} {X0 : gM} (hk78 : ∀ (a0 : Nat) (a1 : Int32) (Y : gM), frm S X0 Y → frG g2 S X0 (k78 a0 a1 Y)) : ∀ (n : Nat) (a1 : Nat) (a2 : Int32) (a3 : Int32) (X : gM), frm S X0 X → frG g2 S X0 (X0_measure_L22 al N k78 n a1 a2 a3 X) := by
  intro n
  induction n with
  | zero =>
    intro a1 a2 a3 X hX
    rw [X0_measure_L22]
    exact frG_none
  | succ n ih =>
    intro a1 a2 a3 X hX
    rw [X0_measure_L22]
    repeat' (first | with_reducible assumption | with_reducible exact frG_none | with_reducible refine frG_some ?_ | with_reducible refine fr_X0_measure_L31 h7 ?_ _ _ _ _ _ _ ?_ | with_reducible refine fr_X0_measure_J72  ?_ ?_ ?_ | with_reducible refine hk78 _ _ _ ?_ | with_reducible refine ih _ _ _ _ ?_ | with_reducible refine frG_b2 ?_ (fun _ _ _ => ?_) | with_reducible refine frG_b3 ?_ (fun _ _ _ _ => ?_) | with_reducible refine frG_bd (fun _ => ?_) | with_reducible refine frG_glm ?_ (fun _ _ => ?_) | with_reducible refine frG_gl (fun _ => ?_) | with_reducible refine frG_ite ?_ ?_ | with_reducible refine frm_set ?_ (by assumption) | with_reducible refine frm_sl ?_ (by assumption) | with_reducible refine frm_fill ?_ (by assumption) | with_reducible refine frm_tx8 ?_ (by assumption) (by assumption) (by assumption) | intro _)

theorem fr_X0_measure {S : Nat → Bool} (h7 : S 7 = true) {al : Nat → Nat → Bool} {N : Nat} {p0 : Nat}  {X0 X : gM}  (hX : frm S X0 X) : frG g2 S X0 (X0_measure al N p0 X) := by
  rw [X0_measure]
  repeat' (first | with_reducible assumption | with_reducible exact frG_none | with_reducible refine frG_some ?_ | with_reducible refine fr_X0_isImaged   ?_ | with_reducible refine fr_X0_measure_L22 h7 ?_ _ _ _ _ _ ?_ | with_reducible refine fr_X0_measure_J78 h7  ?_ | with_reducible refine frG_b2 ?_ (fun _ _ _ => ?_) | with_reducible refine frG_b3 ?_ (fun _ _ _ _ => ?_) | with_reducible refine frG_bd (fun _ => ?_) | with_reducible refine frG_glm ?_ (fun _ _ => ?_) | with_reducible refine frG_gl (fun _ => ?_) | with_reducible refine frG_ite ?_ ?_ | with_reducible refine frm_set ?_ (by assumption) | with_reducible refine frm_sl ?_ (by assumption) | with_reducible refine frm_fill ?_ (by assumption) | with_reducible refine frm_tx8 ?_ (by assumption) (by assumption) (by assumption) | intro _)

theorem fr_X0_slotFor_J55 {S : Nat → Bool}  {al : Nat → Nat → Bool} {N : Nat} {p3 : Int32}  {X0 X : gM}  (hX : frm S X0 X) : frG g2 S X0 (X0_slotFor_J55 al N p3 X) := by
  rw [X0_slotFor_J55]
  repeat' (first | with_reducible assumption | with_reducible exact frG_none | with_reducible refine frG_some ?_ | with_reducible refine frG_b2 ?_ (fun _ _ _ => ?_) | with_reducible refine frG_b3 ?_ (fun _ _ _ _ => ?_) | with_reducible refine frG_bd (fun _ => ?_) | with_reducible refine frG_glm ?_ (fun _ _ => ?_) | with_reducible refine frG_gl (fun _ => ?_) | with_reducible refine frG_ite ?_ ?_ | with_reducible refine frm_set ?_ (by assumption) | with_reducible refine frm_sl ?_ (by assumption) | with_reducible refine frm_fill ?_ (by assumption) | with_reducible refine frm_tx8 ?_ (by assumption) (by assumption) (by assumption) | intro _)

theorem fr_X0_slotFor_J49 {S : Nat → Bool}  {al : Nat → Nat → Bool} {N : Nat} {p0 : Nat} {p1 : Int32} {p2 : Int32} {p3 : Int32} {p4 : Int32} {kk : Nat → Int32 → Int32 → Int32 → Int32 → gM → Option (Int32 × gM)} {k46 : Int32 → gM → Option (Int32 × gM)} {k55 : Int32 → gM → Option (Int32 × gM)} {X0 X : gM} (hkk : ∀ (a0 : Nat) (a1 : Int32) (a2 : Int32) (a3 : Int32) (a4 : Int32) (Y : gM), frm S X0 Y → frG g2 S X0 (kk a0 a1 a2 a3 a4 Y)) (hk46 : ∀ (a0 : Int32) (Y : gM), frm S X0 Y → frG g2 S X0 (k46 a0 Y)) (hk55 : ∀ (a0 : Int32) (Y : gM), frm S X0 Y → frG g2 S X0 (k55 a0 Y)) (hX : frm S X0 X) : frG g2 S X0 (X0_slotFor_J49 al N kk k46 k55 p0 p1 p2 p3 p4 X) := by
  rw [X0_slotFor_J49]
  repeat' (first | with_reducible assumption | with_reducible exact frG_none | with_reducible refine frG_some ?_ | with_reducible refine hkk _ _ _ _ _ _ ?_ | with_reducible refine hk46 _ _ ?_ | with_reducible refine hk55 _ _ ?_ | with_reducible refine frG_b2 ?_ (fun _ _ _ => ?_) | with_reducible refine frG_b3 ?_ (fun _ _ _ _ => ?_) | with_reducible refine frG_bd (fun _ => ?_) | with_reducible refine frG_glm ?_ (fun _ _ => ?_) | with_reducible refine frG_gl (fun _ => ?_) | with_reducible refine frG_ite ?_ ?_ | with_reducible refine frm_set ?_ (by assumption) | with_reducible refine frm_sl ?_ (by assumption) | with_reducible refine frm_fill ?_ (by assumption) | with_reducible refine frm_tx8 ?_ (by assumption) (by assumption) (by assumption) | intro _)

theorem fr_X0_slotFor_J46 {S : Nat → Bool}  {al : Nat → Nat → Bool} {N : Nat} {p5 : Int32}  {X0 X : gM}  (hX : frm S X0 X) : frG g2 S X0 (X0_slotFor_J46 al N p5 X) := by
  rw [X0_slotFor_J46]
  repeat' (first | with_reducible assumption | with_reducible exact frG_none | with_reducible refine frG_some ?_ | with_reducible refine frG_b2 ?_ (fun _ _ _ => ?_) | with_reducible refine frG_b3 ?_ (fun _ _ _ _ => ?_) | with_reducible refine frG_bd (fun _ => ?_) | with_reducible refine frG_glm ?_ (fun _ _ => ?_) | with_reducible refine frG_gl (fun _ => ?_) | with_reducible refine frG_ite ?_ ?_ | with_reducible refine frm_set ?_ (by assumption) | with_reducible refine frm_sl ?_ (by assumption) | with_reducible refine frm_fill ?_ (by assumption) | with_reducible refine frm_tx8 ?_ (by assumption) (by assumption) (by assumption) | intro _)

theorem fr_X0_slotFor_L5 {S : Nat → Bool}  {al : Nat → Nat → Bool} {N : Nat}  {k46 : Int32 → gM → Option (Int32 × gM)} {k55 : Int32 → gM → Option (Int32 × gM)} {X0 : gM} (hk46 : ∀ (a0 : Int32) (Y : gM), frm S X0 Y → frG g2 S X0 (k46 a0 Y)) (hk55 : ∀ (a0 : Int32) (Y : gM), frm S X0 Y → frG g2 S X0 (k55 a0 Y)) : ∀ (n : Nat) (a1 : Nat) (a2 : Int32) (a3 : Int32) (a4 : Int32) (a5 : Int32) (X : gM), frm S X0 X → frG g2 S X0 (X0_slotFor_L5 al N k46 k55 n a1 a2 a3 a4 a5 X) := by
  intro n
  induction n with
  | zero =>
    intro a1 a2 a3 a4 a5 X hX
    rw [X0_slotFor_L5]
    exact frG_none
  | succ n ih =>
    intro a1 a2 a3 a4 a5 X hX
    rw [X0_slotFor_L5]
    repeat' (first | with_reducible assumption | with_reducible exact frG_none | with_reducible refine frG_some ?_ | with_reducible refine fr_X0_slotFor_J49  ?_ ?_ ?_ ?_ | with_reducible refine hk46 _ _ ?_ | with_reducible refine hk55 _ _ ?_ | with_reducible refine ih _ _ _ _ _ _ ?_ | with_reducible refine frG_b2 ?_ (fun _ _ _ => ?_) | with_reducible refine frG_b3 ?_ (fun _ _ _ _ => ?_) | with_reducible refine frG_bd (fun _ => ?_) | with_reducible refine frG_glm ?_ (fun _ _ => ?_) | with_reducible refine frG_gl (fun _ => ?_) | with_reducible refine frG_ite ?_ ?_ | with_reducible refine frm_set ?_ (by assumption) | with_reducible refine frm_sl ?_ (by assumption) | with_reducible refine frm_fill ?_ (by assumption) | with_reducible refine frm_tx8 ?_ (by assumption) (by assumption) (by assumption) | intro _)

theorem fr_X0_slotFor {S : Nat → Bool}  {al : Nat → Nat → Bool} {N : Nat} {p0 : Nat} {p1 : Int32} {p2 : Int32}  {X0 X : gM}  (hX : frm S X0 X) : frG g2 S X0 (X0_slotFor al N p0 p1 p2 X) := by
  rw [X0_slotFor]
  repeat' (first | with_reducible assumption | with_reducible exact frG_none | with_reducible refine frG_some ?_ | with_reducible refine fr_X0_slotFor_L5  ?_ ?_ _ _ _ _ _ _ _ ?_ | with_reducible refine fr_X0_slotFor_J46   ?_ | with_reducible refine fr_X0_slotFor_J55   ?_ | with_reducible refine frG_b2 ?_ (fun _ _ _ => ?_) | with_reducible refine frG_b3 ?_ (fun _ _ _ _ => ?_) | with_reducible refine frG_bd (fun _ => ?_) | with_reducible refine frG_glm ?_ (fun _ _ => ?_) | with_reducible refine frG_gl (fun _ => ?_) | with_reducible refine frG_ite ?_ ?_ | with_reducible refine frm_set ?_ (by assumption) | with_reducible refine frm_sl ?_ (by assumption) | with_reducible refine frm_fill ?_ (by assumption) | with_reducible refine frm_tx8 ?_ (by assumption) (by assumption) (by assumption) | intro _)

theorem fr_X0_put {S : Nat → Bool} (h9 : S 9 = true) (h10 : S 10 = true) {al : Nat → Nat → Bool} {N : Nat} {p0 : Nat} {p1 : Int32} {p2 : Int32} {p3 : Int32}  {X0 X : gM}  (hX : frm S X0 X) : frG g2 S X0 (X0_put al N p0 p1 p2 p3 X) := by
  rw [X0_put]
  repeat' (first | with_reducible assumption | with_reducible exact frG_none | with_reducible refine frG_some ?_ | with_reducible refine frG_b2 ?_ (fun _ _ _ => ?_) | with_reducible refine frG_b3 ?_ (fun _ _ _ _ => ?_) | with_reducible refine frG_bd (fun _ => ?_) | with_reducible refine frG_glm ?_ (fun _ _ => ?_) | with_reducible refine frG_gl (fun _ => ?_) | with_reducible refine frG_ite ?_ ?_ | with_reducible refine frm_set ?_ (by assumption) | with_reducible refine frm_sl ?_ (by assumption) | with_reducible refine frm_fill ?_ (by assumption) | with_reducible refine frm_tx8 ?_ (by assumption) (by assumption) (by assumption) | intro _)

theorem fr_X0_countOf_J31 {S : Nat → Bool}  {al : Nat → Nat → Bool} {N : Nat} {p2 : Int32}  {X0 X : gM}  (hX : frm S X0 X) : frG g2 S X0 (X0_countOf_J31 al N p2 X) := by
  rw [X0_countOf_J31]
  repeat' (first | with_reducible assumption | with_reducible exact frG_none | with_reducible refine frG_some ?_ | with_reducible refine frG_b2 ?_ (fun _ _ _ => ?_) | with_reducible refine frG_b3 ?_ (fun _ _ _ _ => ?_) | with_reducible refine frG_bd (fun _ => ?_) | with_reducible refine frG_glm ?_ (fun _ _ => ?_) | with_reducible refine frG_gl (fun _ => ?_) | with_reducible refine frG_ite ?_ ?_ | with_reducible refine frm_set ?_ (by assumption) | with_reducible refine frm_sl ?_ (by assumption) | with_reducible refine frm_fill ?_ (by assumption) | with_reducible refine frm_tx8 ?_ (by assumption) (by assumption) (by assumption) | intro _)

theorem fr_X0_countOf_J25 {S : Nat → Bool}  {al : Nat → Nat → Bool} {N : Nat} {p0 : Nat} {p1 : Int32} {p2 : Int32} {p3 : Int32} {kk : Nat → Int32 → Int32 → Int32 → gM → Option (Int32 × gM)} {k31 : Int32 → gM → Option (Int32 × gM)} {X0 X : gM} (hkk : ∀ (a0 : Nat) (a1 : Int32) (a2 : Int32) (a3 : Int32) (Y : gM), frm S X0 Y → frG g2 S X0 (kk a0 a1 a2 a3 Y)) (hk31 : ∀ (a0 : Int32) (Y : gM), frm S X0 Y → frG g2 S X0 (k31 a0 Y)) (hX : frm S X0 X) : frG g2 S X0 (X0_countOf_J25 al N kk k31 p0 p1 p2 p3 X) := by
  rw [X0_countOf_J25]
  repeat' (first | with_reducible assumption | with_reducible exact frG_none | with_reducible refine frG_some ?_ | with_reducible refine hkk _ _ _ _ _ ?_ | with_reducible refine hk31 _ _ ?_ | with_reducible refine frG_b2 ?_ (fun _ _ _ => ?_) | with_reducible refine frG_b3 ?_ (fun _ _ _ _ => ?_) | with_reducible refine frG_bd (fun _ => ?_) | with_reducible refine frG_glm ?_ (fun _ _ => ?_) | with_reducible refine frG_gl (fun _ => ?_) | with_reducible refine frG_ite ?_ ?_ | with_reducible refine frm_set ?_ (by assumption) | with_reducible refine frm_sl ?_ (by assumption) | with_reducible refine frm_fill ?_ (by assumption) | with_reducible refine frm_tx8 ?_ (by assumption) (by assumption) (by assumption) | intro _)

theorem fr_X0_countOf_L4 {S : Nat → Bool}  {al : Nat → Nat → Bool} {N : Nat}  {k31 : Int32 → gM → Option (Int32 × gM)} {X0 : gM} (hk31 : ∀ (a0 : Int32) (Y : gM), frm S X0 Y → frG g2 S X0 (k31 a0 Y)) : ∀ (n : Nat) (a1 : Nat) (a2 : Int32) (a3 : Int32) (a4 : Int32) (X : gM), frm S X0 X → frG g2 S X0 (X0_countOf_L4 al N k31 n a1 a2 a3 a4 X) := by
  intro n
  induction n with
  | zero =>
    intro a1 a2 a3 a4 X hX
    rw [X0_countOf_L4]
    exact frG_none
  | succ n ih =>
    intro a1 a2 a3 a4 X hX
    rw [X0_countOf_L4]
    repeat' (first | with_reducible assumption | with_reducible exact frG_none | with_reducible refine frG_some ?_ | with_reducible refine fr_X0_countOf_J25  ?_ ?_ ?_ | with_reducible refine hk31 _ _ ?_ | with_reducible refine ih _ _ _ _ _ ?_ | with_reducible refine frG_b2 ?_ (fun _ _ _ => ?_) | with_reducible refine frG_b3 ?_ (fun _ _ _ _ => ?_) | with_reducible refine frG_bd (fun _ => ?_) | with_reducible refine frG_glm ?_ (fun _ _ => ?_) | with_reducible refine frG_gl (fun _ => ?_) | with_reducible refine frG_ite ?_ ?_ | with_reducible refine frm_set ?_ (by assumption) | with_reducible refine frm_sl ?_ (by assumption) | with_reducible refine frm_fill ?_ (by assumption) | with_reducible refine frm_tx8 ?_ (by assumption) (by assumption) (by assumption) | intro _)

theorem fr_X0_countOf {S : Nat → Bool}  {al : Nat → Nat → Bool} {N : Nat} {p0 : Nat} {p1 : Int32}  {X0 X : gM}  (hX : frm S X0 X) : frG g2 S X0 (X0_countOf al N p0 p1 X) := by
  rw [X0_countOf]
  repeat' (first | with_reducible assumption | with_reducible exact frG_none | with_reducible refine frG_some ?_ | with_reducible refine fr_X0_countOf_L4  ?_ _ _ _ _ _ _ ?_ | with_reducible refine fr_X0_countOf_J31   ?_ | with_reducible refine frG_b2 ?_ (fun _ _ _ => ?_) | with_reducible refine frG_b3 ?_ (fun _ _ _ _ => ?_) | with_reducible refine frG_bd (fun _ => ?_) | with_reducible refine frG_glm ?_ (fun _ _ => ?_) | with_reducible refine frG_gl (fun _ => ?_) | with_reducible refine frG_ite ?_ ?_ | with_reducible refine frm_set ?_ (by assumption) | with_reducible refine frm_sl ?_ (by assumption) | with_reducible refine frm_fill ?_ (by assumption) | with_reducible refine frm_tx8 ?_ (by assumption) (by assumption) (by assumption) | intro _)

theorem fr_X0_addTo_J54 {S : Nat → Bool}  {al : Nat → Nat → Bool} {N : Nat}   {X0 X : gM}  (hX : frm S X0 X) : frG g2 S X0 (X0_addTo_J54 al N X) := by
  rw [X0_addTo_J54]
  repeat' (first | with_reducible assumption | with_reducible exact frG_none | with_reducible refine frG_some ?_ | with_reducible refine frG_b2 ?_ (fun _ _ _ => ?_) | with_reducible refine frG_b3 ?_ (fun _ _ _ _ => ?_) | with_reducible refine frG_bd (fun _ => ?_) | with_reducible refine frG_glm ?_ (fun _ _ => ?_) | with_reducible refine frG_gl (fun _ => ?_) | with_reducible refine frG_ite ?_ ?_ | with_reducible refine frm_set ?_ (by assumption) | with_reducible refine frm_sl ?_ (by assumption) | with_reducible refine frm_fill ?_ (by assumption) | with_reducible refine frm_tx8 ?_ (by assumption) (by assumption) (by assumption) | intro _)

theorem fr_X0_addTo_J48 {S : Nat → Bool}  {al : Nat → Nat → Bool} {N : Nat} {p0 : Nat} {p2 : Int32} {p3 : Int32} {p4 : Int32} {kk : Nat → Int32 → Int32 → Int32 → gM → Option (Int32 × gM)} {k54 : gM → Option (Int32 × gM)} {X0 X : gM} (hkk : ∀ (a0 : Nat) (a1 : Int32) (a2 : Int32) (a3 : Int32) (Y : gM), frm S X0 Y → frG g2 S X0 (kk a0 a1 a2 a3 Y)) (hk54 : ∀  (Y : gM), frm S X0 Y → frG g2 S X0 (k54  Y)) (hX : frm S X0 X) : frG g2 S X0 (X0_addTo_J48 al N kk k54 p0 p2 p3 p4 X) := by
  rw [X0_addTo_J48]
  repeat' (first | with_reducible assumption | with_reducible exact frG_none | with_reducible refine frG_some ?_ | with_reducible refine hkk _ _ _ _ _ ?_ | with_reducible refine hk54 _ ?_ | with_reducible refine frG_b2 ?_ (fun _ _ _ => ?_) | with_reducible refine frG_b3 ?_ (fun _ _ _ _ => ?_) | with_reducible refine frG_bd (fun _ => ?_) | with_reducible refine frG_glm ?_ (fun _ _ => ?_) | with_reducible refine frG_gl (fun _ => ?_) | with_reducible refine frG_ite ?_ ?_ | with_reducible refine frm_set ?_ (by assumption) | with_reducible refine frm_sl ?_ (by assumption) | with_reducible refine frm_fill ?_ (by assumption) | with_reducible refine frm_tx8 ?_ (by assumption) (by assumption) (by assumption) | intro _)

theorem fr_X0_addTo_L3 {S : Nat → Bool} (h32 : S 32 = true) {al : Nat → Nat → Bool} {N : Nat}  {k54 : gM → Option (Int32 × gM)} {X0 : gM} (hk54 : ∀  (Y : gM), frm S X0 Y → frG g2 S X0 (k54  Y)) : ∀ (n : Nat) (a1 : Nat) (a2 : Int32) (a3 : Int32) (a4 : Int32) (X : gM), frm S X0 X → frG g2 S X0 (X0_addTo_L3 al N k54 n a1 a2 a3 a4 X) := by
  intro n
  induction n with
  | zero =>
    intro a1 a2 a3 a4 X hX
    rw [X0_addTo_L3]
    exact frG_none
  | succ n ih =>
    intro a1 a2 a3 a4 X hX
    rw [X0_addTo_L3]
    repeat' (first | with_reducible assumption | with_reducible exact frG_none | with_reducible refine frG_some ?_ | with_reducible refine fr_X0_addTo_J48  ?_ ?_ ?_ | with_reducible refine hk54 _ ?_ | with_reducible refine ih _ _ _ _ _ ?_ | with_reducible refine frG_b2 ?_ (fun _ _ _ => ?_) | with_reducible refine frG_b3 ?_ (fun _ _ _ _ => ?_) | with_reducible refine frG_bd (fun _ => ?_) | with_reducible refine frG_glm ?_ (fun _ _ => ?_) | with_reducible refine frG_gl (fun _ => ?_) | with_reducible refine frG_ite ?_ ?_ | with_reducible refine frm_set ?_ (by assumption) | with_reducible refine frm_sl ?_ (by assumption) | with_reducible refine frm_fill ?_ (by assumption) | with_reducible refine frm_tx8 ?_ (by assumption) (by assumption) (by assumption) | intro _)

theorem fr_X0_addTo {S : Nat → Bool} (h32 : S 32 = true) {al : Nat → Nat → Bool} {N : Nat} {p0 : Nat} {p2 : Int32} {p3 : Int32}  {X0 X : gM}  (hX : frm S X0 X) : frG g2 S X0 (X0_addTo al N p0 p2 p3 X) := by
  rw [X0_addTo]
  repeat' (first | with_reducible assumption | with_reducible exact frG_none | with_reducible refine frG_some ?_ | with_reducible refine fr_X0_addTo_L3 h32 ?_ _ _ _ _ _ _ ?_ | with_reducible refine fr_X0_addTo_J54   ?_ | with_reducible refine frG_b2 ?_ (fun _ _ _ => ?_) | with_reducible refine frG_b3 ?_ (fun _ _ _ _ => ?_) | with_reducible refine frG_bd (fun _ => ?_) | with_reducible refine frG_glm ?_ (fun _ _ => ?_) | with_reducible refine frG_gl (fun _ => ?_) | with_reducible refine frG_ite ?_ ?_ | with_reducible refine frm_set ?_ (by assumption) | with_reducible refine frm_sl ?_ (by assumption) | with_reducible refine frm_fill ?_ (by assumption) | with_reducible refine frm_tx8 ?_ (by assumption) (by assumption) (by assumption) | intro _)

theorem fr_X1_isOf_J29 {S : Nat → Bool}  {al : Nat → Nat → Bool} {N : Nat} {s0 : Int32}  {X0 X : gM}  (hX : frm S X0 X) : frG g2 S X0 (X1_isOf_J29 al N s0 X) := by
  rw [X1_isOf_J29]
  repeat' (first | with_reducible assumption | with_reducible exact frG_none | with_reducible refine frG_some ?_ | with_reducible refine frG_b2 ?_ (fun _ _ _ => ?_) | with_reducible refine frG_b3 ?_ (fun _ _ _ _ => ?_) | with_reducible refine frG_bd (fun _ => ?_) | with_reducible refine frG_glm ?_ (fun _ _ => ?_) | with_reducible refine frG_gl (fun _ => ?_) | with_reducible refine frG_ite ?_ ?_ | with_reducible refine frm_set ?_ (by assumption) | with_reducible refine frm_sl ?_ (by assumption) | with_reducible refine frm_fill ?_ (by assumption) | with_reducible refine frm_tx8 ?_ (by assumption) (by assumption) (by assumption) | intro _)

theorem fr_X1_isOf_J28 {S : Nat → Bool}  {al : Nat → Nat → Bool} {N : Nat}   {X0 X : gM}  (hX : frm S X0 X) : frG g2 S X0 (X1_isOf_J28 al N X) := by
  rw [X1_isOf_J28]
  repeat' (first | with_reducible assumption | with_reducible exact frG_none | with_reducible refine frG_some ?_ | with_reducible refine fr_X1_isOf_J29   ?_ | with_reducible refine frG_b2 ?_ (fun _ _ _ => ?_) | with_reducible refine frG_b3 ?_ (fun _ _ _ _ => ?_) | with_reducible refine frG_bd (fun _ => ?_) | with_reducible refine frG_glm ?_ (fun _ _ => ?_) | with_reducible refine frG_gl (fun _ => ?_) | with_reducible refine frG_ite ?_ ?_ | with_reducible refine frm_set ?_ (by assumption) | with_reducible refine frm_sl ?_ (by assumption) | with_reducible refine frm_fill ?_ (by assumption) | with_reducible refine frm_tx8 ?_ (by assumption) (by assumption) (by assumption) | intro _)

theorem fr_X1_isOf_J24 {S : Nat → Bool}  {al : Nat → Nat → Bool} {N : Nat}   {X0 X : gM}  (hX : frm S X0 X) : frG g2 S X0 (X1_isOf_J24 al N X) := by
  rw [X1_isOf_J24]
  repeat' (first | with_reducible assumption | with_reducible exact frG_none | with_reducible refine frG_some ?_ | with_reducible refine fr_X1_isOf_J29   ?_ | with_reducible refine frG_b2 ?_ (fun _ _ _ => ?_) | with_reducible refine frG_b3 ?_ (fun _ _ _ _ => ?_) | with_reducible refine frG_bd (fun _ => ?_) | with_reducible refine frG_glm ?_ (fun _ _ => ?_) | with_reducible refine frG_gl (fun _ => ?_) | with_reducible refine frG_ite ?_ ?_ | with_reducible refine frm_set ?_ (by assumption) | with_reducible refine frm_sl ?_ (by assumption) | with_reducible refine frm_fill ?_ (by assumption) | with_reducible refine frm_tx8 ?_ (by assumption) (by assumption) (by assumption) | intro _)

theorem fr_X1_isOf {S : Nat → Bool}  {al : Nat → Nat → Bool} {N : Nat} {p0 : Nat} {p1 : Int32}  {X0 X : gM}  (hX : frm S X0 X) : frG g2 S X0 (X1_isOf al N p0 p1 X) := by
  rw [X1_isOf]
  repeat' (first | with_reducible assumption | with_reducible exact frG_none | with_reducible refine frG_some ?_ | with_reducible refine fr_X1_isOf_J24   ?_ | with_reducible refine fr_X1_isOf_J28   ?_ | with_reducible refine frG_b2 ?_ (fun _ _ _ => ?_) | with_reducible refine frG_b3 ?_ (fun _ _ _ _ => ?_) | with_reducible refine frG_bd (fun _ => ?_) | with_reducible refine frG_glm ?_ (fun _ _ => ?_) | with_reducible refine frG_gl (fun _ => ?_) | with_reducible refine frG_ite ?_ ?_ | with_reducible refine frm_set ?_ (by assumption) | with_reducible refine frm_sl ?_ (by assumption) | with_reducible refine frm_fill ?_ (by assumption) | with_reducible refine frm_tx8 ?_ (by assumption) (by assumption) (by assumption) | intro _)

theorem fr_X2_hasLine_J17 {S : Nat → Bool}  {al : Nat → Nat → Bool} {N : Nat} {s0 : Int32}  {X0 X : gM}  (hX : frm S X0 X) : frG g2 S X0 (X2_hasLine_J17 al N s0 X) := by
  rw [X2_hasLine_J17]
  repeat' (first | with_reducible assumption | with_reducible exact frG_none | with_reducible refine frG_some ?_ | with_reducible refine frG_b2 ?_ (fun _ _ _ => ?_) | with_reducible refine frG_b3 ?_ (fun _ _ _ _ => ?_) | with_reducible refine frG_bd (fun _ => ?_) | with_reducible refine frG_glm ?_ (fun _ _ => ?_) | with_reducible refine frG_gl (fun _ => ?_) | with_reducible refine frG_ite ?_ ?_ | with_reducible refine frm_set ?_ (by assumption) | with_reducible refine frm_sl ?_ (by assumption) | with_reducible refine frm_fill ?_ (by assumption) | with_reducible refine frm_tx8 ?_ (by assumption) (by assumption) (by assumption) | intro _)

theorem fr_X2_hasLine_J16 {S : Nat → Bool}  {al : Nat → Nat → Bool} {N : Nat}   {X0 X : gM}  (hX : frm S X0 X) : frG g2 S X0 (X2_hasLine_J16 al N X) := by
  rw [X2_hasLine_J16]
  repeat' (first | with_reducible assumption | with_reducible exact frG_none | with_reducible refine frG_some ?_ | with_reducible refine fr_X2_hasLine_J17   ?_ | with_reducible refine frG_b2 ?_ (fun _ _ _ => ?_) | with_reducible refine frG_b3 ?_ (fun _ _ _ _ => ?_) | with_reducible refine frG_bd (fun _ => ?_) | with_reducible refine frG_glm ?_ (fun _ _ => ?_) | with_reducible refine frG_gl (fun _ => ?_) | with_reducible refine frG_ite ?_ ?_ | with_reducible refine frm_set ?_ (by assumption) | with_reducible refine frm_sl ?_ (by assumption) | with_reducible refine frm_fill ?_ (by assumption) | with_reducible refine frm_tx8 ?_ (by assumption) (by assumption) (by assumption) | intro _)

theorem fr_X2_hasLine {S : Nat → Bool}  {al : Nat → Nat → Bool} {N : Nat} {p0 : Nat} {p1 : Int32}  {X0 X : gM}  (hX : frm S X0 X) : frG g2 S X0 (X2_hasLine al N p0 p1 X) := by
  rw [X2_hasLine]
  repeat' (first | with_reducible assumption | with_reducible exact frG_none | with_reducible refine frG_some ?_ | with_reducible refine fr_X2_hasLine_J16   ?_ | with_reducible refine fr_X2_hasLine_J17   ?_ | with_reducible refine frG_b2 ?_ (fun _ _ _ => ?_) | with_reducible refine frG_b3 ?_ (fun _ _ _ _ => ?_) | with_reducible refine frG_bd (fun _ => ?_) | with_reducible refine frG_glm ?_ (fun _ _ => ?_) | with_reducible refine frG_gl (fun _ => ?_) | with_reducible refine frG_ite ?_ ?_ | with_reducible refine frm_set ?_ (by assumption) | with_reducible refine frm_sl ?_ (by assumption) | with_reducible refine frm_fill ?_ (by assumption) | with_reducible refine frm_tx8 ?_ (by assumption) (by assumption) (by assumption) | intro _)

theorem fr_X2_cellAt_J20 {S : Nat → Bool}  {al : Nat → Nat → Bool} {N : Nat}   {X0 X : gM}  (hX : frm S X0 X) : frG g2 S X0 (X2_cellAt_J20 al N X) := by
  rw [X2_cellAt_J20]
  repeat' (first | with_reducible assumption | with_reducible exact frG_none | with_reducible refine frG_some ?_ | with_reducible refine frG_b2 ?_ (fun _ _ _ => ?_) | with_reducible refine frG_b3 ?_ (fun _ _ _ _ => ?_) | with_reducible refine frG_bd (fun _ => ?_) | with_reducible refine frG_glm ?_ (fun _ _ => ?_) | with_reducible refine frG_gl (fun _ => ?_) | with_reducible refine frG_ite ?_ ?_ | with_reducible refine frm_set ?_ (by assumption) | with_reducible refine frm_sl ?_ (by assumption) | with_reducible refine frm_fill ?_ (by assumption) | with_reducible refine frm_tx8 ?_ (by assumption) (by assumption) (by assumption) | intro _)

theorem fr_X2_cellAt {S : Nat → Bool}  {al : Nat → Nat → Bool} {N : Nat} {p0 : Nat} {p1 : Int32} {p2 : Int32}  {X0 X : gM}  (hX : frm S X0 X) : frG g2 S X0 (X2_cellAt al N p0 p1 p2 X) := by
  rw [X2_cellAt]
  repeat' (first | with_reducible assumption | with_reducible exact frG_none | with_reducible refine frG_some ?_ | with_reducible refine fr_X2_hasLine   ?_ | with_reducible refine fr_X2_cellAt_J20   ?_ | with_reducible refine frG_b2 ?_ (fun _ _ _ => ?_) | with_reducible refine frG_b3 ?_ (fun _ _ _ _ => ?_) | with_reducible refine frG_bd (fun _ => ?_) | with_reducible refine frG_glm ?_ (fun _ _ => ?_) | with_reducible refine frG_gl (fun _ => ?_) | with_reducible refine frG_ite ?_ ?_ | with_reducible refine frm_set ?_ (by assumption) | with_reducible refine frm_sl ?_ (by assumption) | with_reducible refine frm_fill ?_ (by assumption) | with_reducible refine frm_tx8 ?_ (by assumption) (by assumption) (by assumption) | intro _)

theorem fr_X2_measureAll_J40 {S : Nat → Bool}  {al : Nat → Nat → Bool} {N : Nat}   {X0 X : gM}  (hX : frm S X0 X) : frG g2 S X0 (X2_measureAll_J40 al N X) := by
  rw [X2_measureAll_J40]
  repeat' (first | with_reducible assumption | with_reducible exact frG_none | with_reducible refine frG_some ?_ | with_reducible refine frG_b2 ?_ (fun _ _ _ => ?_) | with_reducible refine frG_b3 ?_ (fun _ _ _ _ => ?_) | with_reducible refine frG_bd (fun _ => ?_) | with_reducible refine frG_glm ?_ (fun _ _ => ?_) | with_reducible refine frG_gl (fun _ => ?_) | with_reducible refine frG_ite ?_ ?_ | with_reducible refine frm_set ?_ (by assumption) | with_reducible refine frm_sl ?_ (by assumption) | with_reducible refine frm_fill ?_ (by assumption) | with_reducible refine frm_tx8 ?_ (by assumption) (by assumption) (by assumption) | intro _)

theorem fr_X2_measureAll_J34 {S : Nat → Bool}  {al : Nat → Nat → Bool} {N : Nat} {p2 : Nat} {p3 : Int32} {p4 : Int32} {kk : Nat → Int32 → Int32 → gM → Option (Int32 × gM)} {k40 : gM → Option (Int32 × gM)} {X0 X : gM} (hkk : ∀ (a0 : Nat) (a1 : Int32) (a2 : Int32) (Y : gM), frm S X0 Y → frG g2 S X0 (kk a0 a1 a2 Y)) (hk40 : ∀  (Y : gM), frm S X0 Y → frG g2 S X0 (k40  Y)) (hX : frm S X0 X) : frG g2 S X0 (X2_measureAll_J34 al N kk k40 p2 p3 p4 X) := by
  rw [X2_measureAll_J34]
  repeat' (first | with_reducible assumption | with_reducible exact frG_none | with_reducible refine frG_some ?_ | with_reducible refine hkk _ _ _ _ ?_ | with_reducible refine hk40 _ ?_ | with_reducible refine frG_b2 ?_ (fun _ _ _ => ?_) | with_reducible refine frG_b3 ?_ (fun _ _ _ _ => ?_) | with_reducible refine frG_bd (fun _ => ?_) | with_reducible refine frG_glm ?_ (fun _ _ => ?_) | with_reducible refine frG_gl (fun _ => ?_) | with_reducible refine frG_ite ?_ ?_ | with_reducible refine frm_set ?_ (by assumption) | with_reducible refine frm_sl ?_ (by assumption) | with_reducible refine frm_fill ?_ (by assumption) | with_reducible refine frm_tx8 ?_ (by assumption) (by assumption) (by assumption) | intro _)

theorem fr_X2_measureAll_L11 {S : Nat → Bool} (h7 : S 7 = true) {al : Nat → Nat → Bool} {N : Nat}  {k40 : gM → Option (Int32 × gM)} {X0 : gM} (hk40 : ∀  (Y : gM), frm S X0 Y → frG g2 S X0 (k40  Y)) : ∀ (n : Nat) (a1 : Nat) (a2 : Int32) (a3 : Int32) (X : gM), frm S X0 X → frG g2 S X0 (X2_measureAll_L11 al N k40 n a1 a2 a3 X) := by
  intro n
  induction n with
  | zero =>
    intro a1 a2 a3 X hX
    rw [X2_measureAll_L11]
    exact frG_none
  | succ n ih =>
    intro a1 a2 a3 X hX
    rw [X2_measureAll_L11]
    repeat' (first | with_reducible assumption | with_reducible exact frG_none | with_reducible refine frG_some ?_ | with_reducible refine fr_X2_measureAll_J34  ?_ ?_ ?_ | with_reducible refine fr_X0_measure h7  ?_ | with_reducible refine hk40 _ ?_ | with_reducible refine ih _ _ _ _ ?_ | with_reducible refine frG_b2 ?_ (fun _ _ _ => ?_) | with_reducible refine frG_b3 ?_ (fun _ _ _ _ => ?_) | with_reducible refine frG_bd (fun _ => ?_) | with_reducible refine frG_glm ?_ (fun _ _ => ?_) | with_reducible refine frG_gl (fun _ => ?_) | with_reducible refine frG_ite ?_ ?_ | with_reducible refine frm_set ?_ (by assumption) | with_reducible refine frm_sl ?_ (by assumption) | with_reducible refine frm_fill ?_ (by assumption) | with_reducible refine frm_tx8 ?_ (by assumption) (by assumption) (by assumption) | intro _)

theorem fr_X2_measureAll {S : Nat → Bool} (h7 : S 7 = true) {al : Nat → Nat → Bool} {N : Nat} {p0 : Nat}  {X0 X : gM}  (hX : frm S X0 X) : frG g2 S X0 (X2_measureAll al N p0 X) := by
  rw [X2_measureAll]
  repeat' (first | with_reducible assumption | with_reducible exact frG_none | with_reducible refine frG_some ?_ | with_reducible refine fr_X2_measureAll_L11 h7 ?_ _ _ _ _ _ ?_ | with_reducible refine fr_X2_measureAll_J40   ?_ | with_reducible refine frG_b2 ?_ (fun _ _ _ => ?_) | with_reducible refine frG_b3 ?_ (fun _ _ _ _ => ?_) | with_reducible refine frG_bd (fun _ => ?_) | with_reducible refine frG_glm ?_ (fun _ _ => ?_) | with_reducible refine frG_gl (fun _ => ?_) | with_reducible refine frG_ite ?_ ?_ | with_reducible refine frm_set ?_ (by assumption) | with_reducible refine frm_sl ?_ (by assumption) | with_reducible refine frm_fill ?_ (by assumption) | with_reducible refine frm_tx8 ?_ (by assumption) (by assumption) (by assumption) | intro _)

theorem fr_X2_mixedCells_J47 {S : Nat → Bool}  {al : Nat → Nat → Bool} {N : Nat} {p1 : Int32}  {X0 X : gM}  (hX : frm S X0 X) : frG g2 S X0 (X2_mixedCells_J47 al N p1 X) := by
  rw [X2_mixedCells_J47]
  repeat' (first | with_reducible assumption | with_reducible exact frG_none | with_reducible refine frG_some ?_ | with_reducible refine frG_b2 ?_ (fun _ _ _ => ?_) | with_reducible refine frG_b3 ?_ (fun _ _ _ _ => ?_) | with_reducible refine frG_bd (fun _ => ?_) | with_reducible refine frG_glm ?_ (fun _ _ => ?_) | with_reducible refine frG_gl (fun _ => ?_) | with_reducible refine frG_ite ?_ ?_ | with_reducible refine frm_set ?_ (by assumption) | with_reducible refine frm_sl ?_ (by assumption) | with_reducible refine frm_fill ?_ (by assumption) | with_reducible refine frm_tx8 ?_ (by assumption) (by assumption) (by assumption) | intro _)

theorem fr_X2_mixedCells_J41 {S : Nat → Bool}  {al : Nat → Nat → Bool} {N : Nat} {p1 : Int32} {p2 : Nat} {p3 : Int32} {p4 : Int32} {kk : Int32 → Nat → Int32 → Int32 → gM → Option (Int32 × gM)} {k47 : Int32 → gM → Option (Int32 × gM)} {X0 X : gM} (hkk : ∀ (a0 : Int32) (a1 : Nat) (a2 : Int32) (a3 : Int32) (Y : gM), frm S X0 Y → frG g2 S X0 (kk a0 a1 a2 a3 Y)) (hk47 : ∀ (a0 : Int32) (Y : gM), frm S X0 Y → frG g2 S X0 (k47 a0 Y)) (hX : frm S X0 X) : frG g2 S X0 (X2_mixedCells_J41 al N kk k47 p1 p2 p3 p4 X) := by
  rw [X2_mixedCells_J41]
  repeat' (first | with_reducible assumption | with_reducible exact frG_none | with_reducible refine frG_some ?_ | with_reducible refine hkk _ _ _ _ _ ?_ | with_reducible refine hk47 _ _ ?_ | with_reducible refine frG_b2 ?_ (fun _ _ _ => ?_) | with_reducible refine frG_b3 ?_ (fun _ _ _ _ => ?_) | with_reducible refine frG_bd (fun _ => ?_) | with_reducible refine frG_glm ?_ (fun _ _ => ?_) | with_reducible refine frG_gl (fun _ => ?_) | with_reducible refine frG_ite ?_ ?_ | with_reducible refine frm_set ?_ (by assumption) | with_reducible refine frm_sl ?_ (by assumption) | with_reducible refine frm_fill ?_ (by assumption) | with_reducible refine frm_tx8 ?_ (by assumption) (by assumption) (by assumption) | intro _)

theorem fr_X2_mixedCells_L13 {S : Nat → Bool}  {al : Nat → Nat → Bool} {N : Nat}  {k47 : Int32 → gM → Option (Int32 × gM)} {X0 : gM} (hk47 : ∀ (a0 : Int32) (Y : gM), frm S X0 Y → frG g2 S X0 (k47 a0 Y)) : ∀ (n : Nat) (a1 : Int32) (a2 : Nat) (a3 : Int32) (a4 : Int32) (X : gM), frm S X0 X → frG g2 S X0 (X2_mixedCells_L13 al N k47 n a1 a2 a3 a4 X) := by
  intro n
  induction n with
  | zero =>
    intro a1 a2 a3 a4 X hX
    rw [X2_mixedCells_L13]
    exact frG_none
  | succ n ih =>
    intro a1 a2 a3 a4 X hX
    rw [X2_mixedCells_L13]
    repeat' (first | with_reducible assumption | with_reducible exact frG_none | with_reducible refine frG_some ?_ | with_reducible refine fr_X2_mixedCells_J41  ?_ ?_ ?_ | with_reducible refine fr_X0_isUnmixed   ?_ | with_reducible refine hk47 _ _ ?_ | with_reducible refine ih _ _ _ _ _ ?_ | with_reducible refine frG_b2 ?_ (fun _ _ _ => ?_) | with_reducible refine frG_b3 ?_ (fun _ _ _ _ => ?_) | with_reducible refine frG_bd (fun _ => ?_) | with_reducible refine frG_glm ?_ (fun _ _ => ?_) | with_reducible refine frG_gl (fun _ => ?_) | with_reducible refine frG_ite ?_ ?_ | with_reducible refine frm_set ?_ (by assumption) | with_reducible refine frm_sl ?_ (by assumption) | with_reducible refine frm_fill ?_ (by assumption) | with_reducible refine frm_tx8 ?_ (by assumption) (by assumption) (by assumption) | intro _)

theorem fr_X2_mixedCells {S : Nat → Bool}  {al : Nat → Nat → Bool} {N : Nat} {p0 : Nat}  {X0 X : gM}  (hX : frm S X0 X) : frG g2 S X0 (X2_mixedCells al N p0 X) := by
  rw [X2_mixedCells]
  repeat' (first | with_reducible assumption | with_reducible exact frG_none | with_reducible refine frG_some ?_ | with_reducible refine fr_X2_mixedCells_L13  ?_ _ _ _ _ _ _ ?_ | with_reducible refine fr_X2_mixedCells_J47   ?_ | with_reducible refine frG_b2 ?_ (fun _ _ _ => ?_) | with_reducible refine frG_b3 ?_ (fun _ _ _ _ => ?_) | with_reducible refine frG_bd (fun _ => ?_) | with_reducible refine frG_glm ?_ (fun _ _ => ?_) | with_reducible refine frG_gl (fun _ => ?_) | with_reducible refine frG_ite ?_ ?_ | with_reducible refine frm_set ?_ (by assumption) | with_reducible refine frm_sl ?_ (by assumption) | with_reducible refine frm_fill ?_ (by assumption) | with_reducible refine frm_tx8 ?_ (by assumption) (by assumption) (by assumption) | intro _)

theorem fr_X2_isAlike_J64 {S : Nat → Bool}  {al : Nat → Nat → Bool} {N : Nat} {s0 : Int32}  {X0 X : gM}  (hX : frm S X0 X) : frG g2 S X0 (X2_isAlike_J64 al N s0 X) := by
  rw [X2_isAlike_J64]
  repeat' (first | with_reducible assumption | with_reducible exact frG_none | with_reducible refine frG_some ?_ | with_reducible refine frG_b2 ?_ (fun _ _ _ => ?_) | with_reducible refine frG_b3 ?_ (fun _ _ _ _ => ?_) | with_reducible refine frG_bd (fun _ => ?_) | with_reducible refine frG_glm ?_ (fun _ _ => ?_) | with_reducible refine frG_gl (fun _ => ?_) | with_reducible refine frG_ite ?_ ?_ | with_reducible refine frm_set ?_ (by assumption) | with_reducible refine frm_sl ?_ (by assumption) | with_reducible refine frm_fill ?_ (by assumption) | with_reducible refine frm_tx8 ?_ (by assumption) (by assumption) (by assumption) | intro _)

theorem fr_X2_isAlike {S : Nat → Bool}  {al : Nat → Nat → Bool} {N : Nat} {p0 : Nat} {p1 : Nat}  {X0 X : gM}  (hX : frm S X0 X) : frG g2 S X0 (X2_isAlike al N p0 p1 X) := by
  rw [X2_isAlike]
  repeat' (first | with_reducible assumption | with_reducible exact frG_none | with_reducible refine frG_some ?_ | with_reducible refine fr_X2_isAlike_J64   ?_ | with_reducible refine frG_b2 ?_ (fun _ _ _ => ?_) | with_reducible refine frG_b3 ?_ (fun _ _ _ _ => ?_) | with_reducible refine frG_bd (fun _ => ?_) | with_reducible refine frG_glm ?_ (fun _ _ => ?_) | with_reducible refine frG_gl (fun _ => ?_) | with_reducible refine frG_ite ?_ ?_ | with_reducible refine frm_set ?_ (by assumption) | with_reducible refine frm_sl ?_ (by assumption) | with_reducible refine frm_fill ?_ (by assumption) | with_reducible refine frm_tx8 ?_ (by assumption) (by assumption) (by assumption) | intro _)

theorem fr_X2_isUnlikeFront_J32 {S : Nat → Bool}  {al : Nat → Nat → Bool} {N : Nat} {s0 : Int32}  {X0 X : gM}  (hX : frm S X0 X) : frG g2 S X0 (X2_isUnlikeFront_J32 al N s0 X) := by
  rw [X2_isUnlikeFront_J32]
  repeat' (first | with_reducible assumption | with_reducible exact frG_none | with_reducible refine frG_some ?_ | with_reducible refine frG_b2 ?_ (fun _ _ _ => ?_) | with_reducible refine frG_b3 ?_ (fun _ _ _ _ => ?_) | with_reducible refine frG_bd (fun _ => ?_) | with_reducible refine frG_glm ?_ (fun _ _ => ?_) | with_reducible refine frG_gl (fun _ => ?_) | with_reducible refine frG_ite ?_ ?_ | with_reducible refine frm_set ?_ (by assumption) | with_reducible refine frm_sl ?_ (by assumption) | with_reducible refine frm_fill ?_ (by assumption) | with_reducible refine frm_tx8 ?_ (by assumption) (by assumption) (by assumption) | intro _)

theorem fr_X2_isUnlikeFront_J27 {S : Nat → Bool}  {al : Nat → Nat → Bool} {N : Nat}   {X0 X : gM}  (hX : frm S X0 X) : frG g2 S X0 (X2_isUnlikeFront_J27 al N X) := by
  rw [X2_isUnlikeFront_J27]
  repeat' (first | with_reducible assumption | with_reducible exact frG_none | with_reducible refine frG_some ?_ | with_reducible refine fr_X2_isUnlikeFront_J32   ?_ | with_reducible refine frG_b2 ?_ (fun _ _ _ => ?_) | with_reducible refine frG_b3 ?_ (fun _ _ _ _ => ?_) | with_reducible refine frG_bd (fun _ => ?_) | with_reducible refine frG_glm ?_ (fun _ _ => ?_) | with_reducible refine frG_gl (fun _ => ?_) | with_reducible refine frG_ite ?_ ?_ | with_reducible refine frm_set ?_ (by assumption) | with_reducible refine frm_sl ?_ (by assumption) | with_reducible refine frm_fill ?_ (by assumption) | with_reducible refine frm_tx8 ?_ (by assumption) (by assumption) (by assumption) | intro _)

theorem fr_X2_isUnlikeFront {S : Nat → Bool}  {al : Nat → Nat → Bool} {N : Nat} {p0 : Nat} {p1 : Nat}  {X0 X : gM}  (hX : frm S X0 X) : frG g2 S X0 (X2_isUnlikeFront al N p0 p1 X) := by
  rw [X2_isUnlikeFront]
  repeat' (first | with_reducible assumption | with_reducible exact frG_none | with_reducible refine frG_some ?_ | with_reducible refine fr_X2_isUnlikeFront_J27   ?_ | with_reducible refine fr_X2_isUnlikeFront_J32   ?_ | with_reducible refine frG_b2 ?_ (fun _ _ _ => ?_) | with_reducible refine frG_b3 ?_ (fun _ _ _ _ => ?_) | with_reducible refine frG_bd (fun _ => ?_) | with_reducible refine frG_glm ?_ (fun _ _ => ?_) | with_reducible refine frG_gl (fun _ => ?_) | with_reducible refine frG_ite ?_ ?_ | with_reducible refine frm_set ?_ (by assumption) | with_reducible refine frm_sl ?_ (by assumption) | with_reducible refine frm_fill ?_ (by assumption) | with_reducible refine frm_tx8 ?_ (by assumption) (by assumption) (by assumption) | intro _)

theorem fr_X8_isSame_J46 {S : Nat → Bool}  {al : Nat → Nat → Bool} {N : Nat}   {X0 X : gM}  (hX : frm S X0 X) : frG g2 S X0 (X8_isSame_J46 al N X) := by
  rw [X8_isSame_J46]
  repeat' (first | with_reducible assumption | with_reducible exact frG_none | with_reducible refine frG_some ?_ | with_reducible refine frG_b2 ?_ (fun _ _ _ => ?_) | with_reducible refine frG_b3 ?_ (fun _ _ _ _ => ?_) | with_reducible refine frG_bd (fun _ => ?_) | with_reducible refine frG_glm ?_ (fun _ _ => ?_) | with_reducible refine frG_gl (fun _ => ?_) | with_reducible refine frG_ite ?_ ?_ | with_reducible refine frm_set ?_ (by assumption) | with_reducible refine frm_sl ?_ (by assumption) | with_reducible refine frm_fill ?_ (by assumption) | with_reducible refine frm_tx8 ?_ (by assumption) (by assumption) (by assumption) | intro _)

theorem fr_X8_isSame_J38 {S : Nat → Bool}  {al : Nat → Nat → Bool} {N : Nat}   {X0 X : gM}  (hX : frm S X0 X) : frG g2 S X0 (X8_isSame_J38 al N X) := by
  rw [X8_isSame_J38]
  repeat' (first | with_reducible assumption | with_reducible exact frG_none | with_reducible refine frG_some ?_ | with_reducible refine frG_b2 ?_ (fun _ _ _ => ?_) | with_reducible refine frG_b3 ?_ (fun _ _ _ _ => ?_) | with_reducible refine frG_bd (fun _ => ?_) | with_reducible refine frG_glm ?_ (fun _ _ => ?_) | with_reducible refine frG_gl (fun _ => ?_) | with_reducible refine frG_ite ?_ ?_ | with_reducible refine frm_set ?_ (by assumption) | with_reducible refine frm_sl ?_ (by assumption) | with_reducible refine frm_fill ?_ (by assumption) | with_reducible refine frm_tx8 ?_ (by assumption) (by assumption) (by assumption) | intro _)

theorem fr_X8_isSame_L18 {S : Nat → Bool}  {al : Nat → Nat → Bool} {N : Nat}  {k38 : gM → Option (Int32 × gM)} {k46 : gM → Option (Int32 × gM)} {X0 : gM} (hk38 : ∀  (Y : gM), frm S X0 Y → frG g2 S X0 (k38  Y)) (hk46 : ∀  (Y : gM), frm S X0 Y → frG g2 S X0 (k46  Y)) : ∀ (n : Nat) (a1 : Nat) (a2 : Int32) (X : gM), frm S X0 X → frG g2 S X0 (X8_isSame_L18 al N k38 k46 n a1 a2 X) := by
  intro n
  induction n with
  | zero =>
    intro a1 a2 X hX
    rw [X8_isSame_L18]
    exact frG_none
  | succ n ih =>
    intro a1 a2 X hX
    rw [X8_isSame_L18]
    repeat' (first | with_reducible assumption | with_reducible exact frG_none | with_reducible refine frG_some ?_ | with_reducible refine hk38 _ ?_ | with_reducible refine hk46 _ ?_ | with_reducible refine ih _ _ _ ?_ | with_reducible refine frG_b2 ?_ (fun _ _ _ => ?_) | with_reducible refine frG_b3 ?_ (fun _ _ _ _ => ?_) | with_reducible refine frG_bd (fun _ => ?_) | with_reducible refine frG_glm ?_ (fun _ _ => ?_) | with_reducible refine frG_gl (fun _ => ?_) | with_reducible refine frG_ite ?_ ?_ | with_reducible refine frm_set ?_ (by assumption) | with_reducible refine frm_sl ?_ (by assumption) | with_reducible refine frm_fill ?_ (by assumption) | with_reducible refine frm_tx8 ?_ (by assumption) (by assumption) (by assumption) | intro _)

theorem fr_X8_isSame_J14 {S : Nat → Bool}  {al : Nat → Nat → Bool} {N : Nat}   {X0 X : gM}  (hX : frm S X0 X) : frG g2 S X0 (X8_isSame_J14 al N X) := by
  rw [X8_isSame_J14]
  repeat' (first | with_reducible assumption | with_reducible exact frG_none | with_reducible refine frG_some ?_ | with_reducible refine frG_b2 ?_ (fun _ _ _ => ?_) | with_reducible refine frG_b3 ?_ (fun _ _ _ _ => ?_) | with_reducible refine frG_bd (fun _ => ?_) | with_reducible refine frG_glm ?_ (fun _ _ => ?_) | with_reducible refine frG_gl (fun _ => ?_) | with_reducible refine frG_ite ?_ ?_ | with_reducible refine frm_set ?_ (by assumption) | with_reducible refine frm_sl ?_ (by assumption) | with_reducible refine frm_fill ?_ (by assumption) | with_reducible refine frm_tx8 ?_ (by assumption) (by assumption) (by assumption) | intro _)

theorem fr_X8_isSame {S : Nat → Bool}  {al : Nat → Nat → Bool} {N : Nat} {p0 : Nat} {p2 : Int32}  {X0 X : gM}  (hX : frm S X0 X) : frG g2 S X0 (X8_isSame al N p0 p2 X) := by
  rw [X8_isSame]
  repeat' (first | with_reducible assumption | with_reducible exact frG_none | with_reducible refine frG_some ?_ | with_reducible refine fr_X8_isSame_L18  ?_ ?_ _ _ _ _ ?_ | with_reducible refine fr_X8_isSame_J38   ?_ | with_reducible refine fr_X8_isSame_J46   ?_ | with_reducible refine fr_X8_isSame_J14   ?_ | with_reducible refine frG_b2 ?_ (fun _ _ _ => ?_) | with_reducible refine frG_b3 ?_ (fun _ _ _ _ => ?_) | with_reducible refine frG_bd (fun _ => ?_) | with_reducible refine frG_glm ?_ (fun _ _ => ?_) | with_reducible refine frG_gl (fun _ => ?_) | with_reducible refine frG_ite ?_ ?_ | with_reducible refine frm_set ?_ (by assumption) | with_reducible refine frm_sl ?_ (by assumption) | with_reducible refine frm_fill ?_ (by assumption) | with_reducible refine frm_tx8 ?_ (by assumption) (by assumption) (by assumption) | intro _)

theorem fr_X6_bestWeight {S : Nat → Bool}  {al : Nat → Nat → Bool} {N : Nat}   {X0 X : gM}  (hX : frm S X0 X) : frG g2 S X0 (X6_bestWeight al N X) := by
  rw [X6_bestWeight]
  repeat' (first | with_reducible assumption | with_reducible exact frG_none | with_reducible refine frG_some ?_ | with_reducible refine frG_b2 ?_ (fun _ _ _ => ?_) | with_reducible refine frG_b3 ?_ (fun _ _ _ _ => ?_) | with_reducible refine frG_bd (fun _ => ?_) | with_reducible refine frG_glm ?_ (fun _ _ => ?_) | with_reducible refine frG_gl (fun _ => ?_) | with_reducible refine frG_ite ?_ ?_ | with_reducible refine frm_set ?_ (by assumption) | with_reducible refine frm_sl ?_ (by assumption) | with_reducible refine frm_fill ?_ (by assumption) | with_reducible refine frm_tx8 ?_ (by assumption) (by assumption) (by assumption) | intro _)

theorem fr_X6_bestCount {S : Nat → Bool}  {al : Nat → Nat → Bool} {N : Nat}   {X0 X : gM}  (hX : frm S X0 X) : frG g2 S X0 (X6_bestCount al N X) := by
  rw [X6_bestCount]
  repeat' (first | with_reducible assumption | with_reducible exact frG_none | with_reducible refine frG_some ?_ | with_reducible refine frG_b2 ?_ (fun _ _ _ => ?_) | with_reducible refine frG_b3 ?_ (fun _ _ _ _ => ?_) | with_reducible refine frG_bd (fun _ => ?_) | with_reducible refine frG_glm ?_ (fun _ _ => ?_) | with_reducible refine frG_gl (fun _ => ?_) | with_reducible refine frG_ite ?_ ?_ | with_reducible refine frm_set ?_ (by assumption) | with_reducible refine frm_sl ?_ (by assumption) | with_reducible refine frm_fill ?_ (by assumption) | with_reducible refine frm_tx8 ?_ (by assumption) (by assumption) (by assumption) | intro _)

theorem fr_X6_firstLetter_J22 {S : Nat → Bool}  {al : Nat → Nat → Bool} {N : Nat}   {X0 X : gM}  (hX : frm S X0 X) : frG g2 S X0 (X6_firstLetter_J22 al N X) := by
  rw [X6_firstLetter_J22]
  repeat' (first | with_reducible assumption | with_reducible exact frG_none | with_reducible refine frG_some ?_ | with_reducible refine frG_b2 ?_ (fun _ _ _ => ?_) | with_reducible refine frG_b3 ?_ (fun _ _ _ _ => ?_) | with_reducible refine frG_bd (fun _ => ?_) | with_reducible refine frG_glm ?_ (fun _ _ => ?_) | with_reducible refine frG_gl (fun _ => ?_) | with_reducible refine frG_ite ?_ ?_ | with_reducible refine frm_set ?_ (by assumption) | with_reducible refine frm_sl ?_ (by assumption) | with_reducible refine frm_fill ?_ (by assumption) | with_reducible refine frm_tx8 ?_ (by assumption) (by assumption) (by assumption) | intro _)

theorem fr_X6_firstLetter {S : Nat → Bool}  {al : Nat → Nat → Bool} {N : Nat} {p1 : Int32}  {X0 X : gM}  (hX : frm S X0 X) : frG g2 S X0 (X6_firstLetter al N p1 X) := by
  rw [X6_firstLetter]
  repeat' (first | with_reducible assumption | with_reducible exact frG_none | with_reducible refine frG_some ?_ | with_reducible refine fr_X6_firstLetter_J22   ?_ | with_reducible refine frG_b2 ?_ (fun _ _ _ => ?_) | with_reducible refine frG_b3 ?_ (fun _ _ _ _ => ?_) | with_reducible refine frG_bd (fun _ => ?_) | with_reducible refine frG_glm ?_ (fun _ _ => ?_) | with_reducible refine frG_gl (fun _ => ?_) | with_reducible refine frG_ite ?_ ?_ | with_reducible refine frm_set ?_ (by assumption) | with_reducible refine frm_sl ?_ (by assumption) | with_reducible refine frm_fill ?_ (by assumption) | with_reducible refine frm_tx8 ?_ (by assumption) (by assumption) (by assumption) | intro _)

theorem fr_X6_load_J125 {S : Nat → Bool}  {al : Nat → Nat → Bool} {N : Nat}   {X0 X : gM}  (hX : frm S X0 X) : frG g2 S X0 (X6_load_J125 al N X) := by
  rw [X6_load_J125]
  repeat' (first | with_reducible assumption | with_reducible exact frG_none | with_reducible refine frG_some ?_ | with_reducible refine frG_b2 ?_ (fun _ _ _ => ?_) | with_reducible refine frG_b3 ?_ (fun _ _ _ _ => ?_) | with_reducible refine frG_bd (fun _ => ?_) | with_reducible refine frG_glm ?_ (fun _ _ => ?_) | with_reducible refine frG_gl (fun _ => ?_) | with_reducible refine frG_ite ?_ ?_ | with_reducible refine frm_set ?_ (by assumption) | with_reducible refine frm_sl ?_ (by assumption) | with_reducible refine frm_fill ?_ (by assumption) | with_reducible refine frm_tx8 ?_ (by assumption) (by assumption) (by assumption) | intro _)

theorem fr_X6_load_J119 {S : Nat → Bool}  {al : Nat → Nat → Bool} {N : Nat} {p2 : Int32} {p4 : Int32} {p5 : Int32} {kk : Int32 → Int32 → Int32 → gM → Option (Int32 × gM)} {k125 : gM → Option (Int32 × gM)} {X0 X : gM} (hkk : ∀ (a0 : Int32) (a1 : Int32) (a2 : Int32) (Y : gM), frm S X0 Y → frG g2 S X0 (kk a0 a1 a2 Y)) (hk125 : ∀  (Y : gM), frm S X0 Y → frG g2 S X0 (k125  Y)) (hX : frm S X0 X) : frG g2 S X0 (X6_load_J119 al N kk k125 p2 p4 p5 X) := by
  rw [X6_load_J119]
  repeat' (first | with_reducible assumption | with_reducible exact frG_none | with_reducible refine frG_some ?_ | with_reducible refine hkk _ _ _ _ ?_ | with_reducible refine hk125 _ ?_ | with_reducible refine frG_b2 ?_ (fun _ _ _ => ?_) | with_reducible refine frG_b3 ?_ (fun _ _ _ _ => ?_) | with_reducible refine frG_bd (fun _ => ?_) | with_reducible refine frG_glm ?_ (fun _ _ => ?_) | with_reducible refine frG_gl (fun _ => ?_) | with_reducible refine frG_ite ?_ ?_ | with_reducible refine frm_set ?_ (by assumption) | with_reducible refine frm_sl ?_ (by assumption) | with_reducible refine frm_fill ?_ (by assumption) | with_reducible refine frm_tx8 ?_ (by assumption) (by assumption) (by assumption) | intro _)

theorem fr_X6_load_L89 {S : Nat → Bool} (h31 : S 31 = true) {al : Nat → Nat → Bool} {N : Nat}  {k125 : gM → Option (Int32 × gM)} {X0 : gM} (hk125 : ∀  (Y : gM), frm S X0 Y → frG g2 S X0 (k125  Y)) : ∀ (n : Nat) (a1 : Int32) (a2 : Int32) (a3 : Int32) (X : gM), frm S X0 X → frG g2 S X0 (X6_load_L89 al N k125 n a1 a2 a3 X) := by
  intro n
  induction n with
  | zero =>
    intro a1 a2 a3 X hX
    rw [X6_load_L89]
    exact frG_none
  | succ n ih =>
    intro a1 a2 a3 X hX
    rw [X6_load_L89]
    repeat' (first | with_reducible assumption | with_reducible exact frG_none | with_reducible refine frG_some ?_ | with_reducible refine fr_X6_load_J119  ?_ ?_ ?_ | with_reducible refine hk125 _ ?_ | with_reducible refine ih _ _ _ _ ?_ | with_reducible refine frG_b2 ?_ (fun _ _ _ => ?_) | with_reducible refine frG_b3 ?_ (fun _ _ _ _ => ?_) | with_reducible refine frG_bd (fun _ => ?_) | with_reducible refine frG_glm ?_ (fun _ _ => ?_) | with_reducible refine frG_gl (fun _ => ?_) | with_reducible refine frG_ite ?_ ?_ | with_reducible refine frm_set ?_ (by assumption) | with_reducible refine frm_sl ?_ (by assumption) | with_reducible refine frm_fill ?_ (by assumption) | with_reducible refine frm_tx8 ?_ (by assumption) (by assumption) (by assumption) | intro _)

theorem fr_X6_load_J86 {S : Nat → Bool} (h31 : S 31 = true) {al : Nat → Nat → Bool} {N : Nat} {p2 : Int32} {p4 : Int32}  {X0 X : gM}  (hX : frm S X0 X) : frG g2 S X0 (X6_load_J86 al N p2 p4 X) := by
  rw [X6_load_J86]
  repeat' (first | with_reducible assumption | with_reducible exact frG_none | with_reducible refine frG_some ?_ | with_reducible refine fr_X6_load_L89 h31 ?_ _ _ _ _ _ ?_ | with_reducible refine fr_X6_load_J125   ?_ | with_reducible refine frG_b2 ?_ (fun _ _ _ => ?_) | with_reducible refine frG_b3 ?_ (fun _ _ _ _ => ?_) | with_reducible refine frG_bd (fun _ => ?_) | with_reducible refine frG_glm ?_ (fun _ _ => ?_) | with_reducible refine frG_gl (fun _ => ?_) | with_reducible refine frG_ite ?_ ?_ | with_reducible refine frm_set ?_ (by assumption) | with_reducible refine frm_sl ?_ (by assumption) | with_reducible refine frm_fill ?_ (by assumption) | with_reducible refine frm_tx8 ?_ (by assumption) (by assumption) (by assumption) | intro _)

theorem fr_X6_load_J80 {S : Nat → Bool}  {al : Nat → Nat → Bool} {N : Nat} {p1 : Int32} {p2 : Int32} {p3 : Int32} {p4 : Int32} {p5 : Int32} {kk : Int32 → Int32 → Int32 → Int32 → Int32 → gM → Option (Int32 × gM)} {k86 : Int32 → Int32 → gM → Option (Int32 × gM)} {X0 X : gM} (hkk : ∀ (a0 : Int32) (a1 : Int32) (a2 : Int32) (a3 : Int32) (a4 : Int32) (Y : gM), frm S X0 Y → frG g2 S X0 (kk a0 a1 a2 a3 a4 Y)) (hk86 : ∀ (a0 : Int32) (a1 : Int32) (Y : gM), frm S X0 Y → frG g2 S X0 (k86 a0 a1 Y)) (hX : frm S X0 X) : frG g2 S X0 (X6_load_J80 al N kk k86 p1 p2 p3 p4 p5 X) := by
  rw [X6_load_J80]
  repeat' (first | with_reducible assumption | with_reducible exact frG_none | with_reducible refine frG_some ?_ | with_reducible refine hkk _ _ _ _ _ _ ?_ | with_reducible refine hk86 _ _ _ ?_ | with_reducible refine frG_b2 ?_ (fun _ _ _ => ?_) | with_reducible refine frG_b3 ?_ (fun _ _ _ _ => ?_) | with_reducible refine frG_bd (fun _ => ?_) | with_reducible refine frG_glm ?_ (fun _ _ => ?_) | with_reducible refine frG_gl (fun _ => ?_) | with_reducible refine frG_ite ?_ ?_ | with_reducible refine frm_set ?_ (by assumption) | with_reducible refine frm_sl ?_ (by assumption) | with_reducible refine frm_fill ?_ (by assumption) | with_reducible refine frm_tx8 ?_ (by assumption) (by assumption) (by assumption) | intro _)

theorem fr_X6_load_L52 {S : Nat → Bool} (h32 : S 32 = true) {al : Nat → Nat → Bool} {N : Nat}  {k86 : Int32 → Int32 → gM → Option (Int32 × gM)} {X0 : gM} (hk86 : ∀ (a0 : Int32) (a1 : Int32) (Y : gM), frm S X0 Y → frG g2 S X0 (k86 a0 a1 Y)) : ∀ (n : Nat) (a1 : Int32) (a2 : Int32) (a3 : Int32) (a4 : Int32) (a5 : Int32) (X : gM), frm S X0 X → frG g2 S X0 (X6_load_L52 al N k86 n a1 a2 a3 a4 a5 X) := by
  intro n
  induction n with
  | zero =>
    intro a1 a2 a3 a4 a5 X hX
    rw [X6_load_L52]
    exact frG_none
  | succ n ih =>
    intro a1 a2 a3 a4 a5 X hX
    rw [X6_load_L52]
    repeat' (first | with_reducible assumption | with_reducible exact frG_none | with_reducible refine frG_some ?_ | with_reducible refine fr_X0_addTo h32  ?_ | with_reducible refine fr_X6_load_J80  ?_ ?_ ?_ | with_reducible refine hk86 _ _ _ ?_ | with_reducible refine ih _ _ _ _ _ _ ?_ | with_reducible refine frG_b2 ?_ (fun _ _ _ => ?_) | with_reducible refine frG_b3 ?_ (fun _ _ _ _ => ?_) | with_reducible refine frG_bd (fun _ => ?_) | with_reducible refine frG_glm ?_ (fun _ _ => ?_) | with_reducible refine frG_gl (fun _ => ?_) | with_reducible refine frG_ite ?_ ?_ | with_reducible refine frm_set ?_ (by assumption) | with_reducible refine frm_sl ?_ (by assumption) | with_reducible refine frm_fill ?_ (by assumption) | with_reducible refine frm_tx8 ?_ (by assumption) (by assumption) (by assumption) | intro _)

theorem fr_X6_load_J42 {S : Nat → Bool}  {al : Nat → Nat → Bool} {N : Nat}   {X0 X : gM}  (hX : frm S X0 X) : frG g2 S X0 (X6_load_J42 al N X) := by
  rw [X6_load_J42]
  repeat' (first | with_reducible assumption | with_reducible exact frG_none | with_reducible refine frG_some ?_ | with_reducible refine frG_b2 ?_ (fun _ _ _ => ?_) | with_reducible refine frG_b3 ?_ (fun _ _ _ _ => ?_) | with_reducible refine frG_bd (fun _ => ?_) | with_reducible refine frG_glm ?_ (fun _ _ => ?_) | with_reducible refine frG_gl (fun _ => ?_) | with_reducible refine frG_ite ?_ ?_ | with_reducible refine frm_set ?_ (by assumption) | with_reducible refine frm_sl ?_ (by assumption) | with_reducible refine frm_fill ?_ (by assumption) | with_reducible refine frm_tx8 ?_ (by assumption) (by assumption) (by assumption) | intro _)

theorem fr_X6_load_J21 {S : Nat → Bool} (h30 : S 30 = true) (h31 : S 31 = true) (h32 : S 32 = true) {al : Nat → Nat → Bool} {N : Nat} {p1 : Int32} {p2 : Int32} {p3 : Int32} {s1 : Int32} {s2 : Int32}  {X0 X : gM}  (hX : frm S X0 X) : frG g2 S X0 (X6_load_J21 al N p1 p2 p3 s1 s2 X) := by
  rw [X6_load_J21]
  repeat' (first | with_reducible assumption | with_reducible exact frG_none | with_reducible refine frG_some ?_ | with_reducible refine fr_X6_load_J42   ?_ | with_reducible refine fr_X6_load_L52 h32 ?_ _ _ _ _ _ _ _ ?_ | with_reducible refine fr_X6_load_J86 h31  ?_ | with_reducible refine frG_b2 ?_ (fun _ _ _ => ?_) | with_reducible refine frG_b3 ?_ (fun _ _ _ _ => ?_) | with_reducible refine frG_bd (fun _ => ?_) | with_reducible refine frG_glm ?_ (fun _ _ => ?_) | with_reducible refine frG_gl (fun _ => ?_) | with_reducible refine frG_ite ?_ ?_ | with_reducible refine frm_set ?_ (by assumption) | with_reducible refine frm_sl ?_ (by assumption) | with_reducible refine frm_fill ?_ (by assumption) | with_reducible refine frm_tx8 ?_ (by assumption) (by assumption) (by assumption) | intro _)

theorem fr_X6_load_J20 {S : Nat → Bool} (h30 : S 30 = true) (h31 : S 31 = true) (h32 : S 32 = true) {al : Nat → Nat → Bool} {N : Nat} {p1 : Int32} {p2 : Int32} {p3 : Int32} {s1 : Int32}  {X0 X : gM}  (hX : frm S X0 X) : frG g2 S X0 (X6_load_J20 al N p1 p2 p3 s1 X) := by
  rw [X6_load_J20]
  repeat' (first | with_reducible assumption | with_reducible exact frG_none | with_reducible refine frG_some ?_ | with_reducible refine fr_X6_load_J21 h30 h31 h32  ?_ | with_reducible refine frG_b2 ?_ (fun _ _ _ => ?_) | with_reducible refine frG_b3 ?_ (fun _ _ _ _ => ?_) | with_reducible refine frG_bd (fun _ => ?_) | with_reducible refine frG_glm ?_ (fun _ _ => ?_) | with_reducible refine frG_gl (fun _ => ?_) | with_reducible refine frG_ite ?_ ?_ | with_reducible refine frm_set ?_ (by assumption) | with_reducible refine frm_sl ?_ (by assumption) | with_reducible refine frm_fill ?_ (by assumption) | with_reducible refine frm_tx8 ?_ (by assumption) (by assumption) (by assumption) | intro _)

theorem fr_X6_load {S : Nat → Bool} (h30 : S 30 = true) (h31 : S 31 = true) (h32 : S 32 = true) {al : Nat → Nat → Bool} {N : Nat} {p1 : Int32} {p2 : Int32} {p3 : Int32}  {X0 X : gM}  (hX : frm S X0 X) : frG g2 S X0 (X6_load al N p1 p2 p3 X) := by
  rw [X6_load]
  repeat' (first | with_reducible assumption | with_reducible exact frG_none | with_reducible refine frG_some ?_ | with_reducible refine fr_X6_load_J20 h30 h31 h32  ?_ | with_reducible refine fr_X0_isBlank   ?_ | with_reducible refine fr_X6_load_J21 h30 h31 h32  ?_ | with_reducible refine frG_b2 ?_ (fun _ _ _ => ?_) | with_reducible refine frG_b3 ?_ (fun _ _ _ _ => ?_) | with_reducible refine frG_bd (fun _ => ?_) | with_reducible refine frG_glm ?_ (fun _ _ => ?_) | with_reducible refine frG_gl (fun _ => ?_) | with_reducible refine frG_ite ?_ ?_ | with_reducible refine frm_set ?_ (by assumption) | with_reducible refine frm_sl ?_ (by assumption) | with_reducible refine frm_fill ?_ (by assumption) | with_reducible refine frm_tx8 ?_ (by assumption) (by assumption) (by assumption) | intro _)

theorem fr_X6_fitOf_J99 {S : Nat → Bool}  {al : Nat → Nat → Bool} {N : Nat} {p3 : Int32}  {X0 X : gM}  (hX : frm S X0 X) : frG g2 S X0 (X6_fitOf_J99 al N p3 X) := by
  rw [X6_fitOf_J99]
  repeat' (first | with_reducible assumption | with_reducible exact frG_none | with_reducible refine frG_some ?_ | with_reducible refine frG_b2 ?_ (fun _ _ _ => ?_) | with_reducible refine frG_b3 ?_ (fun _ _ _ _ => ?_) | with_reducible refine frG_bd (fun _ => ?_) | with_reducible refine frG_glm ?_ (fun _ _ => ?_) | with_reducible refine frG_gl (fun _ => ?_) | with_reducible refine frG_ite ?_ ?_ | with_reducible refine frm_set ?_ (by assumption) | with_reducible refine frm_sl ?_ (by assumption) | with_reducible refine frm_fill ?_ (by assumption) | with_reducible refine frm_tx8 ?_ (by assumption) (by assumption) (by assumption) | intro _)

theorem fr_X6_fitOf_J88 {S : Nat → Bool}  {al : Nat → Nat → Bool} {N : Nat} {p1 : Int32} {p2 : Int32} {p3 : Int32} {p4 : Int32} {p6 : Int32} {kk : Int32 → Int32 → Int32 → Int32 → gM → Option (Int32 × gM)} {k49 : gM → Option (Int32 × gM)} {k86 : gM → Option (Int32 × gM)} {k99 : Int32 → gM → Option (Int32 × gM)} {X0 X : gM} (hkk : ∀ (a0 : Int32) (a1 : Int32) (a2 : Int32) (a3 : Int32) (Y : gM), frm S X0 Y → frG g2 S X0 (kk a0 a1 a2 a3 Y)) (hk49 : ∀  (Y : gM), frm S X0 Y → frG g2 S X0 (k49  Y)) (hk86 : ∀  (Y : gM), frm S X0 Y → frG g2 S X0 (k86  Y)) (hk99 : ∀ (a0 : Int32) (Y : gM), frm S X0 Y → frG g2 S X0 (k99 a0 Y)) (hX : frm S X0 X) : frG g2 S X0 (X6_fitOf_J88 al N kk k49 k86 k99 p1 p2 p3 p4 p6 X) := by
  rw [X6_fitOf_J88]
  repeat' (first | with_reducible assumption | with_reducible exact frG_none | with_reducible refine frG_some ?_ | with_reducible refine hkk _ _ _ _ _ ?_ | with_reducible refine hk49 _ ?_ | with_reducible refine hk86 _ ?_ | with_reducible refine hk99 _ _ ?_ | with_reducible refine frG_b2 ?_ (fun _ _ _ => ?_) | with_reducible refine frG_b3 ?_ (fun _ _ _ _ => ?_) | with_reducible refine frG_bd (fun _ => ?_) | with_reducible refine frG_glm ?_ (fun _ _ => ?_) | with_reducible refine frG_gl (fun _ => ?_) | with_reducible refine frG_ite ?_ ?_ | with_reducible refine frm_set ?_ (by assumption) | with_reducible refine frm_sl ?_ (by assumption) | with_reducible refine frm_fill ?_ (by assumption) | with_reducible refine frm_tx8 ?_ (by assumption) (by assumption) (by assumption) | intro _)

theorem fr_X6_fitOf_J86 {S : Nat → Bool}  {al : Nat → Nat → Bool} {N : Nat}   {X0 X : gM}  (hX : frm S X0 X) : frG g2 S X0 (X6_fitOf_J86 al N X) := by
  rw [X6_fitOf_J86]
  repeat' (first | with_reducible assumption | with_reducible exact frG_none | with_reducible refine frG_some ?_ | with_reducible refine frG_b2 ?_ (fun _ _ _ => ?_) | with_reducible refine frG_b3 ?_ (fun _ _ _ _ => ?_) | with_reducible refine frG_bd (fun _ => ?_) | with_reducible refine frG_glm ?_ (fun _ _ => ?_) | with_reducible refine frG_gl (fun _ => ?_) | with_reducible refine frG_ite ?_ ?_ | with_reducible refine frm_set ?_ (by assumption) | with_reducible refine frm_sl ?_ (by assumption) | with_reducible refine frm_fill ?_ (by assumption) | with_reducible refine frm_tx8 ?_ (by assumption) (by assumption) (by assumption) | intro _)

theorem fr_X6_fitOf_J49 {S : Nat → Bool}  {al : Nat → Nat → Bool} {N : Nat}   {X0 X : gM}  (hX : frm S X0 X) : frG g2 S X0 (X6_fitOf_J49 al N X) := by
  rw [X6_fitOf_J49]
  repeat' (first | with_reducible assumption | with_reducible exact frG_none | with_reducible refine frG_some ?_ | with_reducible refine frG_b2 ?_ (fun _ _ _ => ?_) | with_reducible refine frG_b3 ?_ (fun _ _ _ _ => ?_) | with_reducible refine frG_bd (fun _ => ?_) | with_reducible refine frG_glm ?_ (fun _ _ => ?_) | with_reducible refine frG_gl (fun _ => ?_) | with_reducible refine frG_ite ?_ ?_ | with_reducible refine frm_set ?_ (by assumption) | with_reducible refine frm_sl ?_ (by assumption) | with_reducible refine frm_fill ?_ (by assumption) | with_reducible refine frm_tx8 ?_ (by assumption) (by assumption) (by assumption) | intro _)

theorem fr_X6_fitOf_L24 {S : Nat → Bool}  {al : Nat → Nat → Bool} {N : Nat}  {k49 : gM → Option (Int32 × gM)} {k86 : gM → Option (Int32 × gM)} {k99 : Int32 → gM → Option (Int32 × gM)} {X0 : gM} (hk49 : ∀  (Y : gM), frm S X0 Y → frG g2 S X0 (k49  Y)) (hk86 : ∀  (Y : gM), frm S X0 Y → frG g2 S X0 (k86  Y)) (hk99 : ∀ (a0 : Int32) (Y : gM), frm S X0 Y → frG g2 S X0 (k99 a0 Y)) : ∀ (n : Nat) (a1 : Int32) (a2 : Int32) (a3 : Int32) (a4 : Int32) (X : gM), frm S X0 X → frG g2 S X0 (X6_fitOf_L24 al N k49 k86 k99 n a1 a2 a3 a4 X) := by
  intro n
  induction n with
  | zero =>
    intro a1 a2 a3 a4 X hX
    rw [X6_fitOf_L24]
    exact frG_none
  | succ n ih =>
    intro a1 a2 a3 a4 X hX
    rw [X6_fitOf_L24]
    repeat' (first | with_reducible assumption | with_reducible exact frG_none | with_reducible refine frG_some ?_ | with_reducible refine fr_X6_fitOf_J88  ?_ ?_ ?_ ?_ ?_ | with_reducible refine hk49 _ ?_ | with_reducible refine hk86 _ ?_ | with_reducible refine hk99 _ _ ?_ | with_reducible refine ih _ _ _ _ _ ?_ | with_reducible refine frG_b2 ?_ (fun _ _ _ => ?_) | with_reducible refine frG_b3 ?_ (fun _ _ _ _ => ?_) | with_reducible refine frG_bd (fun _ => ?_) | with_reducible refine frG_glm ?_ (fun _ _ => ?_) | with_reducible refine frG_gl (fun _ => ?_) | with_reducible refine frG_ite ?_ ?_ | with_reducible refine frm_set ?_ (by assumption) | with_reducible refine frm_sl ?_ (by assumption) | with_reducible refine frm_fill ?_ (by assumption) | with_reducible refine frm_tx8 ?_ (by assumption) (by assumption) (by assumption) | intro _)

theorem fr_X6_fitOf_J17 {S : Nat → Bool}  {al : Nat → Nat → Bool} {N : Nat}   {X0 X : gM}  (hX : frm S X0 X) : frG g2 S X0 (X6_fitOf_J17 al N X) := by
  rw [X6_fitOf_J17]
  repeat' (first | with_reducible assumption | with_reducible exact frG_none | with_reducible refine frG_some ?_ | with_reducible refine frG_b2 ?_ (fun _ _ _ => ?_) | with_reducible refine frG_b3 ?_ (fun _ _ _ _ => ?_) | with_reducible refine frG_bd (fun _ => ?_) | with_reducible refine frG_glm ?_ (fun _ _ => ?_) | with_reducible refine frG_gl (fun _ => ?_) | with_reducible refine frG_ite ?_ ?_ | with_reducible refine frm_set ?_ (by assumption) | with_reducible refine frm_sl ?_ (by assumption) | with_reducible refine frm_fill ?_ (by assumption) | with_reducible refine frm_tx8 ?_ (by assumption) (by assumption) (by assumption) | intro _)

theorem fr_X6_fitOf {S : Nat → Bool}  {al : Nat → Nat → Bool} {N : Nat} {p1 : Int32} {p2 : Int32}  {X0 X : gM}  (hX : frm S X0 X) : frG g2 S X0 (X6_fitOf al N p1 p2 X) := by
  rw [X6_fitOf]
  repeat' (first | with_reducible assumption | with_reducible exact frG_none | with_reducible refine frG_some ?_ | with_reducible refine fr_X6_fitOf_J17   ?_ | with_reducible refine fr_X6_fitOf_L24  ?_ ?_ ?_ _ _ _ _ _ _ ?_ | with_reducible refine fr_X6_fitOf_J49   ?_ | with_reducible refine fr_X6_fitOf_J86   ?_ | with_reducible refine fr_X6_fitOf_J99   ?_ | with_reducible refine frG_b2 ?_ (fun _ _ _ => ?_) | with_reducible refine frG_b3 ?_ (fun _ _ _ _ => ?_) | with_reducible refine frG_bd (fun _ => ?_) | with_reducible refine frG_glm ?_ (fun _ _ => ?_) | with_reducible refine frG_gl (fun _ => ?_) | with_reducible refine frG_ite ?_ ?_ | with_reducible refine frm_set ?_ (by assumption) | with_reducible refine frm_sl ?_ (by assumption) | with_reducible refine frm_fill ?_ (by assumption) | with_reducible refine frm_tx8 ?_ (by assumption) (by assumption) (by assumption) | intro _)

theorem fr_X6_makeFirst_J54 {S : Nat → Bool}  {al : Nat → Nat → Bool} {N : Nat}   {X0 X : gM}  (hX : frm S X0 X) : frG g2 S X0 (X6_makeFirst_J54 al N X) := by
  rw [X6_makeFirst_J54]
  repeat' (first | with_reducible assumption | with_reducible exact frG_none | with_reducible refine frG_some ?_ | with_reducible refine frG_b2 ?_ (fun _ _ _ => ?_) | with_reducible refine frG_b3 ?_ (fun _ _ _ _ => ?_) | with_reducible refine frG_bd (fun _ => ?_) | with_reducible refine frG_glm ?_ (fun _ _ => ?_) | with_reducible refine frG_gl (fun _ => ?_) | with_reducible refine frG_ite ?_ ?_ | with_reducible refine frm_set ?_ (by assumption) | with_reducible refine frm_sl ?_ (by assumption) | with_reducible refine frm_fill ?_ (by assumption) | with_reducible refine frm_tx8 ?_ (by assumption) (by assumption) (by assumption) | intro _)

theorem fr_X6_makeFirst_J47 {S : Nat → Bool} (h38 : S 38 = true) {al : Nat → Nat → Bool} {N : Nat} {p1 : Nat} {p2 : Int32} {p3 : Int32} {p4 : Int32} {s0 : Nat} {s1 : Int32} {s2 : Int32} {kk : Nat → Int32 → Int32 → Int32 → gM → Option (Int32 × gM)} {k54 : gM → Option (Int32 × gM)} {X0 X : gM} (hkk : ∀ (a0 : Nat) (a1 : Int32) (a2 : Int32) (a3 : Int32) (Y : gM), frm S X0 Y → frG g2 S X0 (kk a0 a1 a2 a3 Y)) (hk54 : ∀  (Y : gM), frm S X0 Y → frG g2 S X0 (k54  Y)) (hX : frm S X0 X) : frG g2 S X0 (X6_makeFirst_J47 al N kk k54 p1 p2 p3 p4 s0 s1 s2 X) := by
  rw [X6_makeFirst_J47]
  repeat' (first | with_reducible assumption | with_reducible exact frG_none | with_reducible refine frG_some ?_ | with_reducible refine hkk _ _ _ _ _ ?_ | with_reducible refine hk54 _ ?_ | with_reducible refine frG_b2 ?_ (fun _ _ _ => ?_) | with_reducible refine frG_b3 ?_ (fun _ _ _ _ => ?_) | with_reducible refine frG_bd (fun _ => ?_) | with_reducible refine frG_glm ?_ (fun _ _ => ?_) | with_reducible refine frG_gl (fun _ => ?_) | with_reducible refine frG_ite ?_ ?_ | with_reducible refine frm_set ?_ (by assumption) | with_reducible refine frm_sl ?_ (by assumption) | with_reducible refine frm_fill ?_ (by assumption) | with_reducible refine frm_tx8 ?_ (by assumption) (by assumption) (by assumption) | intro _)

theorem fr_X6_makeFirst_L3 {S : Nat → Bool} (h38 : S 38 = true) {al : Nat → Nat → Bool} {N : Nat}  {k54 : gM → Option (Int32 × gM)} {X0 : gM} (hk54 : ∀  (Y : gM), frm S X0 Y → frG g2 S X0 (k54  Y)) : ∀ (n : Nat) (a1 : Nat) (a2 : Int32) (a3 : Int32) (a4 : Int32) (X : gM), frm S X0 X → frG g2 S X0 (X6_makeFirst_L3 al N k54 n a1 a2 a3 a4 X) := by
  intro n
  induction n with
  | zero =>
    intro a1 a2 a3 a4 X hX
    rw [X6_makeFirst_L3]
    exact frG_none
  | succ n ih =>
    intro a1 a2 a3 a4 X hX
    rw [X6_makeFirst_L3]
    repeat' (first | with_reducible assumption | with_reducible exact frG_none | with_reducible refine frG_some ?_ | with_reducible refine fr_X6_makeFirst_J47 h38 ?_ ?_ ?_ | with_reducible refine hk54 _ ?_ | with_reducible refine ih _ _ _ _ _ ?_ | with_reducible refine frG_b2 ?_ (fun _ _ _ => ?_) | with_reducible refine frG_b3 ?_ (fun _ _ _ _ => ?_) | with_reducible refine frG_bd (fun _ => ?_) | with_reducible refine frG_glm ?_ (fun _ _ => ?_) | with_reducible refine frG_gl (fun _ => ?_) | with_reducible refine frG_ite ?_ ?_ | with_reducible refine frm_set ?_ (by assumption) | with_reducible refine frm_sl ?_ (by assumption) | with_reducible refine frm_fill ?_ (by assumption) | with_reducible refine frm_tx8 ?_ (by assumption) (by assumption) (by assumption) | intro _)

theorem fr_X6_makeFirst {S : Nat → Bool} (h38 : S 38 = true) {al : Nat → Nat → Bool} {N : Nat} {p1 : Nat} {p2 : Int32} {p3 : Int32}  {X0 X : gM}  (hX : frm S X0 X) : frG g2 S X0 (X6_makeFirst al N p1 p2 p3 X) := by
  rw [X6_makeFirst]
  repeat' (first | with_reducible assumption | with_reducible exact frG_none | with_reducible refine frG_some ?_ | with_reducible refine fr_X6_makeFirst_L3 h38 ?_ _ _ _ _ _ _ ?_ | with_reducible refine fr_X6_makeFirst_J54   ?_ | with_reducible refine frG_b2 ?_ (fun _ _ _ => ?_) | with_reducible refine frG_b3 ?_ (fun _ _ _ _ => ?_) | with_reducible refine frG_bd (fun _ => ?_) | with_reducible refine frG_glm ?_ (fun _ _ => ?_) | with_reducible refine frG_gl (fun _ => ?_) | with_reducible refine frG_ite ?_ ?_ | with_reducible refine frm_set ?_ (by assumption) | with_reducible refine frm_sl ?_ (by assumption) | with_reducible refine frm_fill ?_ (by assumption) | with_reducible refine frm_tx8 ?_ (by assumption) (by assumption) (by assumption) | intro _)

theorem fr_X6_isLower_J81 {S : Nat → Bool}  {al : Nat → Nat → Bool} {N : Nat}   {X0 X : gM}  (hX : frm S X0 X) : frG g2 S X0 (X6_isLower_J81 al N X) := by
  rw [X6_isLower_J81]
  repeat' (first | with_reducible assumption | with_reducible exact frG_none | with_reducible refine frG_some ?_ | with_reducible refine frG_b2 ?_ (fun _ _ _ => ?_) | with_reducible refine frG_b3 ?_ (fun _ _ _ _ => ?_) | with_reducible refine frG_bd (fun _ => ?_) | with_reducible refine frG_glm ?_ (fun _ _ => ?_) | with_reducible refine frG_gl (fun _ => ?_) | with_reducible refine frG_ite ?_ ?_ | with_reducible refine frm_set ?_ (by assumption) | with_reducible refine frm_sl ?_ (by assumption) | with_reducible refine frm_fill ?_ (by assumption) | with_reducible refine frm_tx8 ?_ (by assumption) (by assumption) (by assumption) | intro _)

theorem fr_X6_isLower_J74 {S : Nat → Bool}  {al : Nat → Nat → Bool} {N : Nat} {s0 : Int32}  {X0 X : gM}  (hX : frm S X0 X) : frG g2 S X0 (X6_isLower_J74 al N s0 X) := by
  rw [X6_isLower_J74]
  repeat' (first | with_reducible assumption | with_reducible exact frG_none | with_reducible refine frG_some ?_ | with_reducible refine frG_b2 ?_ (fun _ _ _ => ?_) | with_reducible refine frG_b3 ?_ (fun _ _ _ _ => ?_) | with_reducible refine frG_bd (fun _ => ?_) | with_reducible refine frG_glm ?_ (fun _ _ => ?_) | with_reducible refine frG_gl (fun _ => ?_) | with_reducible refine frG_ite ?_ ?_ | with_reducible refine frm_set ?_ (by assumption) | with_reducible refine frm_sl ?_ (by assumption) | with_reducible refine frm_fill ?_ (by assumption) | with_reducible refine frm_tx8 ?_ (by assumption) (by assumption) (by assumption) | intro _)

theorem fr_X6_isLower_J55 {S : Nat → Bool}  {al : Nat → Nat → Bool} {N : Nat} {p2 : Int32} {p4 : Int32} {p5 : Int32}  {X0 X : gM}  (hX : frm S X0 X) : frG g2 S X0 (X6_isLower_J55 al N p2 p4 p5 X) := by
  rw [X6_isLower_J55]
  repeat' (first | with_reducible assumption | with_reducible exact frG_none | with_reducible refine frG_some ?_ | with_reducible refine fr_X6_isLower_J74   ?_ | with_reducible refine frG_b2 ?_ (fun _ _ _ => ?_) | with_reducible refine frG_b3 ?_ (fun _ _ _ _ => ?_) | with_reducible refine frG_bd (fun _ => ?_) | with_reducible refine frG_glm ?_ (fun _ _ => ?_) | with_reducible refine frG_gl (fun _ => ?_) | with_reducible refine frG_ite ?_ ?_ | with_reducible refine frm_set ?_ (by assumption) | with_reducible refine frm_sl ?_ (by assumption) | with_reducible refine frm_fill ?_ (by assumption) | with_reducible refine frm_tx8 ?_ (by assumption) (by assumption) (by assumption) | intro _)

theorem fr_X6_isLower_J39 {S : Nat → Bool}  {al : Nat → Nat → Bool} {N : Nat} {p1 : Nat} {p2 : Int32} {p3 : Int32} {p4 : Int32} {s0 : Int32} {kk : Nat → Int32 → Int32 → Int32 → gM → Option (Int32 × gM)} {k55 : Int32 → Int32 → Int32 → gM → Option (Int32 × gM)} {k81 : gM → Option (Int32 × gM)} {X0 X : gM} (hkk : ∀ (a0 : Nat) (a1 : Int32) (a2 : Int32) (a3 : Int32) (Y : gM), frm S X0 Y → frG g2 S X0 (kk a0 a1 a2 a3 Y)) (hk55 : ∀ (a0 : Int32) (a1 : Int32) (a2 : Int32) (Y : gM), frm S X0 Y → frG g2 S X0 (k55 a0 a1 a2 Y)) (hk81 : ∀  (Y : gM), frm S X0 Y → frG g2 S X0 (k81  Y)) (hX : frm S X0 X) : frG g2 S X0 (X6_isLower_J39 al N kk k55 k81 p1 p2 p3 p4 s0 X) := by
  rw [X6_isLower_J39]
  repeat' (first | with_reducible assumption | with_reducible exact frG_none | with_reducible refine frG_some ?_ | with_reducible refine hkk _ _ _ _ _ ?_ | with_reducible refine hk55 _ _ _ _ ?_ | with_reducible refine hk81 _ ?_ | with_reducible refine frG_b2 ?_ (fun _ _ _ => ?_) | with_reducible refine frG_b3 ?_ (fun _ _ _ _ => ?_) | with_reducible refine frG_bd (fun _ => ?_) | with_reducible refine frG_glm ?_ (fun _ _ => ?_) | with_reducible refine frG_gl (fun _ => ?_) | with_reducible refine frG_ite ?_ ?_ | with_reducible refine frm_set ?_ (by assumption) | with_reducible refine frm_sl ?_ (by assumption) | with_reducible refine frm_fill ?_ (by assumption) | with_reducible refine frm_tx8 ?_ (by assumption) (by assumption) (by assumption) | intro _)

theorem fr_X6_isLower_L3 {S : Nat → Bool}  {al : Nat → Nat → Bool} {N : Nat}  {k55 : Int32 → Int32 → Int32 → gM → Option (Int32 × gM)} {k81 : gM → Option (Int32 × gM)} {X0 : gM} (hk55 : ∀ (a0 : Int32) (a1 : Int32) (a2 : Int32) (Y : gM), frm S X0 Y → frG g2 S X0 (k55 a0 a1 a2 Y)) (hk81 : ∀  (Y : gM), frm S X0 Y → frG g2 S X0 (k81  Y)) : ∀ (n : Nat) (a1 : Nat) (a2 : Int32) (a3 : Int32) (a4 : Int32) (X : gM), frm S X0 X → frG g2 S X0 (X6_isLower_L3 al N k55 k81 n a1 a2 a3 a4 X) := by
  intro n
  induction n with
  | zero =>
    intro a1 a2 a3 a4 X hX
    rw [X6_isLower_L3]
    exact frG_none
  | succ n ih =>
    intro a1 a2 a3 a4 X hX
    rw [X6_isLower_L3]
    repeat' (first | with_reducible assumption | with_reducible exact frG_none | with_reducible refine frG_some ?_ | with_reducible refine fr_X6_isLower_J39  ?_ ?_ ?_ ?_ | with_reducible refine hk55 _ _ _ _ ?_ | with_reducible refine hk81 _ ?_ | with_reducible refine ih _ _ _ _ _ ?_ | with_reducible refine frG_b2 ?_ (fun _ _ _ => ?_) | with_reducible refine frG_b3 ?_ (fun _ _ _ _ => ?_) | with_reducible refine frG_bd (fun _ => ?_) | with_reducible refine frG_glm ?_ (fun _ _ => ?_) | with_reducible refine frG_gl (fun _ => ?_) | with_reducible refine frG_ite ?_ ?_ | with_reducible refine frm_set ?_ (by assumption) | with_reducible refine frm_sl ?_ (by assumption) | with_reducible refine frm_fill ?_ (by assumption) | with_reducible refine frm_tx8 ?_ (by assumption) (by assumption) (by assumption) | intro _)

theorem fr_X6_isLower {S : Nat → Bool}  {al : Nat → Nat → Bool} {N : Nat} {p1 : Nat} {p2 : Int32} {p3 : Int32}  {X0 X : gM}  (hX : frm S X0 X) : frG g2 S X0 (X6_isLower al N p1 p2 p3 X) := by
  rw [X6_isLower]
  repeat' (first | with_reducible assumption | with_reducible exact frG_none | with_reducible refine frG_some ?_ | with_reducible refine fr_X6_isLower_L3  ?_ ?_ _ _ _ _ _ _ ?_ | with_reducible refine fr_X6_isLower_J55   ?_ | with_reducible refine fr_X6_isLower_J81   ?_ | with_reducible refine frG_b2 ?_ (fun _ _ _ => ?_) | with_reducible refine frG_b3 ?_ (fun _ _ _ _ => ?_) | with_reducible refine frG_bd (fun _ => ?_) | with_reducible refine frG_glm ?_ (fun _ _ => ?_) | with_reducible refine frG_gl (fun _ => ?_) | with_reducible refine frG_ite ?_ ?_ | with_reducible refine frm_set ?_ (by assumption) | with_reducible refine frm_sl ?_ (by assumption) | with_reducible refine frm_fill ?_ (by assumption) | with_reducible refine frm_tx8 ?_ (by assumption) (by assumption) (by assumption) | intro _)

theorem fr_X6_tryWord_J130 {S : Nat → Bool}  {al : Nat → Nat → Bool} {N : Nat}   {X0 X : gM}  (hX : frm S X0 X) : frG g2 S X0 (X6_tryWord_J130 al N X) := by
  rw [X6_tryWord_J130]
  repeat' (first | with_reducible assumption | with_reducible exact frG_none | with_reducible refine frG_some ?_ | with_reducible refine frG_b2 ?_ (fun _ _ _ => ?_) | with_reducible refine frG_b3 ?_ (fun _ _ _ _ => ?_) | with_reducible refine frG_bd (fun _ => ?_) | with_reducible refine frG_glm ?_ (fun _ _ => ?_) | with_reducible refine frG_gl (fun _ => ?_) | with_reducible refine frG_ite ?_ ?_ | with_reducible refine frm_set ?_ (by assumption) | with_reducible refine frm_sl ?_ (by assumption) | with_reducible refine frm_fill ?_ (by assumption) | with_reducible refine frm_tx8 ?_ (by assumption) (by assumption) (by assumption) | intro _)

theorem fr_X6_tryWord_J28 {S : Nat → Bool}  {al : Nat → Nat → Bool} {N : Nat}   {X0 X : gM}  (hX : frm S X0 X) : frG g2 S X0 (X6_tryWord_J28 al N X) := by
  rw [X6_tryWord_J28]
  repeat' (first | with_reducible assumption | with_reducible exact frG_none | with_reducible refine frG_some ?_ | with_reducible refine frG_b2 ?_ (fun _ _ _ => ?_) | with_reducible refine frG_b3 ?_ (fun _ _ _ _ => ?_) | with_reducible refine frG_bd (fun _ => ?_) | with_reducible refine frG_glm ?_ (fun _ _ => ?_) | with_reducible refine frG_gl (fun _ => ?_) | with_reducible refine frG_ite ?_ ?_ | with_reducible refine frm_set ?_ (by assumption) | with_reducible refine frm_sl ?_ (by assumption) | with_reducible refine frm_fill ?_ (by assumption) | with_reducible refine frm_tx8 ?_ (by assumption) (by assumption) (by assumption) | intro _)

theorem fr_X6_tryWord {S : Nat → Bool} (h35 : S 35 = true) (h36 : S 36 = true) (h38 : S 38 = true) {al : Nat → Nat → Bool} {N : Nat} {p1 : Nat} {p2 : Int32} {p3 : Int32}  {X0 X : gM}  (hX : frm S X0 X) : frG g2 S X0 (X6_tryWord al N p1 p2 p3 X) := by
  rw [X6_tryWord]
  repeat' (first | with_reducible assumption | with_reducible exact frG_none | with_reducible refine frG_some ?_ | with_reducible refine fr_X6_tryWord_J28   ?_ | with_reducible refine fr_X6_isLower   ?_ | with_reducible refine fr_X6_tryWord_J130   ?_ | with_reducible refine fr_X6_makeFirst h38  ?_ | with_reducible refine frG_b2 ?_ (fun _ _ _ => ?_) | with_reducible refine frG_b3 ?_ (fun _ _ _ _ => ?_) | with_reducible refine frG_bd (fun _ => ?_) | with_reducible refine frG_glm ?_ (fun _ _ => ?_) | with_reducible refine frG_gl (fun _ => ?_) | with_reducible refine frG_ite ?_ ?_ | with_reducible refine frm_set ?_ (by assumption) | with_reducible refine frm_sl ?_ (by assumption) | with_reducible refine frm_fill ?_ (by assumption) | with_reducible refine frm_tx8 ?_ (by assumption) (by assumption) (by assumption) | intro _)

theorem fr_X6_readFrom_J126 {S : Nat → Bool}  {al : Nat → Nat → Bool} {N : Nat}   {X0 X : gM}  (hX : frm S X0 X) : frG g2 S X0 (X6_readFrom_J126 al N X) := by
  rw [X6_readFrom_J126]
  repeat' (first | with_reducible assumption | with_reducible exact frG_none | with_reducible refine frG_some ?_ | with_reducible refine frG_b2 ?_ (fun _ _ _ => ?_) | with_reducible refine frG_b3 ?_ (fun _ _ _ _ => ?_) | with_reducible refine frG_bd (fun _ => ?_) | with_reducible refine frG_glm ?_ (fun _ _ => ?_) | with_reducible refine frG_gl (fun _ => ?_) | with_reducible refine frG_ite ?_ ?_ | with_reducible refine frm_set ?_ (by assumption) | with_reducible refine frm_sl ?_ (by assumption) | with_reducible refine frm_fill ?_ (by assumption) | with_reducible refine frm_tx8 ?_ (by assumption) (by assumption) (by assumption) | intro _)

theorem fr_X6_readFrom_J120 {S : Nat → Bool}  {al : Nat → Nat → Bool} {N : Nat} {p1 : Int32} {p3 : Int32} {kk : Int32 → Int32 → gM → Option (Int32 × gM)} {k126 : gM → Option (Int32 × gM)} {X0 X : gM} (hkk : ∀ (a0 : Int32) (a1 : Int32) (Y : gM), frm S X0 Y → frG g2 S X0 (kk a0 a1 Y)) (hk126 : ∀  (Y : gM), frm S X0 Y → frG g2 S X0 (k126  Y)) (hX : frm S X0 X) : frG g2 S X0 (X6_readFrom_J120 al N kk k126 p1 p3 X) := by
  rw [X6_readFrom_J120]
  repeat' (first | with_reducible assumption | with_reducible exact frG_none | with_reducible refine frG_some ?_ | with_reducible refine hkk _ _ _ ?_ | with_reducible refine hk126 _ ?_ | with_reducible refine frG_b2 ?_ (fun _ _ _ => ?_) | with_reducible refine frG_b3 ?_ (fun _ _ _ _ => ?_) | with_reducible refine frG_bd (fun _ => ?_) | with_reducible refine frG_glm ?_ (fun _ _ => ?_) | with_reducible refine frG_gl (fun _ => ?_) | with_reducible refine frG_ite ?_ ?_ | with_reducible refine frm_set ?_ (by assumption) | with_reducible refine frm_sl ?_ (by assumption) | with_reducible refine frm_fill ?_ (by assumption) | with_reducible refine frm_tx8 ?_ (by assumption) (by assumption) (by assumption) | intro _)

theorem fr_X6_readFrom_L70 {S : Nat → Bool} (h35 : S 35 = true) (h36 : S 36 = true) (h38 : S 38 = true) {al : Nat → Nat → Bool} {N : Nat}  {k126 : gM → Option (Int32 × gM)} {X0 : gM} (hk126 : ∀  (Y : gM), frm S X0 Y → frG g2 S X0 (k126  Y)) : ∀ (n : Nat) (a1 : Int32) (a2 : Int32) (X : gM), frm S X0 X → frG g2 S X0 (X6_readFrom_L70 al N k126 n a1 a2 X) := by
  intro n
  induction n with
  | zero =>
    intro a1 a2 X hX
    rw [X6_readFrom_L70]
    exact frG_none
  | succ n ih =>
    intro a1 a2 X hX
    rw [X6_readFrom_L70]
    repeat' (first | with_reducible assumption | with_reducible exact frG_none | with_reducible refine frG_some ?_ | with_reducible refine fr_X6_readFrom_J120  ?_ ?_ ?_ | with_reducible refine fr_X6_tryWord h35 h36 h38  ?_ | with_reducible refine hk126 _ ?_ | with_reducible refine ih _ _ _ ?_ | with_reducible refine frG_b2 ?_ (fun _ _ _ => ?_) | with_reducible refine frG_b3 ?_ (fun _ _ _ _ => ?_) | with_reducible refine frG_bd (fun _ => ?_) | with_reducible refine frG_glm ?_ (fun _ _ => ?_) | with_reducible refine frG_gl (fun _ => ?_) | with_reducible refine frG_ite ?_ ?_ | with_reducible refine frm_set ?_ (by assumption) | with_reducible refine frm_sl ?_ (by assumption) | with_reducible refine frm_fill ?_ (by assumption) | with_reducible refine frm_tx8 ?_ (by assumption) (by assumption) (by assumption) | intro _)

theorem fr_X6_readFrom {S : Nat → Bool} (h35 : S 35 = true) (h36 : S 36 = true) (h38 : S 38 = true) {al : Nat → Nat → Bool} {N : Nat} {p1 : Int32}  {X0 X : gM}  (hX : frm S X0 X) : frG g2 S X0 (X6_readFrom al N p1 X) := by
  rw [X6_readFrom]
  repeat' (first | with_reducible assumption | with_reducible exact frG_none | with_reducible refine frG_some ?_ | with_reducible refine fr_X6_readFrom_L70 h35 h36 h38 ?_ _ _ _ _ ?_ | with_reducible refine fr_X6_readFrom_J126   ?_ | with_reducible refine frG_b2 ?_ (fun _ _ _ => ?_) | with_reducible refine frG_b3 ?_ (fun _ _ _ _ => ?_) | with_reducible refine frG_bd (fun _ => ?_) | with_reducible refine frG_glm ?_ (fun _ _ => ?_) | with_reducible refine frG_gl (fun _ => ?_) | with_reducible refine frG_ite ?_ ?_ | with_reducible refine frm_set ?_ (by assumption) | with_reducible refine frm_sl ?_ (by assumption) | with_reducible refine frm_fill ?_ (by assumption) | with_reducible refine frm_tx8 ?_ (by assumption) (by assumption) (by assumption) | intro _)

theorem fr_X6_read_J182 {S : Nat → Bool}  {al : Nat → Nat → Bool} {N : Nat}   {X0 X : gM}  (hX : frm S X0 X) : frG g2 S X0 (X6_read_J182 al N X) := by
  rw [X6_read_J182]
  repeat' (first | with_reducible assumption | with_reducible exact frG_none | with_reducible refine frG_some ?_ | with_reducible refine frG_b2 ?_ (fun _ _ _ => ?_) | with_reducible refine frG_b3 ?_ (fun _ _ _ _ => ?_) | with_reducible refine frG_bd (fun _ => ?_) | with_reducible refine frG_glm ?_ (fun _ _ => ?_) | with_reducible refine frG_gl (fun _ => ?_) | with_reducible refine frG_ite ?_ ?_ | with_reducible refine frm_set ?_ (by assumption) | with_reducible refine frm_sl ?_ (by assumption) | with_reducible refine frm_fill ?_ (by assumption) | with_reducible refine frm_tx8 ?_ (by assumption) (by assumption) (by assumption) | intro _)

theorem fr_X6_read_L163 {S : Nat → Bool} (h35 : S 35 = true) (h36 : S 36 = true) (h38 : S 38 = true) {al : Nat → Nat → Bool} {N : Nat}  {k182 : gM → Option (Int32 × gM)} {X0 : gM} (hk182 : ∀  (Y : gM), frm S X0 Y → frG g2 S X0 (k182  Y)) : ∀ (n : Nat) (a1 : Int32) (X : gM), frm S X0 X → frG g2 S X0 (X6_read_L163 al N k182 n a1 X) := by
  intro n
  induction n with
  | zero =>
    intro a1 X hX
    rw [X6_read_L163]
    exact frG_none
  | succ n ih =>
    intro a1 X hX
    rw [X6_read_L163]
    repeat' (first | with_reducible assumption | with_reducible exact frG_none | with_reducible refine frG_some ?_ | with_reducible refine fr_X6_readFrom h35 h36 h38  ?_ | with_reducible refine hk182 _ ?_ | with_reducible refine ih _ _ ?_ | with_reducible refine frG_b2 ?_ (fun _ _ _ => ?_) | with_reducible refine frG_b3 ?_ (fun _ _ _ _ => ?_) | with_reducible refine frG_bd (fun _ => ?_) | with_reducible refine frG_glm ?_ (fun _ _ => ?_) | with_reducible refine frG_gl (fun _ => ?_) | with_reducible refine frG_ite ?_ ?_ | with_reducible refine frm_set ?_ (by assumption) | with_reducible refine frm_sl ?_ (by assumption) | with_reducible refine frm_fill ?_ (by assumption) | with_reducible refine frm_tx8 ?_ (by assumption) (by assumption) (by assumption) | intro _)

theorem fr_X6_read_J119 {S : Nat → Bool} (h35 : S 35 = true) (h36 : S 36 = true) (h38 : S 38 = true) {al : Nat → Nat → Bool} {N : Nat}   {X0 X : gM}  (hX : frm S X0 X) : frG g2 S X0 (X6_read_J119 al N X) := by
  rw [X6_read_J119]
  repeat' (first | with_reducible assumption | with_reducible exact frG_none | with_reducible refine frG_some ?_ | with_reducible refine fr_X6_read_L163 h35 h36 h38 ?_ _ _ _ ?_ | with_reducible refine fr_X6_read_J182   ?_ | with_reducible refine frG_b2 ?_ (fun _ _ _ => ?_) | with_reducible refine frG_b3 ?_ (fun _ _ _ _ => ?_) | with_reducible refine frG_bd (fun _ => ?_) | with_reducible refine frG_glm ?_ (fun _ _ => ?_) | with_reducible refine frG_gl (fun _ => ?_) | with_reducible refine frG_ite ?_ ?_ | with_reducible refine frm_set ?_ (by assumption) | with_reducible refine frm_sl ?_ (by assumption) | with_reducible refine frm_fill ?_ (by assumption) | with_reducible refine frm_tx8 ?_ (by assumption) (by assumption) (by assumption) | intro _)

theorem fr_X6_read_J113 {S : Nat → Bool}  {al : Nat → Nat → Bool} {N : Nat} {p5 : Int32} {kk : Int32 → gM → Option (Int32 × gM)} {k119 : gM → Option (Int32 × gM)} {X0 X : gM} (hkk : ∀ (a0 : Int32) (Y : gM), frm S X0 Y → frG g2 S X0 (kk a0 Y)) (hk119 : ∀  (Y : gM), frm S X0 Y → frG g2 S X0 (k119  Y)) (hX : frm S X0 X) : frG g2 S X0 (X6_read_J113 al N kk k119 p5 X) := by
  rw [X6_read_J113]
  repeat' (first | with_reducible assumption | with_reducible exact frG_none | with_reducible refine frG_some ?_ | with_reducible refine hkk _ _ ?_ | with_reducible refine hk119 _ ?_ | with_reducible refine frG_b2 ?_ (fun _ _ _ => ?_) | with_reducible refine frG_b3 ?_ (fun _ _ _ _ => ?_) | with_reducible refine frG_bd (fun _ => ?_) | with_reducible refine frG_glm ?_ (fun _ _ => ?_) | with_reducible refine frG_gl (fun _ => ?_) | with_reducible refine frG_ite ?_ ?_ | with_reducible refine frm_set ?_ (by assumption) | with_reducible refine frm_sl ?_ (by assumption) | with_reducible refine frm_fill ?_ (by assumption) | with_reducible refine frm_tx8 ?_ (by assumption) (by assumption) (by assumption) | intro _)

theorem fr_X6_read_L68 {S : Nat → Bool} (h33 : S 33 = true) {al : Nat → Nat → Bool} {N : Nat}  {k113 : Int32 → gM → Option (Int32 × gM)} {X0 : gM} (hk113 : ∀ (a0 : Int32) (Y : gM), frm S X0 Y → frG g2 S X0 (k113 a0 Y)) : ∀ (n : Nat) (a1 : Int32) (a2 : Int32) (X : gM), frm S X0 X → frG g2 S X0 (X6_read_L68 al N k113 n a1 a2 X) := by
  intro n
  induction n with
  | zero =>
    intro a1 a2 X hX
    rw [X6_read_L68]
    exact frG_none
  | succ n ih =>
    intro a1 a2 X hX
    rw [X6_read_L68]
    repeat' (first | with_reducible assumption | with_reducible exact frG_none | with_reducible refine frG_some ?_ | with_reducible refine fr_X6_fitOf   ?_ | with_reducible refine hk113 _ _ ?_ | with_reducible refine ih _ _ _ ?_ | with_reducible refine frG_b2 ?_ (fun _ _ _ => ?_) | with_reducible refine frG_b3 ?_ (fun _ _ _ _ => ?_) | with_reducible refine frG_bd (fun _ => ?_) | with_reducible refine frG_glm ?_ (fun _ _ => ?_) | with_reducible refine frG_gl (fun _ => ?_) | with_reducible refine frG_ite ?_ ?_ | with_reducible refine frm_set ?_ (by assumption) | with_reducible refine frm_sl ?_ (by assumption) | with_reducible refine frm_fill ?_ (by assumption) | with_reducible refine frm_tx8 ?_ (by assumption) (by assumption) (by assumption) | intro _)

theorem fr_X6_read_L56 {S : Nat → Bool} (h33 : S 33 = true) {al : Nat → Nat → Bool} {N : Nat}  {k119 : gM → Option (Int32 × gM)} {X0 : gM} (hk119 : ∀  (Y : gM), frm S X0 Y → frG g2 S X0 (k119  Y)) : ∀ (n : Nat) (a1 : Int32) (X : gM), frm S X0 X → frG g2 S X0 (X6_read_L56 al N k119 n a1 X) := by
  intro n
  induction n with
  | zero =>
    intro a1 X hX
    rw [X6_read_L56]
    exact frG_none
  | succ n ih =>
    intro a1 X hX
    rw [X6_read_L56]
    repeat' (first | with_reducible assumption | with_reducible exact frG_none | with_reducible refine frG_some ?_ | with_reducible refine fr_X6_read_L68 h33 ?_ _ _ _ _ ?_ | with_reducible refine fr_X6_read_J113  ?_ ?_ ?_ | with_reducible refine hk119 _ ?_ | with_reducible refine ih _ _ ?_ | with_reducible refine frG_b2 ?_ (fun _ _ _ => ?_) | with_reducible refine frG_b3 ?_ (fun _ _ _ _ => ?_) | with_reducible refine frG_bd (fun _ => ?_) | with_reducible refine frG_glm ?_ (fun _ _ => ?_) | with_reducible refine frG_gl (fun _ => ?_) | with_reducible refine frG_ite ?_ ?_ | with_reducible refine frm_set ?_ (by assumption) | with_reducible refine frm_sl ?_ (by assumption) | with_reducible refine frm_fill ?_ (by assumption) | with_reducible refine frm_tx8 ?_ (by assumption) (by assumption) (by assumption) | intro _)

theorem fr_X6_read_J53 {S : Nat → Bool} (h33 : S 33 = true) (h35 : S 35 = true) (h36 : S 36 = true) (h38 : S 38 = true) {al : Nat → Nat → Bool} {N : Nat}   {X0 X : gM}  (hX : frm S X0 X) : frG g2 S X0 (X6_read_J53 al N X) := by
  rw [X6_read_J53]
  repeat' (first | with_reducible assumption | with_reducible exact frG_none | with_reducible refine frG_some ?_ | with_reducible refine fr_X6_read_L56 h33 ?_ _ _ _ ?_ | with_reducible refine fr_X6_read_J119 h35 h36 h38  ?_ | with_reducible refine frG_b2 ?_ (fun _ _ _ => ?_) | with_reducible refine frG_b3 ?_ (fun _ _ _ _ => ?_) | with_reducible refine frG_bd (fun _ => ?_) | with_reducible refine frG_glm ?_ (fun _ _ => ?_) | with_reducible refine frG_gl (fun _ => ?_) | with_reducible refine frG_ite ?_ ?_ | with_reducible refine frm_set ?_ (by assumption) | with_reducible refine frm_sl ?_ (by assumption) | with_reducible refine frm_fill ?_ (by assumption) | with_reducible refine frm_tx8 ?_ (by assumption) (by assumption) (by assumption) | intro _)

theorem fr_X6_read_L24 {S : Nat → Bool} (h30 : S 30 = true) (h31 : S 31 = true) (h32 : S 32 = true) {al : Nat → Nat → Bool} {N : Nat}  {k53 : gM → Option (Int32 × gM)} {X0 : gM} (hk53 : ∀  (Y : gM), frm S X0 Y → frG g2 S X0 (k53  Y)) : ∀ (n : Nat) (a1 : Nat) (a2 : Int32) (a3 : Int32) (a4 : Int32) (X : gM), frm S X0 X → frG g2 S X0 (X6_read_L24 al N k53 n a1 a2 a3 a4 X) := by
  intro n
  induction n with
  | zero =>
    intro a1 a2 a3 a4 X hX
    rw [X6_read_L24]
    exact frG_none
  | succ n ih =>
    intro a1 a2 a3 a4 X hX
    rw [X6_read_L24]
    repeat' (first | with_reducible assumption | with_reducible exact frG_none | with_reducible refine frG_some ?_ | with_reducible refine fr_X2_cellAt   ?_ | with_reducible refine fr_X6_load h30 h31 h32  ?_ | with_reducible refine hk53 _ ?_ | with_reducible refine ih _ _ _ _ _ ?_ | with_reducible refine frG_b2 ?_ (fun _ _ _ => ?_) | with_reducible refine frG_b3 ?_ (fun _ _ _ _ => ?_) | with_reducible refine frG_bd (fun _ => ?_) | with_reducible refine frG_glm ?_ (fun _ _ => ?_) | with_reducible refine frG_gl (fun _ => ?_) | with_reducible refine frG_ite ?_ ?_ | with_reducible refine frm_set ?_ (by assumption) | with_reducible refine frm_sl ?_ (by assumption) | with_reducible refine frm_fill ?_ (by assumption) | with_reducible refine frm_tx8 ?_ (by assumption) (by assumption) (by assumption) | intro _)

theorem fr_X6_read {S : Nat → Bool} (h29 : S 29 = true) (h30 : S 30 = true) (h31 : S 31 = true) (h32 : S 32 = true) (h33 : S 33 = true) (h35 : S 35 = true) (h36 : S 36 = true) (h38 : S 38 = true) {al : Nat → Nat → Bool} {N : Nat} {p1 : Nat} {p2 : Int32} {p3 : Int32}  {X0 X : gM}  (hX : frm S X0 X) : frG g2 S X0 (X6_read al N p1 p2 p3 X) := by
  rw [X6_read]
  repeat' (first | with_reducible assumption | with_reducible exact frG_none | with_reducible refine frG_some ?_ | with_reducible refine fr_X6_read_L24 h30 h31 h32 ?_ _ _ _ _ _ _ ?_ | with_reducible refine fr_X6_read_J53 h33 h35 h36 h38  ?_ | with_reducible refine frG_b2 ?_ (fun _ _ _ => ?_) | with_reducible refine frG_b3 ?_ (fun _ _ _ _ => ?_) | with_reducible refine frG_bd (fun _ => ?_) | with_reducible refine frG_glm ?_ (fun _ _ => ?_) | with_reducible refine frG_gl (fun _ => ?_) | with_reducible refine frG_ite ?_ ?_ | with_reducible refine frm_set ?_ (by assumption) | with_reducible refine frm_sl ?_ (by assumption) | with_reducible refine frm_fill ?_ (by assumption) | with_reducible refine frm_tx8 ?_ (by assumption) (by assumption) (by assumption) | intro _)

theorem fr_X6_gatherWord_J117 {S : Nat → Bool}  {al : Nat → Nat → Bool} {N : Nat}   {X0 X : gM}  (hX : frm S X0 X) : frG g2 S X0 (X6_gatherWord_J117 al N X) := by
  rw [X6_gatherWord_J117]
  repeat' (first | with_reducible assumption | with_reducible exact frG_none | with_reducible refine frG_some ?_ | with_reducible refine frG_b2 ?_ (fun _ _ _ => ?_) | with_reducible refine frG_b3 ?_ (fun _ _ _ _ => ?_) | with_reducible refine frG_bd (fun _ => ?_) | with_reducible refine frG_glm ?_ (fun _ _ => ?_) | with_reducible refine frG_gl (fun _ => ?_) | with_reducible refine frG_ite ?_ ?_ | with_reducible refine frm_set ?_ (by assumption) | with_reducible refine frm_sl ?_ (by assumption) | with_reducible refine frm_fill ?_ (by assumption) | with_reducible refine frm_tx8 ?_ (by assumption) (by assumption) (by assumption) | intro _)

theorem fr_X6_gatherWord_L81 {S : Nat → Bool} (h39 : S 39 = true) {al : Nat → Nat → Bool} {N : Nat}  {k117 : gM → Option (Int32 × gM)} {X0 : gM} (hk117 : ∀  (Y : gM), frm S X0 Y → frG g2 S X0 (k117  Y)) : ∀ (n : Nat) (a1 : Nat) (a2 : Int32) (a3 : Int32) (X : gM), frm S X0 X → frG g2 S X0 (X6_gatherWord_L81 al N k117 n a1 a2 a3 X) := by
  intro n
  induction n with
  | zero =>
    intro a1 a2 a3 X hX
    rw [X6_gatherWord_L81]
    exact frG_none
  | succ n ih =>
    intro a1 a2 a3 X hX
    rw [X6_gatherWord_L81]
    repeat' (first | with_reducible assumption | with_reducible exact frG_none | with_reducible refine frG_some ?_ | with_reducible refine hk117 _ ?_ | with_reducible refine ih _ _ _ _ ?_ | with_reducible refine frG_b2 ?_ (fun _ _ _ => ?_) | with_reducible refine frG_b3 ?_ (fun _ _ _ _ => ?_) | with_reducible refine frG_bd (fun _ => ?_) | with_reducible refine frG_glm ?_ (fun _ _ => ?_) | with_reducible refine frG_gl (fun _ => ?_) | with_reducible refine frG_ite ?_ ?_ | with_reducible refine frm_set ?_ (by assumption) | with_reducible refine frm_sl ?_ (by assumption) | with_reducible refine frm_fill ?_ (by assumption) | with_reducible refine frm_tx8 ?_ (by assumption) (by assumption) (by assumption) | intro _)

theorem fr_X6_gatherWord_J77 {S : Nat → Bool}  {al : Nat → Nat → Bool} {N : Nat}   {X0 X : gM}  (hX : frm S X0 X) : frG g2 S X0 (X6_gatherWord_J77 al N X) := by
  rw [X6_gatherWord_J77]
  repeat' (first | with_reducible assumption | with_reducible exact frG_none | with_reducible refine frG_some ?_ | with_reducible refine frG_b2 ?_ (fun _ _ _ => ?_) | with_reducible refine frG_b3 ?_ (fun _ _ _ _ => ?_) | with_reducible refine frG_bd (fun _ => ?_) | with_reducible refine frG_glm ?_ (fun _ _ => ?_) | with_reducible refine frG_gl (fun _ => ?_) | with_reducible refine frG_ite ?_ ?_ | with_reducible refine frm_set ?_ (by assumption) | with_reducible refine frm_sl ?_ (by assumption) | with_reducible refine frm_fill ?_ (by assumption) | with_reducible refine frm_tx8 ?_ (by assumption) (by assumption) (by assumption) | intro _)

theorem fr_X6_gatherWord {S : Nat → Bool} (h34 : S 34 = true) (h39 : S 39 = true) {al : Nat → Nat → Bool} {N : Nat} {p1 : Nat} {p2 : Int32} {p3 : Int32}  {X0 X : gM}  (hX : frm S X0 X) : frG g2 S X0 (X6_gatherWord al N p1 p2 p3 X) := by
  rw [X6_gatherWord]
  repeat' (first | with_reducible assumption | with_reducible exact frG_none | with_reducible refine frG_some ?_ | with_reducible refine fr_X6_gatherWord_J77   ?_ | with_reducible refine fr_X6_gatherWord_L81 h39 ?_ _ _ _ _ _ ?_ | with_reducible refine fr_X6_gatherWord_J117   ?_ | with_reducible refine frG_b2 ?_ (fun _ _ _ => ?_) | with_reducible refine frG_b3 ?_ (fun _ _ _ _ => ?_) | with_reducible refine frG_bd (fun _ => ?_) | with_reducible refine frG_glm ?_ (fun _ _ => ?_) | with_reducible refine frG_gl (fun _ => ?_) | with_reducible refine frG_ite ?_ ?_ | with_reducible refine frm_set ?_ (by assumption) | with_reducible refine frm_sl ?_ (by assumption) | with_reducible refine frm_fill ?_ (by assumption) | with_reducible refine frm_tx8 ?_ (by assumption) (by assumption) (by assumption) | intro _)

theorem fr_X6_gatherLetters_J144 {S : Nat → Bool}  {al : Nat → Nat → Bool} {N : Nat}   {X0 X : gM}  (hX : frm S X0 X) : frG g2 S X0 (X6_gatherLetters_J144 al N X) := by
  rw [X6_gatherLetters_J144]
  repeat' (first | with_reducible assumption | with_reducible exact frG_none | with_reducible refine frG_some ?_ | with_reducible refine frG_b2 ?_ (fun _ _ _ => ?_) | with_reducible refine frG_b3 ?_ (fun _ _ _ _ => ?_) | with_reducible refine frG_bd (fun _ => ?_) | with_reducible refine frG_glm ?_ (fun _ _ => ?_) | with_reducible refine frG_gl (fun _ => ?_) | with_reducible refine frG_ite ?_ ?_ | with_reducible refine frm_set ?_ (by assumption) | with_reducible refine frm_sl ?_ (by assumption) | with_reducible refine frm_fill ?_ (by assumption) | with_reducible refine frm_tx8 ?_ (by assumption) (by assumption) (by assumption) | intro _)

theorem fr_X6_gatherLetters_J138 {S : Nat → Bool}  {al : Nat → Nat → Bool} {N : Nat} {p2 : Int32} {kk : Int32 → gM → Option (Int32 × gM)} {k144 : gM → Option (Int32 × gM)} {X0 X : gM} (hkk : ∀ (a0 : Int32) (Y : gM), frm S X0 Y → frG g2 S X0 (kk a0 Y)) (hk144 : ∀  (Y : gM), frm S X0 Y → frG g2 S X0 (k144  Y)) (hX : frm S X0 X) : frG g2 S X0 (X6_gatherLetters_J138 al N kk k144 p2 X) := by
  rw [X6_gatherLetters_J138]
  repeat' (first | with_reducible assumption | with_reducible exact frG_none | with_reducible refine frG_some ?_ | with_reducible refine hkk _ _ ?_ | with_reducible refine hk144 _ ?_ | with_reducible refine frG_b2 ?_ (fun _ _ _ => ?_) | with_reducible refine frG_b3 ?_ (fun _ _ _ _ => ?_) | with_reducible refine frG_bd (fun _ => ?_) | with_reducible refine frG_glm ?_ (fun _ _ => ?_) | with_reducible refine frG_gl (fun _ => ?_) | with_reducible refine frG_ite ?_ ?_ | with_reducible refine frm_set ?_ (by assumption) | with_reducible refine frm_sl ?_ (by assumption) | with_reducible refine frm_fill ?_ (by assumption) | with_reducible refine frm_tx8 ?_ (by assumption) (by assumption) (by assumption) | intro _)

theorem fr_X6_gatherLetters_J132 {S : Nat → Bool}  {al : Nat → Nat → Bool} {N : Nat} {p2 : Int32} {p3 : Int32} {kk : Int32 → Int32 → gM → Option (Int32 × gM)} {k138 : Int32 → gM → Option (Int32 × gM)} {X0 X : gM} (hkk : ∀ (a0 : Int32) (a1 : Int32) (Y : gM), frm S X0 Y → frG g2 S X0 (kk a0 a1 Y)) (hk138 : ∀ (a0 : Int32) (Y : gM), frm S X0 Y → frG g2 S X0 (k138 a0 Y)) (hX : frm S X0 X) : frG g2 S X0 (X6_gatherLetters_J132 al N kk k138 p2 p3 X) := by
  rw [X6_gatherLetters_J132]
  repeat' (first | with_reducible assumption | with_reducible exact frG_none | with_reducible refine frG_some ?_ | with_reducible refine hkk _ _ _ ?_ | with_reducible refine hk138 _ _ ?_ | with_reducible refine frG_b2 ?_ (fun _ _ _ => ?_) | with_reducible refine frG_b3 ?_ (fun _ _ _ _ => ?_) | with_reducible refine frG_bd (fun _ => ?_) | with_reducible refine frG_glm ?_ (fun _ _ => ?_) | with_reducible refine frG_gl (fun _ => ?_) | with_reducible refine frG_ite ?_ ?_ | with_reducible refine frm_set ?_ (by assumption) | with_reducible refine frm_sl ?_ (by assumption) | with_reducible refine frm_fill ?_ (by assumption) | with_reducible refine frm_tx8 ?_ (by assumption) (by assumption) (by assumption) | intro _)

theorem fr_X6_gatherLetters_L82 {S : Nat → Bool} (h34 : S 34 = true) (h39 : S 39 = true) {al : Nat → Nat → Bool} {N : Nat}  {k138 : Int32 → gM → Option (Int32 × gM)} {X0 : gM} (hk138 : ∀ (a0 : Int32) (Y : gM), frm S X0 Y → frG g2 S X0 (k138 a0 Y)) : ∀ (n : Nat) (a1 : Int32) (a2 : Int32) (X : gM), frm S X0 X → frG g2 S X0 (X6_gatherLetters_L82 al N k138 n a1 a2 X) := by
  intro n
  induction n with
  | zero =>
    intro a1 a2 X hX
    rw [X6_gatherLetters_L82]
    exact frG_none
  | succ n ih =>
    intro a1 a2 X hX
    rw [X6_gatherLetters_L82]
    repeat' (first | with_reducible assumption | with_reducible exact frG_none | with_reducible refine frG_some ?_ | with_reducible refine fr_X6_gatherLetters_J132  ?_ ?_ ?_ | with_reducible refine fr_X6_gatherWord h34 h39  ?_ | with_reducible refine hk138 _ _ ?_ | with_reducible refine ih _ _ _ ?_ | with_reducible refine frG_b2 ?_ (fun _ _ _ => ?_) | with_reducible refine frG_b3 ?_ (fun _ _ _ _ => ?_) | with_reducible refine frG_bd (fun _ => ?_) | with_reducible refine frG_glm ?_ (fun _ _ => ?_) | with_reducible refine frG_gl (fun _ => ?_) | with_reducible refine frG_ite ?_ ?_ | with_reducible refine frm_set ?_ (by assumption) | with_reducible refine frm_sl ?_ (by assumption) | with_reducible refine frm_fill ?_ (by assumption) | with_reducible refine frm_tx8 ?_ (by assumption) (by assumption) (by assumption) | intro _)

theorem fr_X6_gatherLetters_J80 {S : Nat → Bool} (h34 : S 34 = true) (h39 : S 39 = true) {al : Nat → Nat → Bool} {N : Nat} {p2 : Int32} {kk : Int32 → gM → Option (Int32 × gM)} {k144 : gM → Option (Int32 × gM)} {X0 X : gM} (hkk : ∀ (a0 : Int32) (Y : gM), frm S X0 Y → frG g2 S X0 (kk a0 Y)) (hk144 : ∀  (Y : gM), frm S X0 Y → frG g2 S X0 (k144  Y)) (hX : frm S X0 X) : frG g2 S X0 (X6_gatherLetters_J80 al N kk k144 p2 X) := by
  rw [X6_gatherLetters_J80]
  repeat' (first | with_reducible assumption | with_reducible exact frG_none | with_reducible refine frG_some ?_ | with_reducible refine fr_X6_gatherLetters_L82 h34 h39 ?_ _ _ _ _ ?_ | with_reducible refine fr_X6_gatherLetters_J138  ?_ ?_ ?_ | with_reducible refine hkk _ _ ?_ | with_reducible refine hk144 _ ?_ | with_reducible refine frG_b2 ?_ (fun _ _ _ => ?_) | with_reducible refine frG_b3 ?_ (fun _ _ _ _ => ?_) | with_reducible refine frG_bd (fun _ => ?_) | with_reducible refine frG_glm ?_ (fun _ _ => ?_) | with_reducible refine frG_gl (fun _ => ?_) | with_reducible refine frG_ite ?_ ?_ | with_reducible refine frm_set ?_ (by assumption) | with_reducible refine frm_sl ?_ (by assumption) | with_reducible refine frm_fill ?_ (by assumption) | with_reducible refine frm_tx8 ?_ (by assumption) (by assumption) (by assumption) | intro _)

theorem fr_X6_gatherLetters_L25 {S : Nat → Bool} (h34 : S 34 = true) (h39 : S 39 = true) {al : Nat → Nat → Bool} {N : Nat}  {k144 : gM → Option (Int32 × gM)} {X0 : gM} (hk144 : ∀  (Y : gM), frm S X0 Y → frG g2 S X0 (k144  Y)) : ∀ (n : Nat) (a1 : Int32) (X : gM), frm S X0 X → frG g2 S X0 (X6_gatherLetters_L25 al N k144 n a1 X) := by
  intro n
  induction n with
  | zero =>
    intro a1 X hX
    rw [X6_gatherLetters_L25]
    exact frG_none
  | succ n ih =>
    intro a1 X hX
    rw [X6_gatherLetters_L25]
    repeat' (first | with_reducible assumption | with_reducible exact frG_none | with_reducible refine frG_some ?_ | with_reducible refine fr_X6_gatherLetters_J138  ?_ ?_ ?_ | with_reducible refine fr_X6_gatherLetters_J80 h34 h39 ?_ ?_ ?_ | with_reducible refine hk144 _ ?_ | with_reducible refine ih _ _ ?_ | with_reducible refine frG_b2 ?_ (fun _ _ _ => ?_) | with_reducible refine frG_b3 ?_ (fun _ _ _ _ => ?_) | with_reducible refine frG_bd (fun _ => ?_) | with_reducible refine frG_glm ?_ (fun _ _ => ?_) | with_reducible refine frG_gl (fun _ => ?_) | with_reducible refine frG_ite ?_ ?_ | with_reducible refine frm_set ?_ (by assumption) | with_reducible refine frm_sl ?_ (by assumption) | with_reducible refine frm_fill ?_ (by assumption) | with_reducible refine frm_tx8 ?_ (by assumption) (by assumption) (by assumption) | intro _)

theorem fr_X6_gatherLetters {S : Nat → Bool} (h34 : S 34 = true) (h39 : S 39 = true) {al : Nat → Nat → Bool} {N : Nat}   {X0 X : gM}  (hX : frm S X0 X) : frG g2 S X0 (X6_gatherLetters al N X) := by
  rw [X6_gatherLetters]
  repeat' (first | with_reducible assumption | with_reducible exact frG_none | with_reducible refine frG_some ?_ | with_reducible refine fr_X6_gatherLetters_L25 h34 h39 ?_ _ _ _ ?_ | with_reducible refine fr_X6_gatherLetters_J144   ?_ | with_reducible refine frG_b2 ?_ (fun _ _ _ => ?_) | with_reducible refine frG_b3 ?_ (fun _ _ _ _ => ?_) | with_reducible refine frG_bd (fun _ => ?_) | with_reducible refine frG_glm ?_ (fun _ _ => ?_) | with_reducible refine frG_gl (fun _ => ?_) | with_reducible refine frG_ite ?_ ?_ | with_reducible refine frm_set ?_ (by assumption) | with_reducible refine frm_sl ?_ (by assumption) | with_reducible refine frm_fill ?_ (by assumption) | with_reducible refine frm_tx8 ?_ (by assumption) (by assumption) (by assumption) | intro _)

theorem fr_X6_standing_J76 {S : Nat → Bool}  {al : Nat → Nat → Bool} {N : Nat} {s0 : Int32}  {X0 X : gM}  (hX : frm S X0 X) : frG g2 S X0 (X6_standing_J76 al N s0 X) := by
  rw [X6_standing_J76]
  repeat' (first | with_reducible assumption | with_reducible exact frG_none | with_reducible refine frG_some ?_ | with_reducible refine frG_b2 ?_ (fun _ _ _ => ?_) | with_reducible refine frG_b3 ?_ (fun _ _ _ _ => ?_) | with_reducible refine frG_bd (fun _ => ?_) | with_reducible refine frG_glm ?_ (fun _ _ => ?_) | with_reducible refine frG_gl (fun _ => ?_) | with_reducible refine frG_ite ?_ ?_ | with_reducible refine frm_set ?_ (by assumption) | with_reducible refine frm_sl ?_ (by assumption) | with_reducible refine frm_fill ?_ (by assumption) | with_reducible refine frm_tx8 ?_ (by assumption) (by assumption) (by assumption) | intro _)

theorem fr_X6_standing_J22 {S : Nat → Bool}  {al : Nat → Nat → Bool} {N : Nat}   {X0 X : gM}  (hX : frm S X0 X) : frG g2 S X0 (X6_standing_J22 al N X) := by
  rw [X6_standing_J22]
  repeat' (first | with_reducible assumption | with_reducible exact frG_none | with_reducible refine frG_some ?_ | with_reducible refine frG_b2 ?_ (fun _ _ _ => ?_) | with_reducible refine frG_b3 ?_ (fun _ _ _ _ => ?_) | with_reducible refine frG_bd (fun _ => ?_) | with_reducible refine frG_glm ?_ (fun _ _ => ?_) | with_reducible refine frG_gl (fun _ => ?_) | with_reducible refine frG_ite ?_ ?_ | with_reducible refine frm_set ?_ (by assumption) | with_reducible refine frm_sl ?_ (by assumption) | with_reducible refine frm_fill ?_ (by assumption) | with_reducible refine frm_tx8 ?_ (by assumption) (by assumption) (by assumption) | intro _)

theorem fr_X6_standing {S : Nat → Bool}  {al : Nat → Nat → Bool} {N : Nat} {p1 : Int32}  {X0 X : gM}  (hX : frm S X0 X) : frG g2 S X0 (X6_standing al N p1 X) := by
  rw [X6_standing]
  repeat' (first | with_reducible assumption | with_reducible exact frG_none | with_reducible refine frG_some ?_ | with_reducible refine fr_X6_standing_J22   ?_ | with_reducible refine fr_J6_bitCount_0f7a4   ?_ | with_reducible refine fr_X6_standing_J76   ?_ | with_reducible refine frG_b2 ?_ (fun _ _ _ => ?_) | with_reducible refine frG_b3 ?_ (fun _ _ _ _ => ?_) | with_reducible refine frG_bd (fun _ => ?_) | with_reducible refine frG_glm ?_ (fun _ _ => ?_) | with_reducible refine frG_gl (fun _ => ?_) | with_reducible refine frG_ite ?_ ?_ | with_reducible refine frm_set ?_ (by assumption) | with_reducible refine frm_sl ?_ (by assumption) | with_reducible refine frm_fill ?_ (by assumption) | with_reducible refine frm_tx8 ?_ (by assumption) (by assumption) (by assumption) | intro _)

theorem fr_X4_addLetter_J108 {S : Nat → Bool}  {al : Nat → Nat → Bool} {N : Nat}   {X0 X : gM}  (hX : frm S X0 X) : frG g2 S X0 (X4_addLetter_J108 al N X) := by
  rw [X4_addLetter_J108]
  repeat' (first | with_reducible assumption | with_reducible exact frG_none | with_reducible refine frG_some ?_ | with_reducible refine frG_b2 ?_ (fun _ _ _ => ?_) | with_reducible refine frG_b3 ?_ (fun _ _ _ _ => ?_) | with_reducible refine frG_bd (fun _ => ?_) | with_reducible refine frG_glm ?_ (fun _ _ => ?_) | with_reducible refine frG_gl (fun _ => ?_) | with_reducible refine frG_ite ?_ ?_ | with_reducible refine frm_set ?_ (by assumption) | with_reducible refine frm_sl ?_ (by assumption) | with_reducible refine frm_fill ?_ (by assumption) | with_reducible refine frm_tx8 ?_ (by assumption) (by assumption) (by assumption) | intro _)

theorem fr_X4_addLetter_J58 {S : Nat → Bool} (h41 : S 41 = true) {al : Nat → Nat → Bool} {N : Nat} {p1 : Int32} {p2 : Nat} {p4 : Int32} {s0 : Int32} {s1 : Int32} {kk : Int32 → Nat → Int32 → Int32 → gM → Option (Int32 × gM)} {k108 : gM → Option (Int32 × gM)} {X0 X : gM} (hkk : ∀ (a0 : Int32) (a1 : Nat) (a2 : Int32) (a3 : Int32) (Y : gM), frm S X0 Y → frG g2 S X0 (kk a0 a1 a2 a3 Y)) (hk108 : ∀  (Y : gM), frm S X0 Y → frG g2 S X0 (k108  Y)) (hX : frm S X0 X) : frG g2 S X0 (X4_addLetter_J58 al N kk k108 p1 p2 p4 s0 s1 X) := by
  rw [X4_addLetter_J58]
  repeat' (first | with_reducible assumption | with_reducible exact frG_none | with_reducible refine frG_some ?_ | with_reducible refine hkk _ _ _ _ _ ?_ | with_reducible refine hk108 _ ?_ | with_reducible refine frG_b2 ?_ (fun _ _ _ => ?_) | with_reducible refine frG_b3 ?_ (fun _ _ _ _ => ?_) | with_reducible refine frG_bd (fun _ => ?_) | with_reducible refine frG_glm ?_ (fun _ _ => ?_) | with_reducible refine frG_gl (fun _ => ?_) | with_reducible refine frG_ite ?_ ?_ | with_reducible refine frm_set ?_ (by assumption) | with_reducible refine frm_sl ?_ (by assumption) | with_reducible refine frm_fill ?_ (by assumption) | with_reducible refine frm_tx8 ?_ (by assumption) (by assumption) (by assumption) | intro _)

theorem fr_X4_addLetter_L20 {S : Nat → Bool} (h41 : S 41 = true) {al : Nat → Nat → Bool} {N : Nat}  {k108 : gM → Option (Int32 × gM)} {X0 : gM} (hk108 : ∀  (Y : gM), frm S X0 Y → frG g2 S X0 (k108  Y)) : ∀ (n : Nat) (a1 : Int32) (a2 : Nat) (a3 : Int32) (a4 : Int32) (X : gM), frm S X0 X → frG g2 S X0 (X4_addLetter_L20 al N k108 n a1 a2 a3 a4 X) := by
  intro n
  induction n with
  | zero =>
    intro a1 a2 a3 a4 X hX
    rw [X4_addLetter_L20]
    exact frG_none
  | succ n ih =>
    intro a1 a2 a3 a4 X hX
    rw [X4_addLetter_L20]
    repeat' (first | with_reducible assumption | with_reducible exact frG_none | with_reducible refine frG_some ?_ | with_reducible refine fr_X4_addLetter_J58 h41 ?_ ?_ ?_ | with_reducible refine hk108 _ ?_ | with_reducible refine ih _ _ _ _ _ ?_ | with_reducible refine frG_b2 ?_ (fun _ _ _ => ?_) | with_reducible refine frG_b3 ?_ (fun _ _ _ _ => ?_) | with_reducible refine frG_bd (fun _ => ?_) | with_reducible refine frG_glm ?_ (fun _ _ => ?_) | with_reducible refine frG_gl (fun _ => ?_) | with_reducible refine frG_ite ?_ ?_ | with_reducible refine frm_set ?_ (by assumption) | with_reducible refine frm_sl ?_ (by assumption) | with_reducible refine frm_fill ?_ (by assumption) | with_reducible refine frm_tx8 ?_ (by assumption) (by assumption) (by assumption) | intro _)

theorem fr_X4_addLetter {S : Nat → Bool} (h41 : S 41 = true) {al : Nat → Nat → Bool} {N : Nat} {p1 : Int32} {p2 : Nat}  {X0 X : gM}  (hX : frm S X0 X) : frG g2 S X0 (X4_addLetter al N p1 p2 X) := by
  rw [X4_addLetter]
  repeat' (first | with_reducible assumption | with_reducible exact frG_none | with_reducible refine frG_some ?_ | with_reducible refine fr_X4_addLetter_L20 h41 ?_ _ _ _ _ _ _ ?_ | with_reducible refine fr_X4_addLetter_J108   ?_ | with_reducible refine frG_b2 ?_ (fun _ _ _ => ?_) | with_reducible refine frG_b3 ?_ (fun _ _ _ _ => ?_) | with_reducible refine frG_bd (fun _ => ?_) | with_reducible refine frG_glm ?_ (fun _ _ => ?_) | with_reducible refine frG_gl (fun _ => ?_) | with_reducible refine frG_ite ?_ ?_ | with_reducible refine frm_set ?_ (by assumption) | with_reducible refine frm_sl ?_ (by assumption) | with_reducible refine frm_fill ?_ (by assumption) | with_reducible refine frm_tx8 ?_ (by assumption) (by assumption) (by assumption) | intro _)

theorem fr_X4_align_J112 {S : Nat → Bool}  {al : Nat → Nat → Bool} {N : Nat}   {X0 X : gM}  (hX : frm S X0 X) : frG g2 S X0 (X4_align_J112 al N X) := by
  rw [X4_align_J112]
  repeat' (first | with_reducible assumption | with_reducible exact frG_none | with_reducible refine frG_some ?_ | with_reducible refine frG_b2 ?_ (fun _ _ _ => ?_) | with_reducible refine frG_b3 ?_ (fun _ _ _ _ => ?_) | with_reducible refine frG_bd (fun _ => ?_) | with_reducible refine frG_glm ?_ (fun _ _ => ?_) | with_reducible refine frG_gl (fun _ => ?_) | with_reducible refine frG_ite ?_ ?_ | with_reducible refine frm_set ?_ (by assumption) | with_reducible refine frm_sl ?_ (by assumption) | with_reducible refine frm_fill ?_ (by assumption) | with_reducible refine frm_tx8 ?_ (by assumption) (by assumption) (by assumption) | intro _)

theorem fr_X4_align_J106 {S : Nat → Bool}  {al : Nat → Nat → Bool} {N : Nat} {p2 : Nat} {p3 : Int32} {kk : Nat → Int32 → gM → Option (Int32 × gM)} {k112 : gM → Option (Int32 × gM)} {X0 X : gM} (hkk : ∀ (a0 : Nat) (a1 : Int32) (Y : gM), frm S X0 Y → frG g2 S X0 (kk a0 a1 Y)) (hk112 : ∀  (Y : gM), frm S X0 Y → frG g2 S X0 (k112  Y)) (hX : frm S X0 X) : frG g2 S X0 (X4_align_J106 al N kk k112 p2 p3 X) := by
  rw [X4_align_J106]
  repeat' (first | with_reducible assumption | with_reducible exact frG_none | with_reducible refine frG_some ?_ | with_reducible refine hkk _ _ _ ?_ | with_reducible refine hk112 _ ?_ | with_reducible refine frG_b2 ?_ (fun _ _ _ => ?_) | with_reducible refine frG_b3 ?_ (fun _ _ _ _ => ?_) | with_reducible refine frG_bd (fun _ => ?_) | with_reducible refine frG_glm ?_ (fun _ _ => ?_) | with_reducible refine frG_gl (fun _ => ?_) | with_reducible refine frG_ite ?_ ?_ | with_reducible refine frm_set ?_ (by assumption) | with_reducible refine frm_sl ?_ (by assumption) | with_reducible refine frm_fill ?_ (by assumption) | with_reducible refine frm_tx8 ?_ (by assumption) (by assumption) (by assumption) | intro _)

theorem fr_X4_align_L61 {S : Nat → Bool} (h40 : S 40 = true) {al : Nat → Nat → Bool} {N : Nat}  {k112 : gM → Option (Int32 × gM)} {X0 : gM} (hk112 : ∀  (Y : gM), frm S X0 Y → frG g2 S X0 (k112  Y)) : ∀ (n : Nat) (a1 : Nat) (a2 : Int32) (X : gM), frm S X0 X → frG g2 S X0 (X4_align_L61 al N k112 n a1 a2 X) := by
  intro n
  induction n with
  | zero =>
    intro a1 a2 X hX
    rw [X4_align_L61]
    exact frG_none
  | succ n ih =>
    intro a1 a2 X hX
    rw [X4_align_L61]
    repeat' (first | with_reducible assumption | with_reducible exact frG_none | with_reducible refine frG_some ?_ | with_reducible refine fr_X4_align_J106  ?_ ?_ ?_ | with_reducible refine hk112 _ ?_ | with_reducible refine ih _ _ _ ?_ | with_reducible refine frG_b2 ?_ (fun _ _ _ => ?_) | with_reducible refine frG_b3 ?_ (fun _ _ _ _ => ?_) | with_reducible refine frG_bd (fun _ => ?_) | with_reducible refine frG_glm ?_ (fun _ _ => ?_) | with_reducible refine frG_gl (fun _ => ?_) | with_reducible refine frG_ite ?_ ?_ | with_reducible refine frm_set ?_ (by assumption) | with_reducible refine frm_sl ?_ (by assumption) | with_reducible refine frm_fill ?_ (by assumption) | with_reducible refine frm_tx8 ?_ (by assumption) (by assumption) (by assumption) | intro _)

theorem fr_X4_align_J44 {S : Nat → Bool} (h40 : S 40 = true) {al : Nat → Nat → Bool} {N : Nat} {p2 : Nat}  {X0 X : gM}  (hX : frm S X0 X) : frG g2 S X0 (X4_align_J44 al N p2 X) := by
  rw [X4_align_J44]
  repeat' (first | with_reducible assumption | with_reducible exact frG_none | with_reducible refine frG_some ?_ | with_reducible refine fr_X4_align_L61 h40 ?_ _ _ _ _ ?_ | with_reducible refine fr_X4_align_J112   ?_ | with_reducible refine frG_b2 ?_ (fun _ _ _ => ?_) | with_reducible refine frG_b3 ?_ (fun _ _ _ _ => ?_) | with_reducible refine frG_bd (fun _ => ?_) | with_reducible refine frG_glm ?_ (fun _ _ => ?_) | with_reducible refine frG_gl (fun _ => ?_) | with_reducible refine frG_ite ?_ ?_ | with_reducible refine frm_set ?_ (by assumption) | with_reducible refine frm_sl ?_ (by assumption) | with_reducible refine frm_fill ?_ (by assumption) | with_reducible refine frm_tx8 ?_ (by assumption) (by assumption) (by assumption) | intro _)

theorem fr_X4_align_J38 {S : Nat → Bool}  {al : Nat → Nat → Bool} {N : Nat} {p2 : Nat} {p3 : Int32} {kk : Nat → Int32 → gM → Option (Int32 × gM)} {k44 : Nat → gM → Option (Int32 × gM)} {X0 X : gM} (hkk : ∀ (a0 : Nat) (a1 : Int32) (Y : gM), frm S X0 Y → frG g2 S X0 (kk a0 a1 Y)) (hk44 : ∀ (a0 : Nat) (Y : gM), frm S X0 Y → frG g2 S X0 (k44 a0 Y)) (hX : frm S X0 X) : frG g2 S X0 (X4_align_J38 al N kk k44 p2 p3 X) := by
  rw [X4_align_J38]
  repeat' (first | with_reducible assumption | with_reducible exact frG_none | with_reducible refine frG_some ?_ | with_reducible refine hkk _ _ _ ?_ | with_reducible refine hk44 _ _ ?_ | with_reducible refine frG_b2 ?_ (fun _ _ _ => ?_) | with_reducible refine frG_b3 ?_ (fun _ _ _ _ => ?_) | with_reducible refine frG_bd (fun _ => ?_) | with_reducible refine frG_glm ?_ (fun _ _ => ?_) | with_reducible refine frG_gl (fun _ => ?_) | with_reducible refine frG_ite ?_ ?_ | with_reducible refine frm_set ?_ (by assumption) | with_reducible refine frm_sl ?_ (by assumption) | with_reducible refine frm_fill ?_ (by assumption) | with_reducible refine frm_tx8 ?_ (by assumption) (by assumption) (by assumption) | intro _)

theorem fr_X4_align_L10 {S : Nat → Bool} (h41 : S 41 = true) {al : Nat → Nat → Bool} {N : Nat}  {k44 : Nat → gM → Option (Int32 × gM)} {X0 : gM} (hk44 : ∀ (a0 : Nat) (Y : gM), frm S X0 Y → frG g2 S X0 (k44 a0 Y)) : ∀ (n : Nat) (a1 : Nat) (a2 : Int32) (X : gM), frm S X0 X → frG g2 S X0 (X4_align_L10 al N k44 n a1 a2 X) := by
  intro n
  induction n with
  | zero =>
    intro a1 a2 X hX
    rw [X4_align_L10]
    exact frG_none
  | succ n ih =>
    intro a1 a2 X hX
    rw [X4_align_L10]
    repeat' (first | with_reducible assumption | with_reducible exact frG_none | with_reducible refine frG_some ?_ | with_reducible refine fr_X6_firstLetter   ?_ | with_reducible refine fr_X4_align_J38  ?_ ?_ ?_ | with_reducible refine fr_X4_addLetter h41  ?_ | with_reducible refine hk44 _ _ ?_ | with_reducible refine ih _ _ _ ?_ | with_reducible refine frG_b2 ?_ (fun _ _ _ => ?_) | with_reducible refine frG_b3 ?_ (fun _ _ _ _ => ?_) | with_reducible refine frG_bd (fun _ => ?_) | with_reducible refine frG_glm ?_ (fun _ _ => ?_) | with_reducible refine frG_gl (fun _ => ?_) | with_reducible refine frG_ite ?_ ?_ | with_reducible refine frm_set ?_ (by assumption) | with_reducible refine frm_sl ?_ (by assumption) | with_reducible refine frm_fill ?_ (by assumption) | with_reducible refine frm_tx8 ?_ (by assumption) (by assumption) (by assumption) | intro _)

theorem fr_X4_align {S : Nat → Bool} (h40 : S 40 = true) (h41 : S 41 = true) {al : Nat → Nat → Bool} {N : Nat} {p2 : Nat}  {X0 X : gM}  (hX : frm S X0 X) : frG g2 S X0 (X4_align al N p2 X) := by
  rw [X4_align]
  repeat' (first | with_reducible assumption | with_reducible exact frG_none | with_reducible refine frG_some ?_ | with_reducible refine fr_X4_align_L10 h41 ?_ _ _ _ _ ?_ | with_reducible refine fr_X4_align_J44 h40  ?_ | with_reducible refine frG_b2 ?_ (fun _ _ _ => ?_) | with_reducible refine frG_b3 ?_ (fun _ _ _ _ => ?_) | with_reducible refine frG_bd (fun _ => ?_) | with_reducible refine frG_glm ?_ (fun _ _ => ?_) | with_reducible refine frG_gl (fun _ => ?_) | with_reducible refine frG_ite ?_ ?_ | with_reducible refine frm_set ?_ (by assumption) | with_reducible refine frm_sl ?_ (by assumption) | with_reducible refine frm_fill ?_ (by assumption) | with_reducible refine frm_tx8 ?_ (by assumption) (by assumption) (by assumption) | intro _)

theorem fr_X7_sparedSeats {S : Nat → Bool}  {al : Nat → Nat → Bool} {N : Nat} {p0 : Nat} {p1 : Int32} {p2 : Int32}  {X0 X : gM}  (hX : frm S X0 X) : frG g2 S X0 (X7_sparedSeats al N p0 p1 p2 X) := by
  rw [X7_sparedSeats]
  repeat' (first | with_reducible assumption | with_reducible exact frG_none | with_reducible refine frG_some ?_ | with_reducible refine frG_b2 ?_ (fun _ _ _ => ?_) | with_reducible refine frG_b3 ?_ (fun _ _ _ _ => ?_) | with_reducible refine frG_bd (fun _ => ?_) | with_reducible refine frG_glm ?_ (fun _ _ => ?_) | with_reducible refine frG_gl (fun _ => ?_) | with_reducible refine frG_ite ?_ ?_ | with_reducible refine frm_set ?_ (by assumption) | with_reducible refine frm_sl ?_ (by assumption) | with_reducible refine frm_fill ?_ (by assumption) | with_reducible refine frm_tx8 ?_ (by assumption) (by assumption) (by assumption) | intro _)

theorem fr_X7_isBroken_J143 {S : Nat → Bool}  {al : Nat → Nat → Bool} {N : Nat} {s0 : Int32}  {X0 X : gM}  (hX : frm S X0 X) : frG g2 S X0 (X7_isBroken_J143 al N s0 X) := by
  rw [X7_isBroken_J143]
  repeat' (first | with_reducible assumption | with_reducible exact frG_none | with_reducible refine frG_some ?_ | with_reducible refine frG_b2 ?_ (fun _ _ _ => ?_) | with_reducible refine frG_b3 ?_ (fun _ _ _ _ => ?_) | with_reducible refine frG_bd (fun _ => ?_) | with_reducible refine frG_glm ?_ (fun _ _ => ?_) | with_reducible refine frG_gl (fun _ => ?_) | with_reducible refine frG_ite ?_ ?_ | with_reducible refine frm_set ?_ (by assumption) | with_reducible refine frm_sl ?_ (by assumption) | with_reducible refine frm_fill ?_ (by assumption) | with_reducible refine frm_tx8 ?_ (by assumption) (by assumption) (by assumption) | intro _)

theorem fr_X7_isBroken_J125 {S : Nat → Bool}  {al : Nat → Nat → Bool} {N : Nat} {s0 : Int32}  {X0 X : gM}  (hX : frm S X0 X) : frG g2 S X0 (X7_isBroken_J125 al N s0 X) := by
  rw [X7_isBroken_J125]
  repeat' (first | with_reducible assumption | with_reducible exact frG_none | with_reducible refine frG_some ?_ | with_reducible refine frG_b2 ?_ (fun _ _ _ => ?_) | with_reducible refine frG_b3 ?_ (fun _ _ _ _ => ?_) | with_reducible refine frG_bd (fun _ => ?_) | with_reducible refine frG_glm ?_ (fun _ _ => ?_) | with_reducible refine frG_gl (fun _ => ?_) | with_reducible refine frG_ite ?_ ?_ | with_reducible refine frm_set ?_ (by assumption) | with_reducible refine frm_sl ?_ (by assumption) | with_reducible refine frm_fill ?_ (by assumption) | with_reducible refine frm_tx8 ?_ (by assumption) (by assumption) (by assumption) | intro _)

theorem fr_X7_isBroken_J114 {S : Nat → Bool}  {al : Nat → Nat → Bool} {N : Nat} {s0 : Int32}  {X0 X : gM}  (hX : frm S X0 X) : frG g2 S X0 (X7_isBroken_J114 al N s0 X) := by
  rw [X7_isBroken_J114]
  repeat' (first | with_reducible assumption | with_reducible exact frG_none | with_reducible refine frG_some ?_ | with_reducible refine frG_b2 ?_ (fun _ _ _ => ?_) | with_reducible refine frG_b3 ?_ (fun _ _ _ _ => ?_) | with_reducible refine frG_bd (fun _ => ?_) | with_reducible refine frG_glm ?_ (fun _ _ => ?_) | with_reducible refine frG_gl (fun _ => ?_) | with_reducible refine frG_ite ?_ ?_ | with_reducible refine frm_set ?_ (by assumption) | with_reducible refine frm_sl ?_ (by assumption) | with_reducible refine frm_fill ?_ (by assumption) | with_reducible refine frm_tx8 ?_ (by assumption) (by assumption) (by assumption) | intro _)

theorem fr_X7_isBroken_J101 {S : Nat → Bool}  {al : Nat → Nat → Bool} {N : Nat} {s0 : Int32}  {X0 X : gM}  (hX : frm S X0 X) : frG g2 S X0 (X7_isBroken_J101 al N s0 X) := by
  rw [X7_isBroken_J101]
  repeat' (first | with_reducible assumption | with_reducible exact frG_none | with_reducible refine frG_some ?_ | with_reducible refine frG_b2 ?_ (fun _ _ _ => ?_) | with_reducible refine frG_b3 ?_ (fun _ _ _ _ => ?_) | with_reducible refine frG_bd (fun _ => ?_) | with_reducible refine frG_glm ?_ (fun _ _ => ?_) | with_reducible refine frG_gl (fun _ => ?_) | with_reducible refine frG_ite ?_ ?_ | with_reducible refine frm_set ?_ (by assumption) | with_reducible refine frm_sl ?_ (by assumption) | with_reducible refine frm_fill ?_ (by assumption) | with_reducible refine frm_tx8 ?_ (by assumption) (by assumption) (by assumption) | intro _)

theorem fr_X7_isBroken_J52 {S : Nat → Bool}  {al : Nat → Nat → Bool} {N : Nat}   {X0 X : gM}  (hX : frm S X0 X) : frG g2 S X0 (X7_isBroken_J52 al N X) := by
  rw [X7_isBroken_J52]
  repeat' (first | with_reducible assumption | with_reducible exact frG_none | with_reducible refine frG_some ?_ | with_reducible refine frG_b2 ?_ (fun _ _ _ => ?_) | with_reducible refine frG_b3 ?_ (fun _ _ _ _ => ?_) | with_reducible refine frG_bd (fun _ => ?_) | with_reducible refine frG_glm ?_ (fun _ _ => ?_) | with_reducible refine frG_gl (fun _ => ?_) | with_reducible refine frG_ite ?_ ?_ | with_reducible refine frm_set ?_ (by assumption) | with_reducible refine frm_sl ?_ (by assumption) | with_reducible refine frm_fill ?_ (by assumption) | with_reducible refine frm_tx8 ?_ (by assumption) (by assumption) (by assumption) | intro _)

theorem fr_X7_isBroken_J31 {S : Nat → Bool}  {al : Nat → Nat → Bool} {N : Nat} {s0 : Int32}  {X0 X : gM}  (hX : frm S X0 X) : frG g2 S X0 (X7_isBroken_J31 al N s0 X) := by
  rw [X7_isBroken_J31]
  repeat' (first | with_reducible assumption | with_reducible exact frG_none | with_reducible refine frG_some ?_ | with_reducible refine frG_b2 ?_ (fun _ _ _ => ?_) | with_reducible refine frG_b3 ?_ (fun _ _ _ _ => ?_) | with_reducible refine frG_bd (fun _ => ?_) | with_reducible refine frG_glm ?_ (fun _ _ => ?_) | with_reducible refine frG_gl (fun _ => ?_) | with_reducible refine frG_ite ?_ ?_ | with_reducible refine frm_set ?_ (by assumption) | with_reducible refine frm_sl ?_ (by assumption) | with_reducible refine frm_fill ?_ (by assumption) | with_reducible refine frm_tx8 ?_ (by assumption) (by assumption) (by assumption) | intro _)

theorem fr_X7_isBroken {S : Nat → Bool}  {al : Nat → Nat → Bool} {N : Nat} {p0 : Nat} {p1 : Nat}  {X0 X : gM}  (hX : frm S X0 X) : frG g2 S X0 (X7_isBroken al N p0 p1 X) := by
  rw [X7_isBroken]
  repeat' (first | with_reducible assumption | with_reducible exact frG_none | with_reducible refine frG_some ?_ | with_reducible refine fr_X7_isBroken_J31   ?_ | with_reducible refine fr_X7_isBroken_J52   ?_ | with_reducible refine fr_X7_isBroken_J101   ?_ | with_reducible refine fr_X7_isBroken_J114   ?_ | with_reducible refine fr_X7_isBroken_J125   ?_ | with_reducible refine fr_X7_isBroken_J143   ?_ | with_reducible refine frG_b2 ?_ (fun _ _ _ => ?_) | with_reducible refine frG_b3 ?_ (fun _ _ _ _ => ?_) | with_reducible refine frG_bd (fun _ => ?_) | with_reducible refine frG_glm ?_ (fun _ _ => ?_) | with_reducible refine frG_gl (fun _ => ?_) | with_reducible refine frG_ite ?_ ?_ | with_reducible refine frm_set ?_ (by assumption) | with_reducible refine frm_sl ?_ (by assumption) | with_reducible refine frm_fill ?_ (by assumption) | with_reducible refine frm_tx8 ?_ (by assumption) (by assumption) (by assumption) | intro _)

theorem fr_X7_brokenWith_J76 {S : Nat → Bool}  {al : Nat → Nat → Bool} {N : Nat} {p3 : Int32}  {X0 X : gM}  (hX : frm S X0 X) : frG g2 S X0 (X7_brokenWith_J76 al N p3 X) := by
  rw [X7_brokenWith_J76]
  repeat' (first | with_reducible assumption | with_reducible exact frG_none | with_reducible refine frG_some ?_ | with_reducible refine frG_b2 ?_ (fun _ _ _ => ?_) | with_reducible refine frG_b3 ?_ (fun _ _ _ _ => ?_) | with_reducible refine frG_bd (fun _ => ?_) | with_reducible refine frG_glm ?_ (fun _ _ => ?_) | with_reducible refine frG_gl (fun _ => ?_) | with_reducible refine frG_ite ?_ ?_ | with_reducible refine frm_set ?_ (by assumption) | with_reducible refine frm_sl ?_ (by assumption) | with_reducible refine frm_fill ?_ (by assumption) | with_reducible refine frm_tx8 ?_ (by assumption) (by assumption) (by assumption) | intro _)

theorem fr_X7_brokenWith_J70 {S : Nat → Bool}  {al : Nat → Nat → Bool} {N : Nat} {p0 : Nat} {p1 : Int32} {p3 : Int32} {p4 : Int32} {kk : Nat → Int32 → Int32 → Int32 → gM → Option (Int32 × gM)} {k61 : gM → Option (Int32 × gM)} {k76 : Int32 → gM → Option (Int32 × gM)} {X0 X : gM} (hkk : ∀ (a0 : Nat) (a1 : Int32) (a2 : Int32) (a3 : Int32) (Y : gM), frm S X0 Y → frG g2 S X0 (kk a0 a1 a2 a3 Y)) (hk61 : ∀  (Y : gM), frm S X0 Y → frG g2 S X0 (k61  Y)) (hk76 : ∀ (a0 : Int32) (Y : gM), frm S X0 Y → frG g2 S X0 (k76 a0 Y)) (hX : frm S X0 X) : frG g2 S X0 (X7_brokenWith_J70 al N kk k61 k76 p0 p1 p3 p4 X) := by
  rw [X7_brokenWith_J70]
  repeat' (first | with_reducible assumption | with_reducible exact frG_none | with_reducible refine frG_some ?_ | with_reducible refine hkk _ _ _ _ _ ?_ | with_reducible refine hk61 _ ?_ | with_reducible refine hk76 _ _ ?_ | with_reducible refine frG_b2 ?_ (fun _ _ _ => ?_) | with_reducible refine frG_b3 ?_ (fun _ _ _ _ => ?_) | with_reducible refine frG_bd (fun _ => ?_) | with_reducible refine frG_glm ?_ (fun _ _ => ?_) | with_reducible refine frG_gl (fun _ => ?_) | with_reducible refine frG_ite ?_ ?_ | with_reducible refine frm_set ?_ (by assumption) | with_reducible refine frm_sl ?_ (by assumption) | with_reducible refine frm_fill ?_ (by assumption) | with_reducible refine frm_tx8 ?_ (by assumption) (by assumption) (by assumption) | intro _)

theorem fr_X7_brokenWith_J61 {S : Nat → Bool}  {al : Nat → Nat → Bool} {N : Nat}   {X0 X : gM}  (hX : frm S X0 X) : frG g2 S X0 (X7_brokenWith_J61 al N X) := by
  rw [X7_brokenWith_J61]
  repeat' (first | with_reducible assumption | with_reducible exact frG_none | with_reducible refine frG_some ?_ | with_reducible refine frG_b2 ?_ (fun _ _ _ => ?_) | with_reducible refine frG_b3 ?_ (fun _ _ _ _ => ?_) | with_reducible refine frG_bd (fun _ => ?_) | with_reducible refine frG_glm ?_ (fun _ _ => ?_) | with_reducible refine frG_gl (fun _ => ?_) | with_reducible refine frG_ite ?_ ?_ | with_reducible refine frm_set ?_ (by assumption) | with_reducible refine frm_sl ?_ (by assumption) | with_reducible refine frm_fill ?_ (by assumption) | with_reducible refine frm_tx8 ?_ (by assumption) (by assumption) (by assumption) | intro _)

theorem fr_X7_brokenWith_L5 {S : Nat → Bool}  {al : Nat → Nat → Bool} {N : Nat}  {k61 : gM → Option (Int32 × gM)} {k76 : Int32 → gM → Option (Int32 × gM)} {X0 : gM} (hk61 : ∀  (Y : gM), frm S X0 Y → frG g2 S X0 (k61  Y)) (hk76 : ∀ (a0 : Int32) (Y : gM), frm S X0 Y → frG g2 S X0 (k76 a0 Y)) : ∀ (n : Nat) (a1 : Nat) (a2 : Int32) (a3 : Int32) (a4 : Int32) (X : gM), frm S X0 X → frG g2 S X0 (X7_brokenWith_L5 al N k61 k76 n a1 a2 a3 a4 X) := by
  intro n
  induction n with
  | zero =>
    intro a1 a2 a3 a4 X hX
    rw [X7_brokenWith_L5]
    exact frG_none
  | succ n ih =>
    intro a1 a2 a3 a4 X hX
    rw [X7_brokenWith_L5]
    repeat' (first | with_reducible assumption | with_reducible exact frG_none | with_reducible refine frG_some ?_ | with_reducible refine fr_X7_brokenWith_J70  ?_ ?_ ?_ ?_ | with_reducible refine fr_X1_isOf   ?_ | with_reducible refine fr_X7_isBroken   ?_ | with_reducible refine hk61 _ ?_ | with_reducible refine hk76 _ _ ?_ | with_reducible refine ih _ _ _ _ _ ?_ | with_reducible refine frG_b2 ?_ (fun _ _ _ => ?_) | with_reducible refine frG_b3 ?_ (fun _ _ _ _ => ?_) | with_reducible refine frG_bd (fun _ => ?_) | with_reducible refine frG_glm ?_ (fun _ _ => ?_) | with_reducible refine frG_gl (fun _ => ?_) | with_reducible refine frG_ite ?_ ?_ | with_reducible refine frm_set ?_ (by assumption) | with_reducible refine frm_sl ?_ (by assumption) | with_reducible refine frm_fill ?_ (by assumption) | with_reducible refine frm_tx8 ?_ (by assumption) (by assumption) (by assumption) | intro _)

theorem fr_X7_brokenWith {S : Nat → Bool}  {al : Nat → Nat → Bool} {N : Nat} {p0 : Nat} {p1 : Int32} {p2 : Int32}  {X0 X : gM}  (hX : frm S X0 X) : frG g2 S X0 (X7_brokenWith al N p0 p1 p2 X) := by
  rw [X7_brokenWith]
  repeat' (first | with_reducible assumption | with_reducible exact frG_none | with_reducible refine frG_some ?_ | with_reducible refine fr_X7_brokenWith_L5  ?_ ?_ _ _ _ _ _ _ ?_ | with_reducible refine fr_X7_brokenWith_J61   ?_ | with_reducible refine fr_X7_brokenWith_J76   ?_ | with_reducible refine frG_b2 ?_ (fun _ _ _ => ?_) | with_reducible refine frG_b3 ?_ (fun _ _ _ _ => ?_) | with_reducible refine frG_bd (fun _ => ?_) | with_reducible refine frG_glm ?_ (fun _ _ => ?_) | with_reducible refine frG_gl (fun _ => ?_) | with_reducible refine frG_ite ?_ ?_ | with_reducible refine frm_set ?_ (by assumption) | with_reducible refine frm_sl ?_ (by assumption) | with_reducible refine frm_fill ?_ (by assumption) | with_reducible refine frm_tx8 ?_ (by assumption) (by assumption) (by assumption) | intro _)

theorem fr_X7_canStand_J61 {S : Nat → Bool}  {al : Nat → Nat → Bool} {N : Nat} {s0 : Int32}  {X0 X : gM}  (hX : frm S X0 X) : frG g2 S X0 (X7_canStand_J61 al N s0 X) := by
  rw [X7_canStand_J61]
  repeat' (first | with_reducible assumption | with_reducible exact frG_none | with_reducible refine frG_some ?_ | with_reducible refine frG_b2 ?_ (fun _ _ _ => ?_) | with_reducible refine frG_b3 ?_ (fun _ _ _ _ => ?_) | with_reducible refine frG_bd (fun _ => ?_) | with_reducible refine frG_glm ?_ (fun _ _ => ?_) | with_reducible refine frG_gl (fun _ => ?_) | with_reducible refine frG_ite ?_ ?_ | with_reducible refine frm_set ?_ (by assumption) | with_reducible refine frm_sl ?_ (by assumption) | with_reducible refine frm_fill ?_ (by assumption) | with_reducible refine frm_tx8 ?_ (by assumption) (by assumption) (by assumption) | intro _)

theorem fr_X7_canStand_J56 {S : Nat → Bool}  {al : Nat → Nat → Bool} {N : Nat}   {X0 X : gM}  (hX : frm S X0 X) : frG g2 S X0 (X7_canStand_J56 al N X) := by
  rw [X7_canStand_J56]
  repeat' (first | with_reducible assumption | with_reducible exact frG_none | with_reducible refine frG_some ?_ | with_reducible refine fr_X7_canStand_J61   ?_ | with_reducible refine frG_b2 ?_ (fun _ _ _ => ?_) | with_reducible refine frG_b3 ?_ (fun _ _ _ _ => ?_) | with_reducible refine frG_bd (fun _ => ?_) | with_reducible refine frG_glm ?_ (fun _ _ => ?_) | with_reducible refine frG_gl (fun _ => ?_) | with_reducible refine frG_ite ?_ ?_ | with_reducible refine frm_set ?_ (by assumption) | with_reducible refine frm_sl ?_ (by assumption) | with_reducible refine frm_fill ?_ (by assumption) | with_reducible refine frm_tx8 ?_ (by assumption) (by assumption) (by assumption) | intro _)

theorem fr_X7_canStand_J40 {S : Nat → Bool}  {al : Nat → Nat → Bool} {N : Nat} {p1 : Nat} {s0 : Int32}  {X0 X : gM}  (hX : frm S X0 X) : frG g2 S X0 (X7_canStand_J40 al N p1 s0 X) := by
  rw [X7_canStand_J40]
  repeat' (first | with_reducible assumption | with_reducible exact frG_none | with_reducible refine frG_some ?_ | with_reducible refine fr_X7_canStand_J56   ?_ | with_reducible refine fr_X2_isUnlikeFront   ?_ | with_reducible refine fr_X7_canStand_J61   ?_ | with_reducible refine frG_b2 ?_ (fun _ _ _ => ?_) | with_reducible refine frG_b3 ?_ (fun _ _ _ _ => ?_) | with_reducible refine frG_bd (fun _ => ?_) | with_reducible refine frG_glm ?_ (fun _ _ => ?_) | with_reducible refine frG_gl (fun _ => ?_) | with_reducible refine frG_ite ?_ ?_ | with_reducible refine frm_set ?_ (by assumption) | with_reducible refine frm_sl ?_ (by assumption) | with_reducible refine frm_fill ?_ (by assumption) | with_reducible refine frm_tx8 ?_ (by assumption) (by assumption) (by assumption) | intro _)

theorem fr_X7_canStand_J22 {S : Nat → Bool}  {al : Nat → Nat → Bool} {N : Nat}   {X0 X : gM}  (hX : frm S X0 X) : frG g2 S X0 (X7_canStand_J22 al N X) := by
  rw [X7_canStand_J22]
  repeat' (first | with_reducible assumption | with_reducible exact frG_none | with_reducible refine frG_some ?_ | with_reducible refine frG_b2 ?_ (fun _ _ _ => ?_) | with_reducible refine frG_b3 ?_ (fun _ _ _ _ => ?_) | with_reducible refine frG_bd (fun _ => ?_) | with_reducible refine frG_glm ?_ (fun _ _ => ?_) | with_reducible refine frG_gl (fun _ => ?_) | with_reducible refine frG_ite ?_ ?_ | with_reducible refine frm_set ?_ (by assumption) | with_reducible refine frm_sl ?_ (by assumption) | with_reducible refine frm_fill ?_ (by assumption) | with_reducible refine frm_tx8 ?_ (by assumption) (by assumption) (by assumption) | intro _)

theorem fr_X7_canStand {S : Nat → Bool}  {al : Nat → Nat → Bool} {N : Nat} {p0 : Nat} {p1 : Nat} {p2 : Int32} {p3 : Int32}  {X0 X : gM}  (hX : frm S X0 X) : frG g2 S X0 (X7_canStand al N p0 p1 p2 p3 X) := by
  rw [X7_canStand]
  repeat' (first | with_reducible assumption | with_reducible exact frG_none | with_reducible refine frG_some ?_ | with_reducible refine fr_X7_canStand_J40   ?_ | with_reducible refine fr_X7_canStand_J22   ?_ | with_reducible refine frG_b2 ?_ (fun _ _ _ => ?_) | with_reducible refine frG_b3 ?_ (fun _ _ _ _ => ?_) | with_reducible refine frG_bd (fun _ => ?_) | with_reducible refine frG_glm ?_ (fun _ _ => ?_) | with_reducible refine frG_gl (fun _ => ?_) | with_reducible refine frG_ite ?_ ?_ | with_reducible refine frm_set ?_ (by assumption) | with_reducible refine frm_sl ?_ (by assumption) | with_reducible refine frm_fill ?_ (by assumption) | with_reducible refine frm_tx8 ?_ (by assumption) (by assumption) (by assumption) | intro _)

theorem fr_X7_keepFit_J132 {S : Nat → Bool}  {al : Nat → Nat → Bool} {N : Nat}   {X0 X : gM}  (hX : frm S X0 X) : frG g2 S X0 (X7_keepFit_J132 al N X) := by
  rw [X7_keepFit_J132]
  repeat' (first | with_reducible assumption | with_reducible exact frG_none | with_reducible refine frG_some ?_ | with_reducible refine frG_b2 ?_ (fun _ _ _ => ?_) | with_reducible refine frG_b3 ?_ (fun _ _ _ _ => ?_) | with_reducible refine frG_bd (fun _ => ?_) | with_reducible refine frG_glm ?_ (fun _ _ => ?_) | with_reducible refine frG_gl (fun _ => ?_) | with_reducible refine frG_ite ?_ ?_ | with_reducible refine frm_set ?_ (by assumption) | with_reducible refine frm_sl ?_ (by assumption) | with_reducible refine frm_fill ?_ (by assumption) | with_reducible refine frm_tx8 ?_ (by assumption) (by assumption) (by assumption) | intro _)

theorem fr_X7_keepFit_J126 {S : Nat → Bool}  {al : Nat → Nat → Bool} {N : Nat} {p0 : Nat} {p1 : Int32} {kk : Nat → Int32 → gM → Option (Int32 × gM)} {k132 : gM → Option (Int32 × gM)} {X0 X : gM} (hkk : ∀ (a0 : Nat) (a1 : Int32) (Y : gM), frm S X0 Y → frG g2 S X0 (kk a0 a1 Y)) (hk132 : ∀  (Y : gM), frm S X0 Y → frG g2 S X0 (k132  Y)) (hX : frm S X0 X) : frG g2 S X0 (X7_keepFit_J126 al N kk k132 p0 p1 X) := by
  rw [X7_keepFit_J126]
  repeat' (first | with_reducible assumption | with_reducible exact frG_none | with_reducible refine frG_some ?_ | with_reducible refine hkk _ _ _ ?_ | with_reducible refine hk132 _ ?_ | with_reducible refine frG_b2 ?_ (fun _ _ _ => ?_) | with_reducible refine frG_b3 ?_ (fun _ _ _ _ => ?_) | with_reducible refine frG_bd (fun _ => ?_) | with_reducible refine frG_glm ?_ (fun _ _ => ?_) | with_reducible refine frG_gl (fun _ => ?_) | with_reducible refine frG_ite ?_ ?_ | with_reducible refine frm_set ?_ (by assumption) | with_reducible refine frm_sl ?_ (by assumption) | with_reducible refine frm_fill ?_ (by assumption) | with_reducible refine frm_tx8 ?_ (by assumption) (by assumption) (by assumption) | intro _)

theorem fr_X7_keepFit_L68 {S : Nat → Bool} (h16 : S 16 = true) {al : Nat → Nat → Bool} {N : Nat}  {k132 : gM → Option (Int32 × gM)} {X0 : gM} (hk132 : ∀  (Y : gM), frm S X0 Y → frG g2 S X0 (k132  Y)) : ∀ (n : Nat) (a1 : Nat) (a2 : Int32) (X : gM), frm S X0 X → frG g2 S X0 (X7_keepFit_L68 al N k132 n a1 a2 X) := by
  intro n
  induction n with
  | zero =>
    intro a1 a2 X hX
    rw [X7_keepFit_L68]
    exact frG_none
  | succ n ih =>
    intro a1 a2 X hX
    rw [X7_keepFit_L68]
    repeat' (first | with_reducible assumption | with_reducible exact frG_none | with_reducible refine frG_some ?_ | with_reducible refine fr_X7_keepFit_J126  ?_ ?_ ?_ | with_reducible refine hk132 _ ?_ | with_reducible refine ih _ _ _ ?_ | with_reducible refine frG_b2 ?_ (fun _ _ _ => ?_) | with_reducible refine frG_b3 ?_ (fun _ _ _ _ => ?_) | with_reducible refine frG_bd (fun _ => ?_) | with_reducible refine frG_glm ?_ (fun _ _ => ?_) | with_reducible refine frG_gl (fun _ => ?_) | with_reducible refine frG_ite ?_ ?_ | with_reducible refine frm_set ?_ (by assumption) | with_reducible refine frm_sl ?_ (by assumption) | with_reducible refine frm_fill ?_ (by assumption) | with_reducible refine frm_tx8 ?_ (by assumption) (by assumption) (by assumption) | intro _)

theorem fr_X7_keepFit_J66 {S : Nat → Bool} (h16 : S 16 = true) {al : Nat → Nat → Bool} {N : Nat} {p0 : Nat}  {X0 X : gM}  (hX : frm S X0 X) : frG g2 S X0 (X7_keepFit_J66 al N p0 X) := by
  rw [X7_keepFit_J66]
  repeat' (first | with_reducible assumption | with_reducible exact frG_none | with_reducible refine frG_some ?_ | with_reducible refine fr_X7_keepFit_L68 h16 ?_ _ _ _ _ ?_ | with_reducible refine fr_X7_keepFit_J132   ?_ | with_reducible refine frG_b2 ?_ (fun _ _ _ => ?_) | with_reducible refine frG_b3 ?_ (fun _ _ _ _ => ?_) | with_reducible refine frG_bd (fun _ => ?_) | with_reducible refine frG_glm ?_ (fun _ _ => ?_) | with_reducible refine frG_gl (fun _ => ?_) | with_reducible refine frG_ite ?_ ?_ | with_reducible refine frm_set ?_ (by assumption) | with_reducible refine frm_sl ?_ (by assumption) | with_reducible refine frm_fill ?_ (by assumption) | with_reducible refine frm_tx8 ?_ (by assumption) (by assumption) (by assumption) | intro _)

theorem fr_X7_keepFit_J60 {S : Nat → Bool}  {al : Nat → Nat → Bool} {N : Nat} {p0 : Nat} {p1 : Nat} {p2 : Int32} {p3 : Int32} {kk : Nat → Nat → Int32 → Int32 → gM → Option (Int32 × gM)} {k66 : Nat → gM → Option (Int32 × gM)} {X0 X : gM} (hkk : ∀ (a0 : Nat) (a1 : Nat) (a2 : Int32) (a3 : Int32) (Y : gM), frm S X0 Y → frG g2 S X0 (kk a0 a1 a2 a3 Y)) (hk66 : ∀ (a0 : Nat) (Y : gM), frm S X0 Y → frG g2 S X0 (k66 a0 Y)) (hX : frm S X0 X) : frG g2 S X0 (X7_keepFit_J60 al N kk k66 p0 p1 p2 p3 X) := by
  rw [X7_keepFit_J60]
  repeat' (first | with_reducible assumption | with_reducible exact frG_none | with_reducible refine frG_some ?_ | with_reducible refine hkk _ _ _ _ _ ?_ | with_reducible refine hk66 _ _ ?_ | with_reducible refine frG_b2 ?_ (fun _ _ _ => ?_) | with_reducible refine frG_b3 ?_ (fun _ _ _ _ => ?_) | with_reducible refine frG_bd (fun _ => ?_) | with_reducible refine frG_glm ?_ (fun _ _ => ?_) | with_reducible refine frG_gl (fun _ => ?_) | with_reducible refine frG_ite ?_ ?_ | with_reducible refine frm_set ?_ (by assumption) | with_reducible refine frm_sl ?_ (by assumption) | with_reducible refine frm_fill ?_ (by assumption) | with_reducible refine frm_tx8 ?_ (by assumption) (by assumption) (by assumption) | intro _)

theorem fr_X7_keepFit_L20 {S : Nat → Bool} (h15 : S 15 = true) {al : Nat → Nat → Bool} {N : Nat}  {k66 : Nat → gM → Option (Int32 × gM)} {X0 : gM} (hk66 : ∀ (a0 : Nat) (Y : gM), frm S X0 Y → frG g2 S X0 (k66 a0 Y)) : ∀ (n : Nat) (a1 : Nat) (a2 : Nat) (a3 : Int32) (a4 : Int32) (X : gM), frm S X0 X → frG g2 S X0 (X7_keepFit_L20 al N k66 n a1 a2 a3 a4 X) := by
  intro n
  induction n with
  | zero =>
    intro a1 a2 a3 a4 X hX
    rw [X7_keepFit_L20]
    exact frG_none
  | succ n ih =>
    intro a1 a2 a3 a4 X hX
    rw [X7_keepFit_L20]
    repeat' (first | with_reducible assumption | with_reducible exact frG_none | with_reducible refine frG_some ?_ | with_reducible refine fr_X7_keepFit_J60  ?_ ?_ ?_ | with_reducible refine hk66 _ _ ?_ | with_reducible refine ih _ _ _ _ _ ?_ | with_reducible refine frG_b2 ?_ (fun _ _ _ => ?_) | with_reducible refine frG_b3 ?_ (fun _ _ _ _ => ?_) | with_reducible refine frG_bd (fun _ => ?_) | with_reducible refine frG_glm ?_ (fun _ _ => ?_) | with_reducible refine frG_gl (fun _ => ?_) | with_reducible refine frG_ite ?_ ?_ | with_reducible refine frm_set ?_ (by assumption) | with_reducible refine frm_sl ?_ (by assumption) | with_reducible refine frm_fill ?_ (by assumption) | with_reducible refine frm_tx8 ?_ (by assumption) (by assumption) (by assumption) | intro _)

theorem fr_X7_keepFit {S : Nat → Bool} (h14 : S 14 = true) (h15 : S 15 = true) (h16 : S 16 = true) {al : Nat → Nat → Bool} {N : Nat} {p0 : Nat}  {X0 X : gM}  (hX : frm S X0 X) : frG g2 S X0 (X7_keepFit al N p0 X) := by
  rw [X7_keepFit]
  repeat' (first | with_reducible assumption | with_reducible exact frG_none | with_reducible refine frG_some ?_ | with_reducible refine fr_X7_keepFit_L20 h15 ?_ _ _ _ _ _ _ ?_ | with_reducible refine fr_X7_keepFit_J66 h16  ?_ | with_reducible refine frG_b2 ?_ (fun _ _ _ => ?_) | with_reducible refine frG_b3 ?_ (fun _ _ _ _ => ?_) | with_reducible refine frG_bd (fun _ => ?_) | with_reducible refine frG_glm ?_ (fun _ _ => ?_) | with_reducible refine frG_gl (fun _ => ?_) | with_reducible refine frG_ite ?_ ?_ | with_reducible refine frm_set ?_ (by assumption) | with_reducible refine frm_sl ?_ (by assumption) | with_reducible refine frm_fill ?_ (by assumption) | with_reducible refine frm_tx8 ?_ (by assumption) (by assumption) (by assumption) | intro _)

theorem fr_X7_keepSpared_J64 {S : Nat → Bool}  {al : Nat → Nat → Bool} {N : Nat}   {X0 X : gM}  (hX : frm S X0 X) : frG g2 S X0 (X7_keepSpared_J64 al N X) := by
  rw [X7_keepSpared_J64]
  repeat' (first | with_reducible assumption | with_reducible exact frG_none | with_reducible refine frG_some ?_ | with_reducible refine frG_b2 ?_ (fun _ _ _ => ?_) | with_reducible refine frG_b3 ?_ (fun _ _ _ _ => ?_) | with_reducible refine frG_bd (fun _ => ?_) | with_reducible refine frG_glm ?_ (fun _ _ => ?_) | with_reducible refine frG_gl (fun _ => ?_) | with_reducible refine frG_ite ?_ ?_ | with_reducible refine frm_set ?_ (by assumption) | with_reducible refine frm_sl ?_ (by assumption) | with_reducible refine frm_fill ?_ (by assumption) | with_reducible refine frm_tx8 ?_ (by assumption) (by assumption) (by assumption) | intro _)

theorem fr_X7_keepSpared_J58 {S : Nat → Bool}  {al : Nat → Nat → Bool} {N : Nat} {p0 : Nat} {p1 : Int32} {p2 : Nat} {p3 : Int32} {p4 : Int32} {kk : Nat → Int32 → Nat → Int32 → Int32 → gM → Option (Int32 × gM)} {k64 : gM → Option (Int32 × gM)} {X0 X : gM} (hkk : ∀ (a0 : Nat) (a1 : Int32) (a2 : Nat) (a3 : Int32) (a4 : Int32) (Y : gM), frm S X0 Y → frG g2 S X0 (kk a0 a1 a2 a3 a4 Y)) (hk64 : ∀  (Y : gM), frm S X0 Y → frG g2 S X0 (k64  Y)) (hX : frm S X0 X) : frG g2 S X0 (X7_keepSpared_J58 al N kk k64 p0 p1 p2 p3 p4 X) := by
  rw [X7_keepSpared_J58]
  repeat' (first | with_reducible assumption | with_reducible exact frG_none | with_reducible refine frG_some ?_ | with_reducible refine hkk _ _ _ _ _ _ ?_ | with_reducible refine hk64 _ ?_ | with_reducible refine frG_b2 ?_ (fun _ _ _ => ?_) | with_reducible refine frG_b3 ?_ (fun _ _ _ _ => ?_) | with_reducible refine frG_bd (fun _ => ?_) | with_reducible refine frG_glm ?_ (fun _ _ => ?_) | with_reducible refine frG_gl (fun _ => ?_) | with_reducible refine frG_ite ?_ ?_ | with_reducible refine frm_set ?_ (by assumption) | with_reducible refine frm_sl ?_ (by assumption) | with_reducible refine frm_fill ?_ (by assumption) | with_reducible refine frm_tx8 ?_ (by assumption) (by assumption) (by assumption) | intro _)

theorem fr_X7_keepSpared_L11 {S : Nat → Bool} (h17 : S 17 = true) {al : Nat → Nat → Bool} {N : Nat}  {k64 : gM → Option (Int32 × gM)} {X0 : gM} (hk64 : ∀  (Y : gM), frm S X0 Y → frG g2 S X0 (k64  Y)) : ∀ (n : Nat) (a1 : Nat) (a2 : Int32) (a3 : Nat) (a4 : Int32) (a5 : Int32) (X : gM), frm S X0 X → frG g2 S X0 (X7_keepSpared_L11 al N k64 n a1 a2 a3 a4 a5 X) := by
  intro n
  induction n with
  | zero =>
    intro a1 a2 a3 a4 a5 X hX
    rw [X7_keepSpared_L11]
    exact frG_none
  | succ n ih =>
    intro a1 a2 a3 a4 a5 X hX
    rw [X7_keepSpared_L11]
    repeat' (first | with_reducible assumption | with_reducible exact frG_none | with_reducible refine frG_some ?_ | with_reducible refine fr_X7_keepSpared_J58  ?_ ?_ ?_ | with_reducible refine hk64 _ ?_ | with_reducible refine ih _ _ _ _ _ _ ?_ | with_reducible refine frG_b2 ?_ (fun _ _ _ => ?_) | with_reducible refine frG_b3 ?_ (fun _ _ _ _ => ?_) | with_reducible refine frG_bd (fun _ => ?_) | with_reducible refine frG_glm ?_ (fun _ _ => ?_) | with_reducible refine frG_gl (fun _ => ?_) | with_reducible refine frG_ite ?_ ?_ | with_reducible refine frm_set ?_ (by assumption) | with_reducible refine frm_sl ?_ (by assumption) | with_reducible refine frm_fill ?_ (by assumption) | with_reducible refine frm_tx8 ?_ (by assumption) (by assumption) (by assumption) | intro _)

theorem fr_X7_keepSpared {S : Nat → Bool} (h17 : S 17 = true) {al : Nat → Nat → Bool} {N : Nat} {p0 : Nat} {p1 : Int32}  {X0 X : gM}  (hX : frm S X0 X) : frG g2 S X0 (X7_keepSpared al N p0 p1 X) := by
  rw [X7_keepSpared]
  repeat' (first | with_reducible assumption | with_reducible exact frG_none | with_reducible refine frG_some ?_ | with_reducible refine fr_X7_keepSpared_L11 h17 ?_ _ _ _ _ _ _ _ ?_ | with_reducible refine fr_X7_keepSpared_J64   ?_ | with_reducible refine frG_b2 ?_ (fun _ _ _ => ?_) | with_reducible refine frG_b3 ?_ (fun _ _ _ _ => ?_) | with_reducible refine frG_bd (fun _ => ?_) | with_reducible refine frG_glm ?_ (fun _ _ => ?_) | with_reducible refine frG_gl (fun _ => ?_) | with_reducible refine frG_ite ?_ ?_ | with_reducible refine frm_set ?_ (by assumption) | with_reducible refine frm_sl ?_ (by assumption) | with_reducible refine frm_fill ?_ (by assumption) | with_reducible refine frm_tx8 ?_ (by assumption) (by assumption) (by assumption) | intro _)

theorem fr_X7_keep_J17 {S : Nat → Bool}  {al : Nat → Nat → Bool} {N : Nat}   {X0 X : gM}  (hX : frm S X0 X) : frG g2 S X0 (X7_keep_J17 al N X) := by
  rw [X7_keep_J17]
  repeat' (first | with_reducible assumption | with_reducible exact frG_none | with_reducible refine frG_some ?_ | with_reducible refine frG_b2 ?_ (fun _ _ _ => ?_) | with_reducible refine frG_b3 ?_ (fun _ _ _ _ => ?_) | with_reducible refine frG_bd (fun _ => ?_) | with_reducible refine frG_glm ?_ (fun _ _ => ?_) | with_reducible refine frG_gl (fun _ => ?_) | with_reducible refine frG_ite ?_ ?_ | with_reducible refine frm_set ?_ (by assumption) | with_reducible refine frm_sl ?_ (by assumption) | with_reducible refine frm_fill ?_ (by assumption) | with_reducible refine frm_tx8 ?_ (by assumption) (by assumption) (by assumption) | intro _)

theorem fr_X7_keep {S : Nat → Bool} (h14 : S 14 = true) (h15 : S 15 = true) (h16 : S 16 = true) (h17 : S 17 = true) {al : Nat → Nat → Bool} {N : Nat} {p0 : Nat} {p1 : Int32}  {X0 X : gM}  (hX : frm S X0 X) : frG g2 S X0 (X7_keep al N p0 p1 X) := by
  rw [X7_keep]
  repeat' (first | with_reducible assumption | with_reducible exact frG_none | with_reducible refine frG_some ?_ | with_reducible refine fr_X7_keepFit h14 h15 h16  ?_ | with_reducible refine fr_X7_keep_J17   ?_ | with_reducible refine fr_X7_keepSpared h17  ?_ | with_reducible refine frG_b2 ?_ (fun _ _ _ => ?_) | with_reducible refine frG_b3 ?_ (fun _ _ _ _ => ?_) | with_reducible refine frG_bd (fun _ => ?_) | with_reducible refine frG_glm ?_ (fun _ _ => ?_) | with_reducible refine frG_gl (fun _ => ?_) | with_reducible refine frG_ite ?_ ?_ | with_reducible refine frm_set ?_ (by assumption) | with_reducible refine frm_sl ?_ (by assumption) | with_reducible refine frm_fill ?_ (by assumption) | with_reducible refine frm_tx8 ?_ (by assumption) (by assumption) (by assumption) | intro _)

theorem fr_X7_takeFacts_J98 {S : Nat → Bool}  {al : Nat → Nat → Bool} {N : Nat}   {X0 X : gM}  (hX : frm S X0 X) : frG g2 S X0 (X7_takeFacts_J98 al N X) := by
  rw [X7_takeFacts_J98]
  repeat' (first | with_reducible assumption | with_reducible exact frG_none | with_reducible refine frG_some ?_ | with_reducible refine frG_b2 ?_ (fun _ _ _ => ?_) | with_reducible refine frG_b3 ?_ (fun _ _ _ _ => ?_) | with_reducible refine frG_bd (fun _ => ?_) | with_reducible refine frG_glm ?_ (fun _ _ => ?_) | with_reducible refine frG_gl (fun _ => ?_) | with_reducible refine frG_ite ?_ ?_ | with_reducible refine frm_set ?_ (by assumption) | with_reducible refine frm_sl ?_ (by assumption) | with_reducible refine frm_fill ?_ (by assumption) | with_reducible refine frm_tx8 ?_ (by assumption) (by assumption) (by assumption) | intro _)

theorem fr_X7_takeFacts_J92 {S : Nat → Bool}  {al : Nat → Nat → Bool} {N : Nat} {p0 : Nat} {p3 : Int32} {p4 : Int32} {kk : Nat → Int32 → Int32 → gM → Option (Int32 × gM)} {k98 : gM → Option (Int32 × gM)} {X0 X : gM} (hkk : ∀ (a0 : Nat) (a1 : Int32) (a2 : Int32) (Y : gM), frm S X0 Y → frG g2 S X0 (kk a0 a1 a2 Y)) (hk98 : ∀  (Y : gM), frm S X0 Y → frG g2 S X0 (k98  Y)) (hX : frm S X0 X) : frG g2 S X0 (X7_takeFacts_J92 al N kk k98 p0 p3 p4 X) := by
  rw [X7_takeFacts_J92]
  repeat' (first | with_reducible assumption | with_reducible exact frG_none | with_reducible refine frG_some ?_ | with_reducible refine hkk _ _ _ _ ?_ | with_reducible refine hk98 _ ?_ | with_reducible refine frG_b2 ?_ (fun _ _ _ => ?_) | with_reducible refine frG_b3 ?_ (fun _ _ _ _ => ?_) | with_reducible refine frG_bd (fun _ => ?_) | with_reducible refine frG_glm ?_ (fun _ _ => ?_) | with_reducible refine frG_gl (fun _ => ?_) | with_reducible refine frG_ite ?_ ?_ | with_reducible refine frm_set ?_ (by assumption) | with_reducible refine frm_sl ?_ (by assumption) | with_reducible refine frm_fill ?_ (by assumption) | with_reducible refine frm_tx8 ?_ (by assumption) (by assumption) (by assumption) | intro _)

theorem fr_X7_takeFacts_J56 {S : Nat → Bool} (h14 : S 14 = true) (h18 : S 18 = true) {al : Nat → Nat → Bool} {N : Nat} {p0 : Nat} {p3 : Int32} {p4 : Int32} {p5 : Int32} {kk : Nat → Int32 → Int32 → gM → Option (Int32 × gM)} {k98 : gM → Option (Int32 × gM)} {X0 X : gM} (hkk : ∀ (a0 : Nat) (a1 : Int32) (a2 : Int32) (Y : gM), frm S X0 Y → frG g2 S X0 (kk a0 a1 a2 Y)) (hk98 : ∀  (Y : gM), frm S X0 Y → frG g2 S X0 (k98  Y)) (hX : frm S X0 X) : frG g2 S X0 (X7_takeFacts_J56 al N kk k98 p0 p3 p4 p5 X) := by
  rw [X7_takeFacts_J56]
  repeat' (first | with_reducible assumption | with_reducible exact frG_none | with_reducible refine frG_some ?_ | with_reducible refine fr_X7_takeFacts_J92  ?_ ?_ ?_ | with_reducible refine hkk _ _ _ _ ?_ | with_reducible refine hk98 _ ?_ | with_reducible refine frG_b2 ?_ (fun _ _ _ => ?_) | with_reducible refine frG_b3 ?_ (fun _ _ _ _ => ?_) | with_reducible refine frG_bd (fun _ => ?_) | with_reducible refine frG_glm ?_ (fun _ _ => ?_) | with_reducible refine frG_gl (fun _ => ?_) | with_reducible refine frG_ite ?_ ?_ | with_reducible refine frm_set ?_ (by assumption) | with_reducible refine frm_sl ?_ (by assumption) | with_reducible refine frm_fill ?_ (by assumption) | with_reducible refine frm_tx8 ?_ (by assumption) (by assumption) (by assumption) | intro _)

theorem fr_X7_takeFacts_L13 {S : Nat → Bool} (h14 : S 14 = true) (h18 : S 18 = true) {al : Nat → Nat → Bool} {N : Nat}  {k98 : gM → Option (Int32 × gM)} {X0 : gM} (hk98 : ∀  (Y : gM), frm S X0 Y → frG g2 S X0 (k98  Y)) : ∀ (n : Nat) (a1 : Nat) (a2 : Int32) (a3 : Int32) (X : gM), frm S X0 X → frG g2 S X0 (X7_takeFacts_L13 al N k98 n a1 a2 a3 X) := by
  intro n
  induction n with
  | zero =>
    intro a1 a2 a3 X hX
    rw [X7_takeFacts_L13]
    exact frG_none
  | succ n ih =>
    intro a1 a2 a3 X hX
    rw [X7_takeFacts_L13]
    repeat' (first | with_reducible assumption | with_reducible exact frG_none | with_reducible refine frG_some ?_ | with_reducible refine fr_X7_takeFacts_J92  ?_ ?_ ?_ | with_reducible refine fr_X7_takeFacts_J56 h14 h18 ?_ ?_ ?_ | with_reducible refine hk98 _ ?_ | with_reducible refine ih _ _ _ _ ?_ | with_reducible refine frG_b2 ?_ (fun _ _ _ => ?_) | with_reducible refine frG_b3 ?_ (fun _ _ _ _ => ?_) | with_reducible refine frG_bd (fun _ => ?_) | with_reducible refine frG_glm ?_ (fun _ _ => ?_) | with_reducible refine frG_gl (fun _ => ?_) | with_reducible refine frG_ite ?_ ?_ | with_reducible refine frm_set ?_ (by assumption) | with_reducible refine frm_sl ?_ (by assumption) | with_reducible refine frm_fill ?_ (by assumption) | with_reducible refine frm_tx8 ?_ (by assumption) (by assumption) (by assumption) | intro _)

theorem fr_X7_takeFacts {S : Nat → Bool} (h14 : S 14 = true) (h18 : S 18 = true) {al : Nat → Nat → Bool} {N : Nat} {p0 : Nat}  {X0 X : gM}  (hX : frm S X0 X) : frG g2 S X0 (X7_takeFacts al N p0 X) := by
  rw [X7_takeFacts]
  repeat' (first | with_reducible assumption | with_reducible exact frG_none | with_reducible refine frG_some ?_ | with_reducible refine fr_X7_takeFacts_L13 h14 h18 ?_ _ _ _ _ _ ?_ | with_reducible refine fr_X7_takeFacts_J98   ?_ | with_reducible refine frG_b2 ?_ (fun _ _ _ => ?_) | with_reducible refine frG_b3 ?_ (fun _ _ _ _ => ?_) | with_reducible refine frG_bd (fun _ => ?_) | with_reducible refine frG_glm ?_ (fun _ _ => ?_) | with_reducible refine frG_gl (fun _ => ?_) | with_reducible refine frG_ite ?_ ?_ | with_reducible refine frm_set ?_ (by assumption) | with_reducible refine frm_sl ?_ (by assumption) | with_reducible refine frm_fill ?_ (by assumption) | with_reducible refine frm_tx8 ?_ (by assumption) (by assumption) (by assumption) | intro _)

theorem fr_X7_seek_J185 {S : Nat → Bool}  {al : Nat → Nat → Bool} {N : Nat}  {rec : Nat → Int32 → Int32 → Int32 → Int32 → Int32 → gM → Option (Int32 × gM)} {X0 X : gM} (hrec : ∀ (a0 : Nat) (a1 : Int32) (a2 : Int32) (a3 : Int32) (a4 : Int32) (a5 : Int32) (Y : gM), frm S X0 Y → frG g2 S X0 (rec a0 a1 a2 a3 a4 a5 Y)) (hX : frm S X0 X) : frG g2 S X0 (X7_seek_J185 al N rec X) := by
  rw [X7_seek_J185]
  repeat' (first | with_reducible assumption | with_reducible exact frG_none | with_reducible refine frG_some ?_ | with_reducible refine hrec _ _ _ _ _ _ _ ?_ | with_reducible refine frG_b2 ?_ (fun _ _ _ => ?_) | with_reducible refine frG_b3 ?_ (fun _ _ _ _ => ?_) | with_reducible refine frG_bd (fun _ => ?_) | with_reducible refine frG_glm ?_ (fun _ _ => ?_) | with_reducible refine frG_gl (fun _ => ?_) | with_reducible refine frG_ite ?_ ?_ | with_reducible refine frm_set ?_ (by assumption) | with_reducible refine frm_sl ?_ (by assumption) | with_reducible refine frm_fill ?_ (by assumption) | with_reducible refine frm_tx8 ?_ (by assumption) (by assumption) (by assumption) | intro _)

theorem fr_X7_seek_J179 {S : Nat → Bool}  {al : Nat → Nat → Bool} {N : Nat} {p0 : Nat} {p1 : Int32} {p2 : Int32} {p3 : Int32} {p4 : Int32} {p5 : Int32} {p6 : Nat} {p7 : Int32} {p8 : Int32} {rec : Nat → Int32 → Int32 → Int32 → Int32 → Int32 → gM → Option (Int32 × gM)} {kk : Nat → Int32 → Int32 → Int32 → Int32 → Int32 → Nat → Int32 → Int32 → gM → Option (Int32 × gM)} {k185 : gM → Option (Int32 × gM)} {X0 X : gM} (hrec : ∀ (a0 : Nat) (a1 : Int32) (a2 : Int32) (a3 : Int32) (a4 : Int32) (a5 : Int32) (Y : gM), frm S X0 Y → frG g2 S X0 (rec a0 a1 a2 a3 a4 a5 Y)) (hkk : ∀ (a0 : Nat) (a1 : Int32) (a2 : Int32) (a3 : Int32) (a4 : Int32) (a5 : Int32) (a6 : Nat) (a7 : Int32) (a8 : Int32) (Y : gM), frm S X0 Y → frG g2 S X0 (kk a0 a1 a2 a3 a4 a5 a6 a7 a8 Y)) (hk185 : ∀  (Y : gM), frm S X0 Y → frG g2 S X0 (k185  Y)) (hX : frm S X0 X) : frG g2 S X0 (X7_seek_J179 al N rec kk k185 p0 p1 p2 p3 p4 p5 p6 p7 p8 X) := by
  rw [X7_seek_J179]
  repeat' (first | with_reducible assumption | with_reducible exact frG_none | with_reducible refine frG_some ?_ | with_reducible refine hrec _ _ _ _ _ _ _ ?_ | with_reducible refine hkk _ _ _ _ _ _ _ _ _ _ ?_ | with_reducible refine hk185 _ ?_ | with_reducible refine frG_b2 ?_ (fun _ _ _ => ?_) | with_reducible refine frG_b3 ?_ (fun _ _ _ _ => ?_) | with_reducible refine frG_bd (fun _ => ?_) | with_reducible refine frG_glm ?_ (fun _ _ => ?_) | with_reducible refine frG_gl (fun _ => ?_) | with_reducible refine frG_ite ?_ ?_ | with_reducible refine frm_set ?_ (by assumption) | with_reducible refine frm_sl ?_ (by assumption) | with_reducible refine frm_fill ?_ (by assumption) | with_reducible refine frm_tx8 ?_ (by assumption) (by assumption) (by assumption) | intro _)

theorem fr_X7_seek_J161 {S : Nat → Bool} (h20 : S 20 = true) (h21 : S 21 = true) {al : Nat → Nat → Bool} {N : Nat} {p0 : Nat} {p1 : Int32} {p2 : Int32} {p3 : Int32} {p4 : Int32} {p5 : Int32} {p6 : Nat} {p7 : Int32} {p8 : Int32} {p9 : Int32} {rec : Nat → Int32 → Int32 → Int32 → Int32 → Int32 → gM → Option (Int32 × gM)} {kk : Nat → Int32 → Int32 → Int32 → Int32 → Int32 → Nat → Int32 → Int32 → gM → Option (Int32 × gM)} {k185 : gM → Option (Int32 × gM)} {X0 X : gM} (hrec : ∀ (a0 : Nat) (a1 : Int32) (a2 : Int32) (a3 : Int32) (a4 : Int32) (a5 : Int32) (Y : gM), frm S X0 Y → frG g2 S X0 (rec a0 a1 a2 a3 a4 a5 Y)) (hkk : ∀ (a0 : Nat) (a1 : Int32) (a2 : Int32) (a3 : Int32) (a4 : Int32) (a5 : Int32) (a6 : Nat) (a7 : Int32) (a8 : Int32) (Y : gM), frm S X0 Y → frG g2 S X0 (kk a0 a1 a2 a3 a4 a5 a6 a7 a8 Y)) (hk185 : ∀  (Y : gM), frm S X0 Y → frG g2 S X0 (k185  Y)) (hX : frm S X0 X) : frG g2 S X0 (X7_seek_J161 al N rec kk k185 p0 p1 p2 p3 p4 p5 p6 p7 p8 p9 X) := by
  rw [X7_seek_J161]
  repeat' (first | with_reducible assumption | with_reducible exact frG_none | with_reducible refine frG_some ?_ | with_reducible refine fr_X7_seek_J179  ?_ ?_ ?_ ?_ | with_reducible refine hrec _ _ _ _ _ _ _ ?_ | with_reducible refine hkk _ _ _ _ _ _ _ _ _ _ ?_ | with_reducible refine hk185 _ ?_ | with_reducible refine frG_b2 ?_ (fun _ _ _ => ?_) | with_reducible refine frG_b3 ?_ (fun _ _ _ _ => ?_) | with_reducible refine frG_bd (fun _ => ?_) | with_reducible refine frG_glm ?_ (fun _ _ => ?_) | with_reducible refine frG_gl (fun _ => ?_) | with_reducible refine frG_ite ?_ ?_ | with_reducible refine frm_set ?_ (by assumption) | with_reducible refine frm_sl ?_ (by assumption) | with_reducible refine frm_fill ?_ (by assumption) | with_reducible refine frm_tx8 ?_ (by assumption) (by assumption) (by assumption) | intro _)

theorem fr_X7_seek_L57 {S : Nat → Bool} (h20 : S 20 = true) (h21 : S 21 = true) {al : Nat → Nat → Bool} {N : Nat}  {rec : Nat → Int32 → Int32 → Int32 → Int32 → Int32 → gM → Option (Int32 × gM)} {k185 : gM → Option (Int32 × gM)} {X0 : gM} (hrec : ∀ (a0 : Nat) (a1 : Int32) (a2 : Int32) (a3 : Int32) (a4 : Int32) (a5 : Int32) (Y : gM), frm S X0 Y → frG g2 S X0 (rec a0 a1 a2 a3 a4 a5 Y)) (hk185 : ∀  (Y : gM), frm S X0 Y → frG g2 S X0 (k185  Y)) : ∀ (n : Nat) (a1 : Nat) (a2 : Int32) (a3 : Int32) (a4 : Int32) (a5 : Int32) (a6 : Int32) (a7 : Nat) (a8 : Int32) (a9 : Int32) (X : gM), frm S X0 X → frG g2 S X0 (X7_seek_L57 al N rec k185 n a1 a2 a3 a4 a5 a6 a7 a8 a9 X) := by
  intro n
  induction n with
  | zero =>
    intro a1 a2 a3 a4 a5 a6 a7 a8 a9 X hX
    rw [X7_seek_L57]
    exact frG_none
  | succ n ih =>
    intro a1 a2 a3 a4 a5 a6 a7 a8 a9 X hX
    rw [X7_seek_L57]
    repeat' (first | with_reducible assumption | with_reducible exact frG_none | with_reducible refine frG_some ?_ | with_reducible refine fr_X7_seek_J179  ?_ ?_ ?_ ?_ | with_reducible refine fr_X7_canStand   ?_ | with_reducible refine fr_X7_brokenWith   ?_ | with_reducible refine fr_X7_seek_J161 h20 h21 ?_ ?_ ?_ ?_ | with_reducible refine hrec _ _ _ _ _ _ _ ?_ | with_reducible refine hk185 _ ?_ | with_reducible refine ih _ _ _ _ _ _ _ _ _ _ ?_ | with_reducible refine frG_b2 ?_ (fun _ _ _ => ?_) | with_reducible refine frG_b3 ?_ (fun _ _ _ _ => ?_) | with_reducible refine frG_bd (fun _ => ?_) | with_reducible refine frG_glm ?_ (fun _ _ => ?_) | with_reducible refine frG_gl (fun _ => ?_) | with_reducible refine frG_ite ?_ ?_ | with_reducible refine frm_set ?_ (by assumption) | with_reducible refine frm_sl ?_ (by assumption) | with_reducible refine frm_fill ?_ (by assumption) | with_reducible refine frm_tx8 ?_ (by assumption) (by assumption) (by assumption) | intro _)

theorem fr_X7_seek_J29 {S : Nat → Bool}  {al : Nat → Nat → Bool} {N : Nat}  {rec : Nat → Int32 → Int32 → Int32 → Int32 → Int32 → gM → Option (Int32 × gM)} {X0 X : gM} (hrec : ∀ (a0 : Nat) (a1 : Int32) (a2 : Int32) (a3 : Int32) (a4 : Int32) (a5 : Int32) (Y : gM), frm S X0 Y → frG g2 S X0 (rec a0 a1 a2 a3 a4 a5 Y)) (hX : frm S X0 X) : frG g2 S X0 (X7_seek_J29 al N rec X) := by
  rw [X7_seek_J29]
  repeat' (first | with_reducible assumption | with_reducible exact frG_none | with_reducible refine frG_some ?_ | with_reducible refine hrec _ _ _ _ _ _ _ ?_ | with_reducible refine frG_b2 ?_ (fun _ _ _ => ?_) | with_reducible refine frG_b3 ?_ (fun _ _ _ _ => ?_) | with_reducible refine frG_bd (fun _ => ?_) | with_reducible refine frG_glm ?_ (fun _ _ => ?_) | with_reducible refine frG_gl (fun _ => ?_) | with_reducible refine frG_ite ?_ ?_ | with_reducible refine frm_set ?_ (by assumption) | with_reducible refine frm_sl ?_ (by assumption) | with_reducible refine frm_fill ?_ (by assumption) | with_reducible refine frm_tx8 ?_ (by assumption) (by assumption) (by assumption) | intro _)

theorem fr_X7_seek_B {S : Nat → Bool} (h14 : S 14 = true) (h15 : S 15 = true) (h16 : S 16 = true) (h17 : S 17 = true) (h20 : S 20 = true) (h21 : S 21 = true) {al : Nat → Nat → Bool} {N : Nat} {p0 : Nat} {p1 : Int32} {p2 : Int32} {p3 : Int32} {p4 : Int32} {p5 : Int32} {rec : Nat → Int32 → Int32 → Int32 → Int32 → Int32 → gM → Option (Int32 × gM)} {X0 X : gM} (hrec : ∀ (a0 : Nat) (a1 : Int32) (a2 : Int32) (a3 : Int32) (a4 : Int32) (a5 : Int32) (Y : gM), frm S X0 Y → frG g2 S X0 (rec a0 a1 a2 a3 a4 a5 Y)) (hX : frm S X0 X) : frG g2 S X0 (X7_seek_B al N rec p0 p1 p2 p3 p4 p5 X) := by
  rw [X7_seek_B]
  repeat' (first | with_reducible assumption | with_reducible exact frG_none | with_reducible refine frG_some ?_ | with_reducible refine fr_X7_keep h14 h15 h16 h17  ?_ | with_reducible refine fr_X7_seek_J29  ?_ ?_ | with_reducible refine fr_X7_seek_L57 h20 h21 ?_ ?_ _ _ _ _ _ _ _ _ _ _ _ ?_ | with_reducible refine fr_X7_seek_J185  ?_ ?_ | with_reducible refine hrec _ _ _ _ _ _ _ ?_ | with_reducible refine frG_b2 ?_ (fun _ _ _ => ?_) | with_reducible refine frG_b3 ?_ (fun _ _ _ _ => ?_) | with_reducible refine frG_bd (fun _ => ?_) | with_reducible refine frG_glm ?_ (fun _ _ => ?_) | with_reducible refine frG_gl (fun _ => ?_) | with_reducible refine frG_ite ?_ ?_ | with_reducible refine frm_set ?_ (by assumption) | with_reducible refine frm_sl ?_ (by assumption) | with_reducible refine frm_fill ?_ (by assumption) | with_reducible refine frm_tx8 ?_ (by assumption) (by assumption) (by assumption) | intro _)

theorem fr_X7_seek {S : Nat → Bool} (h14 : S 14 = true) (h15 : S 15 = true) (h16 : S 16 = true) (h17 : S 17 = true) (h20 : S 20 = true) (h21 : S 21 = true) {al : Nat → Nat → Bool} {N : Nat} {X0 : gM} : ∀ (n : Nat) (a1 : Nat) (a2 a3 a4 a5 a6 : Int32) (X : gM), frm S X0 X → frG g2 S X0 (X7_seek al N n a1 a2 a3 a4 a5 a6 X) := by
  intro n
  induction n with
  | zero =>
    intro a1 a2 a3 a4 a5 a6 X hX
    rw [X7_seek]
    exact frG_none
  | succ n ih =>
    intro a1 a2 a3 a4 a5 a6 X hX
    rw [X7_seek]
    exact fr_X7_seek_B h14 h15 h16 h17 h20 h21 (fun _ _ _ _ _ _ _ h => ih _ _ _ _ _ _ _ h) hX

theorem fr_X7_make {S : Nat → Bool} (h14 : S 14 = true) (h15 : S 15 = true) (h16 : S 16 = true) (h17 : S 17 = true) (h18 : S 18 = true) (h20 : S 20 = true) (h21 : S 21 = true) {al : Nat → Nat → Bool} {N : Nat} {p0 : Nat} {p1 : Nat}  {X0 X : gM}  (hX : frm S X0 X) : frG g2 S X0 (X7_make al N p0 p1 X) := by
  rw [X7_make]
  repeat' (first | with_reducible assumption | with_reducible exact frG_none | with_reducible refine frG_some ?_ | with_reducible refine fr_X7_takeFacts h14 h18  ?_ | with_reducible refine fr_X7_seek h14 h15 h16 h17 h20 h21  _ _ _ _ _ _ _ _ ?_ | with_reducible refine frG_b2 ?_ (fun _ _ _ => ?_) | with_reducible refine frG_b3 ?_ (fun _ _ _ _ => ?_) | with_reducible refine frG_bd (fun _ => ?_) | with_reducible refine frG_glm ?_ (fun _ _ => ?_) | with_reducible refine frG_gl (fun _ => ?_) | with_reducible refine frG_ite ?_ ?_ | with_reducible refine frm_set ?_ (by assumption) | with_reducible refine frm_sl ?_ (by assumption) | with_reducible refine frm_fill ?_ (by assumption) | with_reducible refine frm_tx8 ?_ (by assumption) (by assumption) (by assumption) | intro _)

theorem fr_X5_hasRoom_J30 {S : Nat → Bool}  {al : Nat → Nat → Bool} {N : Nat} {s0 : Int32}  {X0 X : gM}  (hX : frm S X0 X) : frG g2 S X0 (X5_hasRoom_J30 al N s0 X) := by
  rw [X5_hasRoom_J30]
  repeat' (first | with_reducible assumption | with_reducible exact frG_none | with_reducible refine frG_some ?_ | with_reducible refine frG_b2 ?_ (fun _ _ _ => ?_) | with_reducible refine frG_b3 ?_ (fun _ _ _ _ => ?_) | with_reducible refine frG_bd (fun _ => ?_) | with_reducible refine frG_glm ?_ (fun _ _ => ?_) | with_reducible refine frG_gl (fun _ => ?_) | with_reducible refine frG_ite ?_ ?_ | with_reducible refine frm_set ?_ (by assumption) | with_reducible refine frm_sl ?_ (by assumption) | with_reducible refine frm_fill ?_ (by assumption) | with_reducible refine frm_tx8 ?_ (by assumption) (by assumption) (by assumption) | intro _)

theorem fr_X5_hasRoom_J29 {S : Nat → Bool}  {al : Nat → Nat → Bool} {N : Nat}   {X0 X : gM}  (hX : frm S X0 X) : frG g2 S X0 (X5_hasRoom_J29 al N X) := by
  rw [X5_hasRoom_J29]
  repeat' (first | with_reducible assumption | with_reducible exact frG_none | with_reducible refine frG_some ?_ | with_reducible refine fr_X5_hasRoom_J30   ?_ | with_reducible refine frG_b2 ?_ (fun _ _ _ => ?_) | with_reducible refine frG_b3 ?_ (fun _ _ _ _ => ?_) | with_reducible refine frG_bd (fun _ => ?_) | with_reducible refine frG_glm ?_ (fun _ _ => ?_) | with_reducible refine frG_gl (fun _ => ?_) | with_reducible refine frG_ite ?_ ?_ | with_reducible refine frm_set ?_ (by assumption) | with_reducible refine frm_sl ?_ (by assumption) | with_reducible refine frm_fill ?_ (by assumption) | with_reducible refine frm_tx8 ?_ (by assumption) (by assumption) (by assumption) | intro _)

theorem fr_X5_hasRoom {S : Nat → Bool}  {al : Nat → Nat → Bool} {N : Nat} {p0 : Nat}  {X0 X : gM}  (hX : frm S X0 X) : frG g2 S X0 (X5_hasRoom al N p0 X) := by
  rw [X5_hasRoom]
  repeat' (first | with_reducible assumption | with_reducible exact frG_none | with_reducible refine frG_some ?_ | with_reducible refine fr_X5_hasRoom_J29   ?_ | with_reducible refine fr_X5_hasRoom_J30   ?_ | with_reducible refine frG_b2 ?_ (fun _ _ _ => ?_) | with_reducible refine frG_b3 ?_ (fun _ _ _ _ => ?_) | with_reducible refine frG_bd (fun _ => ?_) | with_reducible refine frG_glm ?_ (fun _ _ => ?_) | with_reducible refine frG_gl (fun _ => ?_) | with_reducible refine frG_ite ?_ ?_ | with_reducible refine frm_set ?_ (by assumption) | with_reducible refine frm_sl ?_ (by assumption) | with_reducible refine frm_fill ?_ (by assumption) | with_reducible refine frm_tx8 ?_ (by assumption) (by assumption) (by assumption) | intro _)

theorem fr_X5_hasPlace_J19 {S : Nat → Bool}  {al : Nat → Nat → Bool} {N : Nat} {s0 : Int32}  {X0 X : gM}  (hX : frm S X0 X) : frG g2 S X0 (X5_hasPlace_J19 al N s0 X) := by
  rw [X5_hasPlace_J19]
  repeat' (first | with_reducible assumption | with_reducible exact frG_none | with_reducible refine frG_some ?_ | with_reducible refine frG_b2 ?_ (fun _ _ _ => ?_) | with_reducible refine frG_b3 ?_ (fun _ _ _ _ => ?_) | with_reducible refine frG_bd (fun _ => ?_) | with_reducible refine frG_glm ?_ (fun _ _ => ?_) | with_reducible refine frG_gl (fun _ => ?_) | with_reducible refine frG_ite ?_ ?_ | with_reducible refine frm_set ?_ (by assumption) | with_reducible refine frm_sl ?_ (by assumption) | with_reducible refine frm_fill ?_ (by assumption) | with_reducible refine frm_tx8 ?_ (by assumption) (by assumption) (by assumption) | intro _)

theorem fr_X5_hasPlace_J18 {S : Nat → Bool}  {al : Nat → Nat → Bool} {N : Nat}   {X0 X : gM}  (hX : frm S X0 X) : frG g2 S X0 (X5_hasPlace_J18 al N X) := by
  rw [X5_hasPlace_J18]
  repeat' (first | with_reducible assumption | with_reducible exact frG_none | with_reducible refine frG_some ?_ | with_reducible refine fr_X5_hasPlace_J19   ?_ | with_reducible refine frG_b2 ?_ (fun _ _ _ => ?_) | with_reducible refine frG_b3 ?_ (fun _ _ _ _ => ?_) | with_reducible refine frG_bd (fun _ => ?_) | with_reducible refine frG_glm ?_ (fun _ _ => ?_) | with_reducible refine frG_gl (fun _ => ?_) | with_reducible refine frG_ite ?_ ?_ | with_reducible refine frm_set ?_ (by assumption) | with_reducible refine frm_sl ?_ (by assumption) | with_reducible refine frm_fill ?_ (by assumption) | with_reducible refine frm_tx8 ?_ (by assumption) (by assumption) (by assumption) | intro _)

theorem fr_X5_hasPlace {S : Nat → Bool}  {al : Nat → Nat → Bool} {N : Nat} {p0 : Nat} {p1 : Int32}  {X0 X : gM}  (hX : frm S X0 X) : frG g2 S X0 (X5_hasPlace al N p0 p1 X) := by
  rw [X5_hasPlace]
  repeat' (first | with_reducible assumption | with_reducible exact frG_none | with_reducible refine frG_some ?_ | with_reducible refine fr_X5_hasPlace_J18   ?_ | with_reducible refine fr_X5_hasPlace_J19   ?_ | with_reducible refine frG_b2 ?_ (fun _ _ _ => ?_) | with_reducible refine frG_b3 ?_ (fun _ _ _ _ => ?_) | with_reducible refine frG_bd (fun _ => ?_) | with_reducible refine frG_glm ?_ (fun _ _ => ?_) | with_reducible refine frG_gl (fun _ => ?_) | with_reducible refine frG_ite ?_ ?_ | with_reducible refine frm_set ?_ (by assumption) | with_reducible refine frm_sl ?_ (by assumption) | with_reducible refine frm_fill ?_ (by assumption) | with_reducible refine frm_tx8 ?_ (by assumption) (by assumption) (by assumption) | intro _)

theorem fr_X5_forget {S : Nat → Bool} (h14 : S 14 = true) {al : Nat → Nat → Bool} {N : Nat} {p0 : Nat}  {X0 X : gM}  (hX : frm S X0 X) : frG g2 S X0 (X5_forget al N p0 X) := by
  rw [X5_forget]
  repeat' (first | with_reducible assumption | with_reducible exact frG_none | with_reducible refine frG_some ?_ | with_reducible refine frG_b2 ?_ (fun _ _ _ => ?_) | with_reducible refine frG_b3 ?_ (fun _ _ _ _ => ?_) | with_reducible refine frG_bd (fun _ => ?_) | with_reducible refine frG_glm ?_ (fun _ _ => ?_) | with_reducible refine frG_gl (fun _ => ?_) | with_reducible refine frG_ite ?_ ?_ | with_reducible refine frm_set ?_ (by assumption) | with_reducible refine frm_sl ?_ (by assumption) | with_reducible refine frm_fill ?_ (by assumption) | with_reducible refine frm_tx8 ?_ (by assumption) (by assumption) (by assumption) | intro _)

theorem fr_X5_take {S : Nat → Bool} (h12 : S 12 = true) (h13 : S 13 = true) (h14 : S 14 = true) {al : Nat → Nat → Bool} {N : Nat} {p0 : Nat} {p1 : Int32}  {X0 X : gM}  (hX : frm S X0 X) : frG g2 S X0 (X5_take al N p0 p1 X) := by
  rw [X5_take]
  repeat' (first | with_reducible assumption | with_reducible exact frG_none | with_reducible refine frG_some ?_ | with_reducible refine fr_X5_forget h14  ?_ | with_reducible refine frG_b2 ?_ (fun _ _ _ => ?_) | with_reducible refine frG_b3 ?_ (fun _ _ _ _ => ?_) | with_reducible refine frG_bd (fun _ => ?_) | with_reducible refine frG_glm ?_ (fun _ _ => ?_) | with_reducible refine frG_gl (fun _ => ?_) | with_reducible refine frG_ite ?_ ?_ | with_reducible refine frm_set ?_ (by assumption) | with_reducible refine frm_sl ?_ (by assumption) | with_reducible refine frm_fill ?_ (by assumption) | with_reducible refine frm_tx8 ?_ (by assumption) (by assumption) (by assumption) | intro _)

theorem fr_X5_surveyed_J29 {S : Nat → Bool}  {al : Nat → Nat → Bool} {N : Nat} {p3 : Nat}  {X0 X : gM}  (hX : frm S X0 X) : frG g2 S X0 (X5_surveyed_J29 al N p3 X) := by
  rw [X5_surveyed_J29]
  repeat' (first | with_reducible assumption | with_reducible exact frG_none | with_reducible refine frG_some ?_ | with_reducible refine frG_b2 ?_ (fun _ _ _ => ?_) | with_reducible refine frG_b3 ?_ (fun _ _ _ _ => ?_) | with_reducible refine frG_bd (fun _ => ?_) | with_reducible refine frG_glm ?_ (fun _ _ => ?_) | with_reducible refine frG_gl (fun _ => ?_) | with_reducible refine frG_ite ?_ ?_ | with_reducible refine frm_set ?_ (by assumption) | with_reducible refine frm_sl ?_ (by assumption) | with_reducible refine frm_fill ?_ (by assumption) | with_reducible refine frm_tx8 ?_ (by assumption) (by assumption) (by assumption) | intro _)

theorem fr_X5_surveyed_J15 {S : Nat → Bool} (h14 : S 14 = true) (h15 : S 15 = true) (h16 : S 16 = true) (h17 : S 17 = true) (h18 : S 18 = true) (h20 : S 20 = true) (h21 : S 21 = true) {al : Nat → Nat → Bool} {N : Nat} {p0 : Nat} {s0 : Nat}  {X0 X : gM}  (hX : frm S X0 X) : frG g2 S X0 (X5_surveyed_J15 al N p0 s0 X) := by
  rw [X5_surveyed_J15]
  repeat' (first | with_reducible assumption | with_reducible exact frG_none | with_reducible refine frG_some ?_ | with_reducible refine fr_X7_make h14 h15 h16 h17 h18 h20 h21  ?_ | with_reducible refine fr_X5_surveyed_J29   ?_ | with_reducible refine frG_b2 ?_ (fun _ _ _ => ?_) | with_reducible refine frG_b3 ?_ (fun _ _ _ _ => ?_) | with_reducible refine frG_bd (fun _ => ?_) | with_reducible refine frG_glm ?_ (fun _ _ => ?_) | with_reducible refine frG_gl (fun _ => ?_) | with_reducible refine frG_ite ?_ ?_ | with_reducible refine frm_set ?_ (by assumption) | with_reducible refine frm_sl ?_ (by assumption) | with_reducible refine frm_fill ?_ (by assumption) | with_reducible refine frm_tx8 ?_ (by assumption) (by assumption) (by assumption) | intro _)

theorem fr_X5_surveyed {S : Nat → Bool} (h14 : S 14 = true) (h15 : S 15 = true) (h16 : S 16 = true) (h17 : S 17 = true) (h18 : S 18 = true) (h20 : S 20 = true) (h21 : S 21 = true) {al : Nat → Nat → Bool} {N : Nat} {p0 : Nat} {p1 : Int32}  {X0 X : gM}  (hX : frm S X0 X) : frG g2 S X0 (X5_surveyed al N p0 p1 X) := by
  rw [X5_surveyed]
  repeat' (first | with_reducible assumption | with_reducible exact frG_none | with_reducible refine frG_some ?_ | with_reducible refine fr_X5_surveyed_J15 h14 h15 h16 h17 h18 h20 h21  ?_ | with_reducible refine frG_b2 ?_ (fun _ _ _ => ?_) | with_reducible refine frG_b3 ?_ (fun _ _ _ _ => ?_) | with_reducible refine frG_bd (fun _ => ?_) | with_reducible refine frG_glm ?_ (fun _ _ => ?_) | with_reducible refine frG_gl (fun _ => ?_) | with_reducible refine frG_ite ?_ ?_ | with_reducible refine frm_set ?_ (by assumption) | with_reducible refine frm_sl ?_ (by assumption) | with_reducible refine frm_fill ?_ (by assumption) | with_reducible refine frm_tx8 ?_ (by assumption) (by assumption) (by assumption) | intro _)

theorem fr_X5_surveyedSparing_J19 {S : Nat → Bool}  {al : Nat → Nat → Bool} {N : Nat} {p0 : Nat}  {X0 X : gM}  (hX : frm S X0 X) : frG g2 S X0 (X5_surveyedSparing_J19 al N p0 X) := by
  rw [X5_surveyedSparing_J19]
  repeat' (first | with_reducible assumption | with_reducible exact frG_none | with_reducible refine frG_some ?_ | with_reducible refine frG_b2 ?_ (fun _ _ _ => ?_) | with_reducible refine frG_b3 ?_ (fun _ _ _ _ => ?_) | with_reducible refine frG_bd (fun _ => ?_) | with_reducible refine frG_glm ?_ (fun _ _ => ?_) | with_reducible refine frG_gl (fun _ => ?_) | with_reducible refine frG_ite ?_ ?_ | with_reducible refine frm_set ?_ (by assumption) | with_reducible refine frm_sl ?_ (by assumption) | with_reducible refine frm_fill ?_ (by assumption) | with_reducible refine frm_tx8 ?_ (by assumption) (by assumption) (by assumption) | intro _)

theorem fr_X5_surveyedSparing {S : Nat → Bool} (h14 : S 14 = true) (h15 : S 15 = true) (h16 : S 16 = true) (h17 : S 17 = true) (h18 : S 18 = true) (h20 : S 20 = true) (h21 : S 21 = true) {al : Nat → Nat → Bool} {N : Nat} {p0 : Nat}  {X0 X : gM}  (hX : frm S X0 X) : frG g2 S X0 (X5_surveyedSparing al N p0 X) := by
  rw [X5_surveyedSparing]
  repeat' (first | with_reducible assumption | with_reducible exact frG_none | with_reducible refine frG_some ?_ | with_reducible refine fr_X7_make h14 h15 h16 h17 h18 h20 h21  ?_ | with_reducible refine fr_X5_surveyedSparing_J19   ?_ | with_reducible refine frG_b2 ?_ (fun _ _ _ => ?_) | with_reducible refine frG_b3 ?_ (fun _ _ _ _ => ?_) | with_reducible refine frG_bd (fun _ => ?_) | with_reducible refine frG_glm ?_ (fun _ _ => ?_) | with_reducible refine frG_gl (fun _ => ?_) | with_reducible refine frG_ite ?_ ?_ | with_reducible refine frm_set ?_ (by assumption) | with_reducible refine frm_sl ?_ (by assumption) | with_reducible refine frm_fill ?_ (by assumption) | with_reducible refine frm_tx8 ?_ (by assumption) (by assumption) (by assumption) | intro _)

theorem fr_X9_isWithin_J15 {S : Nat → Bool}  {al : Nat → Nat → Bool} {N : Nat} {s0 : Int32}  {X0 X : gM}  (hX : frm S X0 X) : frG g2 S X0 (X9_isWithin_J15 al N s0 X) := by
  rw [X9_isWithin_J15]
  repeat' (first | with_reducible assumption | with_reducible exact frG_none | with_reducible refine frG_some ?_ | with_reducible refine frG_b2 ?_ (fun _ _ _ => ?_) | with_reducible refine frG_b3 ?_ (fun _ _ _ _ => ?_) | with_reducible refine frG_bd (fun _ => ?_) | with_reducible refine frG_glm ?_ (fun _ _ => ?_) | with_reducible refine frG_gl (fun _ => ?_) | with_reducible refine frG_ite ?_ ?_ | with_reducible refine frm_set ?_ (by assumption) | with_reducible refine frm_sl ?_ (by assumption) | with_reducible refine frm_fill ?_ (by assumption) | with_reducible refine frm_tx8 ?_ (by assumption) (by assumption) (by assumption) | intro _)

theorem fr_X9_isWithin_J14 {S : Nat → Bool}  {al : Nat → Nat → Bool} {N : Nat}   {X0 X : gM}  (hX : frm S X0 X) : frG g2 S X0 (X9_isWithin_J14 al N X) := by
  rw [X9_isWithin_J14]
  repeat' (first | with_reducible assumption | with_reducible exact frG_none | with_reducible refine frG_some ?_ | with_reducible refine fr_X9_isWithin_J15   ?_ | with_reducible refine frG_b2 ?_ (fun _ _ _ => ?_) | with_reducible refine frG_b3 ?_ (fun _ _ _ _ => ?_) | with_reducible refine frG_bd (fun _ => ?_) | with_reducible refine frG_glm ?_ (fun _ _ => ?_) | with_reducible refine frG_gl (fun _ => ?_) | with_reducible refine frG_ite ?_ ?_ | with_reducible refine frm_set ?_ (by assumption) | with_reducible refine frm_sl ?_ (by assumption) | with_reducible refine frm_fill ?_ (by assumption) | with_reducible refine frm_tx8 ?_ (by assumption) (by assumption) (by assumption) | intro _)

theorem fr_X9_isWithin {S : Nat → Bool}  {al : Nat → Nat → Bool} {N : Nat} {p0 : Int32} {p1 : Int32} {p2 : Int32}  {X0 X : gM}  (hX : frm S X0 X) : frG g2 S X0 (X9_isWithin al N p0 p1 p2 X) := by
  rw [X9_isWithin]
  repeat' (first | with_reducible assumption | with_reducible exact frG_none | with_reducible refine frG_some ?_ | with_reducible refine fr_X9_isWithin_J14   ?_ | with_reducible refine fr_X9_isWithin_J15   ?_ | with_reducible refine frG_b2 ?_ (fun _ _ _ => ?_) | with_reducible refine frG_b3 ?_ (fun _ _ _ _ => ?_) | with_reducible refine frG_bd (fun _ => ?_) | with_reducible refine frG_glm ?_ (fun _ _ => ?_) | with_reducible refine frG_gl (fun _ => ?_) | with_reducible refine frG_ite ?_ ?_ | with_reducible refine frm_set ?_ (by assumption) | with_reducible refine frm_sl ?_ (by assumption) | with_reducible refine frm_fill ?_ (by assumption) | with_reducible refine frm_tx8 ?_ (by assumption) (by assumption) (by assumption) | intro _)

theorem fr_X9_isLetter_J15 {S : Nat → Bool}  {al : Nat → Nat → Bool} {N : Nat} {s0 : Int32}  {X0 X : gM}  (hX : frm S X0 X) : frG g2 S X0 (X9_isLetter_J15 al N s0 X) := by
  rw [X9_isLetter_J15]
  repeat' (first | with_reducible assumption | with_reducible exact frG_none | with_reducible refine frG_some ?_ | with_reducible refine frG_b2 ?_ (fun _ _ _ => ?_) | with_reducible refine frG_b3 ?_ (fun _ _ _ _ => ?_) | with_reducible refine frG_bd (fun _ => ?_) | with_reducible refine frG_glm ?_ (fun _ _ => ?_) | with_reducible refine frG_gl (fun _ => ?_) | with_reducible refine frG_ite ?_ ?_ | with_reducible refine frm_set ?_ (by assumption) | with_reducible refine frm_sl ?_ (by assumption) | with_reducible refine frm_fill ?_ (by assumption) | with_reducible refine frm_tx8 ?_ (by assumption) (by assumption) (by assumption) | intro _)

theorem fr_X9_isLetter_J14 {S : Nat → Bool}  {al : Nat → Nat → Bool} {N : Nat}   {X0 X : gM}  (hX : frm S X0 X) : frG g2 S X0 (X9_isLetter_J14 al N X) := by
  rw [X9_isLetter_J14]
  repeat' (first | with_reducible assumption | with_reducible exact frG_none | with_reducible refine frG_some ?_ | with_reducible refine fr_X9_isLetter_J15   ?_ | with_reducible refine frG_b2 ?_ (fun _ _ _ => ?_) | with_reducible refine frG_b3 ?_ (fun _ _ _ _ => ?_) | with_reducible refine frG_bd (fun _ => ?_) | with_reducible refine frG_glm ?_ (fun _ _ => ?_) | with_reducible refine frG_gl (fun _ => ?_) | with_reducible refine frG_ite ?_ ?_ | with_reducible refine frm_set ?_ (by assumption) | with_reducible refine frm_sl ?_ (by assumption) | with_reducible refine frm_fill ?_ (by assumption) | with_reducible refine frm_tx8 ?_ (by assumption) (by assumption) (by assumption) | intro _)

theorem fr_X9_isLetter {S : Nat → Bool}  {al : Nat → Nat → Bool} {N : Nat} {p0 : Int32}  {X0 X : gM}  (hX : frm S X0 X) : frG g2 S X0 (X9_isLetter al N p0 X) := by
  rw [X9_isLetter]
  repeat' (first | with_reducible assumption | with_reducible exact frG_none | with_reducible refine frG_some ?_ | with_reducible refine fr_X9_isLetter_J14   ?_ | with_reducible refine fr_X9_isLetter_J15   ?_ | with_reducible refine frG_b2 ?_ (fun _ _ _ => ?_) | with_reducible refine frG_b3 ?_ (fun _ _ _ _ => ?_) | with_reducible refine frG_bd (fun _ => ?_) | with_reducible refine frG_glm ?_ (fun _ _ => ?_) | with_reducible refine frG_gl (fun _ => ?_) | with_reducible refine frG_ite ?_ ?_ | with_reducible refine frm_set ?_ (by assumption) | with_reducible refine frm_sl ?_ (by assumption) | with_reducible refine frm_fill ?_ (by assumption) | with_reducible refine frm_tx8 ?_ (by assumption) (by assumption) (by assumption) | intro _)

theorem fr_X9_isLayer_J15 {S : Nat → Bool}  {al : Nat → Nat → Bool} {N : Nat} {s0 : Int32}  {X0 X : gM}  (hX : frm S X0 X) : frG g2 S X0 (X9_isLayer_J15 al N s0 X) := by
  rw [X9_isLayer_J15]
  repeat' (first | with_reducible assumption | with_reducible exact frG_none | with_reducible refine frG_some ?_ | with_reducible refine frG_b2 ?_ (fun _ _ _ => ?_) | with_reducible refine frG_b3 ?_ (fun _ _ _ _ => ?_) | with_reducible refine frG_bd (fun _ => ?_) | with_reducible refine frG_glm ?_ (fun _ _ => ?_) | with_reducible refine frG_gl (fun _ => ?_) | with_reducible refine frG_ite ?_ ?_ | with_reducible refine frm_set ?_ (by assumption) | with_reducible refine frm_sl ?_ (by assumption) | with_reducible refine frm_fill ?_ (by assumption) | with_reducible refine frm_tx8 ?_ (by assumption) (by assumption) (by assumption) | intro _)

theorem fr_X9_isLayer_J14 {S : Nat → Bool}  {al : Nat → Nat → Bool} {N : Nat}   {X0 X : gM}  (hX : frm S X0 X) : frG g2 S X0 (X9_isLayer_J14 al N X) := by
  rw [X9_isLayer_J14]
  repeat' (first | with_reducible assumption | with_reducible exact frG_none | with_reducible refine frG_some ?_ | with_reducible refine fr_X9_isLayer_J15   ?_ | with_reducible refine frG_b2 ?_ (fun _ _ _ => ?_) | with_reducible refine frG_b3 ?_ (fun _ _ _ _ => ?_) | with_reducible refine frG_bd (fun _ => ?_) | with_reducible refine frG_glm ?_ (fun _ _ => ?_) | with_reducible refine frG_gl (fun _ => ?_) | with_reducible refine frG_ite ?_ ?_ | with_reducible refine frm_set ?_ (by assumption) | with_reducible refine frm_sl ?_ (by assumption) | with_reducible refine frm_fill ?_ (by assumption) | with_reducible refine frm_tx8 ?_ (by assumption) (by assumption) (by assumption) | intro _)

theorem fr_X9_isLayer {S : Nat → Bool}  {al : Nat → Nat → Bool} {N : Nat} {p0 : Int32}  {X0 X : gM}  (hX : frm S X0 X) : frG g2 S X0 (X9_isLayer al N p0 X) := by
  rw [X9_isLayer]
  repeat' (first | with_reducible assumption | with_reducible exact frG_none | with_reducible refine frG_some ?_ | with_reducible refine fr_X9_isLayer_J14   ?_ | with_reducible refine fr_X9_isLayer_J15   ?_ | with_reducible refine frG_b2 ?_ (fun _ _ _ => ?_) | with_reducible refine frG_b3 ?_ (fun _ _ _ _ => ?_) | with_reducible refine frG_bd (fun _ => ?_) | with_reducible refine frG_glm ?_ (fun _ _ => ?_) | with_reducible refine frG_gl (fun _ => ?_) | with_reducible refine frG_ite ?_ ?_ | with_reducible refine frm_set ?_ (by assumption) | with_reducible refine frm_sl ?_ (by assumption) | with_reducible refine frm_fill ?_ (by assumption) | with_reducible refine frm_tx8 ?_ (by assumption) (by assumption) (by assumption) | intro _)

theorem fr_X9_quireOf_J28 {S : Nat → Bool}  {al : Nat → Nat → Bool} {N : Nat} {s0 : Int32}  {X0 X : gM}  (hX : frm S X0 X) : frG g2 S X0 (X9_quireOf_J28 al N s0 X) := by
  rw [X9_quireOf_J28]
  repeat' (first | with_reducible assumption | with_reducible exact frG_none | with_reducible refine frG_some ?_ | with_reducible refine frG_b2 ?_ (fun _ _ _ => ?_) | with_reducible refine frG_b3 ?_ (fun _ _ _ _ => ?_) | with_reducible refine frG_bd (fun _ => ?_) | with_reducible refine frG_glm ?_ (fun _ _ => ?_) | with_reducible refine frG_gl (fun _ => ?_) | with_reducible refine frG_ite ?_ ?_ | with_reducible refine frm_set ?_ (by assumption) | with_reducible refine frm_sl ?_ (by assumption) | with_reducible refine frm_fill ?_ (by assumption) | with_reducible refine frm_tx8 ?_ (by assumption) (by assumption) (by assumption) | intro _)

theorem fr_X9_quireOf_J27 {S : Nat → Bool}  {al : Nat → Nat → Bool} {N : Nat}   {X0 X : gM}  (hX : frm S X0 X) : frG g2 S X0 (X9_quireOf_J27 al N X) := by
  rw [X9_quireOf_J27]
  repeat' (first | with_reducible assumption | with_reducible exact frG_none | with_reducible refine frG_some ?_ | with_reducible refine fr_X9_quireOf_J28   ?_ | with_reducible refine frG_b2 ?_ (fun _ _ _ => ?_) | with_reducible refine frG_b3 ?_ (fun _ _ _ _ => ?_) | with_reducible refine frG_bd (fun _ => ?_) | with_reducible refine frG_glm ?_ (fun _ _ => ?_) | with_reducible refine frG_gl (fun _ => ?_) | with_reducible refine frG_ite ?_ ?_ | with_reducible refine frm_set ?_ (by assumption) | with_reducible refine frm_sl ?_ (by assumption) | with_reducible refine frm_fill ?_ (by assumption) | with_reducible refine frm_tx8 ?_ (by assumption) (by assumption) (by assumption) | intro _)

theorem fr_X9_quireOf {S : Nat → Bool}  {al : Nat → Nat → Bool} {N : Nat} {p1 : Int32}  {X0 X : gM}  (hX : frm S X0 X) : frG g2 S X0 (X9_quireOf al N p1 X) := by
  rw [X9_quireOf]
  repeat' (first | with_reducible assumption | with_reducible exact frG_none | with_reducible refine frG_some ?_ | with_reducible refine fr_X9_quireOf_J27   ?_ | with_reducible refine fr_X9_quireOf_J28   ?_ | with_reducible refine frG_b2 ?_ (fun _ _ _ => ?_) | with_reducible refine frG_b3 ?_ (fun _ _ _ _ => ?_) | with_reducible refine frG_bd (fun _ => ?_) | with_reducible refine frG_glm ?_ (fun _ _ => ?_) | with_reducible refine frG_gl (fun _ => ?_) | with_reducible refine frG_ite ?_ ?_ | with_reducible refine frm_set ?_ (by assumption) | with_reducible refine frm_sl ?_ (by assumption) | with_reducible refine frm_fill ?_ (by assumption) | with_reducible refine frm_tx8 ?_ (by assumption) (by assumption) (by assumption) | intro _)

theorem fr_X9_leafOf_J23 {S : Nat → Bool}  {al : Nat → Nat → Bool} {N : Nat} {s0 : Int32}  {X0 X : gM}  (hX : frm S X0 X) : frG g2 S X0 (X9_leafOf_J23 al N s0 X) := by
  rw [X9_leafOf_J23]
  repeat' (first | with_reducible assumption | with_reducible exact frG_none | with_reducible refine frG_some ?_ | with_reducible refine frG_b2 ?_ (fun _ _ _ => ?_) | with_reducible refine frG_b3 ?_ (fun _ _ _ _ => ?_) | with_reducible refine frG_bd (fun _ => ?_) | with_reducible refine frG_glm ?_ (fun _ _ => ?_) | with_reducible refine frG_gl (fun _ => ?_) | with_reducible refine frG_ite ?_ ?_ | with_reducible refine frm_set ?_ (by assumption) | with_reducible refine frm_sl ?_ (by assumption) | with_reducible refine frm_fill ?_ (by assumption) | with_reducible refine frm_tx8 ?_ (by assumption) (by assumption) (by assumption) | intro _)

theorem fr_X9_leafOf_J22 {S : Nat → Bool}  {al : Nat → Nat → Bool} {N : Nat}   {X0 X : gM}  (hX : frm S X0 X) : frG g2 S X0 (X9_leafOf_J22 al N X) := by
  rw [X9_leafOf_J22]
  repeat' (first | with_reducible assumption | with_reducible exact frG_none | with_reducible refine frG_some ?_ | with_reducible refine fr_X9_leafOf_J23   ?_ | with_reducible refine frG_b2 ?_ (fun _ _ _ => ?_) | with_reducible refine frG_b3 ?_ (fun _ _ _ _ => ?_) | with_reducible refine frG_bd (fun _ => ?_) | with_reducible refine frG_glm ?_ (fun _ _ => ?_) | with_reducible refine frG_gl (fun _ => ?_) | with_reducible refine frG_ite ?_ ?_ | with_reducible refine frm_set ?_ (by assumption) | with_reducible refine frm_sl ?_ (by assumption) | with_reducible refine frm_fill ?_ (by assumption) | with_reducible refine frm_tx8 ?_ (by assumption) (by assumption) (by assumption) | intro _)

theorem fr_X9_leafOf {S : Nat → Bool}  {al : Nat → Nat → Bool} {N : Nat} {p1 : Int32}  {X0 X : gM}  (hX : frm S X0 X) : frG g2 S X0 (X9_leafOf al N p1 X) := by
  rw [X9_leafOf]
  repeat' (first | with_reducible assumption | with_reducible exact frG_none | with_reducible refine frG_some ?_ | with_reducible refine fr_X9_leafOf_J22   ?_ | with_reducible refine fr_X9_leafOf_J23   ?_ | with_reducible refine frG_b2 ?_ (fun _ _ _ => ?_) | with_reducible refine frG_b3 ?_ (fun _ _ _ _ => ?_) | with_reducible refine frG_bd (fun _ => ?_) | with_reducible refine frG_glm ?_ (fun _ _ => ?_) | with_reducible refine frG_gl (fun _ => ?_) | with_reducible refine frG_ite ?_ ?_ | with_reducible refine frm_set ?_ (by assumption) | with_reducible refine frm_sl ?_ (by assumption) | with_reducible refine frm_fill ?_ (by assumption) | with_reducible refine frm_tx8 ?_ (by assumption) (by assumption) (by assumption) | intro _)

theorem fr_X9_cellOf_J23 {S : Nat → Bool}  {al : Nat → Nat → Bool} {N : Nat} {s0 : Int32}  {X0 X : gM}  (hX : frm S X0 X) : frG g2 S X0 (X9_cellOf_J23 al N s0 X) := by
  rw [X9_cellOf_J23]
  repeat' (first | with_reducible assumption | with_reducible exact frG_none | with_reducible refine frG_some ?_ | with_reducible refine frG_b2 ?_ (fun _ _ _ => ?_) | with_reducible refine frG_b3 ?_ (fun _ _ _ _ => ?_) | with_reducible refine frG_bd (fun _ => ?_) | with_reducible refine frG_glm ?_ (fun _ _ => ?_) | with_reducible refine frG_gl (fun _ => ?_) | with_reducible refine frG_ite ?_ ?_ | with_reducible refine frm_set ?_ (by assumption) | with_reducible refine frm_sl ?_ (by assumption) | with_reducible refine frm_fill ?_ (by assumption) | with_reducible refine frm_tx8 ?_ (by assumption) (by assumption) (by assumption) | intro _)

theorem fr_X9_cellOf {S : Nat → Bool}  {al : Nat → Nat → Bool} {N : Nat} {p1 : Int32} {p2 : Int32} {p3 : Int32}  {X0 X : gM}  (hX : frm S X0 X) : frG g2 S X0 (X9_cellOf al N p1 p2 p3 X) := by
  rw [X9_cellOf]
  repeat' (first | with_reducible assumption | with_reducible exact frG_none | with_reducible refine frG_some ?_ | with_reducible refine fr_X9_leafOf   ?_ | with_reducible refine fr_X9_cellOf_J23   ?_ | with_reducible refine fr_X2_cellAt   ?_ | with_reducible refine frG_b2 ?_ (fun _ _ _ => ?_) | with_reducible refine frG_b3 ?_ (fun _ _ _ _ => ?_) | with_reducible refine frG_bd (fun _ => ?_) | with_reducible refine frG_glm ?_ (fun _ _ => ?_) | with_reducible refine frG_gl (fun _ => ?_) | with_reducible refine frG_ite ?_ ?_ | with_reducible refine frm_set ?_ (by assumption) | with_reducible refine frm_sl ?_ (by assumption) | with_reducible refine frm_fill ?_ (by assumption) | with_reducible refine frm_tx8 ?_ (by assumption) (by assumption) (by assumption) | intro _)

theorem fr_X9_wordLikeDraft_J45 {S : Nat → Bool}  {al : Nat → Nat → Bool} {N : Nat}   {X0 X : gM}  (hX : frm S X0 X) : frG g2 S X0 (X9_wordLikeDraft_J45 al N X) := by
  rw [X9_wordLikeDraft_J45]
  repeat' (first | with_reducible assumption | with_reducible exact frG_none | with_reducible refine frG_some ?_ | with_reducible refine frG_b2 ?_ (fun _ _ _ => ?_) | with_reducible refine frG_b3 ?_ (fun _ _ _ _ => ?_) | with_reducible refine frG_bd (fun _ => ?_) | with_reducible refine frG_glm ?_ (fun _ _ => ?_) | with_reducible refine frG_gl (fun _ => ?_) | with_reducible refine frG_ite ?_ ?_ | with_reducible refine frm_set ?_ (by assumption) | with_reducible refine frm_sl ?_ (by assumption) | with_reducible refine frm_fill ?_ (by assumption) | with_reducible refine frm_tx8 ?_ (by assumption) (by assumption) (by assumption) | intro _)

theorem fr_X9_wordLikeDraft_J39 {S : Nat → Bool}  {al : Nat → Nat → Bool} {N : Nat} {p1 : Int32} {kk : Int32 → gM → Option (Int32 × gM)} {k37 : Int32 → gM → Option (Int32 × gM)} {k45 : gM → Option (Int32 × gM)} {X0 X : gM} (hkk : ∀ (a0 : Int32) (Y : gM), frm S X0 Y → frG g2 S X0 (kk a0 Y)) (hk37 : ∀ (a0 : Int32) (Y : gM), frm S X0 Y → frG g2 S X0 (k37 a0 Y)) (hk45 : ∀  (Y : gM), frm S X0 Y → frG g2 S X0 (k45  Y)) (hX : frm S X0 X) : frG g2 S X0 (X9_wordLikeDraft_J39 al N kk k37 k45 p1 X) := by
  rw [X9_wordLikeDraft_J39]
  repeat' (first | with_reducible assumption | with_reducible exact frG_none | with_reducible refine frG_some ?_ | with_reducible refine hkk _ _ ?_ | with_reducible refine hk37 _ _ ?_ | with_reducible refine hk45 _ ?_ | with_reducible refine frG_b2 ?_ (fun _ _ _ => ?_) | with_reducible refine frG_b3 ?_ (fun _ _ _ _ => ?_) | with_reducible refine frG_bd (fun _ => ?_) | with_reducible refine frG_glm ?_ (fun _ _ => ?_) | with_reducible refine frG_gl (fun _ => ?_) | with_reducible refine frG_ite ?_ ?_ | with_reducible refine frm_set ?_ (by assumption) | with_reducible refine frm_sl ?_ (by assumption) | with_reducible refine frm_fill ?_ (by assumption) | with_reducible refine frm_tx8 ?_ (by assumption) (by assumption) (by assumption) | intro _)

theorem fr_X9_wordLikeDraft_J37 {S : Nat → Bool}  {al : Nat → Nat → Bool} {N : Nat} {p1 : Int32}  {X0 X : gM}  (hX : frm S X0 X) : frG g2 S X0 (X9_wordLikeDraft_J37 al N p1 X) := by
  rw [X9_wordLikeDraft_J37]
  repeat' (first | with_reducible assumption | with_reducible exact frG_none | with_reducible refine frG_some ?_ | with_reducible refine frG_b2 ?_ (fun _ _ _ => ?_) | with_reducible refine frG_b3 ?_ (fun _ _ _ _ => ?_) | with_reducible refine frG_bd (fun _ => ?_) | with_reducible refine frG_glm ?_ (fun _ _ => ?_) | with_reducible refine frG_gl (fun _ => ?_) | with_reducible refine frG_ite ?_ ?_ | with_reducible refine frm_set ?_ (by assumption) | with_reducible refine frm_sl ?_ (by assumption) | with_reducible refine frm_fill ?_ (by assumption) | with_reducible refine frm_tx8 ?_ (by assumption) (by assumption) (by assumption) | intro _)

theorem fr_X9_wordLikeDraft_L2 {S : Nat → Bool}  {al : Nat → Nat → Bool} {N : Nat}  {k37 : Int32 → gM → Option (Int32 × gM)} {k45 : gM → Option (Int32 × gM)} {X0 : gM} (hk37 : ∀ (a0 : Int32) (Y : gM), frm S X0 Y → frG g2 S X0 (k37 a0 Y)) (hk45 : ∀  (Y : gM), frm S X0 Y → frG g2 S X0 (k45  Y)) : ∀ (n : Nat) (a1 : Int32) (X : gM), frm S X0 X → frG g2 S X0 (X9_wordLikeDraft_L2 al N k37 k45 n a1 X) := by
  intro n
  induction n with
  | zero =>
    intro a1 X hX
    rw [X9_wordLikeDraft_L2]
    exact frG_none
  | succ n ih =>
    intro a1 X hX
    rw [X9_wordLikeDraft_L2]
    repeat' (first | with_reducible assumption | with_reducible exact frG_none | with_reducible refine frG_some ?_ | with_reducible refine fr_X9_wordLikeDraft_J39  ?_ ?_ ?_ ?_ | with_reducible refine fr_X8_isSame   ?_ | with_reducible refine hk37 _ _ ?_ | with_reducible refine hk45 _ ?_ | with_reducible refine ih _ _ ?_ | with_reducible refine frG_b2 ?_ (fun _ _ _ => ?_) | with_reducible refine frG_b3 ?_ (fun _ _ _ _ => ?_) | with_reducible refine frG_bd (fun _ => ?_) | with_reducible refine frG_glm ?_ (fun _ _ => ?_) | with_reducible refine frG_gl (fun _ => ?_) | with_reducible refine frG_ite ?_ ?_ | with_reducible refine frm_set ?_ (by assumption) | with_reducible refine frm_sl ?_ (by assumption) | with_reducible refine frm_fill ?_ (by assumption) | with_reducible refine frm_tx8 ?_ (by assumption) (by assumption) (by assumption) | intro _)

theorem fr_X9_wordLikeDraft {S : Nat → Bool}  {al : Nat → Nat → Bool} {N : Nat}   {X0 X : gM}  (hX : frm S X0 X) : frG g2 S X0 (X9_wordLikeDraft al N X) := by
  rw [X9_wordLikeDraft]
  repeat' (first | with_reducible assumption | with_reducible exact frG_none | with_reducible refine frG_some ?_ | with_reducible refine fr_X9_wordLikeDraft_L2  ?_ ?_ _ _ _ ?_ | with_reducible refine fr_X9_wordLikeDraft_J37   ?_ | with_reducible refine fr_X9_wordLikeDraft_J45   ?_ | with_reducible refine frG_b2 ?_ (fun _ _ _ => ?_) | with_reducible refine frG_b3 ?_ (fun _ _ _ _ => ?_) | with_reducible refine frG_bd (fun _ => ?_) | with_reducible refine frG_glm ?_ (fun _ _ => ?_) | with_reducible refine frG_gl (fun _ => ?_) | with_reducible refine frG_ite ?_ ?_ | with_reducible refine frm_set ?_ (by assumption) | with_reducible refine frm_sl ?_ (by assumption) | with_reducible refine frm_fill ?_ (by assumption) | with_reducible refine frm_tx8 ?_ (by assumption) (by assumption) (by assumption) | intro _)

theorem fr_X9_placesOf {S : Nat → Bool} (h14 : S 14 = true) (h15 : S 15 = true) (h16 : S 16 = true) (h17 : S 17 = true) (h18 : S 18 = true) (h20 : S 20 = true) (h21 : S 21 = true) {al : Nat → Nat → Bool} {N : Nat} {p1 : Nat} {p2 : Int32}  {X0 X : gM}  (hX : frm S X0 X) : frG g2 S X0 (X9_placesOf al N p1 p2 X) := by
  rw [X9_placesOf]
  repeat' (first | with_reducible assumption | with_reducible exact frG_none | with_reducible refine frG_some ?_ | with_reducible refine fr_X5_surveyed h14 h15 h16 h17 h18 h20 h21  ?_ | with_reducible refine frG_b2 ?_ (fun _ _ _ => ?_) | with_reducible refine frG_b3 ?_ (fun _ _ _ _ => ?_) | with_reducible refine frG_bd (fun _ => ?_) | with_reducible refine frG_glm ?_ (fun _ _ => ?_) | with_reducible refine frG_gl (fun _ => ?_) | with_reducible refine frG_ite ?_ ?_ | with_reducible refine frm_set ?_ (by assumption) | with_reducible refine frm_sl ?_ (by assumption) | with_reducible refine frm_fill ?_ (by assumption) | with_reducible refine frm_tx8 ?_ (by assumption) (by assumption) (by assumption) | intro _)

theorem fr_X9_takeLowest_J87 {S : Nat → Bool}  {al : Nat → Nat → Bool} {N : Nat}   {X0 X : gM}  (hX : frm S X0 X) : frG g2 S X0 (X9_takeLowest_J87 al N X) := by
  rw [X9_takeLowest_J87]
  repeat' (first | with_reducible assumption | with_reducible exact frG_none | with_reducible refine frG_some ?_ | with_reducible refine frG_b2 ?_ (fun _ _ _ => ?_) | with_reducible refine frG_b3 ?_ (fun _ _ _ _ => ?_) | with_reducible refine frG_bd (fun _ => ?_) | with_reducible refine frG_glm ?_ (fun _ _ => ?_) | with_reducible refine frG_gl (fun _ => ?_) | with_reducible refine frG_ite ?_ ?_ | with_reducible refine frm_set ?_ (by assumption) | with_reducible refine frm_sl ?_ (by assumption) | with_reducible refine frm_fill ?_ (by assumption) | with_reducible refine frm_tx8 ?_ (by assumption) (by assumption) (by assumption) | intro _)

theorem fr_X9_takeLowest_J81 {S : Nat → Bool}  {al : Nat → Nat → Bool} {N : Nat} {p1 : Nat} {p3 : Int32} {p4 : Int32} {kk : Nat → Int32 → Int32 → gM → Option (Int32 × gM)} {k87 : gM → Option (Int32 × gM)} {X0 X : gM} (hkk : ∀ (a0 : Nat) (a1 : Int32) (a2 : Int32) (Y : gM), frm S X0 Y → frG g2 S X0 (kk a0 a1 a2 Y)) (hk87 : ∀  (Y : gM), frm S X0 Y → frG g2 S X0 (k87  Y)) (hX : frm S X0 X) : frG g2 S X0 (X9_takeLowest_J81 al N kk k87 p1 p3 p4 X) := by
  rw [X9_takeLowest_J81]
  repeat' (first | with_reducible assumption | with_reducible exact frG_none | with_reducible refine frG_some ?_ | with_reducible refine hkk _ _ _ _ ?_ | with_reducible refine hk87 _ ?_ | with_reducible refine frG_b2 ?_ (fun _ _ _ => ?_) | with_reducible refine frG_b3 ?_ (fun _ _ _ _ => ?_) | with_reducible refine frG_bd (fun _ => ?_) | with_reducible refine frG_glm ?_ (fun _ _ => ?_) | with_reducible refine frG_gl (fun _ => ?_) | with_reducible refine frG_ite ?_ ?_ | with_reducible refine frm_set ?_ (by assumption) | with_reducible refine frm_sl ?_ (by assumption) | with_reducible refine frm_fill ?_ (by assumption) | with_reducible refine frm_tx8 ?_ (by assumption) (by assumption) (by assumption) | intro _)

theorem fr_X9_takeLowest_L11 {S : Nat → Bool} (h42 : S 42 = true) {al : Nat → Nat → Bool} {N : Nat}  {k87 : gM → Option (Int32 × gM)} {X0 : gM} (hk87 : ∀  (Y : gM), frm S X0 Y → frG g2 S X0 (k87  Y)) : ∀ (n : Nat) (a1 : Nat) (a2 : Int32) (a3 : Int32) (X : gM), frm S X0 X → frG g2 S X0 (X9_takeLowest_L11 al N k87 n a1 a2 a3 X) := by
  intro n
  induction n with
  | zero =>
    intro a1 a2 a3 X hX
    rw [X9_takeLowest_L11]
    exact frG_none
  | succ n ih =>
    intro a1 a2 a3 X hX
    rw [X9_takeLowest_L11]
    repeat' (first | with_reducible assumption | with_reducible exact frG_none | with_reducible refine frG_some ?_ | with_reducible refine fr_X9_takeLowest_J81  ?_ ?_ ?_ | with_reducible refine fr_X2_isAlike   ?_ | with_reducible refine hk87 _ ?_ | with_reducible refine ih _ _ _ _ ?_ | with_reducible refine frG_b2 ?_ (fun _ _ _ => ?_) | with_reducible refine frG_b3 ?_ (fun _ _ _ _ => ?_) | with_reducible refine frG_bd (fun _ => ?_) | with_reducible refine frG_glm ?_ (fun _ _ => ?_) | with_reducible refine frG_gl (fun _ => ?_) | with_reducible refine frG_ite ?_ ?_ | with_reducible refine frm_set ?_ (by assumption) | with_reducible refine frm_sl ?_ (by assumption) | with_reducible refine frm_fill ?_ (by assumption) | with_reducible refine frm_tx8 ?_ (by assumption) (by assumption) (by assumption) | intro _)

theorem fr_X9_takeLowest {S : Nat → Bool} (h42 : S 42 = true) {al : Nat → Nat → Bool} {N : Nat} {p1 : Nat}  {X0 X : gM}  (hX : frm S X0 X) : frG g2 S X0 (X9_takeLowest al N p1 X) := by
  rw [X9_takeLowest]
  repeat' (first | with_reducible assumption | with_reducible exact frG_none | with_reducible refine frG_some ?_ | with_reducible refine fr_X9_takeLowest_L11 h42 ?_ _ _ _ _ _ ?_ | with_reducible refine fr_X9_takeLowest_J87   ?_ | with_reducible refine frG_b2 ?_ (fun _ _ _ => ?_) | with_reducible refine frG_b3 ?_ (fun _ _ _ _ => ?_) | with_reducible refine frG_bd (fun _ => ?_) | with_reducible refine frG_glm ?_ (fun _ _ => ?_) | with_reducible refine frG_gl (fun _ => ?_) | with_reducible refine frG_ite ?_ ?_ | with_reducible refine frm_set ?_ (by assumption) | with_reducible refine frm_sl ?_ (by assumption) | with_reducible refine frm_fill ?_ (by assumption) | with_reducible refine frm_tx8 ?_ (by assumption) (by assumption) (by assumption) | intro _)

theorem fr_X9_settleHands_J78 {S : Nat → Bool}  {al : Nat → Nat → Bool} {N : Nat}   {X0 X : gM}  (hX : frm S X0 X) : frG g2 S X0 (X9_settleHands_J78 al N X) := by
  rw [X9_settleHands_J78]
  repeat' (first | with_reducible assumption | with_reducible exact frG_none | with_reducible refine frG_some ?_ | with_reducible refine frG_b2 ?_ (fun _ _ _ => ?_) | with_reducible refine frG_b3 ?_ (fun _ _ _ _ => ?_) | with_reducible refine frG_bd (fun _ => ?_) | with_reducible refine frG_glm ?_ (fun _ _ => ?_) | with_reducible refine frG_gl (fun _ => ?_) | with_reducible refine frG_ite ?_ ?_ | with_reducible refine frm_set ?_ (by assumption) | with_reducible refine frm_sl ?_ (by assumption) | with_reducible refine frm_fill ?_ (by assumption) | with_reducible refine frm_tx8 ?_ (by assumption) (by assumption) (by assumption) | intro _)

theorem fr_X9_settleHands_J72 {S : Nat → Bool}  {al : Nat → Nat → Bool} {N : Nat} {p1 : Int32} {kk : Int32 → gM → Option (Int32 × gM)} {k78 : gM → Option (Int32 × gM)} {X0 X : gM} (hkk : ∀ (a0 : Int32) (Y : gM), frm S X0 Y → frG g2 S X0 (kk a0 Y)) (hk78 : ∀  (Y : gM), frm S X0 Y → frG g2 S X0 (k78  Y)) (hX : frm S X0 X) : frG g2 S X0 (X9_settleHands_J72 al N kk k78 p1 X) := by
  rw [X9_settleHands_J72]
  repeat' (first | with_reducible assumption | with_reducible exact frG_none | with_reducible refine frG_some ?_ | with_reducible refine hkk _ _ ?_ | with_reducible refine hk78 _ ?_ | with_reducible refine frG_b2 ?_ (fun _ _ _ => ?_) | with_reducible refine frG_b3 ?_ (fun _ _ _ _ => ?_) | with_reducible refine frG_bd (fun _ => ?_) | with_reducible refine frG_glm ?_ (fun _ _ => ?_) | with_reducible refine frG_gl (fun _ => ?_) | with_reducible refine frG_ite ?_ ?_ | with_reducible refine frm_set ?_ (by assumption) | with_reducible refine frm_sl ?_ (by assumption) | with_reducible refine frm_fill ?_ (by assumption) | with_reducible refine frm_tx8 ?_ (by assumption) (by assumption) (by assumption) | intro _)

theorem fr_X9_settleHands_J66 {S : Nat → Bool}  {al : Nat → Nat → Bool} {N : Nat} {p1 : Int32} {p3 : Int32} {p4 : Int32} {kk : Int32 → Int32 → Int32 → gM → Option (Int32 × gM)} {k72 : Int32 → gM → Option (Int32 × gM)} {X0 X : gM} (hkk : ∀ (a0 : Int32) (a1 : Int32) (a2 : Int32) (Y : gM), frm S X0 Y → frG g2 S X0 (kk a0 a1 a2 Y)) (hk72 : ∀ (a0 : Int32) (Y : gM), frm S X0 Y → frG g2 S X0 (k72 a0 Y)) (hX : frm S X0 X) : frG g2 S X0 (X9_settleHands_J66 al N kk k72 p1 p3 p4 X) := by
  rw [X9_settleHands_J66]
  repeat' (first | with_reducible assumption | with_reducible exact frG_none | with_reducible refine frG_some ?_ | with_reducible refine hkk _ _ _ _ ?_ | with_reducible refine hk72 _ _ ?_ | with_reducible refine frG_b2 ?_ (fun _ _ _ => ?_) | with_reducible refine frG_b3 ?_ (fun _ _ _ _ => ?_) | with_reducible refine frG_bd (fun _ => ?_) | with_reducible refine frG_glm ?_ (fun _ _ => ?_) | with_reducible refine frG_gl (fun _ => ?_) | with_reducible refine frG_ite ?_ ?_ | with_reducible refine frm_set ?_ (by assumption) | with_reducible refine frm_sl ?_ (by assumption) | with_reducible refine frm_fill ?_ (by assumption) | with_reducible refine frm_tx8 ?_ (by assumption) (by assumption) (by assumption) | intro _)

theorem fr_X9_settleHands_L43 {S : Nat → Bool} (h42 : S 42 = true) {al : Nat → Nat → Bool} {N : Nat}  {k72 : Int32 → gM → Option (Int32 × gM)} {X0 : gM} (hk72 : ∀ (a0 : Int32) (Y : gM), frm S X0 Y → frG g2 S X0 (k72 a0 Y)) : ∀ (n : Nat) (a1 : Int32) (a2 : Int32) (a3 : Int32) (X : gM), frm S X0 X → frG g2 S X0 (X9_settleHands_L43 al N k72 n a1 a2 a3 X) := by
  intro n
  induction n with
  | zero =>
    intro a1 a2 a3 X hX
    rw [X9_settleHands_L43]
    exact frG_none
  | succ n ih =>
    intro a1 a2 a3 X hX
    rw [X9_settleHands_L43]
    repeat' (first | with_reducible assumption | with_reducible exact frG_none | with_reducible refine frG_some ?_ | with_reducible refine fr_X9_settleHands_J66  ?_ ?_ ?_ | with_reducible refine fr_X9_takeLowest h42  ?_ | with_reducible refine hk72 _ _ ?_ | with_reducible refine ih _ _ _ _ ?_ | with_reducible refine frG_b2 ?_ (fun _ _ _ => ?_) | with_reducible refine frG_b3 ?_ (fun _ _ _ _ => ?_) | with_reducible refine frG_bd (fun _ => ?_) | with_reducible refine frG_glm ?_ (fun _ _ => ?_) | with_reducible refine frG_gl (fun _ => ?_) | with_reducible refine frG_ite ?_ ?_ | with_reducible refine frm_set ?_ (by assumption) | with_reducible refine frm_sl ?_ (by assumption) | with_reducible refine frm_fill ?_ (by assumption) | with_reducible refine frm_tx8 ?_ (by assumption) (by assumption) (by assumption) | intro _)

theorem fr_X9_settleHands_L26 {S : Nat → Bool} (h42 : S 42 = true) {al : Nat → Nat → Bool} {N : Nat}  {k78 : gM → Option (Int32 × gM)} {X0 : gM} (hk78 : ∀  (Y : gM), frm S X0 Y → frG g2 S X0 (k78  Y)) : ∀ (n : Nat) (a1 : Int32) (X : gM), frm S X0 X → frG g2 S X0 (X9_settleHands_L26 al N k78 n a1 X) := by
  intro n
  induction n with
  | zero =>
    intro a1 X hX
    rw [X9_settleHands_L26]
    exact frG_none
  | succ n ih =>
    intro a1 X hX
    rw [X9_settleHands_L26]
    repeat' (first | with_reducible assumption | with_reducible exact frG_none | with_reducible refine frG_some ?_ | with_reducible refine fr_X9_settleHands_L43 h42 ?_ _ _ _ _ _ ?_ | with_reducible refine fr_X9_settleHands_J72  ?_ ?_ ?_ | with_reducible refine hk78 _ ?_ | with_reducible refine ih _ _ ?_ | with_reducible refine frG_b2 ?_ (fun _ _ _ => ?_) | with_reducible refine frG_b3 ?_ (fun _ _ _ _ => ?_) | with_reducible refine frG_bd (fun _ => ?_) | with_reducible refine frG_glm ?_ (fun _ _ => ?_) | with_reducible refine frG_gl (fun _ => ?_) | with_reducible refine frG_ite ?_ ?_ | with_reducible refine frm_set ?_ (by assumption) | with_reducible refine frm_sl ?_ (by assumption) | with_reducible refine frm_fill ?_ (by assumption) | with_reducible refine frm_tx8 ?_ (by assumption) (by assumption) (by assumption) | intro _)

theorem fr_X9_settleHands_J24 {S : Nat → Bool} (h42 : S 42 = true) {al : Nat → Nat → Bool} {N : Nat}   {X0 X : gM}  (hX : frm S X0 X) : frG g2 S X0 (X9_settleHands_J24 al N X) := by
  rw [X9_settleHands_J24]
  repeat' (first | with_reducible assumption | with_reducible exact frG_none | with_reducible refine frG_some ?_ | with_reducible refine fr_X9_settleHands_L26 h42 ?_ _ _ _ ?_ | with_reducible refine fr_X9_settleHands_J78   ?_ | with_reducible refine frG_b2 ?_ (fun _ _ _ => ?_) | with_reducible refine frG_b3 ?_ (fun _ _ _ _ => ?_) | with_reducible refine frG_bd (fun _ => ?_) | with_reducible refine frG_glm ?_ (fun _ _ => ?_) | with_reducible refine frG_gl (fun _ => ?_) | with_reducible refine frG_ite ?_ ?_ | with_reducible refine frm_set ?_ (by assumption) | with_reducible refine frm_sl ?_ (by assumption) | with_reducible refine frm_fill ?_ (by assumption) | with_reducible refine frm_tx8 ?_ (by assumption) (by assumption) (by assumption) | intro _)

theorem fr_X9_settleHands_L2 {S : Nat → Bool} (h42 : S 42 = true) {al : Nat → Nat → Bool} {N : Nat}  {k24 : gM → Option (Int32 × gM)} {X0 : gM} (hk24 : ∀  (Y : gM), frm S X0 Y → frG g2 S X0 (k24  Y)) : ∀ (n : Nat) (a1 : Int32) (X : gM), frm S X0 X → frG g2 S X0 (X9_settleHands_L2 al N k24 n a1 X) := by
  intro n
  induction n with
  | zero =>
    intro a1 X hX
    rw [X9_settleHands_L2]
    exact frG_none
  | succ n ih =>
    intro a1 X hX
    rw [X9_settleHands_L2]
    repeat' (first | with_reducible assumption | with_reducible exact frG_none | with_reducible refine frG_some ?_ | with_reducible refine hk24 _ ?_ | with_reducible refine ih _ _ ?_ | with_reducible refine frG_b2 ?_ (fun _ _ _ => ?_) | with_reducible refine frG_b3 ?_ (fun _ _ _ _ => ?_) | with_reducible refine frG_bd (fun _ => ?_) | with_reducible refine frG_glm ?_ (fun _ _ => ?_) | with_reducible refine frG_gl (fun _ => ?_) | with_reducible refine frG_ite ?_ ?_ | with_reducible refine frm_set ?_ (by assumption) | with_reducible refine frm_sl ?_ (by assumption) | with_reducible refine frm_fill ?_ (by assumption) | with_reducible refine frm_tx8 ?_ (by assumption) (by assumption) (by assumption) | intro _)

theorem fr_X9_settleHands {S : Nat → Bool} (h42 : S 42 = true) {al : Nat → Nat → Bool} {N : Nat}   {X0 X : gM}  (hX : frm S X0 X) : frG g2 S X0 (X9_settleHands al N X) := by
  rw [X9_settleHands]
  repeat' (first | with_reducible assumption | with_reducible exact frG_none | with_reducible refine frG_some ?_ | with_reducible refine fr_X9_settleHands_L2 h42 ?_ _ _ _ ?_ | with_reducible refine fr_X9_settleHands_J24 h42  ?_ | with_reducible refine frG_b2 ?_ (fun _ _ _ => ?_) | with_reducible refine frG_b3 ?_ (fun _ _ _ _ => ?_) | with_reducible refine frG_bd (fun _ => ?_) | with_reducible refine frG_glm ?_ (fun _ _ => ?_) | with_reducible refine frG_gl (fun _ => ?_) | with_reducible refine frG_ite ?_ ?_ | with_reducible refine frm_set ?_ (by assumption) | with_reducible refine frm_sl ?_ (by assumption) | with_reducible refine frm_fill ?_ (by assumption) | with_reducible refine frm_tx8 ?_ (by assumption) (by assumption) (by assumption) | intro _)

theorem fr_X9_sheetGroup_J113 {S : Nat → Bool}  {al : Nat → Nat → Bool} {N : Nat} {p2 : Int32}  {X0 X : gM}  (hX : frm S X0 X) : frG g2 S X0 (X9_sheetGroup_J113 al N p2 X) := by
  rw [X9_sheetGroup_J113]
  repeat' (first | with_reducible assumption | with_reducible exact frG_none | with_reducible refine frG_some ?_ | with_reducible refine frG_b2 ?_ (fun _ _ _ => ?_) | with_reducible refine frG_b3 ?_ (fun _ _ _ _ => ?_) | with_reducible refine frG_bd (fun _ => ?_) | with_reducible refine frG_glm ?_ (fun _ _ => ?_) | with_reducible refine frG_gl (fun _ => ?_) | with_reducible refine frG_ite ?_ ?_ | with_reducible refine frm_set ?_ (by assumption) | with_reducible refine frm_sl ?_ (by assumption) | with_reducible refine frm_fill ?_ (by assumption) | with_reducible refine frm_tx8 ?_ (by assumption) (by assumption) (by assumption) | intro _)

theorem fr_X9_sheetGroup_J107 {S : Nat → Bool}  {al : Nat → Nat → Bool} {N : Nat} {p2 : Int32} {p3 : Int32} {kk : Int32 → Int32 → gM → Option (Int32 × gM)} {k113 : Int32 → gM → Option (Int32 × gM)} {X0 X : gM} (hkk : ∀ (a0 : Int32) (a1 : Int32) (Y : gM), frm S X0 Y → frG g2 S X0 (kk a0 a1 Y)) (hk113 : ∀ (a0 : Int32) (Y : gM), frm S X0 Y → frG g2 S X0 (k113 a0 Y)) (hX : frm S X0 X) : frG g2 S X0 (X9_sheetGroup_J107 al N kk k113 p2 p3 X) := by
  rw [X9_sheetGroup_J107]
  repeat' (first | with_reducible assumption | with_reducible exact frG_none | with_reducible refine frG_some ?_ | with_reducible refine hkk _ _ _ ?_ | with_reducible refine hk113 _ _ ?_ | with_reducible refine frG_b2 ?_ (fun _ _ _ => ?_) | with_reducible refine frG_b3 ?_ (fun _ _ _ _ => ?_) | with_reducible refine frG_bd (fun _ => ?_) | with_reducible refine frG_glm ?_ (fun _ _ => ?_) | with_reducible refine frG_gl (fun _ => ?_) | with_reducible refine frG_ite ?_ ?_ | with_reducible refine frm_set ?_ (by assumption) | with_reducible refine frm_sl ?_ (by assumption) | with_reducible refine frm_fill ?_ (by assumption) | with_reducible refine frm_tx8 ?_ (by assumption) (by assumption) (by assumption) | intro _)

theorem fr_X9_sheetGroup_J101 {S : Nat → Bool}  {al : Nat → Nat → Bool} {N : Nat} {p2 : Int32} {p3 : Int32} {p5 : Int32} {p6 : Int32} {kk : Int32 → Int32 → Int32 → Int32 → gM → Option (Int32 × gM)} {k107 : Int32 → Int32 → gM → Option (Int32 × gM)} {X0 X : gM} (hkk : ∀ (a0 : Int32) (a1 : Int32) (a2 : Int32) (a3 : Int32) (Y : gM), frm S X0 Y → frG g2 S X0 (kk a0 a1 a2 a3 Y)) (hk107 : ∀ (a0 : Int32) (a1 : Int32) (Y : gM), frm S X0 Y → frG g2 S X0 (k107 a0 a1 Y)) (hX : frm S X0 X) : frG g2 S X0 (X9_sheetGroup_J101 al N kk k107 p2 p3 p5 p6 X) := by
  rw [X9_sheetGroup_J101]
  repeat' (first | with_reducible assumption | with_reducible exact frG_none | with_reducible refine frG_some ?_ | with_reducible refine hkk _ _ _ _ _ ?_ | with_reducible refine hk107 _ _ _ ?_ | with_reducible refine frG_b2 ?_ (fun _ _ _ => ?_) | with_reducible refine frG_b3 ?_ (fun _ _ _ _ => ?_) | with_reducible refine frG_bd (fun _ => ?_) | with_reducible refine frG_glm ?_ (fun _ _ => ?_) | with_reducible refine frG_gl (fun _ => ?_) | with_reducible refine frG_ite ?_ ?_ | with_reducible refine frm_set ?_ (by assumption) | with_reducible refine frm_sl ?_ (by assumption) | with_reducible refine frm_fill ?_ (by assumption) | with_reducible refine frm_tx8 ?_ (by assumption) (by assumption) (by assumption) | intro _)

theorem fr_X9_sheetGroup_L26 {S : Nat → Bool}  {al : Nat → Nat → Bool} {N : Nat}  {k107 : Int32 → Int32 → gM → Option (Int32 × gM)} {X0 : gM} (hk107 : ∀ (a0 : Int32) (a1 : Int32) (Y : gM), frm S X0 Y → frG g2 S X0 (k107 a0 a1 Y)) : ∀ (n : Nat) (a1 : Int32) (a2 : Int32) (a3 : Int32) (a4 : Int32) (X : gM), frm S X0 X → frG g2 S X0 (X9_sheetGroup_L26 al N k107 n a1 a2 a3 a4 X) := by
  intro n
  induction n with
  | zero =>
    intro a1 a2 a3 a4 X hX
    rw [X9_sheetGroup_L26]
    exact frG_none
  | succ n ih =>
    intro a1 a2 a3 a4 X hX
    rw [X9_sheetGroup_L26]
    repeat' (first | with_reducible assumption | with_reducible exact frG_none | with_reducible refine frG_some ?_ | with_reducible refine fr_X9_sheetGroup_J101  ?_ ?_ ?_ | with_reducible refine hk107 _ _ _ ?_ | with_reducible refine ih _ _ _ _ _ ?_ | with_reducible refine frG_b2 ?_ (fun _ _ _ => ?_) | with_reducible refine frG_b3 ?_ (fun _ _ _ _ => ?_) | with_reducible refine frG_bd (fun _ => ?_) | with_reducible refine frG_glm ?_ (fun _ _ => ?_) | with_reducible refine frG_gl (fun _ => ?_) | with_reducible refine frG_ite ?_ ?_ | with_reducible refine frm_set ?_ (by assumption) | with_reducible refine frm_sl ?_ (by assumption) | with_reducible refine frm_fill ?_ (by assumption) | with_reducible refine frm_tx8 ?_ (by assumption) (by assumption) (by assumption) | intro _)

theorem fr_X9_sheetGroup_L6 {S : Nat → Bool}  {al : Nat → Nat → Bool} {N : Nat}  {k113 : Int32 → gM → Option (Int32 × gM)} {X0 : gM} (hk113 : ∀ (a0 : Int32) (Y : gM), frm S X0 Y → frG g2 S X0 (k113 a0 Y)) : ∀ (n : Nat) (a1 : Int32) (a2 : Int32) (X : gM), frm S X0 X → frG g2 S X0 (X9_sheetGroup_L6 al N k113 n a1 a2 X) := by
  intro n
  induction n with
  | zero =>
    intro a1 a2 X hX
    rw [X9_sheetGroup_L6]
    exact frG_none
  | succ n ih =>
    intro a1 a2 X hX
    rw [X9_sheetGroup_L6]
    repeat' (first | with_reducible assumption | with_reducible exact frG_none | with_reducible refine frG_some ?_ | with_reducible refine fr_X9_sheetGroup_L26  ?_ _ _ _ _ _ _ ?_ | with_reducible refine fr_X9_sheetGroup_J107  ?_ ?_ ?_ | with_reducible refine hk113 _ _ ?_ | with_reducible refine ih _ _ _ ?_ | with_reducible refine frG_b2 ?_ (fun _ _ _ => ?_) | with_reducible refine frG_b3 ?_ (fun _ _ _ _ => ?_) | with_reducible refine frG_bd (fun _ => ?_) | with_reducible refine frG_glm ?_ (fun _ _ => ?_) | with_reducible refine frG_gl (fun _ => ?_) | with_reducible refine frG_ite ?_ ?_ | with_reducible refine frm_set ?_ (by assumption) | with_reducible refine frm_sl ?_ (by assumption) | with_reducible refine frm_fill ?_ (by assumption) | with_reducible refine frm_tx8 ?_ (by assumption) (by assumption) (by assumption) | intro _)

theorem fr_X9_sheetGroup {S : Nat → Bool}  {al : Nat → Nat → Bool} {N : Nat} {p1 : Int32}  {X0 X : gM}  (hX : frm S X0 X) : frG g2 S X0 (X9_sheetGroup al N p1 X) := by
  rw [X9_sheetGroup]
  repeat' (first | with_reducible assumption | with_reducible exact frG_none | with_reducible refine frG_some ?_ | with_reducible refine fr_X9_sheetGroup_L6  ?_ _ _ _ _ ?_ | with_reducible refine fr_X9_sheetGroup_J113   ?_ | with_reducible refine frG_b2 ?_ (fun _ _ _ => ?_) | with_reducible refine frG_b3 ?_ (fun _ _ _ _ => ?_) | with_reducible refine frG_bd (fun _ => ?_) | with_reducible refine frG_glm ?_ (fun _ _ => ?_) | with_reducible refine frG_gl (fun _ => ?_) | with_reducible refine frG_ite ?_ ?_ | with_reducible refine frm_set ?_ (by assumption) | with_reducible refine frm_sl ?_ (by assumption) | with_reducible refine frm_fill ?_ (by assumption) | with_reducible refine frm_tx8 ?_ (by assumption) (by assumption) (by assumption) | intro _)

theorem fr_X9_spansOf_J73 {S : Nat → Bool}  {al : Nat → Nat → Bool} {N : Nat} {p3 : Int32}  {X0 X : gM}  (hX : frm S X0 X) : frG g2 S X0 (X9_spansOf_J73 al N p3 X) := by
  rw [X9_spansOf_J73]
  repeat' (first | with_reducible assumption | with_reducible exact frG_none | with_reducible refine frG_some ?_ | with_reducible refine frG_b2 ?_ (fun _ _ _ => ?_) | with_reducible refine frG_b3 ?_ (fun _ _ _ _ => ?_) | with_reducible refine frG_bd (fun _ => ?_) | with_reducible refine frG_glm ?_ (fun _ _ => ?_) | with_reducible refine frG_gl (fun _ => ?_) | with_reducible refine frG_ite ?_ ?_ | with_reducible refine frm_set ?_ (by assumption) | with_reducible refine frm_sl ?_ (by assumption) | with_reducible refine frm_fill ?_ (by assumption) | with_reducible refine frm_tx8 ?_ (by assumption) (by assumption) (by assumption) | intro _)

theorem fr_X9_spansOf_J67 {S : Nat → Bool}  {al : Nat → Nat → Bool} {N : Nat} {p2 : Int32} {p3 : Int32} {p5 : Int32} {p6 : Int32} {kk : Int32 → Int32 → Int32 → Int32 → gM → Option (Int32 × gM)} {k73 : Int32 → gM → Option (Int32 × gM)} {X0 X : gM} (hkk : ∀ (a0 : Int32) (a1 : Int32) (a2 : Int32) (a3 : Int32) (Y : gM), frm S X0 Y → frG g2 S X0 (kk a0 a1 a2 a3 Y)) (hk73 : ∀ (a0 : Int32) (Y : gM), frm S X0 Y → frG g2 S X0 (k73 a0 Y)) (hX : frm S X0 X) : frG g2 S X0 (X9_spansOf_J67 al N kk k73 p2 p3 p5 p6 X) := by
  rw [X9_spansOf_J67]
  repeat' (first | with_reducible assumption | with_reducible exact frG_none | with_reducible refine frG_some ?_ | with_reducible refine hkk _ _ _ _ _ ?_ | with_reducible refine hk73 _ _ ?_ | with_reducible refine frG_b2 ?_ (fun _ _ _ => ?_) | with_reducible refine frG_b3 ?_ (fun _ _ _ _ => ?_) | with_reducible refine frG_bd (fun _ => ?_) | with_reducible refine frG_glm ?_ (fun _ _ => ?_) | with_reducible refine frG_gl (fun _ => ?_) | with_reducible refine frG_ite ?_ ?_ | with_reducible refine frm_set ?_ (by assumption) | with_reducible refine frm_sl ?_ (by assumption) | with_reducible refine frm_fill ?_ (by assumption) | with_reducible refine frm_tx8 ?_ (by assumption) (by assumption) (by assumption) | intro _)

theorem fr_X9_spansOf_L27 {S : Nat → Bool}  {al : Nat → Nat → Bool} {N : Nat}  {k73 : Int32 → gM → Option (Int32 × gM)} {X0 : gM} (hk73 : ∀ (a0 : Int32) (Y : gM), frm S X0 Y → frG g2 S X0 (k73 a0 Y)) : ∀ (n : Nat) (a1 : Int32) (a2 : Int32) (a3 : Int32) (a4 : Int32) (X : gM), frm S X0 X → frG g2 S X0 (X9_spansOf_L27 al N k73 n a1 a2 a3 a4 X) := by
  intro n
  induction n with
  | zero =>
    intro a1 a2 a3 a4 X hX
    rw [X9_spansOf_L27]
    exact frG_none
  | succ n ih =>
    intro a1 a2 a3 a4 X hX
    rw [X9_spansOf_L27]
    repeat' (first | with_reducible assumption | with_reducible exact frG_none | with_reducible refine frG_some ?_ | with_reducible refine fr_X9_spansOf_J67  ?_ ?_ ?_ | with_reducible refine hk73 _ _ ?_ | with_reducible refine ih _ _ _ _ _ ?_ | with_reducible refine frG_b2 ?_ (fun _ _ _ => ?_) | with_reducible refine frG_b3 ?_ (fun _ _ _ _ => ?_) | with_reducible refine frG_bd (fun _ => ?_) | with_reducible refine frG_glm ?_ (fun _ _ => ?_) | with_reducible refine frG_gl (fun _ => ?_) | with_reducible refine frG_ite ?_ ?_ | with_reducible refine frm_set ?_ (by assumption) | with_reducible refine frm_sl ?_ (by assumption) | with_reducible refine frm_fill ?_ (by assumption) | with_reducible refine frm_tx8 ?_ (by assumption) (by assumption) (by assumption) | intro _)

theorem fr_X9_spansOf {S : Nat → Bool}  {al : Nat → Nat → Bool} {N : Nat} {p1 : Nat}  {X0 X : gM}  (hX : frm S X0 X) : frG g2 S X0 (X9_spansOf al N p1 X) := by
  rw [X9_spansOf]
  repeat' (first | with_reducible assumption | with_reducible exact frG_none | with_reducible refine frG_some ?_ | with_reducible refine fr_X9_sheetGroup   ?_ | with_reducible refine fr_X9_spansOf_L27  ?_ _ _ _ _ _ _ ?_ | with_reducible refine fr_X9_spansOf_J73   ?_ | with_reducible refine frG_b2 ?_ (fun _ _ _ => ?_) | with_reducible refine frG_b3 ?_ (fun _ _ _ _ => ?_) | with_reducible refine frG_bd (fun _ => ?_) | with_reducible refine frG_glm ?_ (fun _ _ => ?_) | with_reducible refine frG_gl (fun _ => ?_) | with_reducible refine frG_ite ?_ ?_ | with_reducible refine frm_set ?_ (by assumption) | with_reducible refine frm_sl ?_ (by assumption) | with_reducible refine frm_fill ?_ (by assumption) | with_reducible refine frm_tx8 ?_ (by assumption) (by assumption) (by assumption) | intro _)

theorem fr_X9_worth_J89 {S : Nat → Bool}  {al : Nat → Nat → Bool} {N : Nat} {p1 : Int32}  {X0 X : gM}  (hX : frm S X0 X) : frG g2 S X0 (X9_worth_J89 al N p1 X) := by
  rw [X9_worth_J89]
  repeat' (first | with_reducible assumption | with_reducible exact frG_none | with_reducible refine frG_some ?_ | with_reducible refine frG_b2 ?_ (fun _ _ _ => ?_) | with_reducible refine frG_b3 ?_ (fun _ _ _ _ => ?_) | with_reducible refine frG_bd (fun _ => ?_) | with_reducible refine frG_glm ?_ (fun _ _ => ?_) | with_reducible refine frG_gl (fun _ => ?_) | with_reducible refine frG_ite ?_ ?_ | with_reducible refine frm_set ?_ (by assumption) | with_reducible refine frm_sl ?_ (by assumption) | with_reducible refine frm_fill ?_ (by assumption) | with_reducible refine frm_tx8 ?_ (by assumption) (by assumption) (by assumption) | intro _)

theorem fr_X9_worth_J83 {S : Nat → Bool}  {al : Nat → Nat → Bool} {N : Nat} {p1 : Int32} {p2 : Int32} {p4 : Int32} {p5 : Int32} {kk : Int32 → Int32 → Int32 → Int32 → gM → Option (Int32 × gM)} {k89 : Int32 → gM → Option (Int32 × gM)} {X0 X : gM} (hkk : ∀ (a0 : Int32) (a1 : Int32) (a2 : Int32) (a3 : Int32) (Y : gM), frm S X0 Y → frG g2 S X0 (kk a0 a1 a2 a3 Y)) (hk89 : ∀ (a0 : Int32) (Y : gM), frm S X0 Y → frG g2 S X0 (k89 a0 Y)) (hX : frm S X0 X) : frG g2 S X0 (X9_worth_J83 al N kk k89 p1 p2 p4 p5 X) := by
  rw [X9_worth_J83]
  repeat' (first | with_reducible assumption | with_reducible exact frG_none | with_reducible refine frG_some ?_ | with_reducible refine hkk _ _ _ _ _ ?_ | with_reducible refine hk89 _ _ ?_ | with_reducible refine frG_b2 ?_ (fun _ _ _ => ?_) | with_reducible refine frG_b3 ?_ (fun _ _ _ _ => ?_) | with_reducible refine frG_bd (fun _ => ?_) | with_reducible refine frG_glm ?_ (fun _ _ => ?_) | with_reducible refine frG_gl (fun _ => ?_) | with_reducible refine frG_ite ?_ ?_ | with_reducible refine frm_set ?_ (by assumption) | with_reducible refine frm_sl ?_ (by assumption) | with_reducible refine frm_fill ?_ (by assumption) | with_reducible refine frm_tx8 ?_ (by assumption) (by assumption) (by assumption) | intro _)

theorem fr_X9_worth_J65 {S : Nat → Bool}  {al : Nat → Nat → Bool} {N : Nat} {p1 : Int32} {p2 : Int32} {p4 : Int32} {p5 : Int32} {p6 : Int32} {s0 : Int32} {s1 : Int32} {kk : Int32 → Int32 → Int32 → Int32 → gM → Option (Int32 × gM)} {k89 : Int32 → gM → Option (Int32 × gM)} {X0 X : gM} (hkk : ∀ (a0 : Int32) (a1 : Int32) (a2 : Int32) (a3 : Int32) (Y : gM), frm S X0 Y → frG g2 S X0 (kk a0 a1 a2 a3 Y)) (hk89 : ∀ (a0 : Int32) (Y : gM), frm S X0 Y → frG g2 S X0 (k89 a0 Y)) (hX : frm S X0 X) : frG g2 S X0 (X9_worth_J65 al N kk k89 p1 p2 p4 p5 p6 s0 s1 X) := by
  rw [X9_worth_J65]
  repeat' (first | with_reducible assumption | with_reducible exact frG_none | with_reducible refine frG_some ?_ | with_reducible refine fr_X9_worth_J83  ?_ ?_ ?_ | with_reducible refine hkk _ _ _ _ _ ?_ | with_reducible refine hk89 _ _ ?_ | with_reducible refine frG_b2 ?_ (fun _ _ _ => ?_) | with_reducible refine frG_b3 ?_ (fun _ _ _ _ => ?_) | with_reducible refine frG_bd (fun _ => ?_) | with_reducible refine frG_glm ?_ (fun _ _ => ?_) | with_reducible refine frG_gl (fun _ => ?_) | with_reducible refine frG_ite ?_ ?_ | with_reducible refine frm_set ?_ (by assumption) | with_reducible refine frm_sl ?_ (by assumption) | with_reducible refine frm_fill ?_ (by assumption) | with_reducible refine frm_tx8 ?_ (by assumption) (by assumption) (by assumption) | intro _)

theorem fr_X9_worth_L16 {S : Nat → Bool} (h14 : S 14 = true) (h15 : S 15 = true) (h16 : S 16 = true) (h17 : S 17 = true) (h18 : S 18 = true) (h20 : S 20 = true) (h21 : S 21 = true) {al : Nat → Nat → Bool} {N : Nat}  {k89 : Int32 → gM → Option (Int32 × gM)} {X0 : gM} (hk89 : ∀ (a0 : Int32) (Y : gM), frm S X0 Y → frG g2 S X0 (k89 a0 Y)) : ∀ (n : Nat) (a1 : Int32) (a2 : Int32) (a3 : Int32) (a4 : Int32) (X : gM), frm S X0 X → frG g2 S X0 (X9_worth_L16 al N k89 n a1 a2 a3 a4 X) := by
  intro n
  induction n with
  | zero =>
    intro a1 a2 a3 a4 X hX
    rw [X9_worth_L16]
    exact frG_none
  | succ n ih =>
    intro a1 a2 a3 a4 X hX
    rw [X9_worth_L16]
    repeat' (first | with_reducible assumption | with_reducible exact frG_none | with_reducible refine frG_some ?_ | with_reducible refine fr_X9_worth_J83  ?_ ?_ ?_ | with_reducible refine fr_X9_placesOf h14 h15 h16 h17 h18 h20 h21  ?_ | with_reducible refine fr_X2_mixedCells   ?_ | with_reducible refine fr_X9_worth_J65  ?_ ?_ ?_ | with_reducible refine fr_J6_bitCount_0f7a4   ?_ | with_reducible refine hk89 _ _ ?_ | with_reducible refine ih _ _ _ _ _ ?_ | with_reducible refine frG_b2 ?_ (fun _ _ _ => ?_) | with_reducible refine frG_b3 ?_ (fun _ _ _ _ => ?_) | with_reducible refine frG_bd (fun _ => ?_) | with_reducible refine frG_glm ?_ (fun _ _ => ?_) | with_reducible refine frG_gl (fun _ => ?_) | with_reducible refine frG_ite ?_ ?_ | with_reducible refine frm_set ?_ (by assumption) | with_reducible refine frm_sl ?_ (by assumption) | with_reducible refine frm_fill ?_ (by assumption) | with_reducible refine frm_tx8 ?_ (by assumption) (by assumption) (by assumption) | intro _)

theorem fr_X9_worth {S : Nat → Bool} (h14 : S 14 = true) (h15 : S 15 = true) (h16 : S 16 = true) (h17 : S 17 = true) (h18 : S 18 = true) (h20 : S 20 = true) (h21 : S 21 = true) {al : Nat → Nat → Bool} {N : Nat}   {X0 X : gM}  (hX : frm S X0 X) : frG g2 S X0 (X9_worth al N X) := by
  rw [X9_worth]
  repeat' (first | with_reducible assumption | with_reducible exact frG_none | with_reducible refine frG_some ?_ | with_reducible refine fr_X9_worth_L16 h14 h15 h16 h17 h18 h20 h21 ?_ _ _ _ _ _ _ ?_ | with_reducible refine fr_X9_worth_J89   ?_ | with_reducible refine frG_b2 ?_ (fun _ _ _ => ?_) | with_reducible refine frG_b3 ?_ (fun _ _ _ _ => ?_) | with_reducible refine frG_bd (fun _ => ?_) | with_reducible refine frG_glm ?_ (fun _ _ => ?_) | with_reducible refine frG_gl (fun _ => ?_) | with_reducible refine frG_ite ?_ ?_ | with_reducible refine frm_set ?_ (by assumption) | with_reducible refine frm_sl ?_ (by assumption) | with_reducible refine frm_fill ?_ (by assumption) | with_reducible refine frm_tx8 ?_ (by assumption) (by assumption) (by assumption) | intro _)

theorem fr_X0_init {S : Nat → Bool} (h8 : S 8 = true) (h9 : S 9 = true) (h10 : S 10 = true) (h85 : S 85 = true) {al : Nat → Nat → Bool} {N : Nat} {p0 : Nat}  {X0 X : gM}  (hX : frm S X0 X) : frG g2 S X0 (X0_init al N p0 X) := by
  rw [X0_init]
  repeat' (first | with_reducible assumption | with_reducible exact frG_none | with_reducible refine frG_some ?_ | with_reducible refine frG_b2 ?_ (fun _ _ _ => ?_) | with_reducible refine frG_b3 ?_ (fun _ _ _ _ => ?_) | with_reducible refine frG_bd (fun _ => ?_) | with_reducible refine frG_glm ?_ (fun _ _ => ?_) | with_reducible refine frG_gl (fun _ => ?_) | with_reducible refine frG_ite ?_ ?_ | with_reducible refine frm_set ?_ (by assumption) | with_reducible refine frm_sl ?_ (by assumption) | with_reducible refine frm_fill ?_ (by assumption) | with_reducible refine frm_tx8 ?_ (by assumption) (by assumption) (by assumption) | intro _)

theorem fr_X1_init {S : Nat → Bool} (h88 : S 88 = true) {al : Nat → Nat → Bool} {N : Nat} {p0 : Nat} {p1 : Int32} {p2 : Nat} {p3 : Int32} {p4 : Int32} {p5 : Int32} {p6 : Int32}  {X0 X : gM}  (hX : frm S X0 X) : frG g2 S X0 (X1_init al N p0 p1 p2 p3 p4 p5 p6 X) := by
  rw [X1_init]
  repeat' (first | with_reducible assumption | with_reducible exact frG_none | with_reducible refine frG_some ?_ | with_reducible refine frG_b2 ?_ (fun _ _ _ => ?_) | with_reducible refine frG_b3 ?_ (fun _ _ _ _ => ?_) | with_reducible refine frG_bd (fun _ => ?_) | with_reducible refine frG_glm ?_ (fun _ _ => ?_) | with_reducible refine frG_gl (fun _ => ?_) | with_reducible refine frG_ite ?_ ?_ | with_reducible refine frm_set ?_ (by assumption) | with_reducible refine frm_sl ?_ (by assumption) | with_reducible refine frm_fill ?_ (by assumption) | with_reducible refine frm_tx8 ?_ (by assumption) (by assumption) (by assumption) | intro _)

theorem fr_X2_init_L {S : Nat → Bool} (h6 : S 6 = true) (h7 : S 7 = true) (h8 : S 8 = true) (h9 : S 9 = true) (h10 : S 10 = true) (h85 : S 85 = true) {al : Nat → Nat → Bool} {N k : Nat} {lines width : Int32} {X0 : gM} : ∀ (n : Nat) (i : Int32) (X : gM), frm S X0 X → frG g2 S X0 (X2_init_L al N k lines width n i X) := by
  intro n
  induction n with
  | zero =>
    intro i X hX
    rw [X2_init_L]
    exact frG_none
  | succ n ih =>
    intro i X hX
    rw [X2_init_L]
    repeat' (first | with_reducible assumption | with_reducible exact frG_none | with_reducible refine frG_some ?_ | with_reducible refine fr_X0_init h8 h9 h10 h85 ?_ | with_reducible refine ih _ _ ?_ | with_reducible refine frG_b2 ?_ (fun _ _ _ => ?_) | with_reducible refine frG_bd (fun _ => ?_) | with_reducible refine frG_glm ?_ (fun _ _ => ?_) | with_reducible refine frG_gl (fun _ => ?_) | with_reducible refine frG_ite ?_ ?_ | with_reducible refine frm_set ?_ (by assumption) | with_reducible refine frm_sl ?_ (by assumption) | intro _)

theorem fr_X2_init {S : Nat → Bool} (h5 : S 5 = true) (h6 : S 6 = true) (h7 : S 7 = true) (h8 : S 8 = true) (h9 : S 9 = true) (h10 : S 10 = true) (h84 : S 84 = true) (h85 : S 85 = true) {al : Nat → Nat → Bool} {N : Nat} {p0 : Nat} {p1 : Int32} {p2 : Nat} {p3 : Int32} {p4 : Int32}  {X0 X : gM}  (hX : frm S X0 X) : frG g2 S X0 (X2_init al N p0 p1 p2 p3 p4 X) := by
  rw [X2_init]
  repeat' (first | with_reducible assumption | with_reducible exact frG_none | with_reducible refine frG_some ?_ | with_reducible refine fr_X2_init_L h6 h7 h8 h9 h10 h85  _ _ _ ?_ | with_reducible refine frG_b2 ?_ (fun _ _ _ => ?_) | with_reducible refine frG_b3 ?_ (fun _ _ _ _ => ?_) | with_reducible refine frG_bd (fun _ => ?_) | with_reducible refine frG_glm ?_ (fun _ _ => ?_) | with_reducible refine frG_gl (fun _ => ?_) | with_reducible refine frG_ite ?_ ?_ | with_reducible refine frm_set ?_ (by assumption) | with_reducible refine frm_sl ?_ (by assumption) | with_reducible refine frm_fill ?_ (by assumption) | with_reducible refine frm_tx8 ?_ (by assumption) (by assumption) (by assumption) | intro _)

theorem fr_X9_sheets {S : Nat → Bool} (h12 : S 12 = true) (h14 : S 14 = true) {al : Nat → Nat → Bool} {N : Nat} {p1 : Int32} {p2 : Int32}  {X0 X : gM}  (hX : frm S X0 X) : frG g3 S X0 (X9_sheets al N p1 p2 X) := by
  rw [X9_sheets]
  repeat' (first | with_reducible assumption | with_reducible exact frG_none | with_reducible refine frG_some ?_ | with_reducible refine fr_X9_quireOf   ?_ | with_reducible refine fr_X9_isWithin   ?_ | with_reducible refine fr_X5_forget h14  ?_ | with_reducible refine frG_b2 ?_ (fun _ _ _ => ?_) | with_reducible refine frG_b3 ?_ (fun _ _ _ _ => ?_) | with_reducible refine frG_bd (fun _ => ?_) | with_reducible refine frG_glm ?_ (fun _ _ => ?_) | with_reducible refine frG_gl (fun _ => ?_) | with_reducible refine frG_ite ?_ ?_ | with_reducible refine frm_set ?_ (by assumption) | with_reducible refine frm_sl ?_ (by assumption) | with_reducible refine frm_fill ?_ (by assumption) | with_reducible refine frm_tx8 ?_ (by assumption) (by assumption) (by assumption) | intro _)

theorem fr_X9_light_J113 {S : Nat → Bool}  {al : Nat → Nat → Bool} {N : Nat}   {X0 X : gM}  (hX : frm S X0 X) : frG g3 S X0 (X9_light_J113 al N X) := by
  rw [X9_light_J113]
  repeat' (first | with_reducible assumption | with_reducible exact frG_none | with_reducible refine frG_some ?_ | with_reducible refine frG_b2 ?_ (fun _ _ _ => ?_) | with_reducible refine frG_b3 ?_ (fun _ _ _ _ => ?_) | with_reducible refine frG_bd (fun _ => ?_) | with_reducible refine frG_glm ?_ (fun _ _ => ?_) | with_reducible refine frG_gl (fun _ => ?_) | with_reducible refine frG_ite ?_ ?_ | with_reducible refine frm_set ?_ (by assumption) | with_reducible refine frm_sl ?_ (by assumption) | with_reducible refine frm_fill ?_ (by assumption) | with_reducible refine frm_tx8 ?_ (by assumption) (by assumption) (by assumption) | intro _)

theorem fr_X9_light_J107 {S : Nat → Bool}  {al : Nat → Nat → Bool} {N : Nat} {p5 : Int32} {p6 : Int32} {kk : Int32 → Int32 → gM → Option (Nat × Int32 × gM)} {k113 : gM → Option (Nat × Int32 × gM)} {X0 X : gM} (hkk : ∀ (a0 : Int32) (a1 : Int32) (Y : gM), frm S X0 Y → frG g3 S X0 (kk a0 a1 Y)) (hk113 : ∀  (Y : gM), frm S X0 Y → frG g3 S X0 (k113  Y)) (hX : frm S X0 X) : frG g3 S X0 (X9_light_J107 al N kk k113 p5 p6 X) := by
  rw [X9_light_J107]
  repeat' (first | with_reducible assumption | with_reducible exact frG_none | with_reducible refine frG_some ?_ | with_reducible refine hkk _ _ _ ?_ | with_reducible refine hk113 _ ?_ | with_reducible refine frG_b2 ?_ (fun _ _ _ => ?_) | with_reducible refine frG_b3 ?_ (fun _ _ _ _ => ?_) | with_reducible refine frG_bd (fun _ => ?_) | with_reducible refine frG_glm ?_ (fun _ _ => ?_) | with_reducible refine frG_gl (fun _ => ?_) | with_reducible refine frG_ite ?_ ?_ | with_reducible refine frm_set ?_ (by assumption) | with_reducible refine frm_sl ?_ (by assumption) | with_reducible refine frm_fill ?_ (by assumption) | with_reducible refine frm_tx8 ?_ (by assumption) (by assumption) (by assumption) | intro _)

theorem fr_X9_light_L79 {S : Nat → Bool} (h7 : S 7 = true) {al : Nat → Nat → Bool} {N : Nat}  {k113 : gM → Option (Nat × Int32 × gM)} {X0 : gM} (hk113 : ∀  (Y : gM), frm S X0 Y → frG g3 S X0 (k113  Y)) : ∀ (n : Nat) (a1 : Int32) (a2 : Int32) (X : gM), frm S X0 X → frG g3 S X0 (X9_light_L79 al N k113 n a1 a2 X) := by
  intro n
  induction n with
  | zero =>
    intro a1 a2 X hX
    rw [X9_light_L79]
    exact frG_none
  | succ n ih =>
    intro a1 a2 X hX
    rw [X9_light_L79]
    repeat' (first | with_reducible assumption | with_reducible exact frG_none | with_reducible refine frG_some ?_ | with_reducible refine fr_X9_light_J107  ?_ ?_ ?_ | with_reducible refine fr_X2_measureAll h7  ?_ | with_reducible refine hk113 _ ?_ | with_reducible refine ih _ _ _ ?_ | with_reducible refine frG_b2 ?_ (fun _ _ _ => ?_) | with_reducible refine frG_b3 ?_ (fun _ _ _ _ => ?_) | with_reducible refine frG_bd (fun _ => ?_) | with_reducible refine frG_glm ?_ (fun _ _ => ?_) | with_reducible refine frG_gl (fun _ => ?_) | with_reducible refine frG_ite ?_ ?_ | with_reducible refine frm_set ?_ (by assumption) | with_reducible refine frm_sl ?_ (by assumption) | with_reducible refine frm_fill ?_ (by assumption) | with_reducible refine frm_tx8 ?_ (by assumption) (by assumption) (by assumption) | intro _)

theorem fr_X9_light_J37 {S : Nat → Bool}  {al : Nat → Nat → Bool} {N : Nat}   {X0 X : gM}  (hX : frm S X0 X) : frG g3 S X0 (X9_light_J37 al N X) := by
  rw [X9_light_J37]
  repeat' (first | with_reducible assumption | with_reducible exact frG_none | with_reducible refine frG_some ?_ | with_reducible refine frG_b2 ?_ (fun _ _ _ => ?_) | with_reducible refine frG_b3 ?_ (fun _ _ _ _ => ?_) | with_reducible refine frG_bd (fun _ => ?_) | with_reducible refine frG_glm ?_ (fun _ _ => ?_) | with_reducible refine frG_gl (fun _ => ?_) | with_reducible refine frG_ite ?_ ?_ | with_reducible refine frm_set ?_ (by assumption) | with_reducible refine frm_sl ?_ (by assumption) | with_reducible refine frm_fill ?_ (by assumption) | with_reducible refine frm_tx8 ?_ (by assumption) (by assumption) (by assumption) | intro _)

theorem fr_X9_light {S : Nat → Bool} (h2 : S 2 = true) (h3 : S 3 = true) (h7 : S 7 = true) {al : Nat → Nat → Bool} {N : Nat} {p1 : Int32} {p2 : Int32} {p3 : Int32}  {X0 X : gM}  (hX : frm S X0 X) : frG g3 S X0 (X9_light al N p1 p2 p3 X) := by
  rw [X9_light]
  repeat' (first | with_reducible assumption | with_reducible exact frG_none | with_reducible refine frG_some ?_ | with_reducible refine fr_X9_isWithin   ?_ | with_reducible refine fr_X9_light_J37   ?_ | with_reducible refine fr_X9_light_L79 h7 ?_ _ _ _ _ ?_ | with_reducible refine fr_X9_light_J113   ?_ | with_reducible refine frG_b2 ?_ (fun _ _ _ => ?_) | with_reducible refine frG_b3 ?_ (fun _ _ _ _ => ?_) | with_reducible refine frG_bd (fun _ => ?_) | with_reducible refine frG_glm ?_ (fun _ _ => ?_) | with_reducible refine frG_gl (fun _ => ?_) | with_reducible refine frG_ite ?_ ?_ | with_reducible refine frm_set ?_ (by assumption) | with_reducible refine frm_sl ?_ (by assumption) | with_reducible refine frm_fill ?_ (by assumption) | with_reducible refine frm_tx8 ?_ (by assumption) (by assumption) (by assumption) | intro _)

theorem fr_X9_image_J58 {S : Nat → Bool} (h7 : S 7 = true) (h8 : S 8 = true) {al : Nat → Nat → Bool} {N : Nat} {p4 : Int32} {p5 : Int32} {p6 : Int32}  {X0 X : gM}  (hX : frm S X0 X) : frG g3 S X0 (X9_image_J58 al N p4 p5 p6 X) := by
  rw [X9_image_J58]
  repeat' (first | with_reducible assumption | with_reducible exact frG_none | with_reducible refine frG_some ?_ | with_reducible refine fr_X0_measure h7  ?_ | with_reducible refine frG_b2 ?_ (fun _ _ _ => ?_) | with_reducible refine frG_b3 ?_ (fun _ _ _ _ => ?_) | with_reducible refine frG_bd (fun _ => ?_) | with_reducible refine frG_glm ?_ (fun _ _ => ?_) | with_reducible refine frG_gl (fun _ => ?_) | with_reducible refine frG_ite ?_ ?_ | with_reducible refine frm_set ?_ (by assumption) | with_reducible refine frm_sl ?_ (by assumption) | with_reducible refine frm_fill ?_ (by assumption) | with_reducible refine frm_tx8 ?_ (by assumption) (by assumption) (by assumption) | intro _)

theorem fr_X9_image_J24 {S : Nat → Bool}  {al : Nat → Nat → Bool} {N : Nat}   {X0 X : gM}  (hX : frm S X0 X) : frG g3 S X0 (X9_image_J24 al N X) := by
  rw [X9_image_J24]
  repeat' (first | with_reducible assumption | with_reducible exact frG_none | with_reducible refine frG_some ?_ | with_reducible refine frG_b2 ?_ (fun _ _ _ => ?_) | with_reducible refine frG_b3 ?_ (fun _ _ _ _ => ?_) | with_reducible refine frG_bd (fun _ => ?_) | with_reducible refine frG_glm ?_ (fun _ _ => ?_) | with_reducible refine frG_gl (fun _ => ?_) | with_reducible refine frG_ite ?_ ?_ | with_reducible refine frm_set ?_ (by assumption) | with_reducible refine frm_sl ?_ (by assumption) | with_reducible refine frm_fill ?_ (by assumption) | with_reducible refine frm_tx8 ?_ (by assumption) (by assumption) (by assumption) | intro _)

theorem fr_X9_image {S : Nat → Bool} (h7 : S 7 = true) (h8 : S 8 = true) {al : Nat → Nat → Bool} {N : Nat} {p1 : Int32} {p2 : Int32} {p3 : Int32} {p4 : Int32} {p5 : Int32}  {X0 X : gM}  (hX : frm S X0 X) : frG g3 S X0 (X9_image al N p1 p2 p3 p4 p5 X) := by
  rw [X9_image]
  repeat' (first | with_reducible assumption | with_reducible exact frG_none | with_reducible refine frG_some ?_ | with_reducible refine fr_X9_cellOf   ?_ | with_reducible refine fr_X9_image_J24   ?_ | with_reducible refine fr_X9_isWithin   ?_ | with_reducible refine fr_X9_image_J58 h7 h8  ?_ | with_reducible refine frG_b2 ?_ (fun _ _ _ => ?_) | with_reducible refine frG_b3 ?_ (fun _ _ _ _ => ?_) | with_reducible refine frG_bd (fun _ => ?_) | with_reducible refine frG_glm ?_ (fun _ _ => ?_) | with_reducible refine frG_gl (fun _ => ?_) | with_reducible refine frG_ite ?_ ?_ | with_reducible refine frm_set ?_ (by assumption) | with_reducible refine frm_sl ?_ (by assumption) | with_reducible refine frm_fill ?_ (by assumption) | with_reducible refine frm_tx8 ?_ (by assumption) (by assumption) (by assumption) | intro _)

theorem fr_X9_unmix_J40 {S : Nat → Bool}  {al : Nat → Nat → Bool} {N : Nat} {s0 : Int32}  {X0 X : gM}  (hX : frm S X0 X) : frG g3 S X0 (X9_unmix_J40 al N s0 X) := by
  rw [X9_unmix_J40]
  repeat' (first | with_reducible assumption | with_reducible exact frG_none | with_reducible refine frG_some ?_ | with_reducible refine frG_b2 ?_ (fun _ _ _ => ?_) | with_reducible refine frG_b3 ?_ (fun _ _ _ _ => ?_) | with_reducible refine frG_bd (fun _ => ?_) | with_reducible refine frG_glm ?_ (fun _ _ => ?_) | with_reducible refine frG_gl (fun _ => ?_) | with_reducible refine frG_ite ?_ ?_ | with_reducible refine frm_set ?_ (by assumption) | with_reducible refine frm_sl ?_ (by assumption) | with_reducible refine frm_fill ?_ (by assumption) | with_reducible refine frm_tx8 ?_ (by assumption) (by assumption) (by assumption) | intro _)

theorem fr_X9_unmix {S : Nat → Bool}  {al : Nat → Nat → Bool} {N : Nat} {p1 : Int32} {p2 : Int32} {p3 : Int32} {p4 : Int32}  {X0 X : gM}  (hX : frm S X0 X) : frG g3 S X0 (X9_unmix al N p1 p2 p3 p4 X) := by
  rw [X9_unmix]
  repeat' (first | with_reducible assumption | with_reducible exact frG_none | with_reducible refine frG_some ?_ | with_reducible refine fr_X9_cellOf   ?_ | with_reducible refine fr_X9_unmix_J40   ?_ | with_reducible refine frG_b2 ?_ (fun _ _ _ => ?_) | with_reducible refine frG_b3 ?_ (fun _ _ _ _ => ?_) | with_reducible refine frG_bd (fun _ => ?_) | with_reducible refine frG_glm ?_ (fun _ _ => ?_) | with_reducible refine frG_gl (fun _ => ?_) | with_reducible refine frG_ite ?_ ?_ | with_reducible refine frm_set ?_ (by assumption) | with_reducible refine frm_sl ?_ (by assumption) | with_reducible refine frm_fill ?_ (by assumption) | with_reducible refine frm_tx8 ?_ (by assumption) (by assumption) (by assumption) | intro _)

theorem fr_X9_give_J83 {S : Nat → Bool}  {al : Nat → Nat → Bool} {N : Nat}   {X0 X : gM}  (hX : frm S X0 X) : frG g3 S X0 (X9_give_J83 al N X) := by
  rw [X9_give_J83]
  repeat' (first | with_reducible assumption | with_reducible exact frG_none | with_reducible refine frG_some ?_ | with_reducible refine frG_b2 ?_ (fun _ _ _ => ?_) | with_reducible refine frG_b3 ?_ (fun _ _ _ _ => ?_) | with_reducible refine frG_bd (fun _ => ?_) | with_reducible refine frG_glm ?_ (fun _ _ => ?_) | with_reducible refine frG_gl (fun _ => ?_) | with_reducible refine frG_ite ?_ ?_ | with_reducible refine frm_set ?_ (by assumption) | with_reducible refine frm_sl ?_ (by assumption) | with_reducible refine frm_fill ?_ (by assumption) | with_reducible refine frm_tx8 ?_ (by assumption) (by assumption) (by assumption) | intro _)

theorem fr_X9_give_J51 {S : Nat → Bool}  {al : Nat → Nat → Bool} {N : Nat}   {X0 X : gM}  (hX : frm S X0 X) : frG g3 S X0 (X9_give_J51 al N X) := by
  rw [X9_give_J51]
  repeat' (first | with_reducible assumption | with_reducible exact frG_none | with_reducible refine frG_some ?_ | with_reducible refine frG_b2 ?_ (fun _ _ _ => ?_) | with_reducible refine frG_b3 ?_ (fun _ _ _ _ => ?_) | with_reducible refine frG_bd (fun _ => ?_) | with_reducible refine frG_glm ?_ (fun _ _ => ?_) | with_reducible refine frG_gl (fun _ => ?_) | with_reducible refine frG_ite ?_ ?_ | with_reducible refine frm_set ?_ (by assumption) | with_reducible refine frm_sl ?_ (by assumption) | with_reducible refine frm_fill ?_ (by assumption) | with_reducible refine frm_tx8 ?_ (by assumption) (by assumption) (by assumption) | intro _)

theorem fr_X9_give_J24 {S : Nat → Bool}  {al : Nat → Nat → Bool} {N : Nat}   {X0 X : gM}  (hX : frm S X0 X) : frG g3 S X0 (X9_give_J24 al N X) := by
  rw [X9_give_J24]
  repeat' (first | with_reducible assumption | with_reducible exact frG_none | with_reducible refine frG_some ?_ | with_reducible refine frG_b2 ?_ (fun _ _ _ => ?_) | with_reducible refine frG_b3 ?_ (fun _ _ _ _ => ?_) | with_reducible refine frG_bd (fun _ => ?_) | with_reducible refine frG_glm ?_ (fun _ _ => ?_) | with_reducible refine frG_gl (fun _ => ?_) | with_reducible refine frG_ite ?_ ?_ | with_reducible refine frm_set ?_ (by assumption) | with_reducible refine frm_sl ?_ (by assumption) | with_reducible refine frm_fill ?_ (by assumption) | with_reducible refine frm_tx8 ?_ (by assumption) (by assumption) (by assumption) | intro _)

theorem fr_X9_give {S : Nat → Bool} (h9 : S 9 = true) (h10 : S 10 = true) {al : Nat → Nat → Bool} {N : Nat} {p1 : Int32} {p2 : Int32} {p3 : Int32} {p4 : Int32} {p5 : Int32} {p6 : Int32}  {X0 X : gM}  (hX : frm S X0 X) : frG g3 S X0 (X9_give al N p1 p2 p3 p4 p5 p6 X) := by
  rw [X9_give]
  repeat' (first | with_reducible assumption | with_reducible exact frG_none | with_reducible refine frG_some ?_ | with_reducible refine fr_X9_cellOf   ?_ | with_reducible refine fr_X9_give_J24   ?_ | with_reducible refine fr_X9_isWithin   ?_ | with_reducible refine fr_X9_isLetter   ?_ | with_reducible refine fr_X9_give_J51   ?_ | with_reducible refine fr_X0_slotFor   ?_ | with_reducible refine fr_X0_isBlank   ?_ | with_reducible refine fr_X9_give_J83   ?_ | with_reducible refine fr_X0_put h9 h10  ?_ | with_reducible refine fr_X0_countOf   ?_ | with_reducible refine frG_b2 ?_ (fun _ _ _ => ?_) | with_reducible refine frG_b3 ?_ (fun _ _ _ _ => ?_) | with_reducible refine frG_bd (fun _ => ?_) | with_reducible refine frG_glm ?_ (fun _ _ => ?_) | with_reducible refine frG_gl (fun _ => ?_) | with_reducible refine frG_ite ?_ ?_ | with_reducible refine frm_set ?_ (by assumption) | with_reducible refine frm_sl ?_ (by assumption) | with_reducible refine frm_fill ?_ (by assumption) | with_reducible refine frm_tx8 ?_ (by assumption) (by assumption) (by assumption) | intro _)

theorem fr_X9_type {S : Nat → Bool} (h0 : S 0 = true) (h24 : S 24 = true) {al : Nat → Nat → Bool} {N : Nat} {p1 : Int32}  {X0 X : gM}  (hX : frm S X0 X) : frG g3 S X0 (X9_type al N p1 X) := by
  rw [X9_type]
  repeat' (first | with_reducible assumption | with_reducible exact frG_none | with_reducible refine frG_some ?_ | with_reducible refine fr_X9_isLetter   ?_ | with_reducible refine frG_b2 ?_ (fun _ _ _ => ?_) | with_reducible refine frG_b3 ?_ (fun _ _ _ _ => ?_) | with_reducible refine frG_bd (fun _ => ?_) | with_reducible refine frG_glm ?_ (fun _ _ => ?_) | with_reducible refine frG_gl (fun _ => ?_) | with_reducible refine frG_ite ?_ ?_ | with_reducible refine frm_set ?_ (by assumption) | with_reducible refine frm_sl ?_ (by assumption) | with_reducible refine frm_fill ?_ (by assumption) | with_reducible refine frm_tx8 ?_ (by assumption) (by assumption) (by assumption) | intro _)

theorem fr_X9_weight_J21 {S : Nat → Bool}  {al : Nat → Nat → Bool} {N : Nat}   {X0 X : gM}  (hX : frm S X0 X) : frG g3 S X0 (X9_weight_J21 al N X) := by
  rw [X9_weight_J21]
  repeat' (first | with_reducible assumption | with_reducible exact frG_none | with_reducible refine frG_some ?_ | with_reducible refine frG_b2 ?_ (fun _ _ _ => ?_) | with_reducible refine frG_b3 ?_ (fun _ _ _ _ => ?_) | with_reducible refine frG_bd (fun _ => ?_) | with_reducible refine frG_glm ?_ (fun _ _ => ?_) | with_reducible refine frG_gl (fun _ => ?_) | with_reducible refine frG_ite ?_ ?_ | with_reducible refine frm_set ?_ (by assumption) | with_reducible refine frm_sl ?_ (by assumption) | with_reducible refine frm_fill ?_ (by assumption) | with_reducible refine frm_tx8 ?_ (by assumption) (by assumption) (by assumption) | intro _)

theorem fr_X9_weight {S : Nat → Bool} (h29 : S 29 = true) (h30 : S 30 = true) (h31 : S 31 = true) (h32 : S 32 = true) (h33 : S 33 = true) (h35 : S 35 = true) (h36 : S 36 = true) (h38 : S 38 = true) {al : Nat → Nat → Bool} {N : Nat} {p1 : Int32} {p2 : Int32} {p3 : Int32}  {X0 X : gM}  (hX : frm S X0 X) : frG g3 S X0 (X9_weight al N p1 p2 p3 X) := by
  rw [X9_weight]
  repeat' (first | with_reducible assumption | with_reducible exact frG_none | with_reducible refine frG_some ?_ | with_reducible refine fr_X9_leafOf   ?_ | with_reducible refine fr_X9_weight_J21   ?_ | with_reducible refine fr_X2_hasLine   ?_ | with_reducible refine fr_X9_isLayer   ?_ | with_reducible refine fr_X6_read h29 h30 h31 h32 h33 h35 h36 h38  ?_ | with_reducible refine fr_X6_bestWeight   ?_ | with_reducible refine frG_b2 ?_ (fun _ _ _ => ?_) | with_reducible refine frG_b3 ?_ (fun _ _ _ _ => ?_) | with_reducible refine frG_bd (fun _ => ?_) | with_reducible refine frG_glm ?_ (fun _ _ => ?_) | with_reducible refine frG_gl (fun _ => ?_) | with_reducible refine frG_ite ?_ ?_ | with_reducible refine frm_set ?_ (by assumption) | with_reducible refine frm_sl ?_ (by assumption) | with_reducible refine frm_fill ?_ (by assumption) | with_reducible refine frm_tx8 ?_ (by assumption) (by assumption) (by assumption) | intro _)

theorem fr_X9_readings_J21 {S : Nat → Bool}  {al : Nat → Nat → Bool} {N : Nat}   {X0 X : gM}  (hX : frm S X0 X) : frG g3 S X0 (X9_readings_J21 al N X) := by
  rw [X9_readings_J21]
  repeat' (first | with_reducible assumption | with_reducible exact frG_none | with_reducible refine frG_some ?_ | with_reducible refine frG_b2 ?_ (fun _ _ _ => ?_) | with_reducible refine frG_b3 ?_ (fun _ _ _ _ => ?_) | with_reducible refine frG_bd (fun _ => ?_) | with_reducible refine frG_glm ?_ (fun _ _ => ?_) | with_reducible refine frG_gl (fun _ => ?_) | with_reducible refine frG_ite ?_ ?_ | with_reducible refine frm_set ?_ (by assumption) | with_reducible refine frm_sl ?_ (by assumption) | with_reducible refine frm_fill ?_ (by assumption) | with_reducible refine frm_tx8 ?_ (by assumption) (by assumption) (by assumption) | intro _)

theorem fr_X9_readings {S : Nat → Bool} (h29 : S 29 = true) (h30 : S 30 = true) (h31 : S 31 = true) (h32 : S 32 = true) (h33 : S 33 = true) (h35 : S 35 = true) (h36 : S 36 = true) (h38 : S 38 = true) {al : Nat → Nat → Bool} {N : Nat} {p1 : Int32} {p2 : Int32} {p3 : Int32}  {X0 X : gM}  (hX : frm S X0 X) : frG g3 S X0 (X9_readings al N p1 p2 p3 X) := by
  rw [X9_readings]
  repeat' (first | with_reducible assumption | with_reducible exact frG_none | with_reducible refine frG_some ?_ | with_reducible refine fr_X9_leafOf   ?_ | with_reducible refine fr_X9_readings_J21   ?_ | with_reducible refine fr_X2_hasLine   ?_ | with_reducible refine fr_X9_isLayer   ?_ | with_reducible refine fr_X6_read h29 h30 h31 h32 h33 h35 h36 h38  ?_ | with_reducible refine fr_X6_bestCount   ?_ | with_reducible refine frG_b2 ?_ (fun _ _ _ => ?_) | with_reducible refine frG_b3 ?_ (fun _ _ _ _ => ?_) | with_reducible refine frG_bd (fun _ => ?_) | with_reducible refine frG_glm ?_ (fun _ _ => ?_) | with_reducible refine frG_gl (fun _ => ?_) | with_reducible refine frG_ite ?_ ?_ | with_reducible refine frm_set ?_ (by assumption) | with_reducible refine frm_sl ?_ (by assumption) | with_reducible refine frm_fill ?_ (by assumption) | with_reducible refine frm_tx8 ?_ (by assumption) (by assumption) (by assumption) | intro _)

theorem fr_X9_letter_J22 {S : Nat → Bool}  {al : Nat → Nat → Bool} {N : Nat}   {X0 X : gM}  (hX : frm S X0 X) : frG g3 S X0 (X9_letter_J22 al N X) := by
  rw [X9_letter_J22]
  repeat' (first | with_reducible assumption | with_reducible exact frG_none | with_reducible refine frG_some ?_ | with_reducible refine frG_b2 ?_ (fun _ _ _ => ?_) | with_reducible refine frG_b3 ?_ (fun _ _ _ _ => ?_) | with_reducible refine frG_bd (fun _ => ?_) | with_reducible refine frG_glm ?_ (fun _ _ => ?_) | with_reducible refine frG_gl (fun _ => ?_) | with_reducible refine frG_ite ?_ ?_ | with_reducible refine frm_set ?_ (by assumption) | with_reducible refine frm_sl ?_ (by assumption) | with_reducible refine frm_fill ?_ (by assumption) | with_reducible refine frm_tx8 ?_ (by assumption) (by assumption) (by assumption) | intro _)

theorem fr_X9_letter {S : Nat → Bool} (h29 : S 29 = true) (h30 : S 30 = true) (h31 : S 31 = true) (h32 : S 32 = true) (h33 : S 33 = true) (h35 : S 35 = true) (h36 : S 36 = true) (h38 : S 38 = true) {al : Nat → Nat → Bool} {N : Nat} {p1 : Int32} {p2 : Int32} {p3 : Int32} {p4 : Int32}  {X0 X : gM}  (hX : frm S X0 X) : frG g3 S X0 (X9_letter al N p1 p2 p3 p4 X) := by
  rw [X9_letter]
  repeat' (first | with_reducible assumption | with_reducible exact frG_none | with_reducible refine frG_some ?_ | with_reducible refine fr_X9_leafOf   ?_ | with_reducible refine fr_X9_letter_J22   ?_ | with_reducible refine fr_X2_cellAt   ?_ | with_reducible refine fr_X9_isLayer   ?_ | with_reducible refine fr_X6_read h29 h30 h31 h32 h33 h35 h36 h38  ?_ | with_reducible refine fr_X6_firstLetter   ?_ | with_reducible refine frG_b2 ?_ (fun _ _ _ => ?_) | with_reducible refine frG_b3 ?_ (fun _ _ _ _ => ?_) | with_reducible refine frG_bd (fun _ => ?_) | with_reducible refine frG_glm ?_ (fun _ _ => ?_) | with_reducible refine frG_gl (fun _ => ?_) | with_reducible refine frG_ite ?_ ?_ | with_reducible refine frm_set ?_ (by assumption) | with_reducible refine frm_sl ?_ (by assumption) | with_reducible refine frm_fill ?_ (by assumption) | with_reducible refine frm_tx8 ?_ (by assumption) (by assumption) (by assumption) | intro _)

theorem fr_X9_hold {S : Nat → Bool} (h14 : S 14 = true) (h23 : S 23 = true) {al : Nat → Nat → Bool} {N : Nat} {p1 : Int32} {p2 : Int32}  {X0 X : gM}  (hX : frm S X0 X) : frG g3 S X0 (X9_hold al N p1 p2 X) := by
  rw [X9_hold]
  repeat' (first | with_reducible assumption | with_reducible exact frG_none | with_reducible refine frG_some ?_ | with_reducible refine fr_X9_isWithin   ?_ | with_reducible refine fr_X5_forget h14  ?_ | with_reducible refine frG_b2 ?_ (fun _ _ _ => ?_) | with_reducible refine frG_b3 ?_ (fun _ _ _ _ => ?_) | with_reducible refine frG_bd (fun _ => ?_) | with_reducible refine frG_glm ?_ (fun _ _ => ?_) | with_reducible refine frG_gl (fun _ => ?_) | with_reducible refine frG_ite ?_ ?_ | with_reducible refine frm_set ?_ (by assumption) | with_reducible refine frm_sl ?_ (by assumption) | with_reducible refine frm_fill ?_ (by assumption) | with_reducible refine frm_tx8 ?_ (by assumption) (by assumption) (by assumption) | intro _)

theorem fr_X9_arrangements {S : Nat → Bool} (h14 : S 14 = true) (h15 : S 15 = true) (h16 : S 16 = true) (h17 : S 17 = true) (h18 : S 18 = true) (h20 : S 20 = true) (h21 : S 21 = true) {al : Nat → Nat → Bool} {N : Nat} {p1 : Int32} {p2 : Int32}  {X0 X : gM}  (hX : frm S X0 X) : frG g3 S X0 (X9_arrangements al N p1 p2 X) := by
  rw [X9_arrangements]
  repeat' (first | with_reducible assumption | with_reducible exact frG_none | with_reducible refine frG_some ?_ | with_reducible refine fr_X9_quireOf   ?_ | with_reducible refine fr_X5_surveyed h14 h15 h16 h17 h18 h20 h21  ?_ | with_reducible refine frG_b2 ?_ (fun _ _ _ => ?_) | with_reducible refine frG_b3 ?_ (fun _ _ _ _ => ?_) | with_reducible refine frG_bd (fun _ => ?_) | with_reducible refine frG_glm ?_ (fun _ _ => ?_) | with_reducible refine frG_gl (fun _ => ?_) | with_reducible refine frG_ite ?_ ?_ | with_reducible refine frm_set ?_ (by assumption) | with_reducible refine frm_sl ?_ (by assumption) | with_reducible refine frm_fill ?_ (by assumption) | with_reducible refine frm_tx8 ?_ (by assumption) (by assumption) (by assumption) | intro _)

theorem fr_X9_places {S : Nat → Bool} (h14 : S 14 = true) (h15 : S 15 = true) (h16 : S 16 = true) (h17 : S 17 = true) (h18 : S 18 = true) (h20 : S 20 = true) (h21 : S 21 = true) {al : Nat → Nat → Bool} {N : Nat} {p1 : Int32} {p2 : Int32}  {X0 X : gM}  (hX : frm S X0 X) : frG g3 S X0 (X9_places al N p1 p2 X) := by
  rw [X9_places]
  repeat' (first | with_reducible assumption | with_reducible exact frG_none | with_reducible refine frG_some ?_ | with_reducible refine fr_X9_leafOf   ?_ | with_reducible refine fr_X9_placesOf h14 h15 h16 h17 h18 h20 h21  ?_ | with_reducible refine frG_b2 ?_ (fun _ _ _ => ?_) | with_reducible refine frG_b3 ?_ (fun _ _ _ _ => ?_) | with_reducible refine frG_bd (fun _ => ?_) | with_reducible refine frG_glm ?_ (fun _ _ => ?_) | with_reducible refine frG_gl (fun _ => ?_) | with_reducible refine frG_ite ?_ ?_ | with_reducible refine frm_set ?_ (by assumption) | with_reducible refine frm_sl ?_ (by assumption) | with_reducible refine frm_fill ?_ (by assumption) | with_reducible refine frm_tx8 ?_ (by assumption) (by assumption) (by assumption) | intro _)

theorem fr_X9_hand_J170 {S : Nat → Bool}  {al : Nat → Nat → Bool} {N : Nat} {p7 : Int32}  {X0 X : gM}  (hX : frm S X0 X) : frG g3 S X0 (X9_hand_J170 al N p7 X) := by
  rw [X9_hand_J170]
  repeat' (first | with_reducible assumption | with_reducible exact frG_none | with_reducible refine frG_some ?_ | with_reducible refine frG_b2 ?_ (fun _ _ _ => ?_) | with_reducible refine frG_b3 ?_ (fun _ _ _ _ => ?_) | with_reducible refine frG_bd (fun _ => ?_) | with_reducible refine frG_glm ?_ (fun _ _ => ?_) | with_reducible refine frG_gl (fun _ => ?_) | with_reducible refine frG_ite ?_ ?_ | with_reducible refine frm_set ?_ (by assumption) | with_reducible refine frm_sl ?_ (by assumption) | with_reducible refine frm_fill ?_ (by assumption) | with_reducible refine frm_tx8 ?_ (by assumption) (by assumption) (by assumption) | intro _)

theorem fr_X9_hand_J164 {S : Nat → Bool}  {al : Nat → Nat → Bool} {N : Nat} {p7 : Int32} {p9 : Int32} {p10 : Int32} {kk : Int32 → Int32 → Int32 → gM → Option (Nat × Int32 × gM)} {k170 : Int32 → gM → Option (Nat × Int32 × gM)} {X0 X : gM} (hkk : ∀ (a0 : Int32) (a1 : Int32) (a2 : Int32) (Y : gM), frm S X0 Y → frG g3 S X0 (kk a0 a1 a2 Y)) (hk170 : ∀ (a0 : Int32) (Y : gM), frm S X0 Y → frG g3 S X0 (k170 a0 Y)) (hX : frm S X0 X) : frG g3 S X0 (X9_hand_J164 al N kk k170 p7 p9 p10 X) := by
  rw [X9_hand_J164]
  repeat' (first | with_reducible assumption | with_reducible exact frG_none | with_reducible refine frG_some ?_ | with_reducible refine hkk _ _ _ _ ?_ | with_reducible refine hk170 _ _ ?_ | with_reducible refine frG_b2 ?_ (fun _ _ _ => ?_) | with_reducible refine frG_b3 ?_ (fun _ _ _ _ => ?_) | with_reducible refine frG_bd (fun _ => ?_) | with_reducible refine frG_glm ?_ (fun _ _ => ?_) | with_reducible refine frG_gl (fun _ => ?_) | with_reducible refine frG_ite ?_ ?_ | with_reducible refine frm_set ?_ (by assumption) | with_reducible refine frm_sl ?_ (by assumption) | with_reducible refine frm_fill ?_ (by assumption) | with_reducible refine frm_tx8 ?_ (by assumption) (by assumption) (by assumption) | intro _)

theorem fr_X9_hand_L124 {S : Nat → Bool}  {al : Nat → Nat → Bool} {N : Nat}  {k170 : Int32 → gM → Option (Nat × Int32 × gM)} {X0 : gM} (hk170 : ∀ (a0 : Int32) (Y : gM), frm S X0 Y → frG g3 S X0 (k170 a0 Y)) : ∀ (n : Nat) (a1 : Int32) (a2 : Int32) (a3 : Int32) (X : gM), frm S X0 X → frG g3 S X0 (X9_hand_L124 al N k170 n a1 a2 a3 X) := by
  intro n
  induction n with
  | zero =>
    intro a1 a2 a3 X hX
    rw [X9_hand_L124]
    exact frG_none
  | succ n ih =>
    intro a1 a2 a3 X hX
    rw [X9_hand_L124]
    repeat' (first | with_reducible assumption | with_reducible exact frG_none | with_reducible refine frG_some ?_ | with_reducible refine fr_X9_hand_J164  ?_ ?_ ?_ | with_reducible refine hk170 _ _ ?_ | with_reducible refine ih _ _ _ _ ?_ | with_reducible refine frG_b2 ?_ (fun _ _ _ => ?_) | with_reducible refine frG_b3 ?_ (fun _ _ _ _ => ?_) | with_reducible refine frG_bd (fun _ => ?_) | with_reducible refine frG_glm ?_ (fun _ _ => ?_) | with_reducible refine frG_gl (fun _ => ?_) | with_reducible refine frG_ite ?_ ?_ | with_reducible refine frm_set ?_ (by assumption) | with_reducible refine frm_sl ?_ (by assumption) | with_reducible refine frm_fill ?_ (by assumption) | with_reducible refine frm_tx8 ?_ (by assumption) (by assumption) (by assumption) | intro _)

theorem fr_X9_hand_J69 {S : Nat → Bool}  {al : Nat → Nat → Bool} {N : Nat}   {X0 X : gM}  (hX : frm S X0 X) : frG g3 S X0 (X9_hand_J69 al N X) := by
  rw [X9_hand_J69]
  repeat' (first | with_reducible assumption | with_reducible exact frG_none | with_reducible refine frG_some ?_ | with_reducible refine frG_b2 ?_ (fun _ _ _ => ?_) | with_reducible refine frG_b3 ?_ (fun _ _ _ _ => ?_) | with_reducible refine frG_bd (fun _ => ?_) | with_reducible refine frG_glm ?_ (fun _ _ => ?_) | with_reducible refine frG_gl (fun _ => ?_) | with_reducible refine frG_ite ?_ ?_ | with_reducible refine frm_set ?_ (by assumption) | with_reducible refine frm_sl ?_ (by assumption) | with_reducible refine frm_fill ?_ (by assumption) | with_reducible refine frm_tx8 ?_ (by assumption) (by assumption) (by assumption) | intro _)

theorem fr_X9_hand_J40 {S : Nat → Bool}  {al : Nat → Nat → Bool} {N : Nat}   {X0 X : gM}  (hX : frm S X0 X) : frG g3 S X0 (X9_hand_J40 al N X) := by
  rw [X9_hand_J40]
  repeat' (first | with_reducible assumption | with_reducible exact frG_none | with_reducible refine frG_some ?_ | with_reducible refine frG_b2 ?_ (fun _ _ _ => ?_) | with_reducible refine frG_b3 ?_ (fun _ _ _ _ => ?_) | with_reducible refine frG_bd (fun _ => ?_) | with_reducible refine frG_glm ?_ (fun _ _ => ?_) | with_reducible refine frG_gl (fun _ => ?_) | with_reducible refine frG_ite ?_ ?_ | with_reducible refine frm_set ?_ (by assumption) | with_reducible refine frm_sl ?_ (by assumption) | with_reducible refine frm_fill ?_ (by assumption) | with_reducible refine frm_tx8 ?_ (by assumption) (by assumption) (by assumption) | intro _)

theorem fr_X9_hand {S : Nat → Bool} (h5 : S 5 = true) (h42 : S 42 = true) {al : Nat → Nat → Bool} {N : Nat} {p1 : Int32} {p2 : Int32} {p3 : Int32} {p4 : Int32} {p5 : Int32}  {X0 X : gM}  (hX : frm S X0 X) : frG g3 S X0 (X9_hand al N p1 p2 p3 p4 p5 X) := by
  rw [X9_hand]
  repeat' (first | with_reducible assumption | with_reducible exact frG_none | with_reducible refine frG_some ?_ | with_reducible refine fr_X9_leafOf   ?_ | with_reducible refine fr_X9_isWithin   ?_ | with_reducible refine fr_X9_hand_J40   ?_ | with_reducible refine fr_X9_hand_J69   ?_ | with_reducible refine fr_X9_settleHands h42  ?_ | with_reducible refine fr_X9_hand_L124  ?_ _ _ _ _ _ ?_ | with_reducible refine fr_X9_hand_J170   ?_ | with_reducible refine frG_b2 ?_ (fun _ _ _ => ?_) | with_reducible refine frG_b3 ?_ (fun _ _ _ _ => ?_) | with_reducible refine frG_bd (fun _ => ?_) | with_reducible refine frG_glm ?_ (fun _ _ => ?_) | with_reducible refine frG_gl (fun _ => ?_) | with_reducible refine frG_ite ?_ ?_ | with_reducible refine frm_set ?_ (by assumption) | with_reducible refine frm_sl ?_ (by assumption) | with_reducible refine frm_fill ?_ (by assumption) | with_reducible refine frm_tx8 ?_ (by assumption) (by assumption) (by assumption) | intro _)

theorem fr_X9_handOf {S : Nat → Bool} (h42 : S 42 = true) {al : Nat → Nat → Bool} {N : Nat} {p1 : Int32}  {X0 X : gM}  (hX : frm S X0 X) : frG g3 S X0 (X9_handOf al N p1 X) := by
  rw [X9_handOf]
  repeat' (first | with_reducible assumption | with_reducible exact frG_none | with_reducible refine frG_some ?_ | with_reducible refine fr_X9_leafOf   ?_ | with_reducible refine fr_X9_settleHands h42  ?_ | with_reducible refine frG_b2 ?_ (fun _ _ _ => ?_) | with_reducible refine frG_b3 ?_ (fun _ _ _ _ => ?_) | with_reducible refine frG_bd (fun _ => ?_) | with_reducible refine frG_glm ?_ (fun _ _ => ?_) | with_reducible refine frG_gl (fun _ => ?_) | with_reducible refine frG_ite ?_ ?_ | with_reducible refine frm_set ?_ (by assumption) | with_reducible refine frm_sl ?_ (by assumption) | with_reducible refine frm_fill ?_ (by assumption) | with_reducible refine frm_tx8 ?_ (by assumption) (by assumption) (by assumption) | intro _)

theorem fr_X9_date {S : Nat → Bool} (h5 : S 5 = true) {al : Nat → Nat → Bool} {N : Nat} {p1 : Int32} {p2 : Int32}  {X0 X : gM}  (hX : frm S X0 X) : frG g3 S X0 (X9_date al N p1 p2 X) := by
  rw [X9_date]
  repeat' (first | with_reducible assumption | with_reducible exact frG_none | with_reducible refine frG_some ?_ | with_reducible refine fr_X9_leafOf   ?_ | with_reducible refine fr_X9_isWithin   ?_ | with_reducible refine fr_X9_spansOf   ?_ | with_reducible refine frG_b2 ?_ (fun _ _ _ => ?_) | with_reducible refine frG_b3 ?_ (fun _ _ _ _ => ?_) | with_reducible refine frG_bd (fun _ => ?_) | with_reducible refine frG_glm ?_ (fun _ _ => ?_) | with_reducible refine frG_gl (fun _ => ?_) | with_reducible refine frG_ite ?_ ?_ | with_reducible refine frm_set ?_ (by assumption) | with_reducible refine frm_sl ?_ (by assumption) | with_reducible refine frm_fill ?_ (by assumption) | with_reducible refine frm_tx8 ?_ (by assumption) (by assumption) (by assumption) | intro _)

theorem fr_X9_dates {S : Nat → Bool}  {al : Nat → Nat → Bool} {N : Nat} {p1 : Int32}  {X0 X : gM}  (hX : frm S X0 X) : frG g3 S X0 (X9_dates al N p1 X) := by
  rw [X9_dates]
  repeat' (first | with_reducible assumption | with_reducible exact frG_none | with_reducible refine frG_some ?_ | with_reducible refine fr_X9_leafOf   ?_ | with_reducible refine fr_X9_spansOf   ?_ | with_reducible refine frG_b2 ?_ (fun _ _ _ => ?_) | with_reducible refine frG_b3 ?_ (fun _ _ _ _ => ?_) | with_reducible refine frG_bd (fun _ => ?_) | with_reducible refine frG_glm ?_ (fun _ _ => ?_) | with_reducible refine frG_gl (fun _ => ?_) | with_reducible refine frG_ite ?_ ?_ | with_reducible refine frm_set ?_ (by assumption) | with_reducible refine frm_sl ?_ (by assumption) | with_reducible refine frm_fill ?_ (by assumption) | with_reducible refine frm_tx8 ?_ (by assumption) (by assumption) (by assumption) | intro _)

theorem fr_X9_match_J153 {S : Nat → Bool}  {al : Nat → Nat → Bool} {N : Nat} {s0 : Int32}  {X0 X : gM}  (hX : frm S X0 X) : frG g3 S X0 (X9_match_J153 al N s0 X) := by
  rw [X9_match_J153]
  repeat' (first | with_reducible assumption | with_reducible exact frG_none | with_reducible refine frG_some ?_ | with_reducible refine frG_b2 ?_ (fun _ _ _ => ?_) | with_reducible refine frG_b3 ?_ (fun _ _ _ _ => ?_) | with_reducible refine frG_bd (fun _ => ?_) | with_reducible refine frG_glm ?_ (fun _ _ => ?_) | with_reducible refine frG_gl (fun _ => ?_) | with_reducible refine frG_ite ?_ ?_ | with_reducible refine frm_set ?_ (by assumption) | with_reducible refine frm_sl ?_ (by assumption) | with_reducible refine frm_fill ?_ (by assumption) | with_reducible refine frm_tx8 ?_ (by assumption) (by assumption) (by assumption) | intro _)

theorem fr_X9_match_J21 {S : Nat → Bool}  {al : Nat → Nat → Bool} {N : Nat}   {X0 X : gM}  (hX : frm S X0 X) : frG g3 S X0 (X9_match_J21 al N X) := by
  rw [X9_match_J21]
  repeat' (first | with_reducible assumption | with_reducible exact frG_none | with_reducible refine frG_some ?_ | with_reducible refine frG_b2 ?_ (fun _ _ _ => ?_) | with_reducible refine frG_b3 ?_ (fun _ _ _ _ => ?_) | with_reducible refine frG_bd (fun _ => ?_) | with_reducible refine frG_glm ?_ (fun _ _ => ?_) | with_reducible refine frG_gl (fun _ => ?_) | with_reducible refine frG_ite ?_ ?_ | with_reducible refine frm_set ?_ (by assumption) | with_reducible refine frm_sl ?_ (by assumption) | with_reducible refine frm_fill ?_ (by assumption) | with_reducible refine frm_tx8 ?_ (by assumption) (by assumption) (by assumption) | intro _)

theorem fr_X9_match {S : Nat → Bool} (h29 : S 29 = true) (h30 : S 30 = true) (h31 : S 31 = true) (h32 : S 32 = true) (h33 : S 33 = true) (h35 : S 35 = true) (h36 : S 36 = true) (h38 : S 38 = true) (h40 : S 40 = true) (h41 : S 41 = true) {al : Nat → Nat → Bool} {N : Nat} {p1 : Int32} {p2 : Int32} {p3 : Int32} {p4 : Int32} {p5 : Int32}  {X0 X : gM}  (hX : frm S X0 X) : frG g3 S X0 (X9_match al N p1 p2 p3 p4 p5 X) := by
  rw [X9_match]
  repeat' (first | with_reducible assumption | with_reducible exact frG_none | with_reducible refine frG_some ?_ | with_reducible refine fr_X9_leafOf   ?_ | with_reducible refine fr_X9_match_J21   ?_ | with_reducible refine fr_X2_hasLine   ?_ | with_reducible refine fr_X9_isWithin   ?_ | with_reducible refine fr_X9_isLayer   ?_ | with_reducible refine fr_X6_read h29 h30 h31 h32 h33 h35 h36 h38  ?_ | with_reducible refine fr_X6_bestWeight   ?_ | with_reducible refine fr_X4_align h40 h41  ?_ | with_reducible refine fr_X9_match_J153   ?_ | with_reducible refine frG_b2 ?_ (fun _ _ _ => ?_) | with_reducible refine frG_b3 ?_ (fun _ _ _ _ => ?_) | with_reducible refine frG_bd (fun _ => ?_) | with_reducible refine frG_glm ?_ (fun _ _ => ?_) | with_reducible refine frG_gl (fun _ => ?_) | with_reducible refine frG_ite ?_ ?_ | with_reducible refine frm_set ?_ (by assumption) | with_reducible refine frm_sl ?_ (by assumption) | with_reducible refine frm_fill ?_ (by assumption) | with_reducible refine frm_tx8 ?_ (by assumption) (by assumption) (by assumption) | intro _)

theorem fr_X9_state_J22 {S : Nat → Bool}  {al : Nat → Nat → Bool} {N : Nat}   {X0 X : gM}  (hX : frm S X0 X) : frG g3 S X0 (X9_state_J22 al N X) := by
  rw [X9_state_J22]
  repeat' (first | with_reducible assumption | with_reducible exact frG_none | with_reducible refine frG_some ?_ | with_reducible refine frG_b2 ?_ (fun _ _ _ => ?_) | with_reducible refine frG_b3 ?_ (fun _ _ _ _ => ?_) | with_reducible refine frG_bd (fun _ => ?_) | with_reducible refine frG_glm ?_ (fun _ _ => ?_) | with_reducible refine frG_gl (fun _ => ?_) | with_reducible refine frG_ite ?_ ?_ | with_reducible refine frm_set ?_ (by assumption) | with_reducible refine frm_sl ?_ (by assumption) | with_reducible refine frm_fill ?_ (by assumption) | with_reducible refine frm_tx8 ?_ (by assumption) (by assumption) (by assumption) | intro _)

theorem fr_X9_state {S : Nat → Bool} (h29 : S 29 = true) (h30 : S 30 = true) (h31 : S 31 = true) (h32 : S 32 = true) (h33 : S 33 = true) (h34 : S 34 = true) (h35 : S 35 = true) (h36 : S 36 = true) (h38 : S 38 = true) (h39 : S 39 = true) {al : Nat → Nat → Bool} {N : Nat} {p1 : Int32} {p2 : Int32} {p3 : Int32} {p4 : Int32}  {X0 X : gM}  (hX : frm S X0 X) : frG g3 S X0 (X9_state al N p1 p2 p3 p4 X) := by
  rw [X9_state]
  repeat' (first | with_reducible assumption | with_reducible exact frG_none | with_reducible refine frG_some ?_ | with_reducible refine fr_X9_leafOf   ?_ | with_reducible refine fr_X9_state_J22   ?_ | with_reducible refine fr_X2_cellAt   ?_ | with_reducible refine fr_X9_isLayer   ?_ | with_reducible refine fr_X6_read h29 h30 h31 h32 h33 h35 h36 h38  ?_ | with_reducible refine fr_X6_gatherLetters h34 h39  ?_ | with_reducible refine fr_X6_standing   ?_ | with_reducible refine frG_b2 ?_ (fun _ _ _ => ?_) | with_reducible refine frG_b3 ?_ (fun _ _ _ _ => ?_) | with_reducible refine frG_bd (fun _ => ?_) | with_reducible refine frG_glm ?_ (fun _ _ => ?_) | with_reducible refine frG_gl (fun _ => ?_) | with_reducible refine frG_ite ?_ ?_ | with_reducible refine frm_set ?_ (by assumption) | with_reducible refine frm_sl ?_ (by assumption) | with_reducible refine frm_fill ?_ (by assumption) | with_reducible refine frm_tx8 ?_ (by assumption) (by assumption) (by assumption) | intro _)

theorem fr_X9_rests_J120 {S : Nat → Bool}  {al : Nat → Nat → Bool} {N : Nat} {p5 : Int32}  {X0 X : gM}  (hX : frm S X0 X) : frG g3 S X0 (X9_rests_J120 al N p5 X) := by
  rw [X9_rests_J120]
  repeat' (first | with_reducible assumption | with_reducible exact frG_none | with_reducible refine frG_some ?_ | with_reducible refine frG_b2 ?_ (fun _ _ _ => ?_) | with_reducible refine frG_b3 ?_ (fun _ _ _ _ => ?_) | with_reducible refine frG_bd (fun _ => ?_) | with_reducible refine frG_glm ?_ (fun _ _ => ?_) | with_reducible refine frG_gl (fun _ => ?_) | with_reducible refine frG_ite ?_ ?_ | with_reducible refine frm_set ?_ (by assumption) | with_reducible refine frm_sl ?_ (by assumption) | with_reducible refine frm_fill ?_ (by assumption) | with_reducible refine frm_tx8 ?_ (by assumption) (by assumption) (by assumption) | intro _)

theorem fr_X9_rests_J114 {S : Nat → Bool}  {al : Nat → Nat → Bool} {N : Nat} {p1 : Int32} {p3 : Int32} {p4 : Int32} {p5 : Int32} {p7 : Int32} {p8 : Int32} {kk : Int32 → Int32 → Int32 → Int32 → Int32 → Int32 → gM → Option (Nat × Int32 × gM)} {k120 : Int32 → gM → Option (Nat × Int32 × gM)} {X0 X : gM} (hkk : ∀ (a0 : Int32) (a1 : Int32) (a2 : Int32) (a3 : Int32) (a4 : Int32) (a5 : Int32) (Y : gM), frm S X0 Y → frG g3 S X0 (kk a0 a1 a2 a3 a4 a5 Y)) (hk120 : ∀ (a0 : Int32) (Y : gM), frm S X0 Y → frG g3 S X0 (k120 a0 Y)) (hX : frm S X0 X) : frG g3 S X0 (X9_rests_J114 al N kk k120 p1 p3 p4 p5 p7 p8 X) := by
  rw [X9_rests_J114]
  repeat' (first | with_reducible assumption | with_reducible exact frG_none | with_reducible refine frG_some ?_ | with_reducible refine hkk _ _ _ _ _ _ _ ?_ | with_reducible refine hk120 _ _ ?_ | with_reducible refine frG_b2 ?_ (fun _ _ _ => ?_) | with_reducible refine frG_b3 ?_ (fun _ _ _ _ => ?_) | with_reducible refine frG_bd (fun _ => ?_) | with_reducible refine frG_glm ?_ (fun _ _ => ?_) | with_reducible refine frG_gl (fun _ => ?_) | with_reducible refine frG_ite ?_ ?_ | with_reducible refine frm_set ?_ (by assumption) | with_reducible refine frm_sl ?_ (by assumption) | with_reducible refine frm_fill ?_ (by assumption) | with_reducible refine frm_tx8 ?_ (by assumption) (by assumption) (by assumption) | intro _)

theorem fr_X9_rests_L65 {S : Nat → Bool}  {al : Nat → Nat → Bool} {N : Nat}  {k120 : Int32 → gM → Option (Nat × Int32 × gM)} {X0 : gM} (hk120 : ∀ (a0 : Int32) (Y : gM), frm S X0 Y → frG g3 S X0 (k120 a0 Y)) : ∀ (n : Nat) (a1 : Int32) (a2 : Int32) (a3 : Int32) (a4 : Int32) (a5 : Int32) (a6 : Int32) (X : gM), frm S X0 X → frG g3 S X0 (X9_rests_L65 al N k120 n a1 a2 a3 a4 a5 a6 X) := by
  intro n
  induction n with
  | zero =>
    intro a1 a2 a3 a4 a5 a6 X hX
    rw [X9_rests_L65]
    exact frG_none
  | succ n ih =>
    intro a1 a2 a3 a4 a5 a6 X hX
    rw [X9_rests_L65]
    repeat' (first | with_reducible assumption | with_reducible exact frG_none | with_reducible refine frG_some ?_ | with_reducible refine fr_X9_rests_J114  ?_ ?_ ?_ | with_reducible refine fr_X7_sparedSeats   ?_ | with_reducible refine hk120 _ _ ?_ | with_reducible refine ih _ _ _ _ _ _ _ ?_ | with_reducible refine frG_b2 ?_ (fun _ _ _ => ?_) | with_reducible refine frG_b3 ?_ (fun _ _ _ _ => ?_) | with_reducible refine frG_bd (fun _ => ?_) | with_reducible refine frG_glm ?_ (fun _ _ => ?_) | with_reducible refine frG_gl (fun _ => ?_) | with_reducible refine frG_ite ?_ ?_ | with_reducible refine frm_set ?_ (by assumption) | with_reducible refine frm_sl ?_ (by assumption) | with_reducible refine frm_fill ?_ (by assumption) | with_reducible refine frm_tx8 ?_ (by assumption) (by assumption) (by assumption) | intro _)

theorem fr_X9_rests {S : Nat → Bool} (h14 : S 14 = true) (h15 : S 15 = true) (h16 : S 16 = true) (h17 : S 17 = true) (h18 : S 18 = true) (h20 : S 20 = true) (h21 : S 21 = true) {al : Nat → Nat → Bool} {N : Nat} {p1 : Int32}  {X0 X : gM}  (hX : frm S X0 X) : frG g3 S X0 (X9_rests al N p1 X) := by
  rw [X9_rests]
  repeat' (first | with_reducible assumption | with_reducible exact frG_none | with_reducible refine frG_some ?_ | with_reducible refine fr_X9_leafOf   ?_ | with_reducible refine fr_X9_placesOf h14 h15 h16 h17 h18 h20 h21  ?_ | with_reducible refine fr_J6_bitCount_0f7a4   ?_ | with_reducible refine fr_X5_surveyedSparing h14 h15 h16 h17 h18 h20 h21  ?_ | with_reducible refine fr_X9_rests_L65  ?_ _ _ _ _ _ _ _ _ ?_ | with_reducible refine fr_X9_rests_J120   ?_ | with_reducible refine frG_b2 ?_ (fun _ _ _ => ?_) | with_reducible refine frG_b3 ?_ (fun _ _ _ _ => ?_) | with_reducible refine frG_bd (fun _ => ?_) | with_reducible refine frG_glm ?_ (fun _ _ => ?_) | with_reducible refine frG_gl (fun _ => ?_) | with_reducible refine frG_ite ?_ ?_ | with_reducible refine frm_set ?_ (by assumption) | with_reducible refine frm_sl ?_ (by assumption) | with_reducible refine frm_fill ?_ (by assumption) | with_reducible refine frm_tx8 ?_ (by assumption) (by assumption) (by assumption) | intro _)

theorem fr_X9_fact_J110 {S : Nat → Bool} (h0 : S 0 = true) (h14 : S 14 = true) (h22 : S 22 = true) (h23 : S 23 = true) (h88 : S 88 = true) {al : Nat → Nat → Bool} {N : Nat} {nw : List (Nat × Nat)} {p1 : Int32} {p2 : Int32} {p3 : Int32} {p4 : Int32} {p5 : Int32}  {X0 X : gM}  (hX : frm S X0 X) : frG g3 S X0 (X9_fact_J110 al N nw p1 p2 p3 p4 p5 X) := by
  rw [X9_fact_J110]
  repeat' (first | with_reducible assumption | with_reducible exact frG_none | with_reducible refine frG_some ?_ | with_reducible refine fr_X1_init h88  ?_ | with_reducible refine fr_X5_forget h14  ?_ | with_reducible refine frG_b2 ?_ (fun _ _ _ => ?_) | with_reducible refine frG_b3 ?_ (fun _ _ _ _ => ?_) | with_reducible refine frG_bd (fun _ => ?_) | with_reducible refine frG_glm ?_ (fun _ _ => ?_) | with_reducible refine frG_gl (fun _ => ?_) | with_reducible refine frG_ite ?_ ?_ | with_reducible refine frm_set ?_ (by assumption) | with_reducible refine frm_sl ?_ (by assumption) | with_reducible refine frm_fill ?_ (by assumption) | with_reducible refine frm_tx8 ?_ (by assumption) (by assumption) (by assumption) | intro _)

theorem fr_X9_fact_J102 {S : Nat → Bool}  {al : Nat → Nat → Bool} {N : Nat} {nw : List (Nat × Nat)}  {X0 X : gM}  (hX : frm S X0 X) : frG g3 S X0 (X9_fact_J102 al N nw X) := by
  rw [X9_fact_J102]
  repeat' (first | with_reducible assumption | with_reducible exact frG_none | with_reducible refine frG_some ?_ | with_reducible refine frG_b2 ?_ (fun _ _ _ => ?_) | with_reducible refine frG_b3 ?_ (fun _ _ _ _ => ?_) | with_reducible refine frG_bd (fun _ => ?_) | with_reducible refine frG_glm ?_ (fun _ _ => ?_) | with_reducible refine frG_gl (fun _ => ?_) | with_reducible refine frG_ite ?_ ?_ | with_reducible refine frm_set ?_ (by assumption) | with_reducible refine frm_sl ?_ (by assumption) | with_reducible refine frm_fill ?_ (by assumption) | with_reducible refine frm_tx8 ?_ (by assumption) (by assumption) (by assumption) | intro _)

theorem fr_X9_fact {S : Nat → Bool} (h0 : S 0 = true) (h14 : S 14 = true) (h22 : S 22 = true) (h23 : S 23 = true) (h88 : S 88 = true) {al : Nat → Nat → Bool} {N : Nat} {nw : List (Nat × Nat)} {p1 : Int32} {p2 : Int32} {p3 : Int32} {p4 : Int32}  {X0 X : gM}  (hX : frm S X0 X) : frG g3 S X0 (X9_fact al N nw p1 p2 p3 p4 X) := by
  rw [X9_fact]
  repeat' (first | with_reducible assumption | with_reducible exact frG_none | with_reducible refine frG_some ?_ | with_reducible refine fr_X9_leafOf   ?_ | with_reducible refine fr_X9_isWithin   ?_ | with_reducible refine fr_X5_hasPlace   ?_ | with_reducible refine fr_X9_fact_J110 h0 h14 h22 h23 h88  ?_ | with_reducible refine fr_X9_fact_J102   ?_ | with_reducible refine frG_b2 ?_ (fun _ _ _ => ?_) | with_reducible refine frG_b3 ?_ (fun _ _ _ _ => ?_) | with_reducible refine frG_bd (fun _ => ?_) | with_reducible refine frG_glm ?_ (fun _ _ => ?_) | with_reducible refine frG_gl (fun _ => ?_) | with_reducible refine frG_ite ?_ ?_ | with_reducible refine frm_set ?_ (by assumption) | with_reducible refine frm_sl ?_ (by assumption) | with_reducible refine frm_fill ?_ (by assumption) | with_reducible refine frm_tx8 ?_ (by assumption) (by assumption) (by assumption) | intro _)

theorem fr_X9_work_J15 {S : Nat → Bool}  {al : Nat → Nat → Bool} {N : Nat} {nw : List (Nat × Nat)}  {X0 X : gM}  (hX : frm S X0 X) : frG g3 S X0 (X9_work_J15 al N nw X) := by
  rw [X9_work_J15]
  repeat' (first | with_reducible assumption | with_reducible exact frG_none | with_reducible refine frG_some ?_ | with_reducible refine frG_b2 ?_ (fun _ _ _ => ?_) | with_reducible refine frG_b3 ?_ (fun _ _ _ _ => ?_) | with_reducible refine frG_bd (fun _ => ?_) | with_reducible refine frG_glm ?_ (fun _ _ => ?_) | with_reducible refine frG_gl (fun _ => ?_) | with_reducible refine frG_ite ?_ ?_ | with_reducible refine frm_set ?_ (by assumption) | with_reducible refine frm_sl ?_ (by assumption) | with_reducible refine frm_fill ?_ (by assumption) | with_reducible refine frm_tx8 ?_ (by assumption) (by assumption) (by assumption) | intro _)

theorem fr_X9_work {S : Nat → Bool} (h0 : S 0 = true) (h26 : S 26 = true) (h27 : S 27 = true) (h28 : S 28 = true) (h89 : S 89 = true) {al : Nat → Nat → Bool} {N : Nat} {nw : List (Nat × Nat)}  {X0 X : gM}  (hX : frm S X0 X) : frG g3 S X0 (X9_work al N nw X) := by
  rw [X9_work]
  repeat' (first | with_reducible assumption | with_reducible exact frG_none | with_reducible refine frG_some ?_ | with_reducible refine fr_X9_work_J15   ?_ | with_reducible refine frG_b2 ?_ (fun _ _ _ => ?_) | with_reducible refine frG_b3 ?_ (fun _ _ _ _ => ?_) | with_reducible refine frG_bd (fun _ => ?_) | with_reducible refine frG_glm ?_ (fun _ _ => ?_) | with_reducible refine frG_gl (fun _ => ?_) | with_reducible refine frG_ite ?_ ?_ | with_reducible refine frm_set ?_ (by assumption) | with_reducible refine frm_sl ?_ (by assumption) | with_reducible refine frm_fill ?_ (by assumption) | with_reducible refine frm_tx8 ?_ (by assumption) (by assumption) (by assumption) | intro _)

theorem fr_X9_word_J97 {S : Nat → Bool} (h0 : S 0 = true) {al : Nat → Nat → Bool} {N : Nat} {nw : List (Nat × Nat)} {p2 : Int32}  {X0 X : gM}  (hX : frm S X0 X) : frG g3 S X0 (X9_word_J97 al N nw p2 X) := by
  rw [X9_word_J97]
  repeat' (first | with_reducible assumption | with_reducible exact frG_none | with_reducible refine frG_some ?_ | with_reducible refine frG_b2 ?_ (fun _ _ _ => ?_) | with_reducible refine frG_b3 ?_ (fun _ _ _ _ => ?_) | with_reducible refine frG_bd (fun _ => ?_) | with_reducible refine frG_glm ?_ (fun _ _ => ?_) | with_reducible refine frG_gl (fun _ => ?_) | with_reducible refine frG_ite ?_ ?_ | with_reducible refine frm_set ?_ (by assumption) | with_reducible refine frm_sl ?_ (by assumption) | with_reducible refine frm_fill ?_ (by assumption) | with_reducible refine frm_tx8 ?_ (by assumption) (by assumption) (by assumption) | intro _)

theorem fr_X9_word_J51 {S : Nat → Bool} (h0 : S 0 = true) (h25 : S 25 = true) (h26 : S 26 = true) (h27 : S 27 = true) (h89 : S 89 = true) {al : Nat → Nat → Bool} {N : Nat} {nw : List (Nat × Nat)} {p1 : Int32}  {X0 X : gM}  (hX : frm S X0 X) : frG g3 S X0 (X9_word_J51 al N nw p1 X) := by
  rw [X9_word_J51]
  repeat' (first | with_reducible assumption | with_reducible exact frG_none | with_reducible refine frG_some ?_ | with_reducible refine fr_X9_word_J97 h0  ?_ | with_reducible refine frG_b2 ?_ (fun _ _ _ => ?_) | with_reducible refine frG_b3 ?_ (fun _ _ _ _ => ?_) | with_reducible refine frG_bd (fun _ => ?_) | with_reducible refine frG_glm ?_ (fun _ _ => ?_) | with_reducible refine frG_gl (fun _ => ?_) | with_reducible refine frG_ite ?_ ?_ | with_reducible refine frm_set ?_ (by assumption) | with_reducible refine frm_sl ?_ (by assumption) | with_reducible refine frm_fill ?_ (by assumption) | with_reducible refine frm_tx8 ?_ (by assumption) (by assumption) (by assumption) | intro _)

theorem fr_X9_word_J16 {S : Nat → Bool}  {al : Nat → Nat → Bool} {N : Nat} {nw : List (Nat × Nat)}  {X0 X : gM}  (hX : frm S X0 X) : frG g3 S X0 (X9_word_J16 al N nw X) := by
  rw [X9_word_J16]
  repeat' (first | with_reducible assumption | with_reducible exact frG_none | with_reducible refine frG_some ?_ | with_reducible refine frG_b2 ?_ (fun _ _ _ => ?_) | with_reducible refine frG_b3 ?_ (fun _ _ _ _ => ?_) | with_reducible refine frG_bd (fun _ => ?_) | with_reducible refine frG_glm ?_ (fun _ _ => ?_) | with_reducible refine frG_gl (fun _ => ?_) | with_reducible refine frG_ite ?_ ?_ | with_reducible refine frm_set ?_ (by assumption) | with_reducible refine frm_sl ?_ (by assumption) | with_reducible refine frm_fill ?_ (by assumption) | with_reducible refine frm_tx8 ?_ (by assumption) (by assumption) (by assumption) | intro _)

theorem fr_X9_word {S : Nat → Bool} (h0 : S 0 = true) (h25 : S 25 = true) (h26 : S 26 = true) (h27 : S 27 = true) (h89 : S 89 = true) {al : Nat → Nat → Bool} {N : Nat} {nw : List (Nat × Nat)}  {X0 X : gM}  (hX : frm S X0 X) : frG g3 S X0 (X9_word al N nw X) := by
  rw [X9_word]
  repeat' (first | with_reducible assumption | with_reducible exact frG_none | with_reducible refine frG_some ?_ | with_reducible refine fr_X9_word_J16   ?_ | with_reducible refine fr_X9_wordLikeDraft   ?_ | with_reducible refine fr_X9_word_J51 h0 h25 h26 h27 h89  ?_ | with_reducible refine frG_b2 ?_ (fun _ _ _ => ?_) | with_reducible refine frG_b3 ?_ (fun _ _ _ _ => ?_) | with_reducible refine frG_bd (fun _ => ?_) | with_reducible refine frG_glm ?_ (fun _ _ => ?_) | with_reducible refine frG_gl (fun _ => ?_) | with_reducible refine frG_ite ?_ ?_ | with_reducible refine frm_set ?_ (by assumption) | with_reducible refine frm_sl ?_ (by assumption) | with_reducible refine frm_fill ?_ (by assumption) | with_reducible refine frm_tx8 ?_ (by assumption) (by assumption) (by assumption) | intro _)

theorem fr_X9_leaf_J109 {S : Nat → Bool}  {al : Nat → Nat → Bool} {N : Nat} {nw : List (Nat × Nat)}  {X0 X : gM}  (hX : frm S X0 X) : frG g3 S X0 (X9_leaf_J109 al N nw X) := by
  rw [X9_leaf_J109]
  repeat' (first | with_reducible assumption | with_reducible exact frG_none | with_reducible refine frG_some ?_ | with_reducible refine frG_b2 ?_ (fun _ _ _ => ?_) | with_reducible refine frG_b3 ?_ (fun _ _ _ _ => ?_) | with_reducible refine frG_bd (fun _ => ?_) | with_reducible refine frG_glm ?_ (fun _ _ => ?_) | with_reducible refine frG_gl (fun _ => ?_) | with_reducible refine frG_ite ?_ ?_ | with_reducible refine frm_set ?_ (by assumption) | with_reducible refine frm_sl ?_ (by assumption) | with_reducible refine frm_fill ?_ (by assumption) | with_reducible refine frm_tx8 ?_ (by assumption) (by assumption) (by assumption) | intro _)

theorem fr_X9_leaf_J72 {S : Nat → Bool} (h0 : S 0 = true) (h4 : S 4 = true) (h5 : S 5 = true) (h6 : S 6 = true) (h7 : S 7 = true) (h8 : S 8 = true) (h9 : S 9 = true) (h10 : S 10 = true) (h12 : S 12 = true) (h13 : S 13 = true) (h14 : S 14 = true) (h84 : S 84 = true) (h85 : S 85 = true) {al : Nat → Nat → Bool} {N : Nat} {nw : List (Nat × Nat)} {p2 : Int32} {p3 : Int32} {p4 : Int32} {p5 : Int32} {p6 : Int32}  {X0 X : gM}  (hX : frm S X0 X) : frG g3 S X0 (X9_leaf_J72 al N nw p2 p3 p4 p5 p6 X) := by
  rw [X9_leaf_J72]
  repeat' (first | with_reducible assumption | with_reducible exact frG_none | with_reducible refine frG_some ?_ | with_reducible refine fr_X9_isWithin   ?_ | with_reducible refine fr_X9_leaf_J109   ?_ | with_reducible refine fr_X5_hasRoom   ?_ | with_reducible refine fr_X2_init h5 h6 h7 h8 h9 h10 h84 h85  ?_ | with_reducible refine fr_X5_take h12 h13 h14  ?_ | with_reducible refine frG_b2 ?_ (fun _ _ _ => ?_) | with_reducible refine frG_b3 ?_ (fun _ _ _ _ => ?_) | with_reducible refine frG_bd (fun _ => ?_) | with_reducible refine frG_glm ?_ (fun _ _ => ?_) | with_reducible refine frG_gl (fun _ => ?_) | with_reducible refine frG_ite ?_ ?_ | with_reducible refine frm_set ?_ (by assumption) | with_reducible refine frm_sl ?_ (by assumption) | with_reducible refine frm_fill ?_ (by assumption) | with_reducible refine frm_tx8 ?_ (by assumption) (by assumption) (by assumption) | intro _)

theorem fr_X9_leaf_J39 {S : Nat → Bool}  {al : Nat → Nat → Bool} {N : Nat} {nw : List (Nat × Nat)}  {X0 X : gM}  (hX : frm S X0 X) : frG g3 S X0 (X9_leaf_J39 al N nw X) := by
  rw [X9_leaf_J39]
  repeat' (first | with_reducible assumption | with_reducible exact frG_none | with_reducible refine frG_some ?_ | with_reducible refine frG_b2 ?_ (fun _ _ _ => ?_) | with_reducible refine frG_b3 ?_ (fun _ _ _ _ => ?_) | with_reducible refine frG_bd (fun _ => ?_) | with_reducible refine frG_glm ?_ (fun _ _ => ?_) | with_reducible refine frG_gl (fun _ => ?_) | with_reducible refine frG_ite ?_ ?_ | with_reducible refine frm_set ?_ (by assumption) | with_reducible refine frm_sl ?_ (by assumption) | with_reducible refine frm_fill ?_ (by assumption) | with_reducible refine frm_tx8 ?_ (by assumption) (by assumption) (by assumption) | intro _)

theorem fr_X9_leaf {S : Nat → Bool} (h0 : S 0 = true) (h4 : S 4 = true) (h5 : S 5 = true) (h6 : S 6 = true) (h7 : S 7 = true) (h8 : S 8 = true) (h9 : S 9 = true) (h10 : S 10 = true) (h12 : S 12 = true) (h13 : S 13 = true) (h14 : S 14 = true) (h84 : S 84 = true) (h85 : S 85 = true) {al : Nat → Nat → Bool} {N : Nat} {nw : List (Nat × Nat)} {p1 : Int32} {p2 : Int32} {p3 : Int32} {p4 : Int32} {p5 : Int32}  {X0 X : gM}  (hX : frm S X0 X) : frG g3 S X0 (X9_leaf al N nw p1 p2 p3 p4 p5 X) := by
  rw [X9_leaf]
  repeat' (first | with_reducible assumption | with_reducible exact frG_none | with_reducible refine frG_some ?_ | with_reducible refine fr_X9_quireOf   ?_ | with_reducible refine fr_X9_isWithin   ?_ | with_reducible refine fr_X9_leaf_J39   ?_ | with_reducible refine fr_X9_leaf_J72 h0 h4 h5 h6 h7 h8 h9 h10 h12 h13 h14 h84 h85  ?_ | with_reducible refine frG_b2 ?_ (fun _ _ _ => ?_) | with_reducible refine frG_b3 ?_ (fun _ _ _ _ => ?_) | with_reducible refine frG_bd (fun _ => ?_) | with_reducible refine frG_glm ?_ (fun _ _ => ?_) | with_reducible refine frG_gl (fun _ => ?_) | with_reducible refine frG_ite ?_ ?_ | with_reducible refine frm_set ?_ (by assumption) | with_reducible refine frm_sl ?_ (by assumption) | with_reducible refine frm_fill ?_ (by assumption) | with_reducible refine frm_tx8 ?_ (by assumption) (by assumption) (by assumption) | intro _)
