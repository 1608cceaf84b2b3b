/-! the class's public methods, each with the sheets' step behind it (ghost: no bytecode stands behind that step) -/
def sG (k : Nat) : Bool := decide (43 ≤ k)
theorem gH_gh {D : va_G} {cA : Nat → ClassId} {ad : Nat → Nat → Nat} {NL : List (Nat × Nat)} {X1 X2 : gM} {H : Heap} (hg : ∀ n ∈ NL, n.1 < 43) (h : frm sG X1 X2) : gH D cA ad NL X2 H = gH D cA ad NL X1 H := by
  unfold gH gw
  have e : NL.map (fun n => (ad n.1 n.2, ct cA ad n.1 n.2 (X2 n.1 n.2))) = NL.map (fun n => (ad n.1 n.2, ct cA ad n.1 n.2 (X1 n.1 n.2))) := by
    refine List.map_congr_left (fun n hn => ?_)
    have h1 := hg n hn
    rw [h n.1 (by unfold sG; exact decide_eq_false (by omega))]
  rw [e]
theorem gCX_gh {l : Launch} {y : MethodName} {cc : ByteArray} {nL : Nat} {rt : Option FieldType} {rm : Room} {D : va_G} {cA : Nat → ClassId} {ad : Nat → Nat → Nat} {NL : List (Nat × Nat)} {av : List Value} {X : gM} {k : Nat} {r : Option Value} {X1 X2 : gM} (hg : ∀ n ∈ NL, n.1 < 43) (h : frm sG X1 X2) (hC : gCX l y cc nL rt rm D cA ad NL av X k r X1) : gCX l y cc nL rt rm D cA ad NL av X k r X2 := by
  unfold gCX gQx gXx at hC ⊢
  simp only [gH_gh hg h]
  exact hC
theorem gCXA_gh {l : Launch} {y : MethodName} {cc : ByteArray} {nL : Nat} {rt : Option FieldType} {rm : Room} {mc ms : Nat} {D : va_G} {cA : Nat → ClassId} {ad : Nat → Nat → Nat} {NL nw : List (Nat × Nat)} {av : List Value} {X : gM} {k : Nat} {r : Option Value} {X1 X2 : gM} {sz : Nat} (hg : ∀ n ∈ NL ++ nw, n.1 < 43) (h : frm sG X1 X2) (hC : gCXA l y cc nL rt rm mc ms D cA ad NL av X k r nw X1 sz) : gCXA l y cc nL rt rm mc ms D cA ad NL av X k r nw X2 sz := by
  have hg1 : ∀ n ∈ NL, n.1 < 43 := fun n hn => hg n (List.mem_append_left _ hn)
  unfold gCXA gQx gXx at hC ⊢
  simp only [gH_gh hg h, gH_gh hg1 h]
  exact hC
theorem gC_gh {l : Launch} {y : MethodName} {cc : ByteArray} {nL : Nat} {rt : Option FieldType} {rm : Room} {D : va_G} {cA : Nat → ClassId} {ad : Nat → Nat → Nat} {NL : List (Nat × Nat)} {av : List Value} {X : gM} {r : Option Value} {X1 X2 : gM} (hg : ∀ n ∈ NL, n.1 < 43) (h : frm sG X1 X2) (hC : gC l y cc nL rt rm D cA ad NL av X r X1) : gC l y cc nL rt rm D cA ad NL av X r X2 := by
  unfold gC gQ at hC ⊢
  simp only [gH_gh hg h]
  exact hC
def gst (k : Nat) (r : Int32) (X : gM) : gM := if k = 0 then mset X 81 0 0 r else X
theorem frm_gst {k : Nat} {r : Int32} {X : gM} : frm sG X (gst k r X) := by
  unfold gst
  by_cases h : k = 0
  · rw [if_pos h]; exact frm_set frm_rfl rfl
  · rw [if_neg h]; exact frm_rfl

def P_leaf (al : Nat → Nat → Bool) (N : Nat) (nw : List (Nat × Nat)) (p1 : Int32) (p2 : Int32) (p3 : Int32) (p4 : Int32) (p5 : Int32) (X : gM) : Option (Nat × Int32 × gM) := bind3 (X9_leaf al N nw p1 p2 p3 p4 p5 X) fun k r X1 => bind2 (X10_leaf al N p1 p2 p3 p4 p5 (gst k r X1)) fun _ X2 => some (k, r, X2)
theorem s_P_leaf {l : Launch} {D : va_G} {cA : Nat → ClassId} {ad : Nat → Nat → Nat} {NL nw : List (Nat × Nat)} {N sz : Nat} {p1 : Int32} {p2 : Int32} {p3 : Int32} {p4 : Int32} {p5 : Int32} {X : gM} {kx : Nat} {rr : Int32} {XX : gM} (htr : l.stackTraces = false) (hW : gWf NL) (hD0 : gD (fun _ => True) ad NL) (hal : gAl ad) (hadr : gAdr ad sz nw) (ha_l0 : (0, 0) ∈ NL) (hg : ∀ n ∈ NL ++ nw, n.1 < 43) (hf : P_leaf (gal NL) N nw p1 p2 p3 p4 p5 X = some (kx, rr, XX)) : gCXA l yX9_leaf cX9_leaf 8 (some .int) rm_X9_leaf 130 877 D cA ad NL [.ref (ad 0 0), .int p1, .int p2, .int p3, .int p4, .int p5] X kx (some (.int rr)) nw XX sz := by
  unfold P_leaf at hf
  obtain ⟨k1, r1, X1, h1, hf⟩ := b3_in hf
  obtain ⟨r2, X3, h2, hf⟩ := b2_in hf
  cases hf
  exact gCXA_gh hg (fr_X10_leaf (S := sG) rfl rfl rfl rfl rfl rfl rfl frm_gst _ h2) (s_X9_leaf htr hW hD0 hal hadr ha_l0 h1)
def P_sheets (al : Nat → Nat → Bool) (N : Nat) (p1 : Int32) (p2 : Int32) (X : gM) : Option (Nat × Int32 × gM) := bind3 (X9_sheets al N p1 p2 X) fun k r X1 => bind2 (X10_sheets al N p1 p2 (gst k r X1)) fun _ X2 => some (k, r, X2)
theorem s_P_sheets {l : Launch} {D : va_G} {cA : Nat → ClassId} {ad : Nat → Nat → Nat} {NL : List (Nat × Nat)} {N : Nat} {p1 : Int32} {p2 : Int32} {X : gM} {kx : Nat} {rr : Int32} {XX : gM} (htr : l.stackTraces = false) (hW : gWf NL) (hD0 : gD (fun _ => True) ad NL) (ha_l0 : (0, 0) ∈ NL) (hg : ∀ n ∈ NL, n.1 < 43) (hf : P_sheets (gal NL) N p1 p2 X = some (kx, rr, XX)) : gCX l yX9_sheets cX9_sheets 5 (some .int) rm_X9_sheets D cA ad NL [.ref (ad 0 0), .int p1, .int p2] X kx (some (.int rr)) XX := by
  unfold P_sheets at hf
  obtain ⟨k1, r1, X1, h1, hf⟩ := b3_in hf
  obtain ⟨r2, X3, h2, hf⟩ := b2_in hf
  cases hf
  exact gCX_gh hg (fr_X10_sheets (S := sG) rfl rfl frm_gst _ h2) (s_X9_sheets htr hW hD0 ha_l0 h1)
def P_light (al : Nat → Nat → Bool) (N : Nat) (p1 : Int32) (p2 : Int32) (p3 : Int32) (X : gM) : Option (Nat × Int32 × gM) := bind3 (X9_light al N p1 p2 p3 X) fun k r X1 => bind2 (X10_light al N p1 p2 p3 (X1)) fun _ X2 => some (k, r, X2)
theorem s_P_light {l : Launch} {D : va_G} {cA : Nat → ClassId} {ad : Nat → Nat → Nat} {NL : List (Nat × Nat)} {N : Nat} {p1 : Int32} {p2 : Int32} {p3 : Int32} {X : gM} {kx : Nat} {rr : Int32} {XX : gM} (htr : l.stackTraces = false) (hW : gWf NL) (hD0 : gD (fun _ => True) ad NL) (ha_l0 : (0, 0) ∈ NL) (hg : ∀ n ∈ NL, n.1 < 43) (hf : P_light (gal NL) N p1 p2 p3 X = some (kx, rr, XX)) : gCX l yX9_light cX9_light 8 none rm_X9_light D cA ad NL [.ref (ad 0 0), .int p1, .int p2, .int p3] X kx none XX := by
  unfold P_light at hf
  obtain ⟨k1, r1, X1, h1, hf⟩ := b3_in hf
  obtain ⟨r2, X3, h2, hf⟩ := b2_in hf
  cases hf
  exact gCX_gh hg (fr_X10_light (S := sG) rfl rfl rfl frm_rfl _ h2) (s_X9_light htr hW hD0 ha_l0 h1)
def P_image (al : Nat → Nat → Bool) (N : Nat) (p1 : Int32) (p2 : Int32) (p3 : Int32) (p4 : Int32) (p5 : Int32) (X : gM) : Option (Nat × Int32 × gM) := bind3 (X9_image al N p1 p2 p3 p4 p5 X) fun k r X1 => bind2 (X10_image al N p1 p2 p3 p4 p5 (gst k r X1)) fun _ X2 => some (k, r, X2)
theorem s_P_image {l : Launch} {D : va_G} {cA : Nat → ClassId} {ad : Nat → Nat → Nat} {NL : List (Nat × Nat)} {N : Nat} {p1 : Int32} {p2 : Int32} {p3 : Int32} {p4 : Int32} {p5 : Int32} {X : gM} {kx : Nat} {rr : Int32} {XX : gM} (htr : l.stackTraces = false) (hW : gWf NL) (hD0 : gD (fun _ => True) ad NL) (ha_l0 : (0, 0) ∈ NL) (hg : ∀ n ∈ NL, n.1 < 43) (hf : P_image (gal NL) N p1 p2 p3 p4 p5 X = some (kx, rr, XX)) : gCX l yX9_image cX9_image 7 (some .int) rm_X9_image D cA ad NL [.ref (ad 0 0), .int p1, .int p2, .int p3, .int p4, .int p5] X kx (some (.int rr)) XX := by
  unfold P_image at hf
  obtain ⟨k1, r1, X1, h1, hf⟩ := b3_in hf
  obtain ⟨r2, X3, h2, hf⟩ := b2_in hf
  cases hf
  exact gCX_gh hg (fr_X10_image (S := sG) rfl rfl frm_gst _ h2) (s_X9_image htr hW hD0 ha_l0 h1)
def P_unmix (al : Nat → Nat → Bool) (N : Nat) (p1 : Int32) (p2 : Int32) (p3 : Int32) (p4 : Int32) (X : gM) : Option (Nat × Int32 × gM) := bind3 (X9_unmix al N p1 p2 p3 p4 X) fun k r X1 => bind2 (X10_unmix al N p1 p2 p3 p4 (gst k r X1)) fun _ X2 => some (k, r, X2)
theorem s_P_unmix {l : Launch} {D : va_G} {cA : Nat → ClassId} {ad : Nat → Nat → Nat} {NL : List (Nat × Nat)} {N : Nat} {p1 : Int32} {p2 : Int32} {p3 : Int32} {p4 : Int32} {X : gM} {kx : Nat} {rr : Int32} {XX : gM} (htr : l.stackTraces = false) (hW : gWf NL) (hD0 : gD (fun _ => True) ad NL) (ha_l0 : (0, 0) ∈ NL) (hg : ∀ n ∈ NL, n.1 < 43) (hf : P_unmix (gal NL) N p1 p2 p3 p4 X = some (kx, rr, XX)) : gCX l yX9_unmix cX9_unmix 6 (some .int) rm_X9_unmix D cA ad NL [.ref (ad 0 0), .int p1, .int p2, .int p3, .int p4] X kx (some (.int rr)) XX := by
  unfold P_unmix at hf
  obtain ⟨k1, r1, X1, h1, hf⟩ := b3_in hf
  obtain ⟨r2, X3, h2, hf⟩ := b2_in hf
  cases hf
  exact gCX_gh hg (fr_X10_unmix (S := sG) rfl frm_gst _ h2) (s_X9_unmix htr hW hD0 ha_l0 h1)
def P_give (al : Nat → Nat → Bool) (N : Nat) (p1 : Int32) (p2 : Int32) (p3 : Int32) (p4 : Int32) (p5 : Int32) (p6 : Int32) (X : gM) : Option (Nat × Int32 × gM) := bind3 (X9_give al N p1 p2 p3 p4 p5 p6 X) fun k r X1 => bind2 (X10_give al N p1 p2 p3 p4 p5 p6 (gst k r X1)) fun _ X2 => some (k, r, X2)
theorem s_P_give {l : Launch} {D : va_G} {cA : Nat → ClassId} {ad : Nat → Nat → Nat} {NL : List (Nat × Nat)} {N : Nat} {p1 : Int32} {p2 : Int32} {p3 : Int32} {p4 : Int32} {p5 : Int32} {p6 : Int32} {X : gM} {kx : Nat} {rr : Int32} {XX : gM} (htr : l.stackTraces = false) (hW : gWf NL) (hD0 : gD (fun _ => True) ad NL) (ha_l0 : (0, 0) ∈ NL) (hg : ∀ n ∈ NL, n.1 < 43) (hf : P_give (gal NL) N p1 p2 p3 p4 p5 p6 X = some (kx, rr, XX)) : gCX l yX9_give cX9_give 9 (some .int) rm_X9_give D cA ad NL [.ref (ad 0 0), .int p1, .int p2, .int p3, .int p4, .int p5, .int p6] X kx (some (.int rr)) XX := by
  unfold P_give at hf
  obtain ⟨k1, r1, X1, h1, hf⟩ := b3_in hf
  obtain ⟨r2, X3, h2, hf⟩ := b2_in hf
  cases hf
  exact gCX_gh hg (fr_X10_give (S := sG) rfl rfl frm_gst _ h2) (s_X9_give htr hW hD0 ha_l0 h1)
def P_type (al : Nat → Nat → Bool) (N : Nat) (p1 : Int32) (X : gM) : Option (Nat × Int32 × gM) := bind3 (X9_type al N p1 X) fun k r X1 => bind2 (X10_type al N p1 (gst k r X1)) fun _ X2 => some (k, r, X2)
theorem s_P_type {l : Launch} {D : va_G} {cA : Nat → ClassId} {ad : Nat → Nat → Nat} {NL : List (Nat × Nat)} {N : Nat} {p1 : Int32} {X : gM} {kx : Nat} {rr : Int32} {XX : gM} (htr : l.stackTraces = false) (hW : gWf NL) (hD0 : gD (fun _ => True) ad NL) (ha_l0 : (0, 0) ∈ NL) (hg : ∀ n ∈ NL, n.1 < 43) (hf : P_type (gal NL) N p1 X = some (kx, rr, XX)) : gCX l yX9_type cX9_type 2 (some .int) rm_X9_type D cA ad NL [.ref (ad 0 0), .int p1] X kx (some (.int rr)) XX := by
  unfold P_type at hf
  obtain ⟨k1, r1, X1, h1, hf⟩ := b3_in hf
  obtain ⟨r2, X3, h2, hf⟩ := b2_in hf
  cases hf
  exact gCX_gh hg (fr_X10_type (S := sG) rfl rfl frm_gst _ h2) (s_X9_type htr hW hD0 ha_l0 h1)
def P_word (al : Nat → Nat → Bool) (N : Nat) (nw : List (Nat × Nat))  (X : gM) : Option (Nat × Int32 × gM) := bind3 (X9_word al N nw  X) fun k r X1 => bind2 (X10_word al N  (gst k r X1)) fun _ X2 => some (k, r, X2)
theorem s_P_word {l : Launch} {D : va_G} {cA : Nat → ClassId} {ad : Nat → Nat → Nat} {NL nw : List (Nat × Nat)} {N sz : Nat} {X : gM} {kx : Nat} {rr : Int32} {XX : gM} (htr : l.stackTraces = false) (hW : gWf NL) (hD0 : gD (fun _ => True) ad NL) (hal : gAl ad) (hadr : gAdr ad sz nw) (ha_l0 : (0, 0) ∈ NL) (hg : ∀ n ∈ NL ++ nw, n.1 < 43) (hf : P_word (gal NL) N nw  X = some (kx, rr, XX)) : gCXA l yX9_word cX9_word 3 (some .int) rm_X9_word 2 42 D cA ad NL [.ref (ad 0 0)] X kx (some (.int rr)) nw XX sz := by
  unfold P_word at hf
  obtain ⟨k1, r1, X1, h1, hf⟩ := b3_in hf
  obtain ⟨r2, X3, h2, hf⟩ := b2_in hf
  cases hf
  exact gCXA_gh hg (fr_X10_word (S := sG) rfl rfl rfl frm_gst _ h2) (s_X9_word htr hW hD0 hal hadr ha_l0 h1)
def P_work (al : Nat → Nat → Bool) (N : Nat) (nw : List (Nat × Nat))  (X : gM) : Option (Nat × Int32 × gM) := bind3 (X9_work al N nw  X) fun k r X1 => bind2 (X10_work al N  (gst k r X1)) fun _ X2 => some (k, r, X2)
theorem s_P_work {l : Launch} {D : va_G} {cA : Nat → ClassId} {ad : Nat → Nat → Nat} {NL nw : List (Nat × Nat)} {N sz : Nat} {X : gM} {kx : Nat} {rr : Int32} {XX : gM} (htr : l.stackTraces = false) (hW : gWf NL) (hD0 : gD (fun _ => True) ad NL) (hal : gAl ad) (hadr : gAdr ad sz nw) (ha_l0 : (0, 0) ∈ NL) (hg : ∀ n ∈ NL ++ nw, n.1 < 43) (hf : P_work (gal NL) N nw  X = some (kx, rr, XX)) : gCXA l yX9_work cX9_work 2 (some .int) rm_X9_work 2 42 D cA ad NL [.ref (ad 0 0)] X kx (some (.int rr)) nw XX sz := by
  unfold P_work at hf
  obtain ⟨k1, r1, X1, h1, hf⟩ := b3_in hf
  obtain ⟨r2, X3, h2, hf⟩ := b2_in hf
  cases hf
  exact gCXA_gh hg (fr_X10_work (S := sG) rfl rfl rfl frm_gst _ h2) (s_X9_work htr hW hD0 hal hadr ha_l0 h1)
def P_weight (al : Nat → Nat → Bool) (N : Nat) (p1 : Int32) (p2 : Int32) (p3 : Int32) (X : gM) : Option (Nat × Int32 × gM) := bind3 (X9_weight al N p1 p2 p3 X) fun k r X1 => bind2 (X10_weight al N p1 p2 p3 (gst k r X1)) fun _ X2 => some (k, r, X2)
theorem s_P_weight {l : Launch} {D : va_G} {cA : Nat → ClassId} {ad : Nat → Nat → Nat} {NL : List (Nat × Nat)} {N : Nat} {p1 : Int32} {p2 : Int32} {p3 : Int32} {X : gM} {kx : Nat} {rr : Int32} {XX : gM} (htr : l.stackTraces = false) (hW : gWf NL) (hD0 : gD (fun _ => True) ad NL) (ha_l0 : (0, 0) ∈ NL) (hg : ∀ n ∈ NL, n.1 < 43) (hf : P_weight (gal NL) N p1 p2 p3 X = some (kx, rr, XX)) : gCX l yX9_weight cX9_weight 5 (some .int) rm_X9_weight D cA ad NL [.ref (ad 0 0), .int p1, .int p2, .int p3] X kx (some (.int rr)) XX := by
  unfold P_weight at hf
  obtain ⟨k1, r1, X1, h1, hf⟩ := b3_in hf
  obtain ⟨r2, X3, h2, hf⟩ := b2_in hf
  cases hf
  exact gCX_gh hg (fr_X10_weight (S := sG) rfl rfl rfl rfl rfl rfl rfl frm_gst _ h2) (s_X9_weight htr hW hD0 ha_l0 h1)
def P_readings (al : Nat → Nat → Bool) (N : Nat) (p1 : Int32) (p2 : Int32) (p3 : Int32) (X : gM) : Option (Nat × Int32 × gM) := bind3 (X9_readings al N p1 p2 p3 X) fun k r X1 => bind2 (X10_readings al N p1 p2 p3 (gst k r X1)) fun _ X2 => some (k, r, X2)
theorem s_P_readings {l : Launch} {D : va_G} {cA : Nat → ClassId} {ad : Nat → Nat → Nat} {NL : List (Nat × Nat)} {N : Nat} {p1 : Int32} {p2 : Int32} {p3 : Int32} {X : gM} {kx : Nat} {rr : Int32} {XX : gM} (htr : l.stackTraces = false) (hW : gWf NL) (hD0 : gD (fun _ => True) ad NL) (ha_l0 : (0, 0) ∈ NL) (hg : ∀ n ∈ NL, n.1 < 43) (hf : P_readings (gal NL) N p1 p2 p3 X = some (kx, rr, XX)) : gCX l yX9_readings cX9_readings 5 (some .int) rm_X9_readings D cA ad NL [.ref (ad 0 0), .int p1, .int p2, .int p3] X kx (some (.int rr)) XX := by
  unfold P_readings at hf
  obtain ⟨k1, r1, X1, h1, hf⟩ := b3_in hf
  obtain ⟨r2, X3, h2, hf⟩ := b2_in hf
  cases hf
  exact gCX_gh hg (fr_X10_readings (S := sG) rfl rfl rfl rfl rfl rfl rfl frm_gst _ h2) (s_X9_readings htr hW hD0 ha_l0 h1)
def P_letter (al : Nat → Nat → Bool) (N : Nat) (p1 : Int32) (p2 : Int32) (p3 : Int32) (p4 : Int32) (X : gM) : Option (Nat × Int32 × gM) := bind3 (X9_letter al N p1 p2 p3 p4 X) fun k r X1 => bind2 (X10_letter al N p1 p2 p3 p4 (gst k r X1)) fun _ X2 => some (k, r, X2)
theorem s_P_letter {l : Launch} {D : va_G} {cA : Nat → ClassId} {ad : Nat → Nat → Nat} {NL : List (Nat × Nat)} {N : Nat} {p1 : Int32} {p2 : Int32} {p3 : Int32} {p4 : Int32} {X : gM} {kx : Nat} {rr : Int32} {XX : gM} (htr : l.stackTraces = false) (hW : gWf NL) (hD0 : gD (fun _ => True) ad NL) (ha_l0 : (0, 0) ∈ NL) (hg : ∀ n ∈ NL, n.1 < 43) (hf : P_letter (gal NL) N p1 p2 p3 p4 X = some (kx, rr, XX)) : gCX l yX9_letter cX9_letter 6 (some .int) rm_X9_letter D cA ad NL [.ref (ad 0 0), .int p1, .int p2, .int p3, .int p4] X kx (some (.int rr)) XX := by
  unfold P_letter at hf
  obtain ⟨k1, r1, X1, h1, hf⟩ := b3_in hf
  obtain ⟨r2, X3, h2, hf⟩ := b2_in hf
  cases hf
  exact gCX_gh hg (fr_X10_letter (S := sG) rfl rfl rfl rfl rfl rfl rfl frm_gst _ h2) (s_X9_letter htr hW hD0 ha_l0 h1)
def P_fact (al : Nat → Nat → Bool) (N : Nat) (nw : List (Nat × Nat)) (p1 : Int32) (p2 : Int32) (p3 : Int32) (p4 : Int32) (X : gM) : Option (Nat × Int32 × gM) := bind3 (X9_fact al N nw p1 p2 p3 p4 X) fun k r X1 => bind2 (X10_fact al N p1 p2 p3 p4 (gst k r X1)) fun _ X2 => some (k, r, X2)
theorem s_P_fact {l : Launch} {D : va_G} {cA : Nat → ClassId} {ad : Nat → Nat → Nat} {NL nw : List (Nat × Nat)} {N sz : Nat} {p1 : Int32} {p2 : Int32} {p3 : Int32} {p4 : Int32} {X : gM} {kx : Nat} {rr : Int32} {XX : gM} (htr : l.stackTraces = false) (hW : gWf NL) (hD0 : gD (fun _ => True) ad NL) (hal : gAl ad) (hadr : gAdr ad sz nw) (ha_l0 : (0, 0) ∈ NL) (hg : ∀ n ∈ NL ++ nw, n.1 < 43) (hf : P_fact (gal NL) N nw p1 p2 p3 p4 X = some (kx, rr, XX)) : gCXA l yX9_fact cX9_fact 7 (some .int) rm_X9_fact 1 7 D cA ad NL [.ref (ad 0 0), .int p1, .int p2, .int p3, .int p4] X kx (some (.int rr)) nw XX sz := by
  unfold P_fact at hf
  obtain ⟨k1, r1, X1, h1, hf⟩ := b3_in hf
  obtain ⟨r2, X3, h2, hf⟩ := b2_in hf
  cases hf
  exact gCXA_gh hg (fr_X10_fact (S := sG) rfl rfl rfl rfl rfl rfl frm_gst _ h2) (s_X9_fact htr hW hD0 hal hadr ha_l0 h1)
def P_hold (al : Nat → Nat → Bool) (N : Nat) (p1 : Int32) (p2 : Int32) (X : gM) : Option (Nat × Int32 × gM) := bind3 (X9_hold al N p1 p2 X) fun k r X1 => bind2 (X10_hold al N p1 p2 (gst k (if r = (0 : Int32) then (0 : Int32) else (1 : Int32)) X1)) fun _ X2 => some (k, r, X2)
theorem s_P_hold {l : Launch} {D : va_G} {cA : Nat → ClassId} {ad : Nat → Nat → Nat} {NL : List (Nat × Nat)} {N : Nat} {p1 : Int32} {p2 : Int32} {X : gM} {kx : Nat} {rr : Int32} {XX : gM} (htr : l.stackTraces = false) (hW : gWf NL) (hD0 : gD (fun _ => True) ad NL) (ha_l0 : (0, 0) ∈ NL) (hg : ∀ n ∈ NL, n.1 < 43) (hf : P_hold (gal NL) N p1 p2 X = some (kx, rr, XX)) : gCX l yX9_hold cX9_hold 5 (some .boolean) rm_X9_hold D cA ad NL [.ref (ad 0 0), .int p1, .int p2] X kx (some (.int rr)) XX := by
  unfold P_hold at hf
  obtain ⟨k1, r1, X1, h1, hf⟩ := b3_in hf
  obtain ⟨r2, X3, h2, hf⟩ := b2_in hf
  cases hf
  exact gCX_gh hg (fr_X10_hold (S := sG) rfl rfl frm_gst _ h2) (s_X9_hold htr hW hD0 ha_l0 h1)
def P_arrangements (al : Nat → Nat → Bool) (N : Nat) (p1 : Int32) (p2 : Int32) (X : gM) : Option (Nat × Int32 × gM) := bind3 (X9_arrangements al N p1 p2 X) fun k r X1 => bind2 (X10_arrangements al N p1 p2 (gst k r X1)) fun _ X2 => some (k, r, X2)
theorem s_P_arrangements {l : Launch} {D : va_G} {cA : Nat → ClassId} {ad : Nat → Nat → Nat} {NL : List (Nat × Nat)} {N : Nat} {p1 : Int32} {p2 : Int32} {X : gM} {kx : Nat} {rr : Int32} {XX : gM} (htr : l.stackTraces = false) (hW : gWf NL) (hD0 : gD (fun _ => True) ad NL) (ha_l0 : (0, 0) ∈ NL) (hg : ∀ n ∈ NL, n.1 < 43) (hf : P_arrangements (gal NL) N p1 p2 X = some (kx, rr, XX)) : gCX l yX9_arrangements cX9_arrangements 4 (some .int) rm_X9_arrangements D cA ad NL [.ref (ad 0 0), .int p1, .int p2] X kx (some (.int rr)) XX := by
  unfold P_arrangements at hf
  obtain ⟨k1, r1, X1, h1, hf⟩ := b3_in hf
  obtain ⟨r2, X3, h2, hf⟩ := b2_in hf
  cases hf
  exact gCX_gh hg (fr_X10_arrangements (S := sG) rfl rfl rfl rfl frm_gst _ h2) (s_X9_arrangements htr hW hD0 ha_l0 h1)
def P_places (al : Nat → Nat → Bool) (N : Nat) (p1 : Int32) (p2 : Int32) (X : gM) : Option (Nat × Int32 × gM) := bind3 (X9_places al N p1 p2 X) fun k r X1 => bind2 (X10_places al N p1 p2 (gst k r X1)) fun _ X2 => some (k, r, X2)
theorem s_P_places {l : Launch} {D : va_G} {cA : Nat → ClassId} {ad : Nat → Nat → Nat} {NL : List (Nat × Nat)} {N : Nat} {p1 : Int32} {p2 : Int32} {X : gM} {kx : Nat} {rr : Int32} {XX : gM} (htr : l.stackTraces = false) (hW : gWf NL) (hD0 : gD (fun _ => True) ad NL) (ha_l0 : (0, 0) ∈ NL) (hg : ∀ n ∈ NL, n.1 < 43) (hf : P_places (gal NL) N p1 p2 X = some (kx, rr, XX)) : gCX l yX9_places cX9_places 4 (some .int) rm_X9_places D cA ad NL [.ref (ad 0 0), .int p1, .int p2] X kx (some (.int rr)) XX := by
  unfold P_places at hf
  obtain ⟨k1, r1, X1, h1, hf⟩ := b3_in hf
  obtain ⟨r2, X3, h2, hf⟩ := b2_in hf
  cases hf
  exact gCX_gh hg (fr_X10_places (S := sG) rfl rfl rfl rfl frm_gst _ h2) (s_X9_places htr hW hD0 ha_l0 h1)
def P_hand (al : Nat → Nat → Bool) (N : Nat) (p1 : Int32) (p2 : Int32) (p3 : Int32) (p4 : Int32) (p5 : Int32) (X : gM) : Option (Nat × Int32 × gM) := bind3 (X9_hand al N p1 p2 p3 p4 p5 X) fun k r X1 => bind2 (X10_hand al N p1 p2 p3 p4 p5 (gst k r X1)) fun _ X2 => some (k, r, X2)
theorem s_P_hand {l : Launch} {D : va_G} {cA : Nat → ClassId} {ad : Nat → Nat → Nat} {NL : List (Nat × Nat)} {N : Nat} {p1 : Int32} {p2 : Int32} {p3 : Int32} {p4 : Int32} {p5 : Int32} {X : gM} {kx : Nat} {rr : Int32} {XX : gM} (htr : l.stackTraces = false) (hW : gWf NL) (hD0 : gD (fun _ => True) ad NL) (ha_l0 : (0, 0) ∈ NL) (hg : ∀ n ∈ NL, n.1 < 43) (hf : P_hand (gal NL) N p1 p2 p3 p4 p5 X = some (kx, rr, XX)) : gCX l yX9_hand cX9_hand 12 (some .int) rm_X9_hand D cA ad NL [.ref (ad 0 0), .int p1, .int p2, .int p3, .int p4, .int p5] X kx (some (.int rr)) XX := by
  unfold P_hand at hf
  obtain ⟨k1, r1, X1, h1, hf⟩ := b3_in hf
  obtain ⟨r2, X3, h2, hf⟩ := b2_in hf
  cases hf
  exact gCX_gh hg (fr_X10_hand (S := sG) rfl rfl rfl rfl frm_gst _ h2) (s_X9_hand htr hW hD0 ha_l0 h1)
def P_handOf (al : Nat → Nat → Bool) (N : Nat) (p1 : Int32) (X : gM) : Option (Nat × Int32 × gM) := bind3 (X9_handOf al N p1 X) fun k r X1 => bind2 (X10_handOf al N p1 (gst k r X1)) fun _ X2 => some (k, r, X2)
theorem s_P_handOf {l : Launch} {D : va_G} {cA : Nat → ClassId} {ad : Nat → Nat → Nat} {NL : List (Nat × Nat)} {N : Nat} {p1 : Int32} {X : gM} {kx : Nat} {rr : Int32} {XX : gM} (htr : l.stackTraces = false) (hW : gWf NL) (hD0 : gD (fun _ => True) ad NL) (ha_l0 : (0, 0) ∈ NL) (hg : ∀ n ∈ NL, n.1 < 43) (hf : P_handOf (gal NL) N p1 X = some (kx, rr, XX)) : gCX l yX9_handOf cX9_handOf 3 (some .int) rm_X9_handOf D cA ad NL [.ref (ad 0 0), .int p1] X kx (some (.int rr)) XX := by
  unfold P_handOf at hf
  obtain ⟨k1, r1, X1, h1, hf⟩ := b3_in hf
  obtain ⟨r2, X3, h2, hf⟩ := b2_in hf
  cases hf
  exact gCX_gh hg (fr_X10_handOf (S := sG) rfl rfl frm_gst _ h2) (s_X9_handOf htr hW hD0 ha_l0 h1)
def P_date (al : Nat → Nat → Bool) (N : Nat) (p1 : Int32) (p2 : Int32) (X : gM) : Option (Nat × Int32 × gM) := bind3 (X9_date al N p1 p2 X) fun k r X1 => bind2 (X10_date al N p1 p2 (gst k r X1)) fun _ X2 => some (k, r, X2)
theorem s_P_date {l : Launch} {D : va_G} {cA : Nat → ClassId} {ad : Nat → Nat → Nat} {NL : List (Nat × Nat)} {N : Nat} {p1 : Int32} {p2 : Int32} {X : gM} {kx : Nat} {rr : Int32} {XX : gM} (htr : l.stackTraces = false) (hW : gWf NL) (hD0 : gD (fun _ => True) ad NL) (ha_l0 : (0, 0) ∈ NL) (hg : ∀ n ∈ NL, n.1 < 43) (hf : P_date (gal NL) N p1 p2 X = some (kx, rr, XX)) : gCX l yX9_date cX9_date 4 (some .int) rm_X9_date D cA ad NL [.ref (ad 0 0), .int p1, .int p2] X kx (some (.int rr)) XX := by
  unfold P_date at hf
  obtain ⟨k1, r1, X1, h1, hf⟩ := b3_in hf
  obtain ⟨r2, X3, h2, hf⟩ := b2_in hf
  cases hf
  exact gCX_gh hg (fr_X10_date (S := sG) rfl rfl rfl frm_gst _ h2) (s_X9_date htr hW hD0 ha_l0 h1)
def P_dates (al : Nat → Nat → Bool) (N : Nat) (p1 : Int32) (X : gM) : Option (Nat × Int32 × gM) := bind3 (X9_dates al N p1 X) fun k r X1 => bind2 (X10_dates al N p1 (gst k r X1)) fun _ X2 => some (k, r, X2)
theorem s_P_dates {l : Launch} {D : va_G} {cA : Nat → ClassId} {ad : Nat → Nat → Nat} {NL : List (Nat × Nat)} {N : Nat} {p1 : Int32} {X : gM} {kx : Nat} {rr : Int32} {XX : gM} (htr : l.stackTraces = false) (hW : gWf NL) (hD0 : gD (fun _ => True) ad NL) (ha_l0 : (0, 0) ∈ NL) (hg : ∀ n ∈ NL, n.1 < 43) (hf : P_dates (gal NL) N p1 X = some (kx, rr, XX)) : gCX l yX9_dates cX9_dates 3 (some .int) rm_X9_dates D cA ad NL [.ref (ad 0 0), .int p1] X kx (some (.int rr)) XX := by
  unfold P_dates at hf
  obtain ⟨k1, r1, X1, h1, hf⟩ := b3_in hf
  obtain ⟨r2, X3, h2, hf⟩ := b2_in hf
  cases hf
  exact gCX_gh hg (fr_X10_dates (S := sG) rfl frm_gst _ h2) (s_X9_dates htr hW hD0 ha_l0 h1)
def P_match (al : Nat → Nat → Bool) (N : Nat) (p1 : Int32) (p2 : Int32) (p3 : Int32) (p4 : Int32) (p5 : Int32) (X : gM) : Option (Nat × Int32 × gM) := bind3 (X9_match al N p1 p2 p3 p4 p5 X) fun k r X1 => bind2 (X10_match al N p1 p2 p3 p4 p5 (gst k r X1)) fun _ X2 => some (k, r, X2)
theorem s_P_match {l : Launch} {D : va_G} {cA : Nat → ClassId} {ad : Nat → Nat → Nat} {NL : List (Nat × Nat)} {N : Nat} {p1 : Int32} {p2 : Int32} {p3 : Int32} {p4 : Int32} {p5 : Int32} {X : gM} {kx : Nat} {rr : Int32} {XX : gM} (htr : l.stackTraces = false) (hW : gWf NL) (hD0 : gD (fun _ => True) ad NL) (ha_l0 : (0, 0) ∈ NL) (hg : ∀ n ∈ NL, n.1 < 43) (hf : P_match (gal NL) N p1 p2 p3 p4 p5 X = some (kx, rr, XX)) : gCX l yX9_match cX9_match 8 (some .int) rm_X9_match D cA ad NL [.ref (ad 0 0), .int p1, .int p2, .int p3, .int p4, .int p5] X kx (some (.int rr)) XX := by
  unfold P_match at hf
  obtain ⟨k1, r1, X1, h1, hf⟩ := b3_in hf
  obtain ⟨r2, X3, h2, hf⟩ := b2_in hf
  cases hf
  exact gCX_gh hg (fr_X10_match (S := sG) rfl rfl rfl rfl rfl rfl rfl rfl rfl frm_gst _ h2) (s_X9_match htr hW hD0 ha_l0 h1)
def P_state (al : Nat → Nat → Bool) (N : Nat) (p1 : Int32) (p2 : Int32) (p3 : Int32) (p4 : Int32) (X : gM) : Option (Nat × Int32 × gM) := bind3 (X9_state al N p1 p2 p3 p4 X) fun k r X1 => bind2 (X10_state al N p1 p2 p3 p4 (gst k r X1)) fun _ X2 => some (k, r, X2)
theorem s_P_state {l : Launch} {D : va_G} {cA : Nat → ClassId} {ad : Nat → Nat → Nat} {NL : List (Nat × Nat)} {N : Nat} {p1 : Int32} {p2 : Int32} {p3 : Int32} {p4 : Int32} {X : gM} {kx : Nat} {rr : Int32} {XX : gM} (htr : l.stackTraces = false) (hW : gWf NL) (hD0 : gD (fun _ => True) ad NL) (ha_l0 : (0, 0) ∈ NL) (hg : ∀ n ∈ NL, n.1 < 43) (hf : P_state (gal NL) N p1 p2 p3 p4 X = some (kx, rr, XX)) : gCX l yX9_state cX9_state 6 (some .int) rm_X9_state D cA ad NL [.ref (ad 0 0), .int p1, .int p2, .int p3, .int p4] X kx (some (.int rr)) XX := by
  unfold P_state at hf
  obtain ⟨k1, r1, X1, h1, hf⟩ := b3_in hf
  obtain ⟨r2, X3, h2, hf⟩ := b2_in hf
  cases hf
  exact gCX_gh hg (fr_X10_state (S := sG) rfl rfl rfl rfl rfl rfl rfl rfl frm_gst _ h2) (s_X9_state htr hW hD0 ha_l0 h1)
def P_rests (al : Nat → Nat → Bool) (N : Nat) (p1 : Int32) (X : gM) : Option (Nat × Int32 × gM) := bind3 (X9_rests al N p1 X) fun k r X1 => bind2 (X10_rests al N p1 (gst k r X1)) fun _ X2 => some (k, r, X2)
theorem s_P_rests {l : Launch} {D : va_G} {cA : Nat → ClassId} {ad : Nat → Nat → Nat} {NL : List (Nat × Nat)} {N : Nat} {p1 : Int32} {X : gM} {kx : Nat} {rr : Int32} {XX : gM} (htr : l.stackTraces = false) (hW : gWf NL) (hD0 : gD (fun _ => True) ad NL) (ha_l0 : (0, 0) ∈ NL) (hg : ∀ n ∈ NL, n.1 < 43) (hf : P_rests (gal NL) N p1 X = some (kx, rr, XX)) : gCX l yX9_rests cX9_rests 10 (some .int) rm_X9_rests D cA ad NL [.ref (ad 0 0), .int p1] X kx (some (.int rr)) XX := by
  unfold P_rests at hf
  obtain ⟨k1, r1, X1, h1, hf⟩ := b3_in hf
  obtain ⟨r2, X3, h2, hf⟩ := b2_in hf
  cases hf
  exact gCX_gh hg (fr_X10_rests (S := sG) rfl rfl rfl rfl frm_gst _ h2) (s_X9_rests htr hW hD0 ha_l0 h1)
def P_worth (al : Nat → Nat → Bool) (N : Nat) (X : gM) : Option (Int32 × gM) := bind2 (X9_worth al N X) fun r X1 => bind2 (X10_worth al N X1) fun _ X2 => some (r, X2)
theorem s_P_worth {l : Launch} {D : va_G} {cA : Nat → ClassId} {ad : Nat → Nat → Nat} {NL : List (Nat × Nat)} {N : Nat} {X : gM} {rr : Int32} {XX : gM} (hW : gWf NL) (hD0 : gD (fun _ => True) ad NL) (hg : ∀ n ∈ NL, n.1 < 43) (ha_l0 : (0, 0) ∈ NL) (hf : P_worth (gal NL) N X = some (rr, XX)) : gC l yX9_worth cX9_worth 9 (some .int) rm_X9_worth D cA ad NL [.ref (ad 0 0)] X (some (.int rr)) XX := by
  unfold P_worth at hf
  obtain ⟨r1, X1, h1, hf⟩ := b2_in hf
  obtain ⟨r2, X3, h2, hf⟩ := b2_in hf
  cases hf
  exact gC_gh hg (fr_X10_worth (S := sG) rfl rfl rfl rfl frm_rfl _ h2) (s_X9_worth hW hD0 ha_l0 h1)
