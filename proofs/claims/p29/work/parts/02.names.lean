def RX0 : String := "Undertext$Cell"
def TX0 : u_T := fun k => match k with
  | 0 => ("Undertext$Cell", "images", "[I", true)
  | 1 => ("Undertext$Cell", "letters", "[I", true)
  | 2 => ("Undertext$Cell", "weights", "[I", true)
  | 3 => ("Undertext$Cell", "over", "I", false)
  | _ => ("Undertext$Cell", "under", "I", false)
def tyX0 : Nat → FieldType := fun k => match k with
  | 0 => .array .int
  | 1 => .array .int
  | 2 => .array .int
  | 3 => .int
  | _ => .int
abbrev wsX00 : List Cond := u_ws RX0 TX0 5
theorem nmX0 : ∀ a, a < 5 → ∀ b, b < 5 → a ≠ b → (TX0 a).2.1 ≠ (TX0 b).2.1 := by decide +kernel
theorem tyX0_ok : ∀ k, k < 5 → parseFieldDescriptor (TX0 k).2.2.1 = some (tyX0 k) := by decide +kernel
abbrev cX0_init : ByteArray := prog_2_method_1_code
def yX0_init : MethodName := ⟨RX0, "<init>", "()V"⟩
abbrev cX0_isUnmixed : ByteArray := prog_2_method_2_code
def yX0_isUnmixed : MethodName := ⟨RX0, "isUnmixed", "()Z"⟩
abbrev cX0_isBlank : ByteArray := prog_2_method_3_code
def yX0_isBlank : MethodName := ⟨RX0, "isBlank", "()Z"⟩
abbrev cX0_measure : ByteArray := prog_2_method_4_code
def yX0_measure : MethodName := ⟨RX0, "measure", "(LUndertext$Lights;)V"⟩
abbrev cX0_isImaged : ByteArray := prog_2_method_5_code
def yX0_isImaged : MethodName := ⟨RX0, "isImaged", "()Z"⟩
abbrev cX0_comesOf : ByteArray := prog_2_method_6_code
def yX0_comesOf : MethodName := ⟨RX0, "comesOf", "(LUndertext$Lights;II)Z"⟩
abbrev cX0_slotFor : ByteArray := prog_2_method_7_code
def yX0_slotFor : MethodName := ⟨RX0, "slotFor", "(II)I"⟩
abbrev cX0_put : ByteArray := prog_2_method_8_code
def yX0_put : MethodName := ⟨RX0, "put", "(III)V"⟩
abbrev cX0_countOf : ByteArray := prog_2_method_9_code
def yX0_countOf : MethodName := ⟨RX0, "countOf", "(I)I"⟩
abbrev cX0_addTo : ByteArray := prog_2_method_10_code
def yX0_addTo : MethodName := ⟨RX0, "addTo", "([III)V"⟩
def RX1 : String := "Undertext$Fact"
def TX1 : u_T := fun k => match k with
  | 0 => ("Undertext$Fact", "number", "I", true)
  | 1 => ("Undertext$Fact", "quire", "LUndertext$Quire;", true)
  | 2 => ("Undertext$Fact", "kind", "I", true)
  | 3 => ("Undertext$Fact", "leaf", "I", true)
  | 4 => ("Undertext$Fact", "other", "I", true)
  | 5 => ("Undertext$Fact", "isCertain", "Z", true)
  | _ => ("Undertext$Fact", "holds", "Z", false)
def tyX1 : Nat → FieldType := fun k => match k with
  | 0 => .int
  | 1 => .object "Undertext$Quire"
  | 2 => .int
  | 3 => .int
  | 4 => .int
  | 5 => .boolean
  | _ => .boolean
abbrev wsX10 : List Cond := u_ws RX1 TX1 7
theorem nmX1 : ∀ a, a < 7 → ∀ b, b < 7 → a ≠ b → (TX1 a).2.1 ≠ (TX1 b).2.1 := by decide +kernel
theorem tyX1_ok : ∀ k, k < 7 → parseFieldDescriptor (TX1 k).2.2.1 = some (tyX1 k) := by decide +kernel
abbrev cX1_init : ByteArray := prog_3_method_1_code
def yX1_init : MethodName := ⟨RX1, "<init>", "(ILUndertext$Quire;IIIZ)V"⟩
abbrev cX1_isOf : ByteArray := prog_3_method_2_code
def yX1_isOf : MethodName := ⟨RX1, "isOf", "(I)Z"⟩
def RX2 : String := "Undertext$Leaf"
def TX2 : u_T := fun k => match k with
  | 0 => ("Undertext$Leaf", "number", "I", true)
  | 1 => ("Undertext$Leaf", "quire", "LUndertext$Quire;", true)
  | 2 => ("Undertext$Leaf", "lines", "I", true)
  | 3 => ("Undertext$Leaf", "width", "I", true)
  | 4 => ("Undertext$Leaf", "cells", "[LUndertext$Cell;", true)
  | 5 => ("Undertext$Leaf", "front", "I", false)
  | 6 => ("Undertext$Leaf", "worms", "I", false)
  | 7 => ("Undertext$Leaf", "first", "I", false)
  | 8 => ("Undertext$Leaf", "second", "I", false)
  | 9 => ("Undertext$Leaf", "third", "I", false)
  | 10 => ("Undertext$Leaf", "haste", "I", false)
  | 11 => ("Undertext$Leaf", "evidence", "I", false)
  | _ => ("Undertext$Leaf", "spans", "I", false)
def tyX2 : Nat → FieldType := fun k => match k with
  | 0 => .int
  | 1 => .object "Undertext$Quire"
  | 2 => .int
  | 3 => .int
  | 4 => .array (.object "Undertext$Cell")
  | 5 => .int
  | 6 => .int
  | 7 => .int
  | 8 => .int
  | 9 => .int
  | 10 => .int
  | 11 => .int
  | _ => .int
abbrev wsX20 : List Cond := u_ws RX2 TX2 13
theorem nmX2 : ∀ a, a < 13 → ∀ b, b < 13 → a ≠ b → (TX2 a).2.1 ≠ (TX2 b).2.1 := by decide +kernel
theorem tyX2_ok : ∀ k, k < 13 → parseFieldDescriptor (TX2 k).2.2.1 = some (tyX2 k) := by decide +kernel
abbrev cX2_init : ByteArray := prog_4_method_1_code
def yX2_init : MethodName := ⟨RX2, "<init>", "(ILUndertext$Quire;II)V"⟩
abbrev cX2_hasLine : ByteArray := prog_4_method_2_code
def yX2_hasLine : MethodName := ⟨RX2, "hasLine", "(I)Z"⟩
abbrev cX2_cellAt : ByteArray := prog_4_method_3_code
def yX2_cellAt : MethodName := ⟨RX2, "cellAt", "(II)LUndertext$Cell;"⟩
abbrev cX2_measureAll : ByteArray := prog_4_method_4_code
def yX2_measureAll : MethodName := ⟨RX2, "measureAll", "(LUndertext$Lights;)V"⟩
abbrev cX2_mixedCells : ByteArray := prog_4_method_5_code
def yX2_mixedCells : MethodName := ⟨RX2, "mixedCells", "()I"⟩
abbrev cX2_isAlike : ByteArray := prog_4_method_6_code
def yX2_isAlike : MethodName := ⟨RX2, "isAlike", "(LUndertext$Leaf;)Z"⟩
abbrev cX2_isUnlikeFront : ByteArray := prog_4_method_7_code
def yX2_isUnlikeFront : MethodName := ⟨RX2, "isUnlikeFront", "(LUndertext$Leaf;)Z"⟩
def RX3 : String := "Undertext$Lights"
def TX3 : u_T := fun k => match k with
  | 0 => ("Undertext$Lights", "over", "[I", true)
  | _ => ("Undertext$Lights", "under", "[I", true)
def tyX3 : Nat → FieldType := fun k => match k with
  | 0 => .array .int
  | _ => .array .int
abbrev wsX30 : List Cond := u_ws RX3 TX3 2
theorem nmX3 : ∀ a, a < 2 → ∀ b, b < 2 → a ≠ b → (TX3 a).2.1 ≠ (TX3 b).2.1 := by decide +kernel
theorem tyX3_ok : ∀ k, k < 2 → parseFieldDescriptor (TX3 k).2.2.1 = some (tyX3 k) := by decide +kernel
abbrev cX3_init : ByteArray := prog_5_method_1_code
def yX3_init : MethodName := ⟨RX3, "<init>", "()V"⟩
def RX4 : String := "Undertext$Matcher"
def TX4 : u_T := fun k => match k with
  | 0 => ("Undertext$Matcher", "cost", "I", false)
  | 1 => ("Undertext$Matcher", "end", "I", false)
  | _ => ("Undertext$Matcher", "costs", "[I", true)
def tyX4 : Nat → FieldType := fun k => match k with
  | 0 => .int
  | 1 => .int
  | _ => .array .int
abbrev wsX40 : List Cond := u_ws RX4 TX4 3
theorem nmX4 : ∀ a, a < 3 → ∀ b, b < 3 → a ≠ b → (TX4 a).2.1 ≠ (TX4 b).2.1 := by decide +kernel
theorem tyX4_ok : ∀ k, k < 3 → parseFieldDescriptor (TX4 k).2.2.1 = some (tyX4 k) := by decide +kernel
abbrev cX4_init : ByteArray := prog_6_method_1_code
def yX4_init : MethodName := ⟨RX4, "<init>", "()V"⟩
abbrev cX4_align : ByteArray := prog_6_method_2_code
def yX4_align : MethodName := ⟨RX4, "align", "(LUndertext$Reader;LUndertext$Text;)V"⟩
abbrev cX4_addLetter : ByteArray := prog_6_method_3_code
def yX4_addLetter : MethodName := ⟨RX4, "addLetter", "(ILUndertext$Text;)V"⟩
def RX5 : String := "Undertext$Quire"
def TX5 : u_T := fun k => match k with
  | 0 => ("Undertext$Quire", "sheetCount", "I", false)
  | 1 => ("Undertext$Quire", "members", "[LUndertext$Leaf;", true)
  | 2 => ("Undertext$Quire", "size", "I", false)
  | 3 => ("Undertext$Quire", "certain", "LUndertext$Survey;", true)
  | 4 => ("Undertext$Quire", "full", "LUndertext$Survey;", true)
  | _ => ("Undertext$Quire", "sparing", "LUndertext$Survey;", true)
def tyX5 : Nat → FieldType := fun k => match k with
  | 0 => .int
  | 1 => .array (.object "Undertext$Leaf")
  | 2 => .int
  | 3 => .object "Undertext$Survey"
  | 4 => .object "Undertext$Survey"
  | _ => .object "Undertext$Survey"
abbrev wsX50 : List Cond := u_ws RX5 TX5 6
theorem nmX5 : ∀ a, a < 6 → ∀ b, b < 6 → a ≠ b → (TX5 a).2.1 ≠ (TX5 b).2.1 := by decide +kernel
theorem tyX5_ok : ∀ k, k < 6 → parseFieldDescriptor (TX5 k).2.2.1 = some (tyX5 k) := by decide +kernel
abbrev cX5_init : ByteArray := prog_7_method_1_code
def yX5_init : MethodName := ⟨RX5, "<init>", "()V"⟩
abbrev cX5_hasRoom : ByteArray := prog_7_method_2_code
def yX5_hasRoom : MethodName := ⟨RX5, "hasRoom", "()Z"⟩
abbrev cX5_hasPlace : ByteArray := prog_7_method_3_code
def yX5_hasPlace : MethodName := ⟨RX5, "hasPlace", "(I)Z"⟩
abbrev cX5_take : ByteArray := prog_7_method_4_code
def yX5_take : MethodName := ⟨RX5, "take", "(LUndertext$Leaf;)V"⟩
abbrev cX5_forget : ByteArray := prog_7_method_5_code
def yX5_forget : MethodName := ⟨RX5, "forget", "()V"⟩
abbrev cX5_surveyed : ByteArray := prog_7_method_6_code
def yX5_surveyed : MethodName := ⟨RX5, "surveyed", "(Z[LUndertext$Fact;)LUndertext$Survey;"⟩
abbrev cX5_surveyedSparing : ByteArray := prog_7_method_7_code
def yX5_surveyedSparing : MethodName := ⟨RX5, "surveyedSparing", "([LUndertext$Fact;)LUndertext$Survey;"⟩
def RX6 : String := "Undertext$Reader"
def TX6 : u_T := fun k => match k with
  | 0 => ("Undertext$Reader", "width", "I", false)
  | 1 => ("Undertext$Reader", "isBlank", "[Z", true)
  | 2 => ("Undertext$Reader", "given", "[I", true)
  | 3 => ("Undertext$Reader", "sums", "[I", true)
  | 4 => ("Undertext$Reader", "fits", "[I", true)
  | 5 => ("Undertext$Reader", "ahead", "[I", true)
  | 6 => ("Undertext$Reader", "onward", "[I", true)
  | 7 => ("Undertext$Reader", "ways", "[I", true)
  | 8 => ("Undertext$Reader", "firsts", "[[I", true)
  | _ => ("Undertext$Reader", "found", "[I", true)
def tyX6 : Nat → FieldType := fun k => match k with
  | 0 => .int
  | 1 => .array .boolean
  | 2 => .array .int
  | 3 => .array .int
  | 4 => .array .int
  | 5 => .array .int
  | 6 => .array .int
  | 7 => .array .int
  | 8 => .array (.array .int)
  | _ => .array .int
abbrev wsX60 : List Cond := u_ws RX6 TX6 10
theorem nmX6 : ∀ a, a < 10 → ∀ b, b < 10 → a ≠ b → (TX6 a).2.1 ≠ (TX6 b).2.1 := by decide +kernel
theorem tyX6_ok : ∀ k, k < 10 → parseFieldDescriptor (TX6 k).2.2.1 = some (tyX6 k) := by decide +kernel
abbrev cX6_init : ByteArray := prog_8_method_1_code
def yX6_init : MethodName := ⟨RX6, "<init>", "()V"⟩
abbrev cX6_bestWeight : ByteArray := prog_8_method_2_code
def yX6_bestWeight : MethodName := ⟨RX6, "bestWeight", "()I"⟩
abbrev cX6_bestCount : ByteArray := prog_8_method_3_code
def yX6_bestCount : MethodName := ⟨RX6, "bestCount", "()I"⟩
abbrev cX6_firstLetter : ByteArray := prog_8_method_4_code
def yX6_firstLetter : MethodName := ⟨RX6, "firstLetter", "(I)I"⟩
abbrev cX6_read : ByteArray := prog_8_method_5_code
def yX6_read : MethodName := ⟨RX6, "read", "(LUndertext$Leaf;II[LUndertext$Text;)V"⟩
abbrev cX6_load : ByteArray := prog_8_method_6_code
def yX6_load : MethodName := ⟨RX6, "load", "(LUndertext$Cell;II)V"⟩
abbrev cX6_fitOf : ByteArray := prog_8_method_7_code
def yX6_fitOf : MethodName := ⟨RX6, "fitOf", "(LUndertext$Text;I)I"⟩
abbrev cX6_readFrom : ByteArray := prog_8_method_8_code
def yX6_readFrom : MethodName := ⟨RX6, "readFrom", "(I[LUndertext$Text;)V"⟩
abbrev cX6_tryWord : ByteArray := prog_8_method_9_code
def yX6_tryWord : MethodName := ⟨RX6, "tryWord", "(LUndertext$Text;II)V"⟩
abbrev cX6_makeFirst : ByteArray := prog_8_method_10_code
def yX6_makeFirst : MethodName := ⟨RX6, "makeFirst", "(LUndertext$Text;II)V"⟩
abbrev cX6_isLower : ByteArray := prog_8_method_11_code
def yX6_isLower : MethodName := ⟨RX6, "isLower", "(LUndertext$Text;II)Z"⟩
abbrev cX6_gatherLetters : ByteArray := prog_8_method_12_code
def yX6_gatherLetters : MethodName := ⟨RX6, "gatherLetters", "([LUndertext$Text;)V"⟩
abbrev cX6_gatherWord : ByteArray := prog_8_method_13_code
def yX6_gatherWord : MethodName := ⟨RX6, "gatherWord", "(LUndertext$Text;II)V"⟩
abbrev cX6_standing : ByteArray := prog_8_method_14_code
def yX6_standing : MethodName := ⟨RX6, "standing", "(I)I"⟩
def RX7 : String := "Undertext$Survey"
def TX7 : u_T := fun k => match k with
  | 0 => ("Undertext$Survey", "takesLikely", "Z", true)
  | 1 => ("Undertext$Survey", "sparesOne", "Z", true)
  | 2 => ("Undertext$Survey", "isFresh", "Z", false)
  | 3 => ("Undertext$Survey", "count", "I", false)
  | 4 => ("Undertext$Survey", "seats", "[I", true)
  | 5 => ("Undertext$Survey", "joins", "[I", true)
  | 6 => ("Undertext$Survey", "spared", "[I", true)
  | 7 => ("Undertext$Survey", "counting", "[LUndertext$Fact;", true)
  | 8 => ("Undertext$Survey", "countingSize", "I", false)
  | 9 => ("Undertext$Survey", "members", "[LUndertext$Leaf;", false)
  | 10 => ("Undertext$Survey", "places", "I", false)
  | 11 => ("Undertext$Survey", "placeOf", "[I", true)
  | _ => ("Undertext$Survey", "standing", "[LUndertext$Leaf;", true)
def tyX7 : Nat → FieldType := fun k => match k with
  | 0 => .boolean
  | 1 => .boolean
  | 2 => .boolean
  | 3 => .int
  | 4 => .array .int
  | 5 => .array .int
  | 6 => .array .int
  | 7 => .array (.object "Undertext$Fact")
  | 8 => .int
  | 9 => .array (.object "Undertext$Leaf")
  | 10 => .int
  | 11 => .array .int
  | _ => .array (.object "Undertext$Leaf")
abbrev wsX70 : List Cond := u_ws RX7 TX7 13
theorem nmX7 : ∀ a, a < 13 → ∀ b, b < 13 → a ≠ b → (TX7 a).2.1 ≠ (TX7 b).2.1 := by decide +kernel
theorem tyX7_ok : ∀ k, k < 13 → parseFieldDescriptor (TX7 k).2.2.1 = some (tyX7 k) := by decide +kernel
abbrev cX7_init : ByteArray := prog_9_method_1_code
def yX7_init : MethodName := ⟨RX7, "<init>", "(ZZ)V"⟩
abbrev cX7_sparedSeats : ByteArray := prog_9_method_3_code
def yX7_sparedSeats : MethodName := ⟨RX7, "sparedSeats", "(II)I"⟩
abbrev cX7_make : ByteArray := prog_9_method_4_code
def yX7_make : MethodName := ⟨RX7, "make", "(LUndertext$Quire;[LUndertext$Fact;)V"⟩
abbrev cX7_takeFacts : ByteArray := prog_9_method_5_code
def yX7_takeFacts : MethodName := ⟨RX7, "takeFacts", "([LUndertext$Fact;)V"⟩
abbrev cX7_seek : ByteArray := prog_9_method_6_code
def yX7_seek : MethodName := ⟨RX7, "seek", "(LUndertext$Survey;IIIII)V"⟩
abbrev cX7_canStand : ByteArray := prog_9_method_7_code
def yX7_canStand : MethodName := ⟨RX7, "canStand", "(LUndertext$Leaf;II)Z"⟩
abbrev cX7_brokenWith : ByteArray := prog_9_method_8_code
def yX7_brokenWith : MethodName := ⟨RX7, "brokenWith", "(II)I"⟩
abbrev cX7_isBroken : ByteArray := prog_9_method_9_code
def yX7_isBroken : MethodName := ⟨RX7, "isBroken", "(LUndertext$Fact;)Z"⟩
abbrev cX7_keep : ByteArray := prog_9_method_10_code
def yX7_keep : MethodName := ⟨RX7, "keep", "(I)V"⟩
abbrev cX7_keepFit : ByteArray := prog_9_method_11_code
def yX7_keepFit : MethodName := ⟨RX7, "keepFit", "()V"⟩
abbrev cX7_keepSpared : ByteArray := prog_9_method_12_code
def yX7_keepSpared : MethodName := ⟨RX7, "keepSpared", "(I)V"⟩
def RX8 : String := "Undertext$Text"
def TX8 : u_T := fun k => match k with
  | 0 => ("Undertext$Text", "letters", "[I", true)
  | _ => ("Undertext$Text", "length", "I", true)
def tyX8 : Nat → FieldType := fun k => match k with
  | 0 => .array .int
  | _ => .int
abbrev wsX80 : List Cond := u_ws RX8 TX8 2
theorem nmX8 : ∀ a, a < 2 → ∀ b, b < 2 → a ≠ b → (TX8 a).2.1 ≠ (TX8 b).2.1 := by decide +kernel
theorem tyX8_ok : ∀ k, k < 2 → parseFieldDescriptor (TX8 k).2.2.1 = some (tyX8 k) := by decide +kernel
abbrev cX8_init : ByteArray := prog_10_method_1_code
def yX8_init : MethodName := ⟨RX8, "<init>", "([II)V"⟩
abbrev cX8_isSame : ByteArray := prog_10_method_2_code
def yX8_isSame : MethodName := ⟨RX8, "isSame", "([II)Z"⟩
def RX9 : String := "Undertext"
def TX9 : u_T := fun k => match k with
  | 0 => ("Undertext", "lights", "LUndertext$Lights;", true)
  | 1 => ("Undertext", "leaves", "[LUndertext$Leaf;", true)
  | 2 => ("Undertext", "leafCount", "I", false)
  | 3 => ("Undertext", "quires", "[LUndertext$Quire;", true)
  | 4 => ("Undertext", "facts", "[LUndertext$Fact;", true)
  | 5 => ("Undertext", "factCount", "I", false)
  | 6 => ("Undertext", "draft", "[I", true)
  | 7 => ("Undertext", "draftLength", "I", false)
  | 8 => ("Undertext", "words", "[LUndertext$Text;", true)
  | 9 => ("Undertext", "wordCount", "I", false)
  | 10 => ("Undertext", "works", "[LUndertext$Text;", true)
  | 11 => ("Undertext", "workCount", "I", false)
  | 12 => ("Undertext", "reader", "LUndertext$Reader;", true)
  | 13 => ("Undertext", "matcher", "LUndertext$Matcher;", true)
  | _ => ("Undertext", "lowest", "[I", true)
def tyX9 : Nat → FieldType := fun k => match k with
  | 0 => .object "Undertext$Lights"
  | 1 => .array (.object "Undertext$Leaf")
  | 2 => .int
  | 3 => .array (.object "Undertext$Quire")
  | 4 => .array (.object "Undertext$Fact")
  | 5 => .int
  | 6 => .array .int
  | 7 => .int
  | 8 => .array (.object "Undertext$Text")
  | 9 => .int
  | 10 => .array (.object "Undertext$Text")
  | 11 => .int
  | 12 => .object "Undertext$Reader"
  | 13 => .object "Undertext$Matcher"
  | _ => .array .int
abbrev wsX90 : List Cond := u_ws RX9 TX9 15
theorem nmX9 : ∀ a, a < 15 → ∀ b, b < 15 → a ≠ b → (TX9 a).2.1 ≠ (TX9 b).2.1 := by decide +kernel
theorem tyX9_ok : ∀ k, k < 15 → parseFieldDescriptor (TX9 k).2.2.1 = some (tyX9 k) := by decide +kernel
abbrev cX9_init : ByteArray := prog_1_method_1_code
def yX9_init : MethodName := ⟨RX9, "<init>", "()V"⟩
abbrev cX9_leaf : ByteArray := prog_1_method_2_code
def yX9_leaf : MethodName := ⟨RX9, "leaf", "(IIIII)I"⟩
abbrev cX9_sheets : ByteArray := prog_1_method_3_code
def yX9_sheets : MethodName := ⟨RX9, "sheets", "(II)I"⟩
abbrev cX9_light : ByteArray := prog_1_method_4_code
def yX9_light : MethodName := ⟨RX9, "light", "(III)V"⟩
abbrev cX9_image : ByteArray := prog_1_method_5_code
def yX9_image : MethodName := ⟨RX9, "image", "(IIIII)I"⟩
abbrev cX9_unmix : ByteArray := prog_1_method_6_code
def yX9_unmix : MethodName := ⟨RX9, "unmix", "(IIIZ)I"⟩
abbrev cX9_give : ByteArray := prog_1_method_7_code
def yX9_give : MethodName := ⟨RX9, "give", "(IIIIII)I"⟩
abbrev cX9_type : ByteArray := prog_1_method_8_code
def yX9_type : MethodName := ⟨RX9, "type", "(I)I"⟩
abbrev cX9_word : ByteArray := prog_1_method_9_code
def yX9_word : MethodName := ⟨RX9, "word", "()I"⟩
abbrev cX9_work : ByteArray := prog_1_method_10_code
def yX9_work : MethodName := ⟨RX9, "work", "()I"⟩
abbrev cX9_weight : ByteArray := prog_1_method_11_code
def yX9_weight : MethodName := ⟨RX9, "weight", "(III)I"⟩
abbrev cX9_readings : ByteArray := prog_1_method_12_code
def yX9_readings : MethodName := ⟨RX9, "readings", "(III)I"⟩
abbrev cX9_letter : ByteArray := prog_1_method_13_code
def yX9_letter : MethodName := ⟨RX9, "letter", "(IIII)I"⟩
abbrev cX9_fact : ByteArray := prog_1_method_14_code
def yX9_fact : MethodName := ⟨RX9, "fact", "(IIIZ)I"⟩
abbrev cX9_hold : ByteArray := prog_1_method_15_code
def yX9_hold : MethodName := ⟨RX9, "hold", "(IZ)Z"⟩
abbrev cX9_arrangements : ByteArray := prog_1_method_16_code
def yX9_arrangements : MethodName := ⟨RX9, "arrangements", "(IZ)I"⟩
abbrev cX9_places : ByteArray := prog_1_method_17_code
def yX9_places : MethodName := ⟨RX9, "places", "(IZ)I"⟩
abbrev cX9_hand : ByteArray := prog_1_method_19_code
def yX9_hand : MethodName := ⟨RX9, "hand", "(IIIII)I"⟩
abbrev cX9_handOf : ByteArray := prog_1_method_20_code
def yX9_handOf : MethodName := ⟨RX9, "handOf", "(I)I"⟩
abbrev cX9_date : ByteArray := prog_1_method_21_code
def yX9_date : MethodName := ⟨RX9, "date", "(II)I"⟩
abbrev cX9_dates : ByteArray := prog_1_method_22_code
def yX9_dates : MethodName := ⟨RX9, "dates", "(I)I"⟩
abbrev cX9_match : ByteArray := prog_1_method_23_code
def yX9_match : MethodName := ⟨RX9, "match", "(IIIIZ)I"⟩
abbrev cX9_state : ByteArray := prog_1_method_25_code
def yX9_state : MethodName := ⟨RX9, "state", "(IIII)I"⟩
abbrev cX9_rests : ByteArray := prog_1_method_26_code
def yX9_rests : MethodName := ⟨RX9, "rests", "(I)I"⟩
abbrev cX9_worth : ByteArray := prog_1_method_27_code
def yX9_worth : MethodName := ⟨RX9, "worth", "()I"⟩
abbrev cX9_isWithin : ByteArray := prog_1_method_28_code
def yX9_isWithin : MethodName := ⟨RX9, "isWithin", "(III)Z"⟩
abbrev cX9_isLetter : ByteArray := prog_1_method_29_code
def yX9_isLetter : MethodName := ⟨RX9, "isLetter", "(I)Z"⟩
abbrev cX9_isLayer : ByteArray := prog_1_method_30_code
def yX9_isLayer : MethodName := ⟨RX9, "isLayer", "(I)Z"⟩
abbrev cX9_quireOf : ByteArray := prog_1_method_31_code
def yX9_quireOf : MethodName := ⟨RX9, "quireOf", "(I)LUndertext$Quire;"⟩
abbrev cX9_leafOf : ByteArray := prog_1_method_32_code
def yX9_leafOf : MethodName := ⟨RX9, "leafOf", "(I)LUndertext$Leaf;"⟩
abbrev cX9_cellOf : ByteArray := prog_1_method_33_code
def yX9_cellOf : MethodName := ⟨RX9, "cellOf", "(III)LUndertext$Cell;"⟩
abbrev cX9_wordLikeDraft : ByteArray := prog_1_method_34_code
def yX9_wordLikeDraft : MethodName := ⟨RX9, "wordLikeDraft", "()I"⟩
abbrev cX9_placesOf : ByteArray := prog_1_method_35_code
def yX9_placesOf : MethodName := ⟨RX9, "placesOf", "(LUndertext$Leaf;Z)I"⟩
abbrev cX9_settleHands : ByteArray := prog_1_method_36_code
def yX9_settleHands : MethodName := ⟨RX9, "settleHands", "()V"⟩
abbrev cX9_takeLowest : ByteArray := prog_1_method_37_code
def yX9_takeLowest : MethodName := ⟨RX9, "takeLowest", "(LUndertext$Leaf;)V"⟩
abbrev cX9_spansOf : ByteArray := prog_1_method_38_code
def yX9_spansOf : MethodName := ⟨RX9, "spansOf", "(LUndertext$Leaf;)I"⟩
abbrev cX9_sheetGroup : ByteArray := prog_1_method_39_code
def yX9_sheetGroup : MethodName := ⟨RX9, "sheetGroup", "(I)I"⟩
def RX10 : String := "UndertextModel"
def TX10 : u_T := fun k => match k with
  | _ => ("", "", "", false)
def tyX10 : Nat → FieldType := fun k => match k with
  | _ => .int
abbrev wsX100 : List Cond := u_ws RX10 TX10 0
theorem nmX10 : ∀ a, a < 0 → ∀ b, b < 0 → a ≠ b → (TX10 a).2.1 ≠ (TX10 b).2.1 := by decide +kernel
theorem tyX10_ok : ∀ k, k < 0 → parseFieldDescriptor (TX10 k).2.2.1 = some (tyX10 k) := by decide +kernel
def RJx145de : String := "java/io/Serializable"
def TJx145de : u_T := fun k => match k with
  | _ => ("", "", "", false)
def tyJx145de : Nat → FieldType := fun k => match k with
  | _ => .int
theorem nmJx145de : ∀ a, a < 0 → ∀ b, b < 0 → a ≠ b → (TJx145de a).2.1 ≠ (TJx145de b).2.1 := by decide +kernel
theorem tyJx145de_ok : ∀ k, k < 0 → parseFieldDescriptor (TJx145de k).2.2.1 = some (tyJx145de k) := by decide +kernel
def RJx8e188 : String := "java/lang/Cloneable"
def TJx8e188 : u_T := fun k => match k with
  | _ => ("", "", "", false)
def tyJx8e188 : Nat → FieldType := fun k => match k with
  | _ => .int
theorem nmJx8e188 : ∀ a, a < 0 → ∀ b, b < 0 → a ≠ b → (TJx8e188 a).2.1 ≠ (TJx8e188 b).2.1 := by decide +kernel
theorem tyJx8e188_ok : ∀ k, k < 0 → parseFieldDescriptor (TJx8e188 k).2.2.1 = some (tyJx8e188 k) := by decide +kernel
def RJ6 : String := "java/lang/Integer"
def TJ6 : u_T := fun k => match k with
  | _ => ("", "", "", false)
def tyJ6 : Nat → FieldType := fun k => match k with
  | _ => .int
theorem nmJ6 : ∀ a, a < 0 → ∀ b, b < 0 → a ≠ b → (TJ6 a).2.1 ≠ (TJ6 b).2.1 := by decide +kernel
theorem tyJ6_ok : ∀ k, k < 0 → parseFieldDescriptor (TJ6 k).2.2.1 = some (tyJ6 k) := by decide +kernel
abbrev cJ6_bitCount_0f7a4 : ByteArray := prog_18_method_49_code
def yJ6_bitCount_0f7a4 : MethodName := ⟨RJ6, "bitCount", "(I)I"⟩
def RJ9 : String := "java/lang/Math"
def TJ9 : u_T := fun k => match k with
  | _ => ("", "", "", false)
def tyJ9 : Nat → FieldType := fun k => match k with
  | _ => .int
theorem nmJ9 : ∀ a, a < 0 → ∀ b, b < 0 → a ≠ b → (TJ9 a).2.1 ≠ (TJ9 b).2.1 := by decide +kernel
theorem tyJ9_ok : ∀ k, k < 0 → parseFieldDescriptor (TJ9 k).2.2.1 = some (tyJ9 k) := by decide +kernel
abbrev cJ9_abs_0f7a4 : ByteArray := prog_19_method_59_code
def yJ9_abs_0f7a4 : MethodName := ⟨RJ9, "abs", "(I)I"⟩
abbrev cJ9_max_7cf53 : ByteArray := prog_19_method_65_code
def yJ9_max_7cf53 : MethodName := ⟨RJ9, "max", "(II)I"⟩
abbrev cJ9_min_7cf53 : ByteArray := prog_19_method_69_code
def yJ9_min_7cf53 : MethodName := ⟨RJ9, "min", "(II)I"⟩
def RJ10 : String := "java/lang/System"
def TJ10 : u_T := fun k => match k with
  | _ => ("", "", "", false)
def tyJ10 : Nat → FieldType := fun k => match k with
  | _ => .int
theorem nmJ10 : ∀ a, a < 0 → ∀ b, b < 0 → a ≠ b → (TJ10 a).2.1 ≠ (TJ10 b).2.1 := by decide +kernel
theorem tyJ10_ok : ∀ k, k < 0 → parseFieldDescriptor (TJ10 k).2.2.1 = some (tyJ10 k) := by decide +kernel
def RJ7 : String := "java/util/Arrays"
def TJ7 : u_T := fun k => match k with
  | _ => ("", "", "", false)
def tyJ7 : Nat → FieldType := fun k => match k with
  | _ => .int
theorem nmJ7 : ∀ a, a < 0 → ∀ b, b < 0 → a ≠ b → (TJ7 a).2.1 ≠ (TJ7 b).2.1 := by decide +kernel
theorem tyJ7_ok : ∀ k, k < 0 → parseFieldDescriptor (TJ7 k).2.2.1 = some (tyJ7 k) := by decide +kernel
abbrev cJ7_fill_53178 : ByteArray := prog_23_method_103_code
def yJ7_fill_53178 : MethodName := ⟨RJ7, "fill", "([II)V"⟩
abbrev cJ7_copyOf_59c91 : ByteArray := prog_23_method_123_code
def yJ7_copyOf_59c91 : MethodName := ⟨RJ7, "copyOf", "([II)[I"⟩
def RL : String := "UndertextLaw"
abbrev cL_low : ByteArray := method_2_code
def yL_low : MethodName := ⟨RL, "low", "(II)I"⟩
abbrev cL_cell : ByteArray := method_3_code
def yL_cell : MethodName := ⟨RL, "cell", "([II)I"⟩
abbrev cL_acts : ByteArray := method_4_code
def yL_acts : MethodName := ⟨RL, "acts", "(LUndertext;IIII)I"⟩
abbrev cL_gives : ByteArray := method_5_code
def yL_gives : MethodName := ⟨RL, "gives", "(LUndertext;IIIII)I"⟩
abbrev cL_unmixed : ByteArray := method_6_code
def yL_unmixed : MethodName := ⟨RL, "unmixed", "(LUndertext;IIZ)I"⟩
abbrev cL_imaged : ByteArray := method_7_code
def yL_imaged : MethodName := ⟨RL, "imaged", "(LUndertext;IIII)I"⟩
abbrev cL_line : ByteArray := method_8_code
def yL_line : MethodName := ⟨RL, "line", "(LUndertext;III)Z"⟩
abbrev cL_leaf : ByteArray := method_9_code
def yL_leaf : MethodName := ⟨RL, "leaf", "(LUndertext;II)Z"⟩
abbrev cL_law : ByteArray := code
def yL_law : MethodName := ⟨RL, "law", "([I)Z"⟩
abbrev vwCl : List vw_C := [(RX0, TX0, 5), (RX1, TX1, 7), (RX2, TX2, 13), (RX3, TX3, 2), (RX4, TX4, 3), (RX5, TX5, 6), (RX6, TX6, 10), (RX7, TX7, 13), (RX8, TX8, 2), (RX9, TX9, 15)]
