/-! words -/
theorem cs_1 : Cond.castable (gXC 1) (gXC 1) ∈ gEB := List.mem_filter.mpr ⟨List.mem_of_getElem? (i := 413) (by decide +kernel), rfl⟩
theorem cs_2 : Cond.castable (gXC 2) (gXC 2) ∈ gEB := List.mem_filter.mpr ⟨List.mem_of_getElem? (i := 479) (by decide +kernel), rfl⟩
theorem cs_3 : Cond.castable (gXC 3) (gXC 3) ∈ gEB := List.mem_filter.mpr ⟨List.mem_of_getElem? (i := 498) (by decide +kernel), rfl⟩
theorem ix_X9_leaf : gI yX9_leaf cX9_leaf 8 (some .int) 5 := ⟨(gTB_in 406 (by decide +kernel) rfl), (gTB_in 77 (by decide +kernel) rfl), by decide +kernel⟩
theorem iv_X9_leaf : gIV yX9_leaf := ⟨(gTB_in 404 (by decide +kernel) rfl), (gTB_in 405 (by decide +kernel) rfl)⟩
theorem ls_L_7 : Cond.methodLink RL 7 yX9_leaf ∈ gTB := (gTB_in 403 (by decide +kernel) rfl)
theorem cx_13 : Cond.classLink RL 13 (gXC 1) ∈ gTB := (gTB_in 400 (by decide +kernel) rfl)
theorem cx_15 : Cond.classLink RL 15 (gXC 2) ∈ gTB := (gTB_in 401 (by decide +kernel) rfl)
theorem cx_17 : Cond.classLink RL 17 (gXC 3) ∈ gTB := (gTB_in 402 (by decide +kernel) rfl)
theorem ix_X9_sheets : gI yX9_sheets cX9_sheets 5 (some .int) 2 := ⟨(gTB_in 607 (by decide +kernel) rfl), (gTB_in 77 (by decide +kernel) rfl), by decide +kernel⟩
theorem iv_X9_sheets : gIV yX9_sheets := ⟨(gTB_in 605 (by decide +kernel) rfl), (gTB_in 606 (by decide +kernel) rfl)⟩
theorem ls_L_19 : Cond.methodLink RL 19 yX9_sheets ∈ gTB := (gTB_in 604 (by decide +kernel) rfl)
theorem ix_X9_light : gI yX9_light cX9_light 8 none 3 := ⟨(gTB_in 615 (by decide +kernel) rfl), (gTB_in 77 (by decide +kernel) rfl), by decide +kernel⟩
theorem iv_X9_light : gIV yX9_light := ⟨(gTB_in 613 (by decide +kernel) rfl), (gTB_in 614 (by decide +kernel) rfl)⟩
theorem ls_L_23 : Cond.methodLink RL 23 yX9_light ∈ gTB := (gTB_in 612 (by decide +kernel) rfl)
theorem ix_X9_image : gI yX9_image cX9_image 7 (some .int) 5 := ⟨(gTB_in 638 (by decide +kernel) rfl), (gTB_in 77 (by decide +kernel) rfl), by decide +kernel⟩
theorem iv_X9_image : gIV yX9_image := ⟨(gTB_in 636 (by decide +kernel) rfl), (gTB_in 637 (by decide +kernel) rfl)⟩
theorem ls_L_27 : Cond.methodLink RL 27 yX9_image ∈ gTB := (gTB_in 635 (by decide +kernel) rfl)
theorem ix_X9_unmix : gI yX9_unmix cX9_unmix 6 (some .int) 4 := ⟨(gTB_in 662 (by decide +kernel) rfl), (gTB_in 77 (by decide +kernel) rfl), by decide +kernel⟩
theorem iv_X9_unmix : gIV yX9_unmix := ⟨(gTB_in 660 (by decide +kernel) rfl), (gTB_in 661 (by decide +kernel) rfl)⟩
theorem ls_L_30 : Cond.methodLink RL 30 yX9_unmix ∈ gTB := (gTB_in 659 (by decide +kernel) rfl)
theorem ix_X9_give : gI yX9_give cX9_give 9 (some .int) 6 := ⟨(gTB_in 669 (by decide +kernel) rfl), (gTB_in 77 (by decide +kernel) rfl), by decide +kernel⟩
theorem iv_X9_give : gIV yX9_give := ⟨(gTB_in 667 (by decide +kernel) rfl), (gTB_in 668 (by decide +kernel) rfl)⟩
theorem ls_L_34 : Cond.methodLink RL 34 yX9_give ∈ gTB := (gTB_in 666 (by decide +kernel) rfl)
theorem ix_X9_type : gI yX9_type cX9_type 2 (some .int) 1 := ⟨(gTB_in 695 (by decide +kernel) rfl), (gTB_in 77 (by decide +kernel) rfl), by decide +kernel⟩
theorem iv_X9_type : gIV yX9_type := ⟨(gTB_in 693 (by decide +kernel) rfl), (gTB_in 694 (by decide +kernel) rfl)⟩
theorem ls_L_38 : Cond.methodLink RL 38 yX9_type ∈ gTB := (gTB_in 692 (by decide +kernel) rfl)
theorem ix_X9_word : gI yX9_word cX9_word 3 (some .int) 0 := ⟨(gTB_in 702 (by decide +kernel) rfl), (gTB_in 77 (by decide +kernel) rfl), by decide +kernel⟩
theorem iv_X9_word : gIV yX9_word := ⟨(gTB_in 700 (by decide +kernel) rfl), (gTB_in 701 (by decide +kernel) rfl)⟩
theorem ls_L_42 : Cond.methodLink RL 42 yX9_word ∈ gTB := (gTB_in 699 (by decide +kernel) rfl)
theorem ix_X9_work : gI yX9_work cX9_work 2 (some .int) 0 := ⟨(gTB_in 747 (by decide +kernel) rfl), (gTB_in 77 (by decide +kernel) rfl), by decide +kernel⟩
theorem iv_X9_work : gIV yX9_work := ⟨(gTB_in 745 (by decide +kernel) rfl), (gTB_in 746 (by decide +kernel) rfl)⟩
theorem ls_L_46 : Cond.methodLink RL 46 yX9_work ∈ gTB := (gTB_in 744 (by decide +kernel) rfl)
theorem ix_X9_weight : gI yX9_weight cX9_weight 5 (some .int) 3 := ⟨(gTB_in 754 (by decide +kernel) rfl), (gTB_in 77 (by decide +kernel) rfl), by decide +kernel⟩
theorem iv_X9_weight : gIV yX9_weight := ⟨(gTB_in 752 (by decide +kernel) rfl), (gTB_in 753 (by decide +kernel) rfl)⟩
theorem ls_L_49 : Cond.methodLink RL 49 yX9_weight ∈ gTB := (gTB_in 751 (by decide +kernel) rfl)
theorem ix_X9_readings : gI yX9_readings cX9_readings 5 (some .int) 3 := ⟨(gTB_in 806 (by decide +kernel) rfl), (gTB_in 77 (by decide +kernel) rfl), by decide +kernel⟩
theorem iv_X9_readings : gIV yX9_readings := ⟨(gTB_in 804 (by decide +kernel) rfl), (gTB_in 805 (by decide +kernel) rfl)⟩
theorem ls_L_53 : Cond.methodLink RL 53 yX9_readings ∈ gTB := (gTB_in 803 (by decide +kernel) rfl)
theorem ix_X9_letter : gI yX9_letter cX9_letter 6 (some .int) 4 := ⟨(gTB_in 817 (by decide +kernel) rfl), (gTB_in 77 (by decide +kernel) rfl), by decide +kernel⟩
theorem iv_X9_letter : gIV yX9_letter := ⟨(gTB_in 815 (by decide +kernel) rfl), (gTB_in 816 (by decide +kernel) rfl)⟩
theorem ls_L_56 : Cond.methodLink RL 56 yX9_letter ∈ gTB := (gTB_in 814 (by decide +kernel) rfl)
theorem ix_X9_fact : gI yX9_fact cX9_fact 7 (some .int) 4 := ⟨(gTB_in 828 (by decide +kernel) rfl), (gTB_in 77 (by decide +kernel) rfl), by decide +kernel⟩
theorem iv_X9_fact : gIV yX9_fact := ⟨(gTB_in 826 (by decide +kernel) rfl), (gTB_in 827 (by decide +kernel) rfl)⟩
theorem ls_L_60 : Cond.methodLink RL 60 yX9_fact ∈ gTB := (gTB_in 825 (by decide +kernel) rfl)
theorem ix_X9_hold : gI yX9_hold cX9_hold 5 (some .boolean) 2 := ⟨(gTB_in 878 (by decide +kernel) rfl), (gTB_in 77 (by decide +kernel) rfl), by decide +kernel⟩
theorem iv_X9_hold : gIV yX9_hold := ⟨(gTB_in 876 (by decide +kernel) rfl), (gTB_in 877 (by decide +kernel) rfl)⟩
theorem ls_L_63 : Cond.methodLink RL 63 yX9_hold ∈ gTB := (gTB_in 875 (by decide +kernel) rfl)
theorem ix_X9_arrangements : gI yX9_arrangements cX9_arrangements 4 (some .int) 2 := ⟨(gTB_in 885 (by decide +kernel) rfl), (gTB_in 77 (by decide +kernel) rfl), by decide +kernel⟩
theorem iv_X9_arrangements : gIV yX9_arrangements := ⟨(gTB_in 883 (by decide +kernel) rfl), (gTB_in 884 (by decide +kernel) rfl)⟩
theorem ls_L_67 : Cond.methodLink RL 67 yX9_arrangements ∈ gTB := (gTB_in 882 (by decide +kernel) rfl)
theorem ix_X9_places : gI yX9_places cX9_places 4 (some .int) 2 := ⟨(gTB_in 892 (by decide +kernel) rfl), (gTB_in 77 (by decide +kernel) rfl), by decide +kernel⟩
theorem iv_X9_places : gIV yX9_places := ⟨(gTB_in 890 (by decide +kernel) rfl), (gTB_in 891 (by decide +kernel) rfl)⟩
theorem ls_L_71 : Cond.methodLink RL 71 yX9_places ∈ gTB := (gTB_in 889 (by decide +kernel) rfl)
theorem ix_X9_joined : gI yX9_joined cX9_joined 7 (some .int) 2 := ⟨(gTB_in 899 (by decide +kernel) rfl), (gTB_in 77 (by decide +kernel) rfl), by decide +kernel⟩
theorem iv_X9_joined : gIV yX9_joined := ⟨(gTB_in 897 (by decide +kernel) rfl), (gTB_in 898 (by decide +kernel) rfl)⟩
theorem ls_L_74 : Cond.methodLink RL 74 yX9_joined ∈ gTB := (gTB_in 896 (by decide +kernel) rfl)
theorem ix_X9_hand : gI yX9_hand cX9_hand 12 (some .int) 5 := ⟨(gTB_in 910 (by decide +kernel) rfl), (gTB_in 77 (by decide +kernel) rfl), by decide +kernel⟩
theorem iv_X9_hand : gIV yX9_hand := ⟨(gTB_in 908 (by decide +kernel) rfl), (gTB_in 909 (by decide +kernel) rfl)⟩
theorem ls_L_77 : Cond.methodLink RL 77 yX9_hand ∈ gTB := (gTB_in 907 (by decide +kernel) rfl)
theorem ix_X9_handOf : gI yX9_handOf cX9_handOf 3 (some .int) 1 := ⟨(gTB_in 932 (by decide +kernel) rfl), (gTB_in 77 (by decide +kernel) rfl), by decide +kernel⟩
theorem iv_X9_handOf : gIV yX9_handOf := ⟨(gTB_in 930 (by decide +kernel) rfl), (gTB_in 931 (by decide +kernel) rfl)⟩
theorem ls_L_80 : Cond.methodLink RL 80 yX9_handOf ∈ gTB := (gTB_in 929 (by decide +kernel) rfl)
theorem ix_X9_date : gI yX9_date cX9_date 4 (some .int) 2 := ⟨(gTB_in 939 (by decide +kernel) rfl), (gTB_in 77 (by decide +kernel) rfl), by decide +kernel⟩
theorem iv_X9_date : gIV yX9_date := ⟨(gTB_in 937 (by decide +kernel) rfl), (gTB_in 938 (by decide +kernel) rfl)⟩
theorem ls_L_83 : Cond.methodLink RL 83 yX9_date ∈ gTB := (gTB_in 936 (by decide +kernel) rfl)
theorem ix_X9_dates : gI yX9_dates cX9_dates 3 (some .int) 1 := ⟨(gTB_in 954 (by decide +kernel) rfl), (gTB_in 77 (by decide +kernel) rfl), by decide +kernel⟩
theorem iv_X9_dates : gIV yX9_dates := ⟨(gTB_in 952 (by decide +kernel) rfl), (gTB_in 953 (by decide +kernel) rfl)⟩
theorem ls_L_86 : Cond.methodLink RL 86 yX9_dates ∈ gTB := (gTB_in 951 (by decide +kernel) rfl)
theorem ix_X9_match : gI yX9_match cX9_match 8 (some .int) 5 := ⟨(gTB_in 961 (by decide +kernel) rfl), (gTB_in 77 (by decide +kernel) rfl), by decide +kernel⟩
theorem iv_X9_match : gIV yX9_match := ⟨(gTB_in 959 (by decide +kernel) rfl), (gTB_in 960 (by decide +kernel) rfl)⟩
theorem ls_L_89 : Cond.methodLink RL 89 yX9_match ∈ gTB := (gTB_in 958 (by decide +kernel) rfl)
theorem ix_X9_edition : gI yX9_edition cX9_edition 9 (some .int) 2 := ⟨(gTB_in 979 (by decide +kernel) rfl), (gTB_in 77 (by decide +kernel) rfl), by decide +kernel⟩
theorem iv_X9_edition : gIV yX9_edition := ⟨(gTB_in 977 (by decide +kernel) rfl), (gTB_in 978 (by decide +kernel) rfl)⟩
theorem ls_L_93 : Cond.methodLink RL 93 yX9_edition ∈ gTB := (gTB_in 976 (by decide +kernel) rfl)
theorem ix_X9_state : gI yX9_state cX9_state 6 (some .int) 4 := ⟨(gTB_in 986 (by decide +kernel) rfl), (gTB_in 77 (by decide +kernel) rfl), by decide +kernel⟩
theorem iv_X9_state : gIV yX9_state := ⟨(gTB_in 984 (by decide +kernel) rfl), (gTB_in 985 (by decide +kernel) rfl)⟩
theorem ls_L_96 : Cond.methodLink RL 96 yX9_state ∈ gTB := (gTB_in 983 (by decide +kernel) rfl)
theorem ix_X9_rests : gI yX9_rests cX9_rests 10 (some .int) 1 := ⟨(gTB_in 1009 (by decide +kernel) rfl), (gTB_in 77 (by decide +kernel) rfl), by decide +kernel⟩
theorem iv_X9_rests : gIV yX9_rests := ⟨(gTB_in 1007 (by decide +kernel) rfl), (gTB_in 1008 (by decide +kernel) rfl)⟩
theorem ls_L_99 : Cond.methodLink RL 99 yX9_rests ∈ gTB := (gTB_in 1006 (by decide +kernel) rfl)
def L_leaf (al : Nat → Nat → Bool) (N : Nat) (nw : List (Nat × Nat)) (p1 : Int32) (p2 : Int32) (p3 : Int32) (p4 : Int32) (p5 : Int32) (X : gM) : Option (Int32 × gM) := bind3 (X9_leaf al N nw p1 p2 p3 p4 p5 X) fun k1 r1 X1 => if k1 = 0 then some ((0 : Int32), mset X1 81 0 0 r1) else if k1 = 1 then (eqn nw []).bind fun _ => some ((1 : Int32), X1) else if k1 = 2 then (eqn nw []).bind fun _ => some ((2 : Int32), X1) else if k1 = 3 then (eqn nw []).bind fun _ => some ((3 : Int32), X1) else none
def L_sheets (al : Nat → Nat → Bool) (N : Nat) (p1 : Int32) (p2 : Int32) (X : gM) : Option (Int32 × gM) := bind3 (X9_sheets al N p1 p2 X) fun k1 r1 X1 => if k1 = 0 then some ((0 : Int32), mset X1 81 0 0 r1) else if k1 = 1 then some ((1 : Int32), X1) else if k1 = 2 then some ((2 : Int32), X1) else if k1 = 3 then some ((3 : Int32), X1) else none
def L_light (al : Nat → Nat → Bool) (N : Nat) (p1 : Int32) (p2 : Int32) (p3 : Int32) (X : gM) : Option (Int32 × gM) := bind3 (X9_light al N p1 p2 p3 X) fun k1 r1 X1 => if k1 = 0 then some ((0 : Int32), X1) else if k1 = 1 then some ((1 : Int32), X1) else if k1 = 2 then some ((2 : Int32), X1) else none
def L_image (al : Nat → Nat → Bool) (N : Nat) (p1 : Int32) (p2 : Int32) (p3 : Int32) (p4 : Int32) (p5 : Int32) (X : gM) : Option (Int32 × gM) := bind3 (X9_image al N p1 p2 p3 p4 p5 X) fun k1 r1 X1 => if k1 = 0 then some ((0 : Int32), mset X1 81 0 0 r1) else if k1 = 1 then some ((1 : Int32), X1) else if k1 = 2 then some ((2 : Int32), X1) else none
def L_unmix (al : Nat → Nat → Bool) (N : Nat) (p1 : Int32) (p2 : Int32) (p3 : Int32) (p4 : Int32) (X : gM) : Option (Int32 × gM) := bind3 (X9_unmix al N p1 p2 p3 p4 X) fun k1 r1 X1 => if k1 = 0 then some ((0 : Int32), mset X1 81 0 0 r1) else if k1 = 1 then some ((1 : Int32), X1) else none
def L_give (al : Nat → Nat → Bool) (N : Nat) (p1 : Int32) (p2 : Int32) (p3 : Int32) (p4 : Int32) (p5 : Int32) (p6 : Int32) (X : gM) : Option (Int32 × gM) := bind3 (X9_give al N p1 p2 p3 p4 p5 p6 X) fun k1 r1 X1 => if k1 = 0 then some ((0 : Int32), mset X1 81 0 0 r1) else if k1 = 1 then some ((1 : Int32), X1) else if k1 = 2 then some ((2 : Int32), X1) else if k1 = 3 then some ((3 : Int32), X1) else none
def L_type (al : Nat → Nat → Bool) (N : Nat) (p1 : Int32) (X : gM) : Option (Int32 × gM) := bind3 (X9_type al N p1 X) fun k1 r1 X1 => if k1 = 0 then some ((0 : Int32), mset X1 81 0 0 r1) else if k1 = 2 then some ((1 : Int32), X1) else if k1 = 3 then some ((2 : Int32), X1) else none
def L_word (al : Nat → Nat → Bool) (N : Nat) (nw : List (Nat × Nat))  (X : gM) : Option (Int32 × gM) := bind3 (X9_word al N nw X) fun k1 r1 X1 => if k1 = 0 then some ((0 : Int32), mset X1 81 0 0 r1) else if k1 = 3 then (eqn nw []).bind fun _ => some ((1 : Int32), X1) else none
def L_work (al : Nat → Nat → Bool) (N : Nat) (nw : List (Nat × Nat))  (X : gM) : Option (Int32 × gM) := bind3 (X9_work al N nw X) fun k1 r1 X1 => if k1 = 0 then some ((0 : Int32), mset X1 81 0 0 r1) else if k1 = 3 then (eqn nw []).bind fun _ => some ((1 : Int32), X1) else none
def L_weight (al : Nat → Nat → Bool) (N : Nat) (p1 : Int32) (p2 : Int32) (p3 : Int32) (X : gM) : Option (Int32 × gM) := bind3 (X9_weight al N p1 p2 p3 X) fun k1 r1 X1 => if k1 = 0 then some ((0 : Int32), mset X1 81 0 0 r1) else if k1 = 1 then some ((1 : Int32), X1) else if k1 = 2 then some ((2 : Int32), X1) else none
def L_readings (al : Nat → Nat → Bool) (N : Nat) (p1 : Int32) (p2 : Int32) (p3 : Int32) (X : gM) : Option (Int32 × gM) := bind3 (X9_readings al N p1 p2 p3 X) fun k1 r1 X1 => if k1 = 0 then some ((0 : Int32), mset X1 81 0 0 r1) else if k1 = 1 then some ((1 : Int32), X1) else if k1 = 2 then some ((2 : Int32), X1) else none
def L_letter (al : Nat → Nat → Bool) (N : Nat) (p1 : Int32) (p2 : Int32) (p3 : Int32) (p4 : Int32) (X : gM) : Option (Int32 × gM) := bind3 (X9_letter al N p1 p2 p3 p4 X) fun k1 r1 X1 => if k1 = 0 then some ((0 : Int32), mset X1 81 0 0 r1) else if k1 = 1 then some ((1 : Int32), X1) else if k1 = 2 then some ((2 : Int32), X1) else none
def L_fact (al : Nat → Nat → Bool) (N : Nat) (nw : List (Nat × Nat)) (p1 : Int32) (p2 : Int32) (p3 : Int32) (p4 : Int32) (X : gM) : Option (Int32 × gM) := bind3 (X9_fact al N nw p1 p2 p3 p4 X) fun k1 r1 X1 => if k1 = 0 then some ((0 : Int32), mset X1 81 0 0 r1) else if k1 = 1 then (eqn nw []).bind fun _ => some ((1 : Int32), X1) else if k1 = 2 then (eqn nw []).bind fun _ => some ((2 : Int32), X1) else if k1 = 3 then (eqn nw []).bind fun _ => some ((3 : Int32), X1) else none
def L_hold (al : Nat → Nat → Bool) (N : Nat) (p1 : Int32) (p2 : Int32) (X : gM) : Option (Int32 × gM) := bind3 (X9_hold al N p1 p2 X) fun k1 r1 X1 => if k1 = 0 then some ((0 : Int32), mset X1 81 0 0 (if r1 = (0 : Int32) then (0 : Int32) else (1 : Int32))) else if k1 = 1 then some ((1 : Int32), X1) else none
def L_arrangements (al : Nat → Nat → Bool) (N : Nat) (p1 : Int32) (p2 : Int32) (X : gM) : Option (Int32 × gM) := bind3 (X9_arrangements al N p1 p2 X) fun k1 r1 X1 => if k1 = 0 then some ((0 : Int32), mset X1 81 0 0 r1) else if k1 = 1 then some ((1 : Int32), X1) else none
def L_places (al : Nat → Nat → Bool) (N : Nat) (p1 : Int32) (p2 : Int32) (X : gM) : Option (Int32 × gM) := bind3 (X9_places al N p1 p2 X) fun k1 r1 X1 => if k1 = 0 then some ((0 : Int32), mset X1 81 0 0 r1) else if k1 = 1 then some ((1 : Int32), X1) else none
def L_joined (al : Nat → Nat → Bool) (N : Nat) (p1 : Int32) (p2 : Int32) (X : gM) : Option (Int32 × gM) := bind3 (X9_joined al N p1 p2 X) fun k1 r1 X1 => if k1 = 0 then some ((0 : Int32), mset X1 81 0 0 r1) else if k1 = 1 then some ((1 : Int32), X1) else if k1 = 2 then some ((2 : Int32), X1) else none
def L_hand (al : Nat → Nat → Bool) (N : Nat) (p1 : Int32) (p2 : Int32) (p3 : Int32) (p4 : Int32) (p5 : Int32) (X : gM) : Option (Int32 × gM) := bind3 (X9_hand al N p1 p2 p3 p4 p5 X) fun k1 r1 X1 => if k1 = 0 then some ((0 : Int32), mset X1 81 0 0 r1) else if k1 = 1 then some ((1 : Int32), X1) else if k1 = 2 then some ((2 : Int32), X1) else none
def L_handOf (al : Nat → Nat → Bool) (N : Nat) (p1 : Int32) (X : gM) : Option (Int32 × gM) := bind3 (X9_handOf al N p1 X) fun k1 r1 X1 => if k1 = 0 then some ((0 : Int32), mset X1 81 0 0 r1) else if k1 = 1 then some ((1 : Int32), X1) else none
def L_date (al : Nat → Nat → Bool) (N : Nat) (p1 : Int32) (p2 : Int32) (X : gM) : Option (Int32 × gM) := bind3 (X9_date al N p1 p2 X) fun k1 r1 X1 => if k1 = 0 then some ((0 : Int32), mset X1 81 0 0 r1) else if k1 = 1 then some ((1 : Int32), X1) else if k1 = 2 then some ((2 : Int32), X1) else if k1 = 3 then some ((3 : Int32), X1) else none
def L_dates (al : Nat → Nat → Bool) (N : Nat) (p1 : Int32) (X : gM) : Option (Int32 × gM) := bind3 (X9_dates al N p1 X) fun k1 r1 X1 => if k1 = 0 then some ((0 : Int32), mset X1 81 0 0 r1) else if k1 = 1 then some ((1 : Int32), X1) else none
def L_match (al : Nat → Nat → Bool) (N : Nat) (p1 : Int32) (p2 : Int32) (p3 : Int32) (p4 : Int32) (p5 : Int32) (X : gM) : Option (Int32 × gM) := bind3 (X9_match al N p1 p2 p3 p4 p5 X) fun k1 r1 X1 => if k1 = 0 then some ((0 : Int32), mset X1 81 0 0 r1) else if k1 = 1 then some ((1 : Int32), X1) else if k1 = 2 then some ((2 : Int32), X1) else none
def L_edition (al : Nat → Nat → Bool) (N : Nat) (p1 : Int32) (p2 : Int32) (X : gM) : Option (Int32 × gM) := bind3 (X9_edition al N p1 p2 X) fun k1 r1 X1 => if k1 = 0 then some ((0 : Int32), mset X1 81 0 0 r1) else if k1 = 1 then some ((1 : Int32), X1) else none
def L_state (al : Nat → Nat → Bool) (N : Nat) (p1 : Int32) (p2 : Int32) (p3 : Int32) (p4 : Int32) (X : gM) : Option (Int32 × gM) := bind3 (X9_state al N p1 p2 p3 p4 X) fun k1 r1 X1 => if k1 = 0 then some ((0 : Int32), mset X1 81 0 0 r1) else if k1 = 1 then some ((1 : Int32), X1) else if k1 = 2 then some ((2 : Int32), X1) else none
def L_rests (al : Nat → Nat → Bool) (N : Nat) (p1 : Int32) (X : gM) : Option (Int32 × gM) := bind3 (X9_rests al N p1 X) fun k1 r1 X1 => if k1 = 0 then some ((0 : Int32), mset X1 81 0 0 r1) else if k1 = 1 then some ((1 : Int32), X1) else none
