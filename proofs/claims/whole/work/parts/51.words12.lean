/-! words -/
theorem il_L_leaf : gIL yL_leaf cL_leaf 8 [(0, 16, 19, 13), (0, 16, 23, 15), (0, 16, 27, 17)] 7 := ⟨(gTB_in 399 (by decide +kernel) rfl), (gTB_in 76 (by decide +kernel) rfl), (gTB_in 398 (by decide +kernel) rfl), by decide +kernel⟩
theorem ls_L_106 : Cond.methodLink RL 106 yL_leaf ∈ gTB := (gTB_in 397 (by decide +kernel) rfl)
theorem ix_X10_leaf : gI yX10_leaf cX10_leaf 7 (some .int) 5 := ⟨(gTB_in 1173 (by decide +kernel) rfl), (gTB_in 83 (by decide +kernel) rfl), by decide +kernel⟩
theorem iv_X10_leaf : gIV yX10_leaf := ⟨(gTB_in 1171 (by decide +kernel) rfl), (gTB_in 1172 (by decide +kernel) rfl)⟩
theorem lk_L_111 : gLk RL 111 yX10_leaf := Or.inl (gTB_in 1170 (by decide +kernel) rfl)
theorem ix_X10_thrown : gI yX10_thrown cX10_thrown 1 (some .int) 0 := ⟨(gTB_in 1169 (by decide +kernel) rfl), (gTB_in 83 (by decide +kernel) rfl), by decide +kernel⟩
theorem iv_X10_thrown : gIV yX10_thrown := ⟨(gTB_in 1167 (by decide +kernel) rfl), (gTB_in 1168 (by decide +kernel) rfl)⟩
theorem lk_L_112 : gLk RL 112 yX10_thrown := Or.inl (gTB_in 1166 (by decide +kernel) rfl)
theorem il_L_sheets : gIL yL_sheets cL_sheets 5 [(0, 10, 13, 13), (0, 10, 17, 15), (0, 10, 21, 17)] 4 := ⟨(gTB_in 603 (by decide +kernel) rfl), (gTB_in 76 (by decide +kernel) rfl), (gTB_in 602 (by decide +kernel) rfl), by decide +kernel⟩
theorem ls_L_115 : Cond.methodLink RL 115 yL_sheets ∈ gTB := (gTB_in 601 (by decide +kernel) rfl)
theorem ix_X10_sheets : gI yX10_sheets cX10_sheets 4 (some .int) 2 := ⟨(gTB_in 1184 (by decide +kernel) rfl), (gTB_in 83 (by decide +kernel) rfl), by decide +kernel⟩
theorem iv_X10_sheets : gIV yX10_sheets := ⟨(gTB_in 1182 (by decide +kernel) rfl), (gTB_in 1183 (by decide +kernel) rfl)⟩
theorem lk_L_118 : gLk RL 118 yX10_sheets := Or.inl (gTB_in 1181 (by decide +kernel) rfl)
theorem il_L_light : gIL yL_light cL_light 5 [(0, 7, 10, 13), (0, 7, 14, 15)] 4 := ⟨(gTB_in 611 (by decide +kernel) rfl), (gTB_in 76 (by decide +kernel) rfl), (gTB_in 610 (by decide +kernel) rfl), by decide +kernel⟩
theorem ls_L_119 : Cond.methodLink RL 119 yL_light ∈ gTB := (gTB_in 609 (by decide +kernel) rfl)
theorem ix_X10_light : gI yX10_light cX10_light 4 none 3 := ⟨(gTB_in 1188 (by decide +kernel) rfl), (gTB_in 83 (by decide +kernel) rfl), by decide +kernel⟩
theorem iv_X10_light : gIV yX10_light := ⟨(gTB_in 1186 (by decide +kernel) rfl), (gTB_in 1187 (by decide +kernel) rfl)⟩
theorem lk_L_122 : gLk RL 122 yX10_light := Or.inl (gTB_in 1185 (by decide +kernel) rfl)
theorem il_L_image : gIL yL_image cL_image 8 [(0, 16, 19, 13), (0, 16, 23, 15)] 7 := ⟨(gTB_in 634 (by decide +kernel) rfl), (gTB_in 76 (by decide +kernel) rfl), (gTB_in 633 (by decide +kernel) rfl), by decide +kernel⟩
theorem ls_L_123 : Cond.methodLink RL 123 yL_image ∈ gTB := (gTB_in 632 (by decide +kernel) rfl)
theorem ix_X10_image : gI yX10_image cX10_image 7 (some .int) 5 := ⟨(gTB_in 1192 (by decide +kernel) rfl), (gTB_in 83 (by decide +kernel) rfl), by decide +kernel⟩
theorem iv_X10_image : gIV yX10_image := ⟨(gTB_in 1190 (by decide +kernel) rfl), (gTB_in 1191 (by decide +kernel) rfl)⟩
theorem lk_L_125 : gLk RL 125 yX10_image := Or.inl (gTB_in 1189 (by decide +kernel) rfl)
theorem il_L_unmix : gIL yL_unmix cL_unmix 7 [(0, 14, 17, 13)] 6 := ⟨(gTB_in 658 (by decide +kernel) rfl), (gTB_in 76 (by decide +kernel) rfl), (gTB_in 657 (by decide +kernel) rfl), by decide +kernel⟩
theorem ls_L_126 : Cond.methodLink RL 126 yL_unmix ∈ gTB := (gTB_in 656 (by decide +kernel) rfl)
theorem ix_X10_unmix : gI yX10_unmix cX10_unmix 5 (some .int) 4 := ⟨(gTB_in 1211 (by decide +kernel) rfl), (gTB_in 83 (by decide +kernel) rfl), by decide +kernel⟩
theorem iv_X10_unmix : gIV yX10_unmix := ⟨(gTB_in 1209 (by decide +kernel) rfl), (gTB_in 1210 (by decide +kernel) rfl)⟩
theorem lk_L_129 : gLk RL 129 yX10_unmix := Or.inl (gTB_in 1208 (by decide +kernel) rfl)
theorem il_L_give : gIL yL_give cL_give 9 [(0, 18, 21, 13), (0, 18, 25, 15), (0, 18, 29, 17)] 8 := ⟨(gTB_in 665 (by decide +kernel) rfl), (gTB_in 76 (by decide +kernel) rfl), (gTB_in 664 (by decide +kernel) rfl), by decide +kernel⟩
theorem ls_L_130 : Cond.methodLink RL 130 yL_give ∈ gTB := (gTB_in 663 (by decide +kernel) rfl)
theorem ix_X10_give : gI yX10_give cX10_give 11 (some .int) 6 := ⟨(gTB_in 1215 (by decide +kernel) rfl), (gTB_in 83 (by decide +kernel) rfl), by decide +kernel⟩
theorem iv_X10_give : gIV yX10_give := ⟨(gTB_in 1213 (by decide +kernel) rfl), (gTB_in 1214 (by decide +kernel) rfl)⟩
theorem lk_L_133 : gLk RL 133 yX10_give := Or.inl (gTB_in 1212 (by decide +kernel) rfl)
theorem il_L_type : gIL yL_type cL_type 4 [(0, 9, 12, 15), (0, 9, 15, 17)] 3 := ⟨(gTB_in 691 (by decide +kernel) rfl), (gTB_in 76 (by decide +kernel) rfl), (gTB_in 690 (by decide +kernel) rfl), by decide +kernel⟩
theorem ls_L_134 : Cond.methodLink RL 134 yL_type ∈ gTB := (gTB_in 689 (by decide +kernel) rfl)
theorem ix_X10_type : gI yX10_type cX10_type 2 (some .int) 1 := ⟨(gTB_in 1223 (by decide +kernel) rfl), (gTB_in 83 (by decide +kernel) rfl), by decide +kernel⟩
theorem iv_X10_type : gIV yX10_type := ⟨(gTB_in 1221 (by decide +kernel) rfl), (gTB_in 1222 (by decide +kernel) rfl)⟩
theorem lk_L_137 : gLk RL 137 yX10_type := Or.inl (gTB_in 1220 (by decide +kernel) rfl)
theorem il_L_word : gIL yL_word cL_word 3 [(0, 8, 11, 17)] 2 := ⟨(gTB_in 698 (by decide +kernel) rfl), (gTB_in 76 (by decide +kernel) rfl), (gTB_in 697 (by decide +kernel) rfl), by decide +kernel⟩
theorem ls_L_138 : Cond.methodLink RL 138 yL_word ∈ gTB := (gTB_in 696 (by decide +kernel) rfl)
theorem ix_X10_word : gI yX10_word cX10_word 5 (some .int) 0 := ⟨(gTB_in 1227 (by decide +kernel) rfl), (gTB_in 83 (by decide +kernel) rfl), by decide +kernel⟩
theorem iv_X10_word : gIV yX10_word := ⟨(gTB_in 1225 (by decide +kernel) rfl), (gTB_in 1226 (by decide +kernel) rfl)⟩
theorem lk_L_141 : gLk RL 141 yX10_word := Or.inl (gTB_in 1224 (by decide +kernel) rfl)
theorem il_L_work : gIL yL_work cL_work 3 [(0, 8, 11, 17)] 2 := ⟨(gTB_in 743 (by decide +kernel) rfl), (gTB_in 76 (by decide +kernel) rfl), (gTB_in 742 (by decide +kernel) rfl), by decide +kernel⟩
theorem ls_L_142 : Cond.methodLink RL 142 yL_work ∈ gTB := (gTB_in 741 (by decide +kernel) rfl)
theorem ix_X10_work : gI yX10_work cX10_work 2 (some .int) 0 := ⟨(gTB_in 1231 (by decide +kernel) rfl), (gTB_in 83 (by decide +kernel) rfl), by decide +kernel⟩
theorem iv_X10_work : gIV yX10_work := ⟨(gTB_in 1229 (by decide +kernel) rfl), (gTB_in 1230 (by decide +kernel) rfl)⟩
theorem lk_L_144 : gLk RL 144 yX10_work := Or.inl (gTB_in 1228 (by decide +kernel) rfl)
theorem il_L_weight : gIL yL_weight cL_weight 6 [(0, 12, 15, 13), (0, 12, 19, 15)] 5 := ⟨(gTB_in 750 (by decide +kernel) rfl), (gTB_in 76 (by decide +kernel) rfl), (gTB_in 749 (by decide +kernel) rfl), by decide +kernel⟩
theorem ls_L_145 : Cond.methodLink RL 145 yL_weight ∈ gTB := (gTB_in 748 (by decide +kernel) rfl)
theorem ix_X10_weight : gI yX10_weight cX10_weight 4 (some .int) 3 := ⟨(gTB_in 1235 (by decide +kernel) rfl), (gTB_in 83 (by decide +kernel) rfl), by decide +kernel⟩
theorem iv_X10_weight : gIV yX10_weight := ⟨(gTB_in 1233 (by decide +kernel) rfl), (gTB_in 1234 (by decide +kernel) rfl)⟩
theorem lk_L_148 : gLk RL 148 yX10_weight := Or.inl (gTB_in 1232 (by decide +kernel) rfl)
theorem il_L_readings : gIL yL_readings cL_readings 6 [(0, 12, 15, 13), (0, 12, 19, 15)] 5 := ⟨(gTB_in 802 (by decide +kernel) rfl), (gTB_in 76 (by decide +kernel) rfl), (gTB_in 801 (by decide +kernel) rfl), by decide +kernel⟩
theorem ls_L_149 : Cond.methodLink RL 149 yL_readings ∈ gTB := (gTB_in 800 (by decide +kernel) rfl)
theorem ix_X10_readings : gI yX10_readings cX10_readings 4 (some .int) 3 := ⟨(gTB_in 1259 (by decide +kernel) rfl), (gTB_in 83 (by decide +kernel) rfl), by decide +kernel⟩
theorem iv_X10_readings : gIV yX10_readings := ⟨(gTB_in 1257 (by decide +kernel) rfl), (gTB_in 1258 (by decide +kernel) rfl)⟩
theorem lk_L_151 : gLk RL 151 yX10_readings := Or.inl (gTB_in 1256 (by decide +kernel) rfl)
theorem il_L_letter : gIL yL_letter cL_letter 7 [(0, 14, 17, 13), (0, 14, 21, 15)] 6 := ⟨(gTB_in 813 (by decide +kernel) rfl), (gTB_in 76 (by decide +kernel) rfl), (gTB_in 812 (by decide +kernel) rfl), by decide +kernel⟩
theorem ls_L_152 : Cond.methodLink RL 152 yL_letter ∈ gTB := (gTB_in 811 (by decide +kernel) rfl)
theorem ix_X10_letter : gI yX10_letter cX10_letter 5 (some .int) 4 := ⟨(gTB_in 1263 (by decide +kernel) rfl), (gTB_in 83 (by decide +kernel) rfl), by decide +kernel⟩
theorem iv_X10_letter : gIV yX10_letter := ⟨(gTB_in 1261 (by decide +kernel) rfl), (gTB_in 1262 (by decide +kernel) rfl)⟩
theorem lk_L_155 : gLk RL 155 yX10_letter := Or.inl (gTB_in 1260 (by decide +kernel) rfl)
theorem il_L_fact : gIL yL_fact cL_fact 7 [(0, 14, 17, 13), (0, 14, 21, 15), (0, 14, 25, 17)] 6 := ⟨(gTB_in 824 (by decide +kernel) rfl), (gTB_in 76 (by decide +kernel) rfl), (gTB_in 823 (by decide +kernel) rfl), by decide +kernel⟩
theorem ls_L_156 : Cond.methodLink RL 156 yL_fact ∈ gTB := (gTB_in 822 (by decide +kernel) rfl)
theorem ix_X10_fact : gI yX10_fact cX10_fact 7 (some .int) 4 := ⟨(gTB_in 1267 (by decide +kernel) rfl), (gTB_in 83 (by decide +kernel) rfl), by decide +kernel⟩
theorem iv_X10_fact : gIV yX10_fact := ⟨(gTB_in 1265 (by decide +kernel) rfl), (gTB_in 1266 (by decide +kernel) rfl)⟩
theorem lk_L_158 : gLk RL 158 yX10_fact := Or.inl (gTB_in 1264 (by decide +kernel) rfl)
theorem il_L_hold : gIL yL_hold cL_hold 5 [(0, 17, 20, 13)] 4 := ⟨(gTB_in 874 (by decide +kernel) rfl), (gTB_in 76 (by decide +kernel) rfl), (gTB_in 873 (by decide +kernel) rfl), by decide +kernel⟩
theorem ls_L_159 : Cond.methodLink RL 159 yL_hold ∈ gTB := (gTB_in 872 (by decide +kernel) rfl)
theorem ix_X10_hold : gI yX10_hold cX10_hold 4 (some .boolean) 2 := ⟨(gTB_in 1271 (by decide +kernel) rfl), (gTB_in 83 (by decide +kernel) rfl), by decide +kernel⟩
theorem iv_X10_hold : gIV yX10_hold := ⟨(gTB_in 1269 (by decide +kernel) rfl), (gTB_in 1270 (by decide +kernel) rfl)⟩
theorem lk_L_162 : gLk RL 162 yX10_hold := Or.inl (gTB_in 1268 (by decide +kernel) rfl)
theorem il_L_arrangements : gIL yL_arrangements cL_arrangements 5 [(0, 10, 13, 13)] 4 := ⟨(gTB_in 881 (by decide +kernel) rfl), (gTB_in 76 (by decide +kernel) rfl), (gTB_in 880 (by decide +kernel) rfl), by decide +kernel⟩
theorem ls_L_163 : Cond.methodLink RL 163 yL_arrangements ∈ gTB := (gTB_in 879 (by decide +kernel) rfl)
theorem ix_X10_arrangements : gI yX10_arrangements cX10_arrangements 3 (some .int) 2 := ⟨(gTB_in 1275 (by decide +kernel) rfl), (gTB_in 83 (by decide +kernel) rfl), by decide +kernel⟩
theorem iv_X10_arrangements : gIV yX10_arrangements := ⟨(gTB_in 1273 (by decide +kernel) rfl), (gTB_in 1274 (by decide +kernel) rfl)⟩
theorem lk_L_165 : gLk RL 165 yX10_arrangements := Or.inl (gTB_in 1272 (by decide +kernel) rfl)
theorem il_L_places : gIL yL_places cL_places 5 [(0, 10, 13, 13)] 4 := ⟨(gTB_in 888 (by decide +kernel) rfl), (gTB_in 76 (by decide +kernel) rfl), (gTB_in 887 (by decide +kernel) rfl), by decide +kernel⟩
theorem ls_L_166 : Cond.methodLink RL 166 yL_places ∈ gTB := (gTB_in 886 (by decide +kernel) rfl)
theorem ix_X10_places : gI yX10_places cX10_places 3 (some .int) 2 := ⟨(gTB_in 1295 (by decide +kernel) rfl), (gTB_in 83 (by decide +kernel) rfl), by decide +kernel⟩
theorem iv_X10_places : gIV yX10_places := ⟨(gTB_in 1293 (by decide +kernel) rfl), (gTB_in 1294 (by decide +kernel) rfl)⟩
theorem lk_L_168 : gLk RL 168 yX10_places := Or.inl (gTB_in 1292 (by decide +kernel) rfl)
theorem il_L_joined : gIL yL_joined cL_joined 5 [(0, 10, 13, 13), (0, 10, 17, 15)] 4 := ⟨(gTB_in 895 (by decide +kernel) rfl), (gTB_in 76 (by decide +kernel) rfl), (gTB_in 894 (by decide +kernel) rfl), by decide +kernel⟩
theorem ls_L_169 : Cond.methodLink RL 169 yL_joined ∈ gTB := (gTB_in 893 (by decide +kernel) rfl)
theorem ix_X10_joined : gI yX10_joined cX10_joined 3 (some .int) 2 := ⟨(gTB_in 1299 (by decide +kernel) rfl), (gTB_in 83 (by decide +kernel) rfl), by decide +kernel⟩
theorem iv_X10_joined : gIV yX10_joined := ⟨(gTB_in 1297 (by decide +kernel) rfl), (gTB_in 1298 (by decide +kernel) rfl)⟩
theorem lk_L_171 : gLk RL 171 yX10_joined := Or.inl (gTB_in 1296 (by decide +kernel) rfl)
theorem il_L_hand : gIL yL_hand cL_hand 8 [(0, 16, 19, 13), (0, 16, 23, 15)] 7 := ⟨(gTB_in 906 (by decide +kernel) rfl), (gTB_in 76 (by decide +kernel) rfl), (gTB_in 905 (by decide +kernel) rfl), by decide +kernel⟩
theorem ls_L_172 : Cond.methodLink RL 172 yL_hand ∈ gTB := (gTB_in 904 (by decide +kernel) rfl)
theorem ix_X10_hand : gI yX10_hand cX10_hand 8 (some .int) 5 := ⟨(gTB_in 1303 (by decide +kernel) rfl), (gTB_in 83 (by decide +kernel) rfl), by decide +kernel⟩
theorem iv_X10_hand : gIV yX10_hand := ⟨(gTB_in 1301 (by decide +kernel) rfl), (gTB_in 1302 (by decide +kernel) rfl)⟩
theorem lk_L_174 : gLk RL 174 yX10_hand := Or.inl (gTB_in 1300 (by decide +kernel) rfl)
theorem il_L_handOf : gIL yL_handOf cL_handOf 4 [(0, 9, 12, 13)] 3 := ⟨(gTB_in 928 (by decide +kernel) rfl), (gTB_in 76 (by decide +kernel) rfl), (gTB_in 927 (by decide +kernel) rfl), by decide +kernel⟩
theorem ls_L_175 : Cond.methodLink RL 175 yL_handOf ∈ gTB := (gTB_in 926 (by decide +kernel) rfl)
theorem ix_X10_handOf : gI yX10_handOf cX10_handOf 2 (some .int) 1 := ⟨(gTB_in 1315 (by decide +kernel) rfl), (gTB_in 83 (by decide +kernel) rfl), by decide +kernel⟩
theorem iv_X10_handOf : gIV yX10_handOf := ⟨(gTB_in 1313 (by decide +kernel) rfl), (gTB_in 1314 (by decide +kernel) rfl)⟩
theorem lk_L_177 : gLk RL 177 yX10_handOf := Or.inl (gTB_in 1312 (by decide +kernel) rfl)
theorem il_L_date : gIL yL_date cL_date 5 [(0, 10, 13, 13), (0, 10, 17, 15), (0, 10, 21, 17)] 4 := ⟨(gTB_in 935 (by decide +kernel) rfl), (gTB_in 76 (by decide +kernel) rfl), (gTB_in 934 (by decide +kernel) rfl), by decide +kernel⟩
theorem ls_L_178 : Cond.methodLink RL 178 yL_date ∈ gTB := (gTB_in 933 (by decide +kernel) rfl)
theorem ix_X10_date : gI yX10_date cX10_date 3 (some .int) 2 := ⟨(gTB_in 1319 (by decide +kernel) rfl), (gTB_in 83 (by decide +kernel) rfl), by decide +kernel⟩
theorem iv_X10_date : gIV yX10_date := ⟨(gTB_in 1317 (by decide +kernel) rfl), (gTB_in 1318 (by decide +kernel) rfl)⟩
theorem lk_L_180 : gLk RL 180 yX10_date := Or.inl (gTB_in 1316 (by decide +kernel) rfl)
theorem il_L_dates : gIL yL_dates cL_dates 4 [(0, 9, 12, 13)] 3 := ⟨(gTB_in 950 (by decide +kernel) rfl), (gTB_in 76 (by decide +kernel) rfl), (gTB_in 949 (by decide +kernel) rfl), by decide +kernel⟩
theorem ls_L_181 : Cond.methodLink RL 181 yL_dates ∈ gTB := (gTB_in 948 (by decide +kernel) rfl)
theorem ix_X10_dates : gI yX10_dates cX10_dates 2 (some .int) 1 := ⟨(gTB_in 1327 (by decide +kernel) rfl), (gTB_in 83 (by decide +kernel) rfl), by decide +kernel⟩
theorem iv_X10_dates : gIV yX10_dates := ⟨(gTB_in 1325 (by decide +kernel) rfl), (gTB_in 1326 (by decide +kernel) rfl)⟩
theorem lk_L_183 : gLk RL 183 yX10_dates := Or.inl (gTB_in 1324 (by decide +kernel) rfl)
theorem il_L_match : gIL yL_match cL_match 8 [(0, 16, 19, 13), (0, 16, 23, 15)] 7 := ⟨(gTB_in 957 (by decide +kernel) rfl), (gTB_in 76 (by decide +kernel) rfl), (gTB_in 956 (by decide +kernel) rfl), by decide +kernel⟩
theorem ls_L_184 : Cond.methodLink RL 184 yL_match ∈ gTB := (gTB_in 955 (by decide +kernel) rfl)
theorem ix_X10_match : gI yX10_match cX10_match 12 (some .int) 5 := ⟨(gTB_in 1331 (by decide +kernel) rfl), (gTB_in 83 (by decide +kernel) rfl), by decide +kernel⟩
theorem iv_X10_match : gIV yX10_match := ⟨(gTB_in 1329 (by decide +kernel) rfl), (gTB_in 1330 (by decide +kernel) rfl)⟩
theorem lk_L_187 : gLk RL 187 yX10_match := Or.inl (gTB_in 1328 (by decide +kernel) rfl)
theorem il_L_edition : gIL yL_edition cL_edition 5 [(0, 10, 13, 13)] 4 := ⟨(gTB_in 975 (by decide +kernel) rfl), (gTB_in 76 (by decide +kernel) rfl), (gTB_in 974 (by decide +kernel) rfl), by decide +kernel⟩
theorem ls_L_188 : Cond.methodLink RL 188 yL_edition ∈ gTB := (gTB_in 973 (by decide +kernel) rfl)
theorem ix_X10_edition : gI yX10_edition cX10_edition 4 (some .int) 2 := ⟨(gTB_in 1335 (by decide +kernel) rfl), (gTB_in 83 (by decide +kernel) rfl), by decide +kernel⟩
theorem iv_X10_edition : gIV yX10_edition := ⟨(gTB_in 1333 (by decide +kernel) rfl), (gTB_in 1334 (by decide +kernel) rfl)⟩
theorem lk_L_190 : gLk RL 190 yX10_edition := Or.inl (gTB_in 1332 (by decide +kernel) rfl)
theorem il_L_state : gIL yL_state cL_state 7 [(0, 14, 17, 13), (0, 14, 21, 15)] 6 := ⟨(gTB_in 982 (by decide +kernel) rfl), (gTB_in 76 (by decide +kernel) rfl), (gTB_in 981 (by decide +kernel) rfl), by decide +kernel⟩
theorem ls_L_191 : Cond.methodLink RL 191 yL_state ∈ gTB := (gTB_in 980 (by decide +kernel) rfl)
theorem ix_X10_state : gI yX10_state cX10_state 6 (some .int) 4 := ⟨(gTB_in 1339 (by decide +kernel) rfl), (gTB_in 83 (by decide +kernel) rfl), by decide +kernel⟩
theorem iv_X10_state : gIV yX10_state := ⟨(gTB_in 1337 (by decide +kernel) rfl), (gTB_in 1338 (by decide +kernel) rfl)⟩
theorem lk_L_193 : gLk RL 193 yX10_state := Or.inl (gTB_in 1336 (by decide +kernel) rfl)
theorem il_L_rests : gIL yL_rests cL_rests 4 [(0, 9, 12, 13)] 3 := ⟨(gTB_in 1005 (by decide +kernel) rfl), (gTB_in 76 (by decide +kernel) rfl), (gTB_in 1004 (by decide +kernel) rfl), by decide +kernel⟩
theorem ls_L_194 : Cond.methodLink RL 194 yL_rests ∈ gTB := (gTB_in 1003 (by decide +kernel) rfl)
theorem ix_X10_rests : gI yX10_rests cX10_rests 5 (some .int) 1 := ⟨(gTB_in 1350 (by decide +kernel) rfl), (gTB_in 83 (by decide +kernel) rfl), by decide +kernel⟩
theorem iv_X10_rests : gIV yX10_rests := ⟨(gTB_in 1348 (by decide +kernel) rfl), (gTB_in 1349 (by decide +kernel) rfl)⟩
theorem lk_L_196 : gLk RL 196 yX10_rests := Or.inl (gTB_in 1347 (by decide +kernel) rfl)
theorem ix_X9_worth : gI yX9_worth cX9_worth 9 (some .int) 0 := ⟨(gTB_in 322 (by decide +kernel) rfl), (gTB_in 77 (by decide +kernel) rfl), by decide +kernel⟩
theorem iv_X9_worth : gIV yX9_worth := ⟨(gTB_in 320 (by decide +kernel) rfl), (gTB_in 321 (by decide +kernel) rfl)⟩
theorem lk_L_197 : gLk RL 197 yX9_worth := Or.inl (gTB_in 319 (by decide +kernel) rfl)
theorem ix_X10_worth : gI yX10_worth cX10_worth 6 (some .int) 0 := ⟨(gTB_in 1354 (by decide +kernel) rfl), (gTB_in 83 (by decide +kernel) rfl), by decide +kernel⟩
theorem iv_X10_worth : gIV yX10_worth := ⟨(gTB_in 1352 (by decide +kernel) rfl), (gTB_in 1353 (by decide +kernel) rfl)⟩
theorem lk_L_200 : gLk RL 200 yX10_worth := Or.inl (gTB_in 1351 (by decide +kernel) rfl)
def K0 (al al' : Nat → Nat → Bool) (N : Nat) (nw : List (Nat × Nat)) (a1 a2 a3 a4 a5 a6 : Int32) (X : gM) : Option (Int32 × gM) := bind2 (L_leaf al N nw a1 a2 a3 a4 a5 X) fun k1 X1 => bind2 (X10_leaf al' N a1 a2 a3 a4 a5 X1) fun k2 X2 => bind2 (X10_thrown al' N X2) fun k3 X3 => if k3 = k1 then (if k1 = (0 : Int32) then (if X3 81 0 0 = k2 then some ((0 : Int32), X3) else none) else some ((0 : Int32), X3)) else none
def K1 (al al' : Nat → Nat → Bool) (N : Nat) (nw : List (Nat × Nat)) (a1 a2 a3 a4 a5 a6 : Int32) (X : gM) : Option (Int32 × gM) := (eqn nw []).bind fun _ => bind2 (L_sheets al N a1 a2 X) fun k1 X1 => bind2 (X10_sheets al' N a1 a2 X1) fun k2 X2 => bind2 (X10_thrown al' N X2) fun k3 X3 => if k3 = k1 then (if k1 = (0 : Int32) then (if X3 81 0 0 = k2 then some ((0 : Int32), X3) else none) else some ((0 : Int32), X3)) else none
def K2 (al al' : Nat → Nat → Bool) (N : Nat) (nw : List (Nat × Nat)) (a1 a2 a3 a4 a5 a6 : Int32) (X : gM) : Option (Int32 × gM) := (eqn nw []).bind fun _ => bind2 (L_light al N a1 a2 a3 X) fun k1 X1 => bind2 (X10_light al' N a1 a2 a3 X1) fun k2 X2 => bind2 (X10_thrown al' N X2) fun k3 X3 => if k3 = k1 then (some ((0 : Int32), X3)) else none
def K3 (al al' : Nat → Nat → Bool) (N : Nat) (nw : List (Nat × Nat)) (a1 a2 a3 a4 a5 a6 : Int32) (X : gM) : Option (Int32 × gM) := (eqn nw []).bind fun _ => bind2 (L_image al N a1 a2 a3 a4 a5 X) fun k1 X1 => bind2 (X10_image al' N a1 a2 a3 a4 a5 X1) fun k2 X2 => bind2 (X10_thrown al' N X2) fun k3 X3 => if k3 = k1 then (if k1 = (0 : Int32) then (if X3 81 0 0 = k2 then some ((0 : Int32), X3) else none) else some ((0 : Int32), X3)) else none
def K4 (al al' : Nat → Nat → Bool) (N : Nat) (nw : List (Nat × Nat)) (a1 a2 a3 a4 a5 a6 : Int32) (X : gM) : Option (Int32 × gM) := (eqn nw []).bind fun _ => bind2 (L_unmix al N a1 a2 a3 (if a4 = (0 : Int32) then (0 : Int32) else (1 : Int32)) X) fun k1 X1 => bind2 (X10_unmix al' N a1 a2 a3 (if a4 = (0 : Int32) then (0 : Int32) else (1 : Int32)) X1) fun k2 X2 => bind2 (X10_thrown al' N X2) fun k3 X3 => if k3 = k1 then (if k1 = (0 : Int32) then (if X3 81 0 0 = k2 then some ((0 : Int32), X3) else none) else some ((0 : Int32), X3)) else none
def K5 (al al' : Nat → Nat → Bool) (N : Nat) (nw : List (Nat × Nat)) (a1 a2 a3 a4 a5 a6 : Int32) (X : gM) : Option (Int32 × gM) := (eqn nw []).bind fun _ => bind2 (L_give al N a1 a2 a3 a4 a5 a6 X) fun k1 X1 => bind2 (X10_give al' N a1 a2 a3 a4 a5 a6 X1) fun k2 X2 => bind2 (X10_thrown al' N X2) fun k3 X3 => if k3 = k1 then (if k1 = (0 : Int32) then (if X3 81 0 0 = k2 then some ((0 : Int32), X3) else none) else some ((0 : Int32), X3)) else none
def K6 (al al' : Nat → Nat → Bool) (N : Nat) (nw : List (Nat × Nat)) (a1 a2 a3 a4 a5 a6 : Int32) (X : gM) : Option (Int32 × gM) := (eqn nw []).bind fun _ => bind2 (L_type al N a1 X) fun k1 X1 => bind2 (X10_type al' N a1 X1) fun k2 X2 => bind2 (X10_thrown al' N X2) fun k3 X3 => if k3 = k1 then (if k1 = (0 : Int32) then (if X3 81 0 0 = k2 then some ((0 : Int32), X3) else none) else some ((0 : Int32), X3)) else none
def K7 (al al' : Nat → Nat → Bool) (N : Nat) (nw : List (Nat × Nat)) (a1 a2 a3 a4 a5 a6 : Int32) (X : gM) : Option (Int32 × gM) := bind2 (L_word al N nw X) fun k1 X1 => bind2 (X10_word al' N X1) fun k2 X2 => bind2 (X10_thrown al' N X2) fun k3 X3 => if k3 = k1 then (if k1 = (0 : Int32) then (if X3 81 0 0 = k2 then some ((0 : Int32), X3) else none) else some ((0 : Int32), X3)) else none
def K8 (al al' : Nat → Nat → Bool) (N : Nat) (nw : List (Nat × Nat)) (a1 a2 a3 a4 a5 a6 : Int32) (X : gM) : Option (Int32 × gM) := bind2 (L_work al N nw X) fun k1 X1 => bind2 (X10_work al' N X1) fun k2 X2 => bind2 (X10_thrown al' N X2) fun k3 X3 => if k3 = k1 then (if k1 = (0 : Int32) then (if X3 81 0 0 = k2 then some ((0 : Int32), X3) else none) else some ((0 : Int32), X3)) else none
def K9 (al al' : Nat → Nat → Bool) (N : Nat) (nw : List (Nat × Nat)) (a1 a2 a3 a4 a5 a6 : Int32) (X : gM) : Option (Int32 × gM) := (eqn nw []).bind fun _ => bind2 (L_weight al N a1 a2 a3 X) fun k1 X1 => bind2 (X10_weight al' N a1 a2 a3 X1) fun k2 X2 => bind2 (X10_thrown al' N X2) fun k3 X3 => if k3 = k1 then (if k1 = (0 : Int32) then (if X3 81 0 0 = k2 then some ((0 : Int32), X3) else none) else some ((0 : Int32), X3)) else none
def K10 (al al' : Nat → Nat → Bool) (N : Nat) (nw : List (Nat × Nat)) (a1 a2 a3 a4 a5 a6 : Int32) (X : gM) : Option (Int32 × gM) := (eqn nw []).bind fun _ => bind2 (L_readings al N a1 a2 a3 X) fun k1 X1 => bind2 (X10_readings al' N a1 a2 a3 X1) fun k2 X2 => bind2 (X10_thrown al' N X2) fun k3 X3 => if k3 = k1 then (if k1 = (0 : Int32) then (if X3 81 0 0 = k2 then some ((0 : Int32), X3) else none) else some ((0 : Int32), X3)) else none
def K11 (al al' : Nat → Nat → Bool) (N : Nat) (nw : List (Nat × Nat)) (a1 a2 a3 a4 a5 a6 : Int32) (X : gM) : Option (Int32 × gM) := (eqn nw []).bind fun _ => bind2 (L_letter al N a1 a2 a3 a4 X) fun k1 X1 => bind2 (X10_letter al' N a1 a2 a3 a4 X1) fun k2 X2 => bind2 (X10_thrown al' N X2) fun k3 X3 => if k3 = k1 then (if k1 = (0 : Int32) then (if X3 81 0 0 = k2 then some ((0 : Int32), X3) else none) else some ((0 : Int32), X3)) else none
def K12 (al al' : Nat → Nat → Bool) (N : Nat) (nw : List (Nat × Nat)) (a1 a2 a3 a4 a5 a6 : Int32) (X : gM) : Option (Int32 × gM) := bind2 (L_fact al N nw a1 a2 a3 (if a4 = (0 : Int32) then (0 : Int32) else (1 : Int32)) X) fun k1 X1 => bind2 (X10_fact al' N a1 a2 a3 (if a4 = (0 : Int32) then (0 : Int32) else (1 : Int32)) X1) fun k2 X2 => bind2 (X10_thrown al' N X2) fun k3 X3 => if k3 = k1 then (if k1 = (0 : Int32) then (if X3 81 0 0 = k2 then some ((0 : Int32), X3) else none) else some ((0 : Int32), X3)) else none
def K13 (al al' : Nat → Nat → Bool) (N : Nat) (nw : List (Nat × Nat)) (a1 a2 a3 a4 a5 a6 : Int32) (X : gM) : Option (Int32 × gM) := (eqn nw []).bind fun _ => bind2 (L_hold al N a1 (if a2 = (0 : Int32) then (0 : Int32) else (1 : Int32)) X) fun k1 X1 => bind2 (X10_hold al' N a1 (if a2 = (0 : Int32) then (0 : Int32) else (1 : Int32)) X1) fun k2 X2 => bind2 (X10_thrown al' N X2) fun k3 X3 => if k3 = k1 then (if k1 = (0 : Int32) then (if X3 81 0 0 = (if k2 = (0 : Int32) then (0 : Int32) else (1 : Int32)) then some ((0 : Int32), X3) else none) else some ((0 : Int32), X3)) else none
def K14 (al al' : Nat → Nat → Bool) (N : Nat) (nw : List (Nat × Nat)) (a1 a2 a3 a4 a5 a6 : Int32) (X : gM) : Option (Int32 × gM) := (eqn nw []).bind fun _ => bind2 (L_arrangements al N a1 (if a2 = (0 : Int32) then (0 : Int32) else (1 : Int32)) X) fun k1 X1 => bind2 (X10_arrangements al' N a1 (if a2 = (0 : Int32) then (0 : Int32) else (1 : Int32)) X1) fun k2 X2 => bind2 (X10_thrown al' N X2) fun k3 X3 => if k3 = k1 then (if k1 = (0 : Int32) then (if X3 81 0 0 = k2 then some ((0 : Int32), X3) else none) else some ((0 : Int32), X3)) else none
def K15 (al al' : Nat → Nat → Bool) (N : Nat) (nw : List (Nat × Nat)) (a1 a2 a3 a4 a5 a6 : Int32) (X : gM) : Option (Int32 × gM) := (eqn nw []).bind fun _ => bind2 (L_places al N a1 (if a2 = (0 : Int32) then (0 : Int32) else (1 : Int32)) X) fun k1 X1 => bind2 (X10_places al' N a1 (if a2 = (0 : Int32) then (0 : Int32) else (1 : Int32)) X1) fun k2 X2 => bind2 (X10_thrown al' N X2) fun k3 X3 => if k3 = k1 then (if k1 = (0 : Int32) then (if X3 81 0 0 = k2 then some ((0 : Int32), X3) else none) else some ((0 : Int32), X3)) else none
def K16 (al al' : Nat → Nat → Bool) (N : Nat) (nw : List (Nat × Nat)) (a1 a2 a3 a4 a5 a6 : Int32) (X : gM) : Option (Int32 × gM) := (eqn nw []).bind fun _ => bind2 (L_joined al N a1 a2 X) fun k1 X1 => bind2 (X10_joined al' N a1 a2 X1) fun k2 X2 => bind2 (X10_thrown al' N X2) fun k3 X3 => if k3 = k1 then (if k1 = (0 : Int32) then (if X3 81 0 0 = k2 then some ((0 : Int32), X3) else none) else some ((0 : Int32), X3)) else none
def K17 (al al' : Nat → Nat → Bool) (N : Nat) (nw : List (Nat × Nat)) (a1 a2 a3 a4 a5 a6 : Int32) (X : gM) : Option (Int32 × gM) := (eqn nw []).bind fun _ => bind2 (L_hand al N a1 a2 a3 a4 a5 X) fun k1 X1 => bind2 (X10_hand al' N a1 a2 a3 a4 a5 X1) fun k2 X2 => bind2 (X10_thrown al' N X2) fun k3 X3 => if k3 = k1 then (if k1 = (0 : Int32) then (if X3 81 0 0 = k2 then some ((0 : Int32), X3) else none) else some ((0 : Int32), X3)) else none
def K18 (al al' : Nat → Nat → Bool) (N : Nat) (nw : List (Nat × Nat)) (a1 a2 a3 a4 a5 a6 : Int32) (X : gM) : Option (Int32 × gM) := (eqn nw []).bind fun _ => bind2 (L_handOf al N a1 X) fun k1 X1 => bind2 (X10_handOf al' N a1 X1) fun k2 X2 => bind2 (X10_thrown al' N X2) fun k3 X3 => if k3 = k1 then (if k1 = (0 : Int32) then (if X3 81 0 0 = k2 then some ((0 : Int32), X3) else none) else some ((0 : Int32), X3)) else none
def K19 (al al' : Nat → Nat → Bool) (N : Nat) (nw : List (Nat × Nat)) (a1 a2 a3 a4 a5 a6 : Int32) (X : gM) : Option (Int32 × gM) := (eqn nw []).bind fun _ => bind2 (L_date al N a1 a2 X) fun k1 X1 => bind2 (X10_date al' N a1 a2 X1) fun k2 X2 => bind2 (X10_thrown al' N X2) fun k3 X3 => if k3 = k1 then (if k1 = (0 : Int32) then (if X3 81 0 0 = k2 then some ((0 : Int32), X3) else none) else some ((0 : Int32), X3)) else none
def K20 (al al' : Nat → Nat → Bool) (N : Nat) (nw : List (Nat × Nat)) (a1 a2 a3 a4 a5 a6 : Int32) (X : gM) : Option (Int32 × gM) := (eqn nw []).bind fun _ => bind2 (L_dates al N a1 X) fun k1 X1 => bind2 (X10_dates al' N a1 X1) fun k2 X2 => bind2 (X10_thrown al' N X2) fun k3 X3 => if k3 = k1 then (if k1 = (0 : Int32) then (if X3 81 0 0 = k2 then some ((0 : Int32), X3) else none) else some ((0 : Int32), X3)) else none
def K21 (al al' : Nat → Nat → Bool) (N : Nat) (nw : List (Nat × Nat)) (a1 a2 a3 a4 a5 a6 : Int32) (X : gM) : Option (Int32 × gM) := (eqn nw []).bind fun _ => bind2 (L_match al N a1 a2 a3 a4 (if a5 = (0 : Int32) then (0 : Int32) else (1 : Int32)) X) fun k1 X1 => bind2 (X10_match al' N a1 a2 a3 a4 (if a5 = (0 : Int32) then (0 : Int32) else (1 : Int32)) X1) fun k2 X2 => bind2 (X10_thrown al' N X2) fun k3 X3 => if k3 = k1 then (if k1 = (0 : Int32) then (if X3 81 0 0 = k2 then some ((0 : Int32), X3) else none) else some ((0 : Int32), X3)) else none
def K22 (al al' : Nat → Nat → Bool) (N : Nat) (nw : List (Nat × Nat)) (a1 a2 a3 a4 a5 a6 : Int32) (X : gM) : Option (Int32 × gM) := (eqn nw []).bind fun _ => bind2 (L_edition al N a1 a2 X) fun k1 X1 => bind2 (X10_edition al' N a1 a2 X1) fun k2 X2 => bind2 (X10_thrown al' N X2) fun k3 X3 => if k3 = k1 then (if k1 = (0 : Int32) then (if X3 81 0 0 = k2 then some ((0 : Int32), X3) else none) else some ((0 : Int32), X3)) else none
def K23 (al al' : Nat → Nat → Bool) (N : Nat) (nw : List (Nat × Nat)) (a1 a2 a3 a4 a5 a6 : Int32) (X : gM) : Option (Int32 × gM) := (eqn nw []).bind fun _ => bind2 (L_state al N a1 a2 a3 a4 X) fun k1 X1 => bind2 (X10_state al' N a1 a2 a3 a4 X1) fun k2 X2 => bind2 (X10_thrown al' N X2) fun k3 X3 => if k3 = k1 then (if k1 = (0 : Int32) then (if X3 81 0 0 = k2 then some ((0 : Int32), X3) else none) else some ((0 : Int32), X3)) else none
def K24 (al al' : Nat → Nat → Bool) (N : Nat) (nw : List (Nat × Nat)) (a1 a2 a3 a4 a5 a6 : Int32) (X : gM) : Option (Int32 × gM) := (eqn nw []).bind fun _ => bind2 (L_rests al N a1 X) fun k1 X1 => bind2 (X10_rests al' N a1 X1) fun k2 X2 => bind2 (X10_thrown al' N X2) fun k3 X3 => if k3 = k1 then (if k1 = (0 : Int32) then (if X3 81 0 0 = k2 then some ((0 : Int32), X3) else none) else some ((0 : Int32), X3)) else none
def K25 (al al' : Nat → Nat → Bool) (N : Nat) (nw : List (Nat × Nat)) (a1 a2 a3 a4 a5 a6 : Int32) (X : gM) : Option (Int32 × gM) := (eqn nw []).bind fun _ => bind2 (X9_worth al N X) fun k1 X1 => bind2 (X10_worth al N X1) fun k2 X2 => if k1 = k2 then some ((0 : Int32), X2) else none
