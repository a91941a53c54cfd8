theorem kB_m2 : (Int8.ofInt (-2)).toInt32 = (-2 : Int32) := by decide
theorem kB_6 : (Int8.ofInt (6)).toInt32 = (6 : Int32) := by decide
theorem kB_7 : (Int8.ofInt (7)).toInt32 = (7 : Int32) := by decide
theorem kB_8 : (Int8.ofInt (8)).toInt32 = (8 : Int32) := by decide
theorem kB_9 : (Int8.ofInt (9)).toInt32 = (9 : Int32) := by decide
theorem kB_10 : (Int8.ofInt (10)).toInt32 = (10 : Int32) := by decide
theorem kB_11 : (Int8.ofInt (11)).toInt32 = (11 : Int32) := by decide
theorem kB_12 : (Int8.ofInt (12)).toInt32 = (12 : Int32) := by decide
theorem kB_13 : (Int8.ofInt (13)).toInt32 = (13 : Int32) := by decide
theorem kB_14 : (Int8.ofInt (14)).toInt32 = (14 : Int32) := by decide
theorem kB_15 : (Int8.ofInt (15)).toInt32 = (15 : Int32) := by decide
theorem kB_16 : (Int8.ofInt (16)).toInt32 = (16 : Int32) := by decide
theorem kB_17 : (Int8.ofInt (17)).toInt32 = (17 : Int32) := by decide
theorem kB_19 : (Int8.ofInt (19)).toInt32 = (19 : Int32) := by decide
theorem kB_20 : (Int8.ofInt (20)).toInt32 = (20 : Int32) := by decide
theorem kB_21 : (Int8.ofInt (21)).toInt32 = (21 : Int32) := by decide
theorem kB_22 : (Int8.ofInt (22)).toInt32 = (22 : Int32) := by decide
theorem kB_23 : (Int8.ofInt (23)).toInt32 = (23 : Int32) := by decide
theorem kB_24 : (Int8.ofInt (24)).toInt32 = (24 : Int32) := by decide
theorem kB_25 : (Int8.ofInt (25)).toInt32 = (25 : Int32) := by decide
theorem kB_26 : (Int8.ofInt (26)).toInt32 = (26 : Int32) := by decide
theorem kB_27 : (Int8.ofInt (27)).toInt32 = (27 : Int32) := by decide
theorem kB_28 : (Int8.ofInt (28)).toInt32 = (28 : Int32) := by decide
theorem kB_29 : (Int8.ofInt (29)).toInt32 = (29 : Int32) := by decide
theorem kB_30 : (Int8.ofInt (30)).toInt32 = (30 : Int32) := by decide
theorem kB_31 : (Int8.ofInt (31)).toInt32 = (31 : Int32) := by decide
theorem kB_32 : (Int8.ofInt (32)).toInt32 = (32 : Int32) := by decide
theorem kB_33 : (Int8.ofInt (33)).toInt32 = (33 : Int32) := by decide
theorem kB_34 : (Int8.ofInt (34)).toInt32 = (34 : Int32) := by decide
theorem kB_35 : (Int8.ofInt (35)).toInt32 = (35 : Int32) := by decide
theorem kB_36 : (Int8.ofInt (36)).toInt32 = (36 : Int32) := by decide
theorem kB_37 : (Int8.ofInt (37)).toInt32 = (37 : Int32) := by decide
theorem kB_38 : (Int8.ofInt (38)).toInt32 = (38 : Int32) := by decide
theorem kB_40 : (Int8.ofInt (40)).toInt32 = (40 : Int32) := by decide
theorem kB_41 : (Int8.ofInt (41)).toInt32 = (41 : Int32) := by decide
theorem kB_42 : (Int8.ofInt (42)).toInt32 = (42 : Int32) := by decide
theorem kB_43 : (Int8.ofInt (43)).toInt32 = (43 : Int32) := by decide
theorem kB_45 : (Int8.ofInt (45)).toInt32 = (45 : Int32) := by decide
theorem kB_48 : (Int8.ofInt (48)).toInt32 = (48 : Int32) := by decide
theorem kB_57 : (Int8.ofInt (57)).toInt32 = (57 : Int32) := by decide
theorem kB_59 : (Int8.ofInt (59)).toInt32 = (59 : Int32) := by decide
theorem kB_60 : (Int8.ofInt (60)).toInt32 = (60 : Int32) := by decide
theorem kB_61 : (Int8.ofInt (61)).toInt32 = (61 : Int32) := by decide
theorem kB_97 : (Int8.ofInt (97)).toInt32 = (97 : Int32) := by decide
theorem kB_100 : (Int8.ofInt (100)).toInt32 = (100 : Int32) := by decide
theorem kB_122 : (Int8.ofInt (122)).toInt32 = (122 : Int32) := by decide
theorem kB_127 : (Int8.ofInt (127)).toInt32 = (127 : Int32) := by decide
theorem kI_m8 : Int32.ofInt (-8) = (-8 : Int32) := by decide
theorem kI_m1 : Int32.ofInt (-1) = (-1 : Int32) := by decide
theorem kI_0 : Int32.ofInt (0) = (0 : Int32) := by decide
theorem kI_1 : Int32.ofInt (1) = (1 : Int32) := by decide
theorem kI_2 : Int32.ofInt (2) = (2 : Int32) := by decide
theorem kI_3 : Int32.ofInt (3) = (3 : Int32) := by decide
theorem kI_4 : Int32.ofInt (4) = (4 : Int32) := by decide
theorem kI_5 : Int32.ofInt (5) = (5 : Int32) := by decide
theorem kS_150 : (Int16.ofInt (150)).toInt32 = (150 : Int32) := by decide
theorem kS_255 : (Int16.ofInt (255)).toInt32 = (255 : Int32) := by decide
theorem kS_400 : (Int16.ofInt (400)).toInt32 = (400 : Int32) := by decide
theorem kS_420 : (Int16.ofInt (420)).toInt32 = (420 : Int32) := by decide
theorem kS_1000 : (Int16.ofInt (1000)).toInt32 = (1000 : Int32) := by decide
theorem kS_2000 : (Int16.ofInt (2000)).toInt32 = (2000 : Int32) := by decide
theorem kS_10000 : (Int16.ofInt (10000)).toInt32 = (10000 : Int32) := by decide
theorem kS_12345 : (Int16.ofInt (12345)).toInt32 = (12345 : Int32) := by decide
/-! words of the tables, by their places -/
theorem ww1 : (Cond.initialized "SkyTrial") ∈ gTBL := gTBL_in 1 (by decide +kernel) rfl
theorem ww2 : (Cond.initialized "SkyTrial$Tape") ∈ gTBL := gTBL_in 2 (by decide +kernel) rfl
theorem ww3 : (Cond.initialized "SkyTrial$TextReader") ∈ gTBL := gTBL_in 3 (by decide +kernel) rfl
theorem ww4 : (Cond.initialized "SkyTrial$Tokens") ∈ gTBL := gTBL_in 4 (by decide +kernel) rfl
theorem ww9 : (Cond.initialized "SkyTrial$Told") ∈ gTBL := gTBL_in 9 (by decide +kernel) rfl
theorem ww10 : (Cond.initialized "SkyTrial$People") ∈ gTBL := gTBL_in 10 (by decide +kernel) rfl
theorem ww11 : (Cond.initialized "SkyTrial$Sky") ∈ gTBL := gTBL_in 11 (by decide +kernel) rfl
theorem ww12 : (Cond.initialized "SkyTrial$Reckoner") ∈ gTBL := gTBL_in 12 (by decide +kernel) rfl
theorem ww13 : (Cond.initialized "SkyTrial$Facts") ∈ gTBL := gTBL_in 13 (by decide +kernel) rfl
theorem ww14 : (Cond.initialized "SkyTrial$Chance") ∈ gTBL := gTBL_in 14 (by decide +kernel) rfl
theorem ww15 : (Cond.initialized "SkyTrial$Table") ∈ gTBL := gTBL_in 15 (by decide +kernel) rfl
theorem ww16 : (Cond.initialized "SkyTrialModel") ∈ gTBL := gTBL_in 16 (by decide +kernel) rfl
theorem ww17 : (Cond.initialized "java/lang/Math") ∈ gTBL := gTBL_in 17 (by decide +kernel) rfl
theorem ww18 : (Cond.initialized "java/lang/System") ∈ gTBL := gTBL_in 18 (by decide +kernel) rfl
theorem ww19 : (Cond.initialized "java/lang/Integer") ∈ gTBL := gTBL_in 19 (by decide +kernel) rfl
theorem ww20 : (Cond.initialized "java/lang/Long") ∈ gTBL := gTBL_in 20 (by decide +kernel) rfl
theorem ww35 : (Cond.fieldLink "SkyTrial$Tape" (11 : Nat) "SkyTrial$Tape" "bytes" "[I") ∈ gTBL := gTBL_in 35 (by decide +kernel) rfl
theorem ww36 : (Cond.fieldLink "SkyTrial$Tape" (15 : Nat) "SkyTrial$Tape" "length" "I") ∈ gTBL := gTBL_in 36 (by decide +kernel) rfl
theorem ww37 : (Cond.fieldLink "SkyTrial" (60 : Nat) "SkyTrial$Tape" "length" "I") ∈ gTBL := gTBL_in 37 (by decide +kernel) rfl
theorem ww105 : (Cond.methodLink "SkyTrial$Tokens" (41 : Nat) ({ cls := "SkyTrial$Tokens", name := "withLetter", desc := "(JI)J" } : Jvm.MethodName)) ∈ gTBL := gTBL_in 105 (by decide +kernel) rfl
theorem ww106 : (Cond.static ({ cls := "SkyTrial$Tokens", name := "withLetter", desc := "(JI)J" } : Jvm.MethodName)) ∈ gTBL := gTBL_in 106 (by decide +kernel) rfl
theorem ww107 : (Cond.code ({ cls := "SkyTrial$Tokens", name := "withLetter", desc := "(JI)J" } : Jvm.MethodName) prog_10_method_7_code (3 : Nat) (Option.some Jvm.ClassFile.FieldType.long)) ∈ gTBL := gTBL_in 107 (by decide +kernel) rfl
theorem ww108 : (Cond.constantLong "SkyTrial$Tokens" (86 : Nat) (27 : Int64)) ∈ gTBL := gTBL_in 108 (by decide +kernel) rfl
theorem ww109 : (Cond.fieldLink "SkyTrial$Tokens" (9 : Nat) "SkyTrial$Tokens" "kinds" "[I") ∈ gTBL := gTBL_in 109 (by decide +kernel) rfl
theorem ww110 : (Cond.fieldLink "SkyTrial$TextReader" (94 : Nat) "SkyTrial$Tokens" "kinds" "[I") ∈ gTBL := gTBL_in 110 (by decide +kernel) rfl
theorem ww111 : (Cond.fieldLink "SkyTrial$Tokens" (15 : Nat) "SkyTrial$Tokens" "starts" "[I") ∈ gTBL := gTBL_in 111 (by decide +kernel) rfl
theorem ww112 : (Cond.fieldLink "SkyTrial$TextReader" (100 : Nat) "SkyTrial$Tokens" "starts" "[I") ∈ gTBL := gTBL_in 112 (by decide +kernel) rfl
theorem ww113 : (Cond.fieldLink "SkyTrial$Tokens" (18 : Nat) "SkyTrial$Tokens" "values" "[J") ∈ gTBL := gTBL_in 113 (by decide +kernel) rfl
theorem ww114 : (Cond.fieldLink "SkyTrial$TextReader" (97 : Nat) "SkyTrial$Tokens" "values" "[J") ∈ gTBL := gTBL_in 114 (by decide +kernel) rfl
theorem ww115 : (Cond.fieldLink "SkyTrial$Tokens" (22 : Nat) "SkyTrial$Tokens" "size" "I") ∈ gTBL := gTBL_in 115 (by decide +kernel) rfl
theorem ww116 : (Cond.fieldLink "SkyTrial$Tokens" (26 : Nat) "SkyTrial$Tokens" "words" "[J") ∈ gTBL := gTBL_in 116 (by decide +kernel) rfl
theorem ww136 : (Cond.fieldLink "SkyTrial$Told" (9 : Nat) "SkyTrial$Told" "signs" "I") ∈ gTBL := gTBL_in 136 (by decide +kernel) rfl
theorem ww137 : (Cond.fieldLink "SkyTrial$Sky" (49 : Nat) "SkyTrial$Told" "signs" "I") ∈ gTBL := gTBL_in 137 (by decide +kernel) rfl
theorem ww138 : (Cond.fieldLink "SkyTrial$TextReader" (103 : Nat) "SkyTrial$Told" "signs" "I") ∈ gTBL := gTBL_in 138 (by decide +kernel) rfl
theorem ww139 : (Cond.fieldLink "SkyTrial" (243 : Nat) "SkyTrial$Told" "signs" "I") ∈ gTBL := gTBL_in 139 (by decide +kernel) rfl
theorem ww140 : (Cond.fieldLink "SkyTrial$Told" (15 : Nat) "SkyTrial$Told" "says" "I") ∈ gTBL := gTBL_in 140 (by decide +kernel) rfl
theorem ww141 : (Cond.fieldLink "SkyTrial$Sky" (56 : Nat) "SkyTrial$Told" "says" "I") ∈ gTBL := gTBL_in 141 (by decide +kernel) rfl
theorem ww142 : (Cond.fieldLink "SkyTrial$TextReader" (126 : Nat) "SkyTrial$Told" "says" "I") ∈ gTBL := gTBL_in 142 (by decide +kernel) rfl
theorem ww143 : (Cond.fieldLink "SkyTrial" (162 : Nat) "SkyTrial$Told" "says" "I") ∈ gTBL := gTBL_in 143 (by decide +kernel) rfl
theorem ww144 : (Cond.fieldLink "SkyTrial$Told" (18 : Nat) "SkyTrial$Told" "books" "I") ∈ gTBL := gTBL_in 144 (by decide +kernel) rfl
theorem ww145 : (Cond.fieldLink "SkyTrial$TextReader" (139 : Nat) "SkyTrial$Told" "books" "I") ∈ gTBL := gTBL_in 145 (by decide +kernel) rfl
theorem ww146 : (Cond.fieldLink "SkyTrial" (291 : Nat) "SkyTrial$Told" "books" "I") ∈ gTBL := gTBL_in 146 (by decide +kernel) rfl
theorem ww147 : (Cond.fieldLink "SkyTrial$Told" (21 : Nat) "SkyTrial$Told" "whens" "I") ∈ gTBL := gTBL_in 147 (by decide +kernel) rfl
theorem ww148 : (Cond.fieldLink "SkyTrial$TextReader" (145 : Nat) "SkyTrial$Told" "whens" "I") ∈ gTBL := gTBL_in 148 (by decide +kernel) rfl
theorem ww149 : (Cond.fieldLink "SkyTrial" (297 : Nat) "SkyTrial$Told" "whens" "I") ∈ gTBL := gTBL_in 149 (by decide +kernel) rfl
theorem ww150 : (Cond.fieldLink "SkyTrial$Told" (24 : Nat) "SkyTrial$Told" "laws" "I") ∈ gTBL := gTBL_in 150 (by decide +kernel) rfl
theorem ww151 : (Cond.fieldLink "SkyTrial$TextReader" (159 : Nat) "SkyTrial$Told" "laws" "I") ∈ gTBL := gTBL_in 151 (by decide +kernel) rfl
theorem ww152 : (Cond.fieldLink "SkyTrial" (294 : Nat) "SkyTrial$Told" "laws" "I") ∈ gTBL := gTBL_in 152 (by decide +kernel) rfl
theorem ww153 : (Cond.fieldLink "SkyTrial$Told" (27 : Nat) "SkyTrial$Told" "sorts" "[I") ∈ gTBL := gTBL_in 153 (by decide +kernel) rfl
theorem ww154 : (Cond.fieldLink "SkyTrial$TextReader" (133 : Nat) "SkyTrial$Told" "sorts" "[I") ∈ gTBL := gTBL_in 154 (by decide +kernel) rfl
theorem ww155 : (Cond.fieldLink "SkyTrial$Sky" (83 : Nat) "SkyTrial$Told" "sorts" "[I") ∈ gTBL := gTBL_in 155 (by decide +kernel) rfl
theorem ww156 : (Cond.fieldLink "SkyTrial" (138 : Nat) "SkyTrial$Told" "sorts" "[I") ∈ gTBL := gTBL_in 156 (by decide +kernel) rfl
theorem ww157 : (Cond.fieldLink "SkyTrial$Told" (31 : Nat) "SkyTrial$Told" "whenBooks" "[I") ∈ gTBL := gTBL_in 157 (by decide +kernel) rfl
theorem ww158 : (Cond.fieldLink "SkyTrial$Told" (34 : Nat) "SkyTrial$Told" "whenSigns" "[I") ∈ gTBL := gTBL_in 158 (by decide +kernel) rfl
theorem ww159 : (Cond.fieldLink "SkyTrial$Told" (37 : Nat) "SkyTrial$Told" "whenSays" "[I") ∈ gTBL := gTBL_in 159 (by decide +kernel) rfl
theorem ww160 : (Cond.fieldLink "SkyTrial$Told" (40 : Nat) "SkyTrial$Told" "formulaStarts" "[I") ∈ gTBL := gTBL_in 160 (by decide +kernel) rfl
theorem ww161 : (Cond.fieldLink "SkyTrial$Reckoner" (40 : Nat) "SkyTrial$Told" "formulaStarts" "[I") ∈ gTBL := gTBL_in 161 (by decide +kernel) rfl
theorem ww162 : (Cond.fieldLink "SkyTrial$Told" (43 : Nat) "SkyTrial$Told" "formulaEnds" "[I") ∈ gTBL := gTBL_in 162 (by decide +kernel) rfl
theorem ww163 : (Cond.fieldLink "SkyTrial$Reckoner" (28 : Nat) "SkyTrial$Told" "formulaEnds" "[I") ∈ gTBL := gTBL_in 163 (by decide +kernel) rfl
theorem ww164 : (Cond.fieldLink "SkyTrial$Told" (46 : Nat) "SkyTrial$Told" "stepKinds" "[I") ∈ gTBL := gTBL_in 164 (by decide +kernel) rfl
theorem ww165 : (Cond.fieldLink "SkyTrial$Reckoner" (46 : Nat) "SkyTrial$Told" "stepKinds" "[I") ∈ gTBL := gTBL_in 165 (by decide +kernel) rfl
theorem ww166 : (Cond.fieldLink "SkyTrial$Told" (49 : Nat) "SkyTrial$Told" "stepValues" "[I") ∈ gTBL := gTBL_in 166 (by decide +kernel) rfl
theorem ww167 : (Cond.fieldLink "SkyTrial$Reckoner" (49 : Nat) "SkyTrial$Told" "stepValues" "[I") ∈ gTBL := gTBL_in 167 (by decide +kernel) rfl
theorem ww168 : (Cond.fieldLink "SkyTrial$Told" (52 : Nat) "SkyTrial$Told" "steps" "I") ∈ gTBL := gTBL_in 168 (by decide +kernel) rfl
theorem ww169 : (Cond.fieldLink "SkyTrial$Reckoner" (31 : Nat) "SkyTrial$Told" "steps" "I") ∈ gTBL := gTBL_in 169 (by decide +kernel) rfl
theorem ww199 : (Cond.fieldLink "SkyTrial$TextReader" (12 : Nat) "SkyTrial$TextReader" "tokens" "LSkyTrial$Tokens;") ∈ gTBL := gTBL_in 199 (by decide +kernel) rfl
theorem ww200 : (Cond.fieldLink "SkyTrial$TextReader" (21 : Nat) "SkyTrial$TextReader" "draft" "LSkyTrial$Told;") ∈ gTBL := gTBL_in 200 (by decide +kernel) rfl
theorem ww201 : (Cond.fieldLink "SkyTrial$TextReader" (25 : Nat) "SkyTrial$TextReader" "at" "I") ∈ gTBL := gTBL_in 201 (by decide +kernel) rfl
theorem ww202 : (Cond.fieldLink "SkyTrial$TextReader" (29 : Nat) "SkyTrial$TextReader" "here" "I") ∈ gTBL := gTBL_in 202 (by decide +kernel) rfl
theorem ww203 : (Cond.fieldLink "SkyTrial$TextReader" (32 : Nat) "SkyTrial$TextReader" "value" "J") ∈ gTBL := gTBL_in 203 (by decide +kernel) rfl
theorem ww204 : (Cond.fieldLink "SkyTrial$TextReader" (36 : Nat) "SkyTrial$TextReader" "spot" "I") ∈ gTBL := gTBL_in 204 (by decide +kernel) rfl
theorem ww205 : (Cond.fieldLink "SkyTrial$TextReader" (39 : Nat) "SkyTrial$TextReader" "fault" "I") ∈ gTBL := gTBL_in 205 (by decide +kernel) rfl
theorem ww206 : (Cond.fieldLink "SkyTrial$TextReader" (42 : Nat) "SkyTrial$TextReader" "faultAt" "I") ∈ gTBL := gTBL_in 206 (by decide +kernel) rfl
theorem ww207 : (Cond.fieldLink "SkyTrial$TextReader" (45 : Nat) "SkyTrial$TextReader" "laterFault" "I") ∈ gTBL := gTBL_in 207 (by decide +kernel) rfl
theorem ww208 : (Cond.fieldLink "SkyTrial$TextReader" (48 : Nat) "SkyTrial$TextReader" "laterAt" "I") ∈ gTBL := gTBL_in 208 (by decide +kernel) rfl
theorem ww209 : (Cond.fieldLink "SkyTrial$TextReader" (51 : Nat) "SkyTrial$TextReader" "names" "[J") ∈ gTBL := gTBL_in 209 (by decide +kernel) rfl
theorem ww210 : (Cond.fieldLink "SkyTrial$TextReader" (55 : Nat) "SkyTrial$TextReader" "nameKinds" "[I") ∈ gTBL := gTBL_in 210 (by decide +kernel) rfl
theorem ww211 : (Cond.fieldLink "SkyTrial$TextReader" (59 : Nat) "SkyTrial$TextReader" "nameNumbers" "[I") ∈ gTBL := gTBL_in 211 (by decide +kernel) rfl
theorem ww212 : (Cond.fieldLink "SkyTrial$TextReader" (62 : Nat) "SkyTrial$TextReader" "named" "I") ∈ gTBL := gTBL_in 212 (by decide +kernel) rfl
theorem ww248 : (Cond.fieldLink "SkyTrial$People" (9 : Nat) "SkyTrial$People" "traits" "[I") ∈ gTBL := gTBL_in 248 (by decide +kernel) rfl
theorem ww249 : (Cond.fieldLink "SkyTrial$People" (15 : Nat) "SkyTrial$People" "size" "I") ∈ gTBL := gTBL_in 249 (by decide +kernel) rfl
theorem ww250 : (Cond.fieldLink "SkyTrial$Sky" (39 : Nat) "SkyTrial$People" "size" "I") ∈ gTBL := gTBL_in 250 (by decide +kernel) rfl
theorem ww251 : (Cond.fieldLink "SkyTrial" (84 : Nat) "SkyTrial$People" "size" "I") ∈ gTBL := gTBL_in 251 (by decide +kernel) rfl
theorem ww271 : (Cond.fieldLink "SkyTrial$Reckoner" (9 : Nat) "SkyTrial$Reckoner" "slots" "[I") ∈ gTBL := gTBL_in 271 (by decide +kernel) rfl
theorem ww272 : (Cond.fieldLink "SkyTrial$Sky" (65 : Nat) "SkyTrial$Reckoner" "slots" "[I") ∈ gTBL := gTBL_in 272 (by decide +kernel) rfl
theorem ww273 : (Cond.fieldLink "SkyTrial$Reckoner" (15 : Nat) "SkyTrial$Reckoner" "stack" "[I") ∈ gTBL := gTBL_in 273 (by decide +kernel) rfl
theorem ww274 : (Cond.fieldLink "SkyTrial$Reckoner" (18 : Nat) "SkyTrial$Reckoner" "top" "I") ∈ gTBL := gTBL_in 274 (by decide +kernel) rfl
theorem ww282 : (Cond.fieldLink "SkyTrial$Sky" (12 : Nat) "SkyTrial$Sky" "told" "LSkyTrial$Told;") ∈ gTBL := gTBL_in 282 (by decide +kernel) rfl
theorem ww283 : (Cond.fieldLink "SkyTrial" (72 : Nat) "SkyTrial$Sky" "told" "LSkyTrial$Told;") ∈ gTBL := gTBL_in 283 (by decide +kernel) rfl
theorem ww284 : (Cond.fieldLink "SkyTrial$Sky" (35 : Nat) "SkyTrial$Sky" "people" "LSkyTrial$People;") ∈ gTBL := gTBL_in 284 (by decide +kernel) rfl
theorem ww285 : (Cond.fieldLink "SkyTrial$Sky" (21 : Nat) "SkyTrial$Sky" "reckoner" "LSkyTrial$Reckoner;") ∈ gTBL := gTBL_in 285 (by decide +kernel) rfl
theorem ww286 : (Cond.fieldLink "SkyTrial$Sky" (25 : Nat) "SkyTrial$Sky" "ups" "[I") ∈ gTBL := gTBL_in 286 (by decide +kernel) rfl
theorem ww287 : (Cond.fieldLink "SkyTrial" (159 : Nat) "SkyTrial$Sky" "ups" "[I") ∈ gTBL := gTBL_in 287 (by decide +kernel) rfl
theorem ww288 : (Cond.fieldLink "SkyTrial$Sky" (29 : Nat) "SkyTrial$Sky" "truths" "[I") ∈ gTBL := gTBL_in 288 (by decide +kernel) rfl
theorem ww289 : (Cond.fieldLink "SkyTrial" (156 : Nat) "SkyTrial$Sky" "truths" "[I") ∈ gTBL := gTBL_in 289 (by decide +kernel) rfl
theorem ww290 : (Cond.fieldLink "SkyTrial$Sky" (32 : Nat) "SkyTrial$Sky" "fits" "[I") ∈ gTBL := gTBL_in 290 (by decide +kernel) rfl
theorem ww310 : (Cond.fieldLink "SkyTrial$Facts" (9 : Nat) "SkyTrial$Facts" "kinds" "[I") ∈ gTBL := gTBL_in 310 (by decide +kernel) rfl
theorem ww311 : (Cond.fieldLink "SkyTrial" (250 : Nat) "SkyTrial$Facts" "kinds" "[I") ∈ gTBL := gTBL_in 311 (by decide +kernel) rfl
theorem ww312 : (Cond.fieldLink "SkyTrial$Facts" (15 : Nat) "SkyTrial$Facts" "subjects" "[I") ∈ gTBL := gTBL_in 312 (by decide +kernel) rfl
theorem ww313 : (Cond.fieldLink "SkyTrial$Facts" (18 : Nat) "SkyTrial$Facts" "values" "[I") ∈ gTBL := gTBL_in 313 (by decide +kernel) rfl
theorem ww314 : (Cond.fieldLink "SkyTrial$Facts" (21 : Nat) "SkyTrial$Facts" "known" "[Z") ∈ gTBL := gTBL_in 314 (by decide +kernel) rfl
theorem ww315 : (Cond.fieldLink "SkyTrial$Facts" (25 : Nat) "SkyTrial$Facts" "size" "I") ∈ gTBL := gTBL_in 315 (by decide +kernel) rfl
theorem ww316 : (Cond.fieldLink "SkyTrial" (290 : Nat) "SkyTrial$Facts" "size" "I") ∈ gTBL := gTBL_in 316 (by decide +kernel) rfl
theorem ww335 : (Cond.fieldLink "SkyTrial$Chance" (11 : Nat) "SkyTrial$Chance" "takings" "[J") ∈ gTBL := gTBL_in 335 (by decide +kernel) rfl
theorem ww336 : (Cond.fieldLink "SkyTrial$Chance" (15 : Nat) "SkyTrial$Chance" "thirds" "[J") ∈ gTBL := gTBL_in 336 (by decide +kernel) rfl
theorem ww337 : (Cond.fieldLink "SkyTrial$Chance" (18 : Nat) "SkyTrial$Chance" "halves" "[J") ∈ gTBL := gTBL_in 337 (by decide +kernel) rfl
theorem ww338 : (Cond.fieldLink "SkyTrial$Chance" (21 : Nat) "SkyTrial$Chance" "spread" "[J") ∈ gTBL := gTBL_in 338 (by decide +kernel) rfl
theorem ww339 : (Cond.fieldLink "SkyTrial$Chance" (24 : Nat) "SkyTrial$Chance" "wider" "[J") ∈ gTBL := gTBL_in 339 (by decide +kernel) rfl
theorem ww357 : (Cond.fieldLink "SkyTrial$Table" (7 : Nat) "SkyTrial$Table" "all" "I") ∈ gTBL := gTBL_in 357 (by decide +kernel) rfl
theorem ww358 : (Cond.fieldLink "SkyTrial$Chance" (43 : Nat) "SkyTrial$Table" "all" "I") ∈ gTBL := gTBL_in 358 (by decide +kernel) rfl
theorem ww359 : (Cond.fieldLink "SkyTrial$Table" (13 : Nat) "SkyTrial$Table" "up" "I") ∈ gTBL := gTBL_in 359 (by decide +kernel) rfl
theorem ww360 : (Cond.fieldLink "SkyTrial$Chance" (49 : Nat) "SkyTrial$Table" "up" "I") ∈ gTBL := gTBL_in 360 (by decide +kernel) rfl
theorem ww361 : (Cond.fieldLink "SkyTrial" (280 : Nat) "SkyTrial$Table" "up" "I") ∈ gTBL := gTBL_in 361 (by decide +kernel) rfl
theorem ww362 : (Cond.fieldLink "SkyTrial$Table" (16 : Nat) "SkyTrial$Table" "trueOnes" "I") ∈ gTBL := gTBL_in 362 (by decide +kernel) rfl
theorem ww363 : (Cond.fieldLink "SkyTrial$Chance" (69 : Nat) "SkyTrial$Table" "trueOnes" "I") ∈ gTBL := gTBL_in 363 (by decide +kernel) rfl
theorem ww364 : (Cond.fieldLink "SkyTrial" (277 : Nat) "SkyTrial$Table" "trueOnes" "I") ∈ gTBL := gTBL_in 364 (by decide +kernel) rfl
theorem ww365 : (Cond.fieldLink "SkyTrial$Table" (19 : Nat) "SkyTrial$Table" "both" "I") ∈ gTBL := gTBL_in 365 (by decide +kernel) rfl
theorem ww366 : (Cond.fieldLink "SkyTrial$Chance" (56 : Nat) "SkyTrial$Table" "both" "I") ∈ gTBL := gTBL_in 366 (by decide +kernel) rfl
theorem ww367 : (Cond.fieldLink "SkyTrial" (225 : Nat) "SkyTrial$Table" "both" "I") ∈ gTBL := gTBL_in 367 (by decide +kernel) rfl
theorem ww377 : (Cond.fieldLink "SkyTrial" (10 : Nat) "SkyTrial" "tape" "LSkyTrial$Tape;") ∈ gTBL := gTBL_in 377 (by decide +kernel) rfl
theorem ww378 : (Cond.fieldLink "SkyTrial" (19 : Nat) "SkyTrial" "reader" "LSkyTrial$TextReader;") ∈ gTBL := gTBL_in 378 (by decide +kernel) rfl
theorem ww379 : (Cond.fieldLink "SkyTrial" (26 : Nat) "SkyTrial" "people" "LSkyTrial$People;") ∈ gTBL := gTBL_in 379 (by decide +kernel) rfl
theorem ww380 : (Cond.fieldLink "SkyTrial" (35 : Nat) "SkyTrial" "sky" "LSkyTrial$Sky;") ∈ gTBL := gTBL_in 380 (by decide +kernel) rfl
theorem ww381 : (Cond.fieldLink "SkyTrial" (42 : Nat) "SkyTrial" "facts" "LSkyTrial$Facts;") ∈ gTBL := gTBL_in 381 (by decide +kernel) rfl
theorem ww382 : (Cond.fieldLink "SkyTrial" (49 : Nat) "SkyTrial" "chance" "LSkyTrial$Chance;") ∈ gTBL := gTBL_in 382 (by decide +kernel) rfl
theorem ww383 : (Cond.fieldLink "SkyTrial" (56 : Nat) "SkyTrial" "tally" "LSkyTrial$Table;") ∈ gTBL := gTBL_in 383 (by decide +kernel) rfl
theorem ww403 : (Cond.methodLink "SkyTrial" (64 : Nat) ({ cls := "SkyTrial$Tape", name := "addFour", desc := "(I)V" } : Jvm.MethodName)) ∈ gTBL := gTBL_in 403 (by decide +kernel) rfl
theorem ww404 : (Cond.instanceMethod ({ cls := "SkyTrial$Tape", name := "addFour", desc := "(I)V" } : Jvm.MethodName)) ∈ gTBL := gTBL_in 404 (by decide +kernel) rfl
theorem ww405 : (Cond.selects "SkyTrial$Tape" ({ cls := "SkyTrial$Tape", name := "addFour", desc := "(I)V" } : Jvm.MethodName) ({ cls := "SkyTrial$Tape", name := "addFour", desc := "(I)V" } : Jvm.MethodName)) ∈ gTBL := gTBL_in 405 (by decide +kernel) rfl
theorem ww406 : (Cond.code ({ cls := "SkyTrial$Tape", name := "addFour", desc := "(I)V" } : Jvm.MethodName) prog_8_method_2_code (3 : Nat) (Option.none : Option Jvm.ClassFile.FieldType)) ∈ gTBL := gTBL_in 406 (by decide +kernel) rfl
theorem ww415 : (Cond.methodLink "SkyTrial" (68 : Nat) ({ cls := "SkyTrial$TextReader", name := "parse", desc := "(LSkyTrial$Tape;)I" } : Jvm.MethodName)) ∈ gTBL := gTBL_in 415 (by decide +kernel) rfl
theorem ww416 : (Cond.instanceMethod ({ cls := "SkyTrial$TextReader", name := "parse", desc := "(LSkyTrial$Tape;)I" } : Jvm.MethodName)) ∈ gTBL := gTBL_in 416 (by decide +kernel) rfl
theorem ww417 : (Cond.selects "SkyTrial$TextReader" ({ cls := "SkyTrial$TextReader", name := "parse", desc := "(LSkyTrial$Tape;)I" } : Jvm.MethodName) ({ cls := "SkyTrial$TextReader", name := "parse", desc := "(LSkyTrial$Tape;)I" } : Jvm.MethodName)) ∈ gTBL := gTBL_in 417 (by decide +kernel) rfl
theorem ww418 : (Cond.code ({ cls := "SkyTrial$TextReader", name := "parse", desc := "(LSkyTrial$Tape;)I" } : Jvm.MethodName) prog_9_method_2_code (3 : Nat) (Option.some Jvm.ClassFile.FieldType.int)) ∈ gTBL := gTBL_in 418 (by decide +kernel) rfl
theorem ww419 : (Cond.methodLink "SkyTrial$TextReader" (65 : Nat) ({ cls := "SkyTrial$Tokens", name := "scan", desc := "(LSkyTrial$Tape;)V" } : Jvm.MethodName)) ∈ gTBL := gTBL_in 419 (by decide +kernel) rfl
theorem ww420 : (Cond.instanceMethod ({ cls := "SkyTrial$Tokens", name := "scan", desc := "(LSkyTrial$Tape;)V" } : Jvm.MethodName)) ∈ gTBL := gTBL_in 420 (by decide +kernel) rfl
theorem ww421 : (Cond.selects "SkyTrial$Tokens" ({ cls := "SkyTrial$Tokens", name := "scan", desc := "(LSkyTrial$Tape;)V" } : Jvm.MethodName) ({ cls := "SkyTrial$Tokens", name := "scan", desc := "(LSkyTrial$Tape;)V" } : Jvm.MethodName)) ∈ gTBL := gTBL_in 421 (by decide +kernel) rfl
theorem ww422 : (Cond.code ({ cls := "SkyTrial$Tokens", name := "scan", desc := "(LSkyTrial$Tape;)V" } : Jvm.MethodName) prog_10_method_2_code (6 : Nat) (Option.none : Option Jvm.ClassFile.FieldType)) ∈ gTBL := gTBL_in 422 (by decide +kernel) rfl
theorem ww423 : (Cond.methodLink "SkyTrial$Tokens" (45 : Nat) ({ cls := "SkyTrial$Tape", name := "afterBlanks", desc := "(I)I" } : Jvm.MethodName)) ∈ gTBL := gTBL_in 423 (by decide +kernel) rfl
theorem ww424 : (Cond.instanceMethod ({ cls := "SkyTrial$Tape", name := "afterBlanks", desc := "(I)I" } : Jvm.MethodName)) ∈ gTBL := gTBL_in 424 (by decide +kernel) rfl
theorem ww425 : (Cond.selects "SkyTrial$Tape" ({ cls := "SkyTrial$Tape", name := "afterBlanks", desc := "(I)I" } : Jvm.MethodName) ({ cls := "SkyTrial$Tape", name := "afterBlanks", desc := "(I)I" } : Jvm.MethodName)) ∈ gTBL := gTBL_in 425 (by decide +kernel) rfl
theorem ww426 : (Cond.code ({ cls := "SkyTrial$Tape", name := "afterBlanks", desc := "(I)I" } : Jvm.MethodName) prog_8_method_4_code (4 : Nat) (Option.some Jvm.ClassFile.FieldType.int)) ∈ gTBL := gTBL_in 426 (by decide +kernel) rfl
theorem ww427 : (Cond.methodLink "SkyTrial$Tape" (19 : Nat) ({ cls := "SkyTrial$Tape", name := "byteAt", desc := "(I)I" } : Jvm.MethodName)) ∈ gTBL := gTBL_in 427 (by decide +kernel) rfl
theorem ww428 : (Cond.instanceMethod ({ cls := "SkyTrial$Tape", name := "byteAt", desc := "(I)I" } : Jvm.MethodName)) ∈ gTBL := gTBL_in 428 (by decide +kernel) rfl
theorem ww429 : (Cond.selects "SkyTrial$Tape" ({ cls := "SkyTrial$Tape", name := "byteAt", desc := "(I)I" } : Jvm.MethodName) ({ cls := "SkyTrial$Tape", name := "byteAt", desc := "(I)I" } : Jvm.MethodName)) ∈ gTBL := gTBL_in 429 (by decide +kernel) rfl
theorem ww430 : (Cond.code ({ cls := "SkyTrial$Tape", name := "byteAt", desc := "(I)I" } : Jvm.MethodName) prog_8_method_3_code (2 : Nat) (Option.some Jvm.ClassFile.FieldType.int)) ∈ gTBL := gTBL_in 430 (by decide +kernel) rfl
theorem ww431 : (Cond.methodLink "SkyTrial$Tokens" (51 : Nat) ({ cls := "SkyTrial$Tokens", name := "scanOne", desc := "(LSkyTrial$Tape;I)I" } : Jvm.MethodName)) ∈ gTBL := gTBL_in 431 (by decide +kernel) rfl
theorem ww433 : (Cond.instanceMethod ({ cls := "SkyTrial$Tokens", name := "scanOne", desc := "(LSkyTrial$Tape;I)I" } : Jvm.MethodName)) ∈ gTBL := gTBL_in 433 (by decide +kernel) rfl
theorem ww434 : (Cond.code ({ cls := "SkyTrial$Tokens", name := "scanOne", desc := "(LSkyTrial$Tape;I)I" } : Jvm.MethodName) prog_10_method_3_code (5 : Nat) (Option.some Jvm.ClassFile.FieldType.int)) ∈ gTBL := gTBL_in 434 (by decide +kernel) rfl
theorem ww435 : (Cond.methodLink "SkyTrial$Tokens" (55 : Nat) ({ cls := "SkyTrial$Tape", name := "byteAt", desc := "(I)I" } : Jvm.MethodName)) ∈ gTBL := gTBL_in 435 (by decide +kernel) rfl
theorem ww436 : (Cond.methodLink "SkyTrial$Tokens" (58 : Nat) ({ cls := "SkyTrial$Tokens", name := "put", desc := "(IIJ)V" } : Jvm.MethodName)) ∈ gTBL := gTBL_in 436 (by decide +kernel) rfl
theorem ww438 : (Cond.instanceMethod ({ cls := "SkyTrial$Tokens", name := "put", desc := "(IIJ)V" } : Jvm.MethodName)) ∈ gTBL := gTBL_in 438 (by decide +kernel) rfl
theorem ww439 : (Cond.code ({ cls := "SkyTrial$Tokens", name := "put", desc := "(IIJ)V" } : Jvm.MethodName) prog_10_method_6_code (5 : Nat) (Option.none : Option Jvm.ClassFile.FieldType)) ∈ gTBL := gTBL_in 439 (by decide +kernel) rfl
theorem ww441 : (Cond.static ({ cls := "SkyTrial", name := "inRange", desc := "(III)Z" } : Jvm.MethodName)) ∈ gTBL := gTBL_in 441 (by decide +kernel) rfl
theorem ww442 : (Cond.code ({ cls := "SkyTrial", name := "inRange", desc := "(III)Z" } : Jvm.MethodName) prog_1_method_43_code (3 : Nat) (Option.some Jvm.ClassFile.FieldType.boolean)) ∈ gTBL := gTBL_in 442 (by decide +kernel) rfl
theorem ww443 : (Cond.methodLink "SkyTrial$Tokens" (66 : Nat) ({ cls := "SkyTrial$Tokens", name := "scanWord", desc := "(LSkyTrial$Tape;I)I" } : Jvm.MethodName)) ∈ gTBL := gTBL_in 443 (by decide +kernel) rfl
theorem ww445 : (Cond.instanceMethod ({ cls := "SkyTrial$Tokens", name := "scanWord", desc := "(LSkyTrial$Tape;I)I" } : Jvm.MethodName)) ∈ gTBL := gTBL_in 445 (by decide +kernel) rfl
theorem ww446 : (Cond.code ({ cls := "SkyTrial$Tokens", name := "scanWord", desc := "(LSkyTrial$Tape;I)I" } : Jvm.MethodName) prog_10_method_4_code (7 : Nat) (Option.some Jvm.ClassFile.FieldType.int)) ∈ gTBL := gTBL_in 446 (by decide +kernel) rfl
theorem ww447 : (Cond.methodLink "SkyTrial$Tokens" (76 : Nat) ({ cls := "SkyTrial$Tape", name := "afterRun", desc := "(III)I" } : Jvm.MethodName)) ∈ gTBL := gTBL_in 447 (by decide +kernel) rfl
theorem ww448 : (Cond.instanceMethod ({ cls := "SkyTrial$Tape", name := "afterRun", desc := "(III)I" } : Jvm.MethodName)) ∈ gTBL := gTBL_in 448 (by decide +kernel) rfl
theorem ww449 : (Cond.selects "SkyTrial$Tape" ({ cls := "SkyTrial$Tape", name := "afterRun", desc := "(III)I" } : Jvm.MethodName) ({ cls := "SkyTrial$Tape", name := "afterRun", desc := "(III)I" } : Jvm.MethodName)) ∈ gTBL := gTBL_in 449 (by decide +kernel) rfl
theorem ww450 : (Cond.code ({ cls := "SkyTrial$Tape", name := "afterRun", desc := "(III)I" } : Jvm.MethodName) prog_8_method_5_code (5 : Nat) (Option.some Jvm.ClassFile.FieldType.int)) ∈ gTBL := gTBL_in 450 (by decide +kernel) rfl
theorem ww452 : (Cond.methodLink "SkyTrial$Tokens" (80 : Nat) ({ cls := "SkyTrial$Tokens", name := "wordKind", desc := "(J)I" } : Jvm.MethodName)) ∈ gTBL := gTBL_in 452 (by decide +kernel) rfl
theorem ww454 : (Cond.instanceMethod ({ cls := "SkyTrial$Tokens", name := "wordKind", desc := "(J)I" } : Jvm.MethodName)) ∈ gTBL := gTBL_in 454 (by decide +kernel) rfl
theorem ww455 : (Cond.code ({ cls := "SkyTrial$Tokens", name := "wordKind", desc := "(J)I" } : Jvm.MethodName) prog_10_method_8_code (4 : Nat) (Option.some Jvm.ClassFile.FieldType.int)) ∈ gTBL := gTBL_in 455 (by decide +kernel) rfl
theorem ww456 : (Cond.methodLink "SkyTrial$Tokens" (69 : Nat) ({ cls := "SkyTrial$Tokens", name := "scanInt", desc := "(LSkyTrial$Tape;I)I" } : Jvm.MethodName)) ∈ gTBL := gTBL_in 456 (by decide +kernel) rfl
theorem ww458 : (Cond.instanceMethod ({ cls := "SkyTrial$Tokens", name := "scanInt", desc := "(LSkyTrial$Tape;I)I" } : Jvm.MethodName)) ∈ gTBL := gTBL_in 458 (by decide +kernel) rfl
theorem ww459 : (Cond.code ({ cls := "SkyTrial$Tokens", name := "scanInt", desc := "(LSkyTrial$Tape;I)I" } : Jvm.MethodName) prog_10_method_5_code (7 : Nat) (Option.some Jvm.ClassFile.FieldType.int)) ∈ gTBL := gTBL_in 459 (by decide +kernel) rfl
theorem ww460 : (Cond.constantLong "SkyTrial$Tokens" (84 : Nat) (10 : Int64)) ∈ gTBL := gTBL_in 460 (by decide +kernel) rfl
theorem ww461 : (Cond.methodLink "SkyTrial$Tokens" (72 : Nat) ({ cls := "SkyTrial$Tokens", name := "markKind", desc := "(II)I" } : Jvm.MethodName)) ∈ gTBL := gTBL_in 461 (by decide +kernel) rfl
theorem ww462 : (Cond.static ({ cls := "SkyTrial$Tokens", name := "markKind", desc := "(II)I" } : Jvm.MethodName)) ∈ gTBL := gTBL_in 462 (by decide +kernel) rfl
theorem ww463 : (Cond.code ({ cls := "SkyTrial$Tokens", name := "markKind", desc := "(II)I" } : Jvm.MethodName) prog_10_method_9_code (3 : Nat) (Option.some Jvm.ClassFile.FieldType.int)) ∈ gTBL := gTBL_in 463 (by decide +kernel) rfl
theorem ww464 : (Cond.methodLink "SkyTrial$TextReader" (69 : Nat) ({ cls := "SkyTrial$TextReader", name := "start", desc := "()V" } : Jvm.MethodName)) ∈ gTBL := gTBL_in 464 (by decide +kernel) rfl
theorem ww466 : (Cond.instanceMethod ({ cls := "SkyTrial$TextReader", name := "start", desc := "()V" } : Jvm.MethodName)) ∈ gTBL := gTBL_in 466 (by decide +kernel) rfl
theorem ww467 : (Cond.code ({ cls := "SkyTrial$TextReader", name := "start", desc := "()V" } : Jvm.MethodName) prog_9_method_5_code (1 : Nat) (Option.none : Option Jvm.ClassFile.FieldType)) ∈ gTBL := gTBL_in 467 (by decide +kernel) rfl
theorem ww468 : (Cond.methodLink "SkyTrial$TextReader" (91 : Nat) ({ cls := "SkyTrial$Told", name := "clear", desc := "()V" } : Jvm.MethodName)) ∈ gTBL := gTBL_in 468 (by decide +kernel) rfl
theorem ww469 : (Cond.instanceMethod ({ cls := "SkyTrial$Told", name := "clear", desc := "()V" } : Jvm.MethodName)) ∈ gTBL := gTBL_in 469 (by decide +kernel) rfl
theorem ww470 : (Cond.selects "SkyTrial$Told" ({ cls := "SkyTrial$Told", name := "clear", desc := "()V" } : Jvm.MethodName) ({ cls := "SkyTrial$Told", name := "clear", desc := "()V" } : Jvm.MethodName)) ∈ gTBL := gTBL_in 470 (by decide +kernel) rfl
theorem ww471 : (Cond.code ({ cls := "SkyTrial$Told", name := "clear", desc := "()V" } : Jvm.MethodName) prog_11_method_2_code (1 : Nat) (Option.none : Option Jvm.ClassFile.FieldType)) ∈ gTBL := gTBL_in 471 (by decide +kernel) rfl
theorem ww472 : (Cond.methodLink "SkyTrial$TextReader" (72 : Nat) ({ cls := "SkyTrial$TextReader", name := "tellSign", desc := "()V" } : Jvm.MethodName)) ∈ gTBL := gTBL_in 472 (by decide +kernel) rfl
theorem ww474 : (Cond.instanceMethod ({ cls := "SkyTrial$TextReader", name := "tellSign", desc := "()V" } : Jvm.MethodName)) ∈ gTBL := gTBL_in 474 (by decide +kernel) rfl
theorem ww475 : (Cond.code ({ cls := "SkyTrial$TextReader", name := "tellSign", desc := "()V" } : Jvm.MethodName) prog_9_method_6_code (2 : Nat) (Option.none : Option Jvm.ClassFile.FieldType)) ∈ gTBL := gTBL_in 475 (by decide +kernel) rfl
theorem ww476 : (Cond.methodLink "SkyTrial$TextReader" (106 : Nat) ({ cls := "SkyTrial$TextReader", name := "open", desc := "(Z)Z" } : Jvm.MethodName)) ∈ gTBL := gTBL_in 476 (by decide +kernel) rfl
theorem ww478 : (Cond.instanceMethod ({ cls := "SkyTrial$TextReader", name := "open", desc := "(Z)Z" } : Jvm.MethodName)) ∈ gTBL := gTBL_in 478 (by decide +kernel) rfl
theorem ww479 : (Cond.code ({ cls := "SkyTrial$TextReader", name := "open", desc := "(Z)Z" } : Jvm.MethodName) prog_9_method_18_code (2 : Nat) (Option.some Jvm.ClassFile.FieldType.boolean)) ∈ gTBL := gTBL_in 479 (by decide +kernel) rfl
theorem ww480 : (Cond.methodLink "SkyTrial$TextReader" (136 : Nat) ({ cls := "SkyTrial$TextReader", name := "take", desc := "()V" } : Jvm.MethodName)) ∈ gTBL := gTBL_in 480 (by decide +kernel) rfl
theorem ww482 : (Cond.instanceMethod ({ cls := "SkyTrial$TextReader", name := "take", desc := "()V" } : Jvm.MethodName)) ∈ gTBL := gTBL_in 482 (by decide +kernel) rfl
theorem ww483 : (Cond.code ({ cls := "SkyTrial$TextReader", name := "take", desc := "()V" } : Jvm.MethodName) prog_9_method_20_code (1 : Nat) (Option.none : Option Jvm.ClassFile.FieldType)) ∈ gTBL := gTBL_in 483 (by decide +kernel) rfl
theorem ww484 : (Cond.methodLink "SkyTrial$TextReader" (87 : Nat) ({ cls := "SkyTrial$TextReader", name := "fail", desc := "(I)V" } : Jvm.MethodName)) ∈ gTBL := gTBL_in 484 (by decide +kernel) rfl
theorem ww486 : (Cond.instanceMethod ({ cls := "SkyTrial$TextReader", name := "fail", desc := "(I)V" } : Jvm.MethodName)) ∈ gTBL := gTBL_in 486 (by decide +kernel) rfl
theorem ww487 : (Cond.code ({ cls := "SkyTrial$TextReader", name := "fail", desc := "(I)V" } : Jvm.MethodName) prog_9_method_21_code (2 : Nat) (Option.none : Option Jvm.ClassFile.FieldType)) ∈ gTBL := gTBL_in 487 (by decide +kernel) rfl
theorem ww488 : (Cond.methodLink "SkyTrial$TextReader" (110 : Nat) ({ cls := "SkyTrial$TextReader", name := "tellName", desc := "(II)V" } : Jvm.MethodName)) ∈ gTBL := gTBL_in 488 (by decide +kernel) rfl
theorem ww490 : (Cond.instanceMethod ({ cls := "SkyTrial$TextReader", name := "tellName", desc := "(II)V" } : Jvm.MethodName)) ∈ gTBL := gTBL_in 490 (by decide +kernel) rfl
theorem ww491 : (Cond.code ({ cls := "SkyTrial$TextReader", name := "tellName", desc := "(II)V" } : Jvm.MethodName) prog_9_method_11_code (3 : Nat) (Option.none : Option Jvm.ClassFile.FieldType)) ∈ gTBL := gTBL_in 491 (by decide +kernel) rfl
theorem ww492 : (Cond.methodLink "SkyTrial$TextReader" (165 : Nat) ({ cls := "SkyTrial$TextReader", name := "findName", desc := "(J)I" } : Jvm.MethodName)) ∈ gTBL := gTBL_in 492 (by decide +kernel) rfl
theorem ww494 : (Cond.instanceMethod ({ cls := "SkyTrial$TextReader", name := "findName", desc := "(J)I" } : Jvm.MethodName)) ∈ gTBL := gTBL_in 494 (by decide +kernel) rfl
theorem ww495 : (Cond.code ({ cls := "SkyTrial$TextReader", name := "findName", desc := "(J)I" } : Jvm.MethodName) prog_9_method_12_code (4 : Nat) (Option.some Jvm.ClassFile.FieldType.int)) ∈ gTBL := gTBL_in 495 (by decide +kernel) rfl
theorem ww496 : (Cond.methodLink "SkyTrial$TextReader" (142 : Nat) ({ cls := "SkyTrial$TextReader", name := "blame", desc := "(I)V" } : Jvm.MethodName)) ∈ gTBL := gTBL_in 496 (by decide +kernel) rfl
theorem ww498 : (Cond.instanceMethod ({ cls := "SkyTrial$TextReader", name := "blame", desc := "(I)V" } : Jvm.MethodName)) ∈ gTBL := gTBL_in 498 (by decide +kernel) rfl
theorem ww499 : (Cond.code ({ cls := "SkyTrial$TextReader", name := "blame", desc := "(I)V" } : Jvm.MethodName) prog_9_method_22_code (2 : Nat) (Option.none : Option Jvm.ClassFile.FieldType)) ∈ gTBL := gTBL_in 499 (by decide +kernel) rfl
theorem ww500 : (Cond.methodLink "SkyTrial$TextReader" (114 : Nat) ({ cls := "SkyTrial$TextReader", name := "need", desc := "(I)V" } : Jvm.MethodName)) ∈ gTBL := gTBL_in 500 (by decide +kernel) rfl
theorem ww502 : (Cond.instanceMethod ({ cls := "SkyTrial$TextReader", name := "need", desc := "(I)V" } : Jvm.MethodName)) ∈ gTBL := gTBL_in 502 (by decide +kernel) rfl
theorem ww503 : (Cond.code ({ cls := "SkyTrial$TextReader", name := "need", desc := "(I)V" } : Jvm.MethodName) prog_9_method_19_code (2 : Nat) (Option.none : Option Jvm.ClassFile.FieldType)) ∈ gTBL := gTBL_in 503 (by decide +kernel) rfl
theorem ww504 : (Cond.methodLink "SkyTrial$TextReader" (117 : Nat) ({ cls := "SkyTrial$Told", name := "startFormula", desc := "(I)V" } : Jvm.MethodName)) ∈ gTBL := gTBL_in 504 (by decide +kernel) rfl
theorem ww505 : (Cond.instanceMethod ({ cls := "SkyTrial$Told", name := "startFormula", desc := "(I)V" } : Jvm.MethodName)) ∈ gTBL := gTBL_in 505 (by decide +kernel) rfl
theorem ww506 : (Cond.selects "SkyTrial$Told" ({ cls := "SkyTrial$Told", name := "startFormula", desc := "(I)V" } : Jvm.MethodName) ({ cls := "SkyTrial$Told", name := "startFormula", desc := "(I)V" } : Jvm.MethodName)) ∈ gTBL := gTBL_in 506 (by decide +kernel) rfl
theorem ww507 : (Cond.code ({ cls := "SkyTrial$Told", name := "startFormula", desc := "(I)V" } : Jvm.MethodName) prog_11_method_4_code (2 : Nat) (Option.none : Option Jvm.ClassFile.FieldType)) ∈ gTBL := gTBL_in 507 (by decide +kernel) rfl
theorem ww509 : (Cond.methodLink "SkyTrial$TextReader" (120 : Nat) ({ cls := "SkyTrial$TextReader", name := "condition", desc := "()V" } : Jvm.MethodName)) ∈ gTBL := gTBL_in 509 (by decide +kernel) rfl
theorem ww511 : (Cond.instanceMethod ({ cls := "SkyTrial$TextReader", name := "condition", desc := "()V" } : Jvm.MethodName)) ∈ gTBL := gTBL_in 511 (by decide +kernel) rfl
theorem ww512 : (Cond.code ({ cls := "SkyTrial$TextReader", name := "condition", desc := "()V" } : Jvm.MethodName) prog_9_method_14_code (5 : Nat) (Option.none : Option Jvm.ClassFile.FieldType)) ∈ gTBL := gTBL_in 512 (by decide +kernel) rfl
theorem ww513 : (Cond.methodLink "SkyTrial$TextReader" (169 : Nat) ({ cls := "SkyTrial$TextReader", name := "literal", desc := "()V" } : Jvm.MethodName)) ∈ gTBL := gTBL_in 513 (by decide +kernel) rfl
theorem ww515 : (Cond.instanceMethod ({ cls := "SkyTrial$TextReader", name := "literal", desc := "()V" } : Jvm.MethodName)) ∈ gTBL := gTBL_in 515 (by decide +kernel) rfl
theorem ww516 : (Cond.code ({ cls := "SkyTrial$TextReader", name := "literal", desc := "()V" } : Jvm.MethodName) prog_9_method_15_code (3 : Nat) (Option.none : Option Jvm.ClassFile.FieldType)) ∈ gTBL := gTBL_in 516 (by decide +kernel) rfl
theorem ww517 : (Cond.methodLink "SkyTrial$TextReader" (162 : Nat) ({ cls := "SkyTrial$TextReader", name := "sum", desc := "(I)V" } : Jvm.MethodName)) ∈ gTBL := gTBL_in 517 (by decide +kernel) rfl
theorem ww519 : (Cond.instanceMethod ({ cls := "SkyTrial$TextReader", name := "sum", desc := "(I)V" } : Jvm.MethodName)) ∈ gTBL := gTBL_in 519 (by decide +kernel) rfl
theorem ww520 : (Cond.code ({ cls := "SkyTrial$TextReader", name := "sum", desc := "(I)V" } : Jvm.MethodName) prog_9_method_16_code (6 : Nat) (Option.none : Option Jvm.ClassFile.FieldType)) ∈ gTBL := gTBL_in 520 (by decide +kernel) rfl
theorem ww521 : (Cond.methodLink "SkyTrial$TextReader" (175 : Nat) ({ cls := "SkyTrial$TextReader", name := "unit", desc := "(I)V" } : Jvm.MethodName)) ∈ gTBL := gTBL_in 521 (by decide +kernel) rfl
theorem ww523 : (Cond.instanceMethod ({ cls := "SkyTrial$TextReader", name := "unit", desc := "(I)V" } : Jvm.MethodName)) ∈ gTBL := gTBL_in 523 (by decide +kernel) rfl
theorem ww524 : (Cond.code ({ cls := "SkyTrial$TextReader", name := "unit", desc := "(I)V" } : Jvm.MethodName) prog_9_method_17_code (3 : Nat) (Option.none : Option Jvm.ClassFile.FieldType)) ∈ gTBL := gTBL_in 524 (by decide +kernel) rfl
theorem ww525 : (Cond.constantLong "SkyTrial$TextReader" (178 : Nat) (8 : Int64)) ∈ gTBL := gTBL_in 525 (by decide +kernel) rfl
theorem ww526 : (Cond.methodLink "SkyTrial$TextReader" (172 : Nat) ({ cls := "SkyTrial$Told", name := "addStep", desc := "(II)V" } : Jvm.MethodName)) ∈ gTBL := gTBL_in 526 (by decide +kernel) rfl
theorem ww527 : (Cond.instanceMethod ({ cls := "SkyTrial$Told", name := "addStep", desc := "(II)V" } : Jvm.MethodName)) ∈ gTBL := gTBL_in 527 (by decide +kernel) rfl
theorem ww528 : (Cond.selects "SkyTrial$Told" ({ cls := "SkyTrial$Told", name := "addStep", desc := "(II)V" } : Jvm.MethodName) ({ cls := "SkyTrial$Told", name := "addStep", desc := "(II)V" } : Jvm.MethodName)) ∈ gTBL := gTBL_in 528 (by decide +kernel) rfl
theorem ww529 : (Cond.code ({ cls := "SkyTrial$Told", name := "addStep", desc := "(II)V" } : Jvm.MethodName) prog_11_method_3_code (3 : Nat) (Option.none : Option Jvm.ClassFile.FieldType)) ∈ gTBL := gTBL_in 529 (by decide +kernel) rfl
theorem ww531 : (Cond.methodLink "SkyTrial$TextReader" (123 : Nat) ({ cls := "SkyTrial$Told", name := "endFormula", desc := "(I)V" } : Jvm.MethodName)) ∈ gTBL := gTBL_in 531 (by decide +kernel) rfl
theorem ww532 : (Cond.instanceMethod ({ cls := "SkyTrial$Told", name := "endFormula", desc := "(I)V" } : Jvm.MethodName)) ∈ gTBL := gTBL_in 532 (by decide +kernel) rfl
theorem ww533 : (Cond.selects "SkyTrial$Told" ({ cls := "SkyTrial$Told", name := "endFormula", desc := "(I)V" } : Jvm.MethodName) ({ cls := "SkyTrial$Told", name := "endFormula", desc := "(I)V" } : Jvm.MethodName)) ∈ gTBL := gTBL_in 533 (by decide +kernel) rfl
theorem ww534 : (Cond.code ({ cls := "SkyTrial$Told", name := "endFormula", desc := "(I)V" } : Jvm.MethodName) prog_11_method_5_code (2 : Nat) (Option.none : Option Jvm.ClassFile.FieldType)) ∈ gTBL := gTBL_in 534 (by decide +kernel) rfl
theorem ww535 : (Cond.methodLink "SkyTrial$TextReader" (75 : Nat) ({ cls := "SkyTrial$TextReader", name := "tellSay", desc := "()V" } : Jvm.MethodName)) ∈ gTBL := gTBL_in 535 (by decide +kernel) rfl
theorem ww537 : (Cond.instanceMethod ({ cls := "SkyTrial$TextReader", name := "tellSay", desc := "()V" } : Jvm.MethodName)) ∈ gTBL := gTBL_in 537 (by decide +kernel) rfl
theorem ww538 : (Cond.code ({ cls := "SkyTrial$TextReader", name := "tellSay", desc := "()V" } : Jvm.MethodName) prog_9_method_7_code (2 : Nat) (Option.none : Option Jvm.ClassFile.FieldType)) ∈ gTBL := gTBL_in 538 (by decide +kernel) rfl
theorem ww539 : (Cond.methodLink "SkyTrial$TextReader" (78 : Nat) ({ cls := "SkyTrial$TextReader", name := "tellBook", desc := "()V" } : Jvm.MethodName)) ∈ gTBL := gTBL_in 539 (by decide +kernel) rfl
theorem ww541 : (Cond.instanceMethod ({ cls := "SkyTrial$TextReader", name := "tellBook", desc := "()V" } : Jvm.MethodName)) ∈ gTBL := gTBL_in 541 (by decide +kernel) rfl
theorem ww542 : (Cond.code ({ cls := "SkyTrial$TextReader", name := "tellBook", desc := "()V" } : Jvm.MethodName) prog_9_method_8_code (1 : Nat) (Option.none : Option Jvm.ClassFile.FieldType)) ∈ gTBL := gTBL_in 542 (by decide +kernel) rfl
theorem ww543 : (Cond.methodLink "SkyTrial$TextReader" (81 : Nat) ({ cls := "SkyTrial$TextReader", name := "tellWhen", desc := "()V" } : Jvm.MethodName)) ∈ gTBL := gTBL_in 543 (by decide +kernel) rfl
theorem ww545 : (Cond.instanceMethod ({ cls := "SkyTrial$TextReader", name := "tellWhen", desc := "()V" } : Jvm.MethodName)) ∈ gTBL := gTBL_in 545 (by decide +kernel) rfl
theorem ww546 : (Cond.code ({ cls := "SkyTrial$TextReader", name := "tellWhen", desc := "()V" } : Jvm.MethodName) prog_9_method_9_code (4 : Nat) (Option.none : Option Jvm.ClassFile.FieldType)) ∈ gTBL := gTBL_in 546 (by decide +kernel) rfl
theorem ww547 : (Cond.methodLink "SkyTrial$TextReader" (148 : Nat) ({ cls := "SkyTrial$TextReader", name := "nameAhead", desc := "(I)I" } : Jvm.MethodName)) ∈ gTBL := gTBL_in 547 (by decide +kernel) rfl
theorem ww549 : (Cond.instanceMethod ({ cls := "SkyTrial$TextReader", name := "nameAhead", desc := "(I)I" } : Jvm.MethodName)) ∈ gTBL := gTBL_in 549 (by decide +kernel) rfl
theorem ww550 : (Cond.code ({ cls := "SkyTrial$TextReader", name := "nameAhead", desc := "(I)I" } : Jvm.MethodName) prog_9_method_13_code (3 : Nat) (Option.some Jvm.ClassFile.FieldType.int)) ∈ gTBL := gTBL_in 550 (by decide +kernel) rfl
theorem ww551 : (Cond.methodLink "SkyTrial$TextReader" (152 : Nat) ({ cls := "SkyTrial$Told", name := "hasWhen", desc := "(III)Z" } : Jvm.MethodName)) ∈ gTBL := gTBL_in 551 (by decide +kernel) rfl
theorem ww552 : (Cond.instanceMethod ({ cls := "SkyTrial$Told", name := "hasWhen", desc := "(III)Z" } : Jvm.MethodName)) ∈ gTBL := gTBL_in 552 (by decide +kernel) rfl
theorem ww553 : (Cond.selects "SkyTrial$Told" ({ cls := "SkyTrial$Told", name := "hasWhen", desc := "(III)Z" } : Jvm.MethodName) ({ cls := "SkyTrial$Told", name := "hasWhen", desc := "(III)Z" } : Jvm.MethodName)) ∈ gTBL := gTBL_in 553 (by decide +kernel) rfl
theorem ww554 : (Cond.code ({ cls := "SkyTrial$Told", name := "hasWhen", desc := "(III)Z" } : Jvm.MethodName) prog_11_method_7_code (5 : Nat) (Option.some Jvm.ClassFile.FieldType.boolean)) ∈ gTBL := gTBL_in 554 (by decide +kernel) rfl
theorem ww555 : (Cond.methodLink "SkyTrial$TextReader" (155 : Nat) ({ cls := "SkyTrial$Told", name := "addWhen", desc := "(III)V" } : Jvm.MethodName)) ∈ gTBL := gTBL_in 555 (by decide +kernel) rfl
theorem ww556 : (Cond.instanceMethod ({ cls := "SkyTrial$Told", name := "addWhen", desc := "(III)V" } : Jvm.MethodName)) ∈ gTBL := gTBL_in 556 (by decide +kernel) rfl
theorem ww557 : (Cond.selects "SkyTrial$Told" ({ cls := "SkyTrial$Told", name := "addWhen", desc := "(III)V" } : Jvm.MethodName) ({ cls := "SkyTrial$Told", name := "addWhen", desc := "(III)V" } : Jvm.MethodName)) ∈ gTBL := gTBL_in 557 (by decide +kernel) rfl
theorem ww558 : (Cond.code ({ cls := "SkyTrial$Told", name := "addWhen", desc := "(III)V" } : Jvm.MethodName) prog_11_method_6_code (4 : Nat) (Option.none : Option Jvm.ClassFile.FieldType)) ∈ gTBL := gTBL_in 558 (by decide +kernel) rfl
theorem ww559 : (Cond.methodLink "SkyTrial$TextReader" (84 : Nat) ({ cls := "SkyTrial$TextReader", name := "tellLaw", desc := "()V" } : Jvm.MethodName)) ∈ gTBL := gTBL_in 559 (by decide +kernel) rfl
theorem ww561 : (Cond.instanceMethod ({ cls := "SkyTrial$TextReader", name := "tellLaw", desc := "()V" } : Jvm.MethodName)) ∈ gTBL := gTBL_in 561 (by decide +kernel) rfl
theorem ww562 : (Cond.code ({ cls := "SkyTrial$TextReader", name := "tellLaw", desc := "()V" } : Jvm.MethodName) prog_9_method_10_code (2 : Nat) (Option.none : Option Jvm.ClassFile.FieldType)) ∈ gTBL := gTBL_in 562 (by decide +kernel) rfl
theorem ww563 : (Cond.methodLink "SkyTrial" (76 : Nat) ({ cls := "SkyTrial$TextReader", name := "exchange", desc := "(LSkyTrial$Told;)LSkyTrial$Told;" } : Jvm.MethodName)) ∈ gTBL := gTBL_in 563 (by decide +kernel) rfl
theorem ww564 : (Cond.instanceMethod ({ cls := "SkyTrial$TextReader", name := "exchange", desc := "(LSkyTrial$Told;)LSkyTrial$Told;" } : Jvm.MethodName)) ∈ gTBL := gTBL_in 564 (by decide +kernel) rfl
theorem ww565 : (Cond.selects "SkyTrial$TextReader" ({ cls := "SkyTrial$TextReader", name := "exchange", desc := "(LSkyTrial$Told;)LSkyTrial$Told;" } : Jvm.MethodName) ({ cls := "SkyTrial$TextReader", name := "exchange", desc := "(LSkyTrial$Told;)LSkyTrial$Told;" } : Jvm.MethodName)) ∈ gTBL := gTBL_in 565 (by decide +kernel) rfl
theorem ww566 : (Cond.code ({ cls := "SkyTrial$TextReader", name := "exchange", desc := "(LSkyTrial$Told;)LSkyTrial$Told;" } : Jvm.MethodName) prog_9_method_4_code (3 : Nat) (Option.some (Jvm.ClassFile.FieldType.object "SkyTrial$Told"))) ∈ gTBL := gTBL_in 566 (by decide +kernel) rfl
theorem ww571 : (Cond.methodLink "SkyTrial" (80 : Nat) ({ cls := "SkyTrial$TextReader", name := "faultPlace", desc := "()I" } : Jvm.MethodName)) ∈ gTBL := gTBL_in 571 (by decide +kernel) rfl
theorem ww572 : (Cond.instanceMethod ({ cls := "SkyTrial$TextReader", name := "faultPlace", desc := "()I" } : Jvm.MethodName)) ∈ gTBL := gTBL_in 572 (by decide +kernel) rfl
theorem ww573 : (Cond.selects "SkyTrial$TextReader" ({ cls := "SkyTrial$TextReader", name := "faultPlace", desc := "()I" } : Jvm.MethodName) ({ cls := "SkyTrial$TextReader", name := "faultPlace", desc := "()I" } : Jvm.MethodName)) ∈ gTBL := gTBL_in 573 (by decide +kernel) rfl
theorem ww574 : (Cond.code ({ cls := "SkyTrial$TextReader", name := "faultPlace", desc := "()I" } : Jvm.MethodName) prog_9_method_3_code (1 : Nat) (Option.some Jvm.ClassFile.FieldType.int)) ∈ gTBL := gTBL_in 574 (by decide +kernel) rfl
theorem ww579 : (Cond.constant "SkyTrial" (87 : Nat) (99999999 : Int32)) ∈ gTBL := gTBL_in 579 (by decide +kernel) rfl
theorem ww580 : (Cond.methodLink "SkyTrial" (88 : Nat) ({ cls := "SkyTrial", name := "inRange", desc := "(III)Z" } : Jvm.MethodName)) ∈ gTBL := gTBL_in 580 (by decide +kernel) rfl
theorem ww581 : (Cond.methodLink "SkyTrial" (92 : Nat) ({ cls := "SkyTrial$People", name := "setTrait", desc := "(III)V" } : Jvm.MethodName)) ∈ gTBL := gTBL_in 581 (by decide +kernel) rfl
theorem ww582 : (Cond.instanceMethod ({ cls := "SkyTrial$People", name := "setTrait", desc := "(III)V" } : Jvm.MethodName)) ∈ gTBL := gTBL_in 582 (by decide +kernel) rfl
theorem ww583 : (Cond.selects "SkyTrial$People" ({ cls := "SkyTrial$People", name := "setTrait", desc := "(III)V" } : Jvm.MethodName) ({ cls := "SkyTrial$People", name := "setTrait", desc := "(III)V" } : Jvm.MethodName)) ∈ gTBL := gTBL_in 583 (by decide +kernel) rfl
theorem ww584 : (Cond.code ({ cls := "SkyTrial$People", name := "setTrait", desc := "(III)V" } : Jvm.MethodName) prog_4_method_4_code (4 : Nat) (Option.none : Option Jvm.ClassFile.FieldType)) ∈ gTBL := gTBL_in 584 (by decide +kernel) rfl
theorem ww586 : (Cond.methodLink "SkyTrial" (96 : Nat) ({ cls := "SkyTrial$People", name := "setWays", desc := "(II)V" } : Jvm.MethodName)) ∈ gTBL := gTBL_in 586 (by decide +kernel) rfl
theorem ww587 : (Cond.instanceMethod ({ cls := "SkyTrial$People", name := "setWays", desc := "(II)V" } : Jvm.MethodName)) ∈ gTBL := gTBL_in 587 (by decide +kernel) rfl
theorem ww588 : (Cond.selects "SkyTrial$People" ({ cls := "SkyTrial$People", name := "setWays", desc := "(II)V" } : Jvm.MethodName) ({ cls := "SkyTrial$People", name := "setWays", desc := "(II)V" } : Jvm.MethodName)) ∈ gTBL := gTBL_in 588 (by decide +kernel) rfl
theorem ww589 : (Cond.code ({ cls := "SkyTrial$People", name := "setWays", desc := "(II)V" } : Jvm.MethodName) prog_4_method_5_code (5 : Nat) (Option.none : Option Jvm.ClassFile.FieldType)) ∈ gTBL := gTBL_in 589 (by decide +kernel) rfl
theorem ww590 : (Cond.methodLink "SkyTrial$People" (23 : Nat) ({ cls := "SkyTrial$People", name := "setTrait", desc := "(III)V" } : Jvm.MethodName)) ∈ gTBL := gTBL_in 590 (by decide +kernel) rfl
theorem ww595 : (Cond.methodLink "SkyTrial" (100 : Nat) ({ cls := "SkyTrial$People", name := "draw", desc := "(II)V" } : Jvm.MethodName)) ∈ gTBL := gTBL_in 595 (by decide +kernel) rfl
theorem ww596 : (Cond.instanceMethod ({ cls := "SkyTrial$People", name := "draw", desc := "(II)V" } : Jvm.MethodName)) ∈ gTBL := gTBL_in 596 (by decide +kernel) rfl
theorem ww597 : (Cond.selects "SkyTrial$People" ({ cls := "SkyTrial$People", name := "draw", desc := "(II)V" } : Jvm.MethodName) ({ cls := "SkyTrial$People", name := "draw", desc := "(II)V" } : Jvm.MethodName)) ∈ gTBL := gTBL_in 597 (by decide +kernel) rfl
theorem ww598 : (Cond.code ({ cls := "SkyTrial$People", name := "draw", desc := "(II)V" } : Jvm.MethodName) prog_4_method_6_code (4 : Nat) (Option.none : Option Jvm.ClassFile.FieldType)) ∈ gTBL := gTBL_in 598 (by decide +kernel) rfl
theorem ww601 : (Cond.methodLink "SkyTrial$People" (30 : Nat) ({ cls := "SkyTrial$People", name := "lot", desc := "(III)I" } : Jvm.MethodName)) ∈ gTBL := gTBL_in 601 (by decide +kernel) rfl
theorem ww602 : (Cond.static ({ cls := "SkyTrial$People", name := "lot", desc := "(III)I" } : Jvm.MethodName)) ∈ gTBL := gTBL_in 602 (by decide +kernel) rfl
theorem ww603 : (Cond.code ({ cls := "SkyTrial$People", name := "lot", desc := "(III)I" } : Jvm.MethodName) prog_4_method_11_code (4 : Nat) (Option.some Jvm.ClassFile.FieldType.int)) ∈ gTBL := gTBL_in 603 (by decide +kernel) rfl
theorem ww604 : (Cond.methodLink "SkyTrial$People" (41 : Nat) ({ cls := "SkyTrial$People", name := "mix", desc := "(II)I" } : Jvm.MethodName)) ∈ gTBL := gTBL_in 604 (by decide +kernel) rfl
theorem ww605 : (Cond.static ({ cls := "SkyTrial$People", name := "mix", desc := "(II)I" } : Jvm.MethodName)) ∈ gTBL := gTBL_in 605 (by decide +kernel) rfl
theorem ww606 : (Cond.code ({ cls := "SkyTrial$People", name := "mix", desc := "(II)I" } : Jvm.MethodName) prog_4_method_12_code (3 : Nat) (Option.some Jvm.ClassFile.FieldType.int)) ∈ gTBL := gTBL_in 606 (by decide +kernel) rfl
theorem ww607 : (Cond.constant "SkyTrial$People" (44 : Nat) (1103515245 : Int32)) ∈ gTBL := gTBL_in 607 (by decide +kernel) rfl
theorem ww608 : (Cond.methodLink "SkyTrial" (103 : Nat) ({ cls := "SkyTrial$Sky", name := "markBySigns", desc := "(III)V" } : Jvm.MethodName)) ∈ gTBL := gTBL_in 608 (by decide +kernel) rfl
theorem ww609 : (Cond.instanceMethod ({ cls := "SkyTrial$Sky", name := "markBySigns", desc := "(III)V" } : Jvm.MethodName)) ∈ gTBL := gTBL_in 609 (by decide +kernel) rfl
theorem ww610 : (Cond.selects "SkyTrial$Sky" ({ cls := "SkyTrial$Sky", name := "markBySigns", desc := "(III)V" } : Jvm.MethodName) ({ cls := "SkyTrial$Sky", name := "markBySigns", desc := "(III)V" } : Jvm.MethodName)) ∈ gTBL := gTBL_in 610 (by decide +kernel) rfl
theorem ww611 : (Cond.code ({ cls := "SkyTrial$Sky", name := "markBySigns", desc := "(III)V" } : Jvm.MethodName) prog_6_method_6_code (6 : Nat) (Option.none : Option Jvm.ClassFile.FieldType)) ∈ gTBL := gTBL_in 611 (by decide +kernel) rfl
theorem ww612 : (Cond.methodLink "SkyTrial$Sky" (45 : Nat) ({ cls := "SkyTrial$Sky", name := "setPerson", desc := "(I)V" } : Jvm.MethodName)) ∈ gTBL := gTBL_in 612 (by decide +kernel) rfl
theorem ww614 : (Cond.instanceMethod ({ cls := "SkyTrial$Sky", name := "setPerson", desc := "(I)V" } : Jvm.MethodName)) ∈ gTBL := gTBL_in 614 (by decide +kernel) rfl
theorem ww615 : (Cond.code ({ cls := "SkyTrial$Sky", name := "setPerson", desc := "(I)V" } : Jvm.MethodName) prog_6_method_16_code (3 : Nat) (Option.none : Option Jvm.ClassFile.FieldType)) ∈ gTBL := gTBL_in 615 (by decide +kernel) rfl
theorem ww616 : (Cond.methodLink "SkyTrial$Sky" (59 : Nat) ({ cls := "SkyTrial$People", name := "trait", desc := "(II)I" } : Jvm.MethodName)) ∈ gTBL := gTBL_in 616 (by decide +kernel) rfl
theorem ww617 : (Cond.instanceMethod ({ cls := "SkyTrial$People", name := "trait", desc := "(II)I" } : Jvm.MethodName)) ∈ gTBL := gTBL_in 617 (by decide +kernel) rfl
theorem ww618 : (Cond.selects "SkyTrial$People" ({ cls := "SkyTrial$People", name := "trait", desc := "(II)I" } : Jvm.MethodName) ({ cls := "SkyTrial$People", name := "trait", desc := "(II)I" } : Jvm.MethodName)) ∈ gTBL := gTBL_in 618 (by decide +kernel) rfl
theorem ww619 : (Cond.code ({ cls := "SkyTrial$People", name := "trait", desc := "(II)I" } : Jvm.MethodName) prog_4_method_3_code (3 : Nat) (Option.some Jvm.ClassFile.FieldType.int)) ∈ gTBL := gTBL_in 619 (by decide +kernel) rfl
theorem ww620 : (Cond.methodLink "SkyTrial$Sky" (68 : Nat) ({ cls := "SkyTrial$Reckoner", name := "valueOf", desc := "(LSkyTrial$Told;I)I" } : Jvm.MethodName)) ∈ gTBL := gTBL_in 620 (by decide +kernel) rfl
theorem ww621 : (Cond.instanceMethod ({ cls := "SkyTrial$Reckoner", name := "valueOf", desc := "(LSkyTrial$Told;I)I" } : Jvm.MethodName)) ∈ gTBL := gTBL_in 621 (by decide +kernel) rfl
theorem ww622 : (Cond.selects "SkyTrial$Reckoner" ({ cls := "SkyTrial$Reckoner", name := "valueOf", desc := "(LSkyTrial$Told;I)I" } : Jvm.MethodName) ({ cls := "SkyTrial$Reckoner", name := "valueOf", desc := "(LSkyTrial$Told;I)I" } : Jvm.MethodName)) ∈ gTBL := gTBL_in 622 (by decide +kernel) rfl
theorem ww623 : (Cond.code ({ cls := "SkyTrial$Reckoner", name := "valueOf", desc := "(LSkyTrial$Told;I)I" } : Jvm.MethodName) prog_5_method_2_code (5 : Nat) (Option.some Jvm.ClassFile.FieldType.int)) ∈ gTBL := gTBL_in 623 (by decide +kernel) rfl
theorem ww625 : (Cond.methodLink "SkyTrial$Reckoner" (34 : Nat) ({ cls := "java/lang/Math", name := "min", desc := "(II)I" } : Jvm.MethodName)) ∈ gTBL := gTBL_in 625 (by decide +kernel) rfl
theorem ww626 : (Cond.static ({ cls := "java/lang/Math", name := "min", desc := "(II)I" } : Jvm.MethodName)) ∈ gTBL := gTBL_in 626 (by decide +kernel) rfl
theorem ww627 : (Cond.code ({ cls := "java/lang/Math", name := "min", desc := "(II)I" } : Jvm.MethodName) prog_16_method_69_code (2 : Nat) (Option.some Jvm.ClassFile.FieldType.int)) ∈ gTBL := gTBL_in 627 (by decide +kernel) rfl
theorem ww628 : (Cond.methodLink "SkyTrial$Reckoner" (43 : Nat) ({ cls := "java/lang/Math", name := "max", desc := "(II)I" } : Jvm.MethodName)) ∈ gTBL := gTBL_in 628 (by decide +kernel) rfl
theorem ww629 : (Cond.static ({ cls := "java/lang/Math", name := "max", desc := "(II)I" } : Jvm.MethodName)) ∈ gTBL := gTBL_in 629 (by decide +kernel) rfl
theorem ww630 : (Cond.code ({ cls := "java/lang/Math", name := "max", desc := "(II)I" } : Jvm.MethodName) prog_16_method_65_code (2 : Nat) (Option.some Jvm.ClassFile.FieldType.int)) ∈ gTBL := gTBL_in 630 (by decide +kernel) rfl
theorem ww631 : (Cond.methodLink "SkyTrial$Reckoner" (52 : Nat) ({ cls := "SkyTrial$Reckoner", name := "step", desc := "(II)V" } : Jvm.MethodName)) ∈ gTBL := gTBL_in 631 (by decide +kernel) rfl
theorem ww633 : (Cond.instanceMethod ({ cls := "SkyTrial$Reckoner", name := "step", desc := "(II)V" } : Jvm.MethodName)) ∈ gTBL := gTBL_in 633 (by decide +kernel) rfl
theorem ww634 : (Cond.code ({ cls := "SkyTrial$Reckoner", name := "step", desc := "(II)V" } : Jvm.MethodName) prog_5_method_3_code (5 : Nat) (Option.none : Option Jvm.ClassFile.FieldType)) ∈ gTBL := gTBL_in 634 (by decide +kernel) rfl
theorem ww635 : (Cond.methodLink "SkyTrial$Reckoner" (60 : Nat) ({ cls := "SkyTrial$Reckoner", name := "push", desc := "(I)V" } : Jvm.MethodName)) ∈ gTBL := gTBL_in 635 (by decide +kernel) rfl
theorem ww637 : (Cond.instanceMethod ({ cls := "SkyTrial$Reckoner", name := "push", desc := "(I)V" } : Jvm.MethodName)) ∈ gTBL := gTBL_in 637 (by decide +kernel) rfl
theorem ww638 : (Cond.code ({ cls := "SkyTrial$Reckoner", name := "push", desc := "(I)V" } : Jvm.MethodName) prog_5_method_5_code (2 : Nat) (Option.none : Option Jvm.ClassFile.FieldType)) ∈ gTBL := gTBL_in 638 (by decide +kernel) rfl
theorem ww639 : (Cond.methodLink "SkyTrial$Reckoner" (56 : Nat) ({ cls := "SkyTrial$Reckoner", name := "pop", desc := "()I" } : Jvm.MethodName)) ∈ gTBL := gTBL_in 639 (by decide +kernel) rfl
theorem ww641 : (Cond.instanceMethod ({ cls := "SkyTrial$Reckoner", name := "pop", desc := "()I" } : Jvm.MethodName)) ∈ gTBL := gTBL_in 641 (by decide +kernel) rfl
theorem ww642 : (Cond.code ({ cls := "SkyTrial$Reckoner", name := "pop", desc := "()I" } : Jvm.MethodName) prog_5_method_6_code (1 : Nat) (Option.some Jvm.ClassFile.FieldType.int)) ∈ gTBL := gTBL_in 642 (by decide +kernel) rfl
theorem ww643 : (Cond.methodLink "SkyTrial$Reckoner" (64 : Nat) ({ cls := "SkyTrial$Reckoner", name := "joined", desc := "(III)I" } : Jvm.MethodName)) ∈ gTBL := gTBL_in 643 (by decide +kernel) rfl
theorem ww644 : (Cond.static ({ cls := "SkyTrial$Reckoner", name := "joined", desc := "(III)I" } : Jvm.MethodName)) ∈ gTBL := gTBL_in 644 (by decide +kernel) rfl
theorem ww645 : (Cond.code ({ cls := "SkyTrial$Reckoner", name := "joined", desc := "(III)I" } : Jvm.MethodName) prog_5_method_4_code (3 : Nat) (Option.some Jvm.ClassFile.FieldType.int)) ∈ gTBL := gTBL_in 645 (by decide +kernel) rfl
theorem ww646 : (Cond.methodLink "SkyTrial$Sky" (72 : Nat) ({ cls := "SkyTrial$People", name := "lot", desc := "(III)I" } : Jvm.MethodName)) ∈ gTBL := gTBL_in 646 (by decide +kernel) rfl
theorem ww647 : (Cond.methodLink "SkyTrial$Sky" (76 : Nat) ({ cls := "SkyTrial$People", name := "setTrait", desc := "(III)V" } : Jvm.MethodName)) ∈ gTBL := gTBL_in 647 (by decide +kernel) rfl
theorem ww652 : (Cond.methodLink "SkyTrial" (106 : Nat) ({ cls := "SkyTrial$People", name := "has", desc := "(I)Z" } : Jvm.MethodName)) ∈ gTBL := gTBL_in 652 (by decide +kernel) rfl
theorem ww653 : (Cond.instanceMethod ({ cls := "SkyTrial$People", name := "has", desc := "(I)Z" } : Jvm.MethodName)) ∈ gTBL := gTBL_in 653 (by decide +kernel) rfl
theorem ww654 : (Cond.selects "SkyTrial$People" ({ cls := "SkyTrial$People", name := "has", desc := "(I)Z" } : Jvm.MethodName) ({ cls := "SkyTrial$People", name := "has", desc := "(I)Z" } : Jvm.MethodName)) ∈ gTBL := gTBL_in 654 (by decide +kernel) rfl
theorem ww655 : (Cond.code ({ cls := "SkyTrial$People", name := "has", desc := "(I)Z" } : Jvm.MethodName) prog_4_method_2_code (2 : Nat) (Option.some Jvm.ClassFile.FieldType.boolean)) ∈ gTBL := gTBL_in 655 (by decide +kernel) rfl
theorem ww656 : (Cond.methodLink "SkyTrial" (110 : Nat) ({ cls := "SkyTrial$People", name := "trait", desc := "(II)I" } : Jvm.MethodName)) ∈ gTBL := gTBL_in 656 (by decide +kernel) rfl
theorem ww661 : (Cond.methodLink "SkyTrial" (114 : Nat) ({ cls := "SkyTrial$Sky", name := "upAt", desc := "(II)I" } : Jvm.MethodName)) ∈ gTBL := gTBL_in 661 (by decide +kernel) rfl
theorem ww662 : (Cond.instanceMethod ({ cls := "SkyTrial$Sky", name := "upAt", desc := "(II)I" } : Jvm.MethodName)) ∈ gTBL := gTBL_in 662 (by decide +kernel) rfl
theorem ww663 : (Cond.selects "SkyTrial$Sky" ({ cls := "SkyTrial$Sky", name := "upAt", desc := "(II)I" } : Jvm.MethodName) ({ cls := "SkyTrial$Sky", name := "upAt", desc := "(II)I" } : Jvm.MethodName)) ∈ gTBL := gTBL_in 663 (by decide +kernel) rfl
theorem ww664 : (Cond.code ({ cls := "SkyTrial$Sky", name := "upAt", desc := "(II)I" } : Jvm.MethodName) prog_6_method_4_code (3 : Nat) (Option.some Jvm.ClassFile.FieldType.int)) ∈ gTBL := gTBL_in 664 (by decide +kernel) rfl
theorem ww665 : (Cond.methodLink "SkyTrial$Sky" (52 : Nat) ({ cls := "SkyTrial$Sky", name := "bitsOf", desc := "(II)I" } : Jvm.MethodName)) ∈ gTBL := gTBL_in 665 (by decide +kernel) rfl
theorem ww667 : (Cond.instanceMethod ({ cls := "SkyTrial$Sky", name := "bitsOf", desc := "(II)I" } : Jvm.MethodName)) ∈ gTBL := gTBL_in 667 (by decide +kernel) rfl
theorem ww668 : (Cond.code ({ cls := "SkyTrial$Sky", name := "bitsOf", desc := "(II)I" } : Jvm.MethodName) prog_6_method_17_code (5 : Nat) (Option.some Jvm.ClassFile.FieldType.int)) ∈ gTBL := gTBL_in 668 (by decide +kernel) rfl
theorem ww673 : (Cond.methodLink "SkyTrial" (117 : Nat) ({ cls := "SkyTrial", name := "isStep", desc := "(I)Z" } : Jvm.MethodName)) ∈ gTBL := gTBL_in 673 (by decide +kernel) rfl
theorem ww674 : (Cond.static ({ cls := "SkyTrial", name := "isStep", desc := "(I)Z" } : Jvm.MethodName)) ∈ gTBL := gTBL_in 674 (by decide +kernel) rfl
theorem ww675 : (Cond.code ({ cls := "SkyTrial", name := "isStep", desc := "(I)Z" } : Jvm.MethodName) prog_1_method_45_code (1 : Nat) (Option.some Jvm.ClassFile.FieldType.boolean)) ∈ gTBL := gTBL_in 675 (by decide +kernel) rfl
theorem ww676 : (Cond.methodLink "SkyTrial" (120 : Nat) ({ cls := "SkyTrial", name := "roundedMinute", desc := "(II)I" } : Jvm.MethodName)) ∈ gTBL := gTBL_in 676 (by decide +kernel) rfl
theorem ww678 : (Cond.instanceMethod ({ cls := "SkyTrial", name := "roundedMinute", desc := "(II)I" } : Jvm.MethodName)) ∈ gTBL := gTBL_in 678 (by decide +kernel) rfl
theorem ww679 : (Cond.code ({ cls := "SkyTrial", name := "roundedMinute", desc := "(II)I" } : Jvm.MethodName) prog_1_method_50_code (4 : Nat) (Option.some Jvm.ClassFile.FieldType.int)) ∈ gTBL := gTBL_in 679 (by decide +kernel) rfl
theorem ww684 : (Cond.methodLink "SkyTrial" (123 : Nat) ({ cls := "java/lang/Math", name := "floorMod", desc := "(II)I" } : Jvm.MethodName)) ∈ gTBL := gTBL_in 684 (by decide +kernel) rfl
theorem ww685 : (Cond.static ({ cls := "java/lang/Math", name := "floorMod", desc := "(II)I" } : Jvm.MethodName)) ∈ gTBL := gTBL_in 685 (by decide +kernel) rfl
theorem ww686 : (Cond.code ({ cls := "java/lang/Math", name := "floorMod", desc := "(II)I" } : Jvm.MethodName) prog_16_method_50_code (3 : Nat) (Option.some Jvm.ClassFile.FieldType.int)) ∈ gTBL := gTBL_in 686 (by decide +kernel) rfl
theorem ww691 : (Cond.methodLink "SkyTrial" (128 : Nat) ({ cls := "SkyTrial", name := "isSentence", desc := "(I)Z" } : Jvm.MethodName)) ∈ gTBL := gTBL_in 691 (by decide +kernel) rfl
theorem ww693 : (Cond.instanceMethod ({ cls := "SkyTrial", name := "isSentence", desc := "(I)Z" } : Jvm.MethodName)) ∈ gTBL := gTBL_in 693 (by decide +kernel) rfl
theorem ww694 : (Cond.code ({ cls := "SkyTrial", name := "isSentence", desc := "(I)Z" } : Jvm.MethodName) prog_1_method_47_code (2 : Nat) (Option.some Jvm.ClassFile.FieldType.boolean)) ∈ gTBL := gTBL_in 694 (by decide +kernel) rfl
theorem ww695 : (Cond.methodLink "SkyTrial" (131 : Nat) ({ cls := "SkyTrial$Sky", name := "trueOf", desc := "(I)I" } : Jvm.MethodName)) ∈ gTBL := gTBL_in 695 (by decide +kernel) rfl
theorem ww696 : (Cond.instanceMethod ({ cls := "SkyTrial$Sky", name := "trueOf", desc := "(I)I" } : Jvm.MethodName)) ∈ gTBL := gTBL_in 696 (by decide +kernel) rfl
theorem ww697 : (Cond.selects "SkyTrial$Sky" ({ cls := "SkyTrial$Sky", name := "trueOf", desc := "(I)I" } : Jvm.MethodName) ({ cls := "SkyTrial$Sky", name := "trueOf", desc := "(I)I" } : Jvm.MethodName)) ∈ gTBL := gTBL_in 697 (by decide +kernel) rfl
theorem ww698 : (Cond.code ({ cls := "SkyTrial$Sky", name := "trueOf", desc := "(I)I" } : Jvm.MethodName) prog_6_method_5_code (2 : Nat) (Option.some Jvm.ClassFile.FieldType.int)) ∈ gTBL := gTBL_in 698 (by decide +kernel) rfl
theorem ww699 : (Cond.methodLink "SkyTrial" (135 : Nat) ({ cls := "SkyTrial", name := "bitOf", desc := "(II)I" } : Jvm.MethodName)) ∈ gTBL := gTBL_in 699 (by decide +kernel) rfl
theorem ww700 : (Cond.static ({ cls := "SkyTrial", name := "bitOf", desc := "(II)I" } : Jvm.MethodName)) ∈ gTBL := gTBL_in 700 (by decide +kernel) rfl
theorem ww701 : (Cond.code ({ cls := "SkyTrial", name := "bitOf", desc := "(II)I" } : Jvm.MethodName) prog_1_method_44_code (2 : Nat) (Option.some Jvm.ClassFile.FieldType.int)) ∈ gTBL := gTBL_in 701 (by decide +kernel) rfl
theorem ww710 : (Cond.methodLink "SkyTrial" (144 : Nat) ({ cls := "SkyTrial", name := "isBook", desc := "(I)Z" } : Jvm.MethodName)) ∈ gTBL := gTBL_in 710 (by decide +kernel) rfl
theorem ww712 : (Cond.instanceMethod ({ cls := "SkyTrial", name := "isBook", desc := "(I)Z" } : Jvm.MethodName)) ∈ gTBL := gTBL_in 712 (by decide +kernel) rfl
theorem ww713 : (Cond.code ({ cls := "SkyTrial", name := "isBook", desc := "(I)Z" } : Jvm.MethodName) prog_1_method_48_code (2 : Nat) (Option.some Jvm.ClassFile.FieldType.boolean)) ∈ gTBL := gTBL_in 713 (by decide +kernel) rfl
theorem ww714 : (Cond.methodLink "SkyTrial" (147 : Nat) ({ cls := "SkyTrial$Sky", name := "upNow", desc := "(I)I" } : Jvm.MethodName)) ∈ gTBL := gTBL_in 714 (by decide +kernel) rfl
theorem ww715 : (Cond.instanceMethod ({ cls := "SkyTrial$Sky", name := "upNow", desc := "(I)I" } : Jvm.MethodName)) ∈ gTBL := gTBL_in 715 (by decide +kernel) rfl
theorem ww716 : (Cond.selects "SkyTrial$Sky" ({ cls := "SkyTrial$Sky", name := "upNow", desc := "(I)I" } : Jvm.MethodName) ({ cls := "SkyTrial$Sky", name := "upNow", desc := "(I)I" } : Jvm.MethodName)) ∈ gTBL := gTBL_in 716 (by decide +kernel) rfl
theorem ww717 : (Cond.code ({ cls := "SkyTrial$Sky", name := "upNow", desc := "(I)I" } : Jvm.MethodName) prog_6_method_3_code (2 : Nat) (Option.some Jvm.ClassFile.FieldType.int)) ∈ gTBL := gTBL_in 717 (by decide +kernel) rfl
theorem ww718 : (Cond.methodLink "SkyTrial$Sky" (62 : Nat) ({ cls := "SkyTrial$Sky", name := "upAt", desc := "(II)I" } : Jvm.MethodName)) ∈ gTBL := gTBL_in 718 (by decide +kernel) rfl
theorem ww719 : (Cond.methodLink "SkyTrial" (150 : Nat) ({ cls := "SkyTrial$Told", name := "paperOf", desc := "(II)I" } : Jvm.MethodName)) ∈ gTBL := gTBL_in 719 (by decide +kernel) rfl
theorem ww720 : (Cond.instanceMethod ({ cls := "SkyTrial$Told", name := "paperOf", desc := "(II)I" } : Jvm.MethodName)) ∈ gTBL := gTBL_in 720 (by decide +kernel) rfl
theorem ww721 : (Cond.selects "SkyTrial$Told" ({ cls := "SkyTrial$Told", name := "paperOf", desc := "(II)I" } : Jvm.MethodName) ({ cls := "SkyTrial$Told", name := "paperOf", desc := "(II)I" } : Jvm.MethodName)) ∈ gTBL := gTBL_in 721 (by decide +kernel) rfl
theorem ww722 : (Cond.code ({ cls := "SkyTrial$Told", name := "paperOf", desc := "(II)I" } : Jvm.MethodName) prog_11_method_8_code (5 : Nat) (Option.some Jvm.ClassFile.FieldType.int)) ∈ gTBL := gTBL_in 722 (by decide +kernel) rfl
theorem ww732 : (Cond.methodLink "SkyTrial" (153 : Nat) ({ cls := "SkyTrial$Sky", name := "survey", desc := "()V" } : Jvm.MethodName)) ∈ gTBL := gTBL_in 732 (by decide +kernel) rfl
theorem ww733 : (Cond.instanceMethod ({ cls := "SkyTrial$Sky", name := "survey", desc := "()V" } : Jvm.MethodName)) ∈ gTBL := gTBL_in 733 (by decide +kernel) rfl
theorem ww734 : (Cond.selects "SkyTrial$Sky" ({ cls := "SkyTrial$Sky", name := "survey", desc := "()V" } : Jvm.MethodName) ({ cls := "SkyTrial$Sky", name := "survey", desc := "()V" } : Jvm.MethodName)) ∈ gTBL := gTBL_in 734 (by decide +kernel) rfl
theorem ww735 : (Cond.code ({ cls := "SkyTrial$Sky", name := "survey", desc := "()V" } : Jvm.MethodName) prog_6_method_2_code (2 : Nat) (Option.none : Option Jvm.ClassFile.FieldType)) ∈ gTBL := gTBL_in 735 (by decide +kernel) rfl
theorem ww740 : (Cond.methodLink "SkyTrial" (165 : Nat) ({ cls := "SkyTrial$Sky", name := "howManyTrue", desc := "(I)I" } : Jvm.MethodName)) ∈ gTBL := gTBL_in 740 (by decide +kernel) rfl
theorem ww741 : (Cond.instanceMethod ({ cls := "SkyTrial$Sky", name := "howManyTrue", desc := "(I)I" } : Jvm.MethodName)) ∈ gTBL := gTBL_in 741 (by decide +kernel) rfl
theorem ww742 : (Cond.selects "SkyTrial$Sky" ({ cls := "SkyTrial$Sky", name := "howManyTrue", desc := "(I)I" } : Jvm.MethodName) ({ cls := "SkyTrial$Sky", name := "howManyTrue", desc := "(I)I" } : Jvm.MethodName)) ∈ gTBL := gTBL_in 742 (by decide +kernel) rfl
theorem ww743 : (Cond.code ({ cls := "SkyTrial$Sky", name := "howManyTrue", desc := "(I)I" } : Jvm.MethodName) prog_6_method_7_code (4 : Nat) (Option.some Jvm.ClassFile.FieldType.int)) ∈ gTBL := gTBL_in 743 (by decide +kernel) rfl
theorem ww749 : (Cond.methodLink "SkyTrial" (168 : Nat) ({ cls := "SkyTrial", name := "isLaw", desc := "(I)Z" } : Jvm.MethodName)) ∈ gTBL := gTBL_in 749 (by decide +kernel) rfl
theorem ww751 : (Cond.instanceMethod ({ cls := "SkyTrial", name := "isLaw", desc := "(I)Z" } : Jvm.MethodName)) ∈ gTBL := gTBL_in 751 (by decide +kernel) rfl
theorem ww752 : (Cond.code ({ cls := "SkyTrial", name := "isLaw", desc := "(I)Z" } : Jvm.MethodName) prog_1_method_49_code (2 : Nat) (Option.some Jvm.ClassFile.FieldType.boolean)) ∈ gTBL := gTBL_in 752 (by decide +kernel) rfl
theorem ww753 : (Cond.constant "SkyTrial" (171 : Nat) (-2147483648 : Int32)) ∈ gTBL := gTBL_in 753 (by decide +kernel) rfl
theorem ww754 : (Cond.methodLink "SkyTrial" (172 : Nat) ({ cls := "SkyTrial$Told", name := "withoutSorts", desc := "(II)I" } : Jvm.MethodName)) ∈ gTBL := gTBL_in 754 (by decide +kernel) rfl
theorem ww755 : (Cond.instanceMethod ({ cls := "SkyTrial$Told", name := "withoutSorts", desc := "(II)I" } : Jvm.MethodName)) ∈ gTBL := gTBL_in 755 (by decide +kernel) rfl
theorem ww756 : (Cond.selects "SkyTrial$Told" ({ cls := "SkyTrial$Told", name := "withoutSorts", desc := "(II)I" } : Jvm.MethodName) ({ cls := "SkyTrial$Told", name := "withoutSorts", desc := "(II)I" } : Jvm.MethodName)) ∈ gTBL := gTBL_in 756 (by decide +kernel) rfl
theorem ww757 : (Cond.code ({ cls := "SkyTrial$Told", name := "withoutSorts", desc := "(II)I" } : Jvm.MethodName) prog_11_method_9_code (5 : Nat) (Option.some Jvm.ClassFile.FieldType.int)) ∈ gTBL := gTBL_in 757 (by decide +kernel) rfl
theorem ww758 : (Cond.methodLink "SkyTrial" (175 : Nat) ({ cls := "SkyTrial$Sky", name := "fitOf", desc := "(III)I" } : Jvm.MethodName)) ∈ gTBL := gTBL_in 758 (by decide +kernel) rfl
theorem ww759 : (Cond.instanceMethod ({ cls := "SkyTrial$Sky", name := "fitOf", desc := "(III)I" } : Jvm.MethodName)) ∈ gTBL := gTBL_in 759 (by decide +kernel) rfl
theorem ww760 : (Cond.selects "SkyTrial$Sky" ({ cls := "SkyTrial$Sky", name := "fitOf", desc := "(III)I" } : Jvm.MethodName) ({ cls := "SkyTrial$Sky", name := "fitOf", desc := "(III)I" } : Jvm.MethodName)) ∈ gTBL := gTBL_in 760 (by decide +kernel) rfl
theorem ww761 : (Cond.code ({ cls := "SkyTrial$Sky", name := "fitOf", desc := "(III)I" } : Jvm.MethodName) prog_6_method_8_code (5 : Nat) (Option.some Jvm.ClassFile.FieldType.int)) ∈ gTBL := gTBL_in 761 (by decide +kernel) rfl
theorem ww766 : (Cond.methodLink "SkyTrial" (179 : Nat) ({ cls := "SkyTrial$Sky", name := "sixthsOf", desc := "(IIIII)I" } : Jvm.MethodName)) ∈ gTBL := gTBL_in 766 (by decide +kernel) rfl
theorem ww767 : (Cond.instanceMethod ({ cls := "SkyTrial$Sky", name := "sixthsOf", desc := "(IIIII)I" } : Jvm.MethodName)) ∈ gTBL := gTBL_in 767 (by decide +kernel) rfl
theorem ww768 : (Cond.selects "SkyTrial$Sky" ({ cls := "SkyTrial$Sky", name := "sixthsOf", desc := "(IIIII)I" } : Jvm.MethodName) ({ cls := "SkyTrial$Sky", name := "sixthsOf", desc := "(IIIII)I" } : Jvm.MethodName)) ∈ gTBL := gTBL_in 768 (by decide +kernel) rfl
theorem ww769 : (Cond.code ({ cls := "SkyTrial$Sky", name := "sixthsOf", desc := "(IIIII)I" } : Jvm.MethodName) prog_6_method_11_code (6 : Nat) (Option.some Jvm.ClassFile.FieldType.int)) ∈ gTBL := gTBL_in 769 (by decide +kernel) rfl
theorem ww770 : (Cond.methodLink "SkyTrial$Sky" (92 : Nat) ({ cls := "SkyTrial$Sky", name := "weigh", desc := "(IIII)I" } : Jvm.MethodName)) ∈ gTBL := gTBL_in 770 (by decide +kernel) rfl
theorem ww771 : (Cond.instanceMethod ({ cls := "SkyTrial$Sky", name := "weigh", desc := "(IIII)I" } : Jvm.MethodName)) ∈ gTBL := gTBL_in 771 (by decide +kernel) rfl
theorem ww772 : (Cond.selects "SkyTrial$Sky" ({ cls := "SkyTrial$Sky", name := "weigh", desc := "(IIII)I" } : Jvm.MethodName) ({ cls := "SkyTrial$Sky", name := "weigh", desc := "(IIII)I" } : Jvm.MethodName)) ∈ gTBL := gTBL_in 772 (by decide +kernel) rfl
theorem ww773 : (Cond.code ({ cls := "SkyTrial$Sky", name := "weigh", desc := "(IIII)I" } : Jvm.MethodName) prog_6_method_9_code (5 : Nat) (Option.some Jvm.ClassFile.FieldType.int)) ∈ gTBL := gTBL_in 773 (by decide +kernel) rfl
theorem ww774 : (Cond.methodLink "SkyTrial$Sky" (86 : Nat) ({ cls := "SkyTrial$Told", name := "paperOf", desc := "(II)I" } : Jvm.MethodName)) ∈ gTBL := gTBL_in 774 (by decide +kernel) rfl
theorem ww775 : (Cond.methodLink "SkyTrial$Sky" (89 : Nat) ({ cls := "SkyTrial$Sky", name := "fitOf", desc := "(III)I" } : Jvm.MethodName)) ∈ gTBL := gTBL_in 775 (by decide +kernel) rfl
theorem ww776 : (Cond.methodLink "SkyTrial$Sky" (96 : Nat) ({ cls := "SkyTrial$Sky", name := "sixths", desc := "(III)I" } : Jvm.MethodName)) ∈ gTBL := gTBL_in 776 (by decide +kernel) rfl
theorem ww778 : (Cond.instanceMethod ({ cls := "SkyTrial$Sky", name := "sixths", desc := "(III)I" } : Jvm.MethodName)) ∈ gTBL := gTBL_in 778 (by decide +kernel) rfl
theorem ww779 : (Cond.code ({ cls := "SkyTrial$Sky", name := "sixths", desc := "(III)I" } : Jvm.MethodName) prog_6_method_15_code (5 : Nat) (Option.some Jvm.ClassFile.FieldType.int)) ∈ gTBL := gTBL_in 779 (by decide +kernel) rfl
theorem ww784 : (Cond.methodLink "SkyTrial" (183 : Nat) ({ cls := "SkyTrial$People", name := "firstGiven", desc := "(II)I" } : Jvm.MethodName)) ∈ gTBL := gTBL_in 784 (by decide +kernel) rfl
theorem ww785 : (Cond.instanceMethod ({ cls := "SkyTrial$People", name := "firstGiven", desc := "(II)I" } : Jvm.MethodName)) ∈ gTBL := gTBL_in 785 (by decide +kernel) rfl
theorem ww786 : (Cond.selects "SkyTrial$People" ({ cls := "SkyTrial$People", name := "firstGiven", desc := "(II)I" } : Jvm.MethodName) ({ cls := "SkyTrial$People", name := "firstGiven", desc := "(II)I" } : Jvm.MethodName)) ∈ gTBL := gTBL_in 786 (by decide +kernel) rfl
theorem ww787 : (Cond.code ({ cls := "SkyTrial$People", name := "firstGiven", desc := "(II)I" } : Jvm.MethodName) prog_4_method_8_code (3 : Nat) (Option.some Jvm.ClassFile.FieldType.int)) ∈ gTBL := gTBL_in 787 (by decide +kernel) rfl
theorem ww788 : (Cond.methodLink "SkyTrial$People" (38 : Nat) ({ cls := "SkyTrial$People", name := "nthOther", desc := "(III)I" } : Jvm.MethodName)) ∈ gTBL := gTBL_in 788 (by decide +kernel) rfl
theorem ww790 : (Cond.instanceMethod ({ cls := "SkyTrial$People", name := "nthOther", desc := "(III)I" } : Jvm.MethodName)) ∈ gTBL := gTBL_in 790 (by decide +kernel) rfl
theorem ww791 : (Cond.code ({ cls := "SkyTrial$People", name := "nthOther", desc := "(III)I" } : Jvm.MethodName) prog_4_method_10_code (6 : Nat) (Option.some Jvm.ClassFile.FieldType.int)) ∈ gTBL := gTBL_in 791 (by decide +kernel) rfl
theorem ww792 : (Cond.methodLink "SkyTrial" (186 : Nat) ({ cls := "SkyTrial$People", name := "secondGiven", desc := "(III)I" } : Jvm.MethodName)) ∈ gTBL := gTBL_in 792 (by decide +kernel) rfl
theorem ww793 : (Cond.instanceMethod ({ cls := "SkyTrial$People", name := "secondGiven", desc := "(III)I" } : Jvm.MethodName)) ∈ gTBL := gTBL_in 793 (by decide +kernel) rfl
theorem ww794 : (Cond.selects "SkyTrial$People" ({ cls := "SkyTrial$People", name := "secondGiven", desc := "(III)I" } : Jvm.MethodName) ({ cls := "SkyTrial$People", name := "secondGiven", desc := "(III)I" } : Jvm.MethodName)) ∈ gTBL := gTBL_in 794 (by decide +kernel) rfl
theorem ww795 : (Cond.code ({ cls := "SkyTrial$People", name := "secondGiven", desc := "(III)I" } : Jvm.MethodName) prog_4_method_9_code (4 : Nat) (Option.some Jvm.ClassFile.FieldType.int)) ∈ gTBL := gTBL_in 795 (by decide +kernel) rfl
theorem ww804 : (Cond.methodLink "SkyTrial" (189 : Nat) ({ cls := "SkyTrial$Sky", name := "weighAll", desc := "(III)V" } : Jvm.MethodName)) ∈ gTBL := gTBL_in 804 (by decide +kernel) rfl
theorem ww805 : (Cond.instanceMethod ({ cls := "SkyTrial$Sky", name := "weighAll", desc := "(III)V" } : Jvm.MethodName)) ∈ gTBL := gTBL_in 805 (by decide +kernel) rfl
theorem ww806 : (Cond.selects "SkyTrial$Sky" ({ cls := "SkyTrial$Sky", name := "weighAll", desc := "(III)V" } : Jvm.MethodName) ({ cls := "SkyTrial$Sky", name := "weighAll", desc := "(III)V" } : Jvm.MethodName)) ∈ gTBL := gTBL_in 806 (by decide +kernel) rfl
theorem ww807 : (Cond.code ({ cls := "SkyTrial$Sky", name := "weighAll", desc := "(III)V" } : Jvm.MethodName) prog_6_method_10_code (5 : Nat) (Option.none : Option Jvm.ClassFile.FieldType)) ∈ gTBL := gTBL_in 807 (by decide +kernel) rfl
theorem ww808 : (Cond.methodLink "SkyTrial" (192 : Nat) ({ cls := "SkyTrial$Sky", name := "sixthsOfAllTwos", desc := "(I)I" } : Jvm.MethodName)) ∈ gTBL := gTBL_in 808 (by decide +kernel) rfl
theorem ww809 : (Cond.instanceMethod ({ cls := "SkyTrial$Sky", name := "sixthsOfAllTwos", desc := "(I)I" } : Jvm.MethodName)) ∈ gTBL := gTBL_in 809 (by decide +kernel) rfl
theorem ww810 : (Cond.selects "SkyTrial$Sky" ({ cls := "SkyTrial$Sky", name := "sixthsOfAllTwos", desc := "(I)I" } : Jvm.MethodName) ({ cls := "SkyTrial$Sky", name := "sixthsOfAllTwos", desc := "(I)I" } : Jvm.MethodName)) ∈ gTBL := gTBL_in 810 (by decide +kernel) rfl
theorem ww811 : (Cond.code ({ cls := "SkyTrial$Sky", name := "sixthsOfAllTwos", desc := "(I)I" } : Jvm.MethodName) prog_6_method_12_code (5 : Nat) (Option.some Jvm.ClassFile.FieldType.int)) ∈ gTBL := gTBL_in 811 (by decide +kernel) rfl
theorem ww816 : (Cond.methodLink "SkyTrial" (195 : Nat) ({ cls := "SkyTrial$Sky", name := "weigh", desc := "(IIII)I" } : Jvm.MethodName)) ∈ gTBL := gTBL_in 816 (by decide +kernel) rfl
theorem ww821 : (Cond.constantLong "SkyTrial" (199 : Nat) (-1 : Int64)) ∈ gTBL := gTBL_in 821 (by decide +kernel) rfl
theorem ww822 : (Cond.methodLink "SkyTrial" (201 : Nat) ({ cls := "SkyTrial$Chance", name := "tailOf", desc := "(IIII)J" } : Jvm.MethodName)) ∈ gTBL := gTBL_in 822 (by decide +kernel) rfl
theorem ww823 : (Cond.instanceMethod ({ cls := "SkyTrial$Chance", name := "tailOf", desc := "(IIII)J" } : Jvm.MethodName)) ∈ gTBL := gTBL_in 823 (by decide +kernel) rfl
theorem ww824 : (Cond.selects "SkyTrial$Chance" ({ cls := "SkyTrial$Chance", name := "tailOf", desc := "(IIII)J" } : Jvm.MethodName) ({ cls := "SkyTrial$Chance", name := "tailOf", desc := "(IIII)J" } : Jvm.MethodName)) ∈ gTBL := gTBL_in 824 (by decide +kernel) rfl
theorem ww825 : (Cond.code ({ cls := "SkyTrial$Chance", name := "tailOf", desc := "(IIII)J" } : Jvm.MethodName) prog_2_method_2_code (6 : Nat) (Option.some Jvm.ClassFile.FieldType.long)) ∈ gTBL := gTBL_in 825 (by decide +kernel) rfl
theorem ww826 : (Cond.methodLink "SkyTrial$Chance" (27 : Nat) ({ cls := "SkyTrial$Chance", name := "startRow", desc := "([J)V" } : Jvm.MethodName)) ∈ gTBL := gTBL_in 826 (by decide +kernel) rfl
theorem ww827 : (Cond.static ({ cls := "SkyTrial$Chance", name := "startRow", desc := "([J)V" } : Jvm.MethodName)) ∈ gTBL := gTBL_in 827 (by decide +kernel) rfl
theorem ww828 : (Cond.code ({ cls := "SkyTrial$Chance", name := "startRow", desc := "([J)V" } : Jvm.MethodName) prog_2_method_11_code (2 : Nat) (Option.none : Option Jvm.ClassFile.FieldType)) ∈ gTBL := gTBL_in 828 (by decide +kernel) rfl
theorem ww829 : (Cond.methodLink "SkyTrial$Chance" (31 : Nat) ({ cls := "SkyTrial$Chance", name := "addTry", desc := "([JIII)V" } : Jvm.MethodName)) ∈ gTBL := gTBL_in 829 (by decide +kernel) rfl
theorem ww830 : (Cond.static ({ cls := "SkyTrial$Chance", name := "addTry", desc := "([JIII)V" } : Jvm.MethodName)) ∈ gTBL := gTBL_in 830 (by decide +kernel) rfl
theorem ww831 : (Cond.code ({ cls := "SkyTrial$Chance", name := "addTry", desc := "([JIII)V" } : Jvm.MethodName) prog_2_method_12_code (5 : Nat) (Option.none : Option Jvm.ClassFile.FieldType)) ∈ gTBL := gTBL_in 831 (by decide +kernel) rfl
theorem ww832 : (Cond.methodLink "SkyTrial$Chance" (76 : Nat) ({ cls := "java/lang/Math", name := "min", desc := "(II)I" } : Jvm.MethodName)) ∈ gTBL := gTBL_in 832 (by decide +kernel) rfl
theorem ww833 : (Cond.methodLink "SkyTrial$Chance" (35 : Nat) ({ cls := "SkyTrial$Chance", name := "sumOf", desc := "([JII)J" } : Jvm.MethodName)) ∈ gTBL := gTBL_in 833 (by decide +kernel) rfl
theorem ww834 : (Cond.static ({ cls := "SkyTrial$Chance", name := "sumOf", desc := "([JII)J" } : Jvm.MethodName)) ∈ gTBL := gTBL_in 834 (by decide +kernel) rfl
theorem ww835 : (Cond.code ({ cls := "SkyTrial$Chance", name := "sumOf", desc := "([JII)J" } : Jvm.MethodName) prog_2_method_13_code (6 : Nat) (Option.some Jvm.ClassFile.FieldType.long)) ∈ gTBL := gTBL_in 835 (by decide +kernel) rfl
theorem ww836 : (Cond.methodLink "SkyTrial$Chance" (82 : Nat) ({ cls := "java/lang/Math", name := "max", desc := "(II)I" } : Jvm.MethodName)) ∈ gTBL := gTBL_in 836 (by decide +kernel) rfl
theorem ww841 : (Cond.methodLink "SkyTrial" (205 : Nat) ({ cls := "SkyTrial$Chance", name := "agreed", desc := "(III)I" } : Jvm.MethodName)) ∈ gTBL := gTBL_in 841 (by decide +kernel) rfl
theorem ww842 : (Cond.instanceMethod ({ cls := "SkyTrial$Chance", name := "agreed", desc := "(III)I" } : Jvm.MethodName)) ∈ gTBL := gTBL_in 842 (by decide +kernel) rfl
theorem ww843 : (Cond.selects "SkyTrial$Chance" ({ cls := "SkyTrial$Chance", name := "agreed", desc := "(III)I" } : Jvm.MethodName) ({ cls := "SkyTrial$Chance", name := "agreed", desc := "(III)I" } : Jvm.MethodName)) ∈ gTBL := gTBL_in 843 (by decide +kernel) rfl
theorem ww844 : (Cond.code ({ cls := "SkyTrial$Chance", name := "agreed", desc := "(III)I" } : Jvm.MethodName) prog_2_method_3_code (10 : Nat) (Option.some Jvm.ClassFile.FieldType.int)) ∈ gTBL := gTBL_in 844 (by decide +kernel) rfl
theorem ww845 : (Cond.constantLong "SkyTrial$Chance" (39 : Nat) (3 : Int64)) ∈ gTBL := gTBL_in 845 (by decide +kernel) rfl
theorem ww846 : (Cond.constantLong "SkyTrial$Chance" (41 : Nat) (2 : Int64)) ∈ gTBL := gTBL_in 846 (by decide +kernel) rfl
theorem ww851 : (Cond.methodLink "SkyTrial" (208 : Nat) ({ cls := "SkyTrial", name := "isSign", desc := "(I)Z" } : Jvm.MethodName)) ∈ gTBL := gTBL_in 851 (by decide +kernel) rfl
theorem ww853 : (Cond.instanceMethod ({ cls := "SkyTrial", name := "isSign", desc := "(I)Z" } : Jvm.MethodName)) ∈ gTBL := gTBL_in 853 (by decide +kernel) rfl
theorem ww854 : (Cond.code ({ cls := "SkyTrial", name := "isSign", desc := "(I)Z" } : Jvm.MethodName) prog_1_method_46_code (2 : Nat) (Option.some Jvm.ClassFile.FieldType.boolean)) ∈ gTBL := gTBL_in 854 (by decide +kernel) rfl
theorem ww855 : (Cond.methodLink "SkyTrial" (211 : Nat) ({ cls := "SkyTrial$Sky", name := "fillTable", desc := "(LSkyTrial$Table;II)V" } : Jvm.MethodName)) ∈ gTBL := gTBL_in 855 (by decide +kernel) rfl
theorem ww856 : (Cond.instanceMethod ({ cls := "SkyTrial$Sky", name := "fillTable", desc := "(LSkyTrial$Table;II)V" } : Jvm.MethodName)) ∈ gTBL := gTBL_in 856 (by decide +kernel) rfl
theorem ww857 : (Cond.selects "SkyTrial$Sky" ({ cls := "SkyTrial$Sky", name := "fillTable", desc := "(LSkyTrial$Table;II)V" } : Jvm.MethodName) ({ cls := "SkyTrial$Sky", name := "fillTable", desc := "(LSkyTrial$Table;II)V" } : Jvm.MethodName)) ∈ gTBL := gTBL_in 857 (by decide +kernel) rfl
theorem ww858 : (Cond.code ({ cls := "SkyTrial$Sky", name := "fillTable", desc := "(LSkyTrial$Table;II)V" } : Jvm.MethodName) prog_6_method_13_code (5 : Nat) (Option.none : Option Jvm.ClassFile.FieldType)) ∈ gTBL := gTBL_in 858 (by decide +kernel) rfl
theorem ww859 : (Cond.methodLink "SkyTrial$Sky" (99 : Nat) ({ cls := "SkyTrial$Table", name := "clear", desc := "()V" } : Jvm.MethodName)) ∈ gTBL := gTBL_in 859 (by decide +kernel) rfl
theorem ww860 : (Cond.instanceMethod ({ cls := "SkyTrial$Table", name := "clear", desc := "()V" } : Jvm.MethodName)) ∈ gTBL := gTBL_in 860 (by decide +kernel) rfl
theorem ww861 : (Cond.selects "SkyTrial$Table" ({ cls := "SkyTrial$Table", name := "clear", desc := "()V" } : Jvm.MethodName) ({ cls := "SkyTrial$Table", name := "clear", desc := "()V" } : Jvm.MethodName)) ∈ gTBL := gTBL_in 861 (by decide +kernel) rfl
theorem ww862 : (Cond.code ({ cls := "SkyTrial$Table", name := "clear", desc := "()V" } : Jvm.MethodName) prog_7_method_2_code (1 : Nat) (Option.none : Option Jvm.ClassFile.FieldType)) ∈ gTBL := gTBL_in 862 (by decide +kernel) rfl
theorem ww863 : (Cond.methodLink "SkyTrial$Sky" (104 : Nat) ({ cls := "SkyTrial$Table", name := "addOne", desc := "(II)V" } : Jvm.MethodName)) ∈ gTBL := gTBL_in 863 (by decide +kernel) rfl
theorem ww864 : (Cond.instanceMethod ({ cls := "SkyTrial$Table", name := "addOne", desc := "(II)V" } : Jvm.MethodName)) ∈ gTBL := gTBL_in 864 (by decide +kernel) rfl
theorem ww865 : (Cond.selects "SkyTrial$Table" ({ cls := "SkyTrial$Table", name := "addOne", desc := "(II)V" } : Jvm.MethodName) ({ cls := "SkyTrial$Table", name := "addOne", desc := "(II)V" } : Jvm.MethodName)) ∈ gTBL := gTBL_in 865 (by decide +kernel) rfl
theorem ww866 : (Cond.code ({ cls := "SkyTrial$Table", name := "addOne", desc := "(II)V" } : Jvm.MethodName) prog_7_method_3_code (3 : Nat) (Option.none : Option Jvm.ClassFile.FieldType)) ∈ gTBL := gTBL_in 866 (by decide +kernel) rfl
theorem ww867 : (Cond.methodLink "SkyTrial" (215 : Nat) ({ cls := "SkyTrial$Table", name := "part", desc := "(I)I" } : Jvm.MethodName)) ∈ gTBL := gTBL_in 867 (by decide +kernel) rfl
theorem ww868 : (Cond.instanceMethod ({ cls := "SkyTrial$Table", name := "part", desc := "(I)I" } : Jvm.MethodName)) ∈ gTBL := gTBL_in 868 (by decide +kernel) rfl
theorem ww869 : (Cond.selects "SkyTrial$Table" ({ cls := "SkyTrial$Table", name := "part", desc := "(I)I" } : Jvm.MethodName) ({ cls := "SkyTrial$Table", name := "part", desc := "(I)I" } : Jvm.MethodName)) ∈ gTBL := gTBL_in 869 (by decide +kernel) rfl
theorem ww870 : (Cond.code ({ cls := "SkyTrial$Table", name := "part", desc := "(I)I" } : Jvm.MethodName) prog_7_method_4_code (2 : Nat) (Option.some Jvm.ClassFile.FieldType.int)) ∈ gTBL := gTBL_in 870 (by decide +kernel) rfl
theorem ww875 : (Cond.methodLink "SkyTrial" (218 : Nat) ({ cls := "SkyTrial$Chance", name := "moreOf", desc := "(LSkyTrial$Table;)J" } : Jvm.MethodName)) ∈ gTBL := gTBL_in 875 (by decide +kernel) rfl
theorem ww876 : (Cond.instanceMethod ({ cls := "SkyTrial$Chance", name := "moreOf", desc := "(LSkyTrial$Table;)J" } : Jvm.MethodName)) ∈ gTBL := gTBL_in 876 (by decide +kernel) rfl
theorem ww877 : (Cond.selects "SkyTrial$Chance" ({ cls := "SkyTrial$Chance", name := "moreOf", desc := "(LSkyTrial$Table;)J" } : Jvm.MethodName) ({ cls := "SkyTrial$Chance", name := "moreOf", desc := "(LSkyTrial$Table;)J" } : Jvm.MethodName)) ∈ gTBL := gTBL_in 877 (by decide +kernel) rfl
theorem ww878 : (Cond.code ({ cls := "SkyTrial$Chance", name := "moreOf", desc := "(LSkyTrial$Table;)J" } : Jvm.MethodName) prog_2_method_5_code (5 : Nat) (Option.some Jvm.ClassFile.FieldType.long)) ∈ gTBL := gTBL_in 878 (by decide +kernel) rfl
theorem ww879 : (Cond.methodLink "SkyTrial$Chance" (59 : Nat) ({ cls := "SkyTrial$Chance", name := "takingJust", desc := "(LSkyTrial$Table;I)J" } : Jvm.MethodName)) ∈ gTBL := gTBL_in 879 (by decide +kernel) rfl
theorem ww881 : (Cond.instanceMethod ({ cls := "SkyTrial$Chance", name := "takingJust", desc := "(LSkyTrial$Table;I)J" } : Jvm.MethodName)) ∈ gTBL := gTBL_in 881 (by decide +kernel) rfl
theorem ww882 : (Cond.code ({ cls := "SkyTrial$Chance", name := "takingJust", desc := "(LSkyTrial$Table;I)J" } : Jvm.MethodName) prog_2_method_9_code (3 : Nat) (Option.some Jvm.ClassFile.FieldType.long)) ∈ gTBL := gTBL_in 882 (by decide +kernel) rfl
theorem ww883 : (Cond.methodLink "SkyTrial$Chance" (52 : Nat) ({ cls := "SkyTrial$Chance", name := "taking", desc := "(II)J" } : Jvm.MethodName)) ∈ gTBL := gTBL_in 883 (by decide +kernel) rfl
theorem ww885 : (Cond.instanceMethod ({ cls := "SkyTrial$Chance", name := "taking", desc := "(II)J" } : Jvm.MethodName)) ∈ gTBL := gTBL_in 885 (by decide +kernel) rfl
theorem ww886 : (Cond.code ({ cls := "SkyTrial$Chance", name := "taking", desc := "(II)J" } : Jvm.MethodName) prog_2_method_10_code (3 : Nat) (Option.some Jvm.ClassFile.FieldType.long)) ∈ gTBL := gTBL_in 886 (by decide +kernel) rfl
theorem ww888 : (Cond.methodLink "SkyTrial" (222 : Nat) ({ cls := "SkyTrial$Chance", name := "allOf", desc := "(LSkyTrial$Table;)J" } : Jvm.MethodName)) ∈ gTBL := gTBL_in 888 (by decide +kernel) rfl
theorem ww889 : (Cond.instanceMethod ({ cls := "SkyTrial$Chance", name := "allOf", desc := "(LSkyTrial$Table;)J" } : Jvm.MethodName)) ∈ gTBL := gTBL_in 889 (by decide +kernel) rfl
theorem ww890 : (Cond.selects "SkyTrial$Chance" ({ cls := "SkyTrial$Chance", name := "allOf", desc := "(LSkyTrial$Table;)J" } : Jvm.MethodName) ({ cls := "SkyTrial$Chance", name := "allOf", desc := "(LSkyTrial$Table;)J" } : Jvm.MethodName)) ∈ gTBL := gTBL_in 890 (by decide +kernel) rfl
theorem ww891 : (Cond.code ({ cls := "SkyTrial$Chance", name := "allOf", desc := "(LSkyTrial$Table;)J" } : Jvm.MethodName) prog_2_method_4_code (2 : Nat) (Option.some Jvm.ClassFile.FieldType.long)) ∈ gTBL := gTBL_in 891 (by decide +kernel) rfl
theorem ww896 : (Cond.methodLink "SkyTrial" (228 : Nat) ({ cls := "SkyTrial$Chance", name := "startSpread", desc := "()V" } : Jvm.MethodName)) ∈ gTBL := gTBL_in 896 (by decide +kernel) rfl
theorem ww897 : (Cond.instanceMethod ({ cls := "SkyTrial$Chance", name := "startSpread", desc := "()V" } : Jvm.MethodName)) ∈ gTBL := gTBL_in 897 (by decide +kernel) rfl
theorem ww898 : (Cond.selects "SkyTrial$Chance" ({ cls := "SkyTrial$Chance", name := "startSpread", desc := "()V" } : Jvm.MethodName) ({ cls := "SkyTrial$Chance", name := "startSpread", desc := "()V" } : Jvm.MethodName)) ∈ gTBL := gTBL_in 898 (by decide +kernel) rfl
theorem ww899 : (Cond.code ({ cls := "SkyTrial$Chance", name := "startSpread", desc := "()V" } : Jvm.MethodName) prog_2_method_6_code (1 : Nat) (Option.none : Option Jvm.ClassFile.FieldType)) ∈ gTBL := gTBL_in 899 (by decide +kernel) rfl
theorem ww900 : (Cond.methodLink "SkyTrial" (231 : Nat) ({ cls := "SkyTrial$Sky", name := "fillClassTable", desc := "(LSkyTrial$Table;IIII)V" } : Jvm.MethodName)) ∈ gTBL := gTBL_in 900 (by decide +kernel) rfl
theorem ww901 : (Cond.instanceMethod ({ cls := "SkyTrial$Sky", name := "fillClassTable", desc := "(LSkyTrial$Table;IIII)V" } : Jvm.MethodName)) ∈ gTBL := gTBL_in 901 (by decide +kernel) rfl
theorem ww902 : (Cond.selects "SkyTrial$Sky" ({ cls := "SkyTrial$Sky", name := "fillClassTable", desc := "(LSkyTrial$Table;IIII)V" } : Jvm.MethodName) ({ cls := "SkyTrial$Sky", name := "fillClassTable", desc := "(LSkyTrial$Table;IIII)V" } : Jvm.MethodName)) ∈ gTBL := gTBL_in 902 (by decide +kernel) rfl
theorem ww903 : (Cond.code ({ cls := "SkyTrial$Sky", name := "fillClassTable", desc := "(LSkyTrial$Table;IIII)V" } : Jvm.MethodName) prog_6_method_14_code (7 : Nat) (Option.none : Option Jvm.ClassFile.FieldType)) ∈ gTBL := gTBL_in 903 (by decide +kernel) rfl
theorem ww904 : (Cond.methodLink "SkyTrial$Sky" (108 : Nat) ({ cls := "SkyTrial$People", name := "classOf", desc := "(II)I" } : Jvm.MethodName)) ∈ gTBL := gTBL_in 904 (by decide +kernel) rfl
theorem ww905 : (Cond.instanceMethod ({ cls := "SkyTrial$People", name := "classOf", desc := "(II)I" } : Jvm.MethodName)) ∈ gTBL := gTBL_in 905 (by decide +kernel) rfl
theorem ww906 : (Cond.selects "SkyTrial$People" ({ cls := "SkyTrial$People", name := "classOf", desc := "(II)I" } : Jvm.MethodName) ({ cls := "SkyTrial$People", name := "classOf", desc := "(II)I" } : Jvm.MethodName)) ∈ gTBL := gTBL_in 906 (by decide +kernel) rfl
theorem ww907 : (Cond.code ({ cls := "SkyTrial$People", name := "classOf", desc := "(II)I" } : Jvm.MethodName) prog_4_method_7_code (3 : Nat) (Option.some Jvm.ClassFile.FieldType.int)) ∈ gTBL := gTBL_in 907 (by decide +kernel) rfl
theorem ww908 : (Cond.methodLink "SkyTrial$People" (34 : Nat) ({ cls := "SkyTrial$People", name := "trait", desc := "(II)I" } : Jvm.MethodName)) ∈ gTBL := gTBL_in 908 (by decide +kernel) rfl
theorem ww909 : (Cond.methodLink "SkyTrial" (235 : Nat) ({ cls := "SkyTrial$Chance", name := "widenSpread", desc := "(LSkyTrial$Table;)V" } : Jvm.MethodName)) ∈ gTBL := gTBL_in 909 (by decide +kernel) rfl
theorem ww910 : (Cond.instanceMethod ({ cls := "SkyTrial$Chance", name := "widenSpread", desc := "(LSkyTrial$Table;)V" } : Jvm.MethodName)) ∈ gTBL := gTBL_in 910 (by decide +kernel) rfl
theorem ww911 : (Cond.selects "SkyTrial$Chance" ({ cls := "SkyTrial$Chance", name := "widenSpread", desc := "(LSkyTrial$Table;)V" } : Jvm.MethodName) ({ cls := "SkyTrial$Chance", name := "widenSpread", desc := "(LSkyTrial$Table;)V" } : Jvm.MethodName)) ∈ gTBL := gTBL_in 911 (by decide +kernel) rfl
theorem ww912 : (Cond.code ({ cls := "SkyTrial$Chance", name := "widenSpread", desc := "(LSkyTrial$Table;)V" } : Jvm.MethodName) prog_2_method_7_code (4 : Nat) (Option.none : Option Jvm.ClassFile.FieldType)) ∈ gTBL := gTBL_in 912 (by decide +kernel) rfl
theorem ww913 : (Cond.methodLink "SkyTrial$Chance" (63 : Nat) ({ cls := "java/lang/System", name := "arraycopy", desc := "(Ljava/lang/Object;ILjava/lang/Object;II)V" } : Jvm.MethodName)) ∈ gTBL := gTBL_in 913 (by decide +kernel) rfl
theorem ww914 : (Cond.static ({ cls := "java/lang/System", name := "arraycopy", desc := "(Ljava/lang/Object;ILjava/lang/Object;II)V" } : Jvm.MethodName)) ∈ gTBL := gTBL_in 914 (by decide +kernel) rfl
theorem ww915 : (Cond.native ({ cls := "java/lang/System", name := "arraycopy", desc := "(Ljava/lang/Object;ILjava/lang/Object;II)V" } : Jvm.MethodName)) ∈ gTBL := gTBL_in 915 (by decide +kernel) rfl
theorem ww916 : (Cond.methodLink "SkyTrial" (239 : Nat) ({ cls := "SkyTrial$Chance", name := "spreadFrom", desc := "(I)J" } : Jvm.MethodName)) ∈ gTBL := gTBL_in 916 (by decide +kernel) rfl
theorem ww917 : (Cond.instanceMethod ({ cls := "SkyTrial$Chance", name := "spreadFrom", desc := "(I)J" } : Jvm.MethodName)) ∈ gTBL := gTBL_in 917 (by decide +kernel) rfl
theorem ww918 : (Cond.selects "SkyTrial$Chance" ({ cls := "SkyTrial$Chance", name := "spreadFrom", desc := "(I)J" } : Jvm.MethodName) ({ cls := "SkyTrial$Chance", name := "spreadFrom", desc := "(I)J" } : Jvm.MethodName)) ∈ gTBL := gTBL_in 918 (by decide +kernel) rfl
theorem ww919 : (Cond.code ({ cls := "SkyTrial$Chance", name := "spreadFrom", desc := "(I)J" } : Jvm.MethodName) prog_2_method_8_code (2 : Nat) (Option.some Jvm.ClassFile.FieldType.long)) ∈ gTBL := gTBL_in 919 (by decide +kernel) rfl
theorem ww932 : (Cond.methodLink "SkyTrial" (246 : Nat) ({ cls := "SkyTrial$Facts", name := "add", desc := "(III)I" } : Jvm.MethodName)) ∈ gTBL := gTBL_in 932 (by decide +kernel) rfl
theorem ww933 : (Cond.instanceMethod ({ cls := "SkyTrial$Facts", name := "add", desc := "(III)I" } : Jvm.MethodName)) ∈ gTBL := gTBL_in 933 (by decide +kernel) rfl
theorem ww934 : (Cond.selects "SkyTrial$Facts" ({ cls := "SkyTrial$Facts", name := "add", desc := "(III)I" } : Jvm.MethodName) ({ cls := "SkyTrial$Facts", name := "add", desc := "(III)I" } : Jvm.MethodName)) ∈ gTBL := gTBL_in 934 (by decide +kernel) rfl
theorem ww935 : (Cond.code ({ cls := "SkyTrial$Facts", name := "add", desc := "(III)I" } : Jvm.MethodName) prog_3_method_2_code (4 : Nat) (Option.some Jvm.ClassFile.FieldType.int)) ∈ gTBL := gTBL_in 935 (by decide +kernel) rfl
theorem ww948 : (Cond.methodLink "SkyTrial" (249 : Nat) ({ cls := "SkyTrial$Facts", name := "has", desc := "(I)Z" } : Jvm.MethodName)) ∈ gTBL := gTBL_in 948 (by decide +kernel) rfl
theorem ww949 : (Cond.instanceMethod ({ cls := "SkyTrial$Facts", name := "has", desc := "(I)Z" } : Jvm.MethodName)) ∈ gTBL := gTBL_in 949 (by decide +kernel) rfl
theorem ww950 : (Cond.selects "SkyTrial$Facts" ({ cls := "SkyTrial$Facts", name := "has", desc := "(I)Z" } : Jvm.MethodName) ({ cls := "SkyTrial$Facts", name := "has", desc := "(I)Z" } : Jvm.MethodName)) ∈ gTBL := gTBL_in 950 (by decide +kernel) rfl
theorem ww951 : (Cond.code ({ cls := "SkyTrial$Facts", name := "has", desc := "(I)Z" } : Jvm.MethodName) prog_3_method_3_code (2 : Nat) (Option.some Jvm.ClassFile.FieldType.boolean)) ∈ gTBL := gTBL_in 951 (by decide +kernel) rfl
theorem ww956 : (Cond.methodLink "SkyTrial" (253 : Nat) ({ cls := "SkyTrial$Facts", name := "canKnow", desc := "(I)Z" } : Jvm.MethodName)) ∈ gTBL := gTBL_in 956 (by decide +kernel) rfl
theorem ww957 : (Cond.instanceMethod ({ cls := "SkyTrial$Facts", name := "canKnow", desc := "(I)Z" } : Jvm.MethodName)) ∈ gTBL := gTBL_in 957 (by decide +kernel) rfl
theorem ww958 : (Cond.selects "SkyTrial$Facts" ({ cls := "SkyTrial$Facts", name := "canKnow", desc := "(I)Z" } : Jvm.MethodName) ({ cls := "SkyTrial$Facts", name := "canKnow", desc := "(I)Z" } : Jvm.MethodName)) ∈ gTBL := gTBL_in 958 (by decide +kernel) rfl
theorem ww959 : (Cond.code ({ cls := "SkyTrial$Facts", name := "canKnow", desc := "(I)Z" } : Jvm.MethodName) prog_3_method_4_code (2 : Nat) (Option.some Jvm.ClassFile.FieldType.boolean)) ∈ gTBL := gTBL_in 959 (by decide +kernel) rfl
theorem ww960 : (Cond.methodLink "SkyTrial" (256 : Nat) ({ cls := "SkyTrial$Facts", name := "know", desc := "(I)V" } : Jvm.MethodName)) ∈ gTBL := gTBL_in 960 (by decide +kernel) rfl
theorem ww961 : (Cond.instanceMethod ({ cls := "SkyTrial$Facts", name := "know", desc := "(I)V" } : Jvm.MethodName)) ∈ gTBL := gTBL_in 961 (by decide +kernel) rfl
theorem ww962 : (Cond.selects "SkyTrial$Facts" ({ cls := "SkyTrial$Facts", name := "know", desc := "(I)V" } : Jvm.MethodName) ({ cls := "SkyTrial$Facts", name := "know", desc := "(I)V" } : Jvm.MethodName)) ∈ gTBL := gTBL_in 962 (by decide +kernel) rfl
theorem ww963 : (Cond.code ({ cls := "SkyTrial$Facts", name := "know", desc := "(I)V" } : Jvm.MethodName) prog_3_method_5_code (3 : Nat) (Option.none : Option Jvm.ClassFile.FieldType)) ∈ gTBL := gTBL_in 963 (by decide +kernel) rfl
theorem ww964 : (Cond.methodLink "SkyTrial$Facts" (29 : Nat) ({ cls := "SkyTrial$Facts", name := "has", desc := "(I)Z" } : Jvm.MethodName)) ∈ gTBL := gTBL_in 964 (by decide +kernel) rfl
theorem ww965 : (Cond.methodLink "SkyTrial" (259 : Nat) ({ cls := "SkyTrial$Facts", name := "sumOf", desc := "(IZ)I" } : Jvm.MethodName)) ∈ gTBL := gTBL_in 965 (by decide +kernel) rfl
theorem ww966 : (Cond.instanceMethod ({ cls := "SkyTrial$Facts", name := "sumOf", desc := "(IZ)I" } : Jvm.MethodName)) ∈ gTBL := gTBL_in 966 (by decide +kernel) rfl
theorem ww967 : (Cond.selects "SkyTrial$Facts" ({ cls := "SkyTrial$Facts", name := "sumOf", desc := "(IZ)I" } : Jvm.MethodName) ({ cls := "SkyTrial$Facts", name := "sumOf", desc := "(IZ)I" } : Jvm.MethodName)) ∈ gTBL := gTBL_in 967 (by decide +kernel) rfl
theorem ww968 : (Cond.code ({ cls := "SkyTrial$Facts", name := "sumOf", desc := "(IZ)I" } : Jvm.MethodName) prog_3_method_6_code (5 : Nat) (Option.some Jvm.ClassFile.FieldType.int)) ∈ gTBL := gTBL_in 968 (by decide +kernel) rfl
theorem ww973 : (Cond.methodLink "SkyTrial" (263 : Nat) ({ cls := "SkyTrial$Facts", name := "howManySure", desc := "(II)I" } : Jvm.MethodName)) ∈ gTBL := gTBL_in 973 (by decide +kernel) rfl
theorem ww974 : (Cond.instanceMethod ({ cls := "SkyTrial$Facts", name := "howManySure", desc := "(II)I" } : Jvm.MethodName)) ∈ gTBL := gTBL_in 974 (by decide +kernel) rfl
theorem ww975 : (Cond.selects "SkyTrial$Facts" ({ cls := "SkyTrial$Facts", name := "howManySure", desc := "(II)I" } : Jvm.MethodName) ({ cls := "SkyTrial$Facts", name := "howManySure", desc := "(II)I" } : Jvm.MethodName)) ∈ gTBL := gTBL_in 975 (by decide +kernel) rfl
theorem ww976 : (Cond.code ({ cls := "SkyTrial$Facts", name := "howManySure", desc := "(II)I" } : Jvm.MethodName) prog_3_method_7_code (5 : Nat) (Option.some Jvm.ClassFile.FieldType.int)) ∈ gTBL := gTBL_in 976 (by decide +kernel) rfl
theorem ww981 : (Cond.methodLink "SkyTrial" (266 : Nat) ({ cls := "java/lang/Integer", name := "compare", desc := "(II)I" } : Jvm.MethodName)) ∈ gTBL := gTBL_in 981 (by decide +kernel) rfl
theorem ww982 : (Cond.static ({ cls := "java/lang/Integer", name := "compare", desc := "(II)I" } : Jvm.MethodName)) ∈ gTBL := gTBL_in 982 (by decide +kernel) rfl
theorem ww983 : (Cond.code ({ cls := "java/lang/Integer", name := "compare", desc := "(II)I" } : Jvm.MethodName) prog_14_method_40_code (2 : Nat) (Option.some Jvm.ClassFile.FieldType.int)) ∈ gTBL := gTBL_in 983 (by decide +kernel) rfl
theorem ww988 : (Cond.methodLink "SkyTrial" (271 : Nat) ({ cls := "SkyTrial$Facts", name := "isListed", desc := "(I)Z" } : Jvm.MethodName)) ∈ gTBL := gTBL_in 988 (by decide +kernel) rfl
theorem ww989 : (Cond.instanceMethod ({ cls := "SkyTrial$Facts", name := "isListed", desc := "(I)Z" } : Jvm.MethodName)) ∈ gTBL := gTBL_in 989 (by decide +kernel) rfl
theorem ww990 : (Cond.selects "SkyTrial$Facts" ({ cls := "SkyTrial$Facts", name := "isListed", desc := "(I)Z" } : Jvm.MethodName) ({ cls := "SkyTrial$Facts", name := "isListed", desc := "(I)Z" } : Jvm.MethodName)) ∈ gTBL := gTBL_in 990 (by decide +kernel) rfl
theorem ww991 : (Cond.code ({ cls := "SkyTrial$Facts", name := "isListed", desc := "(I)Z" } : Jvm.MethodName) prog_3_method_8_code (4 : Nat) (Option.some Jvm.ClassFile.FieldType.boolean)) ∈ gTBL := gTBL_in 991 (by decide +kernel) rfl
theorem ww996 : (Cond.methodLink "SkyTrial" (274 : Nat) ({ cls := "SkyTrial", name := "fillRedTable", desc := "(II)V" } : Jvm.MethodName)) ∈ gTBL := gTBL_in 996 (by decide +kernel) rfl
theorem ww998 : (Cond.instanceMethod ({ cls := "SkyTrial", name := "fillRedTable", desc := "(II)V" } : Jvm.MethodName)) ∈ gTBL := gTBL_in 998 (by decide +kernel) rfl
theorem ww999 : (Cond.code ({ cls := "SkyTrial", name := "fillRedTable", desc := "(II)V" } : Jvm.MethodName) prog_1_method_51_code (4 : Nat) (Option.none : Option Jvm.ClassFile.FieldType)) ∈ gTBL := gTBL_in 999 (by decide +kernel) rfl
theorem ww1000 : (Cond.methodLink "SkyTrial" (300 : Nat) ({ cls := "SkyTrial$Table", name := "clear", desc := "()V" } : Jvm.MethodName)) ∈ gTBL := gTBL_in 1000 (by decide +kernel) rfl
theorem ww1001 : (Cond.methodLink "SkyTrial" (303 : Nat) ({ cls := "SkyTrial$Table", name := "addOne", desc := "(II)V" } : Jvm.MethodName)) ∈ gTBL := gTBL_in 1001 (by decide +kernel) rfl
theorem ww1002 : (Cond.methodLink "SkyTrial" (283 : Nat) ({ cls := "SkyTrial$Facts", name := "unlikeTries", desc := "()I" } : Jvm.MethodName)) ∈ gTBL := gTBL_in 1002 (by decide +kernel) rfl
theorem ww1003 : (Cond.instanceMethod ({ cls := "SkyTrial$Facts", name := "unlikeTries", desc := "()I" } : Jvm.MethodName)) ∈ gTBL := gTBL_in 1003 (by decide +kernel) rfl
theorem ww1004 : (Cond.selects "SkyTrial$Facts" ({ cls := "SkyTrial$Facts", name := "unlikeTries", desc := "()I" } : Jvm.MethodName) ({ cls := "SkyTrial$Facts", name := "unlikeTries", desc := "()I" } : Jvm.MethodName)) ∈ gTBL := gTBL_in 1004 (by decide +kernel) rfl
theorem ww1005 : (Cond.code ({ cls := "SkyTrial$Facts", name := "unlikeTries", desc := "()I" } : Jvm.MethodName) prog_3_method_9_code (4 : Nat) (Option.some Jvm.ClassFile.FieldType.int)) ∈ gTBL := gTBL_in 1005 (by decide +kernel) rfl
theorem ww1006 : (Cond.methodLink "SkyTrial$Facts" (33 : Nat) ({ cls := "java/lang/Long", name := "bitCount", desc := "(J)I" } : Jvm.MethodName)) ∈ gTBL := gTBL_in 1006 (by decide +kernel) rfl
theorem ww1007 : (Cond.static ({ cls := "java/lang/Long", name := "bitCount", desc := "(J)I" } : Jvm.MethodName)) ∈ gTBL := gTBL_in 1007 (by decide +kernel) rfl
theorem ww1008 : (Cond.code ({ cls := "java/lang/Long", name := "bitCount", desc := "(J)I" } : Jvm.MethodName) prog_15_method_50_code (2 : Nat) (Option.some Jvm.ClassFile.FieldType.int)) ∈ gTBL := gTBL_in 1008 (by decide +kernel) rfl
theorem ww1009 : (Cond.constantLong "java/lang/Long" (314 : Nat) (6148914691236517205 : Int64)) ∈ gTBL := gTBL_in 1009 (by decide +kernel) rfl
theorem ww1010 : (Cond.constantLong "java/lang/Long" (316 : Nat) (3689348814741910323 : Int64)) ∈ gTBL := gTBL_in 1010 (by decide +kernel) rfl
theorem ww1011 : (Cond.constantLong "java/lang/Long" (318 : Nat) (1085102592571150095 : Int64)) ∈ gTBL := gTBL_in 1011 (by decide +kernel) rfl
theorem ww1012 : (Cond.methodLink "SkyTrial" (286 : Nat) ({ cls := "SkyTrial", name := "redStands", desc := "()Z" } : Jvm.MethodName)) ∈ gTBL := gTBL_in 1012 (by decide +kernel) rfl
theorem ww1014 : (Cond.instanceMethod ({ cls := "SkyTrial", name := "redStands", desc := "()Z" } : Jvm.MethodName)) ∈ gTBL := gTBL_in 1014 (by decide +kernel) rfl
theorem ww1015 : (Cond.code ({ cls := "SkyTrial", name := "redStands", desc := "()Z" } : Jvm.MethodName) prog_1_method_52_code (3 : Nat) (Option.some Jvm.ClassFile.FieldType.boolean)) ∈ gTBL := gTBL_in 1015 (by decide +kernel) rfl
theorem ww1016 : (Cond.methodLink "SkyTrial" (306 : Nat) ({ cls := "java/lang/Math", name := "max", desc := "(II)I" } : Jvm.MethodName)) ∈ gTBL := gTBL_in 1016 (by decide +kernel) rfl
theorem ww1017 : (Cond.constantLong "SkyTrial" (309 : Nat) (20 : Int64)) ∈ gTBL := gTBL_in 1017 (by decide +kernel) rfl
theorem ww1039 : (Cond.methodLink "SkyTrialModel" (174 : Nat) ({ cls := "SkyTrialModel", name := "appends", desc := "(JI)J" } : Jvm.MethodName)) ∈ gTBL := gTBL_in 1039 (by decide +kernel) rfl
theorem ww1040 : (Cond.static ({ cls := "SkyTrialModel", name := "appends", desc := "(JI)J" } : Jvm.MethodName)) ∈ gTBL := gTBL_in 1040 (by decide +kernel) rfl
theorem ww1041 : (Cond.code ({ cls := "SkyTrialModel", name := "appends", desc := "(JI)J" } : Jvm.MethodName) prog_13_method_9_code (3 : Nat) (Option.some Jvm.ClassFile.FieldType.long)) ∈ gTBL := gTBL_in 1041 (by decide +kernel) rfl
theorem ww1042 : (Cond.constantLong "SkyTrialModel" (172 : Nat) (27 : Int64)) ∈ gTBL := gTBL_in 1042 (by decide +kernel) rfl
theorem ww1043 : (Cond.fieldLink "SkyTrialModel" (13 : Nat) "SkyTrialModel" "tape" "[B") ∈ gTBL := gTBL_in 1043 (by decide +kernel) rfl
theorem ww1044 : (Cond.fieldLink "SkyTrialModel" (162 : Nat) "SkyTrialModel" "taped" "I") ∈ gTBL := gTBL_in 1044 (by decide +kernel) rfl
theorem ww1045 : (Cond.fieldLink "SkyTrialModel" (17 : Nat) "SkyTrialModel" "text" "[B") ∈ gTBL := gTBL_in 1045 (by decide +kernel) rfl
theorem ww1046 : (Cond.fieldLink "SkyTrialModel" (169 : Nat) "SkyTrialModel" "size" "I") ∈ gTBL := gTBL_in 1046 (by decide +kernel) rfl
theorem ww1047 : (Cond.fieldLink "SkyTrialModel" (20 : Nat) "SkyTrialModel" "tKind" "[I") ∈ gTBL := gTBL_in 1047 (by decide +kernel) rfl
theorem ww1048 : (Cond.fieldLink "SkyTrialModel" (24 : Nat) "SkyTrialModel" "tPlace" "[I") ∈ gTBL := gTBL_in 1048 (by decide +kernel) rfl
theorem ww1049 : (Cond.fieldLink "SkyTrialModel" (27 : Nat) "SkyTrialModel" "tValue" "[I") ∈ gTBL := gTBL_in 1049 (by decide +kernel) rfl
theorem ww1050 : (Cond.fieldLink "SkyTrialModel" (30 : Nat) "SkyTrialModel" "tName" "[J") ∈ gTBL := gTBL_in 1050 (by decide +kernel) rfl
theorem ww1051 : (Cond.fieldLink "SkyTrialModel" (34 : Nat) "SkyTrialModel" "keys" "[J") ∈ gTBL := gTBL_in 1051 (by decide +kernel) rfl
theorem ww1052 : (Cond.fieldLink "SkyTrialModel" (178 : Nat) "SkyTrialModel" "tokens" "I") ∈ gTBL := gTBL_in 1052 (by decide +kernel) rfl
theorem ww1053 : (Cond.fieldLink "SkyTrialModel" (203 : Nat) "SkyTrialModel" "t" "I") ∈ gTBL := gTBL_in 1053 (by decide +kernel) rfl
theorem ww1054 : (Cond.fieldLink "SkyTrialModel" (227 : Nat) "SkyTrialModel" "open" "I") ∈ gTBL := gTBL_in 1054 (by decide +kernel) rfl
theorem ww1055 : (Cond.fieldLink "SkyTrialModel" (200 : Nat) "SkyTrialModel" "fault" "I") ∈ gTBL := gTBL_in 1055 (by decide +kernel) rfl
theorem ww1056 : (Cond.fieldLink "SkyTrialModel" (206 : Nat) "SkyTrialModel" "faultPlace" "I") ∈ gTBL := gTBL_in 1056 (by decide +kernel) rfl
theorem ww1057 : (Cond.fieldLink "SkyTrialModel" (209 : Nat) "SkyTrialModel" "worst" "I") ∈ gTBL := gTBL_in 1057 (by decide +kernel) rfl
theorem ww1058 : (Cond.fieldLink "SkyTrialModel" (212 : Nat) "SkyTrialModel" "worstPlace" "I") ∈ gTBL := gTBL_in 1058 (by decide +kernel) rfl
theorem ww1059 : (Cond.fieldLink "SkyTrialModel" (37 : Nat) "SkyTrialModel" "place" "I") ∈ gTBL := gTBL_in 1059 (by decide +kernel) rfl
theorem ww1060 : (Cond.fieldLink "SkyTrialModel" (230 : Nat) "SkyTrialModel" "live" "I") ∈ gTBL := gTBL_in 1060 (by decide +kernel) rfl
theorem ww1061 : (Cond.fieldLink "SkyTrialModel" (233 : Nat) "SkyTrialModel" "side" "I") ∈ gTBL := gTBL_in 1061 (by decide +kernel) rfl
theorem ww1062 : (Cond.fieldLink "SkyTrialModel" (236 : Nat) "SkyTrialModel" "names" "I") ∈ gTBL := gTBL_in 1062 (by decide +kernel) rfl
theorem ww1063 : (Cond.fieldLink "SkyTrialModel" (40 : Nat) "SkyTrialModel" "nameOf" "[J") ∈ gTBL := gTBL_in 1063 (by decide +kernel) rfl
theorem ww1064 : (Cond.fieldLink "SkyTrialModel" (43 : Nat) "SkyTrialModel" "nameSort" "[I") ∈ gTBL := gTBL_in 1064 (by decide +kernel) rfl
theorem ww1065 : (Cond.fieldLink "SkyTrialModel" (46 : Nat) "SkyTrialModel" "nameAt" "[I") ∈ gTBL := gTBL_in 1065 (by decide +kernel) rfl
theorem ww1066 : (Cond.fieldLink "SkyTrialModel" (49 : Nat) "SkyTrialModel" "signs" "[I") ∈ gTBL := gTBL_in 1066 (by decide +kernel) rfl
theorem ww1067 : (Cond.fieldLink "SkyTrialModel" (52 : Nat) "SkyTrialModel" "says" "[I") ∈ gTBL := gTBL_in 1067 (by decide +kernel) rfl
theorem ww1068 : (Cond.fieldLink "SkyTrialModel" (55 : Nat) "SkyTrialModel" "books" "[I") ∈ gTBL := gTBL_in 1068 (by decide +kernel) rfl
theorem ww1069 : (Cond.fieldLink "SkyTrialModel" (58 : Nat) "SkyTrialModel" "laws" "[I") ∈ gTBL := gTBL_in 1069 (by decide +kernel) rfl
theorem ww1070 : (Cond.fieldLink "SkyTrialModel" (61 : Nat) "SkyTrialModel" "sortOf" "[I") ∈ gTBL := gTBL_in 1070 (by decide +kernel) rfl
theorem ww1071 : (Cond.fieldLink "SkyTrialModel" (64 : Nat) "SkyTrialModel" "whens" "[I") ∈ gTBL := gTBL_in 1071 (by decide +kernel) rfl
theorem ww1072 : (Cond.fieldLink "SkyTrialModel" (67 : Nat) "SkyTrialModel" "whenBook" "[I") ∈ gTBL := gTBL_in 1072 (by decide +kernel) rfl
theorem ww1073 : (Cond.fieldLink "SkyTrialModel" (70 : Nat) "SkyTrialModel" "whenSign" "[I") ∈ gTBL := gTBL_in 1073 (by decide +kernel) rfl
theorem ww1074 : (Cond.fieldLink "SkyTrialModel" (73 : Nat) "SkyTrialModel" "whenSay" "[I") ∈ gTBL := gTBL_in 1074 (by decide +kernel) rfl
theorem ww1075 : (Cond.fieldLink "SkyTrialModel" (76 : Nat) "SkyTrialModel" "litFirst" "[I") ∈ gTBL := gTBL_in 1075 (by decide +kernel) rfl
theorem ww1076 : (Cond.fieldLink "SkyTrialModel" (79 : Nat) "SkyTrialModel" "litLast" "[I") ∈ gTBL := gTBL_in 1076 (by decide +kernel) rfl
theorem ww1077 : (Cond.fieldLink "SkyTrialModel" (82 : Nat) "SkyTrialModel" "lawFrom" "[I") ∈ gTBL := gTBL_in 1077 (by decide +kernel) rfl
theorem ww1078 : (Cond.fieldLink "SkyTrialModel" (85 : Nat) "SkyTrialModel" "lawTo" "[I") ∈ gTBL := gTBL_in 1078 (by decide +kernel) rfl
theorem ww1079 : (Cond.fieldLink "SkyTrialModel" (239 : Nat) "SkyTrialModel" "lits" "I") ∈ gTBL := gTBL_in 1079 (by decide +kernel) rfl
theorem ww1080 : (Cond.fieldLink "SkyTrialModel" (88 : Nat) "SkyTrialModel" "litSort" "[I") ∈ gTBL := gTBL_in 1080 (by decide +kernel) rfl
theorem ww1081 : (Cond.fieldLink "SkyTrialModel" (91 : Nat) "SkyTrialModel" "litNot" "[Z") ∈ gTBL := gTBL_in 1081 (by decide +kernel) rfl
theorem ww1082 : (Cond.fieldLink "SkyTrialModel" (95 : Nat) "SkyTrialModel" "litOr" "[Z") ∈ gTBL := gTBL_in 1082 (by decide +kernel) rfl
theorem ww1083 : (Cond.fieldLink "SkyTrialModel" (98 : Nat) "SkyTrialModel" "litLeft" "[I") ∈ gTBL := gTBL_in 1083 (by decide +kernel) rfl
theorem ww1084 : (Cond.fieldLink "SkyTrialModel" (101 : Nat) "SkyTrialModel" "litRight" "[I") ∈ gTBL := gTBL_in 1084 (by decide +kernel) rfl
theorem ww1085 : (Cond.fieldLink "SkyTrialModel" (104 : Nat) "SkyTrialModel" "litEnd" "[I") ∈ gTBL := gTBL_in 1085 (by decide +kernel) rfl
theorem ww1086 : (Cond.fieldLink "SkyTrialModel" (242 : Nat) "SkyTrialModel" "codes" "I") ∈ gTBL := gTBL_in 1086 (by decide +kernel) rfl
theorem ww1087 : (Cond.fieldLink "SkyTrialModel" (107 : Nat) "SkyTrialModel" "code" "[I") ∈ gTBL := gTBL_in 1087 (by decide +kernel) rfl
theorem ww1088 : (Cond.fieldLink "SkyTrialModel" (110 : Nat) "SkyTrialModel" "codeInt" "[I") ∈ gTBL := gTBL_in 1088 (by decide +kernel) rfl
theorem ww1089 : (Cond.fieldLink "SkyTrialModel" (113 : Nat) "SkyTrialModel" "waits" "[I") ∈ gTBL := gTBL_in 1089 (by decide +kernel) rfl
theorem ww1090 : (Cond.fieldLink "SkyTrialModel" (291 : Nat) "SkyTrialModel" "waiting" "I") ∈ gTBL := gTBL_in 1090 (by decide +kernel) rfl
theorem ww1091 : (Cond.fieldLink "SkyTrialModel" (116 : Nat) "SkyTrialModel" "variables" "[I") ∈ gTBL := gTBL_in 1091 (by decide +kernel) rfl
theorem ww1092 : (Cond.fieldLink "SkyTrialModel" (119 : Nat) "SkyTrialModel" "pile" "[I") ∈ gTBL := gTBL_in 1092 (by decide +kernel) rfl
theorem ww1093 : (Cond.fieldLink "SkyTrialModel" (310 : Nat) "SkyTrialModel" "people" "I") ∈ gTBL := gTBL_in 1093 (by decide +kernel) rfl
theorem ww1094 : (Cond.fieldLink "SkyTrialModel" (122 : Nat) "SkyTrialModel" "minutes" "[I") ∈ gTBL := gTBL_in 1094 (by decide +kernel) rfl
theorem ww1095 : (Cond.fieldLink "SkyTrialModel" (125 : Nat) "SkyTrialModel" "months" "[I") ∈ gTBL := gTBL_in 1095 (by decide +kernel) rfl
theorem ww1096 : (Cond.fieldLink "SkyTrialModel" (128 : Nat) "SkyTrialModel" "years" "[I") ∈ gTBL := gTBL_in 1096 (by decide +kernel) rfl
theorem ww1097 : (Cond.fieldLink "SkyTrialModel" (131 : Nat) "SkyTrialModel" "coats" "[I") ∈ gTBL := gTBL_in 1097 (by decide +kernel) rfl
theorem ww1098 : (Cond.fieldLink "SkyTrialModel" (134 : Nat) "SkyTrialModel" "ways" "[I") ∈ gTBL := gTBL_in 1098 (by decide +kernel) rfl
theorem ww1099 : (Cond.fieldLink "SkyTrialModel" (137 : Nat) "SkyTrialModel" "isTrueNow" "[Z") ∈ gTBL := gTBL_in 1099 (by decide +kernel) rfl
theorem ww1100 : (Cond.fieldLink "SkyTrialModel" (140 : Nat) "SkyTrialModel" "rows" "[J") ∈ gTBL := gTBL_in 1100 (by decide +kernel) rfl
theorem ww1101 : (Cond.fieldLink "SkyTrialModel" (143 : Nat) "SkyTrialModel" "after" "[J") ∈ gTBL := gTBL_in 1101 (by decide +kernel) rfl
theorem ww1102 : (Cond.fieldLink "SkyTrialModel" (425 : Nat) "SkyTrialModel" "facts" "I") ∈ gTBL := gTBL_in 1102 (by decide +kernel) rfl
theorem ww1103 : (Cond.fieldLink "SkyTrialModel" (146 : Nat) "SkyTrialModel" "factSort" "[I") ∈ gTBL := gTBL_in 1103 (by decide +kernel) rfl
theorem ww1104 : (Cond.fieldLink "SkyTrialModel" (149 : Nat) "SkyTrialModel" "factA" "[I") ∈ gTBL := gTBL_in 1104 (by decide +kernel) rfl
theorem ww1105 : (Cond.fieldLink "SkyTrialModel" (152 : Nat) "SkyTrialModel" "factB" "[I") ∈ gTBL := gTBL_in 1105 (by decide +kernel) rfl
theorem ww1106 : (Cond.fieldLink "SkyTrialModel" (155 : Nat) "SkyTrialModel" "isRight" "[Z") ∈ gTBL := gTBL_in 1106 (by decide +kernel) rfl
theorem ww1242 : (Cond.methodLink "SkyTrialModel" (165 : Nat) ({ cls := "SkyTrialModel", name := "put", desc := "(I)V" } : Jvm.MethodName)) ∈ gTBL := gTBL_in 1242 (by decide +kernel) rfl
theorem ww1244 : (Cond.instanceMethod ({ cls := "SkyTrialModel", name := "put", desc := "(I)V" } : Jvm.MethodName)) ∈ gTBL := gTBL_in 1244 (by decide +kernel) rfl
theorem ww1245 : (Cond.code ({ cls := "SkyTrialModel", name := "put", desc := "(I)V" } : Jvm.MethodName) prog_13_method_4_code (3 : Nat) (Option.none : Option Jvm.ClassFile.FieldType)) ∈ gTBL := gTBL_in 1245 (by decide +kernel) rfl
theorem ww1254 : (Cond.methodLink "SkyTrialModel" (224 : Nat) ({ cls := "SkyTrialModel", name := "cut", desc := "()V" } : Jvm.MethodName)) ∈ gTBL := gTBL_in 1254 (by decide +kernel) rfl
theorem ww1256 : (Cond.instanceMethod ({ cls := "SkyTrialModel", name := "cut", desc := "()V" } : Jvm.MethodName)) ∈ gTBL := gTBL_in 1256 (by decide +kernel) rfl
theorem ww1257 : (Cond.code ({ cls := "SkyTrialModel", name := "cut", desc := "()V" } : Jvm.MethodName) prog_13_method_12_code (8 : Nat) (Option.none : Option Jvm.ClassFile.FieldType)) ∈ gTBL := gTBL_in 1257 (by decide +kernel) rfl
theorem ww1258 : (Cond.methodLink "SkyTrialModel" (181 : Nat) ({ cls := "SkyTrialModel", name := "byteAt", desc := "(I)I" } : Jvm.MethodName)) ∈ gTBL := gTBL_in 1258 (by decide +kernel) rfl
theorem ww1260 : (Cond.instanceMethod ({ cls := "SkyTrialModel", name := "byteAt", desc := "(I)I" } : Jvm.MethodName)) ∈ gTBL := gTBL_in 1260 (by decide +kernel) rfl
theorem ww1261 : (Cond.code ({ cls := "SkyTrialModel", name := "byteAt", desc := "(I)I" } : Jvm.MethodName) prog_13_method_6_code (2 : Nat) (Option.some Jvm.ClassFile.FieldType.int)) ∈ gTBL := gTBL_in 1261 (by decide +kernel) rfl
theorem ww1262 : (Cond.methodLink "SkyTrialModel" (185 : Nat) ({ cls := "SkyTrialModel", name := "token", desc := "(IIIJ)V" } : Jvm.MethodName)) ∈ gTBL := gTBL_in 1262 (by decide +kernel) rfl
theorem ww1264 : (Cond.instanceMethod ({ cls := "SkyTrialModel", name := "token", desc := "(IIIJ)V" } : Jvm.MethodName)) ∈ gTBL := gTBL_in 1264 (by decide +kernel) rfl
theorem ww1265 : (Cond.code ({ cls := "SkyTrialModel", name := "token", desc := "(IIIJ)V" } : Jvm.MethodName) prog_13_method_11_code (6 : Nat) (Option.none : Option Jvm.ClassFile.FieldType)) ∈ gTBL := gTBL_in 1265 (by decide +kernel) rfl
theorem ww1266 : (Cond.methodLink "SkyTrialModel" (189 : Nat) ({ cls := "SkyTrialModel", name := "isLetter", desc := "(I)Z" } : Jvm.MethodName)) ∈ gTBL := gTBL_in 1266 (by decide +kernel) rfl
theorem ww1267 : (Cond.static ({ cls := "SkyTrialModel", name := "isLetter", desc := "(I)Z" } : Jvm.MethodName)) ∈ gTBL := gTBL_in 1267 (by decide +kernel) rfl
theorem ww1268 : (Cond.code ({ cls := "SkyTrialModel", name := "isLetter", desc := "(I)Z" } : Jvm.MethodName) prog_13_method_8_code (1 : Nat) (Option.some Jvm.ClassFile.FieldType.boolean)) ∈ gTBL := gTBL_in 1268 (by decide +kernel) rfl
theorem ww1269 : (Cond.methodLink "SkyTrialModel" (193 : Nat) ({ cls := "SkyTrialModel", name := "isDigit", desc := "(I)Z" } : Jvm.MethodName)) ∈ gTBL := gTBL_in 1269 (by decide +kernel) rfl
theorem ww1270 : (Cond.static ({ cls := "SkyTrialModel", name := "isDigit", desc := "(I)Z" } : Jvm.MethodName)) ∈ gTBL := gTBL_in 1270 (by decide +kernel) rfl
theorem ww1271 : (Cond.code ({ cls := "SkyTrialModel", name := "isDigit", desc := "(I)Z" } : Jvm.MethodName) prog_13_method_7_code (1 : Nat) (Option.some Jvm.ClassFile.FieldType.boolean)) ∈ gTBL := gTBL_in 1271 (by decide +kernel) rfl
theorem ww1272 : (Cond.methodLink "SkyTrialModel" (196 : Nat) ({ cls := "SkyTrialModel", name := "sign", desc := "(III)I" } : Jvm.MethodName)) ∈ gTBL := gTBL_in 1272 (by decide +kernel) rfl
theorem ww1274 : (Cond.instanceMethod ({ cls := "SkyTrialModel", name := "sign", desc := "(III)I" } : Jvm.MethodName)) ∈ gTBL := gTBL_in 1274 (by decide +kernel) rfl
theorem ww1275 : (Cond.code ({ cls := "SkyTrialModel", name := "sign", desc := "(III)I" } : Jvm.MethodName) prog_13_method_13_code (6 : Nat) (Option.some Jvm.ClassFile.FieldType.int)) ∈ gTBL := gTBL_in 1275 (by decide +kernel) rfl
theorem ww1276 : (Cond.methodLink "SkyTrialModel" (218 : Nat) ({ cls := "SkyTrialModel", name := "is", desc := "(I)Z" } : Jvm.MethodName)) ∈ gTBL := gTBL_in 1276 (by decide +kernel) rfl
theorem ww1278 : (Cond.instanceMethod ({ cls := "SkyTrialModel", name := "is", desc := "(I)Z" } : Jvm.MethodName)) ∈ gTBL := gTBL_in 1278 (by decide +kernel) rfl
theorem ww1279 : (Cond.code ({ cls := "SkyTrialModel", name := "is", desc := "(I)Z" } : Jvm.MethodName) prog_13_method_14_code (2 : Nat) (Option.some Jvm.ClassFile.FieldType.boolean)) ∈ gTBL := gTBL_in 1279 (by decide +kernel) rfl
theorem ww1280 : (Cond.methodLink "SkyTrialModel" (245 : Nat) ({ cls := "SkyTrialModel", name := "tell", desc := "()V" } : Jvm.MethodName)) ∈ gTBL := gTBL_in 1280 (by decide +kernel) rfl
theorem ww1282 : (Cond.instanceMethod ({ cls := "SkyTrialModel", name := "tell", desc := "()V" } : Jvm.MethodName)) ∈ gTBL := gTBL_in 1282 (by decide +kernel) rfl
theorem ww1283 : (Cond.code ({ cls := "SkyTrialModel", name := "tell", desc := "()V" } : Jvm.MethodName) prog_13_method_21_code (1 : Nat) (Option.none : Option Jvm.ClassFile.FieldType)) ∈ gTBL := gTBL_in 1283 (by decide +kernel) rfl
theorem ww1284 : (Cond.methodLink "SkyTrialModel" (215 : Nat) ({ cls := "SkyTrialModel", name := "fail", desc := "(I)V" } : Jvm.MethodName)) ∈ gTBL := gTBL_in 1284 (by decide +kernel) rfl
theorem ww1286 : (Cond.instanceMethod ({ cls := "SkyTrialModel", name := "fail", desc := "(I)V" } : Jvm.MethodName)) ∈ gTBL := gTBL_in 1286 (by decide +kernel) rfl
theorem ww1287 : (Cond.code ({ cls := "SkyTrialModel", name := "fail", desc := "(I)V" } : Jvm.MethodName) prog_13_method_15_code (2 : Nat) (Option.none : Option Jvm.ClassFile.FieldType)) ∈ gTBL := gTBL_in 1287 (by decide +kernel) rfl
theorem ww1288 : (Cond.methodLink "SkyTrialModel" (248 : Nat) ({ cls := "SkyTrialModel", name := "tellSign", desc := "()V" } : Jvm.MethodName)) ∈ gTBL := gTBL_in 1288 (by decide +kernel) rfl
theorem ww1290 : (Cond.instanceMethod ({ cls := "SkyTrialModel", name := "tellSign", desc := "()V" } : Jvm.MethodName)) ∈ gTBL := gTBL_in 1290 (by decide +kernel) rfl
theorem ww1291 : (Cond.code ({ cls := "SkyTrialModel", name := "tellSign", desc := "()V" } : Jvm.MethodName) prog_13_method_26_code (2 : Nat) (Option.none : Option Jvm.ClassFile.FieldType)) ∈ gTBL := gTBL_in 1291 (by decide +kernel) rfl
theorem ww1292 : (Cond.methodLink "SkyTrialModel" (221 : Nat) ({ cls := "SkyTrialModel", name := "goesOn", desc := "()V" } : Jvm.MethodName)) ∈ gTBL := gTBL_in 1292 (by decide +kernel) rfl
theorem ww1294 : (Cond.instanceMethod ({ cls := "SkyTrialModel", name := "goesOn", desc := "()V" } : Jvm.MethodName)) ∈ gTBL := gTBL_in 1294 (by decide +kernel) rfl
theorem ww1295 : (Cond.code ({ cls := "SkyTrialModel", name := "goesOn", desc := "()V" } : Jvm.MethodName) prog_13_method_17_code (1 : Nat) (Option.none : Option Jvm.ClassFile.FieldType)) ∈ gTBL := gTBL_in 1295 (by decide +kernel) rfl
theorem ww1296 : (Cond.methodLink "SkyTrialModel" (274 : Nat) ({ cls := "SkyTrialModel", name := "named", desc := "()I" } : Jvm.MethodName)) ∈ gTBL := gTBL_in 1296 (by decide +kernel) rfl
theorem ww1298 : (Cond.instanceMethod ({ cls := "SkyTrialModel", name := "named", desc := "()I" } : Jvm.MethodName)) ∈ gTBL := gTBL_in 1298 (by decide +kernel) rfl
theorem ww1299 : (Cond.code ({ cls := "SkyTrialModel", name := "named", desc := "()I" } : Jvm.MethodName) prog_13_method_22_code (3 : Nat) (Option.some Jvm.ClassFile.FieldType.int)) ∈ gTBL := gTBL_in 1299 (by decide +kernel) rfl
theorem ww1300 : (Cond.methodLink "SkyTrialModel" (263 : Nat) ({ cls := "SkyTrialModel", name := "must", desc := "(I)V" } : Jvm.MethodName)) ∈ gTBL := gTBL_in 1300 (by decide +kernel) rfl
theorem ww1302 : (Cond.instanceMethod ({ cls := "SkyTrialModel", name := "must", desc := "(I)V" } : Jvm.MethodName)) ∈ gTBL := gTBL_in 1302 (by decide +kernel) rfl
theorem ww1303 : (Cond.code ({ cls := "SkyTrialModel", name := "must", desc := "(I)V" } : Jvm.MethodName) prog_13_method_18_code (2 : Nat) (Option.none : Option Jvm.ClassFile.FieldType)) ∈ gTBL := gTBL_in 1303 (by decide +kernel) rfl
theorem ww1304 : (Cond.methodLink "SkyTrialModel" (266 : Nat) ({ cls := "SkyTrialModel", name := "wrong", desc := "(II)V" } : Jvm.MethodName)) ∈ gTBL := gTBL_in 1304 (by decide +kernel) rfl
theorem ww1306 : (Cond.instanceMethod ({ cls := "SkyTrialModel", name := "wrong", desc := "(II)V" } : Jvm.MethodName)) ∈ gTBL := gTBL_in 1306 (by decide +kernel) rfl
theorem ww1307 : (Cond.code ({ cls := "SkyTrialModel", name := "wrong", desc := "(II)V" } : Jvm.MethodName) prog_13_method_16_code (4 : Nat) (Option.none : Option Jvm.ClassFile.FieldType)) ∈ gTBL := gTBL_in 1307 (by decide +kernel) rfl
theorem ww1308 : (Cond.methodLink "SkyTrialModel" (278 : Nat) ({ cls := "SkyTrialModel", name := "condition", desc := "(I)V" } : Jvm.MethodName)) ∈ gTBL := gTBL_in 1308 (by decide +kernel) rfl
theorem ww1310 : (Cond.instanceMethod ({ cls := "SkyTrialModel", name := "condition", desc := "(I)V" } : Jvm.MethodName)) ∈ gTBL := gTBL_in 1310 (by decide +kernel) rfl
theorem ww1311 : (Cond.code ({ cls := "SkyTrialModel", name := "condition", desc := "(I)V" } : Jvm.MethodName) prog_13_method_25_code (4 : Nat) (Option.none : Option Jvm.ClassFile.FieldType)) ∈ gTBL := gTBL_in 1311 (by decide +kernel) rfl
theorem ww1312 : (Cond.methodLink "SkyTrialModel" (270 : Nat) ({ cls := "SkyTrialModel", name := "literal", desc := "(Z)V" } : Jvm.MethodName)) ∈ gTBL := gTBL_in 1312 (by decide +kernel) rfl
theorem ww1314 : (Cond.instanceMethod ({ cls := "SkyTrialModel", name := "literal", desc := "(Z)V" } : Jvm.MethodName)) ∈ gTBL := gTBL_in 1314 (by decide +kernel) rfl
theorem ww1315 : (Cond.code ({ cls := "SkyTrialModel", name := "literal", desc := "(Z)V" } : Jvm.MethodName) prog_13_method_31_code (6 : Nat) (Option.none : Option Jvm.ClassFile.FieldType)) ∈ gTBL := gTBL_in 1315 (by decide +kernel) rfl
theorem ww1316 : (Cond.methodLink "SkyTrialModel" (288 : Nat) ({ cls := "SkyTrialModel", name := "expression", desc := "()V" } : Jvm.MethodName)) ∈ gTBL := gTBL_in 1316 (by decide +kernel) rfl
theorem ww1318 : (Cond.instanceMethod ({ cls := "SkyTrialModel", name := "expression", desc := "()V" } : Jvm.MethodName)) ∈ gTBL := gTBL_in 1318 (by decide +kernel) rfl
theorem ww1319 : (Cond.code ({ cls := "SkyTrialModel", name := "expression", desc := "()V" } : Jvm.MethodName) prog_13_method_34_code (3 : Nat) (Option.none : Option Jvm.ClassFile.FieldType)) ∈ gTBL := gTBL_in 1319 (by decide +kernel) rfl
theorem ww1320 : (Cond.methodLink "SkyTrialModel" (297 : Nat) ({ cls := "SkyTrialModel", name := "unit", desc := "()V" } : Jvm.MethodName)) ∈ gTBL := gTBL_in 1320 (by decide +kernel) rfl
theorem ww1322 : (Cond.instanceMethod ({ cls := "SkyTrialModel", name := "unit", desc := "()V" } : Jvm.MethodName)) ∈ gTBL := gTBL_in 1322 (by decide +kernel) rfl
theorem ww1323 : (Cond.code ({ cls := "SkyTrialModel", name := "unit", desc := "()V" } : Jvm.MethodName) prog_13_method_35_code (1 : Nat) (Option.none : Option Jvm.ClassFile.FieldType)) ∈ gTBL := gTBL_in 1323 (by decide +kernel) rfl
theorem ww1324 : (Cond.methodLink "SkyTrialModel" (294 : Nat) ({ cls := "SkyTrialModel", name := "emit", desc := "(II)V" } : Jvm.MethodName)) ∈ gTBL := gTBL_in 1324 (by decide +kernel) rfl
theorem ww1326 : (Cond.instanceMethod ({ cls := "SkyTrialModel", name := "emit", desc := "(II)V" } : Jvm.MethodName)) ∈ gTBL := gTBL_in 1326 (by decide +kernel) rfl
theorem ww1327 : (Cond.code ({ cls := "SkyTrialModel", name := "emit", desc := "(II)V" } : Jvm.MethodName) prog_13_method_32_code (3 : Nat) (Option.none : Option Jvm.ClassFile.FieldType)) ∈ gTBL := gTBL_in 1327 (by decide +kernel) rfl
theorem ww1328 : (Cond.methodLink "SkyTrialModel" (300 : Nat) ({ cls := "SkyTrialModel", name := "comesOut", desc := "(Z)V" } : Jvm.MethodName)) ∈ gTBL := gTBL_in 1328 (by decide +kernel) rfl
theorem ww1330 : (Cond.instanceMethod ({ cls := "SkyTrialModel", name := "comesOut", desc := "(Z)V" } : Jvm.MethodName)) ∈ gTBL := gTBL_in 1330 (by decide +kernel) rfl
theorem ww1331 : (Cond.code ({ cls := "SkyTrialModel", name := "comesOut", desc := "(Z)V" } : Jvm.MethodName) prog_13_method_33_code (3 : Nat) (Option.none : Option Jvm.ClassFile.FieldType)) ∈ gTBL := gTBL_in 1331 (by decide +kernel) rfl
theorem ww1332 : (Cond.methodLink "SkyTrialModel" (281 : Nat) ({ cls := "SkyTrialModel", name := "knows", desc := "(III)V" } : Jvm.MethodName)) ∈ gTBL := gTBL_in 1332 (by decide +kernel) rfl
theorem ww1334 : (Cond.instanceMethod ({ cls := "SkyTrialModel", name := "knows", desc := "(III)V" } : Jvm.MethodName)) ∈ gTBL := gTBL_in 1334 (by decide +kernel) rfl
theorem ww1335 : (Cond.code ({ cls := "SkyTrialModel", name := "knows", desc := "(III)V" } : Jvm.MethodName) prog_13_method_23_code (4 : Nat) (Option.none : Option Jvm.ClassFile.FieldType)) ∈ gTBL := gTBL_in 1335 (by decide +kernel) rfl
theorem ww1336 : (Cond.methodLink "SkyTrialModel" (251 : Nat) ({ cls := "SkyTrialModel", name := "tellSay", desc := "()V" } : Jvm.MethodName)) ∈ gTBL := gTBL_in 1336 (by decide +kernel) rfl
theorem ww1338 : (Cond.instanceMethod ({ cls := "SkyTrialModel", name := "tellSay", desc := "()V" } : Jvm.MethodName)) ∈ gTBL := gTBL_in 1338 (by decide +kernel) rfl
theorem ww1339 : (Cond.code ({ cls := "SkyTrialModel", name := "tellSay", desc := "()V" } : Jvm.MethodName) prog_13_method_27_code (2 : Nat) (Option.none : Option Jvm.ClassFile.FieldType)) ∈ gTBL := gTBL_in 1339 (by decide +kernel) rfl
theorem ww1340 : (Cond.methodLink "SkyTrialModel" (254 : Nat) ({ cls := "SkyTrialModel", name := "tellBook", desc := "()V" } : Jvm.MethodName)) ∈ gTBL := gTBL_in 1340 (by decide +kernel) rfl
theorem ww1342 : (Cond.instanceMethod ({ cls := "SkyTrialModel", name := "tellBook", desc := "()V" } : Jvm.MethodName)) ∈ gTBL := gTBL_in 1342 (by decide +kernel) rfl
theorem ww1343 : (Cond.code ({ cls := "SkyTrialModel", name := "tellBook", desc := "()V" } : Jvm.MethodName) prog_13_method_28_code (2 : Nat) (Option.none : Option Jvm.ClassFile.FieldType)) ∈ gTBL := gTBL_in 1343 (by decide +kernel) rfl
theorem ww1344 : (Cond.methodLink "SkyTrialModel" (257 : Nat) ({ cls := "SkyTrialModel", name := "tellWhen", desc := "()V" } : Jvm.MethodName)) ∈ gTBL := gTBL_in 1344 (by decide +kernel) rfl
theorem ww1346 : (Cond.instanceMethod ({ cls := "SkyTrialModel", name := "tellWhen", desc := "()V" } : Jvm.MethodName)) ∈ gTBL := gTBL_in 1346 (by decide +kernel) rfl
theorem ww1347 : (Cond.code ({ cls := "SkyTrialModel", name := "tellWhen", desc := "()V" } : Jvm.MethodName) prog_13_method_29_code (6 : Nat) (Option.none : Option Jvm.ClassFile.FieldType)) ∈ gTBL := gTBL_in 1347 (by decide +kernel) rfl
theorem ww1348 : (Cond.methodLink "SkyTrialModel" (285 : Nat) ({ cls := "SkyTrialModel", name := "known", desc := "(I)I" } : Jvm.MethodName)) ∈ gTBL := gTBL_in 1348 (by decide +kernel) rfl
theorem ww1350 : (Cond.instanceMethod ({ cls := "SkyTrialModel", name := "known", desc := "(I)I" } : Jvm.MethodName)) ∈ gTBL := gTBL_in 1350 (by decide +kernel) rfl
theorem ww1351 : (Cond.code ({ cls := "SkyTrialModel", name := "known", desc := "(I)I" } : Jvm.MethodName) prog_13_method_24_code (5 : Nat) (Option.some Jvm.ClassFile.FieldType.int)) ∈ gTBL := gTBL_in 1351 (by decide +kernel) rfl
theorem ww1352 : (Cond.methodLink "SkyTrialModel" (260 : Nat) ({ cls := "SkyTrialModel", name := "tellLaw", desc := "()V" } : Jvm.MethodName)) ∈ gTBL := gTBL_in 1352 (by decide +kernel) rfl
theorem ww1354 : (Cond.instanceMethod ({ cls := "SkyTrialModel", name := "tellLaw", desc := "()V" } : Jvm.MethodName)) ∈ gTBL := gTBL_in 1354 (by decide +kernel) rfl
theorem ww1355 : (Cond.code ({ cls := "SkyTrialModel", name := "tellLaw", desc := "()V" } : Jvm.MethodName) prog_13_method_30_code (3 : Nat) (Option.none : Option Jvm.ClassFile.FieldType)) ∈ gTBL := gTBL_in 1355 (by decide +kernel) rfl
theorem ww1364 : (Cond.methodLink "SkyTrialModel" (313 : Nat) ({ cls := "SkyTrialModel", name := "in", desc := "(III)Z" } : Jvm.MethodName)) ∈ gTBL := gTBL_in 1364 (by decide +kernel) rfl
theorem ww1365 : (Cond.static ({ cls := "SkyTrialModel", name := "in", desc := "(III)Z" } : Jvm.MethodName)) ∈ gTBL := gTBL_in 1365 (by decide +kernel) rfl
theorem ww1366 : (Cond.code ({ cls := "SkyTrialModel", name := "in", desc := "(III)Z" } : Jvm.MethodName) prog_13_method_39_code (3 : Nat) (Option.some Jvm.ClassFile.FieldType.boolean)) ∈ gTBL := gTBL_in 1366 (by decide +kernel) rfl
theorem ww1367 : (Cond.constant "SkyTrialModel" (317 : Nat) (99999999 : Int32)) ∈ gTBL := gTBL_in 1367 (by decide +kernel) rfl
theorem ww1372 : (Cond.methodLink "SkyTrialModel" (322 : Nat) ({ cls := "SkyTrialModel", name := "lot", desc := "(III)I" } : Jvm.MethodName)) ∈ gTBL := gTBL_in 1372 (by decide +kernel) rfl
theorem ww1373 : (Cond.static ({ cls := "SkyTrialModel", name := "lot", desc := "(III)I" } : Jvm.MethodName)) ∈ gTBL := gTBL_in 1373 (by decide +kernel) rfl
theorem ww1374 : (Cond.code ({ cls := "SkyTrialModel", name := "lot", desc := "(III)I" } : Jvm.MethodName) prog_13_method_47_code (3 : Nat) (Option.some Jvm.ClassFile.FieldType.int)) ∈ gTBL := gTBL_in 1374 (by decide +kernel) rfl
theorem ww1375 : (Cond.methodLink "SkyTrialModel" (319 : Nat) ({ cls := "SkyTrialModel", name := "mixed", desc := "(II)I" } : Jvm.MethodName)) ∈ gTBL := gTBL_in 1375 (by decide +kernel) rfl
theorem ww1376 : (Cond.static ({ cls := "SkyTrialModel", name := "mixed", desc := "(II)I" } : Jvm.MethodName)) ∈ gTBL := gTBL_in 1376 (by decide +kernel) rfl
theorem ww1377 : (Cond.code ({ cls := "SkyTrialModel", name := "mixed", desc := "(II)I" } : Jvm.MethodName) prog_13_method_46_code (3 : Nat) (Option.some Jvm.ClassFile.FieldType.int)) ∈ gTBL := gTBL_in 1377 (by decide +kernel) rfl
theorem ww1378 : (Cond.constant "SkyTrialModel" (318 : Nat) (1103515245 : Int32)) ∈ gTBL := gTBL_in 1378 (by decide +kernel) rfl
theorem ww1379 : (Cond.methodLink "SkyTrialModel" (325 : Nat) ({ cls := "SkyTrialModel", name := "isUp", desc := "(III)Z" } : Jvm.MethodName)) ∈ gTBL := gTBL_in 1379 (by decide +kernel) rfl
theorem ww1381 : (Cond.instanceMethod ({ cls := "SkyTrialModel", name := "isUp", desc := "(III)Z" } : Jvm.MethodName)) ∈ gTBL := gTBL_in 1381 (by decide +kernel) rfl
theorem ww1382 : (Cond.code ({ cls := "SkyTrialModel", name := "isUp", desc := "(III)Z" } : Jvm.MethodName) prog_13_method_51_code (4 : Nat) (Option.some Jvm.ClassFile.FieldType.boolean)) ∈ gTBL := gTBL_in 1382 (by decide +kernel) rfl
theorem ww1383 : (Cond.methodLink "SkyTrialModel" (331 : Nat) ({ cls := "SkyTrialModel", name := "looksAt", desc := "(II)V" } : Jvm.MethodName)) ∈ gTBL := gTBL_in 1383 (by decide +kernel) rfl
theorem ww1385 : (Cond.instanceMethod ({ cls := "SkyTrialModel", name := "looksAt", desc := "(II)V" } : Jvm.MethodName)) ∈ gTBL := gTBL_in 1385 (by decide +kernel) rfl
theorem ww1386 : (Cond.code ({ cls := "SkyTrialModel", name := "looksAt", desc := "(II)V" } : Jvm.MethodName) prog_13_method_50_code (4 : Nat) (Option.none : Option Jvm.ClassFile.FieldType)) ∈ gTBL := gTBL_in 1386 (by decide +kernel) rfl
theorem ww1387 : (Cond.methodLink "SkyTrialModel" (334 : Nat) ({ cls := "SkyTrialModel", name := "holdsRule", desc := "(I)Z" } : Jvm.MethodName)) ∈ gTBL := gTBL_in 1387 (by decide +kernel) rfl
theorem ww1389 : (Cond.instanceMethod ({ cls := "SkyTrialModel", name := "holdsRule", desc := "(I)Z" } : Jvm.MethodName)) ∈ gTBL := gTBL_in 1389 (by decide +kernel) rfl
theorem ww1390 : (Cond.code ({ cls := "SkyTrialModel", name := "holdsRule", desc := "(I)Z" } : Jvm.MethodName) prog_13_method_38_code (4 : Nat) (Option.some Jvm.ClassFile.FieldType.boolean)) ∈ gTBL := gTBL_in 1390 (by decide +kernel) rfl
theorem ww1391 : (Cond.methodLink "SkyTrialModel" (307 : Nat) ({ cls := "SkyTrialModel", name := "isTrue", desc := "(I)Z" } : Jvm.MethodName)) ∈ gTBL := gTBL_in 1391 (by decide +kernel) rfl
theorem ww1393 : (Cond.instanceMethod ({ cls := "SkyTrialModel", name := "isTrue", desc := "(I)Z" } : Jvm.MethodName)) ∈ gTBL := gTBL_in 1393 (by decide +kernel) rfl
theorem ww1394 : (Cond.code ({ cls := "SkyTrialModel", name := "isTrue", desc := "(I)Z" } : Jvm.MethodName) prog_13_method_37_code (5 : Nat) (Option.some Jvm.ClassFile.FieldType.boolean)) ∈ gTBL := gTBL_in 1394 (by decide +kernel) rfl
theorem ww1395 : (Cond.methodLink "SkyTrialModel" (303 : Nat) ({ cls := "SkyTrialModel", name := "termOf", desc := "(II)I" } : Jvm.MethodName)) ∈ gTBL := gTBL_in 1395 (by decide +kernel) rfl
theorem ww1397 : (Cond.instanceMethod ({ cls := "SkyTrialModel", name := "termOf", desc := "(II)I" } : Jvm.MethodName)) ∈ gTBL := gTBL_in 1397 (by decide +kernel) rfl
theorem ww1398 : (Cond.code ({ cls := "SkyTrialModel", name := "termOf", desc := "(II)I" } : Jvm.MethodName) prog_13_method_36_code (8 : Nat) (Option.some Jvm.ClassFile.FieldType.int)) ∈ gTBL := gTBL_in 1398 (by decide +kernel) rfl
theorem ww1403 : (Cond.methodLink "SkyTrialModel" (328 : Nat) ({ cls := "SkyTrialModel", name := "isPerson", desc := "(I)Z" } : Jvm.MethodName)) ∈ gTBL := gTBL_in 1403 (by decide +kernel) rfl
theorem ww1405 : (Cond.instanceMethod ({ cls := "SkyTrialModel", name := "isPerson", desc := "(I)Z" } : Jvm.MethodName)) ∈ gTBL := gTBL_in 1405 (by decide +kernel) rfl
theorem ww1406 : (Cond.code ({ cls := "SkyTrialModel", name := "isPerson", desc := "(I)Z" } : Jvm.MethodName) prog_13_method_40_code (2 : Nat) (Option.some Jvm.ClassFile.FieldType.boolean)) ∈ gTBL := gTBL_in 1406 (by decide +kernel) rfl
theorem ww1411 : (Cond.methodLink "SkyTrialModel" (337 : Nat) ({ cls := "SkyTrialModel", name := "signsOf", desc := "(II)I" } : Jvm.MethodName)) ∈ gTBL := gTBL_in 1411 (by decide +kernel) rfl
theorem ww1413 : (Cond.instanceMethod ({ cls := "SkyTrialModel", name := "signsOf", desc := "(II)I" } : Jvm.MethodName)) ∈ gTBL := gTBL_in 1413 (by decide +kernel) rfl
theorem ww1414 : (Cond.code ({ cls := "SkyTrialModel", name := "signsOf", desc := "(II)I" } : Jvm.MethodName) prog_13_method_52_code (5 : Nat) (Option.some Jvm.ClassFile.FieldType.int)) ∈ gTBL := gTBL_in 1414 (by decide +kernel) rfl
theorem ww1419 : (Cond.methodLink "SkyTrialModel" (340 : Nat) ({ cls := "SkyTrialModel", name := "round", desc := "(II)I" } : Jvm.MethodName)) ∈ gTBL := gTBL_in 1419 (by decide +kernel) rfl
theorem ww1420 : (Cond.static ({ cls := "SkyTrialModel", name := "round", desc := "(II)I" } : Jvm.MethodName)) ∈ gTBL := gTBL_in 1420 (by decide +kernel) rfl
theorem ww1421 : (Cond.code ({ cls := "SkyTrialModel", name := "round", desc := "(II)I" } : Jvm.MethodName) prog_13_method_54_code (2 : Nat) (Option.some Jvm.ClassFile.FieldType.int)) ∈ gTBL := gTBL_in 1421 (by decide +kernel) rfl
theorem ww1430 : (Cond.methodLink "SkyTrialModel" (343 : Nat) ({ cls := "SkyTrialModel", name := "isSay", desc := "(I)Z" } : Jvm.MethodName)) ∈ gTBL := gTBL_in 1430 (by decide +kernel) rfl
theorem ww1432 : (Cond.instanceMethod ({ cls := "SkyTrialModel", name := "isSay", desc := "(I)Z" } : Jvm.MethodName)) ∈ gTBL := gTBL_in 1432 (by decide +kernel) rfl
theorem ww1433 : (Cond.code ({ cls := "SkyTrialModel", name := "isSay", desc := "(I)Z" } : Jvm.MethodName) prog_13_method_42_code (2 : Nat) (Option.some Jvm.ClassFile.FieldType.boolean)) ∈ gTBL := gTBL_in 1433 (by decide +kernel) rfl
theorem ww1434 : (Cond.methodLink "SkyTrialModel" (346 : Nat) ({ cls := "SkyTrialModel", name := "isTrueOf", desc := "(II)Z" } : Jvm.MethodName)) ∈ gTBL := gTBL_in 1434 (by decide +kernel) rfl
theorem ww1436 : (Cond.instanceMethod ({ cls := "SkyTrialModel", name := "isTrueOf", desc := "(II)Z" } : Jvm.MethodName)) ∈ gTBL := gTBL_in 1436 (by decide +kernel) rfl
theorem ww1437 : (Cond.code ({ cls := "SkyTrialModel", name := "isTrueOf", desc := "(II)Z" } : Jvm.MethodName) prog_13_method_57_code (3 : Nat) (Option.some Jvm.ClassFile.FieldType.boolean)) ∈ gTBL := gTBL_in 1437 (by decide +kernel) rfl
theorem ww1446 : (Cond.methodLink "SkyTrialModel" (353 : Nat) ({ cls := "SkyTrialModel", name := "isBook", desc := "(I)Z" } : Jvm.MethodName)) ∈ gTBL := gTBL_in 1446 (by decide +kernel) rfl
theorem ww1448 : (Cond.instanceMethod ({ cls := "SkyTrialModel", name := "isBook", desc := "(I)Z" } : Jvm.MethodName)) ∈ gTBL := gTBL_in 1448 (by decide +kernel) rfl
theorem ww1449 : (Cond.code ({ cls := "SkyTrialModel", name := "isBook", desc := "(I)Z" } : Jvm.MethodName) prog_13_method_43_code (2 : Nat) (Option.some Jvm.ClassFile.FieldType.boolean)) ∈ gTBL := gTBL_in 1449 (by decide +kernel) rfl
theorem ww1450 : (Cond.methodLink "SkyTrialModel" (356 : Nat) ({ cls := "SkyTrialModel", name := "paperOf", desc := "(II)I" } : Jvm.MethodName)) ∈ gTBL := gTBL_in 1450 (by decide +kernel) rfl
theorem ww1452 : (Cond.instanceMethod ({ cls := "SkyTrialModel", name := "paperOf", desc := "(II)I" } : Jvm.MethodName)) ∈ gTBL := gTBL_in 1452 (by decide +kernel) rfl
theorem ww1453 : (Cond.code ({ cls := "SkyTrialModel", name := "paperOf", desc := "(II)I" } : Jvm.MethodName) prog_13_method_61_code (3 : Nat) (Option.some Jvm.ClassFile.FieldType.int)) ∈ gTBL := gTBL_in 1453 (by decide +kernel) rfl
theorem ww1454 : (Cond.methodLink "SkyTrialModel" (350 : Nat) ({ cls := "SkyTrialModel", name := "paperBy", desc := "(II)I" } : Jvm.MethodName)) ∈ gTBL := gTBL_in 1454 (by decide +kernel) rfl
theorem ww1456 : (Cond.instanceMethod ({ cls := "SkyTrialModel", name := "paperBy", desc := "(II)I" } : Jvm.MethodName)) ∈ gTBL := gTBL_in 1456 (by decide +kernel) rfl
theorem ww1457 : (Cond.code ({ cls := "SkyTrialModel", name := "paperBy", desc := "(II)I" } : Jvm.MethodName) prog_13_method_60_code (5 : Nat) (Option.some Jvm.ClassFile.FieldType.int)) ∈ gTBL := gTBL_in 1457 (by decide +kernel) rfl
theorem ww1466 : (Cond.methodLink "SkyTrialModel" (359 : Nat) ({ cls := "SkyTrialModel", name := "trueOf", desc := "(I)I" } : Jvm.MethodName)) ∈ gTBL := gTBL_in 1466 (by decide +kernel) rfl
theorem ww1468 : (Cond.instanceMethod ({ cls := "SkyTrialModel", name := "trueOf", desc := "(I)I" } : Jvm.MethodName)) ∈ gTBL := gTBL_in 1468 (by decide +kernel) rfl
theorem ww1469 : (Cond.code ({ cls := "SkyTrialModel", name := "trueOf", desc := "(I)I" } : Jvm.MethodName) prog_13_method_64_code (4 : Nat) (Option.some Jvm.ClassFile.FieldType.int)) ∈ gTBL := gTBL_in 1469 (by decide +kernel) rfl
theorem ww1478 : (Cond.methodLink "SkyTrialModel" (362 : Nat) ({ cls := "SkyTrialModel", name := "isLaw", desc := "(I)Z" } : Jvm.MethodName)) ∈ gTBL := gTBL_in 1478 (by decide +kernel) rfl
theorem ww1480 : (Cond.instanceMethod ({ cls := "SkyTrialModel", name := "isLaw", desc := "(I)Z" } : Jvm.MethodName)) ∈ gTBL := gTBL_in 1480 (by decide +kernel) rfl
theorem ww1481 : (Cond.code ({ cls := "SkyTrialModel", name := "isLaw", desc := "(I)Z" } : Jvm.MethodName) prog_13_method_44_code (2 : Nat) (Option.some Jvm.ClassFile.FieldType.boolean)) ∈ gTBL := gTBL_in 1481 (by decide +kernel) rfl
theorem ww1482 : (Cond.constant "SkyTrialModel" (365 : Nat) (-2147483648 : Int32)) ∈ gTBL := gTBL_in 1482 (by decide +kernel) rfl
theorem ww1483 : (Cond.methodLink "SkyTrialModel" (366 : Nat) ({ cls := "SkyTrialModel", name := "fitOf", desc := "(IIII)I" } : Jvm.MethodName)) ∈ gTBL := gTBL_in 1483 (by decide +kernel) rfl
theorem ww1485 : (Cond.instanceMethod ({ cls := "SkyTrialModel", name := "fitOf", desc := "(IIII)I" } : Jvm.MethodName)) ∈ gTBL := gTBL_in 1485 (by decide +kernel) rfl
theorem ww1486 : (Cond.code ({ cls := "SkyTrialModel", name := "fitOf", desc := "(IIII)I" } : Jvm.MethodName) prog_13_method_67_code (7 : Nat) (Option.some Jvm.ClassFile.FieldType.int)) ∈ gTBL := gTBL_in 1486 (by decide +kernel) rfl
theorem ww1491 : (Cond.methodLink "SkyTrialModel" (370 : Nat) ({ cls := "SkyTrialModel", name := "sixths", desc := "(IIIII)I" } : Jvm.MethodName)) ∈ gTBL := gTBL_in 1491 (by decide +kernel) rfl
theorem ww1493 : (Cond.instanceMethod ({ cls := "SkyTrialModel", name := "sixths", desc := "(IIIII)I" } : Jvm.MethodName)) ∈ gTBL := gTBL_in 1493 (by decide +kernel) rfl
theorem ww1494 : (Cond.code ({ cls := "SkyTrialModel", name := "sixths", desc := "(IIIII)I" } : Jvm.MethodName) prog_13_method_69_code (9 : Nat) (Option.some Jvm.ClassFile.FieldType.int)) ∈ gTBL := gTBL_in 1494 (by decide +kernel) rfl
theorem ww1499 : (Cond.methodLink "SkyTrialModel" (377 : Nat) ({ cls := "SkyTrialModel", name := "firstGiven", desc := "(II)I" } : Jvm.MethodName)) ∈ gTBL := gTBL_in 1499 (by decide +kernel) rfl
theorem ww1501 : (Cond.instanceMethod ({ cls := "SkyTrialModel", name := "firstGiven", desc := "(II)I" } : Jvm.MethodName)) ∈ gTBL := gTBL_in 1501 (by decide +kernel) rfl
theorem ww1502 : (Cond.code ({ cls := "SkyTrialModel", name := "firstGiven", desc := "(II)I" } : Jvm.MethodName) prog_13_method_72_code (3 : Nat) (Option.some Jvm.ClassFile.FieldType.int)) ∈ gTBL := gTBL_in 1502 (by decide +kernel) rfl
theorem ww1503 : (Cond.methodLink "SkyTrialModel" (374 : Nat) ({ cls := "SkyTrialModel", name := "other", desc := "(III)I" } : Jvm.MethodName)) ∈ gTBL := gTBL_in 1503 (by decide +kernel) rfl
theorem ww1505 : (Cond.instanceMethod ({ cls := "SkyTrialModel", name := "other", desc := "(III)I" } : Jvm.MethodName)) ∈ gTBL := gTBL_in 1505 (by decide +kernel) rfl
theorem ww1506 : (Cond.code ({ cls := "SkyTrialModel", name := "other", desc := "(III)I" } : Jvm.MethodName) prog_13_method_71_code (6 : Nat) (Option.some Jvm.ClassFile.FieldType.int)) ∈ gTBL := gTBL_in 1506 (by decide +kernel) rfl
theorem ww1507 : (Cond.methodLink "SkyTrialModel" (380 : Nat) ({ cls := "SkyTrialModel", name := "secondGiven", desc := "(II)I" } : Jvm.MethodName)) ∈ gTBL := gTBL_in 1507 (by decide +kernel) rfl
theorem ww1509 : (Cond.instanceMethod ({ cls := "SkyTrialModel", name := "secondGiven", desc := "(II)I" } : Jvm.MethodName)) ∈ gTBL := gTBL_in 1509 (by decide +kernel) rfl
theorem ww1510 : (Cond.code ({ cls := "SkyTrialModel", name := "secondGiven", desc := "(II)I" } : Jvm.MethodName) prog_13_method_73_code (3 : Nat) (Option.some Jvm.ClassFile.FieldType.int)) ∈ gTBL := gTBL_in 1510 (by decide +kernel) rfl
theorem ww1527 : (Cond.constantLong "SkyTrialModel" (390 : Nat) (-1 : Int64)) ∈ gTBL := gTBL_in 1527 (by decide +kernel) rfl
theorem ww1528 : (Cond.methodLink "SkyTrialModel" (392 : Nat) ({ cls := "SkyTrialModel", name := "tailOf", desc := "(IIII)J" } : Jvm.MethodName)) ∈ gTBL := gTBL_in 1528 (by decide +kernel) rfl
theorem ww1529 : (Cond.static ({ cls := "SkyTrialModel", name := "tailOf", desc := "(IIII)J" } : Jvm.MethodName)) ∈ gTBL := gTBL_in 1529 (by decide +kernel) rfl
theorem ww1530 : (Cond.code ({ cls := "SkyTrialModel", name := "tailOf", desc := "(IIII)J" } : Jvm.MethodName) prog_13_method_80_code (7 : Nat) (Option.some Jvm.ClassFile.FieldType.long)) ∈ gTBL := gTBL_in 1530 (by decide +kernel) rfl
theorem ww1531 : (Cond.methodLink "SkyTrialModel" (383 : Nat) ({ cls := "SkyTrialModel", name := "picks", desc := "(II)J" } : Jvm.MethodName)) ∈ gTBL := gTBL_in 1531 (by decide +kernel) rfl
theorem ww1532 : (Cond.static ({ cls := "SkyTrialModel", name := "picks", desc := "(II)J" } : Jvm.MethodName)) ∈ gTBL := gTBL_in 1532 (by decide +kernel) rfl
theorem ww1533 : (Cond.code ({ cls := "SkyTrialModel", name := "picks", desc := "(II)J" } : Jvm.MethodName) prog_13_method_78_code (5 : Nat) (Option.some Jvm.ClassFile.FieldType.long)) ∈ gTBL := gTBL_in 1533 (by decide +kernel) rfl
theorem ww1534 : (Cond.methodLink "SkyTrialModel" (387 : Nat) ({ cls := "SkyTrialModel", name := "power", desc := "(JI)J" } : Jvm.MethodName)) ∈ gTBL := gTBL_in 1534 (by decide +kernel) rfl
theorem ww1535 : (Cond.static ({ cls := "SkyTrialModel", name := "power", desc := "(JI)J" } : Jvm.MethodName)) ∈ gTBL := gTBL_in 1535 (by decide +kernel) rfl
theorem ww1536 : (Cond.code ({ cls := "SkyTrialModel", name := "power", desc := "(JI)J" } : Jvm.MethodName) prog_13_method_79_code (6 : Nat) (Option.some Jvm.ClassFile.FieldType.long)) ∈ gTBL := gTBL_in 1536 (by decide +kernel) rfl
theorem ww1541 : (Cond.constantLong "SkyTrialModel" (396 : Nat) (3 : Int64)) ∈ gTBL := gTBL_in 1541 (by decide +kernel) rfl
theorem ww1542 : (Cond.constantLong "SkyTrialModel" (398 : Nat) (2 : Int64)) ∈ gTBL := gTBL_in 1542 (by decide +kernel) rfl
theorem ww1547 : (Cond.methodLink "SkyTrialModel" (400 : Nat) ({ cls := "SkyTrialModel", name := "isSign", desc := "(I)Z" } : Jvm.MethodName)) ∈ gTBL := gTBL_in 1547 (by decide +kernel) rfl
theorem ww1549 : (Cond.instanceMethod ({ cls := "SkyTrialModel", name := "isSign", desc := "(I)Z" } : Jvm.MethodName)) ∈ gTBL := gTBL_in 1549 (by decide +kernel) rfl
theorem ww1550 : (Cond.code ({ cls := "SkyTrialModel", name := "isSign", desc := "(I)Z" } : Jvm.MethodName) prog_13_method_41_code (2 : Nat) (Option.some Jvm.ClassFile.FieldType.boolean)) ∈ gTBL := gTBL_in 1550 (by decide +kernel) rfl
theorem ww1551 : (Cond.methodLink "SkyTrialModel" (403 : Nat) ({ cls := "SkyTrialModel", name := "upSet", desc := "(I)I" } : Jvm.MethodName)) ∈ gTBL := gTBL_in 1551 (by decide +kernel) rfl
theorem ww1553 : (Cond.instanceMethod ({ cls := "SkyTrialModel", name := "upSet", desc := "(I)I" } : Jvm.MethodName)) ∈ gTBL := gTBL_in 1553 (by decide +kernel) rfl
theorem ww1554 : (Cond.code ({ cls := "SkyTrialModel", name := "upSet", desc := "(I)I" } : Jvm.MethodName) prog_13_method_83_code (4 : Nat) (Option.some Jvm.ClassFile.FieldType.int)) ∈ gTBL := gTBL_in 1554 (by decide +kernel) rfl
theorem ww1555 : (Cond.methodLink "SkyTrialModel" (406 : Nat) ({ cls := "SkyTrialModel", name := "bits", desc := "(I)I" } : Jvm.MethodName)) ∈ gTBL := gTBL_in 1555 (by decide +kernel) rfl
theorem ww1556 : (Cond.static ({ cls := "SkyTrialModel", name := "bits", desc := "(I)I" } : Jvm.MethodName)) ∈ gTBL := gTBL_in 1556 (by decide +kernel) rfl
theorem ww1557 : (Cond.code ({ cls := "SkyTrialModel", name := "bits", desc := "(I)I" } : Jvm.MethodName) prog_13_method_85_code (3 : Nat) (Option.some Jvm.ClassFile.FieldType.int)) ∈ gTBL := gTBL_in 1557 (by decide +kernel) rfl
theorem ww1558 : (Cond.methodLink "SkyTrialModel" (409 : Nat) ({ cls := "SkyTrialModel", name := "trueSet", desc := "(I)I" } : Jvm.MethodName)) ∈ gTBL := gTBL_in 1558 (by decide +kernel) rfl
theorem ww1560 : (Cond.instanceMethod ({ cls := "SkyTrialModel", name := "trueSet", desc := "(I)I" } : Jvm.MethodName)) ∈ gTBL := gTBL_in 1560 (by decide +kernel) rfl
theorem ww1561 : (Cond.code ({ cls := "SkyTrialModel", name := "trueSet", desc := "(I)I" } : Jvm.MethodName) prog_13_method_84_code (4 : Nat) (Option.some Jvm.ClassFile.FieldType.int)) ∈ gTBL := gTBL_in 1561 (by decide +kernel) rfl
theorem ww1566 : (Cond.methodLink "SkyTrialModel" (415 : Nat) ({ cls := "SkyTrialModel", name := "moreIn", desc := "(II)J" } : Jvm.MethodName)) ∈ gTBL := gTBL_in 1566 (by decide +kernel) rfl
theorem ww1568 : (Cond.instanceMethod ({ cls := "SkyTrialModel", name := "moreIn", desc := "(II)J" } : Jvm.MethodName)) ∈ gTBL := gTBL_in 1568 (by decide +kernel) rfl
theorem ww1569 : (Cond.code ({ cls := "SkyTrialModel", name := "moreIn", desc := "(II)J" } : Jvm.MethodName) prog_13_method_88_code (3 : Nat) (Option.some Jvm.ClassFile.FieldType.long)) ∈ gTBL := gTBL_in 1569 (by decide +kernel) rfl
theorem ww1570 : (Cond.methodLink "SkyTrialModel" (412 : Nat) ({ cls := "SkyTrialModel", name := "moreOf", desc := "(IIII)J" } : Jvm.MethodName)) ∈ gTBL := gTBL_in 1570 (by decide +kernel) rfl
theorem ww1571 : (Cond.static ({ cls := "SkyTrialModel", name := "moreOf", desc := "(IIII)J" } : Jvm.MethodName)) ∈ gTBL := gTBL_in 1571 (by decide +kernel) rfl
theorem ww1572 : (Cond.code ({ cls := "SkyTrialModel", name := "moreOf", desc := "(IIII)J" } : Jvm.MethodName) prog_13_method_87_code (7 : Nat) (Option.some Jvm.ClassFile.FieldType.long)) ∈ gTBL := gTBL_in 1572 (by decide +kernel) rfl
theorem ww1573 : (Cond.methodLink "SkyTrialModel" (418 : Nat) ({ cls := "SkyTrialModel", name := "allIn", desc := "(I)J" } : Jvm.MethodName)) ∈ gTBL := gTBL_in 1573 (by decide +kernel) rfl
theorem ww1575 : (Cond.instanceMethod ({ cls := "SkyTrialModel", name := "allIn", desc := "(I)J" } : Jvm.MethodName)) ∈ gTBL := gTBL_in 1575 (by decide +kernel) rfl
theorem ww1576 : (Cond.code ({ cls := "SkyTrialModel", name := "allIn", desc := "(I)J" } : Jvm.MethodName) prog_13_method_89_code (2 : Nat) (Option.some Jvm.ClassFile.FieldType.long)) ∈ gTBL := gTBL_in 1576 (by decide +kernel) rfl
theorem ww1581 : (Cond.methodLink "SkyTrialModel" (422 : Nat) ({ cls := "SkyTrialModel", name := "classOf", desc := "(II)I" } : Jvm.MethodName)) ∈ gTBL := gTBL_in 1581 (by decide +kernel) rfl
theorem ww1583 : (Cond.instanceMethod ({ cls := "SkyTrialModel", name := "classOf", desc := "(II)I" } : Jvm.MethodName)) ∈ gTBL := gTBL_in 1583 (by decide +kernel) rfl
theorem ww1584 : (Cond.code ({ cls := "SkyTrialModel", name := "classOf", desc := "(II)I" } : Jvm.MethodName) prog_13_method_91_code (3 : Nat) (Option.some Jvm.ClassFile.FieldType.int)) ∈ gTBL := gTBL_in 1584 (by decide +kernel) rfl
theorem ww1597 : (Cond.methodLink "SkyTrialModel" (428 : Nat) ({ cls := "SkyTrialModel", name := "fact", desc := "(IIIZ)I" } : Jvm.MethodName)) ∈ gTBL := gTBL_in 1597 (by decide +kernel) rfl
theorem ww1599 : (Cond.instanceMethod ({ cls := "SkyTrialModel", name := "fact", desc := "(IIIZ)I" } : Jvm.MethodName)) ∈ gTBL := gTBL_in 1599 (by decide +kernel) rfl
theorem ww1600 : (Cond.code ({ cls := "SkyTrialModel", name := "fact", desc := "(IIIZ)I" } : Jvm.MethodName) prog_13_method_95_code (5 : Nat) (Option.some Jvm.ClassFile.FieldType.int)) ∈ gTBL := gTBL_in 1600 (by decide +kernel) rfl
theorem ww1617 : (Cond.methodLink "SkyTrialModel" (432 : Nat) ({ cls := "SkyTrialModel", name := "isKnown", desc := "(I)Z" } : Jvm.MethodName)) ∈ gTBL := gTBL_in 1617 (by decide +kernel) rfl
theorem ww1619 : (Cond.instanceMethod ({ cls := "SkyTrialModel", name := "isKnown", desc := "(I)Z" } : Jvm.MethodName)) ∈ gTBL := gTBL_in 1619 (by decide +kernel) rfl
theorem ww1620 : (Cond.code ({ cls := "SkyTrialModel", name := "isKnown", desc := "(I)Z" } : Jvm.MethodName) prog_13_method_100_code (2 : Nat) (Option.some Jvm.ClassFile.FieldType.boolean)) ∈ gTBL := gTBL_in 1620 (by decide +kernel) rfl
theorem ww1621 : (Cond.methodLink "SkyTrialModel" (435 : Nat) ({ cls := "SkyTrialModel", name := "isFact", desc := "(III)Z" } : Jvm.MethodName)) ∈ gTBL := gTBL_in 1621 (by decide +kernel) rfl
theorem ww1623 : (Cond.instanceMethod ({ cls := "SkyTrialModel", name := "isFact", desc := "(III)Z" } : Jvm.MethodName)) ∈ gTBL := gTBL_in 1623 (by decide +kernel) rfl
theorem ww1624 : (Cond.code ({ cls := "SkyTrialModel", name := "isFact", desc := "(III)Z" } : Jvm.MethodName) prog_13_method_101_code (5 : Nat) (Option.some Jvm.ClassFile.FieldType.boolean)) ∈ gTBL := gTBL_in 1624 (by decide +kernel) rfl
theorem ww1637 : (Cond.methodLink "SkyTrialModel" (438 : Nat) ({ cls := "SkyTrialModel", name := "isOn", desc := "(II)Z" } : Jvm.MethodName)) ∈ gTBL := gTBL_in 1637 (by decide +kernel) rfl
theorem ww1639 : (Cond.instanceMethod ({ cls := "SkyTrialModel", name := "isOn", desc := "(II)Z" } : Jvm.MethodName)) ∈ gTBL := gTBL_in 1639 (by decide +kernel) rfl
theorem ww1640 : (Cond.code ({ cls := "SkyTrialModel", name := "isOn", desc := "(II)Z" } : Jvm.MethodName) prog_13_method_105_code (5 : Nat) (Option.some Jvm.ClassFile.FieldType.boolean)) ∈ gTBL := gTBL_in 1640 (by decide +kernel) rfl
theorem ww1645 : (Cond.methodLink "SkyTrialModel" (444 : Nat) ({ cls := "SkyTrialModel", name := "listSet", desc := "(I)I" } : Jvm.MethodName)) ∈ gTBL := gTBL_in 1645 (by decide +kernel) rfl
theorem ww1647 : (Cond.instanceMethod ({ cls := "SkyTrialModel", name := "listSet", desc := "(I)I" } : Jvm.MethodName)) ∈ gTBL := gTBL_in 1647 (by decide +kernel) rfl
theorem ww1648 : (Cond.code ({ cls := "SkyTrialModel", name := "listSet", desc := "(I)I" } : Jvm.MethodName) prog_13_method_107_code (4 : Nat) (Option.some Jvm.ClassFile.FieldType.int)) ∈ gTBL := gTBL_in 1648 (by decide +kernel) rfl
theorem ww1649 : (Cond.methodLink "SkyTrialModel" (441 : Nat) ({ cls := "SkyTrialModel", name := "tries", desc := "(I)I" } : Jvm.MethodName)) ∈ gTBL := gTBL_in 1649 (by decide +kernel) rfl
theorem ww1651 : (Cond.instanceMethod ({ cls := "SkyTrialModel", name := "tries", desc := "(I)I" } : Jvm.MethodName)) ∈ gTBL := gTBL_in 1651 (by decide +kernel) rfl
theorem ww1652 : (Cond.code ({ cls := "SkyTrialModel", name := "tries", desc := "(I)I" } : Jvm.MethodName) prog_13_method_108_code (6 : Nat) (Option.some Jvm.ClassFile.FieldType.int)) ∈ gTBL := gTBL_in 1652 (by decide +kernel) rfl
theorem ww1653 : (Cond.methodLink "SkyTrialModel" (449 : Nat) ({ cls := "SkyTrialModel", name := "stands", desc := "(II)Z" } : Jvm.MethodName)) ∈ gTBL := gTBL_in 1653 (by decide +kernel) rfl
theorem ww1655 : (Cond.instanceMethod ({ cls := "SkyTrialModel", name := "stands", desc := "(II)Z" } : Jvm.MethodName)) ∈ gTBL := gTBL_in 1655 (by decide +kernel) rfl
theorem ww1656 : (Cond.code ({ cls := "SkyTrialModel", name := "stands", desc := "(II)Z" } : Jvm.MethodName) prog_13_method_109_code (5 : Nat) (Option.some Jvm.ClassFile.FieldType.boolean)) ∈ gTBL := gTBL_in 1656 (by decide +kernel) rfl
theorem ww1657 : (Cond.constantLong "SkyTrialModel" (447 : Nat) (20 : Int64)) ∈ gTBL := gTBL_in 1657 (by decide +kernel) rfl
theorem selP_37 : Cond.selects yX10_fillRedTable.cls yX10_fillRedTable yX10_fillRedTable ∈ gTBL := gTBL_sel (q := (yX10_fillRedTable, 7)) 37 (by decide +kernel) (List.mem_of_getElem? (i := 37) (by decide +kernel)) rfl
theorem selP_30 : Cond.selects yX10_isBook.cls yX10_isBook yX10_isBook ∈ gTBL := gTBL_sel (q := (yX10_isBook, 7)) 30 (by decide +kernel) (List.mem_of_getElem? (i := 30) (by decide +kernel)) rfl
theorem selP_31 : Cond.selects yX10_isLaw.cls yX10_isLaw yX10_isLaw ∈ gTBL := gTBL_sel (q := (yX10_isLaw, 7)) 31 (by decide +kernel) (List.mem_of_getElem? (i := 31) (by decide +kernel)) rfl
theorem selP_29 : Cond.selects yX10_isSentence.cls yX10_isSentence yX10_isSentence ∈ gTBL := gTBL_sel (q := (yX10_isSentence, 7)) 29 (by decide +kernel) (List.mem_of_getElem? (i := 29) (by decide +kernel)) rfl
theorem selP_34 : Cond.selects yX10_isSign.cls yX10_isSign yX10_isSign ∈ gTBL := gTBL_sel (q := (yX10_isSign, 7)) 34 (by decide +kernel) (List.mem_of_getElem? (i := 34) (by decide +kernel)) rfl
theorem selP_38 : Cond.selects yX10_redStands.cls yX10_redStands yX10_redStands ∈ gTBL := gTBL_sel (q := (yX10_redStands, 7)) 38 (by decide +kernel) (List.mem_of_getElem? (i := 38) (by decide +kernel)) rfl
theorem selP_28 : Cond.selects yX10_roundedMinute.cls yX10_roundedMinute yX10_roundedMinute ∈ gTBL := gTBL_sel (q := (yX10_roundedMinute, 7)) 28 (by decide +kernel) (List.mem_of_getElem? (i := 28) (by decide +kernel)) rfl
theorem selP_36 : Cond.selects yX0_taking.cls yX0_taking yX0_taking ∈ gTBL := gTBL_sel (q := (yX0_taking, 5)) 36 (by decide +kernel) (List.mem_of_getElem? (i := 36) (by decide +kernel)) rfl
theorem selP_35 : Cond.selects yX0_takingJust.cls yX0_takingJust yX0_takingJust ∈ gTBL := gTBL_sel (q := (yX0_takingJust, 5)) 35 (by decide +kernel) (List.mem_of_getElem? (i := 35) (by decide +kernel)) rfl
theorem selP_33 : Cond.selects yX2_nthOther.cls yX2_nthOther yX2_nthOther ∈ gTBL := gTBL_sel (q := (yX2_nthOther, 2)) 33 (by decide +kernel) (List.mem_of_getElem? (i := 33) (by decide +kernel)) rfl
theorem selP_26 : Cond.selects yX3_pop.cls yX3_pop yX3_pop ∈ gTBL := gTBL_sel (q := (yX3_pop, 3)) 26 (by decide +kernel) (List.mem_of_getElem? (i := 26) (by decide +kernel)) rfl
theorem selP_25 : Cond.selects yX3_push.cls yX3_push yX3_push ∈ gTBL := gTBL_sel (q := (yX3_push, 3)) 25 (by decide +kernel) (List.mem_of_getElem? (i := 25) (by decide +kernel)) rfl
theorem selP_24 : Cond.selects yX3_step.cls yX3_step yX3_step ∈ gTBL := gTBL_sel (q := (yX3_step, 3)) 24 (by decide +kernel) (List.mem_of_getElem? (i := 24) (by decide +kernel)) rfl
theorem selP_27 : Cond.selects yX4_bitsOf.cls yX4_bitsOf yX4_bitsOf ∈ gTBL := gTBL_sel (q := (yX4_bitsOf, 6)) 27 (by decide +kernel) (List.mem_of_getElem? (i := 27) (by decide +kernel)) rfl
theorem selP_23 : Cond.selects yX4_setPerson.cls yX4_setPerson yX4_setPerson ∈ gTBL := gTBL_sel (q := (yX4_setPerson, 6)) 23 (by decide +kernel) (List.mem_of_getElem? (i := 23) (by decide +kernel)) rfl
theorem selP_32 : Cond.selects yX4_sixths.cls yX4_sixths yX4_sixths ∈ gTBL := gTBL_sel (q := (yX4_sixths, 6)) 32 (by decide +kernel) (List.mem_of_getElem? (i := 32) (by decide +kernel)) rfl
theorem selP_12 : Cond.selects yX7_blame.cls yX7_blame yX7_blame ∈ gTBL := gTBL_sel (q := (yX7_blame, 14)) 12 (by decide +kernel) (List.mem_of_getElem? (i := 12) (by decide +kernel)) rfl
theorem selP_14 : Cond.selects yX7_condition.cls yX7_condition yX7_condition ∈ gTBL := gTBL_sel (q := (yX7_condition, 14)) 14 (by decide +kernel) (List.mem_of_getElem? (i := 14) (by decide +kernel)) rfl
theorem selP_9 : Cond.selects yX7_fail.cls yX7_fail yX7_fail ∈ gTBL := gTBL_sel (q := (yX7_fail, 14)) 9 (by decide +kernel) (List.mem_of_getElem? (i := 9) (by decide +kernel)) rfl
theorem selP_11 : Cond.selects yX7_findName.cls yX7_findName yX7_findName ∈ gTBL := gTBL_sel (q := (yX7_findName, 14)) 11 (by decide +kernel) (List.mem_of_getElem? (i := 11) (by decide +kernel)) rfl
theorem selP_15 : Cond.selects yX7_literal.cls yX7_literal yX7_literal ∈ gTBL := gTBL_sel (q := (yX7_literal, 14)) 15 (by decide +kernel) (List.mem_of_getElem? (i := 15) (by decide +kernel)) rfl
theorem selP_21 : Cond.selects yX7_nameAhead.cls yX7_nameAhead yX7_nameAhead ∈ gTBL := gTBL_sel (q := (yX7_nameAhead, 14)) 21 (by decide +kernel) (List.mem_of_getElem? (i := 21) (by decide +kernel)) rfl
theorem selP_13 : Cond.selects yX7_need.cls yX7_need yX7_need ∈ gTBL := gTBL_sel (q := (yX7_need, 14)) 13 (by decide +kernel) (List.mem_of_getElem? (i := 13) (by decide +kernel)) rfl
theorem selP_7 : Cond.selects yX7_open.cls yX7_open yX7_open ∈ gTBL := gTBL_sel (q := (yX7_open, 14)) 7 (by decide +kernel) (List.mem_of_getElem? (i := 7) (by decide +kernel)) rfl
theorem selP_5 : Cond.selects yX7_start.cls yX7_start yX7_start ∈ gTBL := gTBL_sel (q := (yX7_start, 14)) 5 (by decide +kernel) (List.mem_of_getElem? (i := 5) (by decide +kernel)) rfl
theorem selP_16 : Cond.selects yX7_sum.cls yX7_sum yX7_sum ∈ gTBL := gTBL_sel (q := (yX7_sum, 14)) 16 (by decide +kernel) (List.mem_of_getElem? (i := 16) (by decide +kernel)) rfl
theorem selP_8 : Cond.selects yX7_take.cls yX7_take yX7_take ∈ gTBL := gTBL_sel (q := (yX7_take, 14)) 8 (by decide +kernel) (List.mem_of_getElem? (i := 8) (by decide +kernel)) rfl
theorem selP_19 : Cond.selects yX7_tellBook.cls yX7_tellBook yX7_tellBook ∈ gTBL := gTBL_sel (q := (yX7_tellBook, 14)) 19 (by decide +kernel) (List.mem_of_getElem? (i := 19) (by decide +kernel)) rfl
theorem selP_22 : Cond.selects yX7_tellLaw.cls yX7_tellLaw yX7_tellLaw ∈ gTBL := gTBL_sel (q := (yX7_tellLaw, 14)) 22 (by decide +kernel) (List.mem_of_getElem? (i := 22) (by decide +kernel)) rfl
theorem selP_10 : Cond.selects yX7_tellName.cls yX7_tellName yX7_tellName ∈ gTBL := gTBL_sel (q := (yX7_tellName, 14)) 10 (by decide +kernel) (List.mem_of_getElem? (i := 10) (by decide +kernel)) rfl
theorem selP_18 : Cond.selects yX7_tellSay.cls yX7_tellSay yX7_tellSay ∈ gTBL := gTBL_sel (q := (yX7_tellSay, 14)) 18 (by decide +kernel) (List.mem_of_getElem? (i := 18) (by decide +kernel)) rfl
theorem selP_6 : Cond.selects yX7_tellSign.cls yX7_tellSign yX7_tellSign ∈ gTBL := gTBL_sel (q := (yX7_tellSign, 14)) 6 (by decide +kernel) (List.mem_of_getElem? (i := 6) (by decide +kernel)) rfl
theorem selP_20 : Cond.selects yX7_tellWhen.cls yX7_tellWhen yX7_tellWhen ∈ gTBL := gTBL_sel (q := (yX7_tellWhen, 14)) 20 (by decide +kernel) (List.mem_of_getElem? (i := 20) (by decide +kernel)) rfl
theorem selP_17 : Cond.selects yX7_unit.cls yX7_unit yX7_unit ∈ gTBL := gTBL_sel (q := (yX7_unit, 14)) 17 (by decide +kernel) (List.mem_of_getElem? (i := 17) (by decide +kernel)) rfl
theorem selP_1 : Cond.selects yX8_put.cls yX8_put yX8_put ∈ gTBL := gTBL_sel (q := (yX8_put, 5)) 1 (by decide +kernel) (List.mem_of_getElem? (i := 1) (by decide +kernel)) rfl
theorem selP_4 : Cond.selects yX8_scanInt.cls yX8_scanInt yX8_scanInt ∈ gTBL := gTBL_sel (q := (yX8_scanInt, 5)) 4 (by decide +kernel) (List.mem_of_getElem? (i := 4) (by decide +kernel)) rfl
theorem selP_0 : Cond.selects yX8_scanOne.cls yX8_scanOne yX8_scanOne ∈ gTBL := gTBL_sel (q := (yX8_scanOne, 5)) 0 (by decide +kernel) (List.mem_of_getElem? (i := 0) (by decide +kernel)) rfl
theorem selP_2 : Cond.selects yX8_scanWord.cls yX8_scanWord yX8_scanWord ∈ gTBL := gTBL_sel (q := (yX8_scanWord, 5)) 2 (by decide +kernel) (List.mem_of_getElem? (i := 2) (by decide +kernel)) rfl
theorem selP_3 : Cond.selects yX8_wordKind.cls yX8_wordKind yX8_wordKind ∈ gTBL := gTBL_sel (q := (yX8_wordKind, 5)) 3 (by decide +kernel) (List.mem_of_getElem? (i := 3) (by decide +kernel)) rfl
theorem selP_87 : Cond.selects yX11_allIn.cls yX11_allIn yX11_allIn ∈ gTBL := gTBL_sel (q := (yX11_allIn, 65)) 87 (by decide +kernel) (List.mem_of_getElem? (i := 87) (by decide +kernel)) rfl
theorem selP_41 : Cond.selects yX11_byteAt.cls yX11_byteAt yX11_byteAt ∈ gTBL := gTBL_sel (q := (yX11_byteAt, 65)) 41 (by decide +kernel) (List.mem_of_getElem? (i := 41) (by decide +kernel)) rfl
theorem selP_88 : Cond.selects yX11_classOf.cls yX11_classOf yX11_classOf ∈ gTBL := gTBL_sel (q := (yX11_classOf, 65)) 88 (by decide +kernel) (List.mem_of_getElem? (i := 88) (by decide +kernel)) rfl
theorem selP_57 : Cond.selects yX11_comesOut.cls yX11_comesOut yX11_comesOut ∈ gTBL := gTBL_sel (q := (yX11_comesOut, 65)) 57 (by decide +kernel) (List.mem_of_getElem? (i := 57) (by decide +kernel)) rfl
theorem selP_52 : Cond.selects yX11_condition.cls yX11_condition yX11_condition ∈ gTBL := gTBL_sel (q := (yX11_condition, 65)) 52 (by decide +kernel) (List.mem_of_getElem? (i := 52) (by decide +kernel)) rfl
theorem selP_40 : Cond.selects yX11_cut.cls yX11_cut yX11_cut ∈ gTBL := gTBL_sel (q := (yX11_cut, 65)) 40 (by decide +kernel) (List.mem_of_getElem? (i := 40) (by decide +kernel)) rfl
theorem selP_56 : Cond.selects yX11_emit.cls yX11_emit yX11_emit ∈ gTBL := gTBL_sel (q := (yX11_emit, 65)) 56 (by decide +kernel) (List.mem_of_getElem? (i := 56) (by decide +kernel)) rfl
theorem selP_54 : Cond.selects yX11_expression.cls yX11_expression yX11_expression ∈ gTBL := gTBL_sel (q := (yX11_expression, 65)) 54 (by decide +kernel) (List.mem_of_getElem? (i := 54) (by decide +kernel)) rfl
theorem selP_89 : Cond.selects yX11_fact.cls yX11_fact yX11_fact ∈ gTBL := gTBL_sel (q := (yX11_fact, 65)) 89 (by decide +kernel) (List.mem_of_getElem? (i := 89) (by decide +kernel)) rfl
theorem selP_46 : Cond.selects yX11_fail.cls yX11_fail yX11_fail ∈ gTBL := gTBL_sel (q := (yX11_fail, 65)) 46 (by decide +kernel) (List.mem_of_getElem? (i := 46) (by decide +kernel)) rfl
theorem selP_80 : Cond.selects yX11_firstGiven.cls yX11_firstGiven yX11_firstGiven ∈ gTBL := gTBL_sel (q := (yX11_firstGiven, 65)) 80 (by decide +kernel) (List.mem_of_getElem? (i := 80) (by decide +kernel)) rfl
theorem selP_78 : Cond.selects yX11_fitOf.cls yX11_fitOf yX11_fitOf ∈ gTBL := gTBL_sel (q := (yX11_fitOf, 65)) 78 (by decide +kernel) (List.mem_of_getElem? (i := 78) (by decide +kernel)) rfl
theorem selP_48 : Cond.selects yX11_goesOn.cls yX11_goesOn yX11_goesOn ∈ gTBL := gTBL_sel (q := (yX11_goesOn, 65)) 48 (by decide +kernel) (List.mem_of_getElem? (i := 48) (by decide +kernel)) rfl
theorem selP_66 : Cond.selects yX11_holdsRule.cls yX11_holdsRule yX11_holdsRule ∈ gTBL := gTBL_sel (q := (yX11_holdsRule, 65)) 66 (by decide +kernel) (List.mem_of_getElem? (i := 66) (by decide +kernel)) rfl
theorem selP_44 : Cond.selects yX11_is.cls yX11_is yX11_is ∈ gTBL := gTBL_sel (q := (yX11_is, 65)) 44 (by decide +kernel) (List.mem_of_getElem? (i := 44) (by decide +kernel)) rfl
theorem selP_73 : Cond.selects yX11_isBook.cls yX11_isBook yX11_isBook ∈ gTBL := gTBL_sel (q := (yX11_isBook, 65)) 73 (by decide +kernel) (List.mem_of_getElem? (i := 73) (by decide +kernel)) rfl
theorem selP_91 : Cond.selects yX11_isFact.cls yX11_isFact yX11_isFact ∈ gTBL := gTBL_sel (q := (yX11_isFact, 65)) 91 (by decide +kernel) (List.mem_of_getElem? (i := 91) (by decide +kernel)) rfl
theorem selP_90 : Cond.selects yX11_isKnown.cls yX11_isKnown yX11_isKnown ∈ gTBL := gTBL_sel (q := (yX11_isKnown, 65)) 90 (by decide +kernel) (List.mem_of_getElem? (i := 90) (by decide +kernel)) rfl
theorem selP_77 : Cond.selects yX11_isLaw.cls yX11_isLaw yX11_isLaw ∈ gTBL := gTBL_sel (q := (yX11_isLaw, 65)) 77 (by decide +kernel) (List.mem_of_getElem? (i := 77) (by decide +kernel)) rfl
theorem selP_92 : Cond.selects yX11_isOn.cls yX11_isOn yX11_isOn ∈ gTBL := gTBL_sel (q := (yX11_isOn, 65)) 92 (by decide +kernel) (List.mem_of_getElem? (i := 92) (by decide +kernel)) rfl
theorem selP_69 : Cond.selects yX11_isPerson.cls yX11_isPerson yX11_isPerson ∈ gTBL := gTBL_sel (q := (yX11_isPerson, 65)) 69 (by decide +kernel) (List.mem_of_getElem? (i := 69) (by decide +kernel)) rfl
theorem selP_71 : Cond.selects yX11_isSay.cls yX11_isSay yX11_isSay ∈ gTBL := gTBL_sel (q := (yX11_isSay, 65)) 71 (by decide +kernel) (List.mem_of_getElem? (i := 71) (by decide +kernel)) rfl
theorem selP_83 : Cond.selects yX11_isSign.cls yX11_isSign yX11_isSign ∈ gTBL := gTBL_sel (q := (yX11_isSign, 65)) 83 (by decide +kernel) (List.mem_of_getElem? (i := 83) (by decide +kernel)) rfl
theorem selP_67 : Cond.selects yX11_isTrue.cls yX11_isTrue yX11_isTrue ∈ gTBL := gTBL_sel (q := (yX11_isTrue, 65)) 67 (by decide +kernel) (List.mem_of_getElem? (i := 67) (by decide +kernel)) rfl
theorem selP_72 : Cond.selects yX11_isTrueOf.cls yX11_isTrueOf yX11_isTrueOf ∈ gTBL := gTBL_sel (q := (yX11_isTrueOf, 65)) 72 (by decide +kernel) (List.mem_of_getElem? (i := 72) (by decide +kernel)) rfl
theorem selP_64 : Cond.selects yX11_isUp.cls yX11_isUp yX11_isUp ∈ gTBL := gTBL_sel (q := (yX11_isUp, 65)) 64 (by decide +kernel) (List.mem_of_getElem? (i := 64) (by decide +kernel)) rfl
theorem selP_62 : Cond.selects yX11_known.cls yX11_known yX11_known ∈ gTBL := gTBL_sel (q := (yX11_known, 65)) 62 (by decide +kernel) (List.mem_of_getElem? (i := 62) (by decide +kernel)) rfl
theorem selP_58 : Cond.selects yX11_knows.cls yX11_knows yX11_knows ∈ gTBL := gTBL_sel (q := (yX11_knows, 65)) 58 (by decide +kernel) (List.mem_of_getElem? (i := 58) (by decide +kernel)) rfl
theorem selP_93 : Cond.selects yX11_listSet.cls yX11_listSet yX11_listSet ∈ gTBL := gTBL_sel (q := (yX11_listSet, 65)) 93 (by decide +kernel) (List.mem_of_getElem? (i := 93) (by decide +kernel)) rfl
theorem selP_53 : Cond.selects yX11_literal.cls yX11_literal yX11_literal ∈ gTBL := gTBL_sel (q := (yX11_literal, 65)) 53 (by decide +kernel) (List.mem_of_getElem? (i := 53) (by decide +kernel)) rfl
theorem selP_65 : Cond.selects yX11_looksAt.cls yX11_looksAt yX11_looksAt ∈ gTBL := gTBL_sel (q := (yX11_looksAt, 65)) 65 (by decide +kernel) (List.mem_of_getElem? (i := 65) (by decide +kernel)) rfl
theorem selP_86 : Cond.selects yX11_moreIn.cls yX11_moreIn yX11_moreIn ∈ gTBL := gTBL_sel (q := (yX11_moreIn, 65)) 86 (by decide +kernel) (List.mem_of_getElem? (i := 86) (by decide +kernel)) rfl
theorem selP_50 : Cond.selects yX11_must.cls yX11_must yX11_must ∈ gTBL := gTBL_sel (q := (yX11_must, 65)) 50 (by decide +kernel) (List.mem_of_getElem? (i := 50) (by decide +kernel)) rfl
theorem selP_49 : Cond.selects yX11_named.cls yX11_named yX11_named ∈ gTBL := gTBL_sel (q := (yX11_named, 65)) 49 (by decide +kernel) (List.mem_of_getElem? (i := 49) (by decide +kernel)) rfl
theorem selP_81 : Cond.selects yX11_other.cls yX11_other yX11_other ∈ gTBL := gTBL_sel (q := (yX11_other, 65)) 81 (by decide +kernel) (List.mem_of_getElem? (i := 81) (by decide +kernel)) rfl
theorem selP_75 : Cond.selects yX11_paperBy.cls yX11_paperBy yX11_paperBy ∈ gTBL := gTBL_sel (q := (yX11_paperBy, 65)) 75 (by decide +kernel) (List.mem_of_getElem? (i := 75) (by decide +kernel)) rfl
theorem selP_74 : Cond.selects yX11_paperOf.cls yX11_paperOf yX11_paperOf ∈ gTBL := gTBL_sel (q := (yX11_paperOf, 65)) 74 (by decide +kernel) (List.mem_of_getElem? (i := 74) (by decide +kernel)) rfl
theorem selP_39 : Cond.selects yX11_put.cls yX11_put yX11_put ∈ gTBL := gTBL_sel (q := (yX11_put, 65)) 39 (by decide +kernel) (List.mem_of_getElem? (i := 39) (by decide +kernel)) rfl
theorem selP_82 : Cond.selects yX11_secondGiven.cls yX11_secondGiven yX11_secondGiven ∈ gTBL := gTBL_sel (q := (yX11_secondGiven, 65)) 82 (by decide +kernel) (List.mem_of_getElem? (i := 82) (by decide +kernel)) rfl
theorem selP_43 : Cond.selects yX11_sign.cls yX11_sign yX11_sign ∈ gTBL := gTBL_sel (q := (yX11_sign, 65)) 43 (by decide +kernel) (List.mem_of_getElem? (i := 43) (by decide +kernel)) rfl
theorem selP_70 : Cond.selects yX11_signsOf.cls yX11_signsOf yX11_signsOf ∈ gTBL := gTBL_sel (q := (yX11_signsOf, 65)) 70 (by decide +kernel) (List.mem_of_getElem? (i := 70) (by decide +kernel)) rfl
theorem selP_79 : Cond.selects yX11_sixths.cls yX11_sixths yX11_sixths ∈ gTBL := gTBL_sel (q := (yX11_sixths, 65)) 79 (by decide +kernel) (List.mem_of_getElem? (i := 79) (by decide +kernel)) rfl
theorem selP_95 : Cond.selects yX11_stands.cls yX11_stands yX11_stands ∈ gTBL := gTBL_sel (q := (yX11_stands, 65)) 95 (by decide +kernel) (List.mem_of_getElem? (i := 95) (by decide +kernel)) rfl
theorem selP_45 : Cond.selects yX11_tell.cls yX11_tell yX11_tell ∈ gTBL := gTBL_sel (q := (yX11_tell, 65)) 45 (by decide +kernel) (List.mem_of_getElem? (i := 45) (by decide +kernel)) rfl
theorem selP_60 : Cond.selects yX11_tellBook.cls yX11_tellBook yX11_tellBook ∈ gTBL := gTBL_sel (q := (yX11_tellBook, 65)) 60 (by decide +kernel) (List.mem_of_getElem? (i := 60) (by decide +kernel)) rfl
theorem selP_63 : Cond.selects yX11_tellLaw.cls yX11_tellLaw yX11_tellLaw ∈ gTBL := gTBL_sel (q := (yX11_tellLaw, 65)) 63 (by decide +kernel) (List.mem_of_getElem? (i := 63) (by decide +kernel)) rfl
theorem selP_59 : Cond.selects yX11_tellSay.cls yX11_tellSay yX11_tellSay ∈ gTBL := gTBL_sel (q := (yX11_tellSay, 65)) 59 (by decide +kernel) (List.mem_of_getElem? (i := 59) (by decide +kernel)) rfl
theorem selP_47 : Cond.selects yX11_tellSign.cls yX11_tellSign yX11_tellSign ∈ gTBL := gTBL_sel (q := (yX11_tellSign, 65)) 47 (by decide +kernel) (List.mem_of_getElem? (i := 47) (by decide +kernel)) rfl
theorem selP_61 : Cond.selects yX11_tellWhen.cls yX11_tellWhen yX11_tellWhen ∈ gTBL := gTBL_sel (q := (yX11_tellWhen, 65)) 61 (by decide +kernel) (List.mem_of_getElem? (i := 61) (by decide +kernel)) rfl
theorem selP_68 : Cond.selects yX11_termOf.cls yX11_termOf yX11_termOf ∈ gTBL := gTBL_sel (q := (yX11_termOf, 65)) 68 (by decide +kernel) (List.mem_of_getElem? (i := 68) (by decide +kernel)) rfl
theorem selP_42 : Cond.selects yX11_token.cls yX11_token yX11_token ∈ gTBL := gTBL_sel (q := (yX11_token, 65)) 42 (by decide +kernel) (List.mem_of_getElem? (i := 42) (by decide +kernel)) rfl
theorem selP_94 : Cond.selects yX11_tries.cls yX11_tries yX11_tries ∈ gTBL := gTBL_sel (q := (yX11_tries, 65)) 94 (by decide +kernel) (List.mem_of_getElem? (i := 94) (by decide +kernel)) rfl
theorem selP_76 : Cond.selects yX11_trueOf.cls yX11_trueOf yX11_trueOf ∈ gTBL := gTBL_sel (q := (yX11_trueOf, 65)) 76 (by decide +kernel) (List.mem_of_getElem? (i := 76) (by decide +kernel)) rfl
theorem selP_85 : Cond.selects yX11_trueSet.cls yX11_trueSet yX11_trueSet ∈ gTBL := gTBL_sel (q := (yX11_trueSet, 65)) 85 (by decide +kernel) (List.mem_of_getElem? (i := 85) (by decide +kernel)) rfl
theorem selP_55 : Cond.selects yX11_unit.cls yX11_unit yX11_unit ∈ gTBL := gTBL_sel (q := (yX11_unit, 65)) 55 (by decide +kernel) (List.mem_of_getElem? (i := 55) (by decide +kernel)) rfl
theorem selP_84 : Cond.selects yX11_upSet.cls yX11_upSet yX11_upSet ∈ gTBL := gTBL_sel (q := (yX11_upSet, 65)) 84 (by decide +kernel) (List.mem_of_getElem? (i := 84) (by decide +kernel)) rfl
theorem selP_51 : Cond.selects yX11_wrong.cls yX11_wrong yX11_wrong ∈ gTBL := gTBL_sel (q := (yX11_wrong, 65)) 51 (by decide +kernel) (List.mem_of_getElem? (i := 51) (by decide +kernel)) rfl
theorem cwX0_27 : cwT RX0 27 yX0_startRow cX0_startRow 2 none 1 := ⟨⟨ww826, ww827, ww14, ww828⟩, by decide, by decide, rfl⟩
theorem cwX0_31 : cwT RX0 31 yX0_addTry cX0_addTry 5 none 4 := ⟨⟨ww829, ww830, ww14, ww831⟩, by decide, by decide, rfl⟩
theorem cwX0_35 : cwT RX0 35 yX0_sumOf cX0_sumOf 6 (some .long) 3 := ⟨⟨ww833, ww834, ww14, ww835⟩, by decide, by decide, rfl⟩
theorem cwX0_52 : cwO RX0 52 yX0_taking cX0_taking 3 (some .long) 2 := ⟨⟨ww883, ww885, selP_36, ww14, ww886⟩, by decide, by decide, rfl⟩
theorem cwX0_59 : cwO RX0 59 yX0_takingJust cX0_takingJust 3 (some .long) 2 := ⟨⟨ww879, ww881, selP_35, ww14, ww882⟩, by decide, by decide, rfl⟩
theorem cwX0_72 : cwN RX0 72 yX10_inRange "SkyTrial" cX10_inRange 3 (some .boolean) 3 := ⟨⟨nest_in 887 (by decide +kernel) rfl, ww441, ww1, ww442⟩, by decide, by decide, rfl⟩
theorem cwX0_76 : cwT RX0 76 yJ9_min_7cf53 cJ9_min_7cf53 2 (some .int) 2 := ⟨⟨ww832, ww626, ww17, ww627⟩, by decide, by decide, rfl⟩
theorem cwX0_82 : cwT RX0 82 yJ9_max_7cf53 cJ9_max_7cf53 2 (some .int) 2 := ⟨⟨ww836, ww629, ww17, ww630⟩, by decide, by decide, rfl⟩
theorem cwX1_29 : cwO RX1 29 yX1_has cX1_has 2 (some .boolean) 1 := ⟨⟨ww964, ww949, ww950, ww13, ww951⟩, by decide, by decide, rfl⟩
theorem cwX1_33 : cwT RX1 33 yJ13_bitCount_95d88 cJ13_bitCount_95d88 2 (some .int) 1 := ⟨⟨ww1006, ww1007, ww20, ww1008⟩, by decide, by decide, rfl⟩
theorem cwX10_64 : cwO RX10 64 yX6_addFour cX6_addFour 3 none 1 := ⟨⟨ww403, ww404, ww405, ww2, ww406⟩, by decide, by decide, rfl⟩
theorem cwX10_68 : cwO RX10 68 yX7_parse cX7_parse 3 (some .int) 1 := ⟨⟨ww415, ww416, ww417, ww3, ww418⟩, by decide, by decide, rfl⟩
theorem cwX10_76 : cwO RX10 76 yX7_exchange cX7_exchange 3 (some (.object "SkyTrial$Told")) 1 := ⟨⟨ww563, ww564, ww565, ww3, ww566⟩, by decide, by decide, rfl⟩
theorem cwX10_80 : cwO RX10 80 yX7_faultPlace cX7_faultPlace 1 (some .int) 0 := ⟨⟨ww571, ww572, ww573, ww3, ww574⟩, by decide, by decide, rfl⟩
theorem cwX10_88 : cwT RX10 88 yX10_inRange cX10_inRange 3 (some .boolean) 3 := ⟨⟨ww580, ww441, ww1, ww442⟩, by decide, by decide, rfl⟩
theorem cwX10_92 : cwO RX10 92 yX2_setTrait cX2_setTrait 4 none 3 := ⟨⟨ww581, ww582, ww583, ww10, ww584⟩, by decide, by decide, rfl⟩
theorem cwX10_96 : cwO RX10 96 yX2_setWays cX2_setWays 5 none 2 := ⟨⟨ww586, ww587, ww588, ww10, ww589⟩, by decide, by decide, rfl⟩
theorem cwX10_100 : cwO RX10 100 yX2_draw cX2_draw 4 none 2 := ⟨⟨ww595, ww596, ww597, ww10, ww598⟩, by decide, by decide, rfl⟩
theorem cwX10_103 : cwO RX10 103 yX4_markBySigns cX4_markBySigns 6 none 3 := ⟨⟨ww608, ww609, ww610, ww11, ww611⟩, by decide, by decide, rfl⟩
theorem cwX10_106 : cwO RX10 106 yX2_has cX2_has 2 (some .boolean) 1 := ⟨⟨ww652, ww653, ww654, ww10, ww655⟩, by decide, by decide, rfl⟩
theorem cwX10_110 : cwO RX10 110 yX2_trait cX2_trait 3 (some .int) 2 := ⟨⟨ww656, ww617, ww618, ww10, ww619⟩, by decide, by decide, rfl⟩
theorem cwX10_114 : cwO RX10 114 yX4_upAt cX4_upAt 3 (some .int) 2 := ⟨⟨ww661, ww662, ww663, ww11, ww664⟩, by decide, by decide, rfl⟩
theorem cwX10_117 : cwT RX10 117 yX10_isStep cX10_isStep 1 (some .boolean) 1 := ⟨⟨ww673, ww674, ww1, ww675⟩, by decide, by decide, rfl⟩
theorem cwX10_120 : cwO RX10 120 yX10_roundedMinute cX10_roundedMinute 4 (some .int) 2 := ⟨⟨ww676, ww678, selP_28, ww1, ww679⟩, by decide, by decide, rfl⟩
theorem cwX10_123 : cwT RX10 123 yJ9_floorMod_7cf53 cJ9_floorMod_7cf53 3 (some .int) 2 := ⟨⟨ww684, ww685, ww17, ww686⟩, by decide, by decide, rfl⟩
theorem cwX10_128 : cwO RX10 128 yX10_isSentence cX10_isSentence 2 (some .boolean) 1 := ⟨⟨ww691, ww693, selP_29, ww1, ww694⟩, by decide, by decide, rfl⟩
theorem cwX10_131 : cwO RX10 131 yX4_trueOf cX4_trueOf 2 (some .int) 1 := ⟨⟨ww695, ww696, ww697, ww11, ww698⟩, by decide, by decide, rfl⟩
theorem cwX10_135 : cwT RX10 135 yX10_bitOf cX10_bitOf 2 (some .int) 2 := ⟨⟨ww699, ww700, ww1, ww701⟩, by decide, by decide, rfl⟩
theorem cwX10_144 : cwO RX10 144 yX10_isBook cX10_isBook 2 (some .boolean) 1 := ⟨⟨ww710, ww712, selP_30, ww1, ww713⟩, by decide, by decide, rfl⟩
theorem cwX10_147 : cwO RX10 147 yX4_upNow cX4_upNow 2 (some .int) 1 := ⟨⟨ww714, ww715, ww716, ww11, ww717⟩, by decide, by decide, rfl⟩
theorem cwX10_150 : cwO RX10 150 yX9_paperOf cX9_paperOf 5 (some .int) 2 := ⟨⟨ww719, ww720, ww721, ww9, ww722⟩, by decide, by decide, rfl⟩
theorem cwX10_153 : cwO RX10 153 yX4_survey cX4_survey 2 none 0 := ⟨⟨ww732, ww733, ww734, ww11, ww735⟩, by decide, by decide, rfl⟩
theorem cwX10_165 : cwO RX10 165 yX4_howManyTrue cX4_howManyTrue 4 (some .int) 1 := ⟨⟨ww740, ww741, ww742, ww11, ww743⟩, by decide, by decide, rfl⟩
theorem cwX10_168 : cwO RX10 168 yX10_isLaw cX10_isLaw 2 (some .boolean) 1 := ⟨⟨ww749, ww751, selP_31, ww1, ww752⟩, by decide, by decide, rfl⟩
theorem cwX10_172 : cwO RX10 172 yX9_withoutSorts cX9_withoutSorts 5 (some .int) 2 := ⟨⟨ww754, ww755, ww756, ww9, ww757⟩, by decide, by decide, rfl⟩
theorem cwX10_175 : cwO RX10 175 yX4_fitOf cX4_fitOf 5 (some .int) 3 := ⟨⟨ww758, ww759, ww760, ww11, ww761⟩, by decide, by decide, rfl⟩
theorem cwX10_179 : cwO RX10 179 yX4_sixthsOf cX4_sixthsOf 6 (some .int) 5 := ⟨⟨ww766, ww767, ww768, ww11, ww769⟩, by decide, by decide, rfl⟩
theorem cwX10_183 : cwO RX10 183 yX2_firstGiven cX2_firstGiven 3 (some .int) 2 := ⟨⟨ww784, ww785, ww786, ww10, ww787⟩, by decide, by decide, rfl⟩
theorem cwX10_186 : cwO RX10 186 yX2_secondGiven cX2_secondGiven 4 (some .int) 3 := ⟨⟨ww792, ww793, ww794, ww10, ww795⟩, by decide, by decide, rfl⟩
theorem cwX10_189 : cwO RX10 189 yX4_weighAll cX4_weighAll 5 none 3 := ⟨⟨ww804, ww805, ww806, ww11, ww807⟩, by decide, by decide, rfl⟩
theorem cwX10_192 : cwO RX10 192 yX4_sixthsOfAllTwos cX4_sixthsOfAllTwos 5 (some .int) 1 := ⟨⟨ww808, ww809, ww810, ww11, ww811⟩, by decide, by decide, rfl⟩
theorem cwX10_195 : cwO RX10 195 yX4_weigh cX4_weigh 5 (some .int) 4 := ⟨⟨ww816, ww771, ww772, ww11, ww773⟩, by decide, by decide, rfl⟩
theorem cwX10_201 : cwO RX10 201 yX0_tailOf cX0_tailOf 6 (some .long) 4 := ⟨⟨ww822, ww823, ww824, ww14, ww825⟩, by decide, by decide, rfl⟩
theorem cwX10_205 : cwO RX10 205 yX0_agreed cX0_agreed 10 (some .int) 3 := ⟨⟨ww841, ww842, ww843, ww14, ww844⟩, by decide, by decide, rfl⟩
theorem cwX10_208 : cwO RX10 208 yX10_isSign cX10_isSign 2 (some .boolean) 1 := ⟨⟨ww851, ww853, selP_34, ww1, ww854⟩, by decide, by decide, rfl⟩
theorem cwX10_211 : cwO RX10 211 yX4_fillTable cX4_fillTable 5 none 3 := ⟨⟨ww855, ww856, ww857, ww11, ww858⟩, by decide, by decide, rfl⟩
theorem cwX10_215 : cwO RX10 215 yX5_part cX5_part 2 (some .int) 1 := ⟨⟨ww867, ww868, ww869, ww15, ww870⟩, by decide, by decide, rfl⟩
theorem cwX10_218 : cwO RX10 218 yX0_moreOf cX0_moreOf 5 (some .long) 1 := ⟨⟨ww875, ww876, ww877, ww14, ww878⟩, by decide, by decide, rfl⟩
theorem cwX10_222 : cwO RX10 222 yX0_allOf cX0_allOf 2 (some .long) 1 := ⟨⟨ww888, ww889, ww890, ww14, ww891⟩, by decide, by decide, rfl⟩
theorem cwX10_228 : cwO RX10 228 yX0_startSpread cX0_startSpread 1 none 0 := ⟨⟨ww896, ww897, ww898, ww14, ww899⟩, by decide, by decide, rfl⟩
theorem cwX10_231 : cwO RX10 231 yX4_fillClassTable cX4_fillClassTable 7 none 5 := ⟨⟨ww900, ww901, ww902, ww11, ww903⟩, by decide, by decide, rfl⟩
theorem cwX10_235 : cwO RX10 235 yX0_widenSpread cX0_widenSpread 4 none 1 := ⟨⟨ww909, ww910, ww911, ww14, ww912⟩, by decide, by decide, rfl⟩
theorem cwX10_239 : cwO RX10 239 yX0_spreadFrom cX0_spreadFrom 2 (some .long) 1 := ⟨⟨ww916, ww917, ww918, ww14, ww919⟩, by decide, by decide, rfl⟩
theorem cwX10_246 : cwO RX10 246 yX1_add cX1_add 4 (some .int) 3 := ⟨⟨ww932, ww933, ww934, ww13, ww935⟩, by decide, by decide, rfl⟩
theorem cwX10_249 : cwO RX10 249 yX1_has cX1_has 2 (some .boolean) 1 := ⟨⟨ww948, ww949, ww950, ww13, ww951⟩, by decide, by decide, rfl⟩
theorem cwX10_253 : cwO RX10 253 yX1_canKnow cX1_canKnow 2 (some .boolean) 1 := ⟨⟨ww956, ww957, ww958, ww13, ww959⟩, by decide, by decide, rfl⟩
theorem cwX10_256 : cwO RX10 256 yX1_know cX1_know 3 none 1 := ⟨⟨ww960, ww961, ww962, ww13, ww963⟩, by decide, by decide, rfl⟩
theorem cwX10_259 : cwO RX10 259 yX1_sumOf cX1_sumOf 5 (some .int) 2 := ⟨⟨ww965, ww966, ww967, ww13, ww968⟩, by decide, by decide, rfl⟩
theorem cwX10_263 : cwO RX10 263 yX1_howManySure cX1_howManySure 5 (some .int) 2 := ⟨⟨ww973, ww974, ww975, ww13, ww976⟩, by decide, by decide, rfl⟩
theorem cwX10_266 : cwT RX10 266 yJ6_compare_7cf53 cJ6_compare_7cf53 2 (some .int) 2 := ⟨⟨ww981, ww982, ww19, ww983⟩, by decide, by decide, rfl⟩
theorem cwX10_271 : cwO RX10 271 yX1_isListed cX1_isListed 4 (some .boolean) 1 := ⟨⟨ww988, ww989, ww990, ww13, ww991⟩, by decide, by decide, rfl⟩
theorem cwX10_274 : cwO RX10 274 yX10_fillRedTable cX10_fillRedTable 4 none 2 := ⟨⟨ww996, ww998, selP_37, ww1, ww999⟩, by decide, by decide, rfl⟩
theorem cwX10_283 : cwO RX10 283 yX1_unlikeTries cX1_unlikeTries 4 (some .int) 0 := ⟨⟨ww1002, ww1003, ww1004, ww13, ww1005⟩, by decide, by decide, rfl⟩
theorem cwX10_286 : cwO RX10 286 yX10_redStands cX10_redStands 3 (some .boolean) 0 := ⟨⟨ww1012, ww1014, selP_38, ww1, ww1015⟩, by decide, by decide, rfl⟩
theorem cwX10_300 : cwO RX10 300 yX5_clear cX5_clear 1 none 0 := ⟨⟨ww1000, ww860, ww861, ww15, ww862⟩, by decide, by decide, rfl⟩
theorem cwX10_303 : cwO RX10 303 yX5_addOne cX5_addOne 3 none 2 := ⟨⟨ww1001, ww864, ww865, ww15, ww866⟩, by decide, by decide, rfl⟩
theorem cwX10_306 : cwT RX10 306 yJ9_max_7cf53 cJ9_max_7cf53 2 (some .int) 2 := ⟨⟨ww1016, ww629, ww17, ww630⟩, by decide, by decide, rfl⟩
theorem cwX11_165 : cwO RX11 165 yX11_put cX11_put 3 none 1 := ⟨⟨ww1242, ww1244, selP_39, ww16, ww1245⟩, by decide, by decide, rfl⟩
theorem cwX11_174 : cwT RX11 174 yX11_appends cX11_appends 3 (some .long) 2 := ⟨⟨ww1039, ww1040, ww16, ww1041⟩, by decide, by decide, rfl⟩
theorem cwX11_181 : cwO RX11 181 yX11_byteAt cX11_byteAt 2 (some .int) 1 := ⟨⟨ww1258, ww1260, selP_41, ww16, ww1261⟩, by decide, by decide, rfl⟩
theorem cwX11_185 : cwO RX11 185 yX11_token cX11_token 6 none 4 := ⟨⟨ww1262, ww1264, selP_42, ww16, ww1265⟩, by decide, by decide, rfl⟩
theorem cwX11_189 : cwT RX11 189 yX11_isLetter cX11_isLetter 1 (some .boolean) 1 := ⟨⟨ww1266, ww1267, ww16, ww1268⟩, by decide, by decide, rfl⟩
theorem cwX11_193 : cwT RX11 193 yX11_isDigit cX11_isDigit 1 (some .boolean) 1 := ⟨⟨ww1269, ww1270, ww16, ww1271⟩, by decide, by decide, rfl⟩
theorem cwX11_196 : cwO RX11 196 yX11_sign cX11_sign 6 (some .int) 3 := ⟨⟨ww1272, ww1274, selP_43, ww16, ww1275⟩, by decide, by decide, rfl⟩
theorem cwX11_215 : cwO RX11 215 yX11_fail cX11_fail 2 none 1 := ⟨⟨ww1284, ww1286, selP_46, ww16, ww1287⟩, by decide, by decide, rfl⟩
theorem cwX11_218 : cwO RX11 218 yX11_is cX11_is 2 (some .boolean) 1 := ⟨⟨ww1276, ww1278, selP_44, ww16, ww1279⟩, by decide, by decide, rfl⟩
theorem cwX11_221 : cwO RX11 221 yX11_goesOn cX11_goesOn 1 none 0 := ⟨⟨ww1292, ww1294, selP_48, ww16, ww1295⟩, by decide, by decide, rfl⟩
theorem cwX11_224 : cwO RX11 224 yX11_cut cX11_cut 8 none 0 := ⟨⟨ww1254, ww1256, selP_40, ww16, ww1257⟩, by decide, by decide, rfl⟩
theorem cwX11_245 : cwO RX11 245 yX11_tell cX11_tell 1 none 0 := ⟨⟨ww1280, ww1282, selP_45, ww16, ww1283⟩, by decide, by decide, rfl⟩
theorem cwX11_248 : cwO RX11 248 yX11_tellSign cX11_tellSign 2 none 0 := ⟨⟨ww1288, ww1290, selP_47, ww16, ww1291⟩, by decide, by decide, rfl⟩
theorem cwX11_251 : cwO RX11 251 yX11_tellSay cX11_tellSay 2 none 0 := ⟨⟨ww1336, ww1338, selP_59, ww16, ww1339⟩, by decide, by decide, rfl⟩
theorem cwX11_254 : cwO RX11 254 yX11_tellBook cX11_tellBook 2 none 0 := ⟨⟨ww1340, ww1342, selP_60, ww16, ww1343⟩, by decide, by decide, rfl⟩
theorem cwX11_257 : cwO RX11 257 yX11_tellWhen cX11_tellWhen 6 none 0 := ⟨⟨ww1344, ww1346, selP_61, ww16, ww1347⟩, by decide, by decide, rfl⟩
theorem cwX11_260 : cwO RX11 260 yX11_tellLaw cX11_tellLaw 3 none 0 := ⟨⟨ww1352, ww1354, selP_63, ww16, ww1355⟩, by decide, by decide, rfl⟩
theorem cwX11_263 : cwO RX11 263 yX11_must cX11_must 2 none 1 := ⟨⟨ww1300, ww1302, selP_50, ww16, ww1303⟩, by decide, by decide, rfl⟩
theorem cwX11_266 : cwO RX11 266 yX11_wrong cX11_wrong 4 none 2 := ⟨⟨ww1304, ww1306, selP_51, ww16, ww1307⟩, by decide, by decide, rfl⟩
theorem cwX11_270 : cwO RX11 270 yX11_literal cX11_literal 6 none 1 := ⟨⟨ww1312, ww1314, selP_53, ww16, ww1315⟩, by decide, by decide, rfl⟩
theorem cwX11_274 : cwO RX11 274 yX11_named cX11_named 3 (some .int) 0 := ⟨⟨ww1296, ww1298, selP_49, ww16, ww1299⟩, by decide, by decide, rfl⟩
theorem cwX11_278 : cwO RX11 278 yX11_condition cX11_condition 4 none 1 := ⟨⟨ww1308, ww1310, selP_52, ww16, ww1311⟩, by decide, by decide, rfl⟩
theorem cwX11_281 : cwO RX11 281 yX11_knows cX11_knows 4 none 3 := ⟨⟨ww1332, ww1334, selP_58, ww16, ww1335⟩, by decide, by decide, rfl⟩
theorem cwX11_285 : cwO RX11 285 yX11_known cX11_known 5 (some .int) 1 := ⟨⟨ww1348, ww1350, selP_62, ww16, ww1351⟩, by decide, by decide, rfl⟩
theorem cwX11_288 : cwO RX11 288 yX11_expression cX11_expression 3 none 0 := ⟨⟨ww1316, ww1318, selP_54, ww16, ww1319⟩, by decide, by decide, rfl⟩
theorem cwX11_294 : cwO RX11 294 yX11_emit cX11_emit 3 none 2 := ⟨⟨ww1324, ww1326, selP_56, ww16, ww1327⟩, by decide, by decide, rfl⟩
theorem cwX11_297 : cwO RX11 297 yX11_unit cX11_unit 1 none 0 := ⟨⟨ww1320, ww1322, selP_55, ww16, ww1323⟩, by decide, by decide, rfl⟩
theorem cwX11_300 : cwO RX11 300 yX11_comesOut cX11_comesOut 3 none 1 := ⟨⟨ww1328, ww1330, selP_57, ww16, ww1331⟩, by decide, by decide, rfl⟩
theorem cwX11_303 : cwO RX11 303 yX11_termOf cX11_termOf 8 (some .int) 2 := ⟨⟨ww1395, ww1397, selP_68, ww16, ww1398⟩, by decide, by decide, rfl⟩
theorem cwX11_307 : cwO RX11 307 yX11_isTrue cX11_isTrue 5 (some .boolean) 1 := ⟨⟨ww1391, ww1393, selP_67, ww16, ww1394⟩, by decide, by decide, rfl⟩
theorem cwX11_313 : cwT RX11 313 yX11_in cX11_in 3 (some .boolean) 3 := ⟨⟨ww1364, ww1365, ww16, ww1366⟩, by decide, by decide, rfl⟩
theorem cwX11_319 : cwT RX11 319 yX11_mixed cX11_mixed 3 (some .int) 2 := ⟨⟨ww1375, ww1376, ww16, ww1377⟩, by decide, by decide, rfl⟩
theorem cwX11_322 : cwT RX11 322 yX11_lot cX11_lot 3 (some .int) 3 := ⟨⟨ww1372, ww1373, ww16, ww1374⟩, by decide, by decide, rfl⟩
theorem cwX11_325 : cwO RX11 325 yX11_isUp cX11_isUp 4 (some .boolean) 3 := ⟨⟨ww1379, ww1381, selP_64, ww16, ww1382⟩, by decide, by decide, rfl⟩
theorem cwX11_328 : cwO RX11 328 yX11_isPerson cX11_isPerson 2 (some .boolean) 1 := ⟨⟨ww1403, ww1405, selP_69, ww16, ww1406⟩, by decide, by decide, rfl⟩
theorem cwX11_331 : cwO RX11 331 yX11_looksAt cX11_looksAt 4 none 2 := ⟨⟨ww1383, ww1385, selP_65, ww16, ww1386⟩, by decide, by decide, rfl⟩
theorem cwX11_334 : cwO RX11 334 yX11_holdsRule cX11_holdsRule 4 (some .boolean) 1 := ⟨⟨ww1387, ww1389, selP_66, ww16, ww1390⟩, by decide, by decide, rfl⟩
theorem cwX11_337 : cwO RX11 337 yX11_signsOf cX11_signsOf 5 (some .int) 2 := ⟨⟨ww1411, ww1413, selP_70, ww16, ww1414⟩, by decide, by decide, rfl⟩
theorem cwX11_340 : cwT RX11 340 yX11_round cX11_round 2 (some .int) 2 := ⟨⟨ww1419, ww1420, ww16, ww1421⟩, by decide, by decide, rfl⟩
theorem cwX11_343 : cwO RX11 343 yX11_isSay cX11_isSay 2 (some .boolean) 1 := ⟨⟨ww1430, ww1432, selP_71, ww16, ww1433⟩, by decide, by decide, rfl⟩
theorem cwX11_346 : cwO RX11 346 yX11_isTrueOf cX11_isTrueOf 3 (some .boolean) 2 := ⟨⟨ww1434, ww1436, selP_72, ww16, ww1437⟩, by decide, by decide, rfl⟩
theorem cwX11_350 : cwO RX11 350 yX11_paperBy cX11_paperBy 5 (some .int) 2 := ⟨⟨ww1454, ww1456, selP_75, ww16, ww1457⟩, by decide, by decide, rfl⟩
theorem cwX11_353 : cwO RX11 353 yX11_isBook cX11_isBook 2 (some .boolean) 1 := ⟨⟨ww1446, ww1448, selP_73, ww16, ww1449⟩, by decide, by decide, rfl⟩
theorem cwX11_356 : cwO RX11 356 yX11_paperOf cX11_paperOf 3 (some .int) 2 := ⟨⟨ww1450, ww1452, selP_74, ww16, ww1453⟩, by decide, by decide, rfl⟩
theorem cwX11_359 : cwO RX11 359 yX11_trueOf cX11_trueOf 4 (some .int) 1 := ⟨⟨ww1466, ww1468, selP_76, ww16, ww1469⟩, by decide, by decide, rfl⟩
theorem cwX11_362 : cwO RX11 362 yX11_isLaw cX11_isLaw 2 (some .boolean) 1 := ⟨⟨ww1478, ww1480, selP_77, ww16, ww1481⟩, by decide, by decide, rfl⟩
theorem cwX11_366 : cwO RX11 366 yX11_fitOf cX11_fitOf 7 (some .int) 4 := ⟨⟨ww1483, ww1485, selP_78, ww16, ww1486⟩, by decide, by decide, rfl⟩
theorem cwX11_370 : cwO RX11 370 yX11_sixths cX11_sixths 9 (some .int) 5 := ⟨⟨ww1491, ww1493, selP_79, ww16, ww1494⟩, by decide, by decide, rfl⟩
theorem cwX11_374 : cwO RX11 374 yX11_other cX11_other 6 (some .int) 3 := ⟨⟨ww1503, ww1505, selP_81, ww16, ww1506⟩, by decide, by decide, rfl⟩
theorem cwX11_377 : cwO RX11 377 yX11_firstGiven cX11_firstGiven 3 (some .int) 2 := ⟨⟨ww1499, ww1501, selP_80, ww16, ww1502⟩, by decide, by decide, rfl⟩
theorem cwX11_380 : cwO RX11 380 yX11_secondGiven cX11_secondGiven 3 (some .int) 2 := ⟨⟨ww1507, ww1509, selP_82, ww16, ww1510⟩, by decide, by decide, rfl⟩
theorem cwX11_383 : cwT RX11 383 yX11_picks cX11_picks 5 (some .long) 2 := ⟨⟨ww1531, ww1532, ww16, ww1533⟩, by decide, by decide, rfl⟩
theorem cwX11_387 : cwT RX11 387 yX11_power cX11_power 6 (some .long) 2 := ⟨⟨ww1534, ww1535, ww16, ww1536⟩, by decide, by decide, rfl⟩
theorem cwX11_392 : cwT RX11 392 yX11_tailOf cX11_tailOf 7 (some .long) 4 := ⟨⟨ww1528, ww1529, ww16, ww1530⟩, by decide, by decide, rfl⟩
theorem cwX11_400 : cwO RX11 400 yX11_isSign cX11_isSign 2 (some .boolean) 1 := ⟨⟨ww1547, ww1549, selP_83, ww16, ww1550⟩, by decide, by decide, rfl⟩
theorem cwX11_403 : cwO RX11 403 yX11_upSet cX11_upSet 4 (some .int) 1 := ⟨⟨ww1551, ww1553, selP_84, ww16, ww1554⟩, by decide, by decide, rfl⟩
theorem cwX11_406 : cwT RX11 406 yX11_bits cX11_bits 3 (some .int) 1 := ⟨⟨ww1555, ww1556, ww16, ww1557⟩, by decide, by decide, rfl⟩
theorem cwX11_409 : cwO RX11 409 yX11_trueSet cX11_trueSet 4 (some .int) 1 := ⟨⟨ww1558, ww1560, selP_85, ww16, ww1561⟩, by decide, by decide, rfl⟩
theorem cwX11_412 : cwT RX11 412 yX11_moreOf cX11_moreOf 7 (some .long) 4 := ⟨⟨ww1570, ww1571, ww16, ww1572⟩, by decide, by decide, rfl⟩
theorem cwX11_415 : cwO RX11 415 yX11_moreIn cX11_moreIn 3 (some .long) 2 := ⟨⟨ww1566, ww1568, selP_86, ww16, ww1569⟩, by decide, by decide, rfl⟩
theorem cwX11_418 : cwO RX11 418 yX11_allIn cX11_allIn 2 (some .long) 1 := ⟨⟨ww1573, ww1575, selP_87, ww16, ww1576⟩, by decide, by decide, rfl⟩
theorem cwX11_422 : cwO RX11 422 yX11_classOf cX11_classOf 3 (some .int) 2 := ⟨⟨ww1581, ww1583, selP_88, ww16, ww1584⟩, by decide, by decide, rfl⟩
theorem cwX11_428 : cwO RX11 428 yX11_fact cX11_fact 5 (some .int) 4 := ⟨⟨ww1597, ww1599, selP_89, ww16, ww1600⟩, by decide, by decide, rfl⟩
theorem cwX11_432 : cwO RX11 432 yX11_isKnown cX11_isKnown 2 (some .boolean) 1 := ⟨⟨ww1617, ww1619, selP_90, ww16, ww1620⟩, by decide, by decide, rfl⟩
theorem cwX11_435 : cwO RX11 435 yX11_isFact cX11_isFact 5 (some .boolean) 3 := ⟨⟨ww1621, ww1623, selP_91, ww16, ww1624⟩, by decide, by decide, rfl⟩
theorem cwX11_438 : cwO RX11 438 yX11_isOn cX11_isOn 5 (some .boolean) 2 := ⟨⟨ww1637, ww1639, selP_92, ww16, ww1640⟩, by decide, by decide, rfl⟩
theorem cwX11_441 : cwO RX11 441 yX11_tries cX11_tries 6 (some .int) 1 := ⟨⟨ww1649, ww1651, selP_94, ww16, ww1652⟩, by decide, by decide, rfl⟩
theorem cwX11_444 : cwO RX11 444 yX11_listSet cX11_listSet 4 (some .int) 1 := ⟨⟨ww1645, ww1647, selP_93, ww16, ww1648⟩, by decide, by decide, rfl⟩
theorem cwX11_449 : cwO RX11 449 yX11_stands cX11_stands 5 (some .boolean) 2 := ⟨⟨ww1653, ww1655, selP_95, ww16, ww1656⟩, by decide, by decide, rfl⟩
theorem cwX2_19 : cwN RX2 19 yX10_inRange "SkyTrial" cX10_inRange 3 (some .boolean) 3 := ⟨⟨nest_in 585 (by decide +kernel) rfl, ww441, ww1, ww442⟩, by decide, by decide, rfl⟩
theorem cwX2_23 : cwO RX2 23 yX2_setTrait cX2_setTrait 4 none 3 := ⟨⟨ww590, ww582, ww583, ww10, ww584⟩, by decide, by decide, rfl⟩
theorem cwX2_30 : cwT RX2 30 yX2_lot cX2_lot 4 (some .int) 3 := ⟨⟨ww601, ww602, ww10, ww603⟩, by decide, by decide, rfl⟩
theorem cwX2_34 : cwO RX2 34 yX2_trait cX2_trait 3 (some .int) 2 := ⟨⟨ww908, ww617, ww618, ww10, ww619⟩, by decide, by decide, rfl⟩
theorem cwX2_38 : cwO RX2 38 yX2_nthOther cX2_nthOther 6 (some .int) 3 := ⟨⟨ww788, ww790, selP_33, ww10, ww791⟩, by decide, by decide, rfl⟩
theorem cwX2_41 : cwT RX2 41 yX2_mix cX2_mix 3 (some .int) 2 := ⟨⟨ww604, ww605, ww10, ww606⟩, by decide, by decide, rfl⟩
theorem cwX3_24 : cwN RX3 24 yX10_inRange "SkyTrial" cX10_inRange 3 (some .boolean) 3 := ⟨⟨nest_in 624 (by decide +kernel) rfl, ww441, ww1, ww442⟩, by decide, by decide, rfl⟩
theorem cwX3_34 : cwT RX3 34 yJ9_min_7cf53 cJ9_min_7cf53 2 (some .int) 2 := ⟨⟨ww625, ww626, ww17, ww627⟩, by decide, by decide, rfl⟩
theorem cwX3_43 : cwT RX3 43 yJ9_max_7cf53 cJ9_max_7cf53 2 (some .int) 2 := ⟨⟨ww628, ww629, ww17, ww630⟩, by decide, by decide, rfl⟩
theorem cwX3_52 : cwO RX3 52 yX3_step cX3_step 5 none 2 := ⟨⟨ww631, ww633, selP_24, ww12, ww634⟩, by decide, by decide, rfl⟩
theorem cwX3_56 : cwO RX3 56 yX3_pop cX3_pop 1 (some .int) 0 := ⟨⟨ww639, ww641, selP_26, ww12, ww642⟩, by decide, by decide, rfl⟩
theorem cwX3_60 : cwO RX3 60 yX3_push cX3_push 2 none 1 := ⟨⟨ww635, ww637, selP_25, ww12, ww638⟩, by decide, by decide, rfl⟩
theorem cwX3_64 : cwT RX3 64 yX3_joined cX3_joined 3 (some .int) 3 := ⟨⟨ww643, ww644, ww12, ww645⟩, by decide, by decide, rfl⟩
theorem cwX4_45 : cwO RX4 45 yX4_setPerson cX4_setPerson 3 none 1 := ⟨⟨ww612, ww614, selP_23, ww11, ww615⟩, by decide, by decide, rfl⟩
theorem cwX4_52 : cwO RX4 52 yX4_bitsOf cX4_bitsOf 5 (some .int) 2 := ⟨⟨ww665, ww667, selP_27, ww11, ww668⟩, by decide, by decide, rfl⟩
theorem cwX4_59 : cwO RX4 59 yX2_trait cX2_trait 3 (some .int) 2 := ⟨⟨ww616, ww617, ww618, ww10, ww619⟩, by decide, by decide, rfl⟩
theorem cwX4_62 : cwO RX4 62 yX4_upAt cX4_upAt 3 (some .int) 2 := ⟨⟨ww718, ww662, ww663, ww11, ww664⟩, by decide, by decide, rfl⟩
theorem cwX4_68 : cwO RX4 68 yX3_valueOf cX3_valueOf 5 (some .int) 2 := ⟨⟨ww620, ww621, ww622, ww12, ww623⟩, by decide, by decide, rfl⟩
theorem cwX4_72 : cwT RX4 72 yX2_lot cX2_lot 4 (some .int) 3 := ⟨⟨ww646, ww602, ww10, ww603⟩, by decide, by decide, rfl⟩
theorem cwX4_76 : cwO RX4 76 yX2_setTrait cX2_setTrait 4 none 3 := ⟨⟨ww647, ww582, ww583, ww10, ww584⟩, by decide, by decide, rfl⟩
theorem cwX4_80 : cwN RX4 80 yX10_bitOf "SkyTrial" cX10_bitOf 2 (some .int) 2 := ⟨⟨nest_in 744 (by decide +kernel) rfl, ww700, ww1, ww701⟩, by decide, by decide, rfl⟩
theorem cwX4_86 : cwO RX4 86 yX9_paperOf cX9_paperOf 5 (some .int) 2 := ⟨⟨ww774, ww720, ww721, ww9, ww722⟩, by decide, by decide, rfl⟩
theorem cwX4_89 : cwO RX4 89 yX4_fitOf cX4_fitOf 5 (some .int) 3 := ⟨⟨ww775, ww759, ww760, ww11, ww761⟩, by decide, by decide, rfl⟩
theorem cwX4_92 : cwO RX4 92 yX4_weigh cX4_weigh 5 (some .int) 4 := ⟨⟨ww770, ww771, ww772, ww11, ww773⟩, by decide, by decide, rfl⟩
theorem cwX4_96 : cwO RX4 96 yX4_sixths cX4_sixths 5 (some .int) 3 := ⟨⟨ww776, ww778, selP_32, ww11, ww779⟩, by decide, by decide, rfl⟩
theorem cwX4_99 : cwO RX4 99 yX5_clear cX5_clear 1 none 0 := ⟨⟨ww859, ww860, ww861, ww15, ww862⟩, by decide, by decide, rfl⟩
theorem cwX4_104 : cwO RX4 104 yX5_addOne cX5_addOne 3 none 2 := ⟨⟨ww863, ww864, ww865, ww15, ww866⟩, by decide, by decide, rfl⟩
theorem cwX4_108 : cwO RX4 108 yX2_classOf cX2_classOf 3 (some .int) 2 := ⟨⟨ww904, ww905, ww906, ww10, ww907⟩, by decide, by decide, rfl⟩
theorem cwX6_19 : cwO RX6 19 yX6_byteAt cX6_byteAt 2 (some .int) 1 := ⟨⟨ww427, ww428, ww429, ww2, ww430⟩, by decide, by decide, rfl⟩
theorem cwX6_23 : cwN RX6 23 yX10_inRange "SkyTrial" cX10_inRange 3 (some .boolean) 3 := ⟨⟨nest_in 451 (by decide +kernel) rfl, ww441, ww1, ww442⟩, by decide, by decide, rfl⟩
theorem cwX7_65 : cwO RX7 65 yX8_scan cX8_scan 6 none 1 := ⟨⟨ww419, ww420, ww421, ww4, ww422⟩, by decide, by decide, rfl⟩
theorem cwX7_69 : cwO RX7 69 yX7_start cX7_start 1 none 0 := ⟨⟨ww464, ww466, selP_5, ww3, ww467⟩, by decide, by decide, rfl⟩
theorem cwX7_72 : cwO RX7 72 yX7_tellSign cX7_tellSign 2 none 0 := ⟨⟨ww472, ww474, selP_6, ww3, ww475⟩, by decide, by decide, rfl⟩
theorem cwX7_75 : cwO RX7 75 yX7_tellSay cX7_tellSay 2 none 0 := ⟨⟨ww535, ww537, selP_18, ww3, ww538⟩, by decide, by decide, rfl⟩
theorem cwX7_78 : cwO RX7 78 yX7_tellBook cX7_tellBook 1 none 0 := ⟨⟨ww539, ww541, selP_19, ww3, ww542⟩, by decide, by decide, rfl⟩
theorem cwX7_81 : cwO RX7 81 yX7_tellWhen cX7_tellWhen 4 none 0 := ⟨⟨ww543, ww545, selP_20, ww3, ww546⟩, by decide, by decide, rfl⟩
theorem cwX7_84 : cwO RX7 84 yX7_tellLaw cX7_tellLaw 2 none 0 := ⟨⟨ww559, ww561, selP_22, ww3, ww562⟩, by decide, by decide, rfl⟩
theorem cwX7_87 : cwO RX7 87 yX7_fail cX7_fail 2 none 1 := ⟨⟨ww484, ww486, selP_9, ww3, ww487⟩, by decide, by decide, rfl⟩
theorem cwX7_91 : cwO RX7 91 yX9_clear cX9_clear 1 none 0 := ⟨⟨ww468, ww469, ww470, ww9, ww471⟩, by decide, by decide, rfl⟩
theorem cwX7_106 : cwO RX7 106 yX7_open cX7_open 2 (some .boolean) 1 := ⟨⟨ww476, ww478, selP_7, ww3, ww479⟩, by decide, by decide, rfl⟩
theorem cwX7_110 : cwO RX7 110 yX7_tellName cX7_tellName 3 none 2 := ⟨⟨ww488, ww490, selP_10, ww3, ww491⟩, by decide, by decide, rfl⟩
theorem cwX7_114 : cwO RX7 114 yX7_need cX7_need 2 none 1 := ⟨⟨ww500, ww502, selP_13, ww3, ww503⟩, by decide, by decide, rfl⟩
theorem cwX7_117 : cwO RX7 117 yX9_startFormula cX9_startFormula 2 none 1 := ⟨⟨ww504, ww505, ww506, ww9, ww507⟩, by decide, by decide, rfl⟩
theorem cwX7_120 : cwO RX7 120 yX7_condition cX7_condition 5 none 0 := ⟨⟨ww509, ww511, selP_14, ww3, ww512⟩, by decide, by decide, rfl⟩
theorem cwX7_123 : cwO RX7 123 yX9_endFormula cX9_endFormula 2 none 1 := ⟨⟨ww531, ww532, ww533, ww9, ww534⟩, by decide, by decide, rfl⟩
theorem cwX7_129 : cwN RX7 129 yX10_inRange "SkyTrial" cX10_inRange 3 (some .boolean) 3 := ⟨⟨nest_in 530 (by decide +kernel) rfl, ww441, ww1, ww442⟩, by decide, by decide, rfl⟩
theorem cwX7_136 : cwO RX7 136 yX7_take cX7_take 1 none 0 := ⟨⟨ww480, ww482, selP_8, ww3, ww483⟩, by decide, by decide, rfl⟩
theorem cwX7_142 : cwO RX7 142 yX7_blame cX7_blame 2 none 1 := ⟨⟨ww496, ww498, selP_12, ww3, ww499⟩, by decide, by decide, rfl⟩
theorem cwX7_148 : cwO RX7 148 yX7_nameAhead cX7_nameAhead 3 (some .int) 1 := ⟨⟨ww547, ww549, selP_21, ww3, ww550⟩, by decide, by decide, rfl⟩
theorem cwX7_152 : cwO RX7 152 yX9_hasWhen cX9_hasWhen 5 (some .boolean) 3 := ⟨⟨ww551, ww552, ww553, ww9, ww554⟩, by decide, by decide, rfl⟩
theorem cwX7_155 : cwO RX7 155 yX9_addWhen cX9_addWhen 4 none 3 := ⟨⟨ww555, ww556, ww557, ww9, ww558⟩, by decide, by decide, rfl⟩
theorem cwX7_162 : cwO RX7 162 yX7_sum cX7_sum 6 none 1 := ⟨⟨ww517, ww519, selP_16, ww3, ww520⟩, by decide, by decide, rfl⟩
theorem cwX7_165 : cwO RX7 165 yX7_findName cX7_findName 4 (some .int) 1 := ⟨⟨ww492, ww494, selP_11, ww3, ww495⟩, by decide, by decide, rfl⟩
theorem cwX7_169 : cwO RX7 169 yX7_literal cX7_literal 3 none 0 := ⟨⟨ww513, ww515, selP_15, ww3, ww516⟩, by decide, by decide, rfl⟩
theorem cwX7_172 : cwO RX7 172 yX9_addStep cX9_addStep 3 none 2 := ⟨⟨ww526, ww527, ww528, ww9, ww529⟩, by decide, by decide, rfl⟩
theorem cwX7_175 : cwO RX7 175 yX7_unit cX7_unit 3 none 1 := ⟨⟨ww521, ww523, selP_17, ww3, ww524⟩, by decide, by decide, rfl⟩
theorem cwX8_41 : cwT RX8 41 yX8_withLetter cX8_withLetter 3 (some .long) 2 := ⟨⟨ww105, ww106, ww4, ww107⟩, by decide, by decide, rfl⟩
theorem cwX8_45 : cwO RX8 45 yX6_afterBlanks cX6_afterBlanks 4 (some .int) 1 := ⟨⟨ww423, ww424, ww425, ww2, ww426⟩, by decide, by decide, rfl⟩
theorem cwX8_51 : cwO RX8 51 yX8_scanOne cX8_scanOne 5 (some .int) 2 := ⟨⟨ww431, ww433, selP_0, ww4, ww434⟩, by decide, by decide, rfl⟩
theorem cwX8_55 : cwO RX8 55 yX6_byteAt cX6_byteAt 2 (some .int) 1 := ⟨⟨ww435, ww428, ww429, ww2, ww430⟩, by decide, by decide, rfl⟩
theorem cwX8_58 : cwO RX8 58 yX8_put cX8_put 5 none 3 := ⟨⟨ww436, ww438, selP_1, ww4, ww439⟩, by decide, by decide, rfl⟩
theorem cwX8_62 : cwN RX8 62 yX10_inRange "SkyTrial" cX10_inRange 3 (some .boolean) 3 := ⟨⟨nest_in 440 (by decide +kernel) rfl, ww441, ww1, ww442⟩, by decide, by decide, rfl⟩
theorem cwX8_66 : cwO RX8 66 yX8_scanWord cX8_scanWord 7 (some .int) 2 := ⟨⟨ww443, ww445, selP_2, ww4, ww446⟩, by decide, by decide, rfl⟩
theorem cwX8_69 : cwO RX8 69 yX8_scanInt cX8_scanInt 7 (some .int) 2 := ⟨⟨ww456, ww458, selP_4, ww4, ww459⟩, by decide, by decide, rfl⟩
theorem cwX8_72 : cwT RX8 72 yX8_markKind cX8_markKind 3 (some .int) 2 := ⟨⟨ww461, ww462, ww4, ww463⟩, by decide, by decide, rfl⟩
theorem cwX8_76 : cwO RX8 76 yX6_afterRun cX6_afterRun 5 (some .int) 3 := ⟨⟨ww447, ww448, ww449, ww2, ww450⟩, by decide, by decide, rfl⟩
theorem cwX8_80 : cwO RX8 80 yX8_wordKind cX8_wordKind 4 (some .int) 1 := ⟨⟨ww452, ww454, selP_3, ww4, ww455⟩, by decide, by decide, rfl⟩
theorem cwX9_55 : cwN RX9 55 yX10_inRange "SkyTrial" cX10_inRange 3 (some .boolean) 3 := ⟨⟨nest_in 508 (by decide +kernel) rfl, ww441, ww1, ww442⟩, by decide, by decide, rfl⟩
theorem cwX9_59 : cwN RX9 59 yX10_bitOf "SkyTrial" cX10_bitOf 2 (some .int) 2 := ⟨⟨nest_in 723 (by decide +kernel) rfl, ww700, ww1, ww701⟩, by decide, by decide, rfl⟩
