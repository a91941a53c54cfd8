theorem kB_m2 : (Int8.ofInt (-2)).toInt32 = (-2 : Int32) := by decide
theorem kB_6 : (Int8.ofInt (6)).toInt32 = (6 : Int32) := by decide
theorem kB_7 : (Int8.ofInt (7)).toInt32 = (7 : Int32) := by decide
theorem kB_8 : (Int8.ofInt (8)).toInt32 = (8 : Int32) := by decide
theorem kB_9 : (Int8.ofInt (9)).toInt32 = (9 : Int32) := by decide
theorem kB_10 : (Int8.ofInt (10)).toInt32 = (10 : Int32) := by decide
theorem kB_11 : (Int8.ofInt (11)).toInt32 = (11 : Int32) := by decide
theorem kB_12 : (Int8.ofInt (12)).toInt32 = (12 : Int32) := by decide
theorem kB_13 : (Int8.ofInt (13)).toInt32 = (13 : Int32) := by decide
theorem kB_14 : (Int8.ofInt (14)).toInt32 = (14 : Int32) := by decide
theorem kB_15 : (Int8.ofInt (15)).toInt32 = (15 : Int32) := by decide
theorem kB_16 : (Int8.ofInt (16)).toInt32 = (16 : Int32) := by decide
theorem kB_17 : (Int8.ofInt (17)).toInt32 = (17 : Int32) := by decide
theorem kB_19 : (Int8.ofInt (19)).toInt32 = (19 : Int32) := by decide
theorem kB_20 : (Int8.ofInt (20)).toInt32 = (20 : Int32) := by decide
theorem kB_21 : (Int8.ofInt (21)).toInt32 = (21 : Int32) := by decide
theorem kB_22 : (Int8.ofInt (22)).toInt32 = (22 : Int32) := by decide
theorem kB_23 : (Int8.ofInt (23)).toInt32 = (23 : Int32) := by decide
theorem kB_24 : (Int8.ofInt (24)).toInt32 = (24 : Int32) := by decide
theorem kB_25 : (Int8.ofInt (25)).toInt32 = (25 : Int32) := by decide
theorem kB_26 : (Int8.ofInt (26)).toInt32 = (26 : Int32) := by decide
theorem kB_27 : (Int8.ofInt (27)).toInt32 = (27 : Int32) := by decide
theorem kB_28 : (Int8.ofInt (28)).toInt32 = (28 : Int32) := by decide
theorem kB_29 : (Int8.ofInt (29)).toInt32 = (29 : Int32) := by decide
theorem kB_30 : (Int8.ofInt (30)).toInt32 = (30 : Int32) := by decide
theorem kB_31 : (Int8.ofInt (31)).toInt32 = (31 : Int32) := by decide
theorem kB_32 : (Int8.ofInt (32)).toInt32 = (32 : Int32) := by decide
theorem kB_33 : (Int8.ofInt (33)).toInt32 = (33 : Int32) := by decide
theorem kB_34 : (Int8.ofInt (34)).toInt32 = (34 : Int32) := by decide
theorem kB_35 : (Int8.ofInt (35)).toInt32 = (35 : Int32) := by decide
theorem kB_36 : (Int8.ofInt (36)).toInt32 = (36 : Int32) := by decide
theorem kB_37 : (Int8.ofInt (37)).toInt32 = (37 : Int32) := by decide
theorem kB_38 : (Int8.ofInt (38)).toInt32 = (38 : Int32) := by decide
theorem kB_40 : (Int8.ofInt (40)).toInt32 = (40 : Int32) := by decide
theorem kB_41 : (Int8.ofInt (41)).toInt32 = (41 : Int32) := by decide
theorem kB_42 : (Int8.ofInt (42)).toInt32 = (42 : Int32) := by decide
theorem kB_43 : (Int8.ofInt (43)).toInt32 = (43 : Int32) := by decide
theorem kB_45 : (Int8.ofInt (45)).toInt32 = (45 : Int32) := by decide
theorem kB_48 : (Int8.ofInt (48)).toInt32 = (48 : Int32) := by decide
theorem kB_57 : (Int8.ofInt (57)).toInt32 = (57 : Int32) := by decide
theorem kB_59 : (Int8.ofInt (59)).toInt32 = (59 : Int32) := by decide
theorem kB_60 : (Int8.ofInt (60)).toInt32 = (60 : Int32) := by decide
theorem kB_61 : (Int8.ofInt (61)).toInt32 = (61 : Int32) := by decide
theorem kB_97 : (Int8.ofInt (97)).toInt32 = (97 : Int32) := by decide
theorem kB_100 : (Int8.ofInt (100)).toInt32 = (100 : Int32) := by decide
theorem kB_122 : (Int8.ofInt (122)).toInt32 = (122 : Int32) := by decide
theorem kB_127 : (Int8.ofInt (127)).toInt32 = (127 : Int32) := by decide
theorem kI_m8 : Int32.ofInt (-8) = (-8 : Int32) := by decide
theorem kI_m1 : Int32.ofInt (-1) = (-1 : Int32) := by decide
theorem kI_0 : Int32.ofInt (0) = (0 : Int32) := by decide
theorem kI_1 : Int32.ofInt (1) = (1 : Int32) := by decide
theorem kI_2 : Int32.ofInt (2) = (2 : Int32) := by decide
theorem kI_3 : Int32.ofInt (3) = (3 : Int32) := by decide
theorem kI_4 : Int32.ofInt (4) = (4 : Int32) := by decide
theorem kI_5 : Int32.ofInt (5) = (5 : Int32) := by decide
theorem kS_150 : (Int16.ofInt (150)).toInt32 = (150 : Int32) := by decide
theorem kS_255 : (Int16.ofInt (255)).toInt32 = (255 : Int32) := by decide
theorem kS_400 : (Int16.ofInt (400)).toInt32 = (400 : Int32) := by decide
theorem kS_420 : (Int16.ofInt (420)).toInt32 = (420 : Int32) := by decide
theorem kS_1000 : (Int16.ofInt (1000)).toInt32 = (1000 : Int32) := by decide
theorem kS_2000 : (Int16.ofInt (2000)).toInt32 = (2000 : Int32) := by decide
theorem kS_10000 : (Int16.ofInt (10000)).toInt32 = (10000 : Int32) := by decide
theorem kS_12345 : (Int16.ofInt (12345)).toInt32 = (12345 : Int32) := by decide
/-! words of the tables, by their places -/
theorem tIn1 {w : Cond} (i : Nat) (h : tables_1_1[i]? = some w) (hg : goodWord w = true) : w ∈ gTBL := List.mem_filter.mpr ⟨List.mem_append_right _ ((List.mem_append_left _ (List.mem_of_getElem? h))), hg⟩
theorem tIn2 {w : Cond} (i : Nat) (h : tables_1_2[i]? = some w) (hg : goodWord w = true) : w ∈ gTBL := List.mem_filter.mpr ⟨List.mem_append_right _ (List.mem_append_right _ ((List.mem_append_left _ (List.mem_of_getElem? h)))), hg⟩
theorem tIn3 {w : Cond} (i : Nat) (h : tables_1_3[i]? = some w) (hg : goodWord w = true) : w ∈ gTBL := List.mem_filter.mpr ⟨List.mem_append_right _ (List.mem_append_right _ (List.mem_append_right _ ((List.mem_append_left _ (List.mem_of_getElem? h))))), hg⟩
theorem tIn4 {w : Cond} (i : Nat) (h : tables_1_4[i]? = some w) (hg : goodWord w = true) : w ∈ gTBL := List.mem_filter.mpr ⟨List.mem_append_right _ (List.mem_append_right _ (List.mem_append_right _ (List.mem_append_right _ ((List.mem_append_left _ (List.mem_of_getElem? h)))))), hg⟩
theorem tIn5 {w : Cond} (i : Nat) (h : tables_1_5[i]? = some w) (hg : goodWord w = true) : w ∈ gTBL := List.mem_filter.mpr ⟨List.mem_append_right _ (List.mem_append_right _ (List.mem_append_right _ (List.mem_append_right _ (List.mem_append_right _ ((List.mem_append_left _ (List.mem_of_getElem? h))))))), hg⟩
theorem tIn6 {w : Cond} (i : Nat) (h : tables_1_6[i]? = some w) (hg : goodWord w = true) : w ∈ gTBL := List.mem_filter.mpr ⟨List.mem_append_right _ (List.mem_append_right _ (List.mem_append_right _ (List.mem_append_right _ (List.mem_append_right _ (List.mem_append_right _ ((List.mem_append_left _ (List.mem_of_getElem? h)))))))), hg⟩
theorem tIn7 {w : Cond} (i : Nat) (h : tables_1_7[i]? = some w) (hg : goodWord w = true) : w ∈ gTBL := List.mem_filter.mpr ⟨List.mem_append_right _ (List.mem_append_right _ (List.mem_append_right _ (List.mem_append_right _ (List.mem_append_right _ (List.mem_append_right _ (List.mem_append_right _ ((List.mem_of_getElem? h)))))))), hg⟩
theorem ww1 : (Cond.initialized "SkyTrial") ∈ gTBL := tIn1 1 (by decide +kernel) rfl
theorem ww2 : (Cond.initialized "SkyTrial$Tape") ∈ gTBL := tIn1 2 (by decide +kernel) rfl
theorem ww3 : (Cond.initialized "SkyTrial$TextReader") ∈ gTBL := tIn1 3 (by decide +kernel) rfl
theorem ww4 : (Cond.initialized "SkyTrial$Tokens") ∈ gTBL := tIn1 4 (by decide +kernel) rfl
theorem ww5 : (Cond.initialized "java/lang/String") ∈ gTBL := tIn1 5 (by decide +kernel) rfl
theorem ww6 : (Cond.initialized "java/lang/StringLatin1") ∈ gTBL := tIn1 6 (by decide +kernel) rfl
theorem ww7 : (Cond.initialized "jdk/internal/util/Preconditions") ∈ gTBL := tIn1 7 (by decide +kernel) rfl
theorem ww9 : (Cond.initialized "SkyTrial$Told") ∈ gTBL := tIn1 9 (by decide +kernel) rfl
theorem ww10 : (Cond.initialized "SkyTrial$People") ∈ gTBL := tIn1 10 (by decide +kernel) rfl
theorem ww11 : (Cond.initialized "SkyTrial$Sky") ∈ gTBL := tIn1 11 (by decide +kernel) rfl
theorem ww12 : (Cond.initialized "SkyTrial$Reckoner") ∈ gTBL := tIn1 12 (by decide +kernel) rfl
theorem ww13 : (Cond.initialized "SkyTrial$Facts") ∈ gTBL := tIn1 13 (by decide +kernel) rfl
theorem ww14 : (Cond.initialized "SkyTrial$Chance") ∈ gTBL := tIn1 14 (by decide +kernel) rfl
theorem ww15 : (Cond.initialized "SkyTrial$Table") ∈ gTBL := tIn1 15 (by decide +kernel) rfl
theorem ww16 : (Cond.initialized "SkyTrialModel") ∈ gTBL := tIn1 16 (by decide +kernel) rfl
theorem ww17 : (Cond.initialized "java/lang/Math") ∈ gTBL := tIn1 17 (by decide +kernel) rfl
theorem ww18 : (Cond.initialized "java/lang/System") ∈ gTBL := tIn1 18 (by decide +kernel) rfl
theorem ww19 : (Cond.initialized "java/lang/Integer") ∈ gTBL := tIn1 19 (by decide +kernel) rfl
theorem ww20 : (Cond.initialized "java/lang/Long") ∈ gTBL := tIn1 20 (by decide +kernel) rfl
theorem ww35 : (Cond.fieldLink "SkyTrial$Tape" (11 : Nat) "SkyTrial$Tape" "bytes" "[I") ∈ gTBL := tIn1 35 (by decide +kernel) rfl
theorem ww36 : (Cond.fieldLink "SkyTrial$Tape" (15 : Nat) "SkyTrial$Tape" "length" "I") ∈ gTBL := tIn1 36 (by decide +kernel) rfl
theorem ww37 : (Cond.fieldLink "SkyTrial" (60 : Nat) "SkyTrial$Tape" "length" "I") ∈ gTBL := tIn1 37 (by decide +kernel) rfl
theorem ww61 : (Cond.methodLink "java/lang/String" (335 : Nat) ({ cls := "java/lang/String", name := "coder", desc := "()B" } : Jvm.MethodName)) ∈ gTBL := tIn1 61 (by decide +kernel) rfl
theorem ww62 : (Cond.instanceMethod ({ cls := "java/lang/String", name := "coder", desc := "()B" } : Jvm.MethodName)) ∈ gTBL := tIn1 62 (by decide +kernel) rfl
theorem ww63 : (Cond.selects "java/lang/String" ({ cls := "java/lang/String", name := "coder", desc := "()B" } : Jvm.MethodName) ({ cls := "java/lang/String", name := "coder", desc := "()B" } : Jvm.MethodName)) ∈ gTBL := tIn1 63 (by decide +kernel) rfl
theorem ww64 : (Cond.code ({ cls := "java/lang/String", name := "coder", desc := "()B" } : Jvm.MethodName) prog_17_method_152_code (1 : Nat) (Option.some Jvm.ClassFile.FieldType.byte)) ∈ gTBL := tIn1 64 (by decide +kernel) rfl
theorem ww65 : (Cond.fieldLink "java/lang/String" (38 : Nat) "java/lang/String" "COMPACT_STRINGS" "Z") ∈ gTBL := tIn1 65 (by decide +kernel) rfl
theorem ww71 : (Cond.methodLink "java/lang/String" (492 : Nat) ({ cls := "java/lang/String", name := "isLatin1", desc := "()Z" } : Jvm.MethodName)) ∈ gTBL := tIn1 71 (by decide +kernel) rfl
theorem ww72 : (Cond.instanceMethod ({ cls := "java/lang/String", name := "isLatin1", desc := "()Z" } : Jvm.MethodName)) ∈ gTBL := tIn1 72 (by decide +kernel) rfl
theorem ww73 : (Cond.selects "java/lang/String" ({ cls := "java/lang/String", name := "isLatin1", desc := "()Z" } : Jvm.MethodName) ({ cls := "java/lang/String", name := "isLatin1", desc := "()Z" } : Jvm.MethodName)) ∈ gTBL := tIn1 73 (by decide +kernel) rfl
theorem ww74 : (Cond.code ({ cls := "java/lang/String", name := "isLatin1", desc := "()Z" } : Jvm.MethodName) prog_17_method_154_code (1 : Nat) (Option.some Jvm.ClassFile.FieldType.boolean)) ∈ gTBL := tIn1 74 (by decide +kernel) rfl
theorem ww75 : (Cond.methodLink "java/lang/String" (495 : Nat) ({ cls := "java/lang/StringLatin1", name := "charAt", desc := "([BI)C" } : Jvm.MethodName)) ∈ gTBL := tIn1 75 (by decide +kernel) rfl
theorem ww76 : (Cond.static ({ cls := "java/lang/StringLatin1", name := "charAt", desc := "([BI)C" } : Jvm.MethodName)) ∈ gTBL := tIn1 76 (by decide +kernel) rfl
theorem ww77 : (Cond.code ({ cls := "java/lang/StringLatin1", name := "charAt", desc := "([BI)C" } : Jvm.MethodName) prog_18_method_2_code (2 : Nat) (Option.some Jvm.ClassFile.FieldType.char)) ∈ gTBL := tIn1 77 (by decide +kernel) rfl
theorem ww78 : (Cond.methodLink "java/lang/StringLatin1" (9 : Nat) ({ cls := "java/lang/String", name := "checkIndex", desc := "(II)V" } : Jvm.MethodName)) ∈ gTBL := tIn1 78 (by decide +kernel) rfl
theorem ww79 : (Cond.static ({ cls := "java/lang/String", name := "checkIndex", desc := "(II)V" } : Jvm.MethodName)) ∈ gTBL := tIn1 79 (by decide +kernel) rfl
theorem ww80 : (Cond.code ({ cls := "java/lang/String", name := "checkIndex", desc := "(II)V" } : Jvm.MethodName) prog_17_method_155_code (2 : Nat) (Option.none : Option Jvm.ClassFile.FieldType)) ∈ gTBL := tIn1 80 (by decide +kernel) rfl
theorem ww81 : (Cond.fieldLink "java/lang/String" (1053 : Nat) "jdk/internal/util/Preconditions" "SIOOBE_FORMATTER" "Ljava/util/function/BiFunction;") ∈ gTBL := tIn1 81 (by decide +kernel) rfl
theorem ww83 : (Cond.methodLink "java/lang/String" (1059 : Nat) ({ cls := "jdk/internal/util/Preconditions", name := "checkIndex", desc := "(IILjava/util/function/BiFunction;)I" } : Jvm.MethodName)) ∈ gTBL := tIn1 83 (by decide +kernel) rfl
theorem ww84 : (Cond.static ({ cls := "jdk/internal/util/Preconditions", name := "checkIndex", desc := "(IILjava/util/function/BiFunction;)I" } : Jvm.MethodName)) ∈ gTBL := tIn1 84 (by decide +kernel) rfl
theorem ww85 : (Cond.code ({ cls := "jdk/internal/util/Preconditions", name := "checkIndex", desc := "(IILjava/util/function/BiFunction;)I" } : Jvm.MethodName) prog_21_method_11_code (3 : Nat) (Option.some Jvm.ClassFile.FieldType.int)) ∈ gTBL := tIn1 85 (by decide +kernel) rfl
theorem ww105 : (Cond.methodLink "SkyTrial$Tokens" (41 : Nat) ({ cls := "SkyTrial$Tokens", name := "withLetter", desc := "(JI)J" } : Jvm.MethodName)) ∈ gTBL := tIn1 105 (by decide +kernel) rfl
theorem ww106 : (Cond.static ({ cls := "SkyTrial$Tokens", name := "withLetter", desc := "(JI)J" } : Jvm.MethodName)) ∈ gTBL := tIn1 106 (by decide +kernel) rfl
theorem ww107 : (Cond.code ({ cls := "SkyTrial$Tokens", name := "withLetter", desc := "(JI)J" } : Jvm.MethodName) prog_10_method_7_code (3 : Nat) (Option.some Jvm.ClassFile.FieldType.long)) ∈ gTBL := tIn1 107 (by decide +kernel) rfl
theorem ww108 : (Cond.constantLong "SkyTrial$Tokens" (86 : Nat) (27 : Int64)) ∈ gTBL := tIn1 108 (by decide +kernel) rfl
theorem ww109 : (Cond.fieldLink "SkyTrial$Tokens" (9 : Nat) "SkyTrial$Tokens" "kinds" "[I") ∈ gTBL := tIn1 109 (by decide +kernel) rfl
theorem ww110 : (Cond.fieldLink "SkyTrial$TextReader" (94 : Nat) "SkyTrial$Tokens" "kinds" "[I") ∈ gTBL := tIn1 110 (by decide +kernel) rfl
theorem ww111 : (Cond.fieldLink "SkyTrial$Tokens" (15 : Nat) "SkyTrial$Tokens" "starts" "[I") ∈ gTBL := tIn1 111 (by decide +kernel) rfl
theorem ww112 : (Cond.fieldLink "SkyTrial$TextReader" (100 : Nat) "SkyTrial$Tokens" "starts" "[I") ∈ gTBL := tIn1 112 (by decide +kernel) rfl
theorem ww113 : (Cond.fieldLink "SkyTrial$Tokens" (18 : Nat) "SkyTrial$Tokens" "values" "[J") ∈ gTBL := tIn1 113 (by decide +kernel) rfl
theorem ww114 : (Cond.fieldLink "SkyTrial$TextReader" (97 : Nat) "SkyTrial$Tokens" "values" "[J") ∈ gTBL := tIn1 114 (by decide +kernel) rfl
theorem ww115 : (Cond.fieldLink "SkyTrial$Tokens" (22 : Nat) "SkyTrial$Tokens" "size" "I") ∈ gTBL := tIn1 115 (by decide +kernel) rfl
theorem ww116 : (Cond.fieldLink "SkyTrial$Tokens" (26 : Nat) "SkyTrial$Tokens" "words" "[J") ∈ gTBL := tIn1 116 (by decide +kernel) rfl
theorem ww136 : (Cond.fieldLink "SkyTrial$Told" (9 : Nat) "SkyTrial$Told" "signs" "I") ∈ gTBL := tIn1 136 (by decide +kernel) rfl
theorem ww137 : (Cond.fieldLink "SkyTrial$Sky" (49 : Nat) "SkyTrial$Told" "signs" "I") ∈ gTBL := tIn1 137 (by decide +kernel) rfl
theorem ww138 : (Cond.fieldLink "SkyTrial$TextReader" (103 : Nat) "SkyTrial$Told" "signs" "I") ∈ gTBL := tIn1 138 (by decide +kernel) rfl
theorem ww139 : (Cond.fieldLink "SkyTrial" (243 : Nat) "SkyTrial$Told" "signs" "I") ∈ gTBL := tIn1 139 (by decide +kernel) rfl
theorem ww140 : (Cond.fieldLink "SkyTrial$Told" (15 : Nat) "SkyTrial$Told" "says" "I") ∈ gTBL := tIn1 140 (by decide +kernel) rfl
theorem ww141 : (Cond.fieldLink "SkyTrial$Sky" (56 : Nat) "SkyTrial$Told" "says" "I") ∈ gTBL := tIn1 141 (by decide +kernel) rfl
theorem ww142 : (Cond.fieldLink "SkyTrial$TextReader" (126 : Nat) "SkyTrial$Told" "says" "I") ∈ gTBL := tIn1 142 (by decide +kernel) rfl
theorem ww143 : (Cond.fieldLink "SkyTrial" (162 : Nat) "SkyTrial$Told" "says" "I") ∈ gTBL := tIn1 143 (by decide +kernel) rfl
theorem ww144 : (Cond.fieldLink "SkyTrial$Told" (18 : Nat) "SkyTrial$Told" "books" "I") ∈ gTBL := tIn1 144 (by decide +kernel) rfl
theorem ww145 : (Cond.fieldLink "SkyTrial$TextReader" (139 : Nat) "SkyTrial$Told" "books" "I") ∈ gTBL := tIn1 145 (by decide +kernel) rfl
theorem ww146 : (Cond.fieldLink "SkyTrial" (291 : Nat) "SkyTrial$Told" "books" "I") ∈ gTBL := tIn1 146 (by decide +kernel) rfl
theorem ww147 : (Cond.fieldLink "SkyTrial$Told" (21 : Nat) "SkyTrial$Told" "whens" "I") ∈ gTBL := tIn1 147 (by decide +kernel) rfl
theorem ww148 : (Cond.fieldLink "SkyTrial$TextReader" (145 : Nat) "SkyTrial$Told" "whens" "I") ∈ gTBL := tIn1 148 (by decide +kernel) rfl
theorem ww149 : (Cond.fieldLink "SkyTrial" (297 : Nat) "SkyTrial$Told" "whens" "I") ∈ gTBL := tIn1 149 (by decide +kernel) rfl
theorem ww150 : (Cond.fieldLink "SkyTrial$Told" (24 : Nat) "SkyTrial$Told" "laws" "I") ∈ gTBL := tIn1 150 (by decide +kernel) rfl
theorem ww151 : (Cond.fieldLink "SkyTrial$TextReader" (159 : Nat) "SkyTrial$Told" "laws" "I") ∈ gTBL := tIn1 151 (by decide +kernel) rfl
theorem ww152 : (Cond.fieldLink "SkyTrial" (294 : Nat) "SkyTrial$Told" "laws" "I") ∈ gTBL := tIn1 152 (by decide +kernel) rfl
theorem ww153 : (Cond.fieldLink "SkyTrial$Told" (27 : Nat) "SkyTrial$Told" "sorts" "[I") ∈ gTBL := tIn1 153 (by decide +kernel) rfl
theorem ww154 : (Cond.fieldLink "SkyTrial$TextReader" (133 : Nat) "SkyTrial$Told" "sorts" "[I") ∈ gTBL := tIn1 154 (by decide +kernel) rfl
theorem ww155 : (Cond.fieldLink "SkyTrial$Sky" (83 : Nat) "SkyTrial$Told" "sorts" "[I") ∈ gTBL := tIn1 155 (by decide +kernel) rfl
theorem ww156 : (Cond.fieldLink "SkyTrial" (138 : Nat) "SkyTrial$Told" "sorts" "[I") ∈ gTBL := tIn1 156 (by decide +kernel) rfl
theorem ww157 : (Cond.fieldLink "SkyTrial$Told" (31 : Nat) "SkyTrial$Told" "whenBooks" "[I") ∈ gTBL := tIn1 157 (by decide +kernel) rfl
theorem ww158 : (Cond.fieldLink "SkyTrial$Told" (34 : Nat) "SkyTrial$Told" "whenSigns" "[I") ∈ gTBL := tIn1 158 (by decide +kernel) rfl
theorem ww159 : (Cond.fieldLink "SkyTrial$Told" (37 : Nat) "SkyTrial$Told" "whenSays" "[I") ∈ gTBL := tIn1 159 (by decide +kernel) rfl
theorem ww160 : (Cond.fieldLink "SkyTrial$Told" (40 : Nat) "SkyTrial$Told" "formulaStarts" "[I") ∈ gTBL := tIn1 160 (by decide +kernel) rfl
theorem ww161 : (Cond.fieldLink "SkyTrial$Reckoner" (40 : Nat) "SkyTrial$Told" "formulaStarts" "[I") ∈ gTBL := tIn1 161 (by decide +kernel) rfl
theorem ww162 : (Cond.fieldLink "SkyTrial$Told" (43 : Nat) "SkyTrial$Told" "formulaEnds" "[I") ∈ gTBL := tIn1 162 (by decide +kernel) rfl
theorem ww163 : (Cond.fieldLink "SkyTrial$Reckoner" (28 : Nat) "SkyTrial$Told" "formulaEnds" "[I") ∈ gTBL := tIn1 163 (by decide +kernel) rfl
theorem ww164 : (Cond.fieldLink "SkyTrial$Told" (46 : Nat) "SkyTrial$Told" "stepKinds" "[I") ∈ gTBL := tIn1 164 (by decide +kernel) rfl
theorem ww165 : (Cond.fieldLink "SkyTrial$Reckoner" (46 : Nat) "SkyTrial$Told" "stepKinds" "[I") ∈ gTBL := tIn1 165 (by decide +kernel) rfl
theorem ww166 : (Cond.fieldLink "SkyTrial$Told" (49 : Nat) "SkyTrial$Told" "stepValues" "[I") ∈ gTBL := tIn1 166 (by decide +kernel) rfl
theorem ww167 : (Cond.fieldLink "SkyTrial$Reckoner" (49 : Nat) "SkyTrial$Told" "stepValues" "[I") ∈ gTBL := tIn1 167 (by decide +kernel) rfl
theorem ww168 : (Cond.fieldLink "SkyTrial$Told" (52 : Nat) "SkyTrial$Told" "steps" "I") ∈ gTBL := tIn1 168 (by decide +kernel) rfl
theorem ww169 : (Cond.fieldLink "SkyTrial$Reckoner" (31 : Nat) "SkyTrial$Told" "steps" "I") ∈ gTBL := tIn1 169 (by decide +kernel) rfl
theorem ww199 : (Cond.fieldLink "SkyTrial$TextReader" (12 : Nat) "SkyTrial$TextReader" "tokens" "LSkyTrial$Tokens;") ∈ gTBL := tIn1 199 (by decide +kernel) rfl
theorem ww200 : (Cond.fieldLink "SkyTrial$TextReader" (21 : Nat) "SkyTrial$TextReader" "draft" "LSkyTrial$Told;") ∈ gTBL := tIn1 200 (by decide +kernel) rfl
theorem ww201 : (Cond.fieldLink "SkyTrial$TextReader" (25 : Nat) "SkyTrial$TextReader" "at" "I") ∈ gTBL := tIn1 201 (by decide +kernel) rfl
theorem ww202 : (Cond.fieldLink "SkyTrial$TextReader" (29 : Nat) "SkyTrial$TextReader" "here" "I") ∈ gTBL := tIn1 202 (by decide +kernel) rfl
theorem ww203 : (Cond.fieldLink "SkyTrial$TextReader" (32 : Nat) "SkyTrial$TextReader" "value" "J") ∈ gTBL := tIn1 203 (by decide +kernel) rfl
theorem ww204 : (Cond.fieldLink "SkyTrial$TextReader" (36 : Nat) "SkyTrial$TextReader" "spot" "I") ∈ gTBL := tIn1 204 (by decide +kernel) rfl
theorem ww205 : (Cond.fieldLink "SkyTrial$TextReader" (39 : Nat) "SkyTrial$TextReader" "fault" "I") ∈ gTBL := tIn1 205 (by decide +kernel) rfl
theorem ww206 : (Cond.fieldLink "SkyTrial$TextReader" (42 : Nat) "SkyTrial$TextReader" "faultAt" "I") ∈ gTBL := tIn1 206 (by decide +kernel) rfl
theorem ww207 : (Cond.fieldLink "SkyTrial$TextReader" (45 : Nat) "SkyTrial$TextReader" "laterFault" "I") ∈ gTBL := tIn1 207 (by decide +kernel) rfl
theorem ww208 : (Cond.fieldLink "SkyTrial$TextReader" (48 : Nat) "SkyTrial$TextReader" "laterAt" "I") ∈ gTBL := tIn1 208 (by decide +kernel) rfl
theorem ww209 : (Cond.fieldLink "SkyTrial$TextReader" (51 : Nat) "SkyTrial$TextReader" "names" "[J") ∈ gTBL := tIn1 209 (by decide +kernel) rfl
theorem ww210 : (Cond.fieldLink "SkyTrial$TextReader" (55 : Nat) "SkyTrial$TextReader" "nameKinds" "[I") ∈ gTBL := tIn1 210 (by decide +kernel) rfl
theorem ww211 : (Cond.fieldLink "SkyTrial$TextReader" (59 : Nat) "SkyTrial$TextReader" "nameNumbers" "[I") ∈ gTBL := tIn1 211 (by decide +kernel) rfl
theorem ww212 : (Cond.fieldLink "SkyTrial$TextReader" (62 : Nat) "SkyTrial$TextReader" "named" "I") ∈ gTBL := tIn1 212 (by decide +kernel) rfl
theorem ww248 : (Cond.fieldLink "SkyTrial$People" (9 : Nat) "SkyTrial$People" "traits" "[I") ∈ gTBL := tIn2 8 (by decide +kernel) rfl
theorem ww249 : (Cond.fieldLink "SkyTrial$People" (15 : Nat) "SkyTrial$People" "size" "I") ∈ gTBL := tIn2 9 (by decide +kernel) rfl
theorem ww250 : (Cond.fieldLink "SkyTrial$Sky" (39 : Nat) "SkyTrial$People" "size" "I") ∈ gTBL := tIn2 10 (by decide +kernel) rfl
theorem ww251 : (Cond.fieldLink "SkyTrial" (84 : Nat) "SkyTrial$People" "size" "I") ∈ gTBL := tIn2 11 (by decide +kernel) rfl
theorem ww271 : (Cond.fieldLink "SkyTrial$Reckoner" (9 : Nat) "SkyTrial$Reckoner" "slots" "[I") ∈ gTBL := tIn2 31 (by decide +kernel) rfl
theorem ww272 : (Cond.fieldLink "SkyTrial$Sky" (65 : Nat) "SkyTrial$Reckoner" "slots" "[I") ∈ gTBL := tIn2 32 (by decide +kernel) rfl
theorem ww273 : (Cond.fieldLink "SkyTrial$Reckoner" (15 : Nat) "SkyTrial$Reckoner" "stack" "[I") ∈ gTBL := tIn2 33 (by decide +kernel) rfl
theorem ww274 : (Cond.fieldLink "SkyTrial$Reckoner" (18 : Nat) "SkyTrial$Reckoner" "top" "I") ∈ gTBL := tIn2 34 (by decide +kernel) rfl
theorem ww282 : (Cond.fieldLink "SkyTrial$Sky" (12 : Nat) "SkyTrial$Sky" "told" "LSkyTrial$Told;") ∈ gTBL := tIn2 42 (by decide +kernel) rfl
theorem ww283 : (Cond.fieldLink "SkyTrial" (72 : Nat) "SkyTrial$Sky" "told" "LSkyTrial$Told;") ∈ gTBL := tIn2 43 (by decide +kernel) rfl
theorem ww284 : (Cond.fieldLink "SkyTrial$Sky" (35 : Nat) "SkyTrial$Sky" "people" "LSkyTrial$People;") ∈ gTBL := tIn2 44 (by decide +kernel) rfl
theorem ww285 : (Cond.fieldLink "SkyTrial$Sky" (21 : Nat) "SkyTrial$Sky" "reckoner" "LSkyTrial$Reckoner;") ∈ gTBL := tIn2 45 (by decide +kernel) rfl
theorem ww286 : (Cond.fieldLink "SkyTrial$Sky" (25 : Nat) "SkyTrial$Sky" "ups" "[I") ∈ gTBL := tIn2 46 (by decide +kernel) rfl
theorem ww287 : (Cond.fieldLink "SkyTrial" (159 : Nat) "SkyTrial$Sky" "ups" "[I") ∈ gTBL := tIn2 47 (by decide +kernel) rfl
theorem ww288 : (Cond.fieldLink "SkyTrial$Sky" (29 : Nat) "SkyTrial$Sky" "truths" "[I") ∈ gTBL := tIn2 48 (by decide +kernel) rfl
theorem ww289 : (Cond.fieldLink "SkyTrial" (156 : Nat) "SkyTrial$Sky" "truths" "[I") ∈ gTBL := tIn2 49 (by decide +kernel) rfl
theorem ww290 : (Cond.fieldLink "SkyTrial$Sky" (32 : Nat) "SkyTrial$Sky" "fits" "[I") ∈ gTBL := tIn2 50 (by decide +kernel) rfl
theorem ww310 : (Cond.fieldLink "SkyTrial$Facts" (9 : Nat) "SkyTrial$Facts" "kinds" "[I") ∈ gTBL := tIn2 70 (by decide +kernel) rfl
theorem ww311 : (Cond.fieldLink "SkyTrial" (250 : Nat) "SkyTrial$Facts" "kinds" "[I") ∈ gTBL := tIn2 71 (by decide +kernel) rfl
theorem ww312 : (Cond.fieldLink "SkyTrial$Facts" (15 : Nat) "SkyTrial$Facts" "subjects" "[I") ∈ gTBL := tIn2 72 (by decide +kernel) rfl
theorem ww313 : (Cond.fieldLink "SkyTrial$Facts" (18 : Nat) "SkyTrial$Facts" "values" "[I") ∈ gTBL := tIn2 73 (by decide +kernel) rfl
theorem ww314 : (Cond.fieldLink "SkyTrial$Facts" (21 : Nat) "SkyTrial$Facts" "known" "[Z") ∈ gTBL := tIn2 74 (by decide +kernel) rfl
theorem ww315 : (Cond.fieldLink "SkyTrial$Facts" (25 : Nat) "SkyTrial$Facts" "size" "I") ∈ gTBL := tIn2 75 (by decide +kernel) rfl
theorem ww316 : (Cond.fieldLink "SkyTrial" (290 : Nat) "SkyTrial$Facts" "size" "I") ∈ gTBL := tIn2 76 (by decide +kernel) rfl
theorem ww335 : (Cond.fieldLink "SkyTrial$Chance" (11 : Nat) "SkyTrial$Chance" "takings" "[J") ∈ gTBL := tIn2 95 (by decide +kernel) rfl
theorem ww336 : (Cond.fieldLink "SkyTrial$Chance" (15 : Nat) "SkyTrial$Chance" "thirds" "[J") ∈ gTBL := tIn2 96 (by decide +kernel) rfl
theorem ww337 : (Cond.fieldLink "SkyTrial$Chance" (18 : Nat) "SkyTrial$Chance" "halves" "[J") ∈ gTBL := tIn2 97 (by decide +kernel) rfl
theorem ww338 : (Cond.fieldLink "SkyTrial$Chance" (21 : Nat) "SkyTrial$Chance" "spread" "[J") ∈ gTBL := tIn2 98 (by decide +kernel) rfl
theorem ww339 : (Cond.fieldLink "SkyTrial$Chance" (24 : Nat) "SkyTrial$Chance" "wider" "[J") ∈ gTBL := tIn2 99 (by decide +kernel) rfl
theorem ww357 : (Cond.fieldLink "SkyTrial$Table" (7 : Nat) "SkyTrial$Table" "all" "I") ∈ gTBL := tIn2 117 (by decide +kernel) rfl
theorem ww358 : (Cond.fieldLink "SkyTrial$Chance" (43 : Nat) "SkyTrial$Table" "all" "I") ∈ gTBL := tIn2 118 (by decide +kernel) rfl
theorem ww359 : (Cond.fieldLink "SkyTrial$Table" (13 : Nat) "SkyTrial$Table" "up" "I") ∈ gTBL := tIn2 119 (by decide +kernel) rfl
theorem ww360 : (Cond.fieldLink "SkyTrial$Chance" (49 : Nat) "SkyTrial$Table" "up" "I") ∈ gTBL := tIn2 120 (by decide +kernel) rfl
theorem ww361 : (Cond.fieldLink "SkyTrial" (280 : Nat) "SkyTrial$Table" "up" "I") ∈ gTBL := tIn2 121 (by decide +kernel) rfl
theorem ww362 : (Cond.fieldLink "SkyTrial$Table" (16 : Nat) "SkyTrial$Table" "trueOnes" "I") ∈ gTBL := tIn2 122 (by decide +kernel) rfl
theorem ww363 : (Cond.fieldLink "SkyTrial$Chance" (69 : Nat) "SkyTrial$Table" "trueOnes" "I") ∈ gTBL := tIn2 123 (by decide +kernel) rfl
theorem ww364 : (Cond.fieldLink "SkyTrial" (277 : Nat) "SkyTrial$Table" "trueOnes" "I") ∈ gTBL := tIn2 124 (by decide +kernel) rfl
theorem ww365 : (Cond.fieldLink "SkyTrial$Table" (19 : Nat) "SkyTrial$Table" "both" "I") ∈ gTBL := tIn2 125 (by decide +kernel) rfl
theorem ww366 : (Cond.fieldLink "SkyTrial$Chance" (56 : Nat) "SkyTrial$Table" "both" "I") ∈ gTBL := tIn2 126 (by decide +kernel) rfl
theorem ww367 : (Cond.fieldLink "SkyTrial" (225 : Nat) "SkyTrial$Table" "both" "I") ∈ gTBL := tIn2 127 (by decide +kernel) rfl
theorem ww377 : (Cond.fieldLink "SkyTrial" (10 : Nat) "SkyTrial" "tape" "LSkyTrial$Tape;") ∈ gTBL := tIn2 137 (by decide +kernel) rfl
theorem ww378 : (Cond.fieldLink "SkyTrial" (19 : Nat) "SkyTrial" "reader" "LSkyTrial$TextReader;") ∈ gTBL := tIn2 138 (by decide +kernel) rfl
theorem ww379 : (Cond.fieldLink "SkyTrial" (26 : Nat) "SkyTrial" "people" "LSkyTrial$People;") ∈ gTBL := tIn2 139 (by decide +kernel) rfl
theorem ww380 : (Cond.fieldLink "SkyTrial" (35 : Nat) "SkyTrial" "sky" "LSkyTrial$Sky;") ∈ gTBL := tIn2 140 (by decide +kernel) rfl
theorem ww381 : (Cond.fieldLink "SkyTrial" (42 : Nat) "SkyTrial" "facts" "LSkyTrial$Facts;") ∈ gTBL := tIn2 141 (by decide +kernel) rfl
theorem ww382 : (Cond.fieldLink "SkyTrial" (49 : Nat) "SkyTrial" "chance" "LSkyTrial$Chance;") ∈ gTBL := tIn2 142 (by decide +kernel) rfl
theorem ww383 : (Cond.fieldLink "SkyTrial" (56 : Nat) "SkyTrial" "tally" "LSkyTrial$Table;") ∈ gTBL := tIn2 143 (by decide +kernel) rfl
theorem ww403 : (Cond.methodLink "SkyTrial" (64 : Nat) ({ cls := "SkyTrial$Tape", name := "addFour", desc := "(I)V" } : Jvm.MethodName)) ∈ gTBL := tIn2 163 (by decide +kernel) rfl
theorem ww404 : (Cond.instanceMethod ({ cls := "SkyTrial$Tape", name := "addFour", desc := "(I)V" } : Jvm.MethodName)) ∈ gTBL := tIn2 164 (by decide +kernel) rfl
theorem ww405 : (Cond.selects "SkyTrial$Tape" ({ cls := "SkyTrial$Tape", name := "addFour", desc := "(I)V" } : Jvm.MethodName) ({ cls := "SkyTrial$Tape", name := "addFour", desc := "(I)V" } : Jvm.MethodName)) ∈ gTBL := tIn2 165 (by decide +kernel) rfl
theorem ww406 : (Cond.code ({ cls := "SkyTrial$Tape", name := "addFour", desc := "(I)V" } : Jvm.MethodName) prog_8_method_2_code (3 : Nat) (Option.none : Option Jvm.ClassFile.FieldType)) ∈ gTBL := tIn2 166 (by decide +kernel) rfl
theorem ww415 : (Cond.methodLink "SkyTrial" (68 : Nat) ({ cls := "SkyTrial$TextReader", name := "parse", desc := "(LSkyTrial$Tape;)I" } : Jvm.MethodName)) ∈ gTBL := tIn2 175 (by decide +kernel) rfl
theorem ww416 : (Cond.instanceMethod ({ cls := "SkyTrial$TextReader", name := "parse", desc := "(LSkyTrial$Tape;)I" } : Jvm.MethodName)) ∈ gTBL := tIn2 176 (by decide +kernel) rfl
theorem ww417 : (Cond.selects "SkyTrial$TextReader" ({ cls := "SkyTrial$TextReader", name := "parse", desc := "(LSkyTrial$Tape;)I" } : Jvm.MethodName) ({ cls := "SkyTrial$TextReader", name := "parse", desc := "(LSkyTrial$Tape;)I" } : Jvm.MethodName)) ∈ gTBL := tIn2 177 (by decide +kernel) rfl
theorem ww418 : (Cond.code ({ cls := "SkyTrial$TextReader", name := "parse", desc := "(LSkyTrial$Tape;)I" } : Jvm.MethodName) prog_9_method_2_code (3 : Nat) (Option.some Jvm.ClassFile.FieldType.int)) ∈ gTBL := tIn2 178 (by decide +kernel) rfl
theorem ww419 : (Cond.methodLink "SkyTrial$TextReader" (65 : Nat) ({ cls := "SkyTrial$Tokens", name := "scan", desc := "(LSkyTrial$Tape;)V" } : Jvm.MethodName)) ∈ gTBL := tIn2 179 (by decide +kernel) rfl
theorem ww420 : (Cond.instanceMethod ({ cls := "SkyTrial$Tokens", name := "scan", desc := "(LSkyTrial$Tape;)V" } : Jvm.MethodName)) ∈ gTBL := tIn2 180 (by decide +kernel) rfl
theorem ww421 : (Cond.selects "SkyTrial$Tokens" ({ cls := "SkyTrial$Tokens", name := "scan", desc := "(LSkyTrial$Tape;)V" } : Jvm.MethodName) ({ cls := "SkyTrial$Tokens", name := "scan", desc := "(LSkyTrial$Tape;)V" } : Jvm.MethodName)) ∈ gTBL := tIn2 181 (by decide +kernel) rfl
theorem ww422 : (Cond.code ({ cls := "SkyTrial$Tokens", name := "scan", desc := "(LSkyTrial$Tape;)V" } : Jvm.MethodName) prog_10_method_2_code (6 : Nat) (Option.none : Option Jvm.ClassFile.FieldType)) ∈ gTBL := tIn2 182 (by decide +kernel) rfl
theorem ww423 : (Cond.methodLink "SkyTrial$Tokens" (45 : Nat) ({ cls := "SkyTrial$Tape", name := "afterBlanks", desc := "(I)I" } : Jvm.MethodName)) ∈ gTBL := tIn2 183 (by decide +kernel) rfl
theorem ww424 : (Cond.instanceMethod ({ cls := "SkyTrial$Tape", name := "afterBlanks", desc := "(I)I" } : Jvm.MethodName)) ∈ gTBL := tIn2 184 (by decide +kernel) rfl
theorem ww425 : (Cond.selects "SkyTrial$Tape" ({ cls := "SkyTrial$Tape", name := "afterBlanks", desc := "(I)I" } : Jvm.MethodName) ({ cls := "SkyTrial$Tape", name := "afterBlanks", desc := "(I)I" } : Jvm.MethodName)) ∈ gTBL := tIn2 185 (by decide +kernel) rfl
theorem ww426 : (Cond.code ({ cls := "SkyTrial$Tape", name := "afterBlanks", desc := "(I)I" } : Jvm.MethodName) prog_8_method_4_code (4 : Nat) (Option.some Jvm.ClassFile.FieldType.int)) ∈ gTBL := tIn2 186 (by decide +kernel) rfl
theorem ww427 : (Cond.methodLink "SkyTrial$Tape" (19 : Nat) ({ cls := "SkyTrial$Tape", name := "byteAt", desc := "(I)I" } : Jvm.MethodName)) ∈ gTBL := tIn2 187 (by decide +kernel) rfl
theorem ww428 : (Cond.instanceMethod ({ cls := "SkyTrial$Tape", name := "byteAt", desc := "(I)I" } : Jvm.MethodName)) ∈ gTBL := tIn2 188 (by decide +kernel) rfl
theorem ww429 : (Cond.selects "SkyTrial$Tape" ({ cls := "SkyTrial$Tape", name := "byteAt", desc := "(I)I" } : Jvm.MethodName) ({ cls := "SkyTrial$Tape", name := "byteAt", desc := "(I)I" } : Jvm.MethodName)) ∈ gTBL := tIn2 189 (by decide +kernel) rfl
theorem ww430 : (Cond.code ({ cls := "SkyTrial$Tape", name := "byteAt", desc := "(I)I" } : Jvm.MethodName) prog_8_method_3_code (2 : Nat) (Option.some Jvm.ClassFile.FieldType.int)) ∈ gTBL := tIn2 190 (by decide +kernel) rfl
theorem ww431 : (Cond.methodLink "SkyTrial$Tokens" (51 : Nat) ({ cls := "SkyTrial$Tokens", name := "scanOne", desc := "(LSkyTrial$Tape;I)I" } : Jvm.MethodName)) ∈ gTBL := tIn2 191 (by decide +kernel) rfl
theorem ww433 : (Cond.instanceMethod ({ cls := "SkyTrial$Tokens", name := "scanOne", desc := "(LSkyTrial$Tape;I)I" } : Jvm.MethodName)) ∈ gTBL := tIn2 193 (by decide +kernel) rfl
theorem ww434 : (Cond.code ({ cls := "SkyTrial$Tokens", name := "scanOne", desc := "(LSkyTrial$Tape;I)I" } : Jvm.MethodName) prog_10_method_3_code (5 : Nat) (Option.some Jvm.ClassFile.FieldType.int)) ∈ gTBL := tIn2 194 (by decide +kernel) rfl
theorem ww435 : (Cond.methodLink "SkyTrial$Tokens" (55 : Nat) ({ cls := "SkyTrial$Tape", name := "byteAt", desc := "(I)I" } : Jvm.MethodName)) ∈ gTBL := tIn2 195 (by decide +kernel) rfl
theorem ww436 : (Cond.methodLink "SkyTrial$Tokens" (58 : Nat) ({ cls := "SkyTrial$Tokens", name := "put", desc := "(IIJ)V" } : Jvm.MethodName)) ∈ gTBL := tIn2 196 (by decide +kernel) rfl
theorem ww438 : (Cond.instanceMethod ({ cls := "SkyTrial$Tokens", name := "put", desc := "(IIJ)V" } : Jvm.MethodName)) ∈ gTBL := tIn2 198 (by decide +kernel) rfl
theorem ww439 : (Cond.code ({ cls := "SkyTrial$Tokens", name := "put", desc := "(IIJ)V" } : Jvm.MethodName) prog_10_method_6_code (5 : Nat) (Option.none : Option Jvm.ClassFile.FieldType)) ∈ gTBL := tIn2 199 (by decide +kernel) rfl
theorem ww441 : (Cond.static ({ cls := "SkyTrial", name := "inRange", desc := "(III)Z" } : Jvm.MethodName)) ∈ gTBL := tIn2 201 (by decide +kernel) rfl
theorem ww442 : (Cond.code ({ cls := "SkyTrial", name := "inRange", desc := "(III)Z" } : Jvm.MethodName) prog_1_method_43_code (3 : Nat) (Option.some Jvm.ClassFile.FieldType.boolean)) ∈ gTBL := tIn2 202 (by decide +kernel) rfl
theorem ww443 : (Cond.methodLink "SkyTrial$Tokens" (66 : Nat) ({ cls := "SkyTrial$Tokens", name := "scanWord", desc := "(LSkyTrial$Tape;I)I" } : Jvm.MethodName)) ∈ gTBL := tIn2 203 (by decide +kernel) rfl
theorem ww445 : (Cond.instanceMethod ({ cls := "SkyTrial$Tokens", name := "scanWord", desc := "(LSkyTrial$Tape;I)I" } : Jvm.MethodName)) ∈ gTBL := tIn2 205 (by decide +kernel) rfl
theorem ww446 : (Cond.code ({ cls := "SkyTrial$Tokens", name := "scanWord", desc := "(LSkyTrial$Tape;I)I" } : Jvm.MethodName) prog_10_method_4_code (7 : Nat) (Option.some Jvm.ClassFile.FieldType.int)) ∈ gTBL := tIn2 206 (by decide +kernel) rfl
theorem ww447 : (Cond.methodLink "SkyTrial$Tokens" (76 : Nat) ({ cls := "SkyTrial$Tape", name := "afterRun", desc := "(III)I" } : Jvm.MethodName)) ∈ gTBL := tIn2 207 (by decide +kernel) rfl
theorem ww448 : (Cond.instanceMethod ({ cls := "SkyTrial$Tape", name := "afterRun", desc := "(III)I" } : Jvm.MethodName)) ∈ gTBL := tIn2 208 (by decide +kernel) rfl
theorem ww449 : (Cond.selects "SkyTrial$Tape" ({ cls := "SkyTrial$Tape", name := "afterRun", desc := "(III)I" } : Jvm.MethodName) ({ cls := "SkyTrial$Tape", name := "afterRun", desc := "(III)I" } : Jvm.MethodName)) ∈ gTBL := tIn2 209 (by decide +kernel) rfl
theorem ww450 : (Cond.code ({ cls := "SkyTrial$Tape", name := "afterRun", desc := "(III)I" } : Jvm.MethodName) prog_8_method_5_code (5 : Nat) (Option.some Jvm.ClassFile.FieldType.int)) ∈ gTBL := tIn2 210 (by decide +kernel) rfl
theorem ww452 : (Cond.methodLink "SkyTrial$Tokens" (80 : Nat) ({ cls := "SkyTrial$Tokens", name := "wordKind", desc := "(J)I" } : Jvm.MethodName)) ∈ gTBL := tIn2 212 (by decide +kernel) rfl
theorem ww454 : (Cond.instanceMethod ({ cls := "SkyTrial$Tokens", name := "wordKind", desc := "(J)I" } : Jvm.MethodName)) ∈ gTBL := tIn2 214 (by decide +kernel) rfl
theorem ww455 : (Cond.code ({ cls := "SkyTrial$Tokens", name := "wordKind", desc := "(J)I" } : Jvm.MethodName) prog_10_method_8_code (4 : Nat) (Option.some Jvm.ClassFile.FieldType.int)) ∈ gTBL := tIn2 215 (by decide +kernel) rfl
theorem ww456 : (Cond.methodLink "SkyTrial$Tokens" (69 : Nat) ({ cls := "SkyTrial$Tokens", name := "scanInt", desc := "(LSkyTrial$Tape;I)I" } : Jvm.MethodName)) ∈ gTBL := tIn2 216 (by decide +kernel) rfl
theorem ww458 : (Cond.instanceMethod ({ cls := "SkyTrial$Tokens", name := "scanInt", desc := "(LSkyTrial$Tape;I)I" } : Jvm.MethodName)) ∈ gTBL := tIn2 218 (by decide +kernel) rfl
theorem ww459 : (Cond.code ({ cls := "SkyTrial$Tokens", name := "scanInt", desc := "(LSkyTrial$Tape;I)I" } : Jvm.MethodName) prog_10_method_5_code (7 : Nat) (Option.some Jvm.ClassFile.FieldType.int)) ∈ gTBL := tIn2 219 (by decide +kernel) rfl
theorem ww460 : (Cond.constantLong "SkyTrial$Tokens" (84 : Nat) (10 : Int64)) ∈ gTBL := tIn2 220 (by decide +kernel) rfl
theorem ww461 : (Cond.methodLink "SkyTrial$Tokens" (72 : Nat) ({ cls := "SkyTrial$Tokens", name := "markKind", desc := "(II)I" } : Jvm.MethodName)) ∈ gTBL := tIn2 221 (by decide +kernel) rfl
theorem ww462 : (Cond.static ({ cls := "SkyTrial$Tokens", name := "markKind", desc := "(II)I" } : Jvm.MethodName)) ∈ gTBL := tIn2 222 (by decide +kernel) rfl
theorem ww463 : (Cond.code ({ cls := "SkyTrial$Tokens", name := "markKind", desc := "(II)I" } : Jvm.MethodName) prog_10_method_9_code (3 : Nat) (Option.some Jvm.ClassFile.FieldType.int)) ∈ gTBL := tIn2 223 (by decide +kernel) rfl
theorem ww464 : (Cond.methodLink "SkyTrial$TextReader" (69 : Nat) ({ cls := "SkyTrial$TextReader", name := "start", desc := "()V" } : Jvm.MethodName)) ∈ gTBL := tIn2 224 (by decide +kernel) rfl
theorem ww466 : (Cond.instanceMethod ({ cls := "SkyTrial$TextReader", name := "start", desc := "()V" } : Jvm.MethodName)) ∈ gTBL := tIn2 226 (by decide +kernel) rfl
theorem ww467 : (Cond.code ({ cls := "SkyTrial$TextReader", name := "start", desc := "()V" } : Jvm.MethodName) prog_9_method_5_code (1 : Nat) (Option.none : Option Jvm.ClassFile.FieldType)) ∈ gTBL := tIn2 227 (by decide +kernel) rfl
theorem ww468 : (Cond.methodLink "SkyTrial$TextReader" (91 : Nat) ({ cls := "SkyTrial$Told", name := "clear", desc := "()V" } : Jvm.MethodName)) ∈ gTBL := tIn2 228 (by decide +kernel) rfl
theorem ww469 : (Cond.instanceMethod ({ cls := "SkyTrial$Told", name := "clear", desc := "()V" } : Jvm.MethodName)) ∈ gTBL := tIn2 229 (by decide +kernel) rfl
theorem ww470 : (Cond.selects "SkyTrial$Told" ({ cls := "SkyTrial$Told", name := "clear", desc := "()V" } : Jvm.MethodName) ({ cls := "SkyTrial$Told", name := "clear", desc := "()V" } : Jvm.MethodName)) ∈ gTBL := tIn2 230 (by decide +kernel) rfl
theorem ww471 : (Cond.code ({ cls := "SkyTrial$Told", name := "clear", desc := "()V" } : Jvm.MethodName) prog_11_method_2_code (1 : Nat) (Option.none : Option Jvm.ClassFile.FieldType)) ∈ gTBL := tIn2 231 (by decide +kernel) rfl
theorem ww472 : (Cond.methodLink "SkyTrial$TextReader" (72 : Nat) ({ cls := "SkyTrial$TextReader", name := "tellSign", desc := "()V" } : Jvm.MethodName)) ∈ gTBL := tIn2 232 (by decide +kernel) rfl
theorem ww474 : (Cond.instanceMethod ({ cls := "SkyTrial$TextReader", name := "tellSign", desc := "()V" } : Jvm.MethodName)) ∈ gTBL := tIn2 234 (by decide +kernel) rfl
theorem ww475 : (Cond.code ({ cls := "SkyTrial$TextReader", name := "tellSign", desc := "()V" } : Jvm.MethodName) prog_9_method_6_code (2 : Nat) (Option.none : Option Jvm.ClassFile.FieldType)) ∈ gTBL := tIn2 235 (by decide +kernel) rfl
theorem ww476 : (Cond.methodLink "SkyTrial$TextReader" (106 : Nat) ({ cls := "SkyTrial$TextReader", name := "open", desc := "(Z)Z" } : Jvm.MethodName)) ∈ gTBL := tIn2 236 (by decide +kernel) rfl
theorem ww478 : (Cond.instanceMethod ({ cls := "SkyTrial$TextReader", name := "open", desc := "(Z)Z" } : Jvm.MethodName)) ∈ gTBL := tIn2 238 (by decide +kernel) rfl
theorem ww479 : (Cond.code ({ cls := "SkyTrial$TextReader", name := "open", desc := "(Z)Z" } : Jvm.MethodName) prog_9_method_18_code (2 : Nat) (Option.some Jvm.ClassFile.FieldType.boolean)) ∈ gTBL := tIn2 239 (by decide +kernel) rfl
theorem ww480 : (Cond.methodLink "SkyTrial$TextReader" (136 : Nat) ({ cls := "SkyTrial$TextReader", name := "take", desc := "()V" } : Jvm.MethodName)) ∈ gTBL := tIn3 0 (by decide +kernel) rfl
theorem ww482 : (Cond.instanceMethod ({ cls := "SkyTrial$TextReader", name := "take", desc := "()V" } : Jvm.MethodName)) ∈ gTBL := tIn3 2 (by decide +kernel) rfl
theorem ww483 : (Cond.code ({ cls := "SkyTrial$TextReader", name := "take", desc := "()V" } : Jvm.MethodName) prog_9_method_20_code (1 : Nat) (Option.none : Option Jvm.ClassFile.FieldType)) ∈ gTBL := tIn3 3 (by decide +kernel) rfl
theorem ww484 : (Cond.methodLink "SkyTrial$TextReader" (87 : Nat) ({ cls := "SkyTrial$TextReader", name := "fail", desc := "(I)V" } : Jvm.MethodName)) ∈ gTBL := tIn3 4 (by decide +kernel) rfl
theorem ww486 : (Cond.instanceMethod ({ cls := "SkyTrial$TextReader", name := "fail", desc := "(I)V" } : Jvm.MethodName)) ∈ gTBL := tIn3 6 (by decide +kernel) rfl
theorem ww487 : (Cond.code ({ cls := "SkyTrial$TextReader", name := "fail", desc := "(I)V" } : Jvm.MethodName) prog_9_method_21_code (2 : Nat) (Option.none : Option Jvm.ClassFile.FieldType)) ∈ gTBL := tIn3 7 (by decide +kernel) rfl
theorem ww488 : (Cond.methodLink "SkyTrial$TextReader" (110 : Nat) ({ cls := "SkyTrial$TextReader", name := "tellName", desc := "(II)V" } : Jvm.MethodName)) ∈ gTBL := tIn3 8 (by decide +kernel) rfl
theorem ww490 : (Cond.instanceMethod ({ cls := "SkyTrial$TextReader", name := "tellName", desc := "(II)V" } : Jvm.MethodName)) ∈ gTBL := tIn3 10 (by decide +kernel) rfl
theorem ww491 : (Cond.code ({ cls := "SkyTrial$TextReader", name := "tellName", desc := "(II)V" } : Jvm.MethodName) prog_9_method_11_code (3 : Nat) (Option.none : Option Jvm.ClassFile.FieldType)) ∈ gTBL := tIn3 11 (by decide +kernel) rfl
theorem ww492 : (Cond.methodLink "SkyTrial$TextReader" (165 : Nat) ({ cls := "SkyTrial$TextReader", name := "findName", desc := "(J)I" } : Jvm.MethodName)) ∈ gTBL := tIn3 12 (by decide +kernel) rfl
theorem ww494 : (Cond.instanceMethod ({ cls := "SkyTrial$TextReader", name := "findName", desc := "(J)I" } : Jvm.MethodName)) ∈ gTBL := tIn3 14 (by decide +kernel) rfl
theorem ww495 : (Cond.code ({ cls := "SkyTrial$TextReader", name := "findName", desc := "(J)I" } : Jvm.MethodName) prog_9_method_12_code (4 : Nat) (Option.some Jvm.ClassFile.FieldType.int)) ∈ gTBL := tIn3 15 (by decide +kernel) rfl
theorem ww496 : (Cond.methodLink "SkyTrial$TextReader" (142 : Nat) ({ cls := "SkyTrial$TextReader", name := "blame", desc := "(I)V" } : Jvm.MethodName)) ∈ gTBL := tIn3 16 (by decide +kernel) rfl
theorem ww498 : (Cond.instanceMethod ({ cls := "SkyTrial$TextReader", name := "blame", desc := "(I)V" } : Jvm.MethodName)) ∈ gTBL := tIn3 18 (by decide +kernel) rfl
theorem ww499 : (Cond.code ({ cls := "SkyTrial$TextReader", name := "blame", desc := "(I)V" } : Jvm.MethodName) prog_9_method_22_code (2 : Nat) (Option.none : Option Jvm.ClassFile.FieldType)) ∈ gTBL := tIn3 19 (by decide +kernel) rfl
theorem ww500 : (Cond.methodLink "SkyTrial$TextReader" (114 : Nat) ({ cls := "SkyTrial$TextReader", name := "need", desc := "(I)V" } : Jvm.MethodName)) ∈ gTBL := tIn3 20 (by decide +kernel) rfl
theorem ww502 : (Cond.instanceMethod ({ cls := "SkyTrial$TextReader", name := "need", desc := "(I)V" } : Jvm.MethodName)) ∈ gTBL := tIn3 22 (by decide +kernel) rfl
theorem ww503 : (Cond.code ({ cls := "SkyTrial$TextReader", name := "need", desc := "(I)V" } : Jvm.MethodName) prog_9_method_19_code (2 : Nat) (Option.none : Option Jvm.ClassFile.FieldType)) ∈ gTBL := tIn3 23 (by decide +kernel) rfl
theorem ww504 : (Cond.methodLink "SkyTrial$TextReader" (117 : Nat) ({ cls := "SkyTrial$Told", name := "startFormula", desc := "(I)V" } : Jvm.MethodName)) ∈ gTBL := tIn3 24 (by decide +kernel) rfl
theorem ww505 : (Cond.instanceMethod ({ cls := "SkyTrial$Told", name := "startFormula", desc := "(I)V" } : Jvm.MethodName)) ∈ gTBL := tIn3 25 (by decide +kernel) rfl
theorem ww506 : (Cond.selects "SkyTrial$Told" ({ cls := "SkyTrial$Told", name := "startFormula", desc := "(I)V" } : Jvm.MethodName) ({ cls := "SkyTrial$Told", name := "startFormula", desc := "(I)V" } : Jvm.MethodName)) ∈ gTBL := tIn3 26 (by decide +kernel) rfl
theorem ww507 : (Cond.code ({ cls := "SkyTrial$Told", name := "startFormula", desc := "(I)V" } : Jvm.MethodName) prog_11_method_4_code (2 : Nat) (Option.none : Option Jvm.ClassFile.FieldType)) ∈ gTBL := tIn3 27 (by decide +kernel) rfl
theorem ww509 : (Cond.methodLink "SkyTrial$TextReader" (120 : Nat) ({ cls := "SkyTrial$TextReader", name := "condition", desc := "()V" } : Jvm.MethodName)) ∈ gTBL := tIn3 29 (by decide +kernel) rfl
theorem ww511 : (Cond.instanceMethod ({ cls := "SkyTrial$TextReader", name := "condition", desc := "()V" } : Jvm.MethodName)) ∈ gTBL := tIn3 31 (by decide +kernel) rfl
theorem ww512 : (Cond.code ({ cls := "SkyTrial$TextReader", name := "condition", desc := "()V" } : Jvm.MethodName) prog_9_method_14_code (5 : Nat) (Option.none : Option Jvm.ClassFile.FieldType)) ∈ gTBL := tIn3 32 (by decide +kernel) rfl
theorem ww513 : (Cond.methodLink "SkyTrial$TextReader" (169 : Nat) ({ cls := "SkyTrial$TextReader", name := "literal", desc := "()V" } : Jvm.MethodName)) ∈ gTBL := tIn3 33 (by decide +kernel) rfl
theorem ww515 : (Cond.instanceMethod ({ cls := "SkyTrial$TextReader", name := "literal", desc := "()V" } : Jvm.MethodName)) ∈ gTBL := tIn3 35 (by decide +kernel) rfl
theorem ww516 : (Cond.code ({ cls := "SkyTrial$TextReader", name := "literal", desc := "()V" } : Jvm.MethodName) prog_9_method_15_code (3 : Nat) (Option.none : Option Jvm.ClassFile.FieldType)) ∈ gTBL := tIn3 36 (by decide +kernel) rfl
theorem ww517 : (Cond.methodLink "SkyTrial$TextReader" (162 : Nat) ({ cls := "SkyTrial$TextReader", name := "sum", desc := "(I)V" } : Jvm.MethodName)) ∈ gTBL := tIn3 37 (by decide +kernel) rfl
theorem ww519 : (Cond.instanceMethod ({ cls := "SkyTrial$TextReader", name := "sum", desc := "(I)V" } : Jvm.MethodName)) ∈ gTBL := tIn3 39 (by decide +kernel) rfl
theorem ww520 : (Cond.code ({ cls := "SkyTrial$TextReader", name := "sum", desc := "(I)V" } : Jvm.MethodName) prog_9_method_16_code (6 : Nat) (Option.none : Option Jvm.ClassFile.FieldType)) ∈ gTBL := tIn3 40 (by decide +kernel) rfl
theorem ww521 : (Cond.methodLink "SkyTrial$TextReader" (175 : Nat) ({ cls := "SkyTrial$TextReader", name := "unit", desc := "(I)V" } : Jvm.MethodName)) ∈ gTBL := tIn3 41 (by decide +kernel) rfl
theorem ww523 : (Cond.instanceMethod ({ cls := "SkyTrial$TextReader", name := "unit", desc := "(I)V" } : Jvm.MethodName)) ∈ gTBL := tIn3 43 (by decide +kernel) rfl
theorem ww524 : (Cond.code ({ cls := "SkyTrial$TextReader", name := "unit", desc := "(I)V" } : Jvm.MethodName) prog_9_method_17_code (3 : Nat) (Option.none : Option Jvm.ClassFile.FieldType)) ∈ gTBL := tIn3 44 (by decide +kernel) rfl
theorem ww525 : (Cond.constantLong "SkyTrial$TextReader" (178 : Nat) (8 : Int64)) ∈ gTBL := tIn3 45 (by decide +kernel) rfl
theorem ww526 : (Cond.methodLink "SkyTrial$TextReader" (172 : Nat) ({ cls := "SkyTrial$Told", name := "addStep", desc := "(II)V" } : Jvm.MethodName)) ∈ gTBL := tIn3 46 (by decide +kernel) rfl
theorem ww527 : (Cond.instanceMethod ({ cls := "SkyTrial$Told", name := "addStep", desc := "(II)V" } : Jvm.MethodName)) ∈ gTBL := tIn3 47 (by decide +kernel) rfl
theorem ww528 : (Cond.selects "SkyTrial$Told" ({ cls := "SkyTrial$Told", name := "addStep", desc := "(II)V" } : Jvm.MethodName) ({ cls := "SkyTrial$Told", name := "addStep", desc := "(II)V" } : Jvm.MethodName)) ∈ gTBL := tIn3 48 (by decide +kernel) rfl
theorem ww529 : (Cond.code ({ cls := "SkyTrial$Told", name := "addStep", desc := "(II)V" } : Jvm.MethodName) prog_11_method_3_code (3 : Nat) (Option.none : Option Jvm.ClassFile.FieldType)) ∈ gTBL := tIn3 49 (by decide +kernel) rfl
theorem ww531 : (Cond.methodLink "SkyTrial$TextReader" (123 : Nat) ({ cls := "SkyTrial$Told", name := "endFormula", desc := "(I)V" } : Jvm.MethodName)) ∈ gTBL := tIn3 51 (by decide +kernel) rfl
theorem ww532 : (Cond.instanceMethod ({ cls := "SkyTrial$Told", name := "endFormula", desc := "(I)V" } : Jvm.MethodName)) ∈ gTBL := tIn3 52 (by decide +kernel) rfl
theorem ww533 : (Cond.selects "SkyTrial$Told" ({ cls := "SkyTrial$Told", name := "endFormula", desc := "(I)V" } : Jvm.MethodName) ({ cls := "SkyTrial$Told", name := "endFormula", desc := "(I)V" } : Jvm.MethodName)) ∈ gTBL := tIn3 53 (by decide +kernel) rfl
theorem ww534 : (Cond.code ({ cls := "SkyTrial$Told", name := "endFormula", desc := "(I)V" } : Jvm.MethodName) prog_11_method_5_code (2 : Nat) (Option.none : Option Jvm.ClassFile.FieldType)) ∈ gTBL := tIn3 54 (by decide +kernel) rfl
theorem ww535 : (Cond.methodLink "SkyTrial$TextReader" (75 : Nat) ({ cls := "SkyTrial$TextReader", name := "tellSay", desc := "()V" } : Jvm.MethodName)) ∈ gTBL := tIn3 55 (by decide +kernel) rfl
theorem ww537 : (Cond.instanceMethod ({ cls := "SkyTrial$TextReader", name := "tellSay", desc := "()V" } : Jvm.MethodName)) ∈ gTBL := tIn3 57 (by decide +kernel) rfl
theorem ww538 : (Cond.code ({ cls := "SkyTrial$TextReader", name := "tellSay", desc := "()V" } : Jvm.MethodName) prog_9_method_7_code (2 : Nat) (Option.none : Option Jvm.ClassFile.FieldType)) ∈ gTBL := tIn3 58 (by decide +kernel) rfl
theorem ww539 : (Cond.methodLink "SkyTrial$TextReader" (78 : Nat) ({ cls := "SkyTrial$TextReader", name := "tellBook", desc := "()V" } : Jvm.MethodName)) ∈ gTBL := tIn3 59 (by decide +kernel) rfl
theorem ww541 : (Cond.instanceMethod ({ cls := "SkyTrial$TextReader", name := "tellBook", desc := "()V" } : Jvm.MethodName)) ∈ gTBL := tIn3 61 (by decide +kernel) rfl
theorem ww542 : (Cond.code ({ cls := "SkyTrial$TextReader", name := "tellBook", desc := "()V" } : Jvm.MethodName) prog_9_method_8_code (1 : Nat) (Option.none : Option Jvm.ClassFile.FieldType)) ∈ gTBL := tIn3 62 (by decide +kernel) rfl
theorem ww543 : (Cond.methodLink "SkyTrial$TextReader" (81 : Nat) ({ cls := "SkyTrial$TextReader", name := "tellWhen", desc := "()V" } : Jvm.MethodName)) ∈ gTBL := tIn3 63 (by decide +kernel) rfl
theorem ww545 : (Cond.instanceMethod ({ cls := "SkyTrial$TextReader", name := "tellWhen", desc := "()V" } : Jvm.MethodName)) ∈ gTBL := tIn3 65 (by decide +kernel) rfl
theorem ww546 : (Cond.code ({ cls := "SkyTrial$TextReader", name := "tellWhen", desc := "()V" } : Jvm.MethodName) prog_9_method_9_code (4 : Nat) (Option.none : Option Jvm.ClassFile.FieldType)) ∈ gTBL := tIn3 66 (by decide +kernel) rfl
theorem ww547 : (Cond.methodLink "SkyTrial$TextReader" (148 : Nat) ({ cls := "SkyTrial$TextReader", name := "nameAhead", desc := "(I)I" } : Jvm.MethodName)) ∈ gTBL := tIn3 67 (by decide +kernel) rfl
theorem ww549 : (Cond.instanceMethod ({ cls := "SkyTrial$TextReader", name := "nameAhead", desc := "(I)I" } : Jvm.MethodName)) ∈ gTBL := tIn3 69 (by decide +kernel) rfl
theorem ww550 : (Cond.code ({ cls := "SkyTrial$TextReader", name := "nameAhead", desc := "(I)I" } : Jvm.MethodName) prog_9_method_13_code (3 : Nat) (Option.some Jvm.ClassFile.FieldType.int)) ∈ gTBL := tIn3 70 (by decide +kernel) rfl
theorem ww551 : (Cond.methodLink "SkyTrial$TextReader" (152 : Nat) ({ cls := "SkyTrial$Told", name := "hasWhen", desc := "(III)Z" } : Jvm.MethodName)) ∈ gTBL := tIn3 71 (by decide +kernel) rfl
theorem ww552 : (Cond.instanceMethod ({ cls := "SkyTrial$Told", name := "hasWhen", desc := "(III)Z" } : Jvm.MethodName)) ∈ gTBL := tIn3 72 (by decide +kernel) rfl
theorem ww553 : (Cond.selects "SkyTrial$Told" ({ cls := "SkyTrial$Told", name := "hasWhen", desc := "(III)Z" } : Jvm.MethodName) ({ cls := "SkyTrial$Told", name := "hasWhen", desc := "(III)Z" } : Jvm.MethodName)) ∈ gTBL := tIn3 73 (by decide +kernel) rfl
theorem ww554 : (Cond.code ({ cls := "SkyTrial$Told", name := "hasWhen", desc := "(III)Z" } : Jvm.MethodName) prog_11_method_7_code (5 : Nat) (Option.some Jvm.ClassFile.FieldType.boolean)) ∈ gTBL := tIn3 74 (by decide +kernel) rfl
theorem ww555 : (Cond.methodLink "SkyTrial$TextReader" (155 : Nat) ({ cls := "SkyTrial$Told", name := "addWhen", desc := "(III)V" } : Jvm.MethodName)) ∈ gTBL := tIn3 75 (by decide +kernel) rfl
theorem ww556 : (Cond.instanceMethod ({ cls := "SkyTrial$Told", name := "addWhen", desc := "(III)V" } : Jvm.MethodName)) ∈ gTBL := tIn3 76 (by decide +kernel) rfl
theorem ww557 : (Cond.selects "SkyTrial$Told" ({ cls := "SkyTrial$Told", name := "addWhen", desc := "(III)V" } : Jvm.MethodName) ({ cls := "SkyTrial$Told", name := "addWhen", desc := "(III)V" } : Jvm.MethodName)) ∈ gTBL := tIn3 77 (by decide +kernel) rfl
theorem ww558 : (Cond.code ({ cls := "SkyTrial$Told", name := "addWhen", desc := "(III)V" } : Jvm.MethodName) prog_11_method_6_code (4 : Nat) (Option.none : Option Jvm.ClassFile.FieldType)) ∈ gTBL := tIn3 78 (by decide +kernel) rfl
theorem ww559 : (Cond.methodLink "SkyTrial$TextReader" (84 : Nat) ({ cls := "SkyTrial$TextReader", name := "tellLaw", desc := "()V" } : Jvm.MethodName)) ∈ gTBL := tIn3 79 (by decide +kernel) rfl
theorem ww561 : (Cond.instanceMethod ({ cls := "SkyTrial$TextReader", name := "tellLaw", desc := "()V" } : Jvm.MethodName)) ∈ gTBL := tIn3 81 (by decide +kernel) rfl
theorem ww562 : (Cond.code ({ cls := "SkyTrial$TextReader", name := "tellLaw", desc := "()V" } : Jvm.MethodName) prog_9_method_10_code (2 : Nat) (Option.none : Option Jvm.ClassFile.FieldType)) ∈ gTBL := tIn3 82 (by decide +kernel) rfl
theorem ww563 : (Cond.methodLink "SkyTrial" (76 : Nat) ({ cls := "SkyTrial$TextReader", name := "exchange", desc := "(LSkyTrial$Told;)LSkyTrial$Told;" } : Jvm.MethodName)) ∈ gTBL := tIn3 83 (by decide +kernel) rfl
theorem ww564 : (Cond.instanceMethod ({ cls := "SkyTrial$TextReader", name := "exchange", desc := "(LSkyTrial$Told;)LSkyTrial$Told;" } : Jvm.MethodName)) ∈ gTBL := tIn3 84 (by decide +kernel) rfl
theorem ww565 : (Cond.selects "SkyTrial$TextReader" ({ cls := "SkyTrial$TextReader", name := "exchange", desc := "(LSkyTrial$Told;)LSkyTrial$Told;" } : Jvm.MethodName) ({ cls := "SkyTrial$TextReader", name := "exchange", desc := "(LSkyTrial$Told;)LSkyTrial$Told;" } : Jvm.MethodName)) ∈ gTBL := tIn3 85 (by decide +kernel) rfl
theorem ww566 : (Cond.code ({ cls := "SkyTrial$TextReader", name := "exchange", desc := "(LSkyTrial$Told;)LSkyTrial$Told;" } : Jvm.MethodName) prog_9_method_4_code (3 : Nat) (Option.some (Jvm.ClassFile.FieldType.object "SkyTrial$Told"))) ∈ gTBL := tIn3 86 (by decide +kernel) rfl
theorem ww571 : (Cond.methodLink "SkyTrial" (80 : Nat) ({ cls := "SkyTrial$TextReader", name := "faultPlace", desc := "()I" } : Jvm.MethodName)) ∈ gTBL := tIn3 91 (by decide +kernel) rfl
theorem ww572 : (Cond.instanceMethod ({ cls := "SkyTrial$TextReader", name := "faultPlace", desc := "()I" } : Jvm.MethodName)) ∈ gTBL := tIn3 92 (by decide +kernel) rfl
theorem ww573 : (Cond.selects "SkyTrial$TextReader" ({ cls := "SkyTrial$TextReader", name := "faultPlace", desc := "()I" } : Jvm.MethodName) ({ cls := "SkyTrial$TextReader", name := "faultPlace", desc := "()I" } : Jvm.MethodName)) ∈ gTBL := tIn3 93 (by decide +kernel) rfl
theorem ww574 : (Cond.code ({ cls := "SkyTrial$TextReader", name := "faultPlace", desc := "()I" } : Jvm.MethodName) prog_9_method_3_code (1 : Nat) (Option.some Jvm.ClassFile.FieldType.int)) ∈ gTBL := tIn3 94 (by decide +kernel) rfl
theorem ww579 : (Cond.constant "SkyTrial" (87 : Nat) (99999999 : Int32)) ∈ gTBL := tIn3 99 (by decide +kernel) rfl
theorem ww580 : (Cond.methodLink "SkyTrial" (88 : Nat) ({ cls := "SkyTrial", name := "inRange", desc := "(III)Z" } : Jvm.MethodName)) ∈ gTBL := tIn3 100 (by decide +kernel) rfl
theorem ww581 : (Cond.methodLink "SkyTrial" (92 : Nat) ({ cls := "SkyTrial$People", name := "setTrait", desc := "(III)V" } : Jvm.MethodName)) ∈ gTBL := tIn3 101 (by decide +kernel) rfl
theorem ww582 : (Cond.instanceMethod ({ cls := "SkyTrial$People", name := "setTrait", desc := "(III)V" } : Jvm.MethodName)) ∈ gTBL := tIn3 102 (by decide +kernel) rfl
theorem ww583 : (Cond.selects "SkyTrial$People" ({ cls := "SkyTrial$People", name := "setTrait", desc := "(III)V" } : Jvm.MethodName) ({ cls := "SkyTrial$People", name := "setTrait", desc := "(III)V" } : Jvm.MethodName)) ∈ gTBL := tIn3 103 (by decide +kernel) rfl
theorem ww584 : (Cond.code ({ cls := "SkyTrial$People", name := "setTrait", desc := "(III)V" } : Jvm.MethodName) prog_4_method_4_code (4 : Nat) (Option.none : Option Jvm.ClassFile.FieldType)) ∈ gTBL := tIn3 104 (by decide +kernel) rfl
theorem ww586 : (Cond.methodLink "SkyTrial" (96 : Nat) ({ cls := "SkyTrial$People", name := "setWays", desc := "(II)V" } : Jvm.MethodName)) ∈ gTBL := tIn3 106 (by decide +kernel) rfl
theorem ww587 : (Cond.instanceMethod ({ cls := "SkyTrial$People", name := "setWays", desc := "(II)V" } : Jvm.MethodName)) ∈ gTBL := tIn3 107 (by decide +kernel) rfl
theorem ww588 : (Cond.selects "SkyTrial$People" ({ cls := "SkyTrial$People", name := "setWays", desc := "(II)V" } : Jvm.MethodName) ({ cls := "SkyTrial$People", name := "setWays", desc := "(II)V" } : Jvm.MethodName)) ∈ gTBL := tIn3 108 (by decide +kernel) rfl
theorem ww589 : (Cond.code ({ cls := "SkyTrial$People", name := "setWays", desc := "(II)V" } : Jvm.MethodName) prog_4_method_5_code (5 : Nat) (Option.none : Option Jvm.ClassFile.FieldType)) ∈ gTBL := tIn3 109 (by decide +kernel) rfl
theorem ww590 : (Cond.methodLink "SkyTrial$People" (23 : Nat) ({ cls := "SkyTrial$People", name := "setTrait", desc := "(III)V" } : Jvm.MethodName)) ∈ gTBL := tIn3 110 (by decide +kernel) rfl
theorem ww595 : (Cond.methodLink "SkyTrial" (100 : Nat) ({ cls := "SkyTrial$People", name := "draw", desc := "(II)V" } : Jvm.MethodName)) ∈ gTBL := tIn3 115 (by decide +kernel) rfl
theorem ww596 : (Cond.instanceMethod ({ cls := "SkyTrial$People", name := "draw", desc := "(II)V" } : Jvm.MethodName)) ∈ gTBL := tIn3 116 (by decide +kernel) rfl
theorem ww597 : (Cond.selects "SkyTrial$People" ({ cls := "SkyTrial$People", name := "draw", desc := "(II)V" } : Jvm.MethodName) ({ cls := "SkyTrial$People", name := "draw", desc := "(II)V" } : Jvm.MethodName)) ∈ gTBL := tIn3 117 (by decide +kernel) rfl
theorem ww598 : (Cond.code ({ cls := "SkyTrial$People", name := "draw", desc := "(II)V" } : Jvm.MethodName) prog_4_method_6_code (4 : Nat) (Option.none : Option Jvm.ClassFile.FieldType)) ∈ gTBL := tIn3 118 (by decide +kernel) rfl
theorem ww601 : (Cond.methodLink "SkyTrial$People" (30 : Nat) ({ cls := "SkyTrial$People", name := "lot", desc := "(III)I" } : Jvm.MethodName)) ∈ gTBL := tIn3 121 (by decide +kernel) rfl
theorem ww602 : (Cond.static ({ cls := "SkyTrial$People", name := "lot", desc := "(III)I" } : Jvm.MethodName)) ∈ gTBL := tIn3 122 (by decide +kernel) rfl
theorem ww603 : (Cond.code ({ cls := "SkyTrial$People", name := "lot", desc := "(III)I" } : Jvm.MethodName) prog_4_method_11_code (4 : Nat) (Option.some Jvm.ClassFile.FieldType.int)) ∈ gTBL := tIn3 123 (by decide +kernel) rfl
theorem ww604 : (Cond.methodLink "SkyTrial$People" (41 : Nat) ({ cls := "SkyTrial$People", name := "mix", desc := "(II)I" } : Jvm.MethodName)) ∈ gTBL := tIn3 124 (by decide +kernel) rfl
theorem ww605 : (Cond.static ({ cls := "SkyTrial$People", name := "mix", desc := "(II)I" } : Jvm.MethodName)) ∈ gTBL := tIn3 125 (by decide +kernel) rfl
theorem ww606 : (Cond.code ({ cls := "SkyTrial$People", name := "mix", desc := "(II)I" } : Jvm.MethodName) prog_4_method_12_code (3 : Nat) (Option.some Jvm.ClassFile.FieldType.int)) ∈ gTBL := tIn3 126 (by decide +kernel) rfl
theorem ww607 : (Cond.constant "SkyTrial$People" (44 : Nat) (1103515245 : Int32)) ∈ gTBL := tIn3 127 (by decide +kernel) rfl
theorem ww608 : (Cond.methodLink "SkyTrial" (103 : Nat) ({ cls := "SkyTrial$Sky", name := "markBySigns", desc := "(III)V" } : Jvm.MethodName)) ∈ gTBL := tIn3 128 (by decide +kernel) rfl
theorem ww609 : (Cond.instanceMethod ({ cls := "SkyTrial$Sky", name := "markBySigns", desc := "(III)V" } : Jvm.MethodName)) ∈ gTBL := tIn3 129 (by decide +kernel) rfl
theorem ww610 : (Cond.selects "SkyTrial$Sky" ({ cls := "SkyTrial$Sky", name := "markBySigns", desc := "(III)V" } : Jvm.MethodName) ({ cls := "SkyTrial$Sky", name := "markBySigns", desc := "(III)V" } : Jvm.MethodName)) ∈ gTBL := tIn3 130 (by decide +kernel) rfl
theorem ww611 : (Cond.code ({ cls := "SkyTrial$Sky", name := "markBySigns", desc := "(III)V" } : Jvm.MethodName) prog_6_method_6_code (6 : Nat) (Option.none : Option Jvm.ClassFile.FieldType)) ∈ gTBL := tIn3 131 (by decide +kernel) rfl
theorem ww612 : (Cond.methodLink "SkyTrial$Sky" (45 : Nat) ({ cls := "SkyTrial$Sky", name := "setPerson", desc := "(I)V" } : Jvm.MethodName)) ∈ gTBL := tIn3 132 (by decide +kernel) rfl
theorem ww614 : (Cond.instanceMethod ({ cls := "SkyTrial$Sky", name := "setPerson", desc := "(I)V" } : Jvm.MethodName)) ∈ gTBL := tIn3 134 (by decide +kernel) rfl
theorem ww615 : (Cond.code ({ cls := "SkyTrial$Sky", name := "setPerson", desc := "(I)V" } : Jvm.MethodName) prog_6_method_16_code (3 : Nat) (Option.none : Option Jvm.ClassFile.FieldType)) ∈ gTBL := tIn3 135 (by decide +kernel) rfl
theorem ww616 : (Cond.methodLink "SkyTrial$Sky" (59 : Nat) ({ cls := "SkyTrial$People", name := "trait", desc := "(II)I" } : Jvm.MethodName)) ∈ gTBL := tIn3 136 (by decide +kernel) rfl
theorem ww617 : (Cond.instanceMethod ({ cls := "SkyTrial$People", name := "trait", desc := "(II)I" } : Jvm.MethodName)) ∈ gTBL := tIn3 137 (by decide +kernel) rfl
theorem ww618 : (Cond.selects "SkyTrial$People" ({ cls := "SkyTrial$People", name := "trait", desc := "(II)I" } : Jvm.MethodName) ({ cls := "SkyTrial$People", name := "trait", desc := "(II)I" } : Jvm.MethodName)) ∈ gTBL := tIn3 138 (by decide +kernel) rfl
theorem ww619 : (Cond.code ({ cls := "SkyTrial$People", name := "trait", desc := "(II)I" } : Jvm.MethodName) prog_4_method_3_code (3 : Nat) (Option.some Jvm.ClassFile.FieldType.int)) ∈ gTBL := tIn3 139 (by decide +kernel) rfl
theorem ww620 : (Cond.methodLink "SkyTrial$Sky" (68 : Nat) ({ cls := "SkyTrial$Reckoner", name := "valueOf", desc := "(LSkyTrial$Told;I)I" } : Jvm.MethodName)) ∈ gTBL := tIn3 140 (by decide +kernel) rfl
theorem ww621 : (Cond.instanceMethod ({ cls := "SkyTrial$Reckoner", name := "valueOf", desc := "(LSkyTrial$Told;I)I" } : Jvm.MethodName)) ∈ gTBL := tIn3 141 (by decide +kernel) rfl
theorem ww622 : (Cond.selects "SkyTrial$Reckoner" ({ cls := "SkyTrial$Reckoner", name := "valueOf", desc := "(LSkyTrial$Told;I)I" } : Jvm.MethodName) ({ cls := "SkyTrial$Reckoner", name := "valueOf", desc := "(LSkyTrial$Told;I)I" } : Jvm.MethodName)) ∈ gTBL := tIn3 142 (by decide +kernel) rfl
theorem ww623 : (Cond.code ({ cls := "SkyTrial$Reckoner", name := "valueOf", desc := "(LSkyTrial$Told;I)I" } : Jvm.MethodName) prog_5_method_2_code (5 : Nat) (Option.some Jvm.ClassFile.FieldType.int)) ∈ gTBL := tIn3 143 (by decide +kernel) rfl
theorem ww625 : (Cond.methodLink "SkyTrial$Reckoner" (34 : Nat) ({ cls := "java/lang/Math", name := "min", desc := "(II)I" } : Jvm.MethodName)) ∈ gTBL := tIn3 145 (by decide +kernel) rfl
theorem ww626 : (Cond.static ({ cls := "java/lang/Math", name := "min", desc := "(II)I" } : Jvm.MethodName)) ∈ gTBL := tIn3 146 (by decide +kernel) rfl
theorem ww627 : (Cond.code ({ cls := "java/lang/Math", name := "min", desc := "(II)I" } : Jvm.MethodName) prog_16_method_69_code (2 : Nat) (Option.some Jvm.ClassFile.FieldType.int)) ∈ gTBL := tIn3 147 (by decide +kernel) rfl
theorem ww628 : (Cond.methodLink "SkyTrial$Reckoner" (43 : Nat) ({ cls := "java/lang/Math", name := "max", desc := "(II)I" } : Jvm.MethodName)) ∈ gTBL := tIn3 148 (by decide +kernel) rfl
theorem ww629 : (Cond.static ({ cls := "java/lang/Math", name := "max", desc := "(II)I" } : Jvm.MethodName)) ∈ gTBL := tIn3 149 (by decide +kernel) rfl
theorem ww630 : (Cond.code ({ cls := "java/lang/Math", name := "max", desc := "(II)I" } : Jvm.MethodName) prog_16_method_65_code (2 : Nat) (Option.some Jvm.ClassFile.FieldType.int)) ∈ gTBL := tIn3 150 (by decide +kernel) rfl
theorem ww631 : (Cond.methodLink "SkyTrial$Reckoner" (52 : Nat) ({ cls := "SkyTrial$Reckoner", name := "step", desc := "(II)V" } : Jvm.MethodName)) ∈ gTBL := tIn3 151 (by decide +kernel) rfl
theorem ww633 : (Cond.instanceMethod ({ cls := "SkyTrial$Reckoner", name := "step", desc := "(II)V" } : Jvm.MethodName)) ∈ gTBL := tIn3 153 (by decide +kernel) rfl
theorem ww634 : (Cond.code ({ cls := "SkyTrial$Reckoner", name := "step", desc := "(II)V" } : Jvm.MethodName) prog_5_method_3_code (5 : Nat) (Option.none : Option Jvm.ClassFile.FieldType)) ∈ gTBL := tIn3 154 (by decide +kernel) rfl
theorem ww635 : (Cond.methodLink "SkyTrial$Reckoner" (60 : Nat) ({ cls := "SkyTrial$Reckoner", name := "push", desc := "(I)V" } : Jvm.MethodName)) ∈ gTBL := tIn3 155 (by decide +kernel) rfl
theorem ww637 : (Cond.instanceMethod ({ cls := "SkyTrial$Reckoner", name := "push", desc := "(I)V" } : Jvm.MethodName)) ∈ gTBL := tIn3 157 (by decide +kernel) rfl
theorem ww638 : (Cond.code ({ cls := "SkyTrial$Reckoner", name := "push", desc := "(I)V" } : Jvm.MethodName) prog_5_method_5_code (2 : Nat) (Option.none : Option Jvm.ClassFile.FieldType)) ∈ gTBL := tIn3 158 (by decide +kernel) rfl
theorem ww639 : (Cond.methodLink "SkyTrial$Reckoner" (56 : Nat) ({ cls := "SkyTrial$Reckoner", name := "pop", desc := "()I" } : Jvm.MethodName)) ∈ gTBL := tIn3 159 (by decide +kernel) rfl
theorem ww641 : (Cond.instanceMethod ({ cls := "SkyTrial$Reckoner", name := "pop", desc := "()I" } : Jvm.MethodName)) ∈ gTBL := tIn3 161 (by decide +kernel) rfl
theorem ww642 : (Cond.code ({ cls := "SkyTrial$Reckoner", name := "pop", desc := "()I" } : Jvm.MethodName) prog_5_method_6_code (1 : Nat) (Option.some Jvm.ClassFile.FieldType.int)) ∈ gTBL := tIn3 162 (by decide +kernel) rfl
theorem ww643 : (Cond.methodLink "SkyTrial$Reckoner" (64 : Nat) ({ cls := "SkyTrial$Reckoner", name := "joined", desc := "(III)I" } : Jvm.MethodName)) ∈ gTBL := tIn3 163 (by decide +kernel) rfl
theorem ww644 : (Cond.static ({ cls := "SkyTrial$Reckoner", name := "joined", desc := "(III)I" } : Jvm.MethodName)) ∈ gTBL := tIn3 164 (by decide +kernel) rfl
theorem ww645 : (Cond.code ({ cls := "SkyTrial$Reckoner", name := "joined", desc := "(III)I" } : Jvm.MethodName) prog_5_method_4_code (3 : Nat) (Option.some Jvm.ClassFile.FieldType.int)) ∈ gTBL := tIn3 165 (by decide +kernel) rfl
theorem ww646 : (Cond.methodLink "SkyTrial$Sky" (72 : Nat) ({ cls := "SkyTrial$People", name := "lot", desc := "(III)I" } : Jvm.MethodName)) ∈ gTBL := tIn3 166 (by decide +kernel) rfl
theorem ww647 : (Cond.methodLink "SkyTrial$Sky" (76 : Nat) ({ cls := "SkyTrial$People", name := "setTrait", desc := "(III)V" } : Jvm.MethodName)) ∈ gTBL := tIn3 167 (by decide +kernel) rfl
theorem ww652 : (Cond.methodLink "SkyTrial" (106 : Nat) ({ cls := "SkyTrial$People", name := "has", desc := "(I)Z" } : Jvm.MethodName)) ∈ gTBL := tIn3 172 (by decide +kernel) rfl
theorem ww653 : (Cond.instanceMethod ({ cls := "SkyTrial$People", name := "has", desc := "(I)Z" } : Jvm.MethodName)) ∈ gTBL := tIn3 173 (by decide +kernel) rfl
theorem ww654 : (Cond.selects "SkyTrial$People" ({ cls := "SkyTrial$People", name := "has", desc := "(I)Z" } : Jvm.MethodName) ({ cls := "SkyTrial$People", name := "has", desc := "(I)Z" } : Jvm.MethodName)) ∈ gTBL := tIn3 174 (by decide +kernel) rfl
theorem ww655 : (Cond.code ({ cls := "SkyTrial$People", name := "has", desc := "(I)Z" } : Jvm.MethodName) prog_4_method_2_code (2 : Nat) (Option.some Jvm.ClassFile.FieldType.boolean)) ∈ gTBL := tIn3 175 (by decide +kernel) rfl
theorem ww656 : (Cond.methodLink "SkyTrial" (110 : Nat) ({ cls := "SkyTrial$People", name := "trait", desc := "(II)I" } : Jvm.MethodName)) ∈ gTBL := tIn3 176 (by decide +kernel) rfl
theorem ww661 : (Cond.methodLink "SkyTrial" (114 : Nat) ({ cls := "SkyTrial$Sky", name := "upAt", desc := "(II)I" } : Jvm.MethodName)) ∈ gTBL := tIn3 181 (by decide +kernel) rfl
theorem ww662 : (Cond.instanceMethod ({ cls := "SkyTrial$Sky", name := "upAt", desc := "(II)I" } : Jvm.MethodName)) ∈ gTBL := tIn3 182 (by decide +kernel) rfl
theorem ww663 : (Cond.selects "SkyTrial$Sky" ({ cls := "SkyTrial$Sky", name := "upAt", desc := "(II)I" } : Jvm.MethodName) ({ cls := "SkyTrial$Sky", name := "upAt", desc := "(II)I" } : Jvm.MethodName)) ∈ gTBL := tIn3 183 (by decide +kernel) rfl
theorem ww664 : (Cond.code ({ cls := "SkyTrial$Sky", name := "upAt", desc := "(II)I" } : Jvm.MethodName) prog_6_method_4_code (3 : Nat) (Option.some Jvm.ClassFile.FieldType.int)) ∈ gTBL := tIn3 184 (by decide +kernel) rfl
theorem ww665 : (Cond.methodLink "SkyTrial$Sky" (52 : Nat) ({ cls := "SkyTrial$Sky", name := "bitsOf", desc := "(II)I" } : Jvm.MethodName)) ∈ gTBL := tIn3 185 (by decide +kernel) rfl
theorem ww667 : (Cond.instanceMethod ({ cls := "SkyTrial$Sky", name := "bitsOf", desc := "(II)I" } : Jvm.MethodName)) ∈ gTBL := tIn3 187 (by decide +kernel) rfl
theorem ww668 : (Cond.code ({ cls := "SkyTrial$Sky", name := "bitsOf", desc := "(II)I" } : Jvm.MethodName) prog_6_method_17_code (5 : Nat) (Option.some Jvm.ClassFile.FieldType.int)) ∈ gTBL := tIn3 188 (by decide +kernel) rfl
theorem ww673 : (Cond.methodLink "SkyTrial" (117 : Nat) ({ cls := "SkyTrial", name := "isStep", desc := "(I)Z" } : Jvm.MethodName)) ∈ gTBL := tIn3 193 (by decide +kernel) rfl
theorem ww674 : (Cond.static ({ cls := "SkyTrial", name := "isStep", desc := "(I)Z" } : Jvm.MethodName)) ∈ gTBL := tIn3 194 (by decide +kernel) rfl
theorem ww675 : (Cond.code ({ cls := "SkyTrial", name := "isStep", desc := "(I)Z" } : Jvm.MethodName) prog_1_method_45_code (1 : Nat) (Option.some Jvm.ClassFile.FieldType.boolean)) ∈ gTBL := tIn3 195 (by decide +kernel) rfl
theorem ww676 : (Cond.methodLink "SkyTrial" (120 : Nat) ({ cls := "SkyTrial", name := "roundedMinute", desc := "(II)I" } : Jvm.MethodName)) ∈ gTBL := tIn3 196 (by decide +kernel) rfl
theorem ww678 : (Cond.instanceMethod ({ cls := "SkyTrial", name := "roundedMinute", desc := "(II)I" } : Jvm.MethodName)) ∈ gTBL := tIn3 198 (by decide +kernel) rfl
theorem ww679 : (Cond.code ({ cls := "SkyTrial", name := "roundedMinute", desc := "(II)I" } : Jvm.MethodName) prog_1_method_50_code (4 : Nat) (Option.some Jvm.ClassFile.FieldType.int)) ∈ gTBL := tIn3 199 (by decide +kernel) rfl
theorem ww684 : (Cond.methodLink "SkyTrial" (123 : Nat) ({ cls := "java/lang/Math", name := "floorMod", desc := "(II)I" } : Jvm.MethodName)) ∈ gTBL := tIn3 204 (by decide +kernel) rfl
theorem ww685 : (Cond.static ({ cls := "java/lang/Math", name := "floorMod", desc := "(II)I" } : Jvm.MethodName)) ∈ gTBL := tIn3 205 (by decide +kernel) rfl
theorem ww686 : (Cond.code ({ cls := "java/lang/Math", name := "floorMod", desc := "(II)I" } : Jvm.MethodName) prog_16_method_50_code (3 : Nat) (Option.some Jvm.ClassFile.FieldType.int)) ∈ gTBL := tIn3 206 (by decide +kernel) rfl
theorem ww691 : (Cond.methodLink "SkyTrial" (128 : Nat) ({ cls := "SkyTrial", name := "isSentence", desc := "(I)Z" } : Jvm.MethodName)) ∈ gTBL := tIn3 211 (by decide +kernel) rfl
theorem ww693 : (Cond.instanceMethod ({ cls := "SkyTrial", name := "isSentence", desc := "(I)Z" } : Jvm.MethodName)) ∈ gTBL := tIn3 213 (by decide +kernel) rfl
theorem ww694 : (Cond.code ({ cls := "SkyTrial", name := "isSentence", desc := "(I)Z" } : Jvm.MethodName) prog_1_method_47_code (2 : Nat) (Option.some Jvm.ClassFile.FieldType.boolean)) ∈ gTBL := tIn3 214 (by decide +kernel) rfl
theorem ww695 : (Cond.methodLink "SkyTrial" (131 : Nat) ({ cls := "SkyTrial$Sky", name := "trueOf", desc := "(I)I" } : Jvm.MethodName)) ∈ gTBL := tIn3 215 (by decide +kernel) rfl
theorem ww696 : (Cond.instanceMethod ({ cls := "SkyTrial$Sky", name := "trueOf", desc := "(I)I" } : Jvm.MethodName)) ∈ gTBL := tIn3 216 (by decide +kernel) rfl
theorem ww697 : (Cond.selects "SkyTrial$Sky" ({ cls := "SkyTrial$Sky", name := "trueOf", desc := "(I)I" } : Jvm.MethodName) ({ cls := "SkyTrial$Sky", name := "trueOf", desc := "(I)I" } : Jvm.MethodName)) ∈ gTBL := tIn3 217 (by decide +kernel) rfl
theorem ww698 : (Cond.code ({ cls := "SkyTrial$Sky", name := "trueOf", desc := "(I)I" } : Jvm.MethodName) prog_6_method_5_code (2 : Nat) (Option.some Jvm.ClassFile.FieldType.int)) ∈ gTBL := tIn3 218 (by decide +kernel) rfl
theorem ww699 : (Cond.methodLink "SkyTrial" (135 : Nat) ({ cls := "SkyTrial", name := "bitOf", desc := "(II)I" } : Jvm.MethodName)) ∈ gTBL := tIn3 219 (by decide +kernel) rfl
theorem ww700 : (Cond.static ({ cls := "SkyTrial", name := "bitOf", desc := "(II)I" } : Jvm.MethodName)) ∈ gTBL := tIn3 220 (by decide +kernel) rfl
theorem ww701 : (Cond.code ({ cls := "SkyTrial", name := "bitOf", desc := "(II)I" } : Jvm.MethodName) prog_1_method_44_code (2 : Nat) (Option.some Jvm.ClassFile.FieldType.int)) ∈ gTBL := tIn3 221 (by decide +kernel) rfl
theorem ww710 : (Cond.methodLink "SkyTrial" (144 : Nat) ({ cls := "SkyTrial", name := "isBook", desc := "(I)Z" } : Jvm.MethodName)) ∈ gTBL := tIn3 230 (by decide +kernel) rfl
theorem ww712 : (Cond.instanceMethod ({ cls := "SkyTrial", name := "isBook", desc := "(I)Z" } : Jvm.MethodName)) ∈ gTBL := tIn3 232 (by decide +kernel) rfl
theorem ww713 : (Cond.code ({ cls := "SkyTrial", name := "isBook", desc := "(I)Z" } : Jvm.MethodName) prog_1_method_48_code (2 : Nat) (Option.some Jvm.ClassFile.FieldType.boolean)) ∈ gTBL := tIn3 233 (by decide +kernel) rfl
theorem ww714 : (Cond.methodLink "SkyTrial" (147 : Nat) ({ cls := "SkyTrial$Sky", name := "upNow", desc := "(I)I" } : Jvm.MethodName)) ∈ gTBL := tIn3 234 (by decide +kernel) rfl
theorem ww715 : (Cond.instanceMethod ({ cls := "SkyTrial$Sky", name := "upNow", desc := "(I)I" } : Jvm.MethodName)) ∈ gTBL := tIn3 235 (by decide +kernel) rfl
theorem ww716 : (Cond.selects "SkyTrial$Sky" ({ cls := "SkyTrial$Sky", name := "upNow", desc := "(I)I" } : Jvm.MethodName) ({ cls := "SkyTrial$Sky", name := "upNow", desc := "(I)I" } : Jvm.MethodName)) ∈ gTBL := tIn3 236 (by decide +kernel) rfl
theorem ww717 : (Cond.code ({ cls := "SkyTrial$Sky", name := "upNow", desc := "(I)I" } : Jvm.MethodName) prog_6_method_3_code (2 : Nat) (Option.some Jvm.ClassFile.FieldType.int)) ∈ gTBL := tIn3 237 (by decide +kernel) rfl
theorem ww718 : (Cond.methodLink "SkyTrial$Sky" (62 : Nat) ({ cls := "SkyTrial$Sky", name := "upAt", desc := "(II)I" } : Jvm.MethodName)) ∈ gTBL := tIn3 238 (by decide +kernel) rfl
theorem ww719 : (Cond.methodLink "SkyTrial" (150 : Nat) ({ cls := "SkyTrial$Told", name := "paperOf", desc := "(II)I" } : Jvm.MethodName)) ∈ gTBL := tIn3 239 (by decide +kernel) rfl
theorem ww720 : (Cond.instanceMethod ({ cls := "SkyTrial$Told", name := "paperOf", desc := "(II)I" } : Jvm.MethodName)) ∈ gTBL := tIn4 0 (by decide +kernel) rfl
theorem ww721 : (Cond.selects "SkyTrial$Told" ({ cls := "SkyTrial$Told", name := "paperOf", desc := "(II)I" } : Jvm.MethodName) ({ cls := "SkyTrial$Told", name := "paperOf", desc := "(II)I" } : Jvm.MethodName)) ∈ gTBL := tIn4 1 (by decide +kernel) rfl
theorem ww722 : (Cond.code ({ cls := "SkyTrial$Told", name := "paperOf", desc := "(II)I" } : Jvm.MethodName) prog_11_method_8_code (5 : Nat) (Option.some Jvm.ClassFile.FieldType.int)) ∈ gTBL := tIn4 2 (by decide +kernel) rfl
theorem ww732 : (Cond.methodLink "SkyTrial" (153 : Nat) ({ cls := "SkyTrial$Sky", name := "survey", desc := "()V" } : Jvm.MethodName)) ∈ gTBL := tIn4 12 (by decide +kernel) rfl
theorem ww733 : (Cond.instanceMethod ({ cls := "SkyTrial$Sky", name := "survey", desc := "()V" } : Jvm.MethodName)) ∈ gTBL := tIn4 13 (by decide +kernel) rfl
theorem ww734 : (Cond.selects "SkyTrial$Sky" ({ cls := "SkyTrial$Sky", name := "survey", desc := "()V" } : Jvm.MethodName) ({ cls := "SkyTrial$Sky", name := "survey", desc := "()V" } : Jvm.MethodName)) ∈ gTBL := tIn4 14 (by decide +kernel) rfl
theorem ww735 : (Cond.code ({ cls := "SkyTrial$Sky", name := "survey", desc := "()V" } : Jvm.MethodName) prog_6_method_2_code (2 : Nat) (Option.none : Option Jvm.ClassFile.FieldType)) ∈ gTBL := tIn4 15 (by decide +kernel) rfl
theorem ww740 : (Cond.methodLink "SkyTrial" (165 : Nat) ({ cls := "SkyTrial$Sky", name := "howManyTrue", desc := "(I)I" } : Jvm.MethodName)) ∈ gTBL := tIn4 20 (by decide +kernel) rfl
theorem ww741 : (Cond.instanceMethod ({ cls := "SkyTrial$Sky", name := "howManyTrue", desc := "(I)I" } : Jvm.MethodName)) ∈ gTBL := tIn4 21 (by decide +kernel) rfl
theorem ww742 : (Cond.selects "SkyTrial$Sky" ({ cls := "SkyTrial$Sky", name := "howManyTrue", desc := "(I)I" } : Jvm.MethodName) ({ cls := "SkyTrial$Sky", name := "howManyTrue", desc := "(I)I" } : Jvm.MethodName)) ∈ gTBL := tIn4 22 (by decide +kernel) rfl
theorem ww743 : (Cond.code ({ cls := "SkyTrial$Sky", name := "howManyTrue", desc := "(I)I" } : Jvm.MethodName) prog_6_method_7_code (4 : Nat) (Option.some Jvm.ClassFile.FieldType.int)) ∈ gTBL := tIn4 23 (by decide +kernel) rfl
theorem ww749 : (Cond.methodLink "SkyTrial" (168 : Nat) ({ cls := "SkyTrial", name := "isLaw", desc := "(I)Z" } : Jvm.MethodName)) ∈ gTBL := tIn4 29 (by decide +kernel) rfl
theorem ww751 : (Cond.instanceMethod ({ cls := "SkyTrial", name := "isLaw", desc := "(I)Z" } : Jvm.MethodName)) ∈ gTBL := tIn4 31 (by decide +kernel) rfl
theorem ww752 : (Cond.code ({ cls := "SkyTrial", name := "isLaw", desc := "(I)Z" } : Jvm.MethodName) prog_1_method_49_code (2 : Nat) (Option.some Jvm.ClassFile.FieldType.boolean)) ∈ gTBL := tIn4 32 (by decide +kernel) rfl
theorem ww753 : (Cond.constant "SkyTrial" (171 : Nat) (-2147483648 : Int32)) ∈ gTBL := tIn4 33 (by decide +kernel) rfl
theorem ww754 : (Cond.methodLink "SkyTrial" (172 : Nat) ({ cls := "SkyTrial$Told", name := "withoutSorts", desc := "(II)I" } : Jvm.MethodName)) ∈ gTBL := tIn4 34 (by decide +kernel) rfl
theorem ww755 : (Cond.instanceMethod ({ cls := "SkyTrial$Told", name := "withoutSorts", desc := "(II)I" } : Jvm.MethodName)) ∈ gTBL := tIn4 35 (by decide +kernel) rfl
theorem ww756 : (Cond.selects "SkyTrial$Told" ({ cls := "SkyTrial$Told", name := "withoutSorts", desc := "(II)I" } : Jvm.MethodName) ({ cls := "SkyTrial$Told", name := "withoutSorts", desc := "(II)I" } : Jvm.MethodName)) ∈ gTBL := tIn4 36 (by decide +kernel) rfl
theorem ww757 : (Cond.code ({ cls := "SkyTrial$Told", name := "withoutSorts", desc := "(II)I" } : Jvm.MethodName) prog_11_method_9_code (5 : Nat) (Option.some Jvm.ClassFile.FieldType.int)) ∈ gTBL := tIn4 37 (by decide +kernel) rfl
theorem ww758 : (Cond.methodLink "SkyTrial" (175 : Nat) ({ cls := "SkyTrial$Sky", name := "fitOf", desc := "(III)I" } : Jvm.MethodName)) ∈ gTBL := tIn4 38 (by decide +kernel) rfl
theorem ww759 : (Cond.instanceMethod ({ cls := "SkyTrial$Sky", name := "fitOf", desc := "(III)I" } : Jvm.MethodName)) ∈ gTBL := tIn4 39 (by decide +kernel) rfl
theorem ww760 : (Cond.selects "SkyTrial$Sky" ({ cls := "SkyTrial$Sky", name := "fitOf", desc := "(III)I" } : Jvm.MethodName) ({ cls := "SkyTrial$Sky", name := "fitOf", desc := "(III)I" } : Jvm.MethodName)) ∈ gTBL := tIn4 40 (by decide +kernel) rfl
theorem ww761 : (Cond.code ({ cls := "SkyTrial$Sky", name := "fitOf", desc := "(III)I" } : Jvm.MethodName) prog_6_method_8_code (5 : Nat) (Option.some Jvm.ClassFile.FieldType.int)) ∈ gTBL := tIn4 41 (by decide +kernel) rfl
theorem ww766 : (Cond.methodLink "SkyTrial" (179 : Nat) ({ cls := "SkyTrial$Sky", name := "sixthsOf", desc := "(IIIII)I" } : Jvm.MethodName)) ∈ gTBL := tIn4 46 (by decide +kernel) rfl
theorem ww767 : (Cond.instanceMethod ({ cls := "SkyTrial$Sky", name := "sixthsOf", desc := "(IIIII)I" } : Jvm.MethodName)) ∈ gTBL := tIn4 47 (by decide +kernel) rfl
theorem ww768 : (Cond.selects "SkyTrial$Sky" ({ cls := "SkyTrial$Sky", name := "sixthsOf", desc := "(IIIII)I" } : Jvm.MethodName) ({ cls := "SkyTrial$Sky", name := "sixthsOf", desc := "(IIIII)I" } : Jvm.MethodName)) ∈ gTBL := tIn4 48 (by decide +kernel) rfl
theorem ww769 : (Cond.code ({ cls := "SkyTrial$Sky", name := "sixthsOf", desc := "(IIIII)I" } : Jvm.MethodName) prog_6_method_11_code (6 : Nat) (Option.some Jvm.ClassFile.FieldType.int)) ∈ gTBL := tIn4 49 (by decide +kernel) rfl
theorem ww770 : (Cond.methodLink "SkyTrial$Sky" (92 : Nat) ({ cls := "SkyTrial$Sky", name := "weigh", desc := "(IIII)I" } : Jvm.MethodName)) ∈ gTBL := tIn4 50 (by decide +kernel) rfl
theorem ww771 : (Cond.instanceMethod ({ cls := "SkyTrial$Sky", name := "weigh", desc := "(IIII)I" } : Jvm.MethodName)) ∈ gTBL := tIn4 51 (by decide +kernel) rfl
theorem ww772 : (Cond.selects "SkyTrial$Sky" ({ cls := "SkyTrial$Sky", name := "weigh", desc := "(IIII)I" } : Jvm.MethodName) ({ cls := "SkyTrial$Sky", name := "weigh", desc := "(IIII)I" } : Jvm.MethodName)) ∈ gTBL := tIn4 52 (by decide +kernel) rfl
theorem ww773 : (Cond.code ({ cls := "SkyTrial$Sky", name := "weigh", desc := "(IIII)I" } : Jvm.MethodName) prog_6_method_9_code (5 : Nat) (Option.some Jvm.ClassFile.FieldType.int)) ∈ gTBL := tIn4 53 (by decide +kernel) rfl
theorem ww774 : (Cond.methodLink "SkyTrial$Sky" (86 : Nat) ({ cls := "SkyTrial$Told", name := "paperOf", desc := "(II)I" } : Jvm.MethodName)) ∈ gTBL := tIn4 54 (by decide +kernel) rfl
theorem ww775 : (Cond.methodLink "SkyTrial$Sky" (89 : Nat) ({ cls := "SkyTrial$Sky", name := "fitOf", desc := "(III)I" } : Jvm.MethodName)) ∈ gTBL := tIn4 55 (by decide +kernel) rfl
theorem ww776 : (Cond.methodLink "SkyTrial$Sky" (96 : Nat) ({ cls := "SkyTrial$Sky", name := "sixths", desc := "(III)I" } : Jvm.MethodName)) ∈ gTBL := tIn4 56 (by decide +kernel) rfl
theorem ww778 : (Cond.instanceMethod ({ cls := "SkyTrial$Sky", name := "sixths", desc := "(III)I" } : Jvm.MethodName)) ∈ gTBL := tIn4 58 (by decide +kernel) rfl
theorem ww779 : (Cond.code ({ cls := "SkyTrial$Sky", name := "sixths", desc := "(III)I" } : Jvm.MethodName) prog_6_method_15_code (5 : Nat) (Option.some Jvm.ClassFile.FieldType.int)) ∈ gTBL := tIn4 59 (by decide +kernel) rfl
theorem ww784 : (Cond.methodLink "SkyTrial" (183 : Nat) ({ cls := "SkyTrial$People", name := "firstGiven", desc := "(II)I" } : Jvm.MethodName)) ∈ gTBL := tIn4 64 (by decide +kernel) rfl
theorem ww785 : (Cond.instanceMethod ({ cls := "SkyTrial$People", name := "firstGiven", desc := "(II)I" } : Jvm.MethodName)) ∈ gTBL := tIn4 65 (by decide +kernel) rfl
theorem ww786 : (Cond.selects "SkyTrial$People" ({ cls := "SkyTrial$People", name := "firstGiven", desc := "(II)I" } : Jvm.MethodName) ({ cls := "SkyTrial$People", name := "firstGiven", desc := "(II)I" } : Jvm.MethodName)) ∈ gTBL := tIn4 66 (by decide +kernel) rfl
theorem ww787 : (Cond.code ({ cls := "SkyTrial$People", name := "firstGiven", desc := "(II)I" } : Jvm.MethodName) prog_4_method_8_code (3 : Nat) (Option.some Jvm.ClassFile.FieldType.int)) ∈ gTBL := tIn4 67 (by decide +kernel) rfl
theorem ww788 : (Cond.methodLink "SkyTrial$People" (38 : Nat) ({ cls := "SkyTrial$People", name := "nthOther", desc := "(III)I" } : Jvm.MethodName)) ∈ gTBL := tIn4 68 (by decide +kernel) rfl
theorem ww790 : (Cond.instanceMethod ({ cls := "SkyTrial$People", name := "nthOther", desc := "(III)I" } : Jvm.MethodName)) ∈ gTBL := tIn4 70 (by decide +kernel) rfl
theorem ww791 : (Cond.code ({ cls := "SkyTrial$People", name := "nthOther", desc := "(III)I" } : Jvm.MethodName) prog_4_method_10_code (6 : Nat) (Option.some Jvm.ClassFile.FieldType.int)) ∈ gTBL := tIn4 71 (by decide +kernel) rfl
theorem ww792 : (Cond.methodLink "SkyTrial" (186 : Nat) ({ cls := "SkyTrial$People", name := "secondGiven", desc := "(III)I" } : Jvm.MethodName)) ∈ gTBL := tIn4 72 (by decide +kernel) rfl
theorem ww793 : (Cond.instanceMethod ({ cls := "SkyTrial$People", name := "secondGiven", desc := "(III)I" } : Jvm.MethodName)) ∈ gTBL := tIn4 73 (by decide +kernel) rfl
theorem ww794 : (Cond.selects "SkyTrial$People" ({ cls := "SkyTrial$People", name := "secondGiven", desc := "(III)I" } : Jvm.MethodName) ({ cls := "SkyTrial$People", name := "secondGiven", desc := "(III)I" } : Jvm.MethodName)) ∈ gTBL := tIn4 74 (by decide +kernel) rfl
theorem ww795 : (Cond.code ({ cls := "SkyTrial$People", name := "secondGiven", desc := "(III)I" } : Jvm.MethodName) prog_4_method_9_code (4 : Nat) (Option.some Jvm.ClassFile.FieldType.int)) ∈ gTBL := tIn4 75 (by decide +kernel) rfl
theorem ww804 : (Cond.methodLink "SkyTrial" (189 : Nat) ({ cls := "SkyTrial$Sky", name := "weighAll", desc := "(III)V" } : Jvm.MethodName)) ∈ gTBL := tIn4 84 (by decide +kernel) rfl
theorem ww805 : (Cond.instanceMethod ({ cls := "SkyTrial$Sky", name := "weighAll", desc := "(III)V" } : Jvm.MethodName)) ∈ gTBL := tIn4 85 (by decide +kernel) rfl
theorem ww806 : (Cond.selects "SkyTrial$Sky" ({ cls := "SkyTrial$Sky", name := "weighAll", desc := "(III)V" } : Jvm.MethodName) ({ cls := "SkyTrial$Sky", name := "weighAll", desc := "(III)V" } : Jvm.MethodName)) ∈ gTBL := tIn4 86 (by decide +kernel) rfl
theorem ww807 : (Cond.code ({ cls := "SkyTrial$Sky", name := "weighAll", desc := "(III)V" } : Jvm.MethodName) prog_6_method_10_code (5 : Nat) (Option.none : Option Jvm.ClassFile.FieldType)) ∈ gTBL := tIn4 87 (by decide +kernel) rfl
theorem ww808 : (Cond.methodLink "SkyTrial" (192 : Nat) ({ cls := "SkyTrial$Sky", name := "sixthsOfAllTwos", desc := "(I)I" } : Jvm.MethodName)) ∈ gTBL := tIn4 88 (by decide +kernel) rfl
theorem ww809 : (Cond.instanceMethod ({ cls := "SkyTrial$Sky", name := "sixthsOfAllTwos", desc := "(I)I" } : Jvm.MethodName)) ∈ gTBL := tIn4 89 (by decide +kernel) rfl
theorem ww810 : (Cond.selects "SkyTrial$Sky" ({ cls := "SkyTrial$Sky", name := "sixthsOfAllTwos", desc := "(I)I" } : Jvm.MethodName) ({ cls := "SkyTrial$Sky", name := "sixthsOfAllTwos", desc := "(I)I" } : Jvm.MethodName)) ∈ gTBL := tIn4 90 (by decide +kernel) rfl
theorem ww811 : (Cond.code ({ cls := "SkyTrial$Sky", name := "sixthsOfAllTwos", desc := "(I)I" } : Jvm.MethodName) prog_6_method_12_code (5 : Nat) (Option.some Jvm.ClassFile.FieldType.int)) ∈ gTBL := tIn4 91 (by decide +kernel) rfl
theorem ww816 : (Cond.methodLink "SkyTrial" (195 : Nat) ({ cls := "SkyTrial$Sky", name := "weigh", desc := "(IIII)I" } : Jvm.MethodName)) ∈ gTBL := tIn4 96 (by decide +kernel) rfl
theorem ww821 : (Cond.constantLong "SkyTrial" (199 : Nat) (-1 : Int64)) ∈ gTBL := tIn4 101 (by decide +kernel) rfl
theorem ww822 : (Cond.methodLink "SkyTrial" (201 : Nat) ({ cls := "SkyTrial$Chance", name := "tailOf", desc := "(IIII)J" } : Jvm.MethodName)) ∈ gTBL := tIn4 102 (by decide +kernel) rfl
theorem ww823 : (Cond.instanceMethod ({ cls := "SkyTrial$Chance", name := "tailOf", desc := "(IIII)J" } : Jvm.MethodName)) ∈ gTBL := tIn4 103 (by decide +kernel) rfl
theorem ww824 : (Cond.selects "SkyTrial$Chance" ({ cls := "SkyTrial$Chance", name := "tailOf", desc := "(IIII)J" } : Jvm.MethodName) ({ cls := "SkyTrial$Chance", name := "tailOf", desc := "(IIII)J" } : Jvm.MethodName)) ∈ gTBL := tIn4 104 (by decide +kernel) rfl
theorem ww825 : (Cond.code ({ cls := "SkyTrial$Chance", name := "tailOf", desc := "(IIII)J" } : Jvm.MethodName) prog_2_method_2_code (6 : Nat) (Option.some Jvm.ClassFile.FieldType.long)) ∈ gTBL := tIn4 105 (by decide +kernel) rfl
theorem ww826 : (Cond.methodLink "SkyTrial$Chance" (27 : Nat) ({ cls := "SkyTrial$Chance", name := "startRow", desc := "([J)V" } : Jvm.MethodName)) ∈ gTBL := tIn4 106 (by decide +kernel) rfl
theorem ww827 : (Cond.static ({ cls := "SkyTrial$Chance", name := "startRow", desc := "([J)V" } : Jvm.MethodName)) ∈ gTBL := tIn4 107 (by decide +kernel) rfl
theorem ww828 : (Cond.code ({ cls := "SkyTrial$Chance", name := "startRow", desc := "([J)V" } : Jvm.MethodName) prog_2_method_11_code (2 : Nat) (Option.none : Option Jvm.ClassFile.FieldType)) ∈ gTBL := tIn4 108 (by decide +kernel) rfl
theorem ww829 : (Cond.methodLink "SkyTrial$Chance" (31 : Nat) ({ cls := "SkyTrial$Chance", name := "addTry", desc := "([JIII)V" } : Jvm.MethodName)) ∈ gTBL := tIn4 109 (by decide +kernel) rfl
theorem ww830 : (Cond.static ({ cls := "SkyTrial$Chance", name := "addTry", desc := "([JIII)V" } : Jvm.MethodName)) ∈ gTBL := tIn4 110 (by decide +kernel) rfl
theorem ww831 : (Cond.code ({ cls := "SkyTrial$Chance", name := "addTry", desc := "([JIII)V" } : Jvm.MethodName) prog_2_method_12_code (5 : Nat) (Option.none : Option Jvm.ClassFile.FieldType)) ∈ gTBL := tIn4 111 (by decide +kernel) rfl
theorem ww832 : (Cond.methodLink "SkyTrial$Chance" (76 : Nat) ({ cls := "java/lang/Math", name := "min", desc := "(II)I" } : Jvm.MethodName)) ∈ gTBL := tIn4 112 (by decide +kernel) rfl
theorem ww833 : (Cond.methodLink "SkyTrial$Chance" (35 : Nat) ({ cls := "SkyTrial$Chance", name := "sumOf", desc := "([JII)J" } : Jvm.MethodName)) ∈ gTBL := tIn4 113 (by decide +kernel) rfl
theorem ww834 : (Cond.static ({ cls := "SkyTrial$Chance", name := "sumOf", desc := "([JII)J" } : Jvm.MethodName)) ∈ gTBL := tIn4 114 (by decide +kernel) rfl
theorem ww835 : (Cond.code ({ cls := "SkyTrial$Chance", name := "sumOf", desc := "([JII)J" } : Jvm.MethodName) prog_2_method_13_code (6 : Nat) (Option.some Jvm.ClassFile.FieldType.long)) ∈ gTBL := tIn4 115 (by decide +kernel) rfl
theorem ww836 : (Cond.methodLink "SkyTrial$Chance" (82 : Nat) ({ cls := "java/lang/Math", name := "max", desc := "(II)I" } : Jvm.MethodName)) ∈ gTBL := tIn4 116 (by decide +kernel) rfl
theorem ww841 : (Cond.methodLink "SkyTrial" (205 : Nat) ({ cls := "SkyTrial$Chance", name := "agreed", desc := "(III)I" } : Jvm.MethodName)) ∈ gTBL := tIn4 121 (by decide +kernel) rfl
theorem ww842 : (Cond.instanceMethod ({ cls := "SkyTrial$Chance", name := "agreed", desc := "(III)I" } : Jvm.MethodName)) ∈ gTBL := tIn4 122 (by decide +kernel) rfl
theorem ww843 : (Cond.selects "SkyTrial$Chance" ({ cls := "SkyTrial$Chance", name := "agreed", desc := "(III)I" } : Jvm.MethodName) ({ cls := "SkyTrial$Chance", name := "agreed", desc := "(III)I" } : Jvm.MethodName)) ∈ gTBL := tIn4 123 (by decide +kernel) rfl
theorem ww844 : (Cond.code ({ cls := "SkyTrial$Chance", name := "agreed", desc := "(III)I" } : Jvm.MethodName) prog_2_method_3_code (10 : Nat) (Option.some Jvm.ClassFile.FieldType.int)) ∈ gTBL := tIn4 124 (by decide +kernel) rfl
theorem ww845 : (Cond.constantLong "SkyTrial$Chance" (39 : Nat) (3 : Int64)) ∈ gTBL := tIn4 125 (by decide +kernel) rfl
theorem ww846 : (Cond.constantLong "SkyTrial$Chance" (41 : Nat) (2 : Int64)) ∈ gTBL := tIn4 126 (by decide +kernel) rfl
theorem ww851 : (Cond.methodLink "SkyTrial" (208 : Nat) ({ cls := "SkyTrial", name := "isSign", desc := "(I)Z" } : Jvm.MethodName)) ∈ gTBL := tIn4 131 (by decide +kernel) rfl
theorem ww853 : (Cond.instanceMethod ({ cls := "SkyTrial", name := "isSign", desc := "(I)Z" } : Jvm.MethodName)) ∈ gTBL := tIn4 133 (by decide +kernel) rfl
theorem ww854 : (Cond.code ({ cls := "SkyTrial", name := "isSign", desc := "(I)Z" } : Jvm.MethodName) prog_1_method_46_code (2 : Nat) (Option.some Jvm.ClassFile.FieldType.boolean)) ∈ gTBL := tIn4 134 (by decide +kernel) rfl
theorem ww855 : (Cond.methodLink "SkyTrial" (211 : Nat) ({ cls := "SkyTrial$Sky", name := "fillTable", desc := "(LSkyTrial$Table;II)V" } : Jvm.MethodName)) ∈ gTBL := tIn4 135 (by decide +kernel) rfl
theorem ww856 : (Cond.instanceMethod ({ cls := "SkyTrial$Sky", name := "fillTable", desc := "(LSkyTrial$Table;II)V" } : Jvm.MethodName)) ∈ gTBL := tIn4 136 (by decide +kernel) rfl
theorem ww857 : (Cond.selects "SkyTrial$Sky" ({ cls := "SkyTrial$Sky", name := "fillTable", desc := "(LSkyTrial$Table;II)V" } : Jvm.MethodName) ({ cls := "SkyTrial$Sky", name := "fillTable", desc := "(LSkyTrial$Table;II)V" } : Jvm.MethodName)) ∈ gTBL := tIn4 137 (by decide +kernel) rfl
theorem ww858 : (Cond.code ({ cls := "SkyTrial$Sky", name := "fillTable", desc := "(LSkyTrial$Table;II)V" } : Jvm.MethodName) prog_6_method_13_code (5 : Nat) (Option.none : Option Jvm.ClassFile.FieldType)) ∈ gTBL := tIn4 138 (by decide +kernel) rfl
theorem ww859 : (Cond.methodLink "SkyTrial$Sky" (99 : Nat) ({ cls := "SkyTrial$Table", name := "clear", desc := "()V" } : Jvm.MethodName)) ∈ gTBL := tIn4 139 (by decide +kernel) rfl
theorem ww860 : (Cond.instanceMethod ({ cls := "SkyTrial$Table", name := "clear", desc := "()V" } : Jvm.MethodName)) ∈ gTBL := tIn4 140 (by decide +kernel) rfl
theorem ww861 : (Cond.selects "SkyTrial$Table" ({ cls := "SkyTrial$Table", name := "clear", desc := "()V" } : Jvm.MethodName) ({ cls := "SkyTrial$Table", name := "clear", desc := "()V" } : Jvm.MethodName)) ∈ gTBL := tIn4 141 (by decide +kernel) rfl
theorem ww862 : (Cond.code ({ cls := "SkyTrial$Table", name := "clear", desc := "()V" } : Jvm.MethodName) prog_7_method_2_code (1 : Nat) (Option.none : Option Jvm.ClassFile.FieldType)) ∈ gTBL := tIn4 142 (by decide +kernel) rfl
theorem ww863 : (Cond.methodLink "SkyTrial$Sky" (104 : Nat) ({ cls := "SkyTrial$Table", name := "addOne", desc := "(II)V" } : Jvm.MethodName)) ∈ gTBL := tIn4 143 (by decide +kernel) rfl
theorem ww864 : (Cond.instanceMethod ({ cls := "SkyTrial$Table", name := "addOne", desc := "(II)V" } : Jvm.MethodName)) ∈ gTBL := tIn4 144 (by decide +kernel) rfl
theorem ww865 : (Cond.selects "SkyTrial$Table" ({ cls := "SkyTrial$Table", name := "addOne", desc := "(II)V" } : Jvm.MethodName) ({ cls := "SkyTrial$Table", name := "addOne", desc := "(II)V" } : Jvm.MethodName)) ∈ gTBL := tIn4 145 (by decide +kernel) rfl
theorem ww866 : (Cond.code ({ cls := "SkyTrial$Table", name := "addOne", desc := "(II)V" } : Jvm.MethodName) prog_7_method_3_code (3 : Nat) (Option.none : Option Jvm.ClassFile.FieldType)) ∈ gTBL := tIn4 146 (by decide +kernel) rfl
theorem ww867 : (Cond.methodLink "SkyTrial" (215 : Nat) ({ cls := "SkyTrial$Table", name := "part", desc := "(I)I" } : Jvm.MethodName)) ∈ gTBL := tIn4 147 (by decide +kernel) rfl
theorem ww868 : (Cond.instanceMethod ({ cls := "SkyTrial$Table", name := "part", desc := "(I)I" } : Jvm.MethodName)) ∈ gTBL := tIn4 148 (by decide +kernel) rfl
theorem ww869 : (Cond.selects "SkyTrial$Table" ({ cls := "SkyTrial$Table", name := "part", desc := "(I)I" } : Jvm.MethodName) ({ cls := "SkyTrial$Table", name := "part", desc := "(I)I" } : Jvm.MethodName)) ∈ gTBL := tIn4 149 (by decide +kernel) rfl
theorem ww870 : (Cond.code ({ cls := "SkyTrial$Table", name := "part", desc := "(I)I" } : Jvm.MethodName) prog_7_method_4_code (2 : Nat) (Option.some Jvm.ClassFile.FieldType.int)) ∈ gTBL := tIn4 150 (by decide +kernel) rfl
theorem ww875 : (Cond.methodLink "SkyTrial" (218 : Nat) ({ cls := "SkyTrial$Chance", name := "moreOf", desc := "(LSkyTrial$Table;)J" } : Jvm.MethodName)) ∈ gTBL := tIn4 155 (by decide +kernel) rfl
theorem ww876 : (Cond.instanceMethod ({ cls := "SkyTrial$Chance", name := "moreOf", desc := "(LSkyTrial$Table;)J" } : Jvm.MethodName)) ∈ gTBL := tIn4 156 (by decide +kernel) rfl
theorem ww877 : (Cond.selects "SkyTrial$Chance" ({ cls := "SkyTrial$Chance", name := "moreOf", desc := "(LSkyTrial$Table;)J" } : Jvm.MethodName) ({ cls := "SkyTrial$Chance", name := "moreOf", desc := "(LSkyTrial$Table;)J" } : Jvm.MethodName)) ∈ gTBL := tIn4 157 (by decide +kernel) rfl
theorem ww878 : (Cond.code ({ cls := "SkyTrial$Chance", name := "moreOf", desc := "(LSkyTrial$Table;)J" } : Jvm.MethodName) prog_2_method_5_code (5 : Nat) (Option.some Jvm.ClassFile.FieldType.long)) ∈ gTBL := tIn4 158 (by decide +kernel) rfl
theorem ww879 : (Cond.methodLink "SkyTrial$Chance" (59 : Nat) ({ cls := "SkyTrial$Chance", name := "takingJust", desc := "(LSkyTrial$Table;I)J" } : Jvm.MethodName)) ∈ gTBL := tIn4 159 (by decide +kernel) rfl
theorem ww881 : (Cond.instanceMethod ({ cls := "SkyTrial$Chance", name := "takingJust", desc := "(LSkyTrial$Table;I)J" } : Jvm.MethodName)) ∈ gTBL := tIn4 161 (by decide +kernel) rfl
theorem ww882 : (Cond.code ({ cls := "SkyTrial$Chance", name := "takingJust", desc := "(LSkyTrial$Table;I)J" } : Jvm.MethodName) prog_2_method_9_code (3 : Nat) (Option.some Jvm.ClassFile.FieldType.long)) ∈ gTBL := tIn4 162 (by decide +kernel) rfl
theorem ww883 : (Cond.methodLink "SkyTrial$Chance" (52 : Nat) ({ cls := "SkyTrial$Chance", name := "taking", desc := "(II)J" } : Jvm.MethodName)) ∈ gTBL := tIn4 163 (by decide +kernel) rfl
theorem ww885 : (Cond.instanceMethod ({ cls := "SkyTrial$Chance", name := "taking", desc := "(II)J" } : Jvm.MethodName)) ∈ gTBL := tIn4 165 (by decide +kernel) rfl
theorem ww886 : (Cond.code ({ cls := "SkyTrial$Chance", name := "taking", desc := "(II)J" } : Jvm.MethodName) prog_2_method_10_code (3 : Nat) (Option.some Jvm.ClassFile.FieldType.long)) ∈ gTBL := tIn4 166 (by decide +kernel) rfl
theorem ww888 : (Cond.methodLink "SkyTrial" (222 : Nat) ({ cls := "SkyTrial$Chance", name := "allOf", desc := "(LSkyTrial$Table;)J" } : Jvm.MethodName)) ∈ gTBL := tIn4 168 (by decide +kernel) rfl
theorem ww889 : (Cond.instanceMethod ({ cls := "SkyTrial$Chance", name := "allOf", desc := "(LSkyTrial$Table;)J" } : Jvm.MethodName)) ∈ gTBL := tIn4 169 (by decide +kernel) rfl
theorem ww890 : (Cond.selects "SkyTrial$Chance" ({ cls := "SkyTrial$Chance", name := "allOf", desc := "(LSkyTrial$Table;)J" } : Jvm.MethodName) ({ cls := "SkyTrial$Chance", name := "allOf", desc := "(LSkyTrial$Table;)J" } : Jvm.MethodName)) ∈ gTBL := tIn4 170 (by decide +kernel) rfl
theorem ww891 : (Cond.code ({ cls := "SkyTrial$Chance", name := "allOf", desc := "(LSkyTrial$Table;)J" } : Jvm.MethodName) prog_2_method_4_code (2 : Nat) (Option.some Jvm.ClassFile.FieldType.long)) ∈ gTBL := tIn4 171 (by decide +kernel) rfl
theorem ww896 : (Cond.methodLink "SkyTrial" (228 : Nat) ({ cls := "SkyTrial$Chance", name := "startSpread", desc := "()V" } : Jvm.MethodName)) ∈ gTBL := tIn4 176 (by decide +kernel) rfl
theorem ww897 : (Cond.instanceMethod ({ cls := "SkyTrial$Chance", name := "startSpread", desc := "()V" } : Jvm.MethodName)) ∈ gTBL := tIn4 177 (by decide +kernel) rfl
theorem ww898 : (Cond.selects "SkyTrial$Chance" ({ cls := "SkyTrial$Chance", name := "startSpread", desc := "()V" } : Jvm.MethodName) ({ cls := "SkyTrial$Chance", name := "startSpread", desc := "()V" } : Jvm.MethodName)) ∈ gTBL := tIn4 178 (by decide +kernel) rfl
theorem ww899 : (Cond.code ({ cls := "SkyTrial$Chance", name := "startSpread", desc := "()V" } : Jvm.MethodName) prog_2_method_6_code (1 : Nat) (Option.none : Option Jvm.ClassFile.FieldType)) ∈ gTBL := tIn4 179 (by decide +kernel) rfl
theorem ww900 : (Cond.methodLink "SkyTrial" (231 : Nat) ({ cls := "SkyTrial$Sky", name := "fillClassTable", desc := "(LSkyTrial$Table;IIII)V" } : Jvm.MethodName)) ∈ gTBL := tIn4 180 (by decide +kernel) rfl
theorem ww901 : (Cond.instanceMethod ({ cls := "SkyTrial$Sky", name := "fillClassTable", desc := "(LSkyTrial$Table;IIII)V" } : Jvm.MethodName)) ∈ gTBL := tIn4 181 (by decide +kernel) rfl
theorem ww902 : (Cond.selects "SkyTrial$Sky" ({ cls := "SkyTrial$Sky", name := "fillClassTable", desc := "(LSkyTrial$Table;IIII)V" } : Jvm.MethodName) ({ cls := "SkyTrial$Sky", name := "fillClassTable", desc := "(LSkyTrial$Table;IIII)V" } : Jvm.MethodName)) ∈ gTBL := tIn4 182 (by decide +kernel) rfl
theorem ww903 : (Cond.code ({ cls := "SkyTrial$Sky", name := "fillClassTable", desc := "(LSkyTrial$Table;IIII)V" } : Jvm.MethodName) prog_6_method_14_code (7 : Nat) (Option.none : Option Jvm.ClassFile.FieldType)) ∈ gTBL := tIn4 183 (by decide +kernel) rfl
theorem ww904 : (Cond.methodLink "SkyTrial$Sky" (108 : Nat) ({ cls := "SkyTrial$People", name := "classOf", desc := "(II)I" } : Jvm.MethodName)) ∈ gTBL := tIn4 184 (by decide +kernel) rfl
theorem ww905 : (Cond.instanceMethod ({ cls := "SkyTrial$People", name := "classOf", desc := "(II)I" } : Jvm.MethodName)) ∈ gTBL := tIn4 185 (by decide +kernel) rfl
theorem ww906 : (Cond.selects "SkyTrial$People" ({ cls := "SkyTrial$People", name := "classOf", desc := "(II)I" } : Jvm.MethodName) ({ cls := "SkyTrial$People", name := "classOf", desc := "(II)I" } : Jvm.MethodName)) ∈ gTBL := tIn4 186 (by decide +kernel) rfl
theorem ww907 : (Cond.code ({ cls := "SkyTrial$People", name := "classOf", desc := "(II)I" } : Jvm.MethodName) prog_4_method_7_code (3 : Nat) (Option.some Jvm.ClassFile.FieldType.int)) ∈ gTBL := tIn4 187 (by decide +kernel) rfl
theorem ww908 : (Cond.methodLink "SkyTrial$People" (34 : Nat) ({ cls := "SkyTrial$People", name := "trait", desc := "(II)I" } : Jvm.MethodName)) ∈ gTBL := tIn4 188 (by decide +kernel) rfl
theorem ww909 : (Cond.methodLink "SkyTrial" (235 : Nat) ({ cls := "SkyTrial$Chance", name := "widenSpread", desc := "(LSkyTrial$Table;)V" } : Jvm.MethodName)) ∈ gTBL := tIn4 189 (by decide +kernel) rfl
theorem ww910 : (Cond.instanceMethod ({ cls := "SkyTrial$Chance", name := "widenSpread", desc := "(LSkyTrial$Table;)V" } : Jvm.MethodName)) ∈ gTBL := tIn4 190 (by decide +kernel) rfl
theorem ww911 : (Cond.selects "SkyTrial$Chance" ({ cls := "SkyTrial$Chance", name := "widenSpread", desc := "(LSkyTrial$Table;)V" } : Jvm.MethodName) ({ cls := "SkyTrial$Chance", name := "widenSpread", desc := "(LSkyTrial$Table;)V" } : Jvm.MethodName)) ∈ gTBL := tIn4 191 (by decide +kernel) rfl
theorem ww912 : (Cond.code ({ cls := "SkyTrial$Chance", name := "widenSpread", desc := "(LSkyTrial$Table;)V" } : Jvm.MethodName) prog_2_method_7_code (4 : Nat) (Option.none : Option Jvm.ClassFile.FieldType)) ∈ gTBL := tIn4 192 (by decide +kernel) rfl
theorem ww913 : (Cond.methodLink "SkyTrial$Chance" (63 : Nat) ({ cls := "java/lang/System", name := "arraycopy", desc := "(Ljava/lang/Object;ILjava/lang/Object;II)V" } : Jvm.MethodName)) ∈ gTBL := tIn4 193 (by decide +kernel) rfl
theorem ww914 : (Cond.static ({ cls := "java/lang/System", name := "arraycopy", desc := "(Ljava/lang/Object;ILjava/lang/Object;II)V" } : Jvm.MethodName)) ∈ gTBL := tIn4 194 (by decide +kernel) rfl
theorem ww915 : (Cond.native ({ cls := "java/lang/System", name := "arraycopy", desc := "(Ljava/lang/Object;ILjava/lang/Object;II)V" } : Jvm.MethodName)) ∈ gTBL := tIn4 195 (by decide +kernel) rfl
theorem ww916 : (Cond.methodLink "SkyTrial" (239 : Nat) ({ cls := "SkyTrial$Chance", name := "spreadFrom", desc := "(I)J" } : Jvm.MethodName)) ∈ gTBL := tIn4 196 (by decide +kernel) rfl
theorem ww917 : (Cond.instanceMethod ({ cls := "SkyTrial$Chance", name := "spreadFrom", desc := "(I)J" } : Jvm.MethodName)) ∈ gTBL := tIn4 197 (by decide +kernel) rfl
theorem ww918 : (Cond.selects "SkyTrial$Chance" ({ cls := "SkyTrial$Chance", name := "spreadFrom", desc := "(I)J" } : Jvm.MethodName) ({ cls := "SkyTrial$Chance", name := "spreadFrom", desc := "(I)J" } : Jvm.MethodName)) ∈ gTBL := tIn4 198 (by decide +kernel) rfl
theorem ww919 : (Cond.code ({ cls := "SkyTrial$Chance", name := "spreadFrom", desc := "(I)J" } : Jvm.MethodName) prog_2_method_8_code (2 : Nat) (Option.some Jvm.ClassFile.FieldType.long)) ∈ gTBL := tIn4 199 (by decide +kernel) rfl
theorem ww932 : (Cond.methodLink "SkyTrial" (246 : Nat) ({ cls := "SkyTrial$Facts", name := "add", desc := "(III)I" } : Jvm.MethodName)) ∈ gTBL := tIn4 212 (by decide +kernel) rfl
theorem ww933 : (Cond.instanceMethod ({ cls := "SkyTrial$Facts", name := "add", desc := "(III)I" } : Jvm.MethodName)) ∈ gTBL := tIn4 213 (by decide +kernel) rfl
theorem ww934 : (Cond.selects "SkyTrial$Facts" ({ cls := "SkyTrial$Facts", name := "add", desc := "(III)I" } : Jvm.MethodName) ({ cls := "SkyTrial$Facts", name := "add", desc := "(III)I" } : Jvm.MethodName)) ∈ gTBL := tIn4 214 (by decide +kernel) rfl
theorem ww935 : (Cond.code ({ cls := "SkyTrial$Facts", name := "add", desc := "(III)I" } : Jvm.MethodName) prog_3_method_2_code (4 : Nat) (Option.some Jvm.ClassFile.FieldType.int)) ∈ gTBL := tIn4 215 (by decide +kernel) rfl
theorem ww948 : (Cond.methodLink "SkyTrial" (249 : Nat) ({ cls := "SkyTrial$Facts", name := "has", desc := "(I)Z" } : Jvm.MethodName)) ∈ gTBL := tIn4 228 (by decide +kernel) rfl
theorem ww949 : (Cond.instanceMethod ({ cls := "SkyTrial$Facts", name := "has", desc := "(I)Z" } : Jvm.MethodName)) ∈ gTBL := tIn4 229 (by decide +kernel) rfl
theorem ww950 : (Cond.selects "SkyTrial$Facts" ({ cls := "SkyTrial$Facts", name := "has", desc := "(I)Z" } : Jvm.MethodName) ({ cls := "SkyTrial$Facts", name := "has", desc := "(I)Z" } : Jvm.MethodName)) ∈ gTBL := tIn4 230 (by decide +kernel) rfl
theorem ww951 : (Cond.code ({ cls := "SkyTrial$Facts", name := "has", desc := "(I)Z" } : Jvm.MethodName) prog_3_method_3_code (2 : Nat) (Option.some Jvm.ClassFile.FieldType.boolean)) ∈ gTBL := tIn4 231 (by decide +kernel) rfl
theorem ww956 : (Cond.methodLink "SkyTrial" (253 : Nat) ({ cls := "SkyTrial$Facts", name := "canKnow", desc := "(I)Z" } : Jvm.MethodName)) ∈ gTBL := tIn4 236 (by decide +kernel) rfl
theorem ww957 : (Cond.instanceMethod ({ cls := "SkyTrial$Facts", name := "canKnow", desc := "(I)Z" } : Jvm.MethodName)) ∈ gTBL := tIn4 237 (by decide +kernel) rfl
theorem ww958 : (Cond.selects "SkyTrial$Facts" ({ cls := "SkyTrial$Facts", name := "canKnow", desc := "(I)Z" } : Jvm.MethodName) ({ cls := "SkyTrial$Facts", name := "canKnow", desc := "(I)Z" } : Jvm.MethodName)) ∈ gTBL := tIn4 238 (by decide +kernel) rfl
theorem ww959 : (Cond.code ({ cls := "SkyTrial$Facts", name := "canKnow", desc := "(I)Z" } : Jvm.MethodName) prog_3_method_4_code (2 : Nat) (Option.some Jvm.ClassFile.FieldType.boolean)) ∈ gTBL := tIn4 239 (by decide +kernel) rfl
theorem ww960 : (Cond.methodLink "SkyTrial" (256 : Nat) ({ cls := "SkyTrial$Facts", name := "know", desc := "(I)V" } : Jvm.MethodName)) ∈ gTBL := tIn5 0 (by decide +kernel) rfl
theorem ww961 : (Cond.instanceMethod ({ cls := "SkyTrial$Facts", name := "know", desc := "(I)V" } : Jvm.MethodName)) ∈ gTBL := tIn5 1 (by decide +kernel) rfl
theorem ww962 : (Cond.selects "SkyTrial$Facts" ({ cls := "SkyTrial$Facts", name := "know", desc := "(I)V" } : Jvm.MethodName) ({ cls := "SkyTrial$Facts", name := "know", desc := "(I)V" } : Jvm.MethodName)) ∈ gTBL := tIn5 2 (by decide +kernel) rfl
theorem ww963 : (Cond.code ({ cls := "SkyTrial$Facts", name := "know", desc := "(I)V" } : Jvm.MethodName) prog_3_method_5_code (3 : Nat) (Option.none : Option Jvm.ClassFile.FieldType)) ∈ gTBL := tIn5 3 (by decide +kernel) rfl
theorem ww964 : (Cond.methodLink "SkyTrial$Facts" (29 : Nat) ({ cls := "SkyTrial$Facts", name := "has", desc := "(I)Z" } : Jvm.MethodName)) ∈ gTBL := tIn5 4 (by decide +kernel) rfl
theorem ww965 : (Cond.methodLink "SkyTrial" (259 : Nat) ({ cls := "SkyTrial$Facts", name := "sumOf", desc := "(IZ)I" } : Jvm.MethodName)) ∈ gTBL := tIn5 5 (by decide +kernel) rfl
theorem ww966 : (Cond.instanceMethod ({ cls := "SkyTrial$Facts", name := "sumOf", desc := "(IZ)I" } : Jvm.MethodName)) ∈ gTBL := tIn5 6 (by decide +kernel) rfl
theorem ww967 : (Cond.selects "SkyTrial$Facts" ({ cls := "SkyTrial$Facts", name := "sumOf", desc := "(IZ)I" } : Jvm.MethodName) ({ cls := "SkyTrial$Facts", name := "sumOf", desc := "(IZ)I" } : Jvm.MethodName)) ∈ gTBL := tIn5 7 (by decide +kernel) rfl
theorem ww968 : (Cond.code ({ cls := "SkyTrial$Facts", name := "sumOf", desc := "(IZ)I" } : Jvm.MethodName) prog_3_method_6_code (5 : Nat) (Option.some Jvm.ClassFile.FieldType.int)) ∈ gTBL := tIn5 8 (by decide +kernel) rfl
theorem ww973 : (Cond.methodLink "SkyTrial" (263 : Nat) ({ cls := "SkyTrial$Facts", name := "howManySure", desc := "(II)I" } : Jvm.MethodName)) ∈ gTBL := tIn5 13 (by decide +kernel) rfl
theorem ww974 : (Cond.instanceMethod ({ cls := "SkyTrial$Facts", name := "howManySure", desc := "(II)I" } : Jvm.MethodName)) ∈ gTBL := tIn5 14 (by decide +kernel) rfl
theorem ww975 : (Cond.selects "SkyTrial$Facts" ({ cls := "SkyTrial$Facts", name := "howManySure", desc := "(II)I" } : Jvm.MethodName) ({ cls := "SkyTrial$Facts", name := "howManySure", desc := "(II)I" } : Jvm.MethodName)) ∈ gTBL := tIn5 15 (by decide +kernel) rfl
theorem ww976 : (Cond.code ({ cls := "SkyTrial$Facts", name := "howManySure", desc := "(II)I" } : Jvm.MethodName) prog_3_method_7_code (5 : Nat) (Option.some Jvm.ClassFile.FieldType.int)) ∈ gTBL := tIn5 16 (by decide +kernel) rfl
theorem ww981 : (Cond.methodLink "SkyTrial" (266 : Nat) ({ cls := "java/lang/Integer", name := "compare", desc := "(II)I" } : Jvm.MethodName)) ∈ gTBL := tIn5 21 (by decide +kernel) rfl
theorem ww982 : (Cond.static ({ cls := "java/lang/Integer", name := "compare", desc := "(II)I" } : Jvm.MethodName)) ∈ gTBL := tIn5 22 (by decide +kernel) rfl
theorem ww983 : (Cond.code ({ cls := "java/lang/Integer", name := "compare", desc := "(II)I" } : Jvm.MethodName) prog_14_method_40_code (2 : Nat) (Option.some Jvm.ClassFile.FieldType.int)) ∈ gTBL := tIn5 23 (by decide +kernel) rfl
theorem ww988 : (Cond.methodLink "SkyTrial" (271 : Nat) ({ cls := "SkyTrial$Facts", name := "isListed", desc := "(I)Z" } : Jvm.MethodName)) ∈ gTBL := tIn5 28 (by decide +kernel) rfl
theorem ww989 : (Cond.instanceMethod ({ cls := "SkyTrial$Facts", name := "isListed", desc := "(I)Z" } : Jvm.MethodName)) ∈ gTBL := tIn5 29 (by decide +kernel) rfl
theorem ww990 : (Cond.selects "SkyTrial$Facts" ({ cls := "SkyTrial$Facts", name := "isListed", desc := "(I)Z" } : Jvm.MethodName) ({ cls := "SkyTrial$Facts", name := "isListed", desc := "(I)Z" } : Jvm.MethodName)) ∈ gTBL := tIn5 30 (by decide +kernel) rfl
theorem ww991 : (Cond.code ({ cls := "SkyTrial$Facts", name := "isListed", desc := "(I)Z" } : Jvm.MethodName) prog_3_method_8_code (4 : Nat) (Option.some Jvm.ClassFile.FieldType.boolean)) ∈ gTBL := tIn5 31 (by decide +kernel) rfl
theorem ww996 : (Cond.methodLink "SkyTrial" (274 : Nat) ({ cls := "SkyTrial", name := "fillRedTable", desc := "(II)V" } : Jvm.MethodName)) ∈ gTBL := tIn5 36 (by decide +kernel) rfl
theorem ww998 : (Cond.instanceMethod ({ cls := "SkyTrial", name := "fillRedTable", desc := "(II)V" } : Jvm.MethodName)) ∈ gTBL := tIn5 38 (by decide +kernel) rfl
theorem ww999 : (Cond.code ({ cls := "SkyTrial", name := "fillRedTable", desc := "(II)V" } : Jvm.MethodName) prog_1_method_51_code (4 : Nat) (Option.none : Option Jvm.ClassFile.FieldType)) ∈ gTBL := tIn5 39 (by decide +kernel) rfl
theorem ww1000 : (Cond.methodLink "SkyTrial" (300 : Nat) ({ cls := "SkyTrial$Table", name := "clear", desc := "()V" } : Jvm.MethodName)) ∈ gTBL := tIn5 40 (by decide +kernel) rfl
theorem ww1001 : (Cond.methodLink "SkyTrial" (303 : Nat) ({ cls := "SkyTrial$Table", name := "addOne", desc := "(II)V" } : Jvm.MethodName)) ∈ gTBL := tIn5 41 (by decide +kernel) rfl
theorem ww1002 : (Cond.methodLink "SkyTrial" (283 : Nat) ({ cls := "SkyTrial$Facts", name := "unlikeTries", desc := "()I" } : Jvm.MethodName)) ∈ gTBL := tIn5 42 (by decide +kernel) rfl
theorem ww1003 : (Cond.instanceMethod ({ cls := "SkyTrial$Facts", name := "unlikeTries", desc := "()I" } : Jvm.MethodName)) ∈ gTBL := tIn5 43 (by decide +kernel) rfl
theorem ww1004 : (Cond.selects "SkyTrial$Facts" ({ cls := "SkyTrial$Facts", name := "unlikeTries", desc := "()I" } : Jvm.MethodName) ({ cls := "SkyTrial$Facts", name := "unlikeTries", desc := "()I" } : Jvm.MethodName)) ∈ gTBL := tIn5 44 (by decide +kernel) rfl
theorem ww1005 : (Cond.code ({ cls := "SkyTrial$Facts", name := "unlikeTries", desc := "()I" } : Jvm.MethodName) prog_3_method_9_code (4 : Nat) (Option.some Jvm.ClassFile.FieldType.int)) ∈ gTBL := tIn5 45 (by decide +kernel) rfl
theorem ww1006 : (Cond.methodLink "SkyTrial$Facts" (33 : Nat) ({ cls := "java/lang/Long", name := "bitCount", desc := "(J)I" } : Jvm.MethodName)) ∈ gTBL := tIn5 46 (by decide +kernel) rfl
theorem ww1007 : (Cond.static ({ cls := "java/lang/Long", name := "bitCount", desc := "(J)I" } : Jvm.MethodName)) ∈ gTBL := tIn5 47 (by decide +kernel) rfl
theorem ww1008 : (Cond.code ({ cls := "java/lang/Long", name := "bitCount", desc := "(J)I" } : Jvm.MethodName) prog_15_method_50_code (2 : Nat) (Option.some Jvm.ClassFile.FieldType.int)) ∈ gTBL := tIn5 48 (by decide +kernel) rfl
theorem ww1009 : (Cond.constantLong "java/lang/Long" (314 : Nat) (6148914691236517205 : Int64)) ∈ gTBL := tIn5 49 (by decide +kernel) rfl
theorem ww1010 : (Cond.constantLong "java/lang/Long" (316 : Nat) (3689348814741910323 : Int64)) ∈ gTBL := tIn5 50 (by decide +kernel) rfl
theorem ww1011 : (Cond.constantLong "java/lang/Long" (318 : Nat) (1085102592571150095 : Int64)) ∈ gTBL := tIn5 51 (by decide +kernel) rfl
theorem ww1012 : (Cond.methodLink "SkyTrial" (286 : Nat) ({ cls := "SkyTrial", name := "redStands", desc := "()Z" } : Jvm.MethodName)) ∈ gTBL := tIn5 52 (by decide +kernel) rfl
theorem ww1014 : (Cond.instanceMethod ({ cls := "SkyTrial", name := "redStands", desc := "()Z" } : Jvm.MethodName)) ∈ gTBL := tIn5 54 (by decide +kernel) rfl
theorem ww1015 : (Cond.code ({ cls := "SkyTrial", name := "redStands", desc := "()Z" } : Jvm.MethodName) prog_1_method_52_code (3 : Nat) (Option.some Jvm.ClassFile.FieldType.boolean)) ∈ gTBL := tIn5 55 (by decide +kernel) rfl
theorem ww1016 : (Cond.methodLink "SkyTrial" (306 : Nat) ({ cls := "java/lang/Math", name := "max", desc := "(II)I" } : Jvm.MethodName)) ∈ gTBL := tIn5 56 (by decide +kernel) rfl
theorem ww1017 : (Cond.constantLong "SkyTrial" (309 : Nat) (20 : Int64)) ∈ gTBL := tIn5 57 (by decide +kernel) rfl
theorem ww1039 : (Cond.methodLink "SkyTrialModel" (174 : Nat) ({ cls := "SkyTrialModel", name := "appends", desc := "(JI)J" } : Jvm.MethodName)) ∈ gTBL := tIn5 79 (by decide +kernel) rfl
theorem ww1040 : (Cond.static ({ cls := "SkyTrialModel", name := "appends", desc := "(JI)J" } : Jvm.MethodName)) ∈ gTBL := tIn5 80 (by decide +kernel) rfl
theorem ww1041 : (Cond.code ({ cls := "SkyTrialModel", name := "appends", desc := "(JI)J" } : Jvm.MethodName) prog_13_method_9_code (3 : Nat) (Option.some Jvm.ClassFile.FieldType.long)) ∈ gTBL := tIn5 81 (by decide +kernel) rfl
theorem ww1042 : (Cond.constantLong "SkyTrialModel" (172 : Nat) (27 : Int64)) ∈ gTBL := tIn5 82 (by decide +kernel) rfl
theorem ww1043 : (Cond.fieldLink "SkyTrialModel" (13 : Nat) "SkyTrialModel" "tape" "[B") ∈ gTBL := tIn5 83 (by decide +kernel) rfl
theorem ww1044 : (Cond.fieldLink "SkyTrialModel" (162 : Nat) "SkyTrialModel" "taped" "I") ∈ gTBL := tIn5 84 (by decide +kernel) rfl
theorem ww1045 : (Cond.fieldLink "SkyTrialModel" (17 : Nat) "SkyTrialModel" "text" "[B") ∈ gTBL := tIn5 85 (by decide +kernel) rfl
theorem ww1046 : (Cond.fieldLink "SkyTrialModel" (169 : Nat) "SkyTrialModel" "size" "I") ∈ gTBL := tIn5 86 (by decide +kernel) rfl
theorem ww1047 : (Cond.fieldLink "SkyTrialModel" (20 : Nat) "SkyTrialModel" "tKind" "[I") ∈ gTBL := tIn5 87 (by decide +kernel) rfl
theorem ww1048 : (Cond.fieldLink "SkyTrialModel" (24 : Nat) "SkyTrialModel" "tPlace" "[I") ∈ gTBL := tIn5 88 (by decide +kernel) rfl
theorem ww1049 : (Cond.fieldLink "SkyTrialModel" (27 : Nat) "SkyTrialModel" "tValue" "[I") ∈ gTBL := tIn5 89 (by decide +kernel) rfl
theorem ww1050 : (Cond.fieldLink "SkyTrialModel" (30 : Nat) "SkyTrialModel" "tName" "[J") ∈ gTBL := tIn5 90 (by decide +kernel) rfl
theorem ww1051 : (Cond.fieldLink "SkyTrialModel" (34 : Nat) "SkyTrialModel" "keys" "[J") ∈ gTBL := tIn5 91 (by decide +kernel) rfl
theorem ww1052 : (Cond.fieldLink "SkyTrialModel" (178 : Nat) "SkyTrialModel" "tokens" "I") ∈ gTBL := tIn5 92 (by decide +kernel) rfl
theorem ww1053 : (Cond.fieldLink "SkyTrialModel" (203 : Nat) "SkyTrialModel" "t" "I") ∈ gTBL := tIn5 93 (by decide +kernel) rfl
theorem ww1054 : (Cond.fieldLink "SkyTrialModel" (227 : Nat) "SkyTrialModel" "open" "I") ∈ gTBL := tIn5 94 (by decide +kernel) rfl
theorem ww1055 : (Cond.fieldLink "SkyTrialModel" (200 : Nat) "SkyTrialModel" "fault" "I") ∈ gTBL := tIn5 95 (by decide +kernel) rfl
theorem ww1056 : (Cond.fieldLink "SkyTrialModel" (206 : Nat) "SkyTrialModel" "faultPlace" "I") ∈ gTBL := tIn5 96 (by decide +kernel) rfl
theorem ww1057 : (Cond.fieldLink "SkyTrialModel" (209 : Nat) "SkyTrialModel" "worst" "I") ∈ gTBL := tIn5 97 (by decide +kernel) rfl
theorem ww1058 : (Cond.fieldLink "SkyTrialModel" (212 : Nat) "SkyTrialModel" "worstPlace" "I") ∈ gTBL := tIn5 98 (by decide +kernel) rfl
theorem ww1059 : (Cond.fieldLink "SkyTrialModel" (37 : Nat) "SkyTrialModel" "place" "I") ∈ gTBL := tIn5 99 (by decide +kernel) rfl
theorem ww1060 : (Cond.fieldLink "SkyTrialModel" (230 : Nat) "SkyTrialModel" "live" "I") ∈ gTBL := tIn5 100 (by decide +kernel) rfl
theorem ww1061 : (Cond.fieldLink "SkyTrialModel" (233 : Nat) "SkyTrialModel" "side" "I") ∈ gTBL := tIn5 101 (by decide +kernel) rfl
theorem ww1062 : (Cond.fieldLink "SkyTrialModel" (236 : Nat) "SkyTrialModel" "names" "I") ∈ gTBL := tIn5 102 (by decide +kernel) rfl
theorem ww1063 : (Cond.fieldLink "SkyTrialModel" (40 : Nat) "SkyTrialModel" "nameOf" "[J") ∈ gTBL := tIn5 103 (by decide +kernel) rfl
theorem ww1064 : (Cond.fieldLink "SkyTrialModel" (43 : Nat) "SkyTrialModel" "nameSort" "[I") ∈ gTBL := tIn5 104 (by decide +kernel) rfl
theorem ww1065 : (Cond.fieldLink "SkyTrialModel" (46 : Nat) "SkyTrialModel" "nameAt" "[I") ∈ gTBL := tIn5 105 (by decide +kernel) rfl
theorem ww1066 : (Cond.fieldLink "SkyTrialModel" (49 : Nat) "SkyTrialModel" "signs" "[I") ∈ gTBL := tIn5 106 (by decide +kernel) rfl
theorem ww1067 : (Cond.fieldLink "SkyTrialModel" (52 : Nat) "SkyTrialModel" "says" "[I") ∈ gTBL := tIn5 107 (by decide +kernel) rfl
theorem ww1068 : (Cond.fieldLink "SkyTrialModel" (55 : Nat) "SkyTrialModel" "books" "[I") ∈ gTBL := tIn5 108 (by decide +kernel) rfl
theorem ww1069 : (Cond.fieldLink "SkyTrialModel" (58 : Nat) "SkyTrialModel" "laws" "[I") ∈ gTBL := tIn5 109 (by decide +kernel) rfl
theorem ww1070 : (Cond.fieldLink "SkyTrialModel" (61 : Nat) "SkyTrialModel" "sortOf" "[I") ∈ gTBL := tIn5 110 (by decide +kernel) rfl
theorem ww1071 : (Cond.fieldLink "SkyTrialModel" (64 : Nat) "SkyTrialModel" "whens" "[I") ∈ gTBL := tIn5 111 (by decide +kernel) rfl
theorem ww1072 : (Cond.fieldLink "SkyTrialModel" (67 : Nat) "SkyTrialModel" "whenBook" "[I") ∈ gTBL := tIn5 112 (by decide +kernel) rfl
theorem ww1073 : (Cond.fieldLink "SkyTrialModel" (70 : Nat) "SkyTrialModel" "whenSign" "[I") ∈ gTBL := tIn5 113 (by decide +kernel) rfl
theorem ww1074 : (Cond.fieldLink "SkyTrialModel" (73 : Nat) "SkyTrialModel" "whenSay" "[I") ∈ gTBL := tIn5 114 (by decide +kernel) rfl
theorem ww1075 : (Cond.fieldLink "SkyTrialModel" (76 : Nat) "SkyTrialModel" "litFirst" "[I") ∈ gTBL := tIn5 115 (by decide +kernel) rfl
theorem ww1076 : (Cond.fieldLink "SkyTrialModel" (79 : Nat) "SkyTrialModel" "litLast" "[I") ∈ gTBL := tIn5 116 (by decide +kernel) rfl
theorem ww1077 : (Cond.fieldLink "SkyTrialModel" (82 : Nat) "SkyTrialModel" "lawFrom" "[I") ∈ gTBL := tIn5 117 (by decide +kernel) rfl
theorem ww1078 : (Cond.fieldLink "SkyTrialModel" (85 : Nat) "SkyTrialModel" "lawTo" "[I") ∈ gTBL := tIn5 118 (by decide +kernel) rfl
theorem ww1079 : (Cond.fieldLink "SkyTrialModel" (239 : Nat) "SkyTrialModel" "lits" "I") ∈ gTBL := tIn5 119 (by decide +kernel) rfl
theorem ww1080 : (Cond.fieldLink "SkyTrialModel" (88 : Nat) "SkyTrialModel" "litSort" "[I") ∈ gTBL := tIn5 120 (by decide +kernel) rfl
theorem ww1081 : (Cond.fieldLink "SkyTrialModel" (91 : Nat) "SkyTrialModel" "litNot" "[Z") ∈ gTBL := tIn5 121 (by decide +kernel) rfl
theorem ww1082 : (Cond.fieldLink "SkyTrialModel" (95 : Nat) "SkyTrialModel" "litOr" "[Z") ∈ gTBL := tIn5 122 (by decide +kernel) rfl
theorem ww1083 : (Cond.fieldLink "SkyTrialModel" (98 : Nat) "SkyTrialModel" "litLeft" "[I") ∈ gTBL := tIn5 123 (by decide +kernel) rfl
theorem ww1084 : (Cond.fieldLink "SkyTrialModel" (101 : Nat) "SkyTrialModel" "litRight" "[I") ∈ gTBL := tIn5 124 (by decide +kernel) rfl
theorem ww1085 : (Cond.fieldLink "SkyTrialModel" (104 : Nat) "SkyTrialModel" "litEnd" "[I") ∈ gTBL := tIn5 125 (by decide +kernel) rfl
theorem ww1086 : (Cond.fieldLink "SkyTrialModel" (242 : Nat) "SkyTrialModel" "codes" "I") ∈ gTBL := tIn5 126 (by decide +kernel) rfl
theorem ww1087 : (Cond.fieldLink "SkyTrialModel" (107 : Nat) "SkyTrialModel" "code" "[I") ∈ gTBL := tIn5 127 (by decide +kernel) rfl
theorem ww1088 : (Cond.fieldLink "SkyTrialModel" (110 : Nat) "SkyTrialModel" "codeInt" "[I") ∈ gTBL := tIn5 128 (by decide +kernel) rfl
theorem ww1089 : (Cond.fieldLink "SkyTrialModel" (113 : Nat) "SkyTrialModel" "waits" "[I") ∈ gTBL := tIn5 129 (by decide +kernel) rfl
theorem ww1090 : (Cond.fieldLink "SkyTrialModel" (291 : Nat) "SkyTrialModel" "waiting" "I") ∈ gTBL := tIn5 130 (by decide +kernel) rfl
theorem ww1091 : (Cond.fieldLink "SkyTrialModel" (116 : Nat) "SkyTrialModel" "variables" "[I") ∈ gTBL := tIn5 131 (by decide +kernel) rfl
theorem ww1092 : (Cond.fieldLink "SkyTrialModel" (119 : Nat) "SkyTrialModel" "pile" "[I") ∈ gTBL := tIn5 132 (by decide +kernel) rfl
theorem ww1093 : (Cond.fieldLink "SkyTrialModel" (310 : Nat) "SkyTrialModel" "people" "I") ∈ gTBL := tIn5 133 (by decide +kernel) rfl
theorem ww1094 : (Cond.fieldLink "SkyTrialModel" (122 : Nat) "SkyTrialModel" "minutes" "[I") ∈ gTBL := tIn5 134 (by decide +kernel) rfl
theorem ww1095 : (Cond.fieldLink "SkyTrialModel" (125 : Nat) "SkyTrialModel" "months" "[I") ∈ gTBL := tIn5 135 (by decide +kernel) rfl
theorem ww1096 : (Cond.fieldLink "SkyTrialModel" (128 : Nat) "SkyTrialModel" "years" "[I") ∈ gTBL := tIn5 136 (by decide +kernel) rfl
theorem ww1097 : (Cond.fieldLink "SkyTrialModel" (131 : Nat) "SkyTrialModel" "coats" "[I") ∈ gTBL := tIn5 137 (by decide +kernel) rfl
theorem ww1098 : (Cond.fieldLink "SkyTrialModel" (134 : Nat) "SkyTrialModel" "ways" "[I") ∈ gTBL := tIn5 138 (by decide +kernel) rfl
theorem ww1099 : (Cond.fieldLink "SkyTrialModel" (137 : Nat) "SkyTrialModel" "isTrueNow" "[Z") ∈ gTBL := tIn5 139 (by decide +kernel) rfl
theorem ww1100 : (Cond.fieldLink "SkyTrialModel" (140 : Nat) "SkyTrialModel" "rows" "[J") ∈ gTBL := tIn5 140 (by decide +kernel) rfl
theorem ww1101 : (Cond.fieldLink "SkyTrialModel" (143 : Nat) "SkyTrialModel" "after" "[J") ∈ gTBL := tIn5 141 (by decide +kernel) rfl
theorem ww1102 : (Cond.fieldLink "SkyTrialModel" (425 : Nat) "SkyTrialModel" "facts" "I") ∈ gTBL := tIn5 142 (by decide +kernel) rfl
theorem ww1103 : (Cond.fieldLink "SkyTrialModel" (146 : Nat) "SkyTrialModel" "factSort" "[I") ∈ gTBL := tIn5 143 (by decide +kernel) rfl
theorem ww1104 : (Cond.fieldLink "SkyTrialModel" (149 : Nat) "SkyTrialModel" "factA" "[I") ∈ gTBL := tIn5 144 (by decide +kernel) rfl
theorem ww1105 : (Cond.fieldLink "SkyTrialModel" (152 : Nat) "SkyTrialModel" "factB" "[I") ∈ gTBL := tIn5 145 (by decide +kernel) rfl
theorem ww1106 : (Cond.fieldLink "SkyTrialModel" (155 : Nat) "SkyTrialModel" "isRight" "[Z") ∈ gTBL := tIn5 146 (by decide +kernel) rfl
theorem ww1242 : (Cond.methodLink "SkyTrialModel" (165 : Nat) ({ cls := "SkyTrialModel", name := "put", desc := "(I)V" } : Jvm.MethodName)) ∈ gTBL := tIn6 42 (by decide +kernel) rfl
theorem ww1244 : (Cond.instanceMethod ({ cls := "SkyTrialModel", name := "put", desc := "(I)V" } : Jvm.MethodName)) ∈ gTBL := tIn6 44 (by decide +kernel) rfl
theorem ww1245 : (Cond.code ({ cls := "SkyTrialModel", name := "put", desc := "(I)V" } : Jvm.MethodName) prog_13_method_4_code (3 : Nat) (Option.none : Option Jvm.ClassFile.FieldType)) ∈ gTBL := tIn6 45 (by decide +kernel) rfl
theorem ww1254 : (Cond.methodLink "SkyTrialModel" (224 : Nat) ({ cls := "SkyTrialModel", name := "cut", desc := "()V" } : Jvm.MethodName)) ∈ gTBL := tIn6 54 (by decide +kernel) rfl
theorem ww1256 : (Cond.instanceMethod ({ cls := "SkyTrialModel", name := "cut", desc := "()V" } : Jvm.MethodName)) ∈ gTBL := tIn6 56 (by decide +kernel) rfl
theorem ww1257 : (Cond.code ({ cls := "SkyTrialModel", name := "cut", desc := "()V" } : Jvm.MethodName) prog_13_method_12_code (8 : Nat) (Option.none : Option Jvm.ClassFile.FieldType)) ∈ gTBL := tIn6 57 (by decide +kernel) rfl
theorem ww1258 : (Cond.methodLink "SkyTrialModel" (181 : Nat) ({ cls := "SkyTrialModel", name := "byteAt", desc := "(I)I" } : Jvm.MethodName)) ∈ gTBL := tIn6 58 (by decide +kernel) rfl
theorem ww1260 : (Cond.instanceMethod ({ cls := "SkyTrialModel", name := "byteAt", desc := "(I)I" } : Jvm.MethodName)) ∈ gTBL := tIn6 60 (by decide +kernel) rfl
theorem ww1261 : (Cond.code ({ cls := "SkyTrialModel", name := "byteAt", desc := "(I)I" } : Jvm.MethodName) prog_13_method_6_code (2 : Nat) (Option.some Jvm.ClassFile.FieldType.int)) ∈ gTBL := tIn6 61 (by decide +kernel) rfl
theorem ww1262 : (Cond.methodLink "SkyTrialModel" (185 : Nat) ({ cls := "SkyTrialModel", name := "token", desc := "(IIIJ)V" } : Jvm.MethodName)) ∈ gTBL := tIn6 62 (by decide +kernel) rfl
theorem ww1264 : (Cond.instanceMethod ({ cls := "SkyTrialModel", name := "token", desc := "(IIIJ)V" } : Jvm.MethodName)) ∈ gTBL := tIn6 64 (by decide +kernel) rfl
theorem ww1265 : (Cond.code ({ cls := "SkyTrialModel", name := "token", desc := "(IIIJ)V" } : Jvm.MethodName) prog_13_method_11_code (6 : Nat) (Option.none : Option Jvm.ClassFile.FieldType)) ∈ gTBL := tIn6 65 (by decide +kernel) rfl
theorem ww1266 : (Cond.methodLink "SkyTrialModel" (189 : Nat) ({ cls := "SkyTrialModel", name := "isLetter", desc := "(I)Z" } : Jvm.MethodName)) ∈ gTBL := tIn6 66 (by decide +kernel) rfl
theorem ww1267 : (Cond.static ({ cls := "SkyTrialModel", name := "isLetter", desc := "(I)Z" } : Jvm.MethodName)) ∈ gTBL := tIn6 67 (by decide +kernel) rfl
theorem ww1268 : (Cond.code ({ cls := "SkyTrialModel", name := "isLetter", desc := "(I)Z" } : Jvm.MethodName) prog_13_method_8_code (1 : Nat) (Option.some Jvm.ClassFile.FieldType.boolean)) ∈ gTBL := tIn6 68 (by decide +kernel) rfl
theorem ww1269 : (Cond.methodLink "SkyTrialModel" (193 : Nat) ({ cls := "SkyTrialModel", name := "isDigit", desc := "(I)Z" } : Jvm.MethodName)) ∈ gTBL := tIn6 69 (by decide +kernel) rfl
theorem ww1270 : (Cond.static ({ cls := "SkyTrialModel", name := "isDigit", desc := "(I)Z" } : Jvm.MethodName)) ∈ gTBL := tIn6 70 (by decide +kernel) rfl
theorem ww1271 : (Cond.code ({ cls := "SkyTrialModel", name := "isDigit", desc := "(I)Z" } : Jvm.MethodName) prog_13_method_7_code (1 : Nat) (Option.some Jvm.ClassFile.FieldType.boolean)) ∈ gTBL := tIn6 71 (by decide +kernel) rfl
theorem ww1272 : (Cond.methodLink "SkyTrialModel" (196 : Nat) ({ cls := "SkyTrialModel", name := "sign", desc := "(III)I" } : Jvm.MethodName)) ∈ gTBL := tIn6 72 (by decide +kernel) rfl
theorem ww1274 : (Cond.instanceMethod ({ cls := "SkyTrialModel", name := "sign", desc := "(III)I" } : Jvm.MethodName)) ∈ gTBL := tIn6 74 (by decide +kernel) rfl
theorem ww1275 : (Cond.code ({ cls := "SkyTrialModel", name := "sign", desc := "(III)I" } : Jvm.MethodName) prog_13_method_13_code (6 : Nat) (Option.some Jvm.ClassFile.FieldType.int)) ∈ gTBL := tIn6 75 (by decide +kernel) rfl
theorem ww1276 : (Cond.methodLink "SkyTrialModel" (218 : Nat) ({ cls := "SkyTrialModel", name := "is", desc := "(I)Z" } : Jvm.MethodName)) ∈ gTBL := tIn6 76 (by decide +kernel) rfl
theorem ww1278 : (Cond.instanceMethod ({ cls := "SkyTrialModel", name := "is", desc := "(I)Z" } : Jvm.MethodName)) ∈ gTBL := tIn6 78 (by decide +kernel) rfl
theorem ww1279 : (Cond.code ({ cls := "SkyTrialModel", name := "is", desc := "(I)Z" } : Jvm.MethodName) prog_13_method_14_code (2 : Nat) (Option.some Jvm.ClassFile.FieldType.boolean)) ∈ gTBL := tIn6 79 (by decide +kernel) rfl
theorem ww1280 : (Cond.methodLink "SkyTrialModel" (245 : Nat) ({ cls := "SkyTrialModel", name := "tell", desc := "()V" } : Jvm.MethodName)) ∈ gTBL := tIn6 80 (by decide +kernel) rfl
theorem ww1282 : (Cond.instanceMethod ({ cls := "SkyTrialModel", name := "tell", desc := "()V" } : Jvm.MethodName)) ∈ gTBL := tIn6 82 (by decide +kernel) rfl
theorem ww1283 : (Cond.code ({ cls := "SkyTrialModel", name := "tell", desc := "()V" } : Jvm.MethodName) prog_13_method_21_code (1 : Nat) (Option.none : Option Jvm.ClassFile.FieldType)) ∈ gTBL := tIn6 83 (by decide +kernel) rfl
theorem ww1284 : (Cond.methodLink "SkyTrialModel" (215 : Nat) ({ cls := "SkyTrialModel", name := "fail", desc := "(I)V" } : Jvm.MethodName)) ∈ gTBL := tIn6 84 (by decide +kernel) rfl
theorem ww1286 : (Cond.instanceMethod ({ cls := "SkyTrialModel", name := "fail", desc := "(I)V" } : Jvm.MethodName)) ∈ gTBL := tIn6 86 (by decide +kernel) rfl
theorem ww1287 : (Cond.code ({ cls := "SkyTrialModel", name := "fail", desc := "(I)V" } : Jvm.MethodName) prog_13_method_15_code (2 : Nat) (Option.none : Option Jvm.ClassFile.FieldType)) ∈ gTBL := tIn6 87 (by decide +kernel) rfl
theorem ww1288 : (Cond.methodLink "SkyTrialModel" (248 : Nat) ({ cls := "SkyTrialModel", name := "tellSign", desc := "()V" } : Jvm.MethodName)) ∈ gTBL := tIn6 88 (by decide +kernel) rfl
theorem ww1290 : (Cond.instanceMethod ({ cls := "SkyTrialModel", name := "tellSign", desc := "()V" } : Jvm.MethodName)) ∈ gTBL := tIn6 90 (by decide +kernel) rfl
theorem ww1291 : (Cond.code ({ cls := "SkyTrialModel", name := "tellSign", desc := "()V" } : Jvm.MethodName) prog_13_method_26_code (2 : Nat) (Option.none : Option Jvm.ClassFile.FieldType)) ∈ gTBL := tIn6 91 (by decide +kernel) rfl
theorem ww1292 : (Cond.methodLink "SkyTrialModel" (221 : Nat) ({ cls := "SkyTrialModel", name := "goesOn", desc := "()V" } : Jvm.MethodName)) ∈ gTBL := tIn6 92 (by decide +kernel) rfl
theorem ww1294 : (Cond.instanceMethod ({ cls := "SkyTrialModel", name := "goesOn", desc := "()V" } : Jvm.MethodName)) ∈ gTBL := tIn6 94 (by decide +kernel) rfl
theorem ww1295 : (Cond.code ({ cls := "SkyTrialModel", name := "goesOn", desc := "()V" } : Jvm.MethodName) prog_13_method_17_code (1 : Nat) (Option.none : Option Jvm.ClassFile.FieldType)) ∈ gTBL := tIn6 95 (by decide +kernel) rfl
theorem ww1296 : (Cond.methodLink "SkyTrialModel" (274 : Nat) ({ cls := "SkyTrialModel", name := "named", desc := "()I" } : Jvm.MethodName)) ∈ gTBL := tIn6 96 (by decide +kernel) rfl
theorem ww1298 : (Cond.instanceMethod ({ cls := "SkyTrialModel", name := "named", desc := "()I" } : Jvm.MethodName)) ∈ gTBL := tIn6 98 (by decide +kernel) rfl
theorem ww1299 : (Cond.code ({ cls := "SkyTrialModel", name := "named", desc := "()I" } : Jvm.MethodName) prog_13_method_22_code (3 : Nat) (Option.some Jvm.ClassFile.FieldType.int)) ∈ gTBL := tIn6 99 (by decide +kernel) rfl
theorem ww1300 : (Cond.methodLink "SkyTrialModel" (263 : Nat) ({ cls := "SkyTrialModel", name := "must", desc := "(I)V" } : Jvm.MethodName)) ∈ gTBL := tIn6 100 (by decide +kernel) rfl
theorem ww1302 : (Cond.instanceMethod ({ cls := "SkyTrialModel", name := "must", desc := "(I)V" } : Jvm.MethodName)) ∈ gTBL := tIn6 102 (by decide +kernel) rfl
theorem ww1303 : (Cond.code ({ cls := "SkyTrialModel", name := "must", desc := "(I)V" } : Jvm.MethodName) prog_13_method_18_code (2 : Nat) (Option.none : Option Jvm.ClassFile.FieldType)) ∈ gTBL := tIn6 103 (by decide +kernel) rfl
theorem ww1304 : (Cond.methodLink "SkyTrialModel" (266 : Nat) ({ cls := "SkyTrialModel", name := "wrong", desc := "(II)V" } : Jvm.MethodName)) ∈ gTBL := tIn6 104 (by decide +kernel) rfl
theorem ww1306 : (Cond.instanceMethod ({ cls := "SkyTrialModel", name := "wrong", desc := "(II)V" } : Jvm.MethodName)) ∈ gTBL := tIn6 106 (by decide +kernel) rfl
theorem ww1307 : (Cond.code ({ cls := "SkyTrialModel", name := "wrong", desc := "(II)V" } : Jvm.MethodName) prog_13_method_16_code (4 : Nat) (Option.none : Option Jvm.ClassFile.FieldType)) ∈ gTBL := tIn6 107 (by decide +kernel) rfl
theorem ww1308 : (Cond.methodLink "SkyTrialModel" (278 : Nat) ({ cls := "SkyTrialModel", name := "condition", desc := "(I)V" } : Jvm.MethodName)) ∈ gTBL := tIn6 108 (by decide +kernel) rfl
theorem ww1310 : (Cond.instanceMethod ({ cls := "SkyTrialModel", name := "condition", desc := "(I)V" } : Jvm.MethodName)) ∈ gTBL := tIn6 110 (by decide +kernel) rfl
theorem ww1311 : (Cond.code ({ cls := "SkyTrialModel", name := "condition", desc := "(I)V" } : Jvm.MethodName) prog_13_method_25_code (4 : Nat) (Option.none : Option Jvm.ClassFile.FieldType)) ∈ gTBL := tIn6 111 (by decide +kernel) rfl
theorem ww1312 : (Cond.methodLink "SkyTrialModel" (270 : Nat) ({ cls := "SkyTrialModel", name := "literal", desc := "(Z)V" } : Jvm.MethodName)) ∈ gTBL := tIn6 112 (by decide +kernel) rfl
theorem ww1314 : (Cond.instanceMethod ({ cls := "SkyTrialModel", name := "literal", desc := "(Z)V" } : Jvm.MethodName)) ∈ gTBL := tIn6 114 (by decide +kernel) rfl
theorem ww1315 : (Cond.code ({ cls := "SkyTrialModel", name := "literal", desc := "(Z)V" } : Jvm.MethodName) prog_13_method_31_code (6 : Nat) (Option.none : Option Jvm.ClassFile.FieldType)) ∈ gTBL := tIn6 115 (by decide +kernel) rfl
theorem ww1316 : (Cond.methodLink "SkyTrialModel" (288 : Nat) ({ cls := "SkyTrialModel", name := "expression", desc := "()V" } : Jvm.MethodName)) ∈ gTBL := tIn6 116 (by decide +kernel) rfl
theorem ww1318 : (Cond.instanceMethod ({ cls := "SkyTrialModel", name := "expression", desc := "()V" } : Jvm.MethodName)) ∈ gTBL := tIn6 118 (by decide +kernel) rfl
theorem ww1319 : (Cond.code ({ cls := "SkyTrialModel", name := "expression", desc := "()V" } : Jvm.MethodName) prog_13_method_34_code (3 : Nat) (Option.none : Option Jvm.ClassFile.FieldType)) ∈ gTBL := tIn6 119 (by decide +kernel) rfl
theorem ww1320 : (Cond.methodLink "SkyTrialModel" (297 : Nat) ({ cls := "SkyTrialModel", name := "unit", desc := "()V" } : Jvm.MethodName)) ∈ gTBL := tIn6 120 (by decide +kernel) rfl
theorem ww1322 : (Cond.instanceMethod ({ cls := "SkyTrialModel", name := "unit", desc := "()V" } : Jvm.MethodName)) ∈ gTBL := tIn6 122 (by decide +kernel) rfl
theorem ww1323 : (Cond.code ({ cls := "SkyTrialModel", name := "unit", desc := "()V" } : Jvm.MethodName) prog_13_method_35_code (1 : Nat) (Option.none : Option Jvm.ClassFile.FieldType)) ∈ gTBL := tIn6 123 (by decide +kernel) rfl
theorem ww1324 : (Cond.methodLink "SkyTrialModel" (294 : Nat) ({ cls := "SkyTrialModel", name := "emit", desc := "(II)V" } : Jvm.MethodName)) ∈ gTBL := tIn6 124 (by decide +kernel) rfl
theorem ww1326 : (Cond.instanceMethod ({ cls := "SkyTrialModel", name := "emit", desc := "(II)V" } : Jvm.MethodName)) ∈ gTBL := tIn6 126 (by decide +kernel) rfl
theorem ww1327 : (Cond.code ({ cls := "SkyTrialModel", name := "emit", desc := "(II)V" } : Jvm.MethodName) prog_13_method_32_code (3 : Nat) (Option.none : Option Jvm.ClassFile.FieldType)) ∈ gTBL := tIn6 127 (by decide +kernel) rfl
theorem ww1328 : (Cond.methodLink "SkyTrialModel" (300 : Nat) ({ cls := "SkyTrialModel", name := "comesOut", desc := "(Z)V" } : Jvm.MethodName)) ∈ gTBL := tIn6 128 (by decide +kernel) rfl
theorem ww1330 : (Cond.instanceMethod ({ cls := "SkyTrialModel", name := "comesOut", desc := "(Z)V" } : Jvm.MethodName)) ∈ gTBL := tIn6 130 (by decide +kernel) rfl
theorem ww1331 : (Cond.code ({ cls := "SkyTrialModel", name := "comesOut", desc := "(Z)V" } : Jvm.MethodName) prog_13_method_33_code (3 : Nat) (Option.none : Option Jvm.ClassFile.FieldType)) ∈ gTBL := tIn6 131 (by decide +kernel) rfl
theorem ww1332 : (Cond.methodLink "SkyTrialModel" (281 : Nat) ({ cls := "SkyTrialModel", name := "knows", desc := "(III)V" } : Jvm.MethodName)) ∈ gTBL := tIn6 132 (by decide +kernel) rfl
theorem ww1334 : (Cond.instanceMethod ({ cls := "SkyTrialModel", name := "knows", desc := "(III)V" } : Jvm.MethodName)) ∈ gTBL := tIn6 134 (by decide +kernel) rfl
theorem ww1335 : (Cond.code ({ cls := "SkyTrialModel", name := "knows", desc := "(III)V" } : Jvm.MethodName) prog_13_method_23_code (4 : Nat) (Option.none : Option Jvm.ClassFile.FieldType)) ∈ gTBL := tIn6 135 (by decide +kernel) rfl
theorem ww1336 : (Cond.methodLink "SkyTrialModel" (251 : Nat) ({ cls := "SkyTrialModel", name := "tellSay", desc := "()V" } : Jvm.MethodName)) ∈ gTBL := tIn6 136 (by decide +kernel) rfl
theorem ww1338 : (Cond.instanceMethod ({ cls := "SkyTrialModel", name := "tellSay", desc := "()V" } : Jvm.MethodName)) ∈ gTBL := tIn6 138 (by decide +kernel) rfl
theorem ww1339 : (Cond.code ({ cls := "SkyTrialModel", name := "tellSay", desc := "()V" } : Jvm.MethodName) prog_13_method_27_code (2 : Nat) (Option.none : Option Jvm.ClassFile.FieldType)) ∈ gTBL := tIn6 139 (by decide +kernel) rfl
theorem ww1340 : (Cond.methodLink "SkyTrialModel" (254 : Nat) ({ cls := "SkyTrialModel", name := "tellBook", desc := "()V" } : Jvm.MethodName)) ∈ gTBL := tIn6 140 (by decide +kernel) rfl
theorem ww1342 : (Cond.instanceMethod ({ cls := "SkyTrialModel", name := "tellBook", desc := "()V" } : Jvm.MethodName)) ∈ gTBL := tIn6 142 (by decide +kernel) rfl
theorem ww1343 : (Cond.code ({ cls := "SkyTrialModel", name := "tellBook", desc := "()V" } : Jvm.MethodName) prog_13_method_28_code (2 : Nat) (Option.none : Option Jvm.ClassFile.FieldType)) ∈ gTBL := tIn6 143 (by decide +kernel) rfl
theorem ww1344 : (Cond.methodLink "SkyTrialModel" (257 : Nat) ({ cls := "SkyTrialModel", name := "tellWhen", desc := "()V" } : Jvm.MethodName)) ∈ gTBL := tIn6 144 (by decide +kernel) rfl
theorem ww1346 : (Cond.instanceMethod ({ cls := "SkyTrialModel", name := "tellWhen", desc := "()V" } : Jvm.MethodName)) ∈ gTBL := tIn6 146 (by decide +kernel) rfl
theorem ww1347 : (Cond.code ({ cls := "SkyTrialModel", name := "tellWhen", desc := "()V" } : Jvm.MethodName) prog_13_method_29_code (6 : Nat) (Option.none : Option Jvm.ClassFile.FieldType)) ∈ gTBL := tIn6 147 (by decide +kernel) rfl
theorem ww1348 : (Cond.methodLink "SkyTrialModel" (285 : Nat) ({ cls := "SkyTrialModel", name := "known", desc := "(I)I" } : Jvm.MethodName)) ∈ gTBL := tIn6 148 (by decide +kernel) rfl
theorem ww1350 : (Cond.instanceMethod ({ cls := "SkyTrialModel", name := "known", desc := "(I)I" } : Jvm.MethodName)) ∈ gTBL := tIn6 150 (by decide +kernel) rfl
theorem ww1351 : (Cond.code ({ cls := "SkyTrialModel", name := "known", desc := "(I)I" } : Jvm.MethodName) prog_13_method_24_code (5 : Nat) (Option.some Jvm.ClassFile.FieldType.int)) ∈ gTBL := tIn6 151 (by decide +kernel) rfl
theorem ww1352 : (Cond.methodLink "SkyTrialModel" (260 : Nat) ({ cls := "SkyTrialModel", name := "tellLaw", desc := "()V" } : Jvm.MethodName)) ∈ gTBL := tIn6 152 (by decide +kernel) rfl
theorem ww1354 : (Cond.instanceMethod ({ cls := "SkyTrialModel", name := "tellLaw", desc := "()V" } : Jvm.MethodName)) ∈ gTBL := tIn6 154 (by decide +kernel) rfl
theorem ww1355 : (Cond.code ({ cls := "SkyTrialModel", name := "tellLaw", desc := "()V" } : Jvm.MethodName) prog_13_method_30_code (3 : Nat) (Option.none : Option Jvm.ClassFile.FieldType)) ∈ gTBL := tIn6 155 (by decide +kernel) rfl
theorem ww1364 : (Cond.methodLink "SkyTrialModel" (313 : Nat) ({ cls := "SkyTrialModel", name := "in", desc := "(III)Z" } : Jvm.MethodName)) ∈ gTBL := tIn6 164 (by decide +kernel) rfl
theorem ww1365 : (Cond.static ({ cls := "SkyTrialModel", name := "in", desc := "(III)Z" } : Jvm.MethodName)) ∈ gTBL := tIn6 165 (by decide +kernel) rfl
theorem ww1366 : (Cond.code ({ cls := "SkyTrialModel", name := "in", desc := "(III)Z" } : Jvm.MethodName) prog_13_method_39_code (3 : Nat) (Option.some Jvm.ClassFile.FieldType.boolean)) ∈ gTBL := tIn6 166 (by decide +kernel) rfl
theorem ww1367 : (Cond.constant "SkyTrialModel" (317 : Nat) (99999999 : Int32)) ∈ gTBL := tIn6 167 (by decide +kernel) rfl
theorem ww1372 : (Cond.methodLink "SkyTrialModel" (322 : Nat) ({ cls := "SkyTrialModel", name := "lot", desc := "(III)I" } : Jvm.MethodName)) ∈ gTBL := tIn6 172 (by decide +kernel) rfl
theorem ww1373 : (Cond.static ({ cls := "SkyTrialModel", name := "lot", desc := "(III)I" } : Jvm.MethodName)) ∈ gTBL := tIn6 173 (by decide +kernel) rfl
theorem ww1374 : (Cond.code ({ cls := "SkyTrialModel", name := "lot", desc := "(III)I" } : Jvm.MethodName) prog_13_method_47_code (3 : Nat) (Option.some Jvm.ClassFile.FieldType.int)) ∈ gTBL := tIn6 174 (by decide +kernel) rfl
theorem ww1375 : (Cond.methodLink "SkyTrialModel" (319 : Nat) ({ cls := "SkyTrialModel", name := "mixed", desc := "(II)I" } : Jvm.MethodName)) ∈ gTBL := tIn6 175 (by decide +kernel) rfl
theorem ww1376 : (Cond.static ({ cls := "SkyTrialModel", name := "mixed", desc := "(II)I" } : Jvm.MethodName)) ∈ gTBL := tIn6 176 (by decide +kernel) rfl
theorem ww1377 : (Cond.code ({ cls := "SkyTrialModel", name := "mixed", desc := "(II)I" } : Jvm.MethodName) prog_13_method_46_code (3 : Nat) (Option.some Jvm.ClassFile.FieldType.int)) ∈ gTBL := tIn6 177 (by decide +kernel) rfl
theorem ww1378 : (Cond.constant "SkyTrialModel" (318 : Nat) (1103515245 : Int32)) ∈ gTBL := tIn6 178 (by decide +kernel) rfl
theorem ww1379 : (Cond.methodLink "SkyTrialModel" (325 : Nat) ({ cls := "SkyTrialModel", name := "isUp", desc := "(III)Z" } : Jvm.MethodName)) ∈ gTBL := tIn6 179 (by decide +kernel) rfl
theorem ww1381 : (Cond.instanceMethod ({ cls := "SkyTrialModel", name := "isUp", desc := "(III)Z" } : Jvm.MethodName)) ∈ gTBL := tIn6 181 (by decide +kernel) rfl
theorem ww1382 : (Cond.code ({ cls := "SkyTrialModel", name := "isUp", desc := "(III)Z" } : Jvm.MethodName) prog_13_method_51_code (4 : Nat) (Option.some Jvm.ClassFile.FieldType.boolean)) ∈ gTBL := tIn6 182 (by decide +kernel) rfl
theorem ww1383 : (Cond.methodLink "SkyTrialModel" (331 : Nat) ({ cls := "SkyTrialModel", name := "looksAt", desc := "(II)V" } : Jvm.MethodName)) ∈ gTBL := tIn6 183 (by decide +kernel) rfl
theorem ww1385 : (Cond.instanceMethod ({ cls := "SkyTrialModel", name := "looksAt", desc := "(II)V" } : Jvm.MethodName)) ∈ gTBL := tIn6 185 (by decide +kernel) rfl
theorem ww1386 : (Cond.code ({ cls := "SkyTrialModel", name := "looksAt", desc := "(II)V" } : Jvm.MethodName) prog_13_method_50_code (4 : Nat) (Option.none : Option Jvm.ClassFile.FieldType)) ∈ gTBL := tIn6 186 (by decide +kernel) rfl
theorem ww1387 : (Cond.methodLink "SkyTrialModel" (334 : Nat) ({ cls := "SkyTrialModel", name := "holdsRule", desc := "(I)Z" } : Jvm.MethodName)) ∈ gTBL := tIn6 187 (by decide +kernel) rfl
theorem ww1389 : (Cond.instanceMethod ({ cls := "SkyTrialModel", name := "holdsRule", desc := "(I)Z" } : Jvm.MethodName)) ∈ gTBL := tIn6 189 (by decide +kernel) rfl
theorem ww1390 : (Cond.code ({ cls := "SkyTrialModel", name := "holdsRule", desc := "(I)Z" } : Jvm.MethodName) prog_13_method_38_code (4 : Nat) (Option.some Jvm.ClassFile.FieldType.boolean)) ∈ gTBL := tIn6 190 (by decide +kernel) rfl
theorem ww1391 : (Cond.methodLink "SkyTrialModel" (307 : Nat) ({ cls := "SkyTrialModel", name := "isTrue", desc := "(I)Z" } : Jvm.MethodName)) ∈ gTBL := tIn6 191 (by decide +kernel) rfl
theorem ww1393 : (Cond.instanceMethod ({ cls := "SkyTrialModel", name := "isTrue", desc := "(I)Z" } : Jvm.MethodName)) ∈ gTBL := tIn6 193 (by decide +kernel) rfl
theorem ww1394 : (Cond.code ({ cls := "SkyTrialModel", name := "isTrue", desc := "(I)Z" } : Jvm.MethodName) prog_13_method_37_code (5 : Nat) (Option.some Jvm.ClassFile.FieldType.boolean)) ∈ gTBL := tIn6 194 (by decide +kernel) rfl
theorem ww1395 : (Cond.methodLink "SkyTrialModel" (303 : Nat) ({ cls := "SkyTrialModel", name := "termOf", desc := "(II)I" } : Jvm.MethodName)) ∈ gTBL := tIn6 195 (by decide +kernel) rfl
theorem ww1397 : (Cond.instanceMethod ({ cls := "SkyTrialModel", name := "termOf", desc := "(II)I" } : Jvm.MethodName)) ∈ gTBL := tIn6 197 (by decide +kernel) rfl
theorem ww1398 : (Cond.code ({ cls := "SkyTrialModel", name := "termOf", desc := "(II)I" } : Jvm.MethodName) prog_13_method_36_code (8 : Nat) (Option.some Jvm.ClassFile.FieldType.int)) ∈ gTBL := tIn6 198 (by decide +kernel) rfl
theorem ww1403 : (Cond.methodLink "SkyTrialModel" (328 : Nat) ({ cls := "SkyTrialModel", name := "isPerson", desc := "(I)Z" } : Jvm.MethodName)) ∈ gTBL := tIn6 203 (by decide +kernel) rfl
theorem ww1405 : (Cond.instanceMethod ({ cls := "SkyTrialModel", name := "isPerson", desc := "(I)Z" } : Jvm.MethodName)) ∈ gTBL := tIn6 205 (by decide +kernel) rfl
theorem ww1406 : (Cond.code ({ cls := "SkyTrialModel", name := "isPerson", desc := "(I)Z" } : Jvm.MethodName) prog_13_method_40_code (2 : Nat) (Option.some Jvm.ClassFile.FieldType.boolean)) ∈ gTBL := tIn6 206 (by decide +kernel) rfl
theorem ww1411 : (Cond.methodLink "SkyTrialModel" (337 : Nat) ({ cls := "SkyTrialModel", name := "signsOf", desc := "(II)I" } : Jvm.MethodName)) ∈ gTBL := tIn6 211 (by decide +kernel) rfl
theorem ww1413 : (Cond.instanceMethod ({ cls := "SkyTrialModel", name := "signsOf", desc := "(II)I" } : Jvm.MethodName)) ∈ gTBL := tIn6 213 (by decide +kernel) rfl
theorem ww1414 : (Cond.code ({ cls := "SkyTrialModel", name := "signsOf", desc := "(II)I" } : Jvm.MethodName) prog_13_method_52_code (5 : Nat) (Option.some Jvm.ClassFile.FieldType.int)) ∈ gTBL := tIn6 214 (by decide +kernel) rfl
theorem ww1419 : (Cond.methodLink "SkyTrialModel" (340 : Nat) ({ cls := "SkyTrialModel", name := "round", desc := "(II)I" } : Jvm.MethodName)) ∈ gTBL := tIn6 219 (by decide +kernel) rfl
theorem ww1420 : (Cond.static ({ cls := "SkyTrialModel", name := "round", desc := "(II)I" } : Jvm.MethodName)) ∈ gTBL := tIn6 220 (by decide +kernel) rfl
theorem ww1421 : (Cond.code ({ cls := "SkyTrialModel", name := "round", desc := "(II)I" } : Jvm.MethodName) prog_13_method_54_code (2 : Nat) (Option.some Jvm.ClassFile.FieldType.int)) ∈ gTBL := tIn6 221 (by decide +kernel) rfl
theorem ww1430 : (Cond.methodLink "SkyTrialModel" (343 : Nat) ({ cls := "SkyTrialModel", name := "isSay", desc := "(I)Z" } : Jvm.MethodName)) ∈ gTBL := tIn6 230 (by decide +kernel) rfl
theorem ww1432 : (Cond.instanceMethod ({ cls := "SkyTrialModel", name := "isSay", desc := "(I)Z" } : Jvm.MethodName)) ∈ gTBL := tIn6 232 (by decide +kernel) rfl
theorem ww1433 : (Cond.code ({ cls := "SkyTrialModel", name := "isSay", desc := "(I)Z" } : Jvm.MethodName) prog_13_method_42_code (2 : Nat) (Option.some Jvm.ClassFile.FieldType.boolean)) ∈ gTBL := tIn6 233 (by decide +kernel) rfl
theorem ww1434 : (Cond.methodLink "SkyTrialModel" (346 : Nat) ({ cls := "SkyTrialModel", name := "isTrueOf", desc := "(II)Z" } : Jvm.MethodName)) ∈ gTBL := tIn6 234 (by decide +kernel) rfl
theorem ww1436 : (Cond.instanceMethod ({ cls := "SkyTrialModel", name := "isTrueOf", desc := "(II)Z" } : Jvm.MethodName)) ∈ gTBL := tIn6 236 (by decide +kernel) rfl
theorem ww1437 : (Cond.code ({ cls := "SkyTrialModel", name := "isTrueOf", desc := "(II)Z" } : Jvm.MethodName) prog_13_method_57_code (3 : Nat) (Option.some Jvm.ClassFile.FieldType.boolean)) ∈ gTBL := tIn6 237 (by decide +kernel) rfl
theorem ww1446 : (Cond.methodLink "SkyTrialModel" (353 : Nat) ({ cls := "SkyTrialModel", name := "isBook", desc := "(I)Z" } : Jvm.MethodName)) ∈ gTBL := tIn7 6 (by decide +kernel) rfl
theorem ww1448 : (Cond.instanceMethod ({ cls := "SkyTrialModel", name := "isBook", desc := "(I)Z" } : Jvm.MethodName)) ∈ gTBL := tIn7 8 (by decide +kernel) rfl
theorem ww1449 : (Cond.code ({ cls := "SkyTrialModel", name := "isBook", desc := "(I)Z" } : Jvm.MethodName) prog_13_method_43_code (2 : Nat) (Option.some Jvm.ClassFile.FieldType.boolean)) ∈ gTBL := tIn7 9 (by decide +kernel) rfl
theorem ww1450 : (Cond.methodLink "SkyTrialModel" (356 : Nat) ({ cls := "SkyTrialModel", name := "paperOf", desc := "(II)I" } : Jvm.MethodName)) ∈ gTBL := tIn7 10 (by decide +kernel) rfl
theorem ww1452 : (Cond.instanceMethod ({ cls := "SkyTrialModel", name := "paperOf", desc := "(II)I" } : Jvm.MethodName)) ∈ gTBL := tIn7 12 (by decide +kernel) rfl
theorem ww1453 : (Cond.code ({ cls := "SkyTrialModel", name := "paperOf", desc := "(II)I" } : Jvm.MethodName) prog_13_method_61_code (3 : Nat) (Option.some Jvm.ClassFile.FieldType.int)) ∈ gTBL := tIn7 13 (by decide +kernel) rfl
theorem ww1454 : (Cond.methodLink "SkyTrialModel" (350 : Nat) ({ cls := "SkyTrialModel", name := "paperBy", desc := "(II)I" } : Jvm.MethodName)) ∈ gTBL := tIn7 14 (by decide +kernel) rfl
theorem ww1456 : (Cond.instanceMethod ({ cls := "SkyTrialModel", name := "paperBy", desc := "(II)I" } : Jvm.MethodName)) ∈ gTBL := tIn7 16 (by decide +kernel) rfl
theorem ww1457 : (Cond.code ({ cls := "SkyTrialModel", name := "paperBy", desc := "(II)I" } : Jvm.MethodName) prog_13_method_60_code (5 : Nat) (Option.some Jvm.ClassFile.FieldType.int)) ∈ gTBL := tIn7 17 (by decide +kernel) rfl
theorem ww1466 : (Cond.methodLink "SkyTrialModel" (359 : Nat) ({ cls := "SkyTrialModel", name := "trueOf", desc := "(I)I" } : Jvm.MethodName)) ∈ gTBL := tIn7 26 (by decide +kernel) rfl
theorem ww1468 : (Cond.instanceMethod ({ cls := "SkyTrialModel", name := "trueOf", desc := "(I)I" } : Jvm.MethodName)) ∈ gTBL := tIn7 28 (by decide +kernel) rfl
theorem ww1469 : (Cond.code ({ cls := "SkyTrialModel", name := "trueOf", desc := "(I)I" } : Jvm.MethodName) prog_13_method_64_code (4 : Nat) (Option.some Jvm.ClassFile.FieldType.int)) ∈ gTBL := tIn7 29 (by decide +kernel) rfl
theorem ww1478 : (Cond.methodLink "SkyTrialModel" (362 : Nat) ({ cls := "SkyTrialModel", name := "isLaw", desc := "(I)Z" } : Jvm.MethodName)) ∈ gTBL := tIn7 38 (by decide +kernel) rfl
theorem ww1480 : (Cond.instanceMethod ({ cls := "SkyTrialModel", name := "isLaw", desc := "(I)Z" } : Jvm.MethodName)) ∈ gTBL := tIn7 40 (by decide +kernel) rfl
theorem ww1481 : (Cond.code ({ cls := "SkyTrialModel", name := "isLaw", desc := "(I)Z" } : Jvm.MethodName) prog_13_method_44_code (2 : Nat) (Option.some Jvm.ClassFile.FieldType.boolean)) ∈ gTBL := tIn7 41 (by decide +kernel) rfl
theorem ww1482 : (Cond.constant "SkyTrialModel" (365 : Nat) (-2147483648 : Int32)) ∈ gTBL := tIn7 42 (by decide +kernel) rfl
theorem ww1483 : (Cond.methodLink "SkyTrialModel" (366 : Nat) ({ cls := "SkyTrialModel", name := "fitOf", desc := "(IIII)I" } : Jvm.MethodName)) ∈ gTBL := tIn7 43 (by decide +kernel) rfl
theorem ww1485 : (Cond.instanceMethod ({ cls := "SkyTrialModel", name := "fitOf", desc := "(IIII)I" } : Jvm.MethodName)) ∈ gTBL := tIn7 45 (by decide +kernel) rfl
theorem ww1486 : (Cond.code ({ cls := "SkyTrialModel", name := "fitOf", desc := "(IIII)I" } : Jvm.MethodName) prog_13_method_67_code (7 : Nat) (Option.some Jvm.ClassFile.FieldType.int)) ∈ gTBL := tIn7 46 (by decide +kernel) rfl
theorem ww1491 : (Cond.methodLink "SkyTrialModel" (370 : Nat) ({ cls := "SkyTrialModel", name := "sixths", desc := "(IIIII)I" } : Jvm.MethodName)) ∈ gTBL := tIn7 51 (by decide +kernel) rfl
theorem ww1493 : (Cond.instanceMethod ({ cls := "SkyTrialModel", name := "sixths", desc := "(IIIII)I" } : Jvm.MethodName)) ∈ gTBL := tIn7 53 (by decide +kernel) rfl
theorem ww1494 : (Cond.code ({ cls := "SkyTrialModel", name := "sixths", desc := "(IIIII)I" } : Jvm.MethodName) prog_13_method_69_code (9 : Nat) (Option.some Jvm.ClassFile.FieldType.int)) ∈ gTBL := tIn7 54 (by decide +kernel) rfl
theorem ww1499 : (Cond.methodLink "SkyTrialModel" (377 : Nat) ({ cls := "SkyTrialModel", name := "firstGiven", desc := "(II)I" } : Jvm.MethodName)) ∈ gTBL := tIn7 59 (by decide +kernel) rfl
theorem ww1501 : (Cond.instanceMethod ({ cls := "SkyTrialModel", name := "firstGiven", desc := "(II)I" } : Jvm.MethodName)) ∈ gTBL := tIn7 61 (by decide +kernel) rfl
theorem ww1502 : (Cond.code ({ cls := "SkyTrialModel", name := "firstGiven", desc := "(II)I" } : Jvm.MethodName) prog_13_method_72_code (3 : Nat) (Option.some Jvm.ClassFile.FieldType.int)) ∈ gTBL := tIn7 62 (by decide +kernel) rfl
theorem ww1503 : (Cond.methodLink "SkyTrialModel" (374 : Nat) ({ cls := "SkyTrialModel", name := "other", desc := "(III)I" } : Jvm.MethodName)) ∈ gTBL := tIn7 63 (by decide +kernel) rfl
theorem ww1505 : (Cond.instanceMethod ({ cls := "SkyTrialModel", name := "other", desc := "(III)I" } : Jvm.MethodName)) ∈ gTBL := tIn7 65 (by decide +kernel) rfl
theorem ww1506 : (Cond.code ({ cls := "SkyTrialModel", name := "other", desc := "(III)I" } : Jvm.MethodName) prog_13_method_71_code (6 : Nat) (Option.some Jvm.ClassFile.FieldType.int)) ∈ gTBL := tIn7 66 (by decide +kernel) rfl
theorem ww1507 : (Cond.methodLink "SkyTrialModel" (380 : Nat) ({ cls := "SkyTrialModel", name := "secondGiven", desc := "(II)I" } : Jvm.MethodName)) ∈ gTBL := tIn7 67 (by decide +kernel) rfl
theorem ww1509 : (Cond.instanceMethod ({ cls := "SkyTrialModel", name := "secondGiven", desc := "(II)I" } : Jvm.MethodName)) ∈ gTBL := tIn7 69 (by decide +kernel) rfl
theorem ww1510 : (Cond.code ({ cls := "SkyTrialModel", name := "secondGiven", desc := "(II)I" } : Jvm.MethodName) prog_13_method_73_code (3 : Nat) (Option.some Jvm.ClassFile.FieldType.int)) ∈ gTBL := tIn7 70 (by decide +kernel) rfl
theorem ww1527 : (Cond.constantLong "SkyTrialModel" (390 : Nat) (-1 : Int64)) ∈ gTBL := tIn7 87 (by decide +kernel) rfl
theorem ww1528 : (Cond.methodLink "SkyTrialModel" (392 : Nat) ({ cls := "SkyTrialModel", name := "tailOf", desc := "(IIII)J" } : Jvm.MethodName)) ∈ gTBL := tIn7 88 (by decide +kernel) rfl
theorem ww1529 : (Cond.static ({ cls := "SkyTrialModel", name := "tailOf", desc := "(IIII)J" } : Jvm.MethodName)) ∈ gTBL := tIn7 89 (by decide +kernel) rfl
theorem ww1530 : (Cond.code ({ cls := "SkyTrialModel", name := "tailOf", desc := "(IIII)J" } : Jvm.MethodName) prog_13_method_80_code (7 : Nat) (Option.some Jvm.ClassFile.FieldType.long)) ∈ gTBL := tIn7 90 (by decide +kernel) rfl
theorem ww1531 : (Cond.methodLink "SkyTrialModel" (383 : Nat) ({ cls := "SkyTrialModel", name := "picks", desc := "(II)J" } : Jvm.MethodName)) ∈ gTBL := tIn7 91 (by decide +kernel) rfl
theorem ww1532 : (Cond.static ({ cls := "SkyTrialModel", name := "picks", desc := "(II)J" } : Jvm.MethodName)) ∈ gTBL := tIn7 92 (by decide +kernel) rfl
theorem ww1533 : (Cond.code ({ cls := "SkyTrialModel", name := "picks", desc := "(II)J" } : Jvm.MethodName) prog_13_method_78_code (5 : Nat) (Option.some Jvm.ClassFile.FieldType.long)) ∈ gTBL := tIn7 93 (by decide +kernel) rfl
theorem ww1534 : (Cond.methodLink "SkyTrialModel" (387 : Nat) ({ cls := "SkyTrialModel", name := "power", desc := "(JI)J" } : Jvm.MethodName)) ∈ gTBL := tIn7 94 (by decide +kernel) rfl
theorem ww1535 : (Cond.static ({ cls := "SkyTrialModel", name := "power", desc := "(JI)J" } : Jvm.MethodName)) ∈ gTBL := tIn7 95 (by decide +kernel) rfl
theorem ww1536 : (Cond.code ({ cls := "SkyTrialModel", name := "power", desc := "(JI)J" } : Jvm.MethodName) prog_13_method_79_code (6 : Nat) (Option.some Jvm.ClassFile.FieldType.long)) ∈ gTBL := tIn7 96 (by decide +kernel) rfl
theorem ww1541 : (Cond.constantLong "SkyTrialModel" (396 : Nat) (3 : Int64)) ∈ gTBL := tIn7 101 (by decide +kernel) rfl
theorem ww1542 : (Cond.constantLong "SkyTrialModel" (398 : Nat) (2 : Int64)) ∈ gTBL := tIn7 102 (by decide +kernel) rfl
theorem ww1547 : (Cond.methodLink "SkyTrialModel" (400 : Nat) ({ cls := "SkyTrialModel", name := "isSign", desc := "(I)Z" } : Jvm.MethodName)) ∈ gTBL := tIn7 107 (by decide +kernel) rfl
theorem ww1549 : (Cond.instanceMethod ({ cls := "SkyTrialModel", name := "isSign", desc := "(I)Z" } : Jvm.MethodName)) ∈ gTBL := tIn7 109 (by decide +kernel) rfl
theorem ww1550 : (Cond.code ({ cls := "SkyTrialModel", name := "isSign", desc := "(I)Z" } : Jvm.MethodName) prog_13_method_41_code (2 : Nat) (Option.some Jvm.ClassFile.FieldType.boolean)) ∈ gTBL := tIn7 110 (by decide +kernel) rfl
theorem ww1551 : (Cond.methodLink "SkyTrialModel" (403 : Nat) ({ cls := "SkyTrialModel", name := "upSet", desc := "(I)I" } : Jvm.MethodName)) ∈ gTBL := tIn7 111 (by decide +kernel) rfl
theorem ww1553 : (Cond.instanceMethod ({ cls := "SkyTrialModel", name := "upSet", desc := "(I)I" } : Jvm.MethodName)) ∈ gTBL := tIn7 113 (by decide +kernel) rfl
theorem ww1554 : (Cond.code ({ cls := "SkyTrialModel", name := "upSet", desc := "(I)I" } : Jvm.MethodName) prog_13_method_83_code (4 : Nat) (Option.some Jvm.ClassFile.FieldType.int)) ∈ gTBL := tIn7 114 (by decide +kernel) rfl
theorem ww1555 : (Cond.methodLink "SkyTrialModel" (406 : Nat) ({ cls := "SkyTrialModel", name := "bits", desc := "(I)I" } : Jvm.MethodName)) ∈ gTBL := tIn7 115 (by decide +kernel) rfl
theorem ww1556 : (Cond.static ({ cls := "SkyTrialModel", name := "bits", desc := "(I)I" } : Jvm.MethodName)) ∈ gTBL := tIn7 116 (by decide +kernel) rfl
theorem ww1557 : (Cond.code ({ cls := "SkyTrialModel", name := "bits", desc := "(I)I" } : Jvm.MethodName) prog_13_method_85_code (3 : Nat) (Option.some Jvm.ClassFile.FieldType.int)) ∈ gTBL := tIn7 117 (by decide +kernel) rfl
theorem ww1558 : (Cond.methodLink "SkyTrialModel" (409 : Nat) ({ cls := "SkyTrialModel", name := "trueSet", desc := "(I)I" } : Jvm.MethodName)) ∈ gTBL := tIn7 118 (by decide +kernel) rfl
theorem ww1560 : (Cond.instanceMethod ({ cls := "SkyTrialModel", name := "trueSet", desc := "(I)I" } : Jvm.MethodName)) ∈ gTBL := tIn7 120 (by decide +kernel) rfl
theorem ww1561 : (Cond.code ({ cls := "SkyTrialModel", name := "trueSet", desc := "(I)I" } : Jvm.MethodName) prog_13_method_84_code (4 : Nat) (Option.some Jvm.ClassFile.FieldType.int)) ∈ gTBL := tIn7 121 (by decide +kernel) rfl
theorem ww1566 : (Cond.methodLink "SkyTrialModel" (415 : Nat) ({ cls := "SkyTrialModel", name := "moreIn", desc := "(II)J" } : Jvm.MethodName)) ∈ gTBL := tIn7 126 (by decide +kernel) rfl
theorem ww1568 : (Cond.instanceMethod ({ cls := "SkyTrialModel", name := "moreIn", desc := "(II)J" } : Jvm.MethodName)) ∈ gTBL := tIn7 128 (by decide +kernel) rfl
theorem ww1569 : (Cond.code ({ cls := "SkyTrialModel", name := "moreIn", desc := "(II)J" } : Jvm.MethodName) prog_13_method_88_code (3 : Nat) (Option.some Jvm.ClassFile.FieldType.long)) ∈ gTBL := tIn7 129 (by decide +kernel) rfl
theorem ww1570 : (Cond.methodLink "SkyTrialModel" (412 : Nat) ({ cls := "SkyTrialModel", name := "moreOf", desc := "(IIII)J" } : Jvm.MethodName)) ∈ gTBL := tIn7 130 (by decide +kernel) rfl
theorem ww1571 : (Cond.static ({ cls := "SkyTrialModel", name := "moreOf", desc := "(IIII)J" } : Jvm.MethodName)) ∈ gTBL := tIn7 131 (by decide +kernel) rfl
theorem ww1572 : (Cond.code ({ cls := "SkyTrialModel", name := "moreOf", desc := "(IIII)J" } : Jvm.MethodName) prog_13_method_87_code (7 : Nat) (Option.some Jvm.ClassFile.FieldType.long)) ∈ gTBL := tIn7 132 (by decide +kernel) rfl
theorem ww1573 : (Cond.methodLink "SkyTrialModel" (418 : Nat) ({ cls := "SkyTrialModel", name := "allIn", desc := "(I)J" } : Jvm.MethodName)) ∈ gTBL := tIn7 133 (by decide +kernel) rfl
theorem ww1575 : (Cond.instanceMethod ({ cls := "SkyTrialModel", name := "allIn", desc := "(I)J" } : Jvm.MethodName)) ∈ gTBL := tIn7 135 (by decide +kernel) rfl
theorem ww1576 : (Cond.code ({ cls := "SkyTrialModel", name := "allIn", desc := "(I)J" } : Jvm.MethodName) prog_13_method_89_code (2 : Nat) (Option.some Jvm.ClassFile.FieldType.long)) ∈ gTBL := tIn7 136 (by decide +kernel) rfl
theorem ww1581 : (Cond.methodLink "SkyTrialModel" (422 : Nat) ({ cls := "SkyTrialModel", name := "classOf", desc := "(II)I" } : Jvm.MethodName)) ∈ gTBL := tIn7 141 (by decide +kernel) rfl
theorem ww1583 : (Cond.instanceMethod ({ cls := "SkyTrialModel", name := "classOf", desc := "(II)I" } : Jvm.MethodName)) ∈ gTBL := tIn7 143 (by decide +kernel) rfl
theorem ww1584 : (Cond.code ({ cls := "SkyTrialModel", name := "classOf", desc := "(II)I" } : Jvm.MethodName) prog_13_method_91_code (3 : Nat) (Option.some Jvm.ClassFile.FieldType.int)) ∈ gTBL := tIn7 144 (by decide +kernel) rfl
theorem ww1597 : (Cond.methodLink "SkyTrialModel" (428 : Nat) ({ cls := "SkyTrialModel", name := "fact", desc := "(IIIZ)I" } : Jvm.MethodName)) ∈ gTBL := tIn7 157 (by decide +kernel) rfl
theorem ww1599 : (Cond.instanceMethod ({ cls := "SkyTrialModel", name := "fact", desc := "(IIIZ)I" } : Jvm.MethodName)) ∈ gTBL := tIn7 159 (by decide +kernel) rfl
theorem ww1600 : (Cond.code ({ cls := "SkyTrialModel", name := "fact", desc := "(IIIZ)I" } : Jvm.MethodName) prog_13_method_95_code (5 : Nat) (Option.some Jvm.ClassFile.FieldType.int)) ∈ gTBL := tIn7 160 (by decide +kernel) rfl
theorem ww1617 : (Cond.methodLink "SkyTrialModel" (432 : Nat) ({ cls := "SkyTrialModel", name := "isKnown", desc := "(I)Z" } : Jvm.MethodName)) ∈ gTBL := tIn7 177 (by decide +kernel) rfl
theorem ww1619 : (Cond.instanceMethod ({ cls := "SkyTrialModel", name := "isKnown", desc := "(I)Z" } : Jvm.MethodName)) ∈ gTBL := tIn7 179 (by decide +kernel) rfl
theorem ww1620 : (Cond.code ({ cls := "SkyTrialModel", name := "isKnown", desc := "(I)Z" } : Jvm.MethodName) prog_13_method_100_code (2 : Nat) (Option.some Jvm.ClassFile.FieldType.boolean)) ∈ gTBL := tIn7 180 (by decide +kernel) rfl
theorem ww1621 : (Cond.methodLink "SkyTrialModel" (435 : Nat) ({ cls := "SkyTrialModel", name := "isFact", desc := "(III)Z" } : Jvm.MethodName)) ∈ gTBL := tIn7 181 (by decide +kernel) rfl
theorem ww1623 : (Cond.instanceMethod ({ cls := "SkyTrialModel", name := "isFact", desc := "(III)Z" } : Jvm.MethodName)) ∈ gTBL := tIn7 183 (by decide +kernel) rfl
theorem ww1624 : (Cond.code ({ cls := "SkyTrialModel", name := "isFact", desc := "(III)Z" } : Jvm.MethodName) prog_13_method_101_code (5 : Nat) (Option.some Jvm.ClassFile.FieldType.boolean)) ∈ gTBL := tIn7 184 (by decide +kernel) rfl
theorem ww1637 : (Cond.methodLink "SkyTrialModel" (438 : Nat) ({ cls := "SkyTrialModel", name := "isOn", desc := "(II)Z" } : Jvm.MethodName)) ∈ gTBL := tIn7 197 (by decide +kernel) rfl
theorem ww1639 : (Cond.instanceMethod ({ cls := "SkyTrialModel", name := "isOn", desc := "(II)Z" } : Jvm.MethodName)) ∈ gTBL := tIn7 199 (by decide +kernel) rfl
theorem ww1640 : (Cond.code ({ cls := "SkyTrialModel", name := "isOn", desc := "(II)Z" } : Jvm.MethodName) prog_13_method_105_code (5 : Nat) (Option.some Jvm.ClassFile.FieldType.boolean)) ∈ gTBL := tIn7 200 (by decide +kernel) rfl
theorem ww1645 : (Cond.methodLink "SkyTrialModel" (444 : Nat) ({ cls := "SkyTrialModel", name := "listSet", desc := "(I)I" } : Jvm.MethodName)) ∈ gTBL := tIn7 205 (by decide +kernel) rfl
theorem ww1647 : (Cond.instanceMethod ({ cls := "SkyTrialModel", name := "listSet", desc := "(I)I" } : Jvm.MethodName)) ∈ gTBL := tIn7 207 (by decide +kernel) rfl
theorem ww1648 : (Cond.code ({ cls := "SkyTrialModel", name := "listSet", desc := "(I)I" } : Jvm.MethodName) prog_13_method_107_code (4 : Nat) (Option.some Jvm.ClassFile.FieldType.int)) ∈ gTBL := tIn7 208 (by decide +kernel) rfl
theorem ww1649 : (Cond.methodLink "SkyTrialModel" (441 : Nat) ({ cls := "SkyTrialModel", name := "tries", desc := "(I)I" } : Jvm.MethodName)) ∈ gTBL := tIn7 209 (by decide +kernel) rfl
theorem ww1651 : (Cond.instanceMethod ({ cls := "SkyTrialModel", name := "tries", desc := "(I)I" } : Jvm.MethodName)) ∈ gTBL := tIn7 211 (by decide +kernel) rfl
theorem ww1652 : (Cond.code ({ cls := "SkyTrialModel", name := "tries", desc := "(I)I" } : Jvm.MethodName) prog_13_method_108_code (6 : Nat) (Option.some Jvm.ClassFile.FieldType.int)) ∈ gTBL := tIn7 212 (by decide +kernel) rfl
theorem ww1653 : (Cond.methodLink "SkyTrialModel" (449 : Nat) ({ cls := "SkyTrialModel", name := "stands", desc := "(II)Z" } : Jvm.MethodName)) ∈ gTBL := tIn7 213 (by decide +kernel) rfl
theorem ww1655 : (Cond.instanceMethod ({ cls := "SkyTrialModel", name := "stands", desc := "(II)Z" } : Jvm.MethodName)) ∈ gTBL := tIn7 215 (by decide +kernel) rfl
theorem ww1656 : (Cond.code ({ cls := "SkyTrialModel", name := "stands", desc := "(II)Z" } : Jvm.MethodName) prog_13_method_109_code (5 : Nat) (Option.some Jvm.ClassFile.FieldType.boolean)) ∈ gTBL := tIn7 216 (by decide +kernel) rfl
theorem ww1657 : (Cond.constantLong "SkyTrialModel" (447 : Nat) (20 : Int64)) ∈ gTBL := tIn7 217 (by decide +kernel) rfl
theorem ww1670 : (Cond.fieldLink "java/lang/String" (9 : Nat) "java/lang/String" "value" "[B") ∈ gTBL := tIn7 230 (by decide +kernel) rfl
theorem ww1671 : (Cond.fieldLink "java/lang/String" (15 : Nat) "java/lang/String" "coder" "B") ∈ gTBL := tIn7 231 (by decide +kernel) rfl
theorem selP_37 : Cond.selects yX10_fillRedTable.cls yX10_fillRedTable yX10_fillRedTable ∈ gTBL := gTBL_sel (q := (yX10_fillRedTable, 7)) 37 (by decide +kernel) (List.mem_of_getElem? (i := 37) (by decide +kernel)) rfl
theorem selP_30 : Cond.selects yX10_isBook.cls yX10_isBook yX10_isBook ∈ gTBL := gTBL_sel (q := (yX10_isBook, 7)) 30 (by decide +kernel) (List.mem_of_getElem? (i := 30) (by decide +kernel)) rfl
theorem selP_31 : Cond.selects yX10_isLaw.cls yX10_isLaw yX10_isLaw ∈ gTBL := gTBL_sel (q := (yX10_isLaw, 7)) 31 (by decide +kernel) (List.mem_of_getElem? (i := 31) (by decide +kernel)) rfl
theorem selP_29 : Cond.selects yX10_isSentence.cls yX10_isSentence yX10_isSentence ∈ gTBL := gTBL_sel (q := (yX10_isSentence, 7)) 29 (by decide +kernel) (List.mem_of_getElem? (i := 29) (by decide +kernel)) rfl
theorem selP_34 : Cond.selects yX10_isSign.cls yX10_isSign yX10_isSign ∈ gTBL := gTBL_sel (q := (yX10_isSign, 7)) 34 (by decide +kernel) (List.mem_of_getElem? (i := 34) (by decide +kernel)) rfl
theorem selP_38 : Cond.selects yX10_redStands.cls yX10_redStands yX10_redStands ∈ gTBL := gTBL_sel (q := (yX10_redStands, 7)) 38 (by decide +kernel) (List.mem_of_getElem? (i := 38) (by decide +kernel)) rfl
theorem selP_28 : Cond.selects yX10_roundedMinute.cls yX10_roundedMinute yX10_roundedMinute ∈ gTBL := gTBL_sel (q := (yX10_roundedMinute, 7)) 28 (by decide +kernel) (List.mem_of_getElem? (i := 28) (by decide +kernel)) rfl
theorem selP_36 : Cond.selects yX0_taking.cls yX0_taking yX0_taking ∈ gTBL := gTBL_sel (q := (yX0_taking, 5)) 36 (by decide +kernel) (List.mem_of_getElem? (i := 36) (by decide +kernel)) rfl
theorem selP_35 : Cond.selects yX0_takingJust.cls yX0_takingJust yX0_takingJust ∈ gTBL := gTBL_sel (q := (yX0_takingJust, 5)) 35 (by decide +kernel) (List.mem_of_getElem? (i := 35) (by decide +kernel)) rfl
theorem selP_33 : Cond.selects yX2_nthOther.cls yX2_nthOther yX2_nthOther ∈ gTBL := gTBL_sel (q := (yX2_nthOther, 2)) 33 (by decide +kernel) (List.mem_of_getElem? (i := 33) (by decide +kernel)) rfl
theorem selP_26 : Cond.selects yX3_pop.cls yX3_pop yX3_pop ∈ gTBL := gTBL_sel (q := (yX3_pop, 3)) 26 (by decide +kernel) (List.mem_of_getElem? (i := 26) (by decide +kernel)) rfl
theorem selP_25 : Cond.selects yX3_push.cls yX3_push yX3_push ∈ gTBL := gTBL_sel (q := (yX3_push, 3)) 25 (by decide +kernel) (List.mem_of_getElem? (i := 25) (by decide +kernel)) rfl
theorem selP_24 : Cond.selects yX3_step.cls yX3_step yX3_step ∈ gTBL := gTBL_sel (q := (yX3_step, 3)) 24 (by decide +kernel) (List.mem_of_getElem? (i := 24) (by decide +kernel)) rfl
theorem selP_27 : Cond.selects yX4_bitsOf.cls yX4_bitsOf yX4_bitsOf ∈ gTBL := gTBL_sel (q := (yX4_bitsOf, 6)) 27 (by decide +kernel) (List.mem_of_getElem? (i := 27) (by decide +kernel)) rfl
theorem selP_23 : Cond.selects yX4_setPerson.cls yX4_setPerson yX4_setPerson ∈ gTBL := gTBL_sel (q := (yX4_setPerson, 6)) 23 (by decide +kernel) (List.mem_of_getElem? (i := 23) (by decide +kernel)) rfl
theorem selP_32 : Cond.selects yX4_sixths.cls yX4_sixths yX4_sixths ∈ gTBL := gTBL_sel (q := (yX4_sixths, 6)) 32 (by decide +kernel) (List.mem_of_getElem? (i := 32) (by decide +kernel)) rfl
theorem selP_12 : Cond.selects yX7_blame.cls yX7_blame yX7_blame ∈ gTBL := gTBL_sel (q := (yX7_blame, 14)) 12 (by decide +kernel) (List.mem_of_getElem? (i := 12) (by decide +kernel)) rfl
theorem selP_14 : Cond.selects yX7_condition.cls yX7_condition yX7_condition ∈ gTBL := gTBL_sel (q := (yX7_condition, 14)) 14 (by decide +kernel) (List.mem_of_getElem? (i := 14) (by decide +kernel)) rfl
theorem selP_9 : Cond.selects yX7_fail.cls yX7_fail yX7_fail ∈ gTBL := gTBL_sel (q := (yX7_fail, 14)) 9 (by decide +kernel) (List.mem_of_getElem? (i := 9) (by decide +kernel)) rfl
theorem selP_11 : Cond.selects yX7_findName.cls yX7_findName yX7_findName ∈ gTBL := gTBL_sel (q := (yX7_findName, 14)) 11 (by decide +kernel) (List.mem_of_getElem? (i := 11) (by decide +kernel)) rfl
theorem selP_15 : Cond.selects yX7_literal.cls yX7_literal yX7_literal ∈ gTBL := gTBL_sel (q := (yX7_literal, 14)) 15 (by decide +kernel) (List.mem_of_getElem? (i := 15) (by decide +kernel)) rfl
theorem selP_21 : Cond.selects yX7_nameAhead.cls yX7_nameAhead yX7_nameAhead ∈ gTBL := gTBL_sel (q := (yX7_nameAhead, 14)) 21 (by decide +kernel) (List.mem_of_getElem? (i := 21) (by decide +kernel)) rfl
theorem selP_13 : Cond.selects yX7_need.cls yX7_need yX7_need ∈ gTBL := gTBL_sel (q := (yX7_need, 14)) 13 (by decide +kernel) (List.mem_of_getElem? (i := 13) (by decide +kernel)) rfl
theorem selP_7 : Cond.selects yX7_open.cls yX7_open yX7_open ∈ gTBL := gTBL_sel (q := (yX7_open, 14)) 7 (by decide +kernel) (List.mem_of_getElem? (i := 7) (by decide +kernel)) rfl
theorem selP_5 : Cond.selects yX7_start.cls yX7_start yX7_start ∈ gTBL := gTBL_sel (q := (yX7_start, 14)) 5 (by decide +kernel) (List.mem_of_getElem? (i := 5) (by decide +kernel)) rfl
theorem selP_16 : Cond.selects yX7_sum.cls yX7_sum yX7_sum ∈ gTBL := gTBL_sel (q := (yX7_sum, 14)) 16 (by decide +kernel) (List.mem_of_getElem? (i := 16) (by decide +kernel)) rfl
theorem selP_8 : Cond.selects yX7_take.cls yX7_take yX7_take ∈ gTBL := gTBL_sel (q := (yX7_take, 14)) 8 (by decide +kernel) (List.mem_of_getElem? (i := 8) (by decide +kernel)) rfl
theorem selP_19 : Cond.selects yX7_tellBook.cls yX7_tellBook yX7_tellBook ∈ gTBL := gTBL_sel (q := (yX7_tellBook, 14)) 19 (by decide +kernel) (List.mem_of_getElem? (i := 19) (by decide +kernel)) rfl
theorem selP_22 : Cond.selects yX7_tellLaw.cls yX7_tellLaw yX7_tellLaw ∈ gTBL := gTBL_sel (q := (yX7_tellLaw, 14)) 22 (by decide +kernel) (List.mem_of_getElem? (i := 22) (by decide +kernel)) rfl
theorem selP_10 : Cond.selects yX7_tellName.cls yX7_tellName yX7_tellName ∈ gTBL := gTBL_sel (q := (yX7_tellName, 14)) 10 (by decide +kernel) (List.mem_of_getElem? (i := 10) (by decide +kernel)) rfl
theorem selP_18 : Cond.selects yX7_tellSay.cls yX7_tellSay yX7_tellSay ∈ gTBL := gTBL_sel (q := (yX7_tellSay, 14)) 18 (by decide +kernel) (List.mem_of_getElem? (i := 18) (by decide +kernel)) rfl
theorem selP_6 : Cond.selects yX7_tellSign.cls yX7_tellSign yX7_tellSign ∈ gTBL := gTBL_sel (q := (yX7_tellSign, 14)) 6 (by decide +kernel) (List.mem_of_getElem? (i := 6) (by decide +kernel)) rfl
theorem selP_20 : Cond.selects yX7_tellWhen.cls yX7_tellWhen yX7_tellWhen ∈ gTBL := gTBL_sel (q := (yX7_tellWhen, 14)) 20 (by decide +kernel) (List.mem_of_getElem? (i := 20) (by decide +kernel)) rfl
theorem selP_17 : Cond.selects yX7_unit.cls yX7_unit yX7_unit ∈ gTBL := gTBL_sel (q := (yX7_unit, 14)) 17 (by decide +kernel) (List.mem_of_getElem? (i := 17) (by decide +kernel)) rfl
theorem selP_1 : Cond.selects yX8_put.cls yX8_put yX8_put ∈ gTBL := gTBL_sel (q := (yX8_put, 5)) 1 (by decide +kernel) (List.mem_of_getElem? (i := 1) (by decide +kernel)) rfl
theorem selP_4 : Cond.selects yX8_scanInt.cls yX8_scanInt yX8_scanInt ∈ gTBL := gTBL_sel (q := (yX8_scanInt, 5)) 4 (by decide +kernel) (List.mem_of_getElem? (i := 4) (by decide +kernel)) rfl
theorem selP_0 : Cond.selects yX8_scanOne.cls yX8_scanOne yX8_scanOne ∈ gTBL := gTBL_sel (q := (yX8_scanOne, 5)) 0 (by decide +kernel) (List.mem_of_getElem? (i := 0) (by decide +kernel)) rfl
theorem selP_2 : Cond.selects yX8_scanWord.cls yX8_scanWord yX8_scanWord ∈ gTBL := gTBL_sel (q := (yX8_scanWord, 5)) 2 (by decide +kernel) (List.mem_of_getElem? (i := 2) (by decide +kernel)) rfl
theorem selP_3 : Cond.selects yX8_wordKind.cls yX8_wordKind yX8_wordKind ∈ gTBL := gTBL_sel (q := (yX8_wordKind, 5)) 3 (by decide +kernel) (List.mem_of_getElem? (i := 3) (by decide +kernel)) rfl
theorem selP_87 : Cond.selects yX11_allIn.cls yX11_allIn yX11_allIn ∈ gTBL := gTBL_sel (q := (yX11_allIn, 65)) 87 (by decide +kernel) (List.mem_of_getElem? (i := 87) (by decide +kernel)) rfl
theorem selP_41 : Cond.selects yX11_byteAt.cls yX11_byteAt yX11_byteAt ∈ gTBL := gTBL_sel (q := (yX11_byteAt, 65)) 41 (by decide +kernel) (List.mem_of_getElem? (i := 41) (by decide +kernel)) rfl
theorem selP_88 : Cond.selects yX11_classOf.cls yX11_classOf yX11_classOf ∈ gTBL := gTBL_sel (q := (yX11_classOf, 65)) 88 (by decide +kernel) (List.mem_of_getElem? (i := 88) (by decide +kernel)) rfl
theorem selP_57 : Cond.selects yX11_comesOut.cls yX11_comesOut yX11_comesOut ∈ gTBL := gTBL_sel (q := (yX11_comesOut, 65)) 57 (by decide +kernel) (List.mem_of_getElem? (i := 57) (by decide +kernel)) rfl
theorem selP_52 : Cond.selects yX11_condition.cls yX11_condition yX11_condition ∈ gTBL := gTBL_sel (q := (yX11_condition, 65)) 52 (by decide +kernel) (List.mem_of_getElem? (i := 52) (by decide +kernel)) rfl
theorem selP_40 : Cond.selects yX11_cut.cls yX11_cut yX11_cut ∈ gTBL := gTBL_sel (q := (yX11_cut, 65)) 40 (by decide +kernel) (List.mem_of_getElem? (i := 40) (by decide +kernel)) rfl
theorem selP_56 : Cond.selects yX11_emit.cls yX11_emit yX11_emit ∈ gTBL := gTBL_sel (q := (yX11_emit, 65)) 56 (by decide +kernel) (List.mem_of_getElem? (i := 56) (by decide +kernel)) rfl
theorem selP_54 : Cond.selects yX11_expression.cls yX11_expression yX11_expression ∈ gTBL := gTBL_sel (q := (yX11_expression, 65)) 54 (by decide +kernel) (List.mem_of_getElem? (i := 54) (by decide +kernel)) rfl
theorem selP_89 : Cond.selects yX11_fact.cls yX11_fact yX11_fact ∈ gTBL := gTBL_sel (q := (yX11_fact, 65)) 89 (by decide +kernel) (List.mem_of_getElem? (i := 89) (by decide +kernel)) rfl
theorem selP_46 : Cond.selects yX11_fail.cls yX11_fail yX11_fail ∈ gTBL := gTBL_sel (q := (yX11_fail, 65)) 46 (by decide +kernel) (List.mem_of_getElem? (i := 46) (by decide +kernel)) rfl
theorem selP_80 : Cond.selects yX11_firstGiven.cls yX11_firstGiven yX11_firstGiven ∈ gTBL := gTBL_sel (q := (yX11_firstGiven, 65)) 80 (by decide +kernel) (List.mem_of_getElem? (i := 80) (by decide +kernel)) rfl
theorem selP_78 : Cond.selects yX11_fitOf.cls yX11_fitOf yX11_fitOf ∈ gTBL := gTBL_sel (q := (yX11_fitOf, 65)) 78 (by decide +kernel) (List.mem_of_getElem? (i := 78) (by decide +kernel)) rfl
theorem selP_48 : Cond.selects yX11_goesOn.cls yX11_goesOn yX11_goesOn ∈ gTBL := gTBL_sel (q := (yX11_goesOn, 65)) 48 (by decide +kernel) (List.mem_of_getElem? (i := 48) (by decide +kernel)) rfl
theorem selP_66 : Cond.selects yX11_holdsRule.cls yX11_holdsRule yX11_holdsRule ∈ gTBL := gTBL_sel (q := (yX11_holdsRule, 65)) 66 (by decide +kernel) (List.mem_of_getElem? (i := 66) (by decide +kernel)) rfl
theorem selP_44 : Cond.selects yX11_is.cls yX11_is yX11_is ∈ gTBL := gTBL_sel (q := (yX11_is, 65)) 44 (by decide +kernel) (List.mem_of_getElem? (i := 44) (by decide +kernel)) rfl
theorem selP_73 : Cond.selects yX11_isBook.cls yX11_isBook yX11_isBook ∈ gTBL := gTBL_sel (q := (yX11_isBook, 65)) 73 (by decide +kernel) (List.mem_of_getElem? (i := 73) (by decide +kernel)) rfl
theorem selP_91 : Cond.selects yX11_isFact.cls yX11_isFact yX11_isFact ∈ gTBL := gTBL_sel (q := (yX11_isFact, 65)) 91 (by decide +kernel) (List.mem_of_getElem? (i := 91) (by decide +kernel)) rfl
theorem selP_90 : Cond.selects yX11_isKnown.cls yX11_isKnown yX11_isKnown ∈ gTBL := gTBL_sel (q := (yX11_isKnown, 65)) 90 (by decide +kernel) (List.mem_of_getElem? (i := 90) (by decide +kernel)) rfl
theorem selP_77 : Cond.selects yX11_isLaw.cls yX11_isLaw yX11_isLaw ∈ gTBL := gTBL_sel (q := (yX11_isLaw, 65)) 77 (by decide +kernel) (List.mem_of_getElem? (i := 77) (by decide +kernel)) rfl
theorem selP_92 : Cond.selects yX11_isOn.cls yX11_isOn yX11_isOn ∈ gTBL := gTBL_sel (q := (yX11_isOn, 65)) 92 (by decide +kernel) (List.mem_of_getElem? (i := 92) (by decide +kernel)) rfl
theorem selP_69 : Cond.selects yX11_isPerson.cls yX11_isPerson yX11_isPerson ∈ gTBL := gTBL_sel (q := (yX11_isPerson, 65)) 69 (by decide +kernel) (List.mem_of_getElem? (i := 69) (by decide +kernel)) rfl
theorem selP_71 : Cond.selects yX11_isSay.cls yX11_isSay yX11_isSay ∈ gTBL := gTBL_sel (q := (yX11_isSay, 65)) 71 (by decide +kernel) (List.mem_of_getElem? (i := 71) (by decide +kernel)) rfl
theorem selP_83 : Cond.selects yX11_isSign.cls yX11_isSign yX11_isSign ∈ gTBL := gTBL_sel (q := (yX11_isSign, 65)) 83 (by decide +kernel) (List.mem_of_getElem? (i := 83) (by decide +kernel)) rfl
theorem selP_67 : Cond.selects yX11_isTrue.cls yX11_isTrue yX11_isTrue ∈ gTBL := gTBL_sel (q := (yX11_isTrue, 65)) 67 (by decide +kernel) (List.mem_of_getElem? (i := 67) (by decide +kernel)) rfl
theorem selP_72 : Cond.selects yX11_isTrueOf.cls yX11_isTrueOf yX11_isTrueOf ∈ gTBL := gTBL_sel (q := (yX11_isTrueOf, 65)) 72 (by decide +kernel) (List.mem_of_getElem? (i := 72) (by decide +kernel)) rfl
theorem selP_64 : Cond.selects yX11_isUp.cls yX11_isUp yX11_isUp ∈ gTBL := gTBL_sel (q := (yX11_isUp, 65)) 64 (by decide +kernel) (List.mem_of_getElem? (i := 64) (by decide +kernel)) rfl
theorem selP_62 : Cond.selects yX11_known.cls yX11_known yX11_known ∈ gTBL := gTBL_sel (q := (yX11_known, 65)) 62 (by decide +kernel) (List.mem_of_getElem? (i := 62) (by decide +kernel)) rfl
theorem selP_58 : Cond.selects yX11_knows.cls yX11_knows yX11_knows ∈ gTBL := gTBL_sel (q := (yX11_knows, 65)) 58 (by decide +kernel) (List.mem_of_getElem? (i := 58) (by decide +kernel)) rfl
theorem selP_93 : Cond.selects yX11_listSet.cls yX11_listSet yX11_listSet ∈ gTBL := gTBL_sel (q := (yX11_listSet, 65)) 93 (by decide +kernel) (List.mem_of_getElem? (i := 93) (by decide +kernel)) rfl
theorem selP_53 : Cond.selects yX11_literal.cls yX11_literal yX11_literal ∈ gTBL := gTBL_sel (q := (yX11_literal, 65)) 53 (by decide +kernel) (List.mem_of_getElem? (i := 53) (by decide +kernel)) rfl
theorem selP_65 : Cond.selects yX11_looksAt.cls yX11_looksAt yX11_looksAt ∈ gTBL := gTBL_sel (q := (yX11_looksAt, 65)) 65 (by decide +kernel) (List.mem_of_getElem? (i := 65) (by decide +kernel)) rfl
theorem selP_86 : Cond.selects yX11_moreIn.cls yX11_moreIn yX11_moreIn ∈ gTBL := gTBL_sel (q := (yX11_moreIn, 65)) 86 (by decide +kernel) (List.mem_of_getElem? (i := 86) (by decide +kernel)) rfl
theorem selP_50 : Cond.selects yX11_must.cls yX11_must yX11_must ∈ gTBL := gTBL_sel (q := (yX11_must, 65)) 50 (by decide +kernel) (List.mem_of_getElem? (i := 50) (by decide +kernel)) rfl
theorem selP_49 : Cond.selects yX11_named.cls yX11_named yX11_named ∈ gTBL := gTBL_sel (q := (yX11_named, 65)) 49 (by decide +kernel) (List.mem_of_getElem? (i := 49) (by decide +kernel)) rfl
theorem selP_81 : Cond.selects yX11_other.cls yX11_other yX11_other ∈ gTBL := gTBL_sel (q := (yX11_other, 65)) 81 (by decide +kernel) (List.mem_of_getElem? (i := 81) (by decide +kernel)) rfl
theorem selP_75 : Cond.selects yX11_paperBy.cls yX11_paperBy yX11_paperBy ∈ gTBL := gTBL_sel (q := (yX11_paperBy, 65)) 75 (by decide +kernel) (List.mem_of_getElem? (i := 75) (by decide +kernel)) rfl
theorem selP_74 : Cond.selects yX11_paperOf.cls yX11_paperOf yX11_paperOf ∈ gTBL := gTBL_sel (q := (yX11_paperOf, 65)) 74 (by decide +kernel) (List.mem_of_getElem? (i := 74) (by decide +kernel)) rfl
theorem selP_39 : Cond.selects yX11_put.cls yX11_put yX11_put ∈ gTBL := gTBL_sel (q := (yX11_put, 65)) 39 (by decide +kernel) (List.mem_of_getElem? (i := 39) (by decide +kernel)) rfl
theorem selP_82 : Cond.selects yX11_secondGiven.cls yX11_secondGiven yX11_secondGiven ∈ gTBL := gTBL_sel (q := (yX11_secondGiven, 65)) 82 (by decide +kernel) (List.mem_of_getElem? (i := 82) (by decide +kernel)) rfl
theorem selP_43 : Cond.selects yX11_sign.cls yX11_sign yX11_sign ∈ gTBL := gTBL_sel (q := (yX11_sign, 65)) 43 (by decide +kernel) (List.mem_of_getElem? (i := 43) (by decide +kernel)) rfl
theorem selP_70 : Cond.selects yX11_signsOf.cls yX11_signsOf yX11_signsOf ∈ gTBL := gTBL_sel (q := (yX11_signsOf, 65)) 70 (by decide +kernel) (List.mem_of_getElem? (i := 70) (by decide +kernel)) rfl
theorem selP_79 : Cond.selects yX11_sixths.cls yX11_sixths yX11_sixths ∈ gTBL := gTBL_sel (q := (yX11_sixths, 65)) 79 (by decide +kernel) (List.mem_of_getElem? (i := 79) (by decide +kernel)) rfl
theorem selP_95 : Cond.selects yX11_stands.cls yX11_stands yX11_stands ∈ gTBL := gTBL_sel (q := (yX11_stands, 65)) 95 (by decide +kernel) (List.mem_of_getElem? (i := 95) (by decide +kernel)) rfl
theorem selP_45 : Cond.selects yX11_tell.cls yX11_tell yX11_tell ∈ gTBL := gTBL_sel (q := (yX11_tell, 65)) 45 (by decide +kernel) (List.mem_of_getElem? (i := 45) (by decide +kernel)) rfl
theorem selP_60 : Cond.selects yX11_tellBook.cls yX11_tellBook yX11_tellBook ∈ gTBL := gTBL_sel (q := (yX11_tellBook, 65)) 60 (by decide +kernel) (List.mem_of_getElem? (i := 60) (by decide +kernel)) rfl
theorem selP_63 : Cond.selects yX11_tellLaw.cls yX11_tellLaw yX11_tellLaw ∈ gTBL := gTBL_sel (q := (yX11_tellLaw, 65)) 63 (by decide +kernel) (List.mem_of_getElem? (i := 63) (by decide +kernel)) rfl
theorem selP_59 : Cond.selects yX11_tellSay.cls yX11_tellSay yX11_tellSay ∈ gTBL := gTBL_sel (q := (yX11_tellSay, 65)) 59 (by decide +kernel) (List.mem_of_getElem? (i := 59) (by decide +kernel)) rfl
theorem selP_47 : Cond.selects yX11_tellSign.cls yX11_tellSign yX11_tellSign ∈ gTBL := gTBL_sel (q := (yX11_tellSign, 65)) 47 (by decide +kernel) (List.mem_of_getElem? (i := 47) (by decide +kernel)) rfl
theorem selP_61 : Cond.selects yX11_tellWhen.cls yX11_tellWhen yX11_tellWhen ∈ gTBL := gTBL_sel (q := (yX11_tellWhen, 65)) 61 (by decide +kernel) (List.mem_of_getElem? (i := 61) (by decide +kernel)) rfl
theorem selP_68 : Cond.selects yX11_termOf.cls yX11_termOf yX11_termOf ∈ gTBL := gTBL_sel (q := (yX11_termOf, 65)) 68 (by decide +kernel) (List.mem_of_getElem? (i := 68) (by decide +kernel)) rfl
theorem selP_42 : Cond.selects yX11_token.cls yX11_token yX11_token ∈ gTBL := gTBL_sel (q := (yX11_token, 65)) 42 (by decide +kernel) (List.mem_of_getElem? (i := 42) (by decide +kernel)) rfl
theorem selP_94 : Cond.selects yX11_tries.cls yX11_tries yX11_tries ∈ gTBL := gTBL_sel (q := (yX11_tries, 65)) 94 (by decide +kernel) (List.mem_of_getElem? (i := 94) (by decide +kernel)) rfl
theorem selP_76 : Cond.selects yX11_trueOf.cls yX11_trueOf yX11_trueOf ∈ gTBL := gTBL_sel (q := (yX11_trueOf, 65)) 76 (by decide +kernel) (List.mem_of_getElem? (i := 76) (by decide +kernel)) rfl
theorem selP_85 : Cond.selects yX11_trueSet.cls yX11_trueSet yX11_trueSet ∈ gTBL := gTBL_sel (q := (yX11_trueSet, 65)) 85 (by decide +kernel) (List.mem_of_getElem? (i := 85) (by decide +kernel)) rfl
theorem selP_55 : Cond.selects yX11_unit.cls yX11_unit yX11_unit ∈ gTBL := gTBL_sel (q := (yX11_unit, 65)) 55 (by decide +kernel) (List.mem_of_getElem? (i := 55) (by decide +kernel)) rfl
theorem selP_84 : Cond.selects yX11_upSet.cls yX11_upSet yX11_upSet ∈ gTBL := gTBL_sel (q := (yX11_upSet, 65)) 84 (by decide +kernel) (List.mem_of_getElem? (i := 84) (by decide +kernel)) rfl
theorem selP_51 : Cond.selects yX11_wrong.cls yX11_wrong yX11_wrong ∈ gTBL := gTBL_sel (q := (yX11_wrong, 65)) 51 (by decide +kernel) (List.mem_of_getElem? (i := 51) (by decide +kernel)) rfl
