theorem zw9 : (Cond.initialized "SkyTrial$Told") ∈ gTBL := tIn1 9 (by decide +kernel) rfl
theorem zw12 : (Cond.initialized "SkyTrial$Reckoner") ∈ gTBL := tIn1 12 (by decide +kernel) rfl
theorem zw27 : (Cond.instanceMethod ({ cls := "java/lang/Object", name := "<init>", desc := "()V" } : Jvm.MethodName)) ∈ gTBL := tIn1 27 (by decide +kernel) rfl
theorem zw28 : (Cond.code ({ cls := "java/lang/Object", name := "<init>", desc := "()V" } : Jvm.MethodName) object_method_1_code (1 : Nat) (Option.none : Option Jvm.ClassFile.FieldType)) ∈ gTBL := tIn1 28 (by decide +kernel) rfl
theorem zw34 : (Cond.methodLink "SkyTrial$Tape" (3 : Nat) ({ cls := "java/lang/Object", name := "<init>", desc := "()V" } : Jvm.MethodName)) ∈ gTBL := tIn1 34 (by decide +kernel) rfl
theorem zw35 : (Cond.fieldLink "SkyTrial$Tape" (11 : Nat) "SkyTrial$Tape" "bytes" "[I") ∈ gTBL := tIn1 35 (by decide +kernel) rfl
theorem zw36 : (Cond.fieldLink "SkyTrial$Tape" (15 : Nat) "SkyTrial$Tape" "length" "I") ∈ gTBL := tIn1 36 (by decide +kernel) rfl
theorem zw43 : (Cond.arrayClass Jvm.ClassFile.FieldType.int) ∈ gTBL := tIn1 43 (by decide +kernel) rfl
theorem zw55 : (Cond.methodLink "SkyTrial$Tokens" (3 : Nat) ({ cls := "java/lang/Object", name := "<init>", desc := "()V" } : Jvm.MethodName)) ∈ gTBL := tIn1 55 (by decide +kernel) rfl
theorem zw109 : (Cond.fieldLink "SkyTrial$Tokens" (9 : Nat) "SkyTrial$Tokens" "kinds" "[I") ∈ gTBL := tIn1 109 (by decide +kernel) rfl
theorem zw111 : (Cond.fieldLink "SkyTrial$Tokens" (15 : Nat) "SkyTrial$Tokens" "starts" "[I") ∈ gTBL := tIn1 111 (by decide +kernel) rfl
theorem zw113 : (Cond.fieldLink "SkyTrial$Tokens" (18 : Nat) "SkyTrial$Tokens" "values" "[J") ∈ gTBL := tIn1 113 (by decide +kernel) rfl
theorem zw115 : (Cond.fieldLink "SkyTrial$Tokens" (22 : Nat) "SkyTrial$Tokens" "size" "I") ∈ gTBL := tIn1 115 (by decide +kernel) rfl
theorem zw116 : (Cond.fieldLink "SkyTrial$Tokens" (26 : Nat) "SkyTrial$Tokens" "words" "[J") ∈ gTBL := tIn1 116 (by decide +kernel) rfl
theorem zw128 : (Cond.arrayClass Jvm.ClassFile.FieldType.long) ∈ gTBL := tIn1 128 (by decide +kernel) rfl
theorem zw131 : (Cond.instantiable "SkyTrial$Told" (14 : Nat)) ∈ gTBL := tIn1 131 (by decide +kernel) rfl
theorem zw133 : (Cond.instanceMethod ({ cls := "SkyTrial$Told", name := "<init>", desc := "()V" } : Jvm.MethodName)) ∈ gTBL := tIn1 133 (by decide +kernel) rfl
theorem zw134 : (Cond.code ({ cls := "SkyTrial$Told", name := "<init>", desc := "()V" } : Jvm.MethodName) prog_11_method_1_code (1 : Nat) (Option.none : Option Jvm.ClassFile.FieldType)) ∈ gTBL := tIn1 134 (by decide +kernel) rfl
theorem zw135 : (Cond.methodLink "SkyTrial$Told" (3 : Nat) ({ cls := "java/lang/Object", name := "<init>", desc := "()V" } : Jvm.MethodName)) ∈ gTBL := tIn1 135 (by decide +kernel) rfl
theorem zw136 : (Cond.fieldLink "SkyTrial$Told" (9 : Nat) "SkyTrial$Told" "signs" "I") ∈ gTBL := tIn1 136 (by decide +kernel) rfl
theorem zw140 : (Cond.fieldLink "SkyTrial$Told" (15 : Nat) "SkyTrial$Told" "says" "I") ∈ gTBL := tIn1 140 (by decide +kernel) rfl
theorem zw144 : (Cond.fieldLink "SkyTrial$Told" (18 : Nat) "SkyTrial$Told" "books" "I") ∈ gTBL := tIn1 144 (by decide +kernel) rfl
theorem zw147 : (Cond.fieldLink "SkyTrial$Told" (21 : Nat) "SkyTrial$Told" "whens" "I") ∈ gTBL := tIn1 147 (by decide +kernel) rfl
theorem zw150 : (Cond.fieldLink "SkyTrial$Told" (24 : Nat) "SkyTrial$Told" "laws" "I") ∈ gTBL := tIn1 150 (by decide +kernel) rfl
theorem zw153 : (Cond.fieldLink "SkyTrial$Told" (27 : Nat) "SkyTrial$Told" "sorts" "[I") ∈ gTBL := tIn1 153 (by decide +kernel) rfl
theorem zw157 : (Cond.fieldLink "SkyTrial$Told" (31 : Nat) "SkyTrial$Told" "whenBooks" "[I") ∈ gTBL := tIn1 157 (by decide +kernel) rfl
theorem zw158 : (Cond.fieldLink "SkyTrial$Told" (34 : Nat) "SkyTrial$Told" "whenSigns" "[I") ∈ gTBL := tIn1 158 (by decide +kernel) rfl
theorem zw159 : (Cond.fieldLink "SkyTrial$Told" (37 : Nat) "SkyTrial$Told" "whenSays" "[I") ∈ gTBL := tIn1 159 (by decide +kernel) rfl
theorem zw160 : (Cond.fieldLink "SkyTrial$Told" (40 : Nat) "SkyTrial$Told" "formulaStarts" "[I") ∈ gTBL := tIn1 160 (by decide +kernel) rfl
theorem zw162 : (Cond.fieldLink "SkyTrial$Told" (43 : Nat) "SkyTrial$Told" "formulaEnds" "[I") ∈ gTBL := tIn1 162 (by decide +kernel) rfl
theorem zw164 : (Cond.fieldLink "SkyTrial$Told" (46 : Nat) "SkyTrial$Told" "stepKinds" "[I") ∈ gTBL := tIn1 164 (by decide +kernel) rfl
theorem zw166 : (Cond.fieldLink "SkyTrial$Told" (49 : Nat) "SkyTrial$Told" "stepValues" "[I") ∈ gTBL := tIn1 166 (by decide +kernel) rfl
theorem zw168 : (Cond.fieldLink "SkyTrial$Told" (52 : Nat) "SkyTrial$Told" "steps" "I") ∈ gTBL := tIn1 168 (by decide +kernel) rfl
theorem zw247 : (Cond.methodLink "SkyTrial$People" (3 : Nat) ({ cls := "java/lang/Object", name := "<init>", desc := "()V" } : Jvm.MethodName)) ∈ gTBL := tIn2 7 (by decide +kernel) rfl
theorem zw248 : (Cond.fieldLink "SkyTrial$People" (9 : Nat) "SkyTrial$People" "traits" "[I") ∈ gTBL := tIn2 8 (by decide +kernel) rfl
theorem zw249 : (Cond.fieldLink "SkyTrial$People" (15 : Nat) "SkyTrial$People" "size" "I") ∈ gTBL := tIn2 9 (by decide +kernel) rfl
theorem zw262 : (Cond.methodLink "SkyTrial$Sky" (3 : Nat) ({ cls := "java/lang/Object", name := "<init>", desc := "()V" } : Jvm.MethodName)) ∈ gTBL := tIn2 22 (by decide +kernel) rfl
theorem zw263 : (Cond.classLink "SkyTrial$Sky" (9 : Nat) "SkyTrial$Told") ∈ gTBL := tIn2 23 (by decide +kernel) rfl
theorem zw265 : (Cond.classLink "SkyTrial$Sky" (18 : Nat) "SkyTrial$Reckoner") ∈ gTBL := tIn2 25 (by decide +kernel) rfl
theorem zw266 : (Cond.instantiable "SkyTrial$Reckoner" (3 : Nat)) ∈ gTBL := tIn2 26 (by decide +kernel) rfl
theorem zw268 : (Cond.instanceMethod ({ cls := "SkyTrial$Reckoner", name := "<init>", desc := "()V" } : Jvm.MethodName)) ∈ gTBL := tIn2 28 (by decide +kernel) rfl
theorem zw269 : (Cond.code ({ cls := "SkyTrial$Reckoner", name := "<init>", desc := "()V" } : Jvm.MethodName) prog_5_method_1_code (1 : Nat) (Option.none : Option Jvm.ClassFile.FieldType)) ∈ gTBL := tIn2 29 (by decide +kernel) rfl
theorem zw270 : (Cond.methodLink "SkyTrial$Reckoner" (3 : Nat) ({ cls := "java/lang/Object", name := "<init>", desc := "()V" } : Jvm.MethodName)) ∈ gTBL := tIn2 30 (by decide +kernel) rfl
theorem zw271 : (Cond.fieldLink "SkyTrial$Reckoner" (9 : Nat) "SkyTrial$Reckoner" "slots" "[I") ∈ gTBL := tIn2 31 (by decide +kernel) rfl
theorem zw273 : (Cond.fieldLink "SkyTrial$Reckoner" (15 : Nat) "SkyTrial$Reckoner" "stack" "[I") ∈ gTBL := tIn2 33 (by decide +kernel) rfl
theorem zw274 : (Cond.fieldLink "SkyTrial$Reckoner" (18 : Nat) "SkyTrial$Reckoner" "top" "I") ∈ gTBL := tIn2 34 (by decide +kernel) rfl
theorem zw282 : (Cond.fieldLink "SkyTrial$Sky" (12 : Nat) "SkyTrial$Sky" "told" "LSkyTrial$Told;") ∈ gTBL := tIn2 42 (by decide +kernel) rfl
theorem zw284 : (Cond.fieldLink "SkyTrial$Sky" (35 : Nat) "SkyTrial$Sky" "people" "LSkyTrial$People;") ∈ gTBL := tIn2 44 (by decide +kernel) rfl
theorem zw285 : (Cond.fieldLink "SkyTrial$Sky" (21 : Nat) "SkyTrial$Sky" "reckoner" "LSkyTrial$Reckoner;") ∈ gTBL := tIn2 45 (by decide +kernel) rfl
theorem zw286 : (Cond.fieldLink "SkyTrial$Sky" (25 : Nat) "SkyTrial$Sky" "ups" "[I") ∈ gTBL := tIn2 46 (by decide +kernel) rfl
theorem zw288 : (Cond.fieldLink "SkyTrial$Sky" (29 : Nat) "SkyTrial$Sky" "truths" "[I") ∈ gTBL := tIn2 48 (by decide +kernel) rfl
theorem zw290 : (Cond.fieldLink "SkyTrial$Sky" (32 : Nat) "SkyTrial$Sky" "fits" "[I") ∈ gTBL := tIn2 50 (by decide +kernel) rfl
theorem zw309 : (Cond.methodLink "SkyTrial$Facts" (3 : Nat) ({ cls := "java/lang/Object", name := "<init>", desc := "()V" } : Jvm.MethodName)) ∈ gTBL := tIn2 69 (by decide +kernel) rfl
theorem zw310 : (Cond.fieldLink "SkyTrial$Facts" (9 : Nat) "SkyTrial$Facts" "kinds" "[I") ∈ gTBL := tIn2 70 (by decide +kernel) rfl
theorem zw312 : (Cond.fieldLink "SkyTrial$Facts" (15 : Nat) "SkyTrial$Facts" "subjects" "[I") ∈ gTBL := tIn2 72 (by decide +kernel) rfl
theorem zw313 : (Cond.fieldLink "SkyTrial$Facts" (18 : Nat) "SkyTrial$Facts" "values" "[I") ∈ gTBL := tIn2 73 (by decide +kernel) rfl
theorem zw314 : (Cond.fieldLink "SkyTrial$Facts" (21 : Nat) "SkyTrial$Facts" "known" "[Z") ∈ gTBL := tIn2 74 (by decide +kernel) rfl
theorem zw315 : (Cond.fieldLink "SkyTrial$Facts" (25 : Nat) "SkyTrial$Facts" "size" "I") ∈ gTBL := tIn2 75 (by decide +kernel) rfl
theorem zw328 : (Cond.arrayClass Jvm.ClassFile.FieldType.boolean) ∈ gTBL := tIn2 88 (by decide +kernel) rfl
theorem zw334 : (Cond.methodLink "SkyTrial$Chance" (3 : Nat) ({ cls := "java/lang/Object", name := "<init>", desc := "()V" } : Jvm.MethodName)) ∈ gTBL := tIn2 94 (by decide +kernel) rfl
theorem zw335 : (Cond.fieldLink "SkyTrial$Chance" (11 : Nat) "SkyTrial$Chance" "takings" "[J") ∈ gTBL := tIn2 95 (by decide +kernel) rfl
theorem zw336 : (Cond.fieldLink "SkyTrial$Chance" (15 : Nat) "SkyTrial$Chance" "thirds" "[J") ∈ gTBL := tIn2 96 (by decide +kernel) rfl
theorem zw337 : (Cond.fieldLink "SkyTrial$Chance" (18 : Nat) "SkyTrial$Chance" "halves" "[J") ∈ gTBL := tIn2 97 (by decide +kernel) rfl
theorem zw338 : (Cond.fieldLink "SkyTrial$Chance" (21 : Nat) "SkyTrial$Chance" "spread" "[J") ∈ gTBL := tIn2 98 (by decide +kernel) rfl
theorem zw339 : (Cond.fieldLink "SkyTrial$Chance" (24 : Nat) "SkyTrial$Chance" "wider" "[J") ∈ gTBL := tIn2 99 (by decide +kernel) rfl
theorem zw356 : (Cond.methodLink "SkyTrial$Table" (1 : Nat) ({ cls := "java/lang/Object", name := "<init>", desc := "()V" } : Jvm.MethodName)) ∈ gTBL := tIn2 116 (by decide +kernel) rfl
theorem zw357 : (Cond.fieldLink "SkyTrial$Table" (7 : Nat) "SkyTrial$Table" "all" "I") ∈ gTBL := tIn2 117 (by decide +kernel) rfl
theorem zw359 : (Cond.fieldLink "SkyTrial$Table" (13 : Nat) "SkyTrial$Table" "up" "I") ∈ gTBL := tIn2 119 (by decide +kernel) rfl
theorem zw362 : (Cond.fieldLink "SkyTrial$Table" (16 : Nat) "SkyTrial$Table" "trueOnes" "I") ∈ gTBL := tIn2 122 (by decide +kernel) rfl
theorem zw365 : (Cond.fieldLink "SkyTrial$Table" (19 : Nat) "SkyTrial$Table" "both" "I") ∈ gTBL := tIn2 125 (by decide +kernel) rfl
