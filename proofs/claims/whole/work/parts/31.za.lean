theorem zw2 : (Cond.initialized "SkyTrial$Tape") ∈ gTBL := tIn1 2 (by decide +kernel) rfl
theorem zw3 : (Cond.initialized "SkyTrial$TextReader") ∈ gTBL := tIn1 3 (by decide +kernel) rfl
theorem zw4 : (Cond.initialized "SkyTrial$Tokens") ∈ gTBL := tIn1 4 (by decide +kernel) rfl
theorem zw9 : (Cond.initialized "SkyTrial$Told") ∈ gTBL := tIn1 9 (by decide +kernel) rfl
theorem zw10 : (Cond.initialized "SkyTrial$People") ∈ gTBL := tIn1 10 (by decide +kernel) rfl
theorem zw11 : (Cond.initialized "SkyTrial$Sky") ∈ gTBL := tIn1 11 (by decide +kernel) rfl
theorem zw12 : (Cond.initialized "SkyTrial$Reckoner") ∈ gTBL := tIn1 12 (by decide +kernel) rfl
theorem zw13 : (Cond.initialized "SkyTrial$Facts") ∈ gTBL := tIn1 13 (by decide +kernel) rfl
theorem zw14 : (Cond.initialized "SkyTrial$Chance") ∈ gTBL := tIn1 14 (by decide +kernel) rfl
theorem zw15 : (Cond.initialized "SkyTrial$Table") ∈ gTBL := tIn1 15 (by decide +kernel) rfl
theorem zw26 : (Cond.methodLink "SkyTrial" (1 : Nat) ({ cls := "java/lang/Object", name := "<init>", desc := "()V" } : Jvm.MethodName)) ∈ gTBL := tIn1 26 (by decide +kernel) rfl
theorem zw27 : (Cond.instanceMethod ({ cls := "java/lang/Object", name := "<init>", desc := "()V" } : Jvm.MethodName)) ∈ gTBL := tIn1 27 (by decide +kernel) rfl
theorem zw28 : (Cond.code ({ cls := "java/lang/Object", name := "<init>", desc := "()V" } : Jvm.MethodName) object_method_1_code (1 : Nat) (Option.none : Option Jvm.ClassFile.FieldType)) ∈ gTBL := tIn1 28 (by decide +kernel) rfl
theorem zw29 : (Cond.classLink "SkyTrial" (7 : Nat) "SkyTrial$Tape") ∈ gTBL := tIn1 29 (by decide +kernel) rfl
theorem zw30 : (Cond.instantiable "SkyTrial$Tape" (2 : Nat)) ∈ gTBL := tIn1 30 (by decide +kernel) rfl
theorem zw32 : (Cond.instanceMethod ({ cls := "SkyTrial$Tape", name := "<init>", desc := "()V" } : Jvm.MethodName)) ∈ gTBL := tIn1 32 (by decide +kernel) rfl
theorem zw33 : (Cond.code ({ cls := "SkyTrial$Tape", name := "<init>", desc := "()V" } : Jvm.MethodName) prog_8_method_1_code (1 : Nat) (Option.none : Option Jvm.ClassFile.FieldType)) ∈ gTBL := tIn1 33 (by decide +kernel) rfl
theorem zw34 : (Cond.methodLink "SkyTrial$Tape" (3 : Nat) ({ cls := "java/lang/Object", name := "<init>", desc := "()V" } : Jvm.MethodName)) ∈ gTBL := tIn1 34 (by decide +kernel) rfl
theorem zw35 : (Cond.fieldLink "SkyTrial$Tape" (11 : Nat) "SkyTrial$Tape" "bytes" "[I") ∈ gTBL := tIn1 35 (by decide +kernel) rfl
theorem zw36 : (Cond.fieldLink "SkyTrial$Tape" (15 : Nat) "SkyTrial$Tape" "length" "I") ∈ gTBL := tIn1 36 (by decide +kernel) rfl
theorem zw43 : (Cond.arrayClass Jvm.ClassFile.FieldType.int) ∈ gTBL := tIn1 43 (by decide +kernel) rfl
theorem zw44 : (Cond.classLink "SkyTrial" (16 : Nat) "SkyTrial$TextReader") ∈ gTBL := tIn1 44 (by decide +kernel) rfl
theorem zw45 : (Cond.instantiable "SkyTrial$TextReader" (14 : Nat)) ∈ gTBL := tIn1 45 (by decide +kernel) rfl
theorem zw47 : (Cond.instanceMethod ({ cls := "SkyTrial$TextReader", name := "<init>", desc := "()V" } : Jvm.MethodName)) ∈ gTBL := tIn1 47 (by decide +kernel) rfl
theorem zw48 : (Cond.code ({ cls := "SkyTrial$TextReader", name := "<init>", desc := "()V" } : Jvm.MethodName) prog_9_method_1_code (1 : Nat) (Option.none : Option Jvm.ClassFile.FieldType)) ∈ gTBL := tIn1 48 (by decide +kernel) rfl
theorem zw49 : (Cond.methodLink "SkyTrial$TextReader" (3 : Nat) ({ cls := "java/lang/Object", name := "<init>", desc := "()V" } : Jvm.MethodName)) ∈ gTBL := tIn1 49 (by decide +kernel) rfl
theorem zw50 : (Cond.classLink "SkyTrial$TextReader" (9 : Nat) "SkyTrial$Tokens") ∈ gTBL := tIn1 50 (by decide +kernel) rfl
theorem zw51 : (Cond.instantiable "SkyTrial$Tokens" (5 : Nat)) ∈ gTBL := tIn1 51 (by decide +kernel) rfl
theorem zw52 : (Cond.methodLink "SkyTrial$TextReader" (11 : Nat) ({ cls := "SkyTrial$Tokens", name := "<init>", desc := "()V" } : Jvm.MethodName)) ∈ gTBL := tIn1 52 (by decide +kernel) rfl
theorem zw53 : (Cond.instanceMethod ({ cls := "SkyTrial$Tokens", name := "<init>", desc := "()V" } : Jvm.MethodName)) ∈ gTBL := tIn1 53 (by decide +kernel) rfl
theorem zw54 : (Cond.code ({ cls := "SkyTrial$Tokens", name := "<init>", desc := "()V" } : Jvm.MethodName) prog_10_method_1_code (6 : Nat) (Option.none : Option Jvm.ClassFile.FieldType)) ∈ gTBL := tIn1 54 (by decide +kernel) rfl
theorem zw55 : (Cond.methodLink "SkyTrial$Tokens" (3 : Nat) ({ cls := "java/lang/Object", name := "<init>", desc := "()V" } : Jvm.MethodName)) ∈ gTBL := tIn1 55 (by decide +kernel) rfl
theorem zw109 : (Cond.fieldLink "SkyTrial$Tokens" (9 : Nat) "SkyTrial$Tokens" "kinds" "[I") ∈ gTBL := tIn1 109 (by decide +kernel) rfl
theorem zw111 : (Cond.fieldLink "SkyTrial$Tokens" (15 : Nat) "SkyTrial$Tokens" "starts" "[I") ∈ gTBL := tIn1 111 (by decide +kernel) rfl
theorem zw113 : (Cond.fieldLink "SkyTrial$Tokens" (18 : Nat) "SkyTrial$Tokens" "values" "[J") ∈ gTBL := tIn1 113 (by decide +kernel) rfl
theorem zw115 : (Cond.fieldLink "SkyTrial$Tokens" (22 : Nat) "SkyTrial$Tokens" "size" "I") ∈ gTBL := tIn1 115 (by decide +kernel) rfl
theorem zw116 : (Cond.fieldLink "SkyTrial$Tokens" (26 : Nat) "SkyTrial$Tokens" "words" "[J") ∈ gTBL := tIn1 116 (by decide +kernel) rfl
theorem zw128 : (Cond.arrayClass Jvm.ClassFile.FieldType.long) ∈ gTBL := tIn1 128 (by decide +kernel) rfl
theorem zw129 : (Cond.arrayClass Jvm.ClassFile.FieldType.byte) ∈ gTBL := tIn1 129 (by decide +kernel) rfl
theorem zw130 : (Cond.classLink "SkyTrial$TextReader" (18 : Nat) "SkyTrial$Told") ∈ gTBL := tIn1 130 (by decide +kernel) rfl
theorem zw131 : (Cond.instantiable "SkyTrial$Told" (14 : Nat)) ∈ gTBL := tIn1 131 (by decide +kernel) rfl
theorem zw133 : (Cond.instanceMethod ({ cls := "SkyTrial$Told", name := "<init>", desc := "()V" } : Jvm.MethodName)) ∈ gTBL := tIn1 133 (by decide +kernel) rfl
theorem zw134 : (Cond.code ({ cls := "SkyTrial$Told", name := "<init>", desc := "()V" } : Jvm.MethodName) prog_11_method_1_code (1 : Nat) (Option.none : Option Jvm.ClassFile.FieldType)) ∈ gTBL := tIn1 134 (by decide +kernel) rfl
theorem zw135 : (Cond.methodLink "SkyTrial$Told" (3 : Nat) ({ cls := "java/lang/Object", name := "<init>", desc := "()V" } : Jvm.MethodName)) ∈ gTBL := tIn1 135 (by decide +kernel) rfl
theorem zw136 : (Cond.fieldLink "SkyTrial$Told" (9 : Nat) "SkyTrial$Told" "signs" "I") ∈ gTBL := tIn1 136 (by decide +kernel) rfl
theorem zw140 : (Cond.fieldLink "SkyTrial$Told" (15 : Nat) "SkyTrial$Told" "says" "I") ∈ gTBL := tIn1 140 (by decide +kernel) rfl
theorem zw144 : (Cond.fieldLink "SkyTrial$Told" (18 : Nat) "SkyTrial$Told" "books" "I") ∈ gTBL := tIn1 144 (by decide +kernel) rfl
theorem zw147 : (Cond.fieldLink "SkyTrial$Told" (21 : Nat) "SkyTrial$Told" "whens" "I") ∈ gTBL := tIn1 147 (by decide +kernel) rfl
theorem zw150 : (Cond.fieldLink "SkyTrial$Told" (24 : Nat) "SkyTrial$Told" "laws" "I") ∈ gTBL := tIn1 150 (by decide +kernel) rfl
theorem zw153 : (Cond.fieldLink "SkyTrial$Told" (27 : Nat) "SkyTrial$Told" "sorts" "[I") ∈ gTBL := tIn1 153 (by decide +kernel) rfl
theorem zw157 : (Cond.fieldLink "SkyTrial$Told" (31 : Nat) "SkyTrial$Told" "whenBooks" "[I") ∈ gTBL := tIn1 157 (by decide +kernel) rfl
theorem zw158 : (Cond.fieldLink "SkyTrial$Told" (34 : Nat) "SkyTrial$Told" "whenSigns" "[I") ∈ gTBL := tIn1 158 (by decide +kernel) rfl
theorem zw159 : (Cond.fieldLink "SkyTrial$Told" (37 : Nat) "SkyTrial$Told" "whenSays" "[I") ∈ gTBL := tIn1 159 (by decide +kernel) rfl
theorem zw160 : (Cond.fieldLink "SkyTrial$Told" (40 : Nat) "SkyTrial$Told" "formulaStarts" "[I") ∈ gTBL := tIn1 160 (by decide +kernel) rfl
theorem zw162 : (Cond.fieldLink "SkyTrial$Told" (43 : Nat) "SkyTrial$Told" "formulaEnds" "[I") ∈ gTBL := tIn1 162 (by decide +kernel) rfl
theorem zw164 : (Cond.fieldLink "SkyTrial$Told" (46 : Nat) "SkyTrial$Told" "stepKinds" "[I") ∈ gTBL := tIn1 164 (by decide +kernel) rfl
theorem zw166 : (Cond.fieldLink "SkyTrial$Told" (49 : Nat) "SkyTrial$Told" "stepValues" "[I") ∈ gTBL := tIn1 166 (by decide +kernel) rfl
theorem zw168 : (Cond.fieldLink "SkyTrial$Told" (52 : Nat) "SkyTrial$Told" "steps" "I") ∈ gTBL := tIn1 168 (by decide +kernel) rfl
theorem zw199 : (Cond.fieldLink "SkyTrial$TextReader" (12 : Nat) "SkyTrial$TextReader" "tokens" "LSkyTrial$Tokens;") ∈ gTBL := tIn1 199 (by decide +kernel) rfl
theorem zw200 : (Cond.fieldLink "SkyTrial$TextReader" (21 : Nat) "SkyTrial$TextReader" "draft" "LSkyTrial$Told;") ∈ gTBL := tIn1 200 (by decide +kernel) rfl
theorem zw201 : (Cond.fieldLink "SkyTrial$TextReader" (25 : Nat) "SkyTrial$TextReader" "at" "I") ∈ gTBL := tIn1 201 (by decide +kernel) rfl
theorem zw202 : (Cond.fieldLink "SkyTrial$TextReader" (29 : Nat) "SkyTrial$TextReader" "here" "I") ∈ gTBL := tIn1 202 (by decide +kernel) rfl
theorem zw203 : (Cond.fieldLink "SkyTrial$TextReader" (32 : Nat) "SkyTrial$TextReader" "value" "J") ∈ gTBL := tIn1 203 (by decide +kernel) rfl
theorem zw204 : (Cond.fieldLink "SkyTrial$TextReader" (36 : Nat) "SkyTrial$TextReader" "spot" "I") ∈ gTBL := tIn1 204 (by decide +kernel) rfl
theorem zw205 : (Cond.fieldLink "SkyTrial$TextReader" (39 : Nat) "SkyTrial$TextReader" "fault" "I") ∈ gTBL := tIn1 205 (by decide +kernel) rfl
theorem zw206 : (Cond.fieldLink "SkyTrial$TextReader" (42 : Nat) "SkyTrial$TextReader" "faultAt" "I") ∈ gTBL := tIn1 206 (by decide +kernel) rfl
theorem zw207 : (Cond.fieldLink "SkyTrial$TextReader" (45 : Nat) "SkyTrial$TextReader" "laterFault" "I") ∈ gTBL := tIn1 207 (by decide +kernel) rfl
theorem zw208 : (Cond.fieldLink "SkyTrial$TextReader" (48 : Nat) "SkyTrial$TextReader" "laterAt" "I") ∈ gTBL := tIn1 208 (by decide +kernel) rfl
theorem zw209 : (Cond.fieldLink "SkyTrial$TextReader" (51 : Nat) "SkyTrial$TextReader" "names" "[J") ∈ gTBL := tIn1 209 (by decide +kernel) rfl
theorem zw210 : (Cond.fieldLink "SkyTrial$TextReader" (55 : Nat) "SkyTrial$TextReader" "nameKinds" "[I") ∈ gTBL := tIn1 210 (by decide +kernel) rfl
theorem zw211 : (Cond.fieldLink "SkyTrial$TextReader" (59 : Nat) "SkyTrial$TextReader" "nameNumbers" "[I") ∈ gTBL := tIn1 211 (by decide +kernel) rfl
theorem zw212 : (Cond.fieldLink "SkyTrial$TextReader" (62 : Nat) "SkyTrial$TextReader" "named" "I") ∈ gTBL := tIn1 212 (by decide +kernel) rfl
theorem zw242 : (Cond.classLink "SkyTrial" (23 : Nat) "SkyTrial$People") ∈ gTBL := tIn2 2 (by decide +kernel) rfl
theorem zw243 : (Cond.instantiable "SkyTrial$People" (2 : Nat)) ∈ gTBL := tIn2 3 (by decide +kernel) rfl
theorem zw245 : (Cond.instanceMethod ({ cls := "SkyTrial$People", name := "<init>", desc := "()V" } : Jvm.MethodName)) ∈ gTBL := tIn2 5 (by decide +kernel) rfl
theorem zw246 : (Cond.code ({ cls := "SkyTrial$People", name := "<init>", desc := "()V" } : Jvm.MethodName) prog_4_method_1_code (1 : Nat) (Option.none : Option Jvm.ClassFile.FieldType)) ∈ gTBL := tIn2 6 (by decide +kernel) rfl
theorem zw247 : (Cond.methodLink "SkyTrial$People" (3 : Nat) ({ cls := "java/lang/Object", name := "<init>", desc := "()V" } : Jvm.MethodName)) ∈ gTBL := tIn2 7 (by decide +kernel) rfl
theorem zw248 : (Cond.fieldLink "SkyTrial$People" (9 : Nat) "SkyTrial$People" "traits" "[I") ∈ gTBL := tIn2 8 (by decide +kernel) rfl
theorem zw249 : (Cond.fieldLink "SkyTrial$People" (15 : Nat) "SkyTrial$People" "size" "I") ∈ gTBL := tIn2 9 (by decide +kernel) rfl
theorem zw257 : (Cond.classLink "SkyTrial" (30 : Nat) "SkyTrial$Sky") ∈ gTBL := tIn2 17 (by decide +kernel) rfl
theorem zw258 : (Cond.instantiable "SkyTrial$Sky" (6 : Nat)) ∈ gTBL := tIn2 18 (by decide +kernel) rfl
theorem zw259 : (Cond.methodLink "SkyTrial" (32 : Nat) ({ cls := "SkyTrial$Sky", name := "<init>", desc := "(LSkyTrial$People;)V" } : Jvm.MethodName)) ∈ gTBL := tIn2 19 (by decide +kernel) rfl
theorem zw260 : (Cond.instanceMethod ({ cls := "SkyTrial$Sky", name := "<init>", desc := "(LSkyTrial$People;)V" } : Jvm.MethodName)) ∈ gTBL := tIn2 20 (by decide +kernel) rfl
theorem zw261 : (Cond.code ({ cls := "SkyTrial$Sky", name := "<init>", desc := "(LSkyTrial$People;)V" } : Jvm.MethodName) prog_6_method_1_code (2 : Nat) (Option.none : Option Jvm.ClassFile.FieldType)) ∈ gTBL := tIn2 21 (by decide +kernel) rfl
theorem zw262 : (Cond.methodLink "SkyTrial$Sky" (3 : Nat) ({ cls := "java/lang/Object", name := "<init>", desc := "()V" } : Jvm.MethodName)) ∈ gTBL := tIn2 22 (by decide +kernel) rfl
theorem zw263 : (Cond.classLink "SkyTrial$Sky" (9 : Nat) "SkyTrial$Told") ∈ gTBL := tIn2 23 (by decide +kernel) rfl
theorem zw265 : (Cond.classLink "SkyTrial$Sky" (18 : Nat) "SkyTrial$Reckoner") ∈ gTBL := tIn2 25 (by decide +kernel) rfl
theorem zw266 : (Cond.instantiable "SkyTrial$Reckoner" (3 : Nat)) ∈ gTBL := tIn2 26 (by decide +kernel) rfl
theorem zw268 : (Cond.instanceMethod ({ cls := "SkyTrial$Reckoner", name := "<init>", desc := "()V" } : Jvm.MethodName)) ∈ gTBL := tIn2 28 (by decide +kernel) rfl
theorem zw269 : (Cond.code ({ cls := "SkyTrial$Reckoner", name := "<init>", desc := "()V" } : Jvm.MethodName) prog_5_method_1_code (1 : Nat) (Option.none : Option Jvm.ClassFile.FieldType)) ∈ gTBL := tIn2 29 (by decide +kernel) rfl
theorem zw270 : (Cond.methodLink "SkyTrial$Reckoner" (3 : Nat) ({ cls := "java/lang/Object", name := "<init>", desc := "()V" } : Jvm.MethodName)) ∈ gTBL := tIn2 30 (by decide +kernel) rfl
theorem zw271 : (Cond.fieldLink "SkyTrial$Reckoner" (9 : Nat) "SkyTrial$Reckoner" "slots" "[I") ∈ gTBL := tIn2 31 (by decide +kernel) rfl
theorem zw273 : (Cond.fieldLink "SkyTrial$Reckoner" (15 : Nat) "SkyTrial$Reckoner" "stack" "[I") ∈ gTBL := tIn2 33 (by decide +kernel) rfl
theorem zw274 : (Cond.fieldLink "SkyTrial$Reckoner" (18 : Nat) "SkyTrial$Reckoner" "top" "I") ∈ gTBL := tIn2 34 (by decide +kernel) rfl
theorem zw282 : (Cond.fieldLink "SkyTrial$Sky" (12 : Nat) "SkyTrial$Sky" "told" "LSkyTrial$Told;") ∈ gTBL := tIn2 42 (by decide +kernel) rfl
theorem zw284 : (Cond.fieldLink "SkyTrial$Sky" (35 : Nat) "SkyTrial$Sky" "people" "LSkyTrial$People;") ∈ gTBL := tIn2 44 (by decide +kernel) rfl
theorem zw285 : (Cond.fieldLink "SkyTrial$Sky" (21 : Nat) "SkyTrial$Sky" "reckoner" "LSkyTrial$Reckoner;") ∈ gTBL := tIn2 45 (by decide +kernel) rfl
theorem zw286 : (Cond.fieldLink "SkyTrial$Sky" (25 : Nat) "SkyTrial$Sky" "ups" "[I") ∈ gTBL := tIn2 46 (by decide +kernel) rfl
theorem zw288 : (Cond.fieldLink "SkyTrial$Sky" (29 : Nat) "SkyTrial$Sky" "truths" "[I") ∈ gTBL := tIn2 48 (by decide +kernel) rfl
theorem zw290 : (Cond.fieldLink "SkyTrial$Sky" (32 : Nat) "SkyTrial$Sky" "fits" "[I") ∈ gTBL := tIn2 50 (by decide +kernel) rfl
theorem zw304 : (Cond.classLink "SkyTrial" (39 : Nat) "SkyTrial$Facts") ∈ gTBL := tIn2 64 (by decide +kernel) rfl
theorem zw305 : (Cond.instantiable "SkyTrial$Facts" (5 : Nat)) ∈ gTBL := tIn2 65 (by decide +kernel) rfl
theorem zw307 : (Cond.instanceMethod ({ cls := "SkyTrial$Facts", name := "<init>", desc := "()V" } : Jvm.MethodName)) ∈ gTBL := tIn2 67 (by decide +kernel) rfl
theorem zw308 : (Cond.code ({ cls := "SkyTrial$Facts", name := "<init>", desc := "()V" } : Jvm.MethodName) prog_3_method_1_code (1 : Nat) (Option.none : Option Jvm.ClassFile.FieldType)) ∈ gTBL := tIn2 68 (by decide +kernel) rfl
theorem zw309 : (Cond.methodLink "SkyTrial$Facts" (3 : Nat) ({ cls := "java/lang/Object", name := "<init>", desc := "()V" } : Jvm.MethodName)) ∈ gTBL := tIn2 69 (by decide +kernel) rfl
theorem zw310 : (Cond.fieldLink "SkyTrial$Facts" (9 : Nat) "SkyTrial$Facts" "kinds" "[I") ∈ gTBL := tIn2 70 (by decide +kernel) rfl
theorem zw312 : (Cond.fieldLink "SkyTrial$Facts" (15 : Nat) "SkyTrial$Facts" "subjects" "[I") ∈ gTBL := tIn2 72 (by decide +kernel) rfl
theorem zw313 : (Cond.fieldLink "SkyTrial$Facts" (18 : Nat) "SkyTrial$Facts" "values" "[I") ∈ gTBL := tIn2 73 (by decide +kernel) rfl
theorem zw314 : (Cond.fieldLink "SkyTrial$Facts" (21 : Nat) "SkyTrial$Facts" "known" "[Z") ∈ gTBL := tIn2 74 (by decide +kernel) rfl
theorem zw315 : (Cond.fieldLink "SkyTrial$Facts" (25 : Nat) "SkyTrial$Facts" "size" "I") ∈ gTBL := tIn2 75 (by decide +kernel) rfl
theorem zw328 : (Cond.arrayClass Jvm.ClassFile.FieldType.boolean) ∈ gTBL := tIn2 88 (by decide +kernel) rfl
theorem zw329 : (Cond.classLink "SkyTrial" (46 : Nat) "SkyTrial$Chance") ∈ gTBL := tIn2 89 (by decide +kernel) rfl
theorem zw330 : (Cond.instantiable "SkyTrial$Chance" (5 : Nat)) ∈ gTBL := tIn2 90 (by decide +kernel) rfl
theorem zw331 : (Cond.methodLink "SkyTrial" (48 : Nat) ({ cls := "SkyTrial$Chance", name := "<init>", desc := "()V" } : Jvm.MethodName)) ∈ gTBL := tIn2 91 (by decide +kernel) rfl
theorem zw332 : (Cond.instanceMethod ({ cls := "SkyTrial$Chance", name := "<init>", desc := "()V" } : Jvm.MethodName)) ∈ gTBL := tIn2 92 (by decide +kernel) rfl
theorem zw333 : (Cond.code ({ cls := "SkyTrial$Chance", name := "<init>", desc := "()V" } : Jvm.MethodName) prog_2_method_1_code (3 : Nat) (Option.none : Option Jvm.ClassFile.FieldType)) ∈ gTBL := tIn2 93 (by decide +kernel) rfl
theorem zw334 : (Cond.methodLink "SkyTrial$Chance" (3 : Nat) ({ cls := "java/lang/Object", name := "<init>", desc := "()V" } : Jvm.MethodName)) ∈ gTBL := tIn2 94 (by decide +kernel) rfl
theorem zw335 : (Cond.fieldLink "SkyTrial$Chance" (11 : Nat) "SkyTrial$Chance" "takings" "[J") ∈ gTBL := tIn2 95 (by decide +kernel) rfl
theorem zw336 : (Cond.fieldLink "SkyTrial$Chance" (15 : Nat) "SkyTrial$Chance" "thirds" "[J") ∈ gTBL := tIn2 96 (by decide +kernel) rfl
theorem zw337 : (Cond.fieldLink "SkyTrial$Chance" (18 : Nat) "SkyTrial$Chance" "halves" "[J") ∈ gTBL := tIn2 97 (by decide +kernel) rfl
theorem zw338 : (Cond.fieldLink "SkyTrial$Chance" (21 : Nat) "SkyTrial$Chance" "spread" "[J") ∈ gTBL := tIn2 98 (by decide +kernel) rfl
theorem zw339 : (Cond.fieldLink "SkyTrial$Chance" (24 : Nat) "SkyTrial$Chance" "wider" "[J") ∈ gTBL := tIn2 99 (by decide +kernel) rfl
theorem zw351 : (Cond.classLink "SkyTrial" (53 : Nat) "SkyTrial$Table") ∈ gTBL := tIn2 111 (by decide +kernel) rfl
theorem zw352 : (Cond.instantiable "SkyTrial$Table" (4 : Nat)) ∈ gTBL := tIn2 112 (by decide +kernel) rfl
theorem zw354 : (Cond.instanceMethod ({ cls := "SkyTrial$Table", name := "<init>", desc := "()V" } : Jvm.MethodName)) ∈ gTBL := tIn2 114 (by decide +kernel) rfl
theorem zw355 : (Cond.code ({ cls := "SkyTrial$Table", name := "<init>", desc := "()V" } : Jvm.MethodName) prog_7_method_1_code (1 : Nat) (Option.none : Option Jvm.ClassFile.FieldType)) ∈ gTBL := tIn2 115 (by decide +kernel) rfl
theorem zw356 : (Cond.methodLink "SkyTrial$Table" (1 : Nat) ({ cls := "java/lang/Object", name := "<init>", desc := "()V" } : Jvm.MethodName)) ∈ gTBL := tIn2 116 (by decide +kernel) rfl
theorem zw357 : (Cond.fieldLink "SkyTrial$Table" (7 : Nat) "SkyTrial$Table" "all" "I") ∈ gTBL := tIn2 117 (by decide +kernel) rfl
theorem zw359 : (Cond.fieldLink "SkyTrial$Table" (13 : Nat) "SkyTrial$Table" "up" "I") ∈ gTBL := tIn2 119 (by decide +kernel) rfl
theorem zw362 : (Cond.fieldLink "SkyTrial$Table" (16 : Nat) "SkyTrial$Table" "trueOnes" "I") ∈ gTBL := tIn2 122 (by decide +kernel) rfl
theorem zw365 : (Cond.fieldLink "SkyTrial$Table" (19 : Nat) "SkyTrial$Table" "both" "I") ∈ gTBL := tIn2 125 (by decide +kernel) rfl
theorem zw377 : (Cond.fieldLink "SkyTrial" (10 : Nat) "SkyTrial" "tape" "LSkyTrial$Tape;") ∈ gTBL := tIn2 137 (by decide +kernel) rfl
theorem zw378 : (Cond.fieldLink "SkyTrial" (19 : Nat) "SkyTrial" "reader" "LSkyTrial$TextReader;") ∈ gTBL := tIn2 138 (by decide +kernel) rfl
theorem zw379 : (Cond.fieldLink "SkyTrial" (26 : Nat) "SkyTrial" "people" "LSkyTrial$People;") ∈ gTBL := tIn2 139 (by decide +kernel) rfl
theorem zw380 : (Cond.fieldLink "SkyTrial" (35 : Nat) "SkyTrial" "sky" "LSkyTrial$Sky;") ∈ gTBL := tIn2 140 (by decide +kernel) rfl
theorem zw381 : (Cond.fieldLink "SkyTrial" (42 : Nat) "SkyTrial" "facts" "LSkyTrial$Facts;") ∈ gTBL := tIn2 141 (by decide +kernel) rfl
theorem zw382 : (Cond.fieldLink "SkyTrial" (49 : Nat) "SkyTrial" "chance" "LSkyTrial$Chance;") ∈ gTBL := tIn2 142 (by decide +kernel) rfl
theorem zw383 : (Cond.fieldLink "SkyTrial" (56 : Nat) "SkyTrial" "tally" "LSkyTrial$Table;") ∈ gTBL := tIn2 143 (by decide +kernel) rfl
theorem zw1035 : (Cond.methodLink "SkyTrialModel" (7 : Nat) ({ cls := "java/lang/Object", name := "<init>", desc := "()V" } : Jvm.MethodName)) ∈ gTBL := tIn5 75 (by decide +kernel) rfl
theorem zw1043 : (Cond.fieldLink "SkyTrialModel" (13 : Nat) "SkyTrialModel" "tape" "[B") ∈ gTBL := tIn5 83 (by decide +kernel) rfl
theorem zw1045 : (Cond.fieldLink "SkyTrialModel" (17 : Nat) "SkyTrialModel" "text" "[B") ∈ gTBL := tIn5 85 (by decide +kernel) rfl
theorem zw1047 : (Cond.fieldLink "SkyTrialModel" (20 : Nat) "SkyTrialModel" "tKind" "[I") ∈ gTBL := tIn5 87 (by decide +kernel) rfl
theorem zw1048 : (Cond.fieldLink "SkyTrialModel" (24 : Nat) "SkyTrialModel" "tPlace" "[I") ∈ gTBL := tIn5 88 (by decide +kernel) rfl
theorem zw1049 : (Cond.fieldLink "SkyTrialModel" (27 : Nat) "SkyTrialModel" "tValue" "[I") ∈ gTBL := tIn5 89 (by decide +kernel) rfl
theorem zw1050 : (Cond.fieldLink "SkyTrialModel" (30 : Nat) "SkyTrialModel" "tName" "[J") ∈ gTBL := tIn5 90 (by decide +kernel) rfl
theorem zw1051 : (Cond.fieldLink "SkyTrialModel" (34 : Nat) "SkyTrialModel" "keys" "[J") ∈ gTBL := tIn5 91 (by decide +kernel) rfl
theorem zw1059 : (Cond.fieldLink "SkyTrialModel" (37 : Nat) "SkyTrialModel" "place" "I") ∈ gTBL := tIn5 99 (by decide +kernel) rfl
theorem zw1063 : (Cond.fieldLink "SkyTrialModel" (40 : Nat) "SkyTrialModel" "nameOf" "[J") ∈ gTBL := tIn5 103 (by decide +kernel) rfl
theorem zw1064 : (Cond.fieldLink "SkyTrialModel" (43 : Nat) "SkyTrialModel" "nameSort" "[I") ∈ gTBL := tIn5 104 (by decide +kernel) rfl
theorem zw1065 : (Cond.fieldLink "SkyTrialModel" (46 : Nat) "SkyTrialModel" "nameAt" "[I") ∈ gTBL := tIn5 105 (by decide +kernel) rfl
theorem zw1066 : (Cond.fieldLink "SkyTrialModel" (49 : Nat) "SkyTrialModel" "signs" "[I") ∈ gTBL := tIn5 106 (by decide +kernel) rfl
theorem zw1067 : (Cond.fieldLink "SkyTrialModel" (52 : Nat) "SkyTrialModel" "says" "[I") ∈ gTBL := tIn5 107 (by decide +kernel) rfl
theorem zw1068 : (Cond.fieldLink "SkyTrialModel" (55 : Nat) "SkyTrialModel" "books" "[I") ∈ gTBL := tIn5 108 (by decide +kernel) rfl
theorem zw1069 : (Cond.fieldLink "SkyTrialModel" (58 : Nat) "SkyTrialModel" "laws" "[I") ∈ gTBL := tIn5 109 (by decide +kernel) rfl
theorem zw1070 : (Cond.fieldLink "SkyTrialModel" (61 : Nat) "SkyTrialModel" "sortOf" "[I") ∈ gTBL := tIn5 110 (by decide +kernel) rfl
theorem zw1071 : (Cond.fieldLink "SkyTrialModel" (64 : Nat) "SkyTrialModel" "whens" "[I") ∈ gTBL := tIn5 111 (by decide +kernel) rfl
theorem zw1072 : (Cond.fieldLink "SkyTrialModel" (67 : Nat) "SkyTrialModel" "whenBook" "[I") ∈ gTBL := tIn5 112 (by decide +kernel) rfl
theorem zw1073 : (Cond.fieldLink "SkyTrialModel" (70 : Nat) "SkyTrialModel" "whenSign" "[I") ∈ gTBL := tIn5 113 (by decide +kernel) rfl
theorem zw1074 : (Cond.fieldLink "SkyTrialModel" (73 : Nat) "SkyTrialModel" "whenSay" "[I") ∈ gTBL := tIn5 114 (by decide +kernel) rfl
theorem zw1075 : (Cond.fieldLink "SkyTrialModel" (76 : Nat) "SkyTrialModel" "litFirst" "[I") ∈ gTBL := tIn5 115 (by decide +kernel) rfl
theorem zw1076 : (Cond.fieldLink "SkyTrialModel" (79 : Nat) "SkyTrialModel" "litLast" "[I") ∈ gTBL := tIn5 116 (by decide +kernel) rfl
theorem zw1077 : (Cond.fieldLink "SkyTrialModel" (82 : Nat) "SkyTrialModel" "lawFrom" "[I") ∈ gTBL := tIn5 117 (by decide +kernel) rfl
theorem zw1078 : (Cond.fieldLink "SkyTrialModel" (85 : Nat) "SkyTrialModel" "lawTo" "[I") ∈ gTBL := tIn5 118 (by decide +kernel) rfl
theorem zw1080 : (Cond.fieldLink "SkyTrialModel" (88 : Nat) "SkyTrialModel" "litSort" "[I") ∈ gTBL := tIn5 120 (by decide +kernel) rfl
theorem zw1081 : (Cond.fieldLink "SkyTrialModel" (91 : Nat) "SkyTrialModel" "litNot" "[Z") ∈ gTBL := tIn5 121 (by decide +kernel) rfl
theorem zw1082 : (Cond.fieldLink "SkyTrialModel" (95 : Nat) "SkyTrialModel" "litOr" "[Z") ∈ gTBL := tIn5 122 (by decide +kernel) rfl
theorem zw1083 : (Cond.fieldLink "SkyTrialModel" (98 : Nat) "SkyTrialModel" "litLeft" "[I") ∈ gTBL := tIn5 123 (by decide +kernel) rfl
theorem zw1084 : (Cond.fieldLink "SkyTrialModel" (101 : Nat) "SkyTrialModel" "litRight" "[I") ∈ gTBL := tIn5 124 (by decide +kernel) rfl
theorem zw1085 : (Cond.fieldLink "SkyTrialModel" (104 : Nat) "SkyTrialModel" "litEnd" "[I") ∈ gTBL := tIn5 125 (by decide +kernel) rfl
theorem zw1087 : (Cond.fieldLink "SkyTrialModel" (107 : Nat) "SkyTrialModel" "code" "[I") ∈ gTBL := tIn5 127 (by decide +kernel) rfl
theorem zw1088 : (Cond.fieldLink "SkyTrialModel" (110 : Nat) "SkyTrialModel" "codeInt" "[I") ∈ gTBL := tIn5 128 (by decide +kernel) rfl
theorem zw1089 : (Cond.fieldLink "SkyTrialModel" (113 : Nat) "SkyTrialModel" "waits" "[I") ∈ gTBL := tIn5 129 (by decide +kernel) rfl
theorem zw1091 : (Cond.fieldLink "SkyTrialModel" (116 : Nat) "SkyTrialModel" "variables" "[I") ∈ gTBL := tIn5 131 (by decide +kernel) rfl
theorem zw1092 : (Cond.fieldLink "SkyTrialModel" (119 : Nat) "SkyTrialModel" "pile" "[I") ∈ gTBL := tIn5 132 (by decide +kernel) rfl
theorem zw1094 : (Cond.fieldLink "SkyTrialModel" (122 : Nat) "SkyTrialModel" "minutes" "[I") ∈ gTBL := tIn5 134 (by decide +kernel) rfl
theorem zw1095 : (Cond.fieldLink "SkyTrialModel" (125 : Nat) "SkyTrialModel" "months" "[I") ∈ gTBL := tIn5 135 (by decide +kernel) rfl
theorem zw1096 : (Cond.fieldLink "SkyTrialModel" (128 : Nat) "SkyTrialModel" "years" "[I") ∈ gTBL := tIn5 136 (by decide +kernel) rfl
theorem zw1097 : (Cond.fieldLink "SkyTrialModel" (131 : Nat) "SkyTrialModel" "coats" "[I") ∈ gTBL := tIn5 137 (by decide +kernel) rfl
theorem zw1098 : (Cond.fieldLink "SkyTrialModel" (134 : Nat) "SkyTrialModel" "ways" "[I") ∈ gTBL := tIn5 138 (by decide +kernel) rfl
theorem zw1099 : (Cond.fieldLink "SkyTrialModel" (137 : Nat) "SkyTrialModel" "isTrueNow" "[Z") ∈ gTBL := tIn5 139 (by decide +kernel) rfl
theorem zw1100 : (Cond.fieldLink "SkyTrialModel" (140 : Nat) "SkyTrialModel" "rows" "[J") ∈ gTBL := tIn5 140 (by decide +kernel) rfl
theorem zw1101 : (Cond.fieldLink "SkyTrialModel" (143 : Nat) "SkyTrialModel" "after" "[J") ∈ gTBL := tIn5 141 (by decide +kernel) rfl
theorem zw1103 : (Cond.fieldLink "SkyTrialModel" (146 : Nat) "SkyTrialModel" "factSort" "[I") ∈ gTBL := tIn5 143 (by decide +kernel) rfl
theorem zw1104 : (Cond.fieldLink "SkyTrialModel" (149 : Nat) "SkyTrialModel" "factA" "[I") ∈ gTBL := tIn5 144 (by decide +kernel) rfl
theorem zw1105 : (Cond.fieldLink "SkyTrialModel" (152 : Nat) "SkyTrialModel" "factB" "[I") ∈ gTBL := tIn5 145 (by decide +kernel) rfl
theorem zw1106 : (Cond.fieldLink "SkyTrialModel" (155 : Nat) "SkyTrialModel" "isRight" "[Z") ∈ gTBL := tIn5 146 (by decide +kernel) rfl
theorem hclX0 : vwCl[0]? = some (RX0, TX0, 5) := rfl
theorem hclX1 : vwCl[1]? = some (RX1, TX1, 5) := rfl
theorem hclX2 : vwCl[2]? = some (RX2, TX2, 2) := rfl
theorem hclX3 : vwCl[3]? = some (RX3, TX3, 3) := rfl
theorem hclX4 : vwCl[4]? = some (RX4, TX4, 6) := rfl
theorem hclX5 : vwCl[5]? = some (RX5, TX5, 4) := rfl
theorem hclX6 : vwCl[6]? = some (RX6, TX6, 2) := rfl
theorem hclX7 : vwCl[7]? = some (RX7, TX7, 14) := rfl
theorem hclX8 : vwCl[8]? = some (RX8, TX8, 5) := rfl
theorem hclX9 : vwCl[9]? = some (RX9, TX9, 14) := rfl
theorem hclX10 : vwCl[10]? = some (RX10, TX10, 7) := rfl
theorem hclX11 : vwCl[11]? = some (RX11, TX11, 65) := rfl
theorem zfX6_0 : zFn RX6 11 TX6 2 0 (.array .int) := ⟨zw35, by decide, rfl, rfl, by decide +kernel⟩
theorem zfX6_1 : zVn RX6 15 TX6 2 1 (.int) := ⟨zw36, by decide, rfl, by decide +kernel⟩
theorem zfX2_0 : zFn RX2 9 TX2 2 0 (.array .int) := ⟨zw248, by decide, rfl, rfl, by decide +kernel⟩
theorem zfX2_1 : zVn RX2 15 TX2 2 1 (.int) := ⟨zw249, by decide, rfl, by decide +kernel⟩
theorem zfX3_0 : zFn RX3 9 TX3 3 0 (.array .int) := ⟨zw271, by decide, rfl, rfl, by decide +kernel⟩
theorem zfX3_1 : zFn RX3 15 TX3 3 1 (.array .int) := ⟨zw273, by decide, rfl, rfl, by decide +kernel⟩
theorem zfX3_2 : zVn RX3 18 TX3 3 2 (.int) := ⟨zw274, by decide, rfl, by decide +kernel⟩
theorem zfX1_0 : zFn RX1 9 TX1 5 0 (.array .int) := ⟨zw310, by decide, rfl, rfl, by decide +kernel⟩
theorem zfX1_1 : zFn RX1 15 TX1 5 1 (.array .int) := ⟨zw312, by decide, rfl, rfl, by decide +kernel⟩
theorem zfX1_2 : zFn RX1 18 TX1 5 2 (.array .int) := ⟨zw313, by decide, rfl, rfl, by decide +kernel⟩
theorem zfX1_3 : zFn RX1 21 TX1 5 3 (.array .boolean) := ⟨zw314, by decide, rfl, rfl, by decide +kernel⟩
theorem zfX1_4 : zVn RX1 25 TX1 5 4 (.int) := ⟨zw315, by decide, rfl, by decide +kernel⟩
theorem zfX5_0 : zVn RX5 7 TX5 4 0 (.int) := ⟨zw357, by decide, rfl, by decide +kernel⟩
theorem zfX5_1 : zVn RX5 13 TX5 4 1 (.int) := ⟨zw359, by decide, rfl, by decide +kernel⟩
theorem zfX5_2 : zVn RX5 16 TX5 4 2 (.int) := ⟨zw362, by decide, rfl, by decide +kernel⟩
theorem zfX5_3 : zVn RX5 19 TX5 4 3 (.int) := ⟨zw365, by decide, rfl, by decide +kernel⟩
theorem zfX9_0 : zVn RX9 9 TX9 14 0 (.int) := ⟨zw136, by decide, rfl, by decide +kernel⟩
theorem zfX9_1 : zVn RX9 15 TX9 14 1 (.int) := ⟨zw140, by decide, rfl, by decide +kernel⟩
theorem zfX9_2 : zVn RX9 18 TX9 14 2 (.int) := ⟨zw144, by decide, rfl, by decide +kernel⟩
theorem zfX9_3 : zVn RX9 21 TX9 14 3 (.int) := ⟨zw147, by decide, rfl, by decide +kernel⟩
theorem zfX9_4 : zVn RX9 24 TX9 14 4 (.int) := ⟨zw150, by decide, rfl, by decide +kernel⟩
theorem zfX9_5 : zFn RX9 27 TX9 14 5 (.array .int) := ⟨zw153, by decide, rfl, rfl, by decide +kernel⟩
theorem zfX9_6 : zFn RX9 31 TX9 14 6 (.array .int) := ⟨zw157, by decide, rfl, rfl, by decide +kernel⟩
theorem zfX9_7 : zFn RX9 34 TX9 14 7 (.array .int) := ⟨zw158, by decide, rfl, rfl, by decide +kernel⟩
theorem zfX9_8 : zFn RX9 37 TX9 14 8 (.array .int) := ⟨zw159, by decide, rfl, rfl, by decide +kernel⟩
theorem zfX9_9 : zFn RX9 40 TX9 14 9 (.array .int) := ⟨zw160, by decide, rfl, rfl, by decide +kernel⟩
theorem zfX9_10 : zFn RX9 43 TX9 14 10 (.array .int) := ⟨zw162, by decide, rfl, rfl, by decide +kernel⟩
theorem zfX9_11 : zFn RX9 46 TX9 14 11 (.array .int) := ⟨zw164, by decide, rfl, rfl, by decide +kernel⟩
theorem zfX9_12 : zFn RX9 49 TX9 14 12 (.array .int) := ⟨zw166, by decide, rfl, rfl, by decide +kernel⟩
theorem zfX9_13 : zVn RX9 52 TX9 14 13 (.int) := ⟨zw168, by decide, rfl, by decide +kernel⟩
theorem zfX4_0 : zVn RX4 12 TX4 6 0 (.object "SkyTrial$Told") := ⟨zw282, by decide, rfl, by decide +kernel⟩
theorem zfX4_2 : zFn RX4 21 TX4 6 2 (.object "SkyTrial$Reckoner") := ⟨zw285, by decide, rfl, rfl, by decide +kernel⟩
theorem zfX4_3 : zFn RX4 25 TX4 6 3 (.array .int) := ⟨zw286, by decide, rfl, rfl, by decide +kernel⟩
theorem zfX4_4 : zFn RX4 29 TX4 6 4 (.array .int) := ⟨zw288, by decide, rfl, rfl, by decide +kernel⟩
theorem zfX4_5 : zFn RX4 32 TX4 6 5 (.array .int) := ⟨zw290, by decide, rfl, rfl, by decide +kernel⟩
theorem zfX4_1 : zFn RX4 35 TX4 6 1 (.object "SkyTrial$People") := ⟨zw284, by decide, rfl, rfl, by decide +kernel⟩
theorem zfX0_0 : zFn RX0 11 TX0 5 0 (.array .long) := ⟨zw335, by decide, rfl, rfl, by decide +kernel⟩
theorem zfX0_1 : zFn RX0 15 TX0 5 1 (.array .long) := ⟨zw336, by decide, rfl, rfl, by decide +kernel⟩
theorem zfX0_2 : zFn RX0 18 TX0 5 2 (.array .long) := ⟨zw337, by decide, rfl, rfl, by decide +kernel⟩
theorem zfX0_3 : zFn RX0 21 TX0 5 3 (.array .long) := ⟨zw338, by decide, rfl, rfl, by decide +kernel⟩
theorem zfX0_4 : zFn RX0 24 TX0 5 4 (.array .long) := ⟨zw339, by decide, rfl, rfl, by decide +kernel⟩
theorem zfX8_0 : zFn RX8 9 TX8 5 0 (.array .int) := ⟨zw109, by decide, rfl, rfl, by decide +kernel⟩
theorem zfX8_1 : zFn RX8 15 TX8 5 1 (.array .int) := ⟨zw111, by decide, rfl, rfl, by decide +kernel⟩
theorem zfX8_2 : zFn RX8 18 TX8 5 2 (.array .long) := ⟨zw113, by decide, rfl, rfl, by decide +kernel⟩
theorem zfX8_3 : zVn RX8 22 TX8 5 3 (.int) := ⟨zw115, by decide, rfl, by decide +kernel⟩
theorem zfX8_4 : zFn RX8 26 TX8 5 4 (.array .long) := ⟨zw116, by decide, rfl, rfl, by decide +kernel⟩
theorem zfX11_1 : zFn RX11 13 TX11 65 1 (.array .byte) := ⟨zw1043, by decide, rfl, rfl, by decide +kernel⟩
theorem zfX11_3 : zFn RX11 17 TX11 65 3 (.array .byte) := ⟨zw1045, by decide, rfl, rfl, by decide +kernel⟩
theorem zfX11_5 : zFn RX11 20 TX11 65 5 (.array .int) := ⟨zw1047, by decide, rfl, rfl, by decide +kernel⟩
theorem zfX11_6 : zFn RX11 24 TX11 65 6 (.array .int) := ⟨zw1048, by decide, rfl, rfl, by decide +kernel⟩
theorem zfX11_7 : zFn RX11 27 TX11 65 7 (.array .int) := ⟨zw1049, by decide, rfl, rfl, by decide +kernel⟩
theorem zfX11_8 : zFn RX11 30 TX11 65 8 (.array .long) := ⟨zw1050, by decide, rfl, rfl, by decide +kernel⟩
theorem zfX11_9 : zFn RX11 34 TX11 65 9 (.array .long) := ⟨zw1051, by decide, rfl, rfl, by decide +kernel⟩
theorem zfX11_17 : zVn RX11 37 TX11 65 17 (.int) := ⟨zw1059, by decide, rfl, by decide +kernel⟩
theorem zfX11_21 : zFn RX11 40 TX11 65 21 (.array .long) := ⟨zw1063, by decide, rfl, rfl, by decide +kernel⟩
theorem zfX11_22 : zFn RX11 43 TX11 65 22 (.array .int) := ⟨zw1064, by decide, rfl, rfl, by decide +kernel⟩
theorem zfX11_23 : zFn RX11 46 TX11 65 23 (.array .int) := ⟨zw1065, by decide, rfl, rfl, by decide +kernel⟩
theorem zfX11_24 : zFn RX11 49 TX11 65 24 (.array .int) := ⟨zw1066, by decide, rfl, rfl, by decide +kernel⟩
theorem zfX11_25 : zFn RX11 52 TX11 65 25 (.array .int) := ⟨zw1067, by decide, rfl, rfl, by decide +kernel⟩
theorem zfX11_26 : zFn RX11 55 TX11 65 26 (.array .int) := ⟨zw1068, by decide, rfl, rfl, by decide +kernel⟩
theorem zfX11_27 : zFn RX11 58 TX11 65 27 (.array .int) := ⟨zw1069, by decide, rfl, rfl, by decide +kernel⟩
theorem zfX11_28 : zFn RX11 61 TX11 65 28 (.array .int) := ⟨zw1070, by decide, rfl, rfl, by decide +kernel⟩
theorem zfX11_29 : zFn RX11 64 TX11 65 29 (.array .int) := ⟨zw1071, by decide, rfl, rfl, by decide +kernel⟩
theorem zfX11_30 : zFn RX11 67 TX11 65 30 (.array .int) := ⟨zw1072, by decide, rfl, rfl, by decide +kernel⟩
theorem zfX11_31 : zFn RX11 70 TX11 65 31 (.array .int) := ⟨zw1073, by decide, rfl, rfl, by decide +kernel⟩
theorem zfX11_32 : zFn RX11 73 TX11 65 32 (.array .int) := ⟨zw1074, by decide, rfl, rfl, by decide +kernel⟩
theorem zfX11_33 : zFn RX11 76 TX11 65 33 (.array .int) := ⟨zw1075, by decide, rfl, rfl, by decide +kernel⟩
theorem zfX11_34 : zFn RX11 79 TX11 65 34 (.array .int) := ⟨zw1076, by decide, rfl, rfl, by decide +kernel⟩
theorem zfX11_35 : zFn RX11 82 TX11 65 35 (.array .int) := ⟨zw1077, by decide, rfl, rfl, by decide +kernel⟩
theorem zfX11_36 : zFn RX11 85 TX11 65 36 (.array .int) := ⟨zw1078, by decide, rfl, rfl, by decide +kernel⟩
theorem zfX11_38 : zFn RX11 88 TX11 65 38 (.array .int) := ⟨zw1080, by decide, rfl, rfl, by decide +kernel⟩
theorem zfX11_39 : zFn RX11 91 TX11 65 39 (.array .boolean) := ⟨zw1081, by decide, rfl, rfl, by decide +kernel⟩
theorem zfX11_40 : zFn RX11 95 TX11 65 40 (.array .boolean) := ⟨zw1082, by decide, rfl, rfl, by decide +kernel⟩
theorem zfX11_41 : zFn RX11 98 TX11 65 41 (.array .int) := ⟨zw1083, by decide, rfl, rfl, by decide +kernel⟩
theorem zfX11_42 : zFn RX11 101 TX11 65 42 (.array .int) := ⟨zw1084, by decide, rfl, rfl, by decide +kernel⟩
theorem zfX11_43 : zFn RX11 104 TX11 65 43 (.array .int) := ⟨zw1085, by decide, rfl, rfl, by decide +kernel⟩
theorem zfX11_45 : zFn RX11 107 TX11 65 45 (.array .int) := ⟨zw1087, by decide, rfl, rfl, by decide +kernel⟩
theorem zfX11_46 : zFn RX11 110 TX11 65 46 (.array .int) := ⟨zw1088, by decide, rfl, rfl, by decide +kernel⟩
theorem zfX11_47 : zFn RX11 113 TX11 65 47 (.array .int) := ⟨zw1089, by decide, rfl, rfl, by decide +kernel⟩
theorem zfX11_49 : zFn RX11 116 TX11 65 49 (.array .int) := ⟨zw1091, by decide, rfl, rfl, by decide +kernel⟩
theorem zfX11_50 : zFn RX11 119 TX11 65 50 (.array .int) := ⟨zw1092, by decide, rfl, rfl, by decide +kernel⟩
theorem zfX11_52 : zFn RX11 122 TX11 65 52 (.array .int) := ⟨zw1094, by decide, rfl, rfl, by decide +kernel⟩
theorem zfX11_53 : zFn RX11 125 TX11 65 53 (.array .int) := ⟨zw1095, by decide, rfl, rfl, by decide +kernel⟩
theorem zfX11_54 : zFn RX11 128 TX11 65 54 (.array .int) := ⟨zw1096, by decide, rfl, rfl, by decide +kernel⟩
theorem zfX11_55 : zFn RX11 131 TX11 65 55 (.array .int) := ⟨zw1097, by decide, rfl, rfl, by decide +kernel⟩
theorem zfX11_56 : zFn RX11 134 TX11 65 56 (.array .int) := ⟨zw1098, by decide, rfl, rfl, by decide +kernel⟩
theorem zfX11_57 : zFn RX11 137 TX11 65 57 (.array .boolean) := ⟨zw1099, by decide, rfl, rfl, by decide +kernel⟩
theorem zfX11_58 : zFn RX11 140 TX11 65 58 (.array .long) := ⟨zw1100, by decide, rfl, rfl, by decide +kernel⟩
theorem zfX11_59 : zFn RX11 143 TX11 65 59 (.array .long) := ⟨zw1101, by decide, rfl, rfl, by decide +kernel⟩
theorem zfX11_61 : zFn RX11 146 TX11 65 61 (.array .int) := ⟨zw1103, by decide, rfl, rfl, by decide +kernel⟩
theorem zfX11_62 : zFn RX11 149 TX11 65 62 (.array .int) := ⟨zw1104, by decide, rfl, rfl, by decide +kernel⟩
theorem zfX11_63 : zFn RX11 152 TX11 65 63 (.array .int) := ⟨zw1105, by decide, rfl, rfl, by decide +kernel⟩
theorem zfX11_64 : zFn RX11 155 TX11 65 64 (.array .boolean) := ⟨zw1106, by decide, rfl, rfl, by decide +kernel⟩
theorem zfX7_0 : zFn RX7 12 TX7 14 0 (.object "SkyTrial$Tokens") := ⟨zw199, by decide, rfl, rfl, by decide +kernel⟩
theorem zfX7_1 : zVn RX7 21 TX7 14 1 (.object "SkyTrial$Told") := ⟨zw200, by decide, rfl, by decide +kernel⟩
theorem zfX7_2 : zVn RX7 25 TX7 14 2 (.int) := ⟨zw201, by decide, rfl, by decide +kernel⟩
theorem zfX7_3 : zVn RX7 29 TX7 14 3 (.int) := ⟨zw202, by decide, rfl, by decide +kernel⟩
theorem zfX7_4 : zVn RX7 32 TX7 14 4 (.long) := ⟨zw203, by decide, rfl, by decide +kernel⟩
theorem zfX7_5 : zVn RX7 36 TX7 14 5 (.int) := ⟨zw204, by decide, rfl, by decide +kernel⟩
theorem zfX7_6 : zVn RX7 39 TX7 14 6 (.int) := ⟨zw205, by decide, rfl, by decide +kernel⟩
theorem zfX7_7 : zVn RX7 42 TX7 14 7 (.int) := ⟨zw206, by decide, rfl, by decide +kernel⟩
theorem zfX7_8 : zVn RX7 45 TX7 14 8 (.int) := ⟨zw207, by decide, rfl, by decide +kernel⟩
theorem zfX7_9 : zVn RX7 48 TX7 14 9 (.int) := ⟨zw208, by decide, rfl, by decide +kernel⟩
theorem zfX7_10 : zFn RX7 51 TX7 14 10 (.array .long) := ⟨zw209, by decide, rfl, rfl, by decide +kernel⟩
theorem zfX7_11 : zFn RX7 55 TX7 14 11 (.array .int) := ⟨zw210, by decide, rfl, rfl, by decide +kernel⟩
theorem zfX7_12 : zFn RX7 59 TX7 14 12 (.array .int) := ⟨zw211, by decide, rfl, rfl, by decide +kernel⟩
theorem zfX7_13 : zVn RX7 62 TX7 14 13 (.int) := ⟨zw212, by decide, rfl, by decide +kernel⟩
theorem zfX10_0 : zFn RX10 10 TX10 7 0 (.object "SkyTrial$Tape") := ⟨zw377, by decide, rfl, rfl, by decide +kernel⟩
theorem zfX10_1 : zFn RX10 19 TX10 7 1 (.object "SkyTrial$TextReader") := ⟨zw378, by decide, rfl, rfl, by decide +kernel⟩
theorem zfX10_2 : zFn RX10 26 TX10 7 2 (.object "SkyTrial$People") := ⟨zw379, by decide, rfl, rfl, by decide +kernel⟩
theorem zfX10_3 : zFn RX10 35 TX10 7 3 (.object "SkyTrial$Sky") := ⟨zw380, by decide, rfl, rfl, by decide +kernel⟩
theorem zfX10_4 : zFn RX10 42 TX10 7 4 (.object "SkyTrial$Facts") := ⟨zw381, by decide, rfl, rfl, by decide +kernel⟩
theorem zfX10_5 : zFn RX10 49 TX10 7 5 (.object "SkyTrial$Chance") := ⟨zw382, by decide, rfl, rfl, by decide +kernel⟩
theorem zfX10_6 : zFn RX10 56 TX10 7 6 (.object "SkyTrial$Table") := ⟨zw383, by decide, rfl, rfl, by decide +kernel⟩
