theorem lwd1 : (Cond.initialized "SkyTrial") ∈ gTBL := tIn1 1 (by decide +kernel) rfl
theorem lwd16 : (Cond.initialized "SkyTrialModel") ∈ gTBL := tIn1 16 (by decide +kernel) rfl
theorem lwd399 : (Cond.methodLink "SkyTrialLaw" (13 : Nat) ({ cls := "SkyTrial", name := "feed", desc := "(IIIII)I" } : Jvm.MethodName)) ∈ gTBL := tIn2 159 (by decide +kernel) rfl
theorem lwd400 : (Cond.instanceMethod ({ cls := "SkyTrial", name := "feed", desc := "(IIIII)I" } : Jvm.MethodName)) ∈ gTBL := tIn2 160 (by decide +kernel) rfl
theorem lwd401 : (Cond.selects "SkyTrial" ({ cls := "SkyTrial", name := "feed", desc := "(IIIII)I" } : Jvm.MethodName) ({ cls := "SkyTrial", name := "feed", desc := "(IIIII)I" } : Jvm.MethodName)) ∈ gTBL := tIn2 161 (by decide +kernel) rfl
theorem lwd402 : (Cond.code ({ cls := "SkyTrial", name := "feed", desc := "(IIIII)I" } : Jvm.MethodName) prog_1_method_2_code (6 : Nat) (Option.some Jvm.ClassFile.FieldType.int)) ∈ gTBL := tIn2 162 (by decide +kernel) rfl
theorem lwd407 : (Cond.methodLink "SkyTrialLaw" (18 : Nat) ({ cls := "SkyTrial", name := "back", desc := "(I)I" } : Jvm.MethodName)) ∈ gTBL := tIn2 167 (by decide +kernel) rfl
theorem lwd408 : (Cond.instanceMethod ({ cls := "SkyTrial", name := "back", desc := "(I)I" } : Jvm.MethodName)) ∈ gTBL := tIn2 168 (by decide +kernel) rfl
theorem lwd409 : (Cond.selects "SkyTrial" ({ cls := "SkyTrial", name := "back", desc := "(I)I" } : Jvm.MethodName) ({ cls := "SkyTrial", name := "back", desc := "(I)I" } : Jvm.MethodName)) ∈ gTBL := tIn2 169 (by decide +kernel) rfl
theorem lwd410 : (Cond.code ({ cls := "SkyTrial", name := "back", desc := "(I)I" } : Jvm.MethodName) prog_1_method_3_code (2 : Nat) (Option.some Jvm.ClassFile.FieldType.int)) ∈ gTBL := tIn2 170 (by decide +kernel) rfl
theorem lwd411 : (Cond.methodLink "SkyTrialLaw" (23 : Nat) ({ cls := "SkyTrial", name := "read", desc := "()I" } : Jvm.MethodName)) ∈ gTBL := tIn2 171 (by decide +kernel) rfl
theorem lwd412 : (Cond.instanceMethod ({ cls := "SkyTrial", name := "read", desc := "()I" } : Jvm.MethodName)) ∈ gTBL := tIn2 172 (by decide +kernel) rfl
theorem lwd413 : (Cond.selects "SkyTrial" ({ cls := "SkyTrial", name := "read", desc := "()I" } : Jvm.MethodName) ({ cls := "SkyTrial", name := "read", desc := "()I" } : Jvm.MethodName)) ∈ gTBL := tIn2 173 (by decide +kernel) rfl
theorem lwd414 : (Cond.code ({ cls := "SkyTrial", name := "read", desc := "()I" } : Jvm.MethodName) prog_1_method_4_code (2 : Nat) (Option.some Jvm.ClassFile.FieldType.int)) ∈ gTBL := tIn2 174 (by decide +kernel) rfl
theorem lwd567 : (Cond.methodLink "SkyTrialLaw" (28 : Nat) ({ cls := "SkyTrial", name := "place", desc := "()I" } : Jvm.MethodName)) ∈ gTBL := tIn3 87 (by decide +kernel) rfl
theorem lwd568 : (Cond.instanceMethod ({ cls := "SkyTrial", name := "place", desc := "()I" } : Jvm.MethodName)) ∈ gTBL := tIn3 88 (by decide +kernel) rfl
theorem lwd569 : (Cond.selects "SkyTrial" ({ cls := "SkyTrial", name := "place", desc := "()I" } : Jvm.MethodName) ({ cls := "SkyTrial", name := "place", desc := "()I" } : Jvm.MethodName)) ∈ gTBL := tIn3 89 (by decide +kernel) rfl
theorem lwd570 : (Cond.code ({ cls := "SkyTrial", name := "place", desc := "()I" } : Jvm.MethodName) prog_1_method_5_code (1 : Nat) (Option.some Jvm.ClassFile.FieldType.int)) ∈ gTBL := tIn3 90 (by decide +kernel) rfl
theorem lwd575 : (Cond.methodLink "SkyTrialLaw" (32 : Nat) ({ cls := "SkyTrial", name := "person", desc := "(IIIII)I" } : Jvm.MethodName)) ∈ gTBL := tIn3 95 (by decide +kernel) rfl
theorem lwd576 : (Cond.instanceMethod ({ cls := "SkyTrial", name := "person", desc := "(IIIII)I" } : Jvm.MethodName)) ∈ gTBL := tIn3 96 (by decide +kernel) rfl
theorem lwd577 : (Cond.selects "SkyTrial" ({ cls := "SkyTrial", name := "person", desc := "(IIIII)I" } : Jvm.MethodName) ({ cls := "SkyTrial", name := "person", desc := "(IIIII)I" } : Jvm.MethodName)) ∈ gTBL := tIn3 97 (by decide +kernel) rfl
theorem lwd578 : (Cond.code ({ cls := "SkyTrial", name := "person", desc := "(IIIII)I" } : Jvm.MethodName) prog_1_method_6_code (7 : Nat) (Option.some Jvm.ClassFile.FieldType.int)) ∈ gTBL := tIn3 98 (by decide +kernel) rfl
theorem lwd591 : (Cond.methodLink "SkyTrialLaw" (36 : Nat) ({ cls := "SkyTrial", name := "world", desc := "(III)I" } : Jvm.MethodName)) ∈ gTBL := tIn3 111 (by decide +kernel) rfl
theorem lwd592 : (Cond.instanceMethod ({ cls := "SkyTrial", name := "world", desc := "(III)I" } : Jvm.MethodName)) ∈ gTBL := tIn3 112 (by decide +kernel) rfl
theorem lwd593 : (Cond.selects "SkyTrial" ({ cls := "SkyTrial", name := "world", desc := "(III)I" } : Jvm.MethodName) ({ cls := "SkyTrial", name := "world", desc := "(III)I" } : Jvm.MethodName)) ∈ gTBL := tIn3 113 (by decide +kernel) rfl
theorem lwd594 : (Cond.code ({ cls := "SkyTrial", name := "world", desc := "(III)I" } : Jvm.MethodName) prog_1_method_7_code (5 : Nat) (Option.some Jvm.ClassFile.FieldType.int)) ∈ gTBL := tIn3 114 (by decide +kernel) rfl
theorem lwd648 : (Cond.methodLink "SkyTrialLaw" (41 : Nat) ({ cls := "SkyTrial", name := "of", desc := "(II)I" } : Jvm.MethodName)) ∈ gTBL := tIn3 168 (by decide +kernel) rfl
theorem lwd649 : (Cond.instanceMethod ({ cls := "SkyTrial", name := "of", desc := "(II)I" } : Jvm.MethodName)) ∈ gTBL := tIn3 169 (by decide +kernel) rfl
theorem lwd650 : (Cond.selects "SkyTrial" ({ cls := "SkyTrial", name := "of", desc := "(II)I" } : Jvm.MethodName) ({ cls := "SkyTrial", name := "of", desc := "(II)I" } : Jvm.MethodName)) ∈ gTBL := tIn3 170 (by decide +kernel) rfl
theorem lwd651 : (Cond.code ({ cls := "SkyTrial", name := "of", desc := "(II)I" } : Jvm.MethodName) prog_1_method_8_code (3 : Nat) (Option.some Jvm.ClassFile.FieldType.int)) ∈ gTBL := tIn3 171 (by decide +kernel) rfl
theorem lwd657 : (Cond.methodLink "SkyTrialLaw" (46 : Nat) ({ cls := "SkyTrial", name := "signs", desc := "(II)I" } : Jvm.MethodName)) ∈ gTBL := tIn3 177 (by decide +kernel) rfl
theorem lwd658 : (Cond.instanceMethod ({ cls := "SkyTrial", name := "signs", desc := "(II)I" } : Jvm.MethodName)) ∈ gTBL := tIn3 178 (by decide +kernel) rfl
theorem lwd659 : (Cond.selects "SkyTrial" ({ cls := "SkyTrial", name := "signs", desc := "(II)I" } : Jvm.MethodName) ({ cls := "SkyTrial", name := "signs", desc := "(II)I" } : Jvm.MethodName)) ∈ gTBL := tIn3 179 (by decide +kernel) rfl
theorem lwd660 : (Cond.code ({ cls := "SkyTrial", name := "signs", desc := "(II)I" } : Jvm.MethodName) prog_1_method_9_code (3 : Nat) (Option.some Jvm.ClassFile.FieldType.int)) ∈ gTBL := tIn3 180 (by decide +kernel) rfl
theorem lwd669 : (Cond.methodLink "SkyTrialLaw" (50 : Nat) ({ cls := "SkyTrial", name := "rounded", desc := "(II)I" } : Jvm.MethodName)) ∈ gTBL := tIn3 189 (by decide +kernel) rfl
theorem lwd670 : (Cond.instanceMethod ({ cls := "SkyTrial", name := "rounded", desc := "(II)I" } : Jvm.MethodName)) ∈ gTBL := tIn3 190 (by decide +kernel) rfl
theorem lwd671 : (Cond.selects "SkyTrial" ({ cls := "SkyTrial", name := "rounded", desc := "(II)I" } : Jvm.MethodName) ({ cls := "SkyTrial", name := "rounded", desc := "(II)I" } : Jvm.MethodName)) ∈ gTBL := tIn3 191 (by decide +kernel) rfl
theorem lwd672 : (Cond.code ({ cls := "SkyTrial", name := "rounded", desc := "(II)I" } : Jvm.MethodName) prog_1_method_10_code (3 : Nat) (Option.some Jvm.ClassFile.FieldType.int)) ∈ gTBL := tIn3 192 (by decide +kernel) rfl
theorem lwd680 : (Cond.methodLink "SkyTrialLaw" (54 : Nat) ({ cls := "SkyTrial", name := "moved", desc := "(IIZ)I" } : Jvm.MethodName)) ∈ gTBL := tIn3 200 (by decide +kernel) rfl
theorem lwd681 : (Cond.instanceMethod ({ cls := "SkyTrial", name := "moved", desc := "(IIZ)I" } : Jvm.MethodName)) ∈ gTBL := tIn3 201 (by decide +kernel) rfl
theorem lwd682 : (Cond.selects "SkyTrial" ({ cls := "SkyTrial", name := "moved", desc := "(IIZ)I" } : Jvm.MethodName) ({ cls := "SkyTrial", name := "moved", desc := "(IIZ)I" } : Jvm.MethodName)) ∈ gTBL := tIn3 202 (by decide +kernel) rfl
theorem lwd683 : (Cond.code ({ cls := "SkyTrial", name := "moved", desc := "(IIZ)I" } : Jvm.MethodName) prog_1_method_11_code (8 : Nat) (Option.some Jvm.ClassFile.FieldType.int)) ∈ gTBL := tIn3 203 (by decide +kernel) rfl
theorem lwd687 : (Cond.methodLink "SkyTrialLaw" (59 : Nat) ({ cls := "SkyTrial", name := "holds", desc := "(II)I" } : Jvm.MethodName)) ∈ gTBL := tIn3 207 (by decide +kernel) rfl
theorem lwd688 : (Cond.instanceMethod ({ cls := "SkyTrial", name := "holds", desc := "(II)I" } : Jvm.MethodName)) ∈ gTBL := tIn3 208 (by decide +kernel) rfl
theorem lwd689 : (Cond.selects "SkyTrial" ({ cls := "SkyTrial", name := "holds", desc := "(II)I" } : Jvm.MethodName) ({ cls := "SkyTrial", name := "holds", desc := "(II)I" } : Jvm.MethodName)) ∈ gTBL := tIn3 209 (by decide +kernel) rfl
theorem lwd690 : (Cond.code ({ cls := "SkyTrial", name := "holds", desc := "(II)I" } : Jvm.MethodName) prog_1_method_12_code (3 : Nat) (Option.some Jvm.ClassFile.FieldType.int)) ∈ gTBL := tIn3 210 (by decide +kernel) rfl
theorem lwd702 : (Cond.methodLink "SkyTrialLaw" (63 : Nat) ({ cls := "SkyTrial", name := "sort", desc := "(I)I" } : Jvm.MethodName)) ∈ gTBL := tIn3 222 (by decide +kernel) rfl
theorem lwd703 : (Cond.instanceMethod ({ cls := "SkyTrial", name := "sort", desc := "(I)I" } : Jvm.MethodName)) ∈ gTBL := tIn3 223 (by decide +kernel) rfl
theorem lwd704 : (Cond.selects "SkyTrial" ({ cls := "SkyTrial", name := "sort", desc := "(I)I" } : Jvm.MethodName) ({ cls := "SkyTrial", name := "sort", desc := "(I)I" } : Jvm.MethodName)) ∈ gTBL := tIn3 224 (by decide +kernel) rfl
theorem lwd705 : (Cond.code ({ cls := "SkyTrial", name := "sort", desc := "(I)I" } : Jvm.MethodName) prog_1_method_13_code (2 : Nat) (Option.some Jvm.ClassFile.FieldType.int)) ∈ gTBL := tIn3 225 (by decide +kernel) rfl
theorem lwd706 : (Cond.methodLink "SkyTrialLaw" (67 : Nat) ({ cls := "SkyTrial", name := "paper", desc := "(II)I" } : Jvm.MethodName)) ∈ gTBL := tIn3 226 (by decide +kernel) rfl
theorem lwd707 : (Cond.instanceMethod ({ cls := "SkyTrial", name := "paper", desc := "(II)I" } : Jvm.MethodName)) ∈ gTBL := tIn3 227 (by decide +kernel) rfl
theorem lwd708 : (Cond.selects "SkyTrial" ({ cls := "SkyTrial", name := "paper", desc := "(II)I" } : Jvm.MethodName) ({ cls := "SkyTrial", name := "paper", desc := "(II)I" } : Jvm.MethodName)) ∈ gTBL := tIn3 228 (by decide +kernel) rfl
theorem lwd709 : (Cond.code ({ cls := "SkyTrial", name := "paper", desc := "(II)I" } : Jvm.MethodName) prog_1_method_14_code (3 : Nat) (Option.some Jvm.ClassFile.FieldType.int)) ∈ gTBL := tIn3 229 (by decide +kernel) rfl
theorem lwd724 : (Cond.methodLink "SkyTrialLaw" (71 : Nat) ({ cls := "SkyTrial", name := "altered", desc := "(II)I" } : Jvm.MethodName)) ∈ gTBL := tIn4 4 (by decide +kernel) rfl
theorem lwd725 : (Cond.instanceMethod ({ cls := "SkyTrial", name := "altered", desc := "(II)I" } : Jvm.MethodName)) ∈ gTBL := tIn4 5 (by decide +kernel) rfl
theorem lwd726 : (Cond.selects "SkyTrial" ({ cls := "SkyTrial", name := "altered", desc := "(II)I" } : Jvm.MethodName) ({ cls := "SkyTrial", name := "altered", desc := "(II)I" } : Jvm.MethodName)) ∈ gTBL := tIn4 6 (by decide +kernel) rfl
theorem lwd727 : (Cond.code ({ cls := "SkyTrial", name := "altered", desc := "(II)I" } : Jvm.MethodName) prog_1_method_15_code (6 : Nat) (Option.some Jvm.ClassFile.FieldType.int)) ∈ gTBL := tIn4 7 (by decide +kernel) rfl
theorem lwd728 : (Cond.methodLink "SkyTrialLaw" (75 : Nat) ({ cls := "SkyTrial", name := "truly", desc := "(III)I" } : Jvm.MethodName)) ∈ gTBL := tIn4 8 (by decide +kernel) rfl
theorem lwd729 : (Cond.instanceMethod ({ cls := "SkyTrial", name := "truly", desc := "(III)I" } : Jvm.MethodName)) ∈ gTBL := tIn4 9 (by decide +kernel) rfl
theorem lwd730 : (Cond.selects "SkyTrial" ({ cls := "SkyTrial", name := "truly", desc := "(III)I" } : Jvm.MethodName) ({ cls := "SkyTrial", name := "truly", desc := "(III)I" } : Jvm.MethodName)) ∈ gTBL := tIn4 10 (by decide +kernel) rfl
theorem lwd731 : (Cond.code ({ cls := "SkyTrial", name := "truly", desc := "(III)I" } : Jvm.MethodName) prog_1_method_16_code (8 : Nat) (Option.some Jvm.ClassFile.FieldType.int)) ∈ gTBL := tIn4 11 (by decide +kernel) rfl
theorem lwd736 : (Cond.methodLink "SkyTrialLaw" (79 : Nat) ({ cls := "SkyTrial", name := "left", desc := "(III)I" } : Jvm.MethodName)) ∈ gTBL := tIn4 16 (by decide +kernel) rfl
theorem lwd737 : (Cond.instanceMethod ({ cls := "SkyTrial", name := "left", desc := "(III)I" } : Jvm.MethodName)) ∈ gTBL := tIn4 17 (by decide +kernel) rfl
theorem lwd738 : (Cond.selects "SkyTrial" ({ cls := "SkyTrial", name := "left", desc := "(III)I" } : Jvm.MethodName) ({ cls := "SkyTrial", name := "left", desc := "(III)I" } : Jvm.MethodName)) ∈ gTBL := tIn4 18 (by decide +kernel) rfl
theorem lwd739 : (Cond.code ({ cls := "SkyTrial", name := "left", desc := "(III)I" } : Jvm.MethodName) prog_1_method_17_code (7 : Nat) (Option.some Jvm.ClassFile.FieldType.int)) ∈ gTBL := tIn4 19 (by decide +kernel) rfl
theorem lwd745 : (Cond.methodLink "SkyTrialLaw" (83 : Nat) ({ cls := "SkyTrial", name := "fit", desc := "(IIIII)I" } : Jvm.MethodName)) ∈ gTBL := tIn4 25 (by decide +kernel) rfl
theorem lwd746 : (Cond.instanceMethod ({ cls := "SkyTrial", name := "fit", desc := "(IIIII)I" } : Jvm.MethodName)) ∈ gTBL := tIn4 26 (by decide +kernel) rfl
theorem lwd747 : (Cond.selects "SkyTrial" ({ cls := "SkyTrial", name := "fit", desc := "(IIIII)I" } : Jvm.MethodName) ({ cls := "SkyTrial", name := "fit", desc := "(IIIII)I" } : Jvm.MethodName)) ∈ gTBL := tIn4 27 (by decide +kernel) rfl
theorem lwd748 : (Cond.code ({ cls := "SkyTrial", name := "fit", desc := "(IIIII)I" } : Jvm.MethodName) prog_1_method_18_code (7 : Nat) (Option.some Jvm.ClassFile.FieldType.int)) ∈ gTBL := tIn4 28 (by decide +kernel) rfl
theorem lwd762 : (Cond.methodLink "SkyTrialLaw" (87 : Nat) ({ cls := "SkyTrial", name := "choose", desc := "(IIIII)I" } : Jvm.MethodName)) ∈ gTBL := tIn4 42 (by decide +kernel) rfl
theorem lwd763 : (Cond.instanceMethod ({ cls := "SkyTrial", name := "choose", desc := "(IIIII)I" } : Jvm.MethodName)) ∈ gTBL := tIn4 43 (by decide +kernel) rfl
theorem lwd764 : (Cond.selects "SkyTrial" ({ cls := "SkyTrial", name := "choose", desc := "(IIIII)I" } : Jvm.MethodName) ({ cls := "SkyTrial", name := "choose", desc := "(IIIII)I" } : Jvm.MethodName)) ∈ gTBL := tIn4 44 (by decide +kernel) rfl
theorem lwd765 : (Cond.code ({ cls := "SkyTrial", name := "choose", desc := "(IIIII)I" } : Jvm.MethodName) prog_1_method_19_code (6 : Nat) (Option.some Jvm.ClassFile.FieldType.int)) ∈ gTBL := tIn4 45 (by decide +kernel) rfl
theorem lwd780 : (Cond.methodLink "SkyTrialLaw" (91 : Nat) ({ cls := "SkyTrial", name := "trial", desc := "(III)I" } : Jvm.MethodName)) ∈ gTBL := tIn4 60 (by decide +kernel) rfl
theorem lwd781 : (Cond.instanceMethod ({ cls := "SkyTrial", name := "trial", desc := "(III)I" } : Jvm.MethodName)) ∈ gTBL := tIn4 61 (by decide +kernel) rfl
theorem lwd782 : (Cond.selects "SkyTrial" ({ cls := "SkyTrial", name := "trial", desc := "(III)I" } : Jvm.MethodName) ({ cls := "SkyTrial", name := "trial", desc := "(III)I" } : Jvm.MethodName)) ∈ gTBL := tIn4 62 (by decide +kernel) rfl
theorem lwd783 : (Cond.code ({ cls := "SkyTrial", name := "trial", desc := "(III)I" } : Jvm.MethodName) prog_1_method_20_code (8 : Nat) (Option.some Jvm.ClassFile.FieldType.int)) ∈ gTBL := tIn4 63 (by decide +kernel) rfl
theorem lwd796 : (Cond.methodLink "SkyTrialLaw" (95 : Nat) ({ cls := "SkyTrial", name := "given", desc := "(III)I" } : Jvm.MethodName)) ∈ gTBL := tIn4 76 (by decide +kernel) rfl
theorem lwd797 : (Cond.instanceMethod ({ cls := "SkyTrial", name := "given", desc := "(III)I" } : Jvm.MethodName)) ∈ gTBL := tIn4 77 (by decide +kernel) rfl
theorem lwd798 : (Cond.selects "SkyTrial" ({ cls := "SkyTrial", name := "given", desc := "(III)I" } : Jvm.MethodName) ({ cls := "SkyTrial", name := "given", desc := "(III)I" } : Jvm.MethodName)) ∈ gTBL := tIn4 78 (by decide +kernel) rfl
theorem lwd799 : (Cond.code ({ cls := "SkyTrial", name := "given", desc := "(III)I" } : Jvm.MethodName) prog_1_method_21_code (5 : Nat) (Option.some Jvm.ClassFile.FieldType.int)) ∈ gTBL := tIn4 79 (by decide +kernel) rfl
theorem lwd800 : (Cond.methodLink "SkyTrialLaw" (99 : Nat) ({ cls := "SkyTrial", name := "whole", desc := "(II)I" } : Jvm.MethodName)) ∈ gTBL := tIn4 80 (by decide +kernel) rfl
theorem lwd801 : (Cond.instanceMethod ({ cls := "SkyTrial", name := "whole", desc := "(II)I" } : Jvm.MethodName)) ∈ gTBL := tIn4 81 (by decide +kernel) rfl
theorem lwd802 : (Cond.selects "SkyTrial" ({ cls := "SkyTrial", name := "whole", desc := "(II)I" } : Jvm.MethodName) ({ cls := "SkyTrial", name := "whole", desc := "(II)I" } : Jvm.MethodName)) ∈ gTBL := tIn4 82 (by decide +kernel) rfl
theorem lwd803 : (Cond.code ({ cls := "SkyTrial", name := "whole", desc := "(II)I" } : Jvm.MethodName) prog_1_method_22_code (5 : Nat) (Option.some Jvm.ClassFile.FieldType.int)) ∈ gTBL := tIn4 83 (by decide +kernel) rfl
theorem lwd812 : (Cond.methodLink "SkyTrialLaw" (103 : Nat) ({ cls := "SkyTrial", name := "pleased", desc := "(IIIZ)I" } : Jvm.MethodName)) ∈ gTBL := tIn4 92 (by decide +kernel) rfl
theorem lwd813 : (Cond.instanceMethod ({ cls := "SkyTrial", name := "pleased", desc := "(IIIZ)I" } : Jvm.MethodName)) ∈ gTBL := tIn4 93 (by decide +kernel) rfl
theorem lwd814 : (Cond.selects "SkyTrial" ({ cls := "SkyTrial", name := "pleased", desc := "(IIIZ)I" } : Jvm.MethodName) ({ cls := "SkyTrial", name := "pleased", desc := "(IIIZ)I" } : Jvm.MethodName)) ∈ gTBL := tIn4 94 (by decide +kernel) rfl
theorem lwd815 : (Cond.code ({ cls := "SkyTrial", name := "pleased", desc := "(IIIZ)I" } : Jvm.MethodName) prog_1_method_23_code (8 : Nat) (Option.some Jvm.ClassFile.FieldType.int)) ∈ gTBL := tIn4 95 (by decide +kernel) rfl
theorem lwd817 : (Cond.methodLink "SkyTrialLaw" (108 : Nat) ({ cls := "SkyTrial", name := "tail", desc := "(IIII)J" } : Jvm.MethodName)) ∈ gTBL := tIn4 97 (by decide +kernel) rfl
theorem lwd818 : (Cond.instanceMethod ({ cls := "SkyTrial", name := "tail", desc := "(IIII)J" } : Jvm.MethodName)) ∈ gTBL := tIn4 98 (by decide +kernel) rfl
theorem lwd819 : (Cond.selects "SkyTrial" ({ cls := "SkyTrial", name := "tail", desc := "(IIII)J" } : Jvm.MethodName) ({ cls := "SkyTrial", name := "tail", desc := "(IIII)J" } : Jvm.MethodName)) ∈ gTBL := tIn4 99 (by decide +kernel) rfl
theorem lwd820 : (Cond.code ({ cls := "SkyTrial", name := "tail", desc := "(IIII)J" } : Jvm.MethodName) prog_1_method_24_code (5 : Nat) (Option.some Jvm.ClassFile.FieldType.long)) ∈ gTBL := tIn4 100 (by decide +kernel) rfl
theorem lwd837 : (Cond.methodLink "SkyTrialLaw" (113 : Nat) ({ cls := "SkyTrial", name := "agree", desc := "(III)I" } : Jvm.MethodName)) ∈ gTBL := tIn4 117 (by decide +kernel) rfl
theorem lwd838 : (Cond.instanceMethod ({ cls := "SkyTrial", name := "agree", desc := "(III)I" } : Jvm.MethodName)) ∈ gTBL := tIn4 118 (by decide +kernel) rfl
theorem lwd839 : (Cond.selects "SkyTrial" ({ cls := "SkyTrial", name := "agree", desc := "(III)I" } : Jvm.MethodName) ({ cls := "SkyTrial", name := "agree", desc := "(III)I" } : Jvm.MethodName)) ∈ gTBL := tIn4 119 (by decide +kernel) rfl
theorem lwd840 : (Cond.code ({ cls := "SkyTrial", name := "agree", desc := "(III)I" } : Jvm.MethodName) prog_1_method_25_code (4 : Nat) (Option.some Jvm.ClassFile.FieldType.int)) ∈ gTBL := tIn4 120 (by decide +kernel) rfl
theorem lwd847 : (Cond.methodLink "SkyTrialLaw" (117 : Nat) ({ cls := "SkyTrial", name := "table", desc := "(III)I" } : Jvm.MethodName)) ∈ gTBL := tIn4 127 (by decide +kernel) rfl
theorem lwd848 : (Cond.instanceMethod ({ cls := "SkyTrial", name := "table", desc := "(III)I" } : Jvm.MethodName)) ∈ gTBL := tIn4 128 (by decide +kernel) rfl
theorem lwd849 : (Cond.selects "SkyTrial" ({ cls := "SkyTrial", name := "table", desc := "(III)I" } : Jvm.MethodName) ({ cls := "SkyTrial", name := "table", desc := "(III)I" } : Jvm.MethodName)) ∈ gTBL := tIn4 129 (by decide +kernel) rfl
theorem lwd850 : (Cond.code ({ cls := "SkyTrial", name := "table", desc := "(III)I" } : Jvm.MethodName) prog_1_method_26_code (4 : Nat) (Option.some Jvm.ClassFile.FieldType.int)) ∈ gTBL := tIn4 130 (by decide +kernel) rfl
theorem lwd871 : (Cond.methodLink "SkyTrialLaw" (121 : Nat) ({ cls := "SkyTrial", name := "chances", desc := "(IIZ)J" } : Jvm.MethodName)) ∈ gTBL := tIn4 151 (by decide +kernel) rfl
theorem lwd872 : (Cond.instanceMethod ({ cls := "SkyTrial", name := "chances", desc := "(IIZ)J" } : Jvm.MethodName)) ∈ gTBL := tIn4 152 (by decide +kernel) rfl
theorem lwd873 : (Cond.selects "SkyTrial" ({ cls := "SkyTrial", name := "chances", desc := "(IIZ)J" } : Jvm.MethodName) ({ cls := "SkyTrial", name := "chances", desc := "(IIZ)J" } : Jvm.MethodName)) ∈ gTBL := tIn4 153 (by decide +kernel) rfl
theorem lwd874 : (Cond.code ({ cls := "SkyTrial", name := "chances", desc := "(IIZ)J" } : Jvm.MethodName) prog_1_method_27_code (4 : Nat) (Option.some Jvm.ClassFile.FieldType.long)) ∈ gTBL := tIn4 154 (by decide +kernel) rfl
theorem lwd892 : (Cond.methodLink "SkyTrialLaw" (126 : Nat) ({ cls := "SkyTrial", name := "within", desc := "(IIIZ)J" } : Jvm.MethodName)) ∈ gTBL := tIn4 172 (by decide +kernel) rfl
theorem lwd893 : (Cond.instanceMethod ({ cls := "SkyTrial", name := "within", desc := "(IIIZ)J" } : Jvm.MethodName)) ∈ gTBL := tIn4 173 (by decide +kernel) rfl
theorem lwd894 : (Cond.selects "SkyTrial" ({ cls := "SkyTrial", name := "within", desc := "(IIIZ)J" } : Jvm.MethodName) ({ cls := "SkyTrial", name := "within", desc := "(IIIZ)J" } : Jvm.MethodName)) ∈ gTBL := tIn4 174 (by decide +kernel) rfl
theorem lwd895 : (Cond.code ({ cls := "SkyTrial", name := "within", desc := "(IIIZ)J" } : Jvm.MethodName) prog_1_method_28_code (7 : Nat) (Option.some Jvm.ClassFile.FieldType.long)) ∈ gTBL := tIn4 175 (by decide +kernel) rfl
theorem lwd920 : (Cond.methodLink "SkyTrialLaw" (131 : Nat) ({ cls := "SkyTrial", name := "striking", desc := "()I" } : Jvm.MethodName)) ∈ gTBL := tIn4 200 (by decide +kernel) rfl
theorem lwd921 : (Cond.instanceMethod ({ cls := "SkyTrial", name := "striking", desc := "()I" } : Jvm.MethodName)) ∈ gTBL := tIn4 201 (by decide +kernel) rfl
theorem lwd922 : (Cond.selects "SkyTrial" ({ cls := "SkyTrial", name := "striking", desc := "()I" } : Jvm.MethodName) ({ cls := "SkyTrial", name := "striking", desc := "()I" } : Jvm.MethodName)) ∈ gTBL := tIn4 202 (by decide +kernel) rfl
theorem lwd923 : (Cond.code ({ cls := "SkyTrial", name := "striking", desc := "()I" } : Jvm.MethodName) prog_1_method_29_code (12 : Nat) (Option.some Jvm.ClassFile.FieldType.int)) ∈ gTBL := tIn4 203 (by decide +kernel) rfl
theorem lwd924 : (Cond.methodLink "SkyTrialLaw" (135 : Nat) ({ cls := "SkyTrial", name := "bound", desc := "(I)I" } : Jvm.MethodName)) ∈ gTBL := tIn4 204 (by decide +kernel) rfl
theorem lwd925 : (Cond.instanceMethod ({ cls := "SkyTrial", name := "bound", desc := "(I)I" } : Jvm.MethodName)) ∈ gTBL := tIn4 205 (by decide +kernel) rfl
theorem lwd926 : (Cond.selects "SkyTrial" ({ cls := "SkyTrial", name := "bound", desc := "(I)I" } : Jvm.MethodName) ({ cls := "SkyTrial", name := "bound", desc := "(I)I" } : Jvm.MethodName)) ∈ gTBL := tIn4 206 (by decide +kernel) rfl
theorem lwd927 : (Cond.code ({ cls := "SkyTrial", name := "bound", desc := "(I)I" } : Jvm.MethodName) prog_1_method_30_code (5 : Nat) (Option.some Jvm.ClassFile.FieldType.int)) ∈ gTBL := tIn4 207 (by decide +kernel) rfl
theorem lwd928 : (Cond.methodLink "SkyTrialLaw" (139 : Nat) ({ cls := "SkyTrial", name := "choice", desc := "(IZI)I" } : Jvm.MethodName)) ∈ gTBL := tIn4 208 (by decide +kernel) rfl
theorem lwd929 : (Cond.instanceMethod ({ cls := "SkyTrial", name := "choice", desc := "(IZI)I" } : Jvm.MethodName)) ∈ gTBL := tIn4 209 (by decide +kernel) rfl
theorem lwd930 : (Cond.selects "SkyTrial" ({ cls := "SkyTrial", name := "choice", desc := "(IZI)I" } : Jvm.MethodName) ({ cls := "SkyTrial", name := "choice", desc := "(IZI)I" } : Jvm.MethodName)) ∈ gTBL := tIn4 210 (by decide +kernel) rfl
theorem lwd931 : (Cond.code ({ cls := "SkyTrial", name := "choice", desc := "(IZI)I" } : Jvm.MethodName) prog_1_method_31_code (4 : Nat) (Option.some Jvm.ClassFile.FieldType.int)) ∈ gTBL := tIn4 211 (by decide +kernel) rfl
theorem lwd936 : (Cond.methodLink "SkyTrialLaw" (144 : Nat) ({ cls := "SkyTrial", name := "list", desc := "(IZ)I" } : Jvm.MethodName)) ∈ gTBL := tIn4 216 (by decide +kernel) rfl
theorem lwd937 : (Cond.instanceMethod ({ cls := "SkyTrial", name := "list", desc := "(IZ)I" } : Jvm.MethodName)) ∈ gTBL := tIn4 217 (by decide +kernel) rfl
theorem lwd938 : (Cond.selects "SkyTrial" ({ cls := "SkyTrial", name := "list", desc := "(IZ)I" } : Jvm.MethodName) ({ cls := "SkyTrial", name := "list", desc := "(IZ)I" } : Jvm.MethodName)) ∈ gTBL := tIn4 218 (by decide +kernel) rfl
theorem lwd939 : (Cond.code ({ cls := "SkyTrial", name := "list", desc := "(IZ)I" } : Jvm.MethodName) prog_1_method_32_code (3 : Nat) (Option.some Jvm.ClassFile.FieldType.int)) ∈ gTBL := tIn4 219 (by decide +kernel) rfl
theorem lwd940 : (Cond.methodLink "SkyTrialLaw" (149 : Nat) ({ cls := "SkyTrial", name := "tried", desc := "(II)I" } : Jvm.MethodName)) ∈ gTBL := tIn4 220 (by decide +kernel) rfl
theorem lwd941 : (Cond.instanceMethod ({ cls := "SkyTrial", name := "tried", desc := "(II)I" } : Jvm.MethodName)) ∈ gTBL := tIn4 221 (by decide +kernel) rfl
theorem lwd942 : (Cond.selects "SkyTrial" ({ cls := "SkyTrial", name := "tried", desc := "(II)I" } : Jvm.MethodName) ({ cls := "SkyTrial", name := "tried", desc := "(II)I" } : Jvm.MethodName)) ∈ gTBL := tIn4 222 (by decide +kernel) rfl
theorem lwd943 : (Cond.code ({ cls := "SkyTrial", name := "tried", desc := "(II)I" } : Jvm.MethodName) prog_1_method_33_code (3 : Nat) (Option.some Jvm.ClassFile.FieldType.int)) ∈ gTBL := tIn4 223 (by decide +kernel) rfl
theorem lwd944 : (Cond.methodLink "SkyTrialLaw" (153 : Nat) ({ cls := "SkyTrial", name := "annul", desc := "(I)I" } : Jvm.MethodName)) ∈ gTBL := tIn4 224 (by decide +kernel) rfl
theorem lwd945 : (Cond.instanceMethod ({ cls := "SkyTrial", name := "annul", desc := "(I)I" } : Jvm.MethodName)) ∈ gTBL := tIn4 225 (by decide +kernel) rfl
theorem lwd946 : (Cond.selects "SkyTrial" ({ cls := "SkyTrial", name := "annul", desc := "(I)I" } : Jvm.MethodName) ({ cls := "SkyTrial", name := "annul", desc := "(I)I" } : Jvm.MethodName)) ∈ gTBL := tIn4 226 (by decide +kernel) rfl
theorem lwd947 : (Cond.code ({ cls := "SkyTrial", name := "annul", desc := "(I)I" } : Jvm.MethodName) prog_1_method_34_code (2 : Nat) (Option.some Jvm.ClassFile.FieldType.int)) ∈ gTBL := tIn4 227 (by decide +kernel) rfl
theorem lwd952 : (Cond.methodLink "SkyTrialLaw" (157 : Nat) ({ cls := "SkyTrial", name := "choices", desc := "(II)I" } : Jvm.MethodName)) ∈ gTBL := tIn4 232 (by decide +kernel) rfl
theorem lwd953 : (Cond.instanceMethod ({ cls := "SkyTrial", name := "choices", desc := "(II)I" } : Jvm.MethodName)) ∈ gTBL := tIn4 233 (by decide +kernel) rfl
theorem lwd954 : (Cond.selects "SkyTrial" ({ cls := "SkyTrial", name := "choices", desc := "(II)I" } : Jvm.MethodName) ({ cls := "SkyTrial", name := "choices", desc := "(II)I" } : Jvm.MethodName)) ∈ gTBL := tIn4 234 (by decide +kernel) rfl
theorem lwd955 : (Cond.code ({ cls := "SkyTrial", name := "choices", desc := "(II)I" } : Jvm.MethodName) prog_1_method_35_code (3 : Nat) (Option.some Jvm.ClassFile.FieldType.int)) ∈ gTBL := tIn4 235 (by decide +kernel) rfl
theorem lwd969 : (Cond.methodLink "SkyTrialLaw" (161 : Nat) ({ cls := "SkyTrial", name := "sure", desc := "(III)I" } : Jvm.MethodName)) ∈ gTBL := tIn5 9 (by decide +kernel) rfl
theorem lwd970 : (Cond.instanceMethod ({ cls := "SkyTrial", name := "sure", desc := "(III)I" } : Jvm.MethodName)) ∈ gTBL := tIn5 10 (by decide +kernel) rfl
theorem lwd971 : (Cond.selects "SkyTrial" ({ cls := "SkyTrial", name := "sure", desc := "(III)I" } : Jvm.MethodName) ({ cls := "SkyTrial", name := "sure", desc := "(III)I" } : Jvm.MethodName)) ∈ gTBL := tIn5 11 (by decide +kernel) rfl
theorem lwd972 : (Cond.code ({ cls := "SkyTrial", name := "sure", desc := "(III)I" } : Jvm.MethodName) prog_1_method_36_code (5 : Nat) (Option.some Jvm.ClassFile.FieldType.int)) ∈ gTBL := tIn5 12 (by decide +kernel) rfl
theorem lwd977 : (Cond.methodLink "SkyTrialLaw" (165 : Nat) ({ cls := "SkyTrial", name := "surer", desc := "(II)I" } : Jvm.MethodName)) ∈ gTBL := tIn5 17 (by decide +kernel) rfl
theorem lwd978 : (Cond.instanceMethod ({ cls := "SkyTrial", name := "surer", desc := "(II)I" } : Jvm.MethodName)) ∈ gTBL := tIn5 18 (by decide +kernel) rfl
theorem lwd979 : (Cond.selects "SkyTrial" ({ cls := "SkyTrial", name := "surer", desc := "(II)I" } : Jvm.MethodName) ({ cls := "SkyTrial", name := "surer", desc := "(II)I" } : Jvm.MethodName)) ∈ gTBL := tIn5 19 (by decide +kernel) rfl
theorem lwd980 : (Cond.code ({ cls := "SkyTrial", name := "surer", desc := "(II)I" } : Jvm.MethodName) prog_1_method_37_code (6 : Nat) (Option.some Jvm.ClassFile.FieldType.int)) ∈ gTBL := tIn5 20 (by decide +kernel) rfl
theorem lwd984 : (Cond.methodLink "SkyTrialLaw" (169 : Nat) ({ cls := "SkyTrial", name := "on", desc := "(II)I" } : Jvm.MethodName)) ∈ gTBL := tIn5 24 (by decide +kernel) rfl
theorem lwd985 : (Cond.instanceMethod ({ cls := "SkyTrial", name := "on", desc := "(II)I" } : Jvm.MethodName)) ∈ gTBL := tIn5 25 (by decide +kernel) rfl
theorem lwd986 : (Cond.selects "SkyTrial" ({ cls := "SkyTrial", name := "on", desc := "(II)I" } : Jvm.MethodName) ({ cls := "SkyTrial", name := "on", desc := "(II)I" } : Jvm.MethodName)) ∈ gTBL := tIn5 26 (by decide +kernel) rfl
theorem lwd987 : (Cond.code ({ cls := "SkyTrial", name := "on", desc := "(II)I" } : Jvm.MethodName) prog_1_method_38_code (3 : Nat) (Option.some Jvm.ClassFile.FieldType.int)) ∈ gTBL := tIn5 27 (by decide +kernel) rfl
theorem lwd992 : (Cond.methodLink "SkyTrialLaw" (173 : Nat) ({ cls := "SkyTrial", name := "red", desc := "(III)I" } : Jvm.MethodName)) ∈ gTBL := tIn5 32 (by decide +kernel) rfl
theorem lwd993 : (Cond.instanceMethod ({ cls := "SkyTrial", name := "red", desc := "(III)I" } : Jvm.MethodName)) ∈ gTBL := tIn5 33 (by decide +kernel) rfl
theorem lwd994 : (Cond.selects "SkyTrial" ({ cls := "SkyTrial", name := "red", desc := "(III)I" } : Jvm.MethodName) ({ cls := "SkyTrial", name := "red", desc := "(III)I" } : Jvm.MethodName)) ∈ gTBL := tIn5 34 (by decide +kernel) rfl
theorem lwd995 : (Cond.code ({ cls := "SkyTrial", name := "red", desc := "(III)I" } : Jvm.MethodName) prog_1_method_39_code (4 : Nat) (Option.some Jvm.ClassFile.FieldType.int)) ∈ gTBL := tIn5 35 (by decide +kernel) rfl
theorem lwd1018 : (Cond.methodLink "SkyTrialLaw" (177 : Nat) ({ cls := "SkyTrial", name := "odds", desc := "(IIZ)J" } : Jvm.MethodName)) ∈ gTBL := tIn5 58 (by decide +kernel) rfl
theorem lwd1019 : (Cond.instanceMethod ({ cls := "SkyTrial", name := "odds", desc := "(IIZ)J" } : Jvm.MethodName)) ∈ gTBL := tIn5 59 (by decide +kernel) rfl
theorem lwd1020 : (Cond.selects "SkyTrial" ({ cls := "SkyTrial", name := "odds", desc := "(IIZ)J" } : Jvm.MethodName) ({ cls := "SkyTrial", name := "odds", desc := "(IIZ)J" } : Jvm.MethodName)) ∈ gTBL := tIn5 60 (by decide +kernel) rfl
theorem lwd1021 : (Cond.code ({ cls := "SkyTrial", name := "odds", desc := "(IIZ)J" } : Jvm.MethodName) prog_1_method_40_code (4 : Nat) (Option.some Jvm.ClassFile.FieldType.long)) ∈ gTBL := tIn5 61 (by decide +kernel) rfl
theorem lwd1022 : (Cond.methodLink "SkyTrialLaw" (181 : Nat) ({ cls := "SkyTrial", name := "turned", desc := "(II)I" } : Jvm.MethodName)) ∈ gTBL := tIn5 62 (by decide +kernel) rfl
theorem lwd1023 : (Cond.instanceMethod ({ cls := "SkyTrial", name := "turned", desc := "(II)I" } : Jvm.MethodName)) ∈ gTBL := tIn5 63 (by decide +kernel) rfl
theorem lwd1024 : (Cond.selects "SkyTrial" ({ cls := "SkyTrial", name := "turned", desc := "(II)I" } : Jvm.MethodName) ({ cls := "SkyTrial", name := "turned", desc := "(II)I" } : Jvm.MethodName)) ∈ gTBL := tIn5 64 (by decide +kernel) rfl
theorem lwd1025 : (Cond.code ({ cls := "SkyTrial", name := "turned", desc := "(II)I" } : Jvm.MethodName) prog_1_method_41_code (6 : Nat) (Option.some Jvm.ClassFile.FieldType.int)) ∈ gTBL := tIn5 65 (by decide +kernel) rfl
theorem lwd1026 : (Cond.methodLink "SkyTrialLaw" (185 : Nat) ({ cls := "SkyTrial", name := "count", desc := "(I)I" } : Jvm.MethodName)) ∈ gTBL := tIn5 66 (by decide +kernel) rfl
theorem lwd1027 : (Cond.instanceMethod ({ cls := "SkyTrial", name := "count", desc := "(I)I" } : Jvm.MethodName)) ∈ gTBL := tIn5 67 (by decide +kernel) rfl
theorem lwd1028 : (Cond.selects "SkyTrial" ({ cls := "SkyTrial", name := "count", desc := "(I)I" } : Jvm.MethodName) ({ cls := "SkyTrial", name := "count", desc := "(I)I" } : Jvm.MethodName)) ∈ gTBL := tIn5 68 (by decide +kernel) rfl
theorem lwd1029 : (Cond.code ({ cls := "SkyTrial", name := "count", desc := "(I)I" } : Jvm.MethodName) prog_1_method_42_code (2 : Nat) (Option.some Jvm.ClassFile.FieldType.int)) ∈ gTBL := tIn5 69 (by decide +kernel) rfl
theorem lwd1238 : (Cond.methodLink "SkyTrialLaw" (17 : Nat) ({ cls := "SkyTrialModel", name := "feed", desc := "(IIIII)I" } : Jvm.MethodName)) ∈ gTBL := tIn6 38 (by decide +kernel) rfl
theorem lwd1239 : (Cond.instanceMethod ({ cls := "SkyTrialModel", name := "feed", desc := "(IIIII)I" } : Jvm.MethodName)) ∈ gTBL := tIn6 39 (by decide +kernel) rfl
theorem lwd1240 : (Cond.selects "SkyTrialModel" ({ cls := "SkyTrialModel", name := "feed", desc := "(IIIII)I" } : Jvm.MethodName) ({ cls := "SkyTrialModel", name := "feed", desc := "(IIIII)I" } : Jvm.MethodName)) ∈ gTBL := tIn6 40 (by decide +kernel) rfl
theorem lwd1241 : (Cond.code ({ cls := "SkyTrialModel", name := "feed", desc := "(IIIII)I" } : Jvm.MethodName) prog_13_method_3_code (6 : Nat) (Option.some Jvm.ClassFile.FieldType.int)) ∈ gTBL := tIn6 41 (by decide +kernel) rfl
theorem lwd1246 : (Cond.methodLink "SkyTrialLaw" (22 : Nat) ({ cls := "SkyTrialModel", name := "back", desc := "(I)I" } : Jvm.MethodName)) ∈ gTBL := tIn6 46 (by decide +kernel) rfl
theorem lwd1247 : (Cond.instanceMethod ({ cls := "SkyTrialModel", name := "back", desc := "(I)I" } : Jvm.MethodName)) ∈ gTBL := tIn6 47 (by decide +kernel) rfl
theorem lwd1248 : (Cond.selects "SkyTrialModel" ({ cls := "SkyTrialModel", name := "back", desc := "(I)I" } : Jvm.MethodName) ({ cls := "SkyTrialModel", name := "back", desc := "(I)I" } : Jvm.MethodName)) ∈ gTBL := tIn6 48 (by decide +kernel) rfl
theorem lwd1249 : (Cond.code ({ cls := "SkyTrialModel", name := "back", desc := "(I)I" } : Jvm.MethodName) prog_13_method_5_code (2 : Nat) (Option.some Jvm.ClassFile.FieldType.int)) ∈ gTBL := tIn6 49 (by decide +kernel) rfl
theorem lwd1250 : (Cond.methodLink "SkyTrialLaw" (27 : Nat) ({ cls := "SkyTrialModel", name := "read", desc := "()I" } : Jvm.MethodName)) ∈ gTBL := tIn6 50 (by decide +kernel) rfl
theorem lwd1251 : (Cond.instanceMethod ({ cls := "SkyTrialModel", name := "read", desc := "()I" } : Jvm.MethodName)) ∈ gTBL := tIn6 51 (by decide +kernel) rfl
theorem lwd1252 : (Cond.selects "SkyTrialModel" ({ cls := "SkyTrialModel", name := "read", desc := "()I" } : Jvm.MethodName) ({ cls := "SkyTrialModel", name := "read", desc := "()I" } : Jvm.MethodName)) ∈ gTBL := tIn6 52 (by decide +kernel) rfl
theorem lwd1253 : (Cond.code ({ cls := "SkyTrialModel", name := "read", desc := "()I" } : Jvm.MethodName) prog_13_method_19_code (2 : Nat) (Option.some Jvm.ClassFile.FieldType.int)) ∈ gTBL := tIn6 53 (by decide +kernel) rfl
theorem lwd1356 : (Cond.methodLink "SkyTrialLaw" (31 : Nat) ({ cls := "SkyTrialModel", name := "place", desc := "()I" } : Jvm.MethodName)) ∈ gTBL := tIn6 156 (by decide +kernel) rfl
theorem lwd1357 : (Cond.instanceMethod ({ cls := "SkyTrialModel", name := "place", desc := "()I" } : Jvm.MethodName)) ∈ gTBL := tIn6 157 (by decide +kernel) rfl
theorem lwd1358 : (Cond.selects "SkyTrialModel" ({ cls := "SkyTrialModel", name := "place", desc := "()I" } : Jvm.MethodName) ({ cls := "SkyTrialModel", name := "place", desc := "()I" } : Jvm.MethodName)) ∈ gTBL := tIn6 158 (by decide +kernel) rfl
theorem lwd1359 : (Cond.code ({ cls := "SkyTrialModel", name := "place", desc := "()I" } : Jvm.MethodName) prog_13_method_20_code (1 : Nat) (Option.some Jvm.ClassFile.FieldType.int)) ∈ gTBL := tIn6 159 (by decide +kernel) rfl
theorem lwd1360 : (Cond.methodLink "SkyTrialLaw" (35 : Nat) ({ cls := "SkyTrialModel", name := "person", desc := "(IIIII)I" } : Jvm.MethodName)) ∈ gTBL := tIn6 160 (by decide +kernel) rfl
theorem lwd1361 : (Cond.instanceMethod ({ cls := "SkyTrialModel", name := "person", desc := "(IIIII)I" } : Jvm.MethodName)) ∈ gTBL := tIn6 161 (by decide +kernel) rfl
theorem lwd1362 : (Cond.selects "SkyTrialModel" ({ cls := "SkyTrialModel", name := "person", desc := "(IIIII)I" } : Jvm.MethodName) ({ cls := "SkyTrialModel", name := "person", desc := "(IIIII)I" } : Jvm.MethodName)) ∈ gTBL := tIn6 162 (by decide +kernel) rfl
theorem lwd1363 : (Cond.code ({ cls := "SkyTrialModel", name := "person", desc := "(IIIII)I" } : Jvm.MethodName) prog_13_method_45_code (8 : Nat) (Option.some Jvm.ClassFile.FieldType.int)) ∈ gTBL := tIn6 163 (by decide +kernel) rfl
theorem lwd1368 : (Cond.methodLink "SkyTrialLaw" (40 : Nat) ({ cls := "SkyTrialModel", name := "world", desc := "(III)I" } : Jvm.MethodName)) ∈ gTBL := tIn6 168 (by decide +kernel) rfl
theorem lwd1369 : (Cond.instanceMethod ({ cls := "SkyTrialModel", name := "world", desc := "(III)I" } : Jvm.MethodName)) ∈ gTBL := tIn6 169 (by decide +kernel) rfl
theorem lwd1370 : (Cond.selects "SkyTrialModel" ({ cls := "SkyTrialModel", name := "world", desc := "(III)I" } : Jvm.MethodName) ({ cls := "SkyTrialModel", name := "world", desc := "(III)I" } : Jvm.MethodName)) ∈ gTBL := tIn6 170 (by decide +kernel) rfl
theorem lwd1371 : (Cond.code ({ cls := "SkyTrialModel", name := "world", desc := "(III)I" } : Jvm.MethodName) prog_13_method_48_code (6 : Nat) (Option.some Jvm.ClassFile.FieldType.int)) ∈ gTBL := tIn6 171 (by decide +kernel) rfl
theorem lwd1399 : (Cond.methodLink "SkyTrialLaw" (45 : Nat) ({ cls := "SkyTrialModel", name := "of", desc := "(II)I" } : Jvm.MethodName)) ∈ gTBL := tIn6 199 (by decide +kernel) rfl
theorem lwd1400 : (Cond.instanceMethod ({ cls := "SkyTrialModel", name := "of", desc := "(II)I" } : Jvm.MethodName)) ∈ gTBL := tIn6 200 (by decide +kernel) rfl
theorem lwd1401 : (Cond.selects "SkyTrialModel" ({ cls := "SkyTrialModel", name := "of", desc := "(II)I" } : Jvm.MethodName) ({ cls := "SkyTrialModel", name := "of", desc := "(II)I" } : Jvm.MethodName)) ∈ gTBL := tIn6 201 (by decide +kernel) rfl
theorem lwd1402 : (Cond.code ({ cls := "SkyTrialModel", name := "of", desc := "(II)I" } : Jvm.MethodName) prog_13_method_49_code (3 : Nat) (Option.some Jvm.ClassFile.FieldType.int)) ∈ gTBL := tIn6 202 (by decide +kernel) rfl
theorem lwd1407 : (Cond.methodLink "SkyTrialLaw" (49 : Nat) ({ cls := "SkyTrialModel", name := "signs", desc := "(II)I" } : Jvm.MethodName)) ∈ gTBL := tIn6 207 (by decide +kernel) rfl
theorem lwd1408 : (Cond.instanceMethod ({ cls := "SkyTrialModel", name := "signs", desc := "(II)I" } : Jvm.MethodName)) ∈ gTBL := tIn6 208 (by decide +kernel) rfl
theorem lwd1409 : (Cond.selects "SkyTrialModel" ({ cls := "SkyTrialModel", name := "signs", desc := "(II)I" } : Jvm.MethodName) ({ cls := "SkyTrialModel", name := "signs", desc := "(II)I" } : Jvm.MethodName)) ∈ gTBL := tIn6 209 (by decide +kernel) rfl
theorem lwd1410 : (Cond.code ({ cls := "SkyTrialModel", name := "signs", desc := "(II)I" } : Jvm.MethodName) prog_13_method_53_code (3 : Nat) (Option.some Jvm.ClassFile.FieldType.int)) ∈ gTBL := tIn6 210 (by decide +kernel) rfl
theorem lwd1415 : (Cond.methodLink "SkyTrialLaw" (53 : Nat) ({ cls := "SkyTrialModel", name := "rounded", desc := "(II)I" } : Jvm.MethodName)) ∈ gTBL := tIn6 215 (by decide +kernel) rfl
theorem lwd1416 : (Cond.instanceMethod ({ cls := "SkyTrialModel", name := "rounded", desc := "(II)I" } : Jvm.MethodName)) ∈ gTBL := tIn6 216 (by decide +kernel) rfl
theorem lwd1417 : (Cond.selects "SkyTrialModel" ({ cls := "SkyTrialModel", name := "rounded", desc := "(II)I" } : Jvm.MethodName) ({ cls := "SkyTrialModel", name := "rounded", desc := "(II)I" } : Jvm.MethodName)) ∈ gTBL := tIn6 217 (by decide +kernel) rfl
theorem lwd1418 : (Cond.code ({ cls := "SkyTrialModel", name := "rounded", desc := "(II)I" } : Jvm.MethodName) prog_13_method_55_code (3 : Nat) (Option.some Jvm.ClassFile.FieldType.int)) ∈ gTBL := tIn6 218 (by decide +kernel) rfl
theorem lwd1422 : (Cond.methodLink "SkyTrialLaw" (58 : Nat) ({ cls := "SkyTrialModel", name := "moved", desc := "(IIZ)I" } : Jvm.MethodName)) ∈ gTBL := tIn6 222 (by decide +kernel) rfl
theorem lwd1423 : (Cond.instanceMethod ({ cls := "SkyTrialModel", name := "moved", desc := "(IIZ)I" } : Jvm.MethodName)) ∈ gTBL := tIn6 223 (by decide +kernel) rfl
theorem lwd1424 : (Cond.selects "SkyTrialModel" ({ cls := "SkyTrialModel", name := "moved", desc := "(IIZ)I" } : Jvm.MethodName) ({ cls := "SkyTrialModel", name := "moved", desc := "(IIZ)I" } : Jvm.MethodName)) ∈ gTBL := tIn6 224 (by decide +kernel) rfl
theorem lwd1425 : (Cond.code ({ cls := "SkyTrialModel", name := "moved", desc := "(IIZ)I" } : Jvm.MethodName) prog_13_method_56_code (7 : Nat) (Option.some Jvm.ClassFile.FieldType.int)) ∈ gTBL := tIn6 225 (by decide +kernel) rfl
theorem lwd1426 : (Cond.methodLink "SkyTrialLaw" (62 : Nat) ({ cls := "SkyTrialModel", name := "holds", desc := "(II)I" } : Jvm.MethodName)) ∈ gTBL := tIn6 226 (by decide +kernel) rfl
theorem lwd1427 : (Cond.instanceMethod ({ cls := "SkyTrialModel", name := "holds", desc := "(II)I" } : Jvm.MethodName)) ∈ gTBL := tIn6 227 (by decide +kernel) rfl
theorem lwd1428 : (Cond.selects "SkyTrialModel" ({ cls := "SkyTrialModel", name := "holds", desc := "(II)I" } : Jvm.MethodName) ({ cls := "SkyTrialModel", name := "holds", desc := "(II)I" } : Jvm.MethodName)) ∈ gTBL := tIn6 228 (by decide +kernel) rfl
theorem lwd1429 : (Cond.code ({ cls := "SkyTrialModel", name := "holds", desc := "(II)I" } : Jvm.MethodName) prog_13_method_58_code (3 : Nat) (Option.some Jvm.ClassFile.FieldType.int)) ∈ gTBL := tIn6 229 (by decide +kernel) rfl
theorem lwd1438 : (Cond.methodLink "SkyTrialLaw" (66 : Nat) ({ cls := "SkyTrialModel", name := "sort", desc := "(I)I" } : Jvm.MethodName)) ∈ gTBL := tIn6 238 (by decide +kernel) rfl
theorem lwd1439 : (Cond.instanceMethod ({ cls := "SkyTrialModel", name := "sort", desc := "(I)I" } : Jvm.MethodName)) ∈ gTBL := tIn6 239 (by decide +kernel) rfl
theorem lwd1440 : (Cond.selects "SkyTrialModel" ({ cls := "SkyTrialModel", name := "sort", desc := "(I)I" } : Jvm.MethodName) ({ cls := "SkyTrialModel", name := "sort", desc := "(I)I" } : Jvm.MethodName)) ∈ gTBL := tIn7 0 (by decide +kernel) rfl
theorem lwd1441 : (Cond.code ({ cls := "SkyTrialModel", name := "sort", desc := "(I)I" } : Jvm.MethodName) prog_13_method_59_code (2 : Nat) (Option.some Jvm.ClassFile.FieldType.int)) ∈ gTBL := tIn7 1 (by decide +kernel) rfl
theorem lwd1442 : (Cond.methodLink "SkyTrialLaw" (70 : Nat) ({ cls := "SkyTrialModel", name := "paper", desc := "(II)I" } : Jvm.MethodName)) ∈ gTBL := tIn7 2 (by decide +kernel) rfl
theorem lwd1443 : (Cond.instanceMethod ({ cls := "SkyTrialModel", name := "paper", desc := "(II)I" } : Jvm.MethodName)) ∈ gTBL := tIn7 3 (by decide +kernel) rfl
theorem lwd1444 : (Cond.selects "SkyTrialModel" ({ cls := "SkyTrialModel", name := "paper", desc := "(II)I" } : Jvm.MethodName) ({ cls := "SkyTrialModel", name := "paper", desc := "(II)I" } : Jvm.MethodName)) ∈ gTBL := tIn7 4 (by decide +kernel) rfl
theorem lwd1445 : (Cond.code ({ cls := "SkyTrialModel", name := "paper", desc := "(II)I" } : Jvm.MethodName) prog_13_method_62_code (3 : Nat) (Option.some Jvm.ClassFile.FieldType.int)) ∈ gTBL := tIn7 5 (by decide +kernel) rfl
theorem lwd1458 : (Cond.methodLink "SkyTrialLaw" (74 : Nat) ({ cls := "SkyTrialModel", name := "altered", desc := "(II)I" } : Jvm.MethodName)) ∈ gTBL := tIn7 18 (by decide +kernel) rfl
theorem lwd1459 : (Cond.instanceMethod ({ cls := "SkyTrialModel", name := "altered", desc := "(II)I" } : Jvm.MethodName)) ∈ gTBL := tIn7 19 (by decide +kernel) rfl
theorem lwd1460 : (Cond.selects "SkyTrialModel" ({ cls := "SkyTrialModel", name := "altered", desc := "(II)I" } : Jvm.MethodName) ({ cls := "SkyTrialModel", name := "altered", desc := "(II)I" } : Jvm.MethodName)) ∈ gTBL := tIn7 20 (by decide +kernel) rfl
theorem lwd1461 : (Cond.code ({ cls := "SkyTrialModel", name := "altered", desc := "(II)I" } : Jvm.MethodName) prog_13_method_63_code (5 : Nat) (Option.some Jvm.ClassFile.FieldType.int)) ∈ gTBL := tIn7 21 (by decide +kernel) rfl
theorem lwd1462 : (Cond.methodLink "SkyTrialLaw" (78 : Nat) ({ cls := "SkyTrialModel", name := "truly", desc := "(III)I" } : Jvm.MethodName)) ∈ gTBL := tIn7 22 (by decide +kernel) rfl
theorem lwd1463 : (Cond.instanceMethod ({ cls := "SkyTrialModel", name := "truly", desc := "(III)I" } : Jvm.MethodName)) ∈ gTBL := tIn7 23 (by decide +kernel) rfl
theorem lwd1464 : (Cond.selects "SkyTrialModel" ({ cls := "SkyTrialModel", name := "truly", desc := "(III)I" } : Jvm.MethodName) ({ cls := "SkyTrialModel", name := "truly", desc := "(III)I" } : Jvm.MethodName)) ∈ gTBL := tIn7 24 (by decide +kernel) rfl
theorem lwd1465 : (Cond.code ({ cls := "SkyTrialModel", name := "truly", desc := "(III)I" } : Jvm.MethodName) prog_13_method_65_code (7 : Nat) (Option.some Jvm.ClassFile.FieldType.int)) ∈ gTBL := tIn7 25 (by decide +kernel) rfl
theorem lwd1470 : (Cond.methodLink "SkyTrialLaw" (82 : Nat) ({ cls := "SkyTrialModel", name := "left", desc := "(III)I" } : Jvm.MethodName)) ∈ gTBL := tIn7 30 (by decide +kernel) rfl
theorem lwd1471 : (Cond.instanceMethod ({ cls := "SkyTrialModel", name := "left", desc := "(III)I" } : Jvm.MethodName)) ∈ gTBL := tIn7 31 (by decide +kernel) rfl
theorem lwd1472 : (Cond.selects "SkyTrialModel" ({ cls := "SkyTrialModel", name := "left", desc := "(III)I" } : Jvm.MethodName) ({ cls := "SkyTrialModel", name := "left", desc := "(III)I" } : Jvm.MethodName)) ∈ gTBL := tIn7 32 (by decide +kernel) rfl
theorem lwd1473 : (Cond.code ({ cls := "SkyTrialModel", name := "left", desc := "(III)I" } : Jvm.MethodName) prog_13_method_66_code (7 : Nat) (Option.some Jvm.ClassFile.FieldType.int)) ∈ gTBL := tIn7 33 (by decide +kernel) rfl
theorem lwd1474 : (Cond.methodLink "SkyTrialLaw" (86 : Nat) ({ cls := "SkyTrialModel", name := "fit", desc := "(IIIII)I" } : Jvm.MethodName)) ∈ gTBL := tIn7 34 (by decide +kernel) rfl
theorem lwd1475 : (Cond.instanceMethod ({ cls := "SkyTrialModel", name := "fit", desc := "(IIIII)I" } : Jvm.MethodName)) ∈ gTBL := tIn7 35 (by decide +kernel) rfl
theorem lwd1476 : (Cond.selects "SkyTrialModel" ({ cls := "SkyTrialModel", name := "fit", desc := "(IIIII)I" } : Jvm.MethodName) ({ cls := "SkyTrialModel", name := "fit", desc := "(IIIII)I" } : Jvm.MethodName)) ∈ gTBL := tIn7 36 (by decide +kernel) rfl
theorem lwd1477 : (Cond.code ({ cls := "SkyTrialModel", name := "fit", desc := "(IIIII)I" } : Jvm.MethodName) prog_13_method_68_code (6 : Nat) (Option.some Jvm.ClassFile.FieldType.int)) ∈ gTBL := tIn7 37 (by decide +kernel) rfl
theorem lwd1487 : (Cond.methodLink "SkyTrialLaw" (90 : Nat) ({ cls := "SkyTrialModel", name := "choose", desc := "(IIIII)I" } : Jvm.MethodName)) ∈ gTBL := tIn7 47 (by decide +kernel) rfl
theorem lwd1488 : (Cond.instanceMethod ({ cls := "SkyTrialModel", name := "choose", desc := "(IIIII)I" } : Jvm.MethodName)) ∈ gTBL := tIn7 48 (by decide +kernel) rfl
theorem lwd1489 : (Cond.selects "SkyTrialModel" ({ cls := "SkyTrialModel", name := "choose", desc := "(IIIII)I" } : Jvm.MethodName) ({ cls := "SkyTrialModel", name := "choose", desc := "(IIIII)I" } : Jvm.MethodName)) ∈ gTBL := tIn7 49 (by decide +kernel) rfl
theorem lwd1490 : (Cond.code ({ cls := "SkyTrialModel", name := "choose", desc := "(IIIII)I" } : Jvm.MethodName) prog_13_method_70_code (6 : Nat) (Option.some Jvm.ClassFile.FieldType.int)) ∈ gTBL := tIn7 50 (by decide +kernel) rfl
theorem lwd1495 : (Cond.methodLink "SkyTrialLaw" (94 : Nat) ({ cls := "SkyTrialModel", name := "trial", desc := "(III)I" } : Jvm.MethodName)) ∈ gTBL := tIn7 55 (by decide +kernel) rfl
theorem lwd1496 : (Cond.instanceMethod ({ cls := "SkyTrialModel", name := "trial", desc := "(III)I" } : Jvm.MethodName)) ∈ gTBL := tIn7 56 (by decide +kernel) rfl
theorem lwd1497 : (Cond.selects "SkyTrialModel" ({ cls := "SkyTrialModel", name := "trial", desc := "(III)I" } : Jvm.MethodName) ({ cls := "SkyTrialModel", name := "trial", desc := "(III)I" } : Jvm.MethodName)) ∈ gTBL := tIn7 57 (by decide +kernel) rfl
theorem lwd1498 : (Cond.code ({ cls := "SkyTrialModel", name := "trial", desc := "(III)I" } : Jvm.MethodName) prog_13_method_74_code (6 : Nat) (Option.some Jvm.ClassFile.FieldType.int)) ∈ gTBL := tIn7 58 (by decide +kernel) rfl
theorem lwd1511 : (Cond.methodLink "SkyTrialLaw" (98 : Nat) ({ cls := "SkyTrialModel", name := "given", desc := "(III)I" } : Jvm.MethodName)) ∈ gTBL := tIn7 71 (by decide +kernel) rfl
theorem lwd1512 : (Cond.instanceMethod ({ cls := "SkyTrialModel", name := "given", desc := "(III)I" } : Jvm.MethodName)) ∈ gTBL := tIn7 72 (by decide +kernel) rfl
theorem lwd1513 : (Cond.selects "SkyTrialModel" ({ cls := "SkyTrialModel", name := "given", desc := "(III)I" } : Jvm.MethodName) ({ cls := "SkyTrialModel", name := "given", desc := "(III)I" } : Jvm.MethodName)) ∈ gTBL := tIn7 73 (by decide +kernel) rfl
theorem lwd1514 : (Cond.code ({ cls := "SkyTrialModel", name := "given", desc := "(III)I" } : Jvm.MethodName) prog_13_method_75_code (4 : Nat) (Option.some Jvm.ClassFile.FieldType.int)) ∈ gTBL := tIn7 74 (by decide +kernel) rfl
theorem lwd1515 : (Cond.methodLink "SkyTrialLaw" (102 : Nat) ({ cls := "SkyTrialModel", name := "whole", desc := "(II)I" } : Jvm.MethodName)) ∈ gTBL := tIn7 75 (by decide +kernel) rfl
theorem lwd1516 : (Cond.instanceMethod ({ cls := "SkyTrialModel", name := "whole", desc := "(II)I" } : Jvm.MethodName)) ∈ gTBL := tIn7 76 (by decide +kernel) rfl
theorem lwd1517 : (Cond.selects "SkyTrialModel" ({ cls := "SkyTrialModel", name := "whole", desc := "(II)I" } : Jvm.MethodName) ({ cls := "SkyTrialModel", name := "whole", desc := "(II)I" } : Jvm.MethodName)) ∈ gTBL := tIn7 77 (by decide +kernel) rfl
theorem lwd1518 : (Cond.code ({ cls := "SkyTrialModel", name := "whole", desc := "(II)I" } : Jvm.MethodName) prog_13_method_76_code (7 : Nat) (Option.some Jvm.ClassFile.FieldType.int)) ∈ gTBL := tIn7 78 (by decide +kernel) rfl
theorem lwd1519 : (Cond.methodLink "SkyTrialLaw" (107 : Nat) ({ cls := "SkyTrialModel", name := "pleased", desc := "(IIIZ)I" } : Jvm.MethodName)) ∈ gTBL := tIn7 79 (by decide +kernel) rfl
theorem lwd1520 : (Cond.instanceMethod ({ cls := "SkyTrialModel", name := "pleased", desc := "(IIIZ)I" } : Jvm.MethodName)) ∈ gTBL := tIn7 80 (by decide +kernel) rfl
theorem lwd1521 : (Cond.selects "SkyTrialModel" ({ cls := "SkyTrialModel", name := "pleased", desc := "(IIIZ)I" } : Jvm.MethodName) ({ cls := "SkyTrialModel", name := "pleased", desc := "(IIIZ)I" } : Jvm.MethodName)) ∈ gTBL := tIn7 81 (by decide +kernel) rfl
theorem lwd1522 : (Cond.code ({ cls := "SkyTrialModel", name := "pleased", desc := "(IIIZ)I" } : Jvm.MethodName) prog_13_method_77_code (8 : Nat) (Option.some Jvm.ClassFile.FieldType.int)) ∈ gTBL := tIn7 82 (by decide +kernel) rfl
theorem lwd1523 : (Cond.methodLink "SkyTrialLaw" (112 : Nat) ({ cls := "SkyTrialModel", name := "tail", desc := "(IIII)J" } : Jvm.MethodName)) ∈ gTBL := tIn7 83 (by decide +kernel) rfl
theorem lwd1524 : (Cond.instanceMethod ({ cls := "SkyTrialModel", name := "tail", desc := "(IIII)J" } : Jvm.MethodName)) ∈ gTBL := tIn7 84 (by decide +kernel) rfl
theorem lwd1525 : (Cond.selects "SkyTrialModel" ({ cls := "SkyTrialModel", name := "tail", desc := "(IIII)J" } : Jvm.MethodName) ({ cls := "SkyTrialModel", name := "tail", desc := "(IIII)J" } : Jvm.MethodName)) ∈ gTBL := tIn7 85 (by decide +kernel) rfl
theorem lwd1526 : (Cond.code ({ cls := "SkyTrialModel", name := "tail", desc := "(IIII)J" } : Jvm.MethodName) prog_13_method_81_code (5 : Nat) (Option.some Jvm.ClassFile.FieldType.long)) ∈ gTBL := tIn7 86 (by decide +kernel) rfl
theorem lwd1537 : (Cond.methodLink "SkyTrialLaw" (116 : Nat) ({ cls := "SkyTrialModel", name := "agree", desc := "(III)I" } : Jvm.MethodName)) ∈ gTBL := tIn7 97 (by decide +kernel) rfl
theorem lwd1538 : (Cond.instanceMethod ({ cls := "SkyTrialModel", name := "agree", desc := "(III)I" } : Jvm.MethodName)) ∈ gTBL := tIn7 98 (by decide +kernel) rfl
theorem lwd1539 : (Cond.selects "SkyTrialModel" ({ cls := "SkyTrialModel", name := "agree", desc := "(III)I" } : Jvm.MethodName) ({ cls := "SkyTrialModel", name := "agree", desc := "(III)I" } : Jvm.MethodName)) ∈ gTBL := tIn7 99 (by decide +kernel) rfl
theorem lwd1540 : (Cond.code ({ cls := "SkyTrialModel", name := "agree", desc := "(III)I" } : Jvm.MethodName) prog_13_method_82_code (6 : Nat) (Option.some Jvm.ClassFile.FieldType.int)) ∈ gTBL := tIn7 100 (by decide +kernel) rfl
theorem lwd1543 : (Cond.methodLink "SkyTrialLaw" (120 : Nat) ({ cls := "SkyTrialModel", name := "table", desc := "(III)I" } : Jvm.MethodName)) ∈ gTBL := tIn7 103 (by decide +kernel) rfl
theorem lwd1544 : (Cond.instanceMethod ({ cls := "SkyTrialModel", name := "table", desc := "(III)I" } : Jvm.MethodName)) ∈ gTBL := tIn7 104 (by decide +kernel) rfl
theorem lwd1545 : (Cond.selects "SkyTrialModel" ({ cls := "SkyTrialModel", name := "table", desc := "(III)I" } : Jvm.MethodName) ({ cls := "SkyTrialModel", name := "table", desc := "(III)I" } : Jvm.MethodName)) ∈ gTBL := tIn7 105 (by decide +kernel) rfl
theorem lwd1546 : (Cond.code ({ cls := "SkyTrialModel", name := "table", desc := "(III)I" } : Jvm.MethodName) prog_13_method_86_code (4 : Nat) (Option.some Jvm.ClassFile.FieldType.int)) ∈ gTBL := tIn7 106 (by decide +kernel) rfl
theorem lwd1562 : (Cond.methodLink "SkyTrialLaw" (125 : Nat) ({ cls := "SkyTrialModel", name := "chances", desc := "(IIZ)J" } : Jvm.MethodName)) ∈ gTBL := tIn7 122 (by decide +kernel) rfl
theorem lwd1563 : (Cond.instanceMethod ({ cls := "SkyTrialModel", name := "chances", desc := "(IIZ)J" } : Jvm.MethodName)) ∈ gTBL := tIn7 123 (by decide +kernel) rfl
theorem lwd1564 : (Cond.selects "SkyTrialModel" ({ cls := "SkyTrialModel", name := "chances", desc := "(IIZ)J" } : Jvm.MethodName) ({ cls := "SkyTrialModel", name := "chances", desc := "(IIZ)J" } : Jvm.MethodName)) ∈ gTBL := tIn7 124 (by decide +kernel) rfl
theorem lwd1565 : (Cond.code ({ cls := "SkyTrialModel", name := "chances", desc := "(IIZ)J" } : Jvm.MethodName) prog_13_method_90_code (4 : Nat) (Option.some Jvm.ClassFile.FieldType.long)) ∈ gTBL := tIn7 125 (by decide +kernel) rfl
theorem lwd1577 : (Cond.methodLink "SkyTrialLaw" (130 : Nat) ({ cls := "SkyTrialModel", name := "within", desc := "(IIIZ)J" } : Jvm.MethodName)) ∈ gTBL := tIn7 137 (by decide +kernel) rfl
theorem lwd1578 : (Cond.instanceMethod ({ cls := "SkyTrialModel", name := "within", desc := "(IIIZ)J" } : Jvm.MethodName)) ∈ gTBL := tIn7 138 (by decide +kernel) rfl
theorem lwd1579 : (Cond.selects "SkyTrialModel" ({ cls := "SkyTrialModel", name := "within", desc := "(IIIZ)J" } : Jvm.MethodName) ({ cls := "SkyTrialModel", name := "within", desc := "(IIIZ)J" } : Jvm.MethodName)) ∈ gTBL := tIn7 139 (by decide +kernel) rfl
theorem lwd1580 : (Cond.code ({ cls := "SkyTrialModel", name := "within", desc := "(IIIZ)J" } : Jvm.MethodName) prog_13_method_92_code (14 : Nat) (Option.some Jvm.ClassFile.FieldType.long)) ∈ gTBL := tIn7 140 (by decide +kernel) rfl
theorem lwd1585 : (Cond.methodLink "SkyTrialLaw" (134 : Nat) ({ cls := "SkyTrialModel", name := "striking", desc := "()I" } : Jvm.MethodName)) ∈ gTBL := tIn7 145 (by decide +kernel) rfl
theorem lwd1586 : (Cond.instanceMethod ({ cls := "SkyTrialModel", name := "striking", desc := "()I" } : Jvm.MethodName)) ∈ gTBL := tIn7 146 (by decide +kernel) rfl
theorem lwd1587 : (Cond.selects "SkyTrialModel" ({ cls := "SkyTrialModel", name := "striking", desc := "()I" } : Jvm.MethodName) ({ cls := "SkyTrialModel", name := "striking", desc := "()I" } : Jvm.MethodName)) ∈ gTBL := tIn7 147 (by decide +kernel) rfl
theorem lwd1588 : (Cond.code ({ cls := "SkyTrialModel", name := "striking", desc := "()I" } : Jvm.MethodName) prog_13_method_93_code (12 : Nat) (Option.some Jvm.ClassFile.FieldType.int)) ∈ gTBL := tIn7 148 (by decide +kernel) rfl
theorem lwd1589 : (Cond.methodLink "SkyTrialLaw" (138 : Nat) ({ cls := "SkyTrialModel", name := "bound", desc := "(I)I" } : Jvm.MethodName)) ∈ gTBL := tIn7 149 (by decide +kernel) rfl
theorem lwd1590 : (Cond.instanceMethod ({ cls := "SkyTrialModel", name := "bound", desc := "(I)I" } : Jvm.MethodName)) ∈ gTBL := tIn7 150 (by decide +kernel) rfl
theorem lwd1591 : (Cond.selects "SkyTrialModel" ({ cls := "SkyTrialModel", name := "bound", desc := "(I)I" } : Jvm.MethodName) ({ cls := "SkyTrialModel", name := "bound", desc := "(I)I" } : Jvm.MethodName)) ∈ gTBL := tIn7 151 (by decide +kernel) rfl
theorem lwd1592 : (Cond.code ({ cls := "SkyTrialModel", name := "bound", desc := "(I)I" } : Jvm.MethodName) prog_13_method_94_code (5 : Nat) (Option.some Jvm.ClassFile.FieldType.int)) ∈ gTBL := tIn7 152 (by decide +kernel) rfl
theorem lwd1593 : (Cond.methodLink "SkyTrialLaw" (143 : Nat) ({ cls := "SkyTrialModel", name := "choice", desc := "(IZI)I" } : Jvm.MethodName)) ∈ gTBL := tIn7 153 (by decide +kernel) rfl
theorem lwd1594 : (Cond.instanceMethod ({ cls := "SkyTrialModel", name := "choice", desc := "(IZI)I" } : Jvm.MethodName)) ∈ gTBL := tIn7 154 (by decide +kernel) rfl
theorem lwd1595 : (Cond.selects "SkyTrialModel" ({ cls := "SkyTrialModel", name := "choice", desc := "(IZI)I" } : Jvm.MethodName) ({ cls := "SkyTrialModel", name := "choice", desc := "(IZI)I" } : Jvm.MethodName)) ∈ gTBL := tIn7 155 (by decide +kernel) rfl
theorem lwd1596 : (Cond.code ({ cls := "SkyTrialModel", name := "choice", desc := "(IZI)I" } : Jvm.MethodName) prog_13_method_96_code (4 : Nat) (Option.some Jvm.ClassFile.FieldType.int)) ∈ gTBL := tIn7 156 (by decide +kernel) rfl
theorem lwd1601 : (Cond.methodLink "SkyTrialLaw" (148 : Nat) ({ cls := "SkyTrialModel", name := "list", desc := "(IZ)I" } : Jvm.MethodName)) ∈ gTBL := tIn7 161 (by decide +kernel) rfl
theorem lwd1602 : (Cond.instanceMethod ({ cls := "SkyTrialModel", name := "list", desc := "(IZ)I" } : Jvm.MethodName)) ∈ gTBL := tIn7 162 (by decide +kernel) rfl
theorem lwd1603 : (Cond.selects "SkyTrialModel" ({ cls := "SkyTrialModel", name := "list", desc := "(IZ)I" } : Jvm.MethodName) ({ cls := "SkyTrialModel", name := "list", desc := "(IZ)I" } : Jvm.MethodName)) ∈ gTBL := tIn7 163 (by decide +kernel) rfl
theorem lwd1604 : (Cond.code ({ cls := "SkyTrialModel", name := "list", desc := "(IZ)I" } : Jvm.MethodName) prog_13_method_97_code (3 : Nat) (Option.some Jvm.ClassFile.FieldType.int)) ∈ gTBL := tIn7 164 (by decide +kernel) rfl
theorem lwd1605 : (Cond.methodLink "SkyTrialLaw" (152 : Nat) ({ cls := "SkyTrialModel", name := "tried", desc := "(II)I" } : Jvm.MethodName)) ∈ gTBL := tIn7 165 (by decide +kernel) rfl
theorem lwd1606 : (Cond.instanceMethod ({ cls := "SkyTrialModel", name := "tried", desc := "(II)I" } : Jvm.MethodName)) ∈ gTBL := tIn7 166 (by decide +kernel) rfl
theorem lwd1607 : (Cond.selects "SkyTrialModel" ({ cls := "SkyTrialModel", name := "tried", desc := "(II)I" } : Jvm.MethodName) ({ cls := "SkyTrialModel", name := "tried", desc := "(II)I" } : Jvm.MethodName)) ∈ gTBL := tIn7 167 (by decide +kernel) rfl
theorem lwd1608 : (Cond.code ({ cls := "SkyTrialModel", name := "tried", desc := "(II)I" } : Jvm.MethodName) prog_13_method_98_code (3 : Nat) (Option.some Jvm.ClassFile.FieldType.int)) ∈ gTBL := tIn7 168 (by decide +kernel) rfl
theorem lwd1609 : (Cond.methodLink "SkyTrialLaw" (156 : Nat) ({ cls := "SkyTrialModel", name := "annul", desc := "(I)I" } : Jvm.MethodName)) ∈ gTBL := tIn7 169 (by decide +kernel) rfl
theorem lwd1610 : (Cond.instanceMethod ({ cls := "SkyTrialModel", name := "annul", desc := "(I)I" } : Jvm.MethodName)) ∈ gTBL := tIn7 170 (by decide +kernel) rfl
theorem lwd1611 : (Cond.selects "SkyTrialModel" ({ cls := "SkyTrialModel", name := "annul", desc := "(I)I" } : Jvm.MethodName) ({ cls := "SkyTrialModel", name := "annul", desc := "(I)I" } : Jvm.MethodName)) ∈ gTBL := tIn7 171 (by decide +kernel) rfl
theorem lwd1612 : (Cond.code ({ cls := "SkyTrialModel", name := "annul", desc := "(I)I" } : Jvm.MethodName) prog_13_method_99_code (2 : Nat) (Option.some Jvm.ClassFile.FieldType.int)) ∈ gTBL := tIn7 172 (by decide +kernel) rfl
theorem lwd1613 : (Cond.methodLink "SkyTrialLaw" (160 : Nat) ({ cls := "SkyTrialModel", name := "choices", desc := "(II)I" } : Jvm.MethodName)) ∈ gTBL := tIn7 173 (by decide +kernel) rfl
theorem lwd1614 : (Cond.instanceMethod ({ cls := "SkyTrialModel", name := "choices", desc := "(II)I" } : Jvm.MethodName)) ∈ gTBL := tIn7 174 (by decide +kernel) rfl
theorem lwd1615 : (Cond.selects "SkyTrialModel" ({ cls := "SkyTrialModel", name := "choices", desc := "(II)I" } : Jvm.MethodName) ({ cls := "SkyTrialModel", name := "choices", desc := "(II)I" } : Jvm.MethodName)) ∈ gTBL := tIn7 175 (by decide +kernel) rfl
theorem lwd1616 : (Cond.code ({ cls := "SkyTrialModel", name := "choices", desc := "(II)I" } : Jvm.MethodName) prog_13_method_102_code (5 : Nat) (Option.some Jvm.ClassFile.FieldType.int)) ∈ gTBL := tIn7 176 (by decide +kernel) rfl
theorem lwd1625 : (Cond.methodLink "SkyTrialLaw" (164 : Nat) ({ cls := "SkyTrialModel", name := "sure", desc := "(III)I" } : Jvm.MethodName)) ∈ gTBL := tIn7 185 (by decide +kernel) rfl
theorem lwd1626 : (Cond.instanceMethod ({ cls := "SkyTrialModel", name := "sure", desc := "(III)I" } : Jvm.MethodName)) ∈ gTBL := tIn7 186 (by decide +kernel) rfl
theorem lwd1627 : (Cond.selects "SkyTrialModel" ({ cls := "SkyTrialModel", name := "sure", desc := "(III)I" } : Jvm.MethodName) ({ cls := "SkyTrialModel", name := "sure", desc := "(III)I" } : Jvm.MethodName)) ∈ gTBL := tIn7 187 (by decide +kernel) rfl
theorem lwd1628 : (Cond.code ({ cls := "SkyTrialModel", name := "sure", desc := "(III)I" } : Jvm.MethodName) prog_13_method_103_code (6 : Nat) (Option.some Jvm.ClassFile.FieldType.int)) ∈ gTBL := tIn7 188 (by decide +kernel) rfl
theorem lwd1629 : (Cond.methodLink "SkyTrialLaw" (168 : Nat) ({ cls := "SkyTrialModel", name := "surer", desc := "(II)I" } : Jvm.MethodName)) ∈ gTBL := tIn7 189 (by decide +kernel) rfl
theorem lwd1630 : (Cond.instanceMethod ({ cls := "SkyTrialModel", name := "surer", desc := "(II)I" } : Jvm.MethodName)) ∈ gTBL := tIn7 190 (by decide +kernel) rfl
theorem lwd1631 : (Cond.selects "SkyTrialModel" ({ cls := "SkyTrialModel", name := "surer", desc := "(II)I" } : Jvm.MethodName) ({ cls := "SkyTrialModel", name := "surer", desc := "(II)I" } : Jvm.MethodName)) ∈ gTBL := tIn7 191 (by decide +kernel) rfl
theorem lwd1632 : (Cond.code ({ cls := "SkyTrialModel", name := "surer", desc := "(II)I" } : Jvm.MethodName) prog_13_method_104_code (7 : Nat) (Option.some Jvm.ClassFile.FieldType.int)) ∈ gTBL := tIn7 192 (by decide +kernel) rfl
theorem lwd1633 : (Cond.methodLink "SkyTrialLaw" (172 : Nat) ({ cls := "SkyTrialModel", name := "on", desc := "(II)I" } : Jvm.MethodName)) ∈ gTBL := tIn7 193 (by decide +kernel) rfl
theorem lwd1634 : (Cond.instanceMethod ({ cls := "SkyTrialModel", name := "on", desc := "(II)I" } : Jvm.MethodName)) ∈ gTBL := tIn7 194 (by decide +kernel) rfl
theorem lwd1635 : (Cond.selects "SkyTrialModel" ({ cls := "SkyTrialModel", name := "on", desc := "(II)I" } : Jvm.MethodName) ({ cls := "SkyTrialModel", name := "on", desc := "(II)I" } : Jvm.MethodName)) ∈ gTBL := tIn7 195 (by decide +kernel) rfl
theorem lwd1636 : (Cond.code ({ cls := "SkyTrialModel", name := "on", desc := "(II)I" } : Jvm.MethodName) prog_13_method_106_code (3 : Nat) (Option.some Jvm.ClassFile.FieldType.int)) ∈ gTBL := tIn7 196 (by decide +kernel) rfl
theorem lwd1641 : (Cond.methodLink "SkyTrialLaw" (176 : Nat) ({ cls := "SkyTrialModel", name := "red", desc := "(III)I" } : Jvm.MethodName)) ∈ gTBL := tIn7 201 (by decide +kernel) rfl
theorem lwd1642 : (Cond.instanceMethod ({ cls := "SkyTrialModel", name := "red", desc := "(III)I" } : Jvm.MethodName)) ∈ gTBL := tIn7 202 (by decide +kernel) rfl
theorem lwd1643 : (Cond.selects "SkyTrialModel" ({ cls := "SkyTrialModel", name := "red", desc := "(III)I" } : Jvm.MethodName) ({ cls := "SkyTrialModel", name := "red", desc := "(III)I" } : Jvm.MethodName)) ∈ gTBL := tIn7 203 (by decide +kernel) rfl
theorem lwd1644 : (Cond.code ({ cls := "SkyTrialModel", name := "red", desc := "(III)I" } : Jvm.MethodName) prog_13_method_110_code (4 : Nat) (Option.some Jvm.ClassFile.FieldType.int)) ∈ gTBL := tIn7 204 (by decide +kernel) rfl
theorem lwd1658 : (Cond.methodLink "SkyTrialLaw" (180 : Nat) ({ cls := "SkyTrialModel", name := "odds", desc := "(IIZ)J" } : Jvm.MethodName)) ∈ gTBL := tIn7 218 (by decide +kernel) rfl
theorem lwd1659 : (Cond.instanceMethod ({ cls := "SkyTrialModel", name := "odds", desc := "(IIZ)J" } : Jvm.MethodName)) ∈ gTBL := tIn7 219 (by decide +kernel) rfl
theorem lwd1660 : (Cond.selects "SkyTrialModel" ({ cls := "SkyTrialModel", name := "odds", desc := "(IIZ)J" } : Jvm.MethodName) ({ cls := "SkyTrialModel", name := "odds", desc := "(IIZ)J" } : Jvm.MethodName)) ∈ gTBL := tIn7 220 (by decide +kernel) rfl
theorem lwd1661 : (Cond.code ({ cls := "SkyTrialModel", name := "odds", desc := "(IIZ)J" } : Jvm.MethodName) prog_13_method_111_code (4 : Nat) (Option.some Jvm.ClassFile.FieldType.long)) ∈ gTBL := tIn7 221 (by decide +kernel) rfl
theorem lwd1662 : (Cond.methodLink "SkyTrialLaw" (184 : Nat) ({ cls := "SkyTrialModel", name := "turned", desc := "(II)I" } : Jvm.MethodName)) ∈ gTBL := tIn7 222 (by decide +kernel) rfl
theorem lwd1663 : (Cond.instanceMethod ({ cls := "SkyTrialModel", name := "turned", desc := "(II)I" } : Jvm.MethodName)) ∈ gTBL := tIn7 223 (by decide +kernel) rfl
theorem lwd1664 : (Cond.selects "SkyTrialModel" ({ cls := "SkyTrialModel", name := "turned", desc := "(II)I" } : Jvm.MethodName) ({ cls := "SkyTrialModel", name := "turned", desc := "(II)I" } : Jvm.MethodName)) ∈ gTBL := tIn7 224 (by decide +kernel) rfl
theorem lwd1665 : (Cond.code ({ cls := "SkyTrialModel", name := "turned", desc := "(II)I" } : Jvm.MethodName) prog_13_method_112_code (4 : Nat) (Option.some Jvm.ClassFile.FieldType.int)) ∈ gTBL := tIn7 225 (by decide +kernel) rfl
theorem lwd1666 : (Cond.methodLink "SkyTrialLaw" (188 : Nat) ({ cls := "SkyTrialModel", name := "count", desc := "(I)I" } : Jvm.MethodName)) ∈ gTBL := tIn7 226 (by decide +kernel) rfl
theorem lwd1667 : (Cond.instanceMethod ({ cls := "SkyTrialModel", name := "count", desc := "(I)I" } : Jvm.MethodName)) ∈ gTBL := tIn7 227 (by decide +kernel) rfl
theorem lwd1668 : (Cond.selects "SkyTrialModel" ({ cls := "SkyTrialModel", name := "count", desc := "(I)I" } : Jvm.MethodName) ({ cls := "SkyTrialModel", name := "count", desc := "(I)I" } : Jvm.MethodName)) ∈ gTBL := tIn7 228 (by decide +kernel) rfl
theorem lwd1669 : (Cond.code ({ cls := "SkyTrialModel", name := "count", desc := "(I)I" } : Jvm.MethodName) prog_13_method_113_code (2 : Nat) (Option.some Jvm.ClassFile.FieldType.int)) ∈ gTBL := tIn7 229 (by decide +kernel) rfl
theorem cwL_13 : cwO R_law 13 yX10_feed cX10_feed 6 (some .int) 5 := ⟨⟨lwd399, lwd400, lwd401, lwd1, lwd402⟩, by decide, by decide, rfl⟩
theorem cwL_17 : cwO R_law 17 yX11_feed cX11_feed 6 (some .int) 5 := ⟨⟨lwd1238, lwd1239, lwd1240, lwd16, lwd1241⟩, by decide, by decide, rfl⟩
theorem cwL_18 : cwO R_law 18 yX10_back cX10_back 2 (some .int) 1 := ⟨⟨lwd407, lwd408, lwd409, lwd1, lwd410⟩, by decide, by decide, rfl⟩
theorem cwL_22 : cwO R_law 22 yX11_back cX11_back 2 (some .int) 1 := ⟨⟨lwd1246, lwd1247, lwd1248, lwd16, lwd1249⟩, by decide, by decide, rfl⟩
theorem cwL_23 : cwO R_law 23 yX10_read cX10_read 2 (some .int) 0 := ⟨⟨lwd411, lwd412, lwd413, lwd1, lwd414⟩, by decide, by decide, rfl⟩
theorem cwL_27 : cwO R_law 27 yX11_read cX11_read 2 (some .int) 0 := ⟨⟨lwd1250, lwd1251, lwd1252, lwd16, lwd1253⟩, by decide, by decide, rfl⟩
theorem cwL_28 : cwO R_law 28 yX10_place cX10_place 1 (some .int) 0 := ⟨⟨lwd567, lwd568, lwd569, lwd1, lwd570⟩, by decide, by decide, rfl⟩
theorem cwL_31 : cwO R_law 31 yX11_place cX11_place 1 (some .int) 0 := ⟨⟨lwd1356, lwd1357, lwd1358, lwd16, lwd1359⟩, by decide, by decide, rfl⟩
theorem cwL_32 : cwO R_law 32 yX10_person cX10_person 7 (some .int) 5 := ⟨⟨lwd575, lwd576, lwd577, lwd1, lwd578⟩, by decide, by decide, rfl⟩
theorem cwL_35 : cwO R_law 35 yX11_person cX11_person 8 (some .int) 5 := ⟨⟨lwd1360, lwd1361, lwd1362, lwd16, lwd1363⟩, by decide, by decide, rfl⟩
theorem cwL_36 : cwO R_law 36 yX10_world cX10_world 5 (some .int) 3 := ⟨⟨lwd591, lwd592, lwd593, lwd1, lwd594⟩, by decide, by decide, rfl⟩
theorem cwL_40 : cwO R_law 40 yX11_world cX11_world 6 (some .int) 3 := ⟨⟨lwd1368, lwd1369, lwd1370, lwd16, lwd1371⟩, by decide, by decide, rfl⟩
theorem cwL_41 : cwO R_law 41 yX10_of cX10_of 3 (some .int) 2 := ⟨⟨lwd648, lwd649, lwd650, lwd1, lwd651⟩, by decide, by decide, rfl⟩
theorem cwL_45 : cwO R_law 45 yX11_of cX11_of 3 (some .int) 2 := ⟨⟨lwd1399, lwd1400, lwd1401, lwd16, lwd1402⟩, by decide, by decide, rfl⟩
theorem cwL_46 : cwO R_law 46 yX10_signs cX10_signs 3 (some .int) 2 := ⟨⟨lwd657, lwd658, lwd659, lwd1, lwd660⟩, by decide, by decide, rfl⟩
theorem cwL_49 : cwO R_law 49 yX11_signs cX11_signs 3 (some .int) 2 := ⟨⟨lwd1407, lwd1408, lwd1409, lwd16, lwd1410⟩, by decide, by decide, rfl⟩
theorem cwL_50 : cwO R_law 50 yX10_rounded cX10_rounded 3 (some .int) 2 := ⟨⟨lwd669, lwd670, lwd671, lwd1, lwd672⟩, by decide, by decide, rfl⟩
theorem cwL_53 : cwO R_law 53 yX11_rounded cX11_rounded 3 (some .int) 2 := ⟨⟨lwd1415, lwd1416, lwd1417, lwd16, lwd1418⟩, by decide, by decide, rfl⟩
theorem cwL_54 : cwO R_law 54 yX10_moved cX10_moved 8 (some .int) 3 := ⟨⟨lwd680, lwd681, lwd682, lwd1, lwd683⟩, by decide, by decide, rfl⟩
theorem cwL_58 : cwO R_law 58 yX11_moved cX11_moved 7 (some .int) 3 := ⟨⟨lwd1422, lwd1423, lwd1424, lwd16, lwd1425⟩, by decide, by decide, rfl⟩
theorem cwL_59 : cwO R_law 59 yX10_holds cX10_holds 3 (some .int) 2 := ⟨⟨lwd687, lwd688, lwd689, lwd1, lwd690⟩, by decide, by decide, rfl⟩
theorem cwL_62 : cwO R_law 62 yX11_holds cX11_holds 3 (some .int) 2 := ⟨⟨lwd1426, lwd1427, lwd1428, lwd16, lwd1429⟩, by decide, by decide, rfl⟩
theorem cwL_63 : cwO R_law 63 yX10_sort cX10_sort 2 (some .int) 1 := ⟨⟨lwd702, lwd703, lwd704, lwd1, lwd705⟩, by decide, by decide, rfl⟩
theorem cwL_66 : cwO R_law 66 yX11_sort cX11_sort 2 (some .int) 1 := ⟨⟨lwd1438, lwd1439, lwd1440, lwd16, lwd1441⟩, by decide, by decide, rfl⟩
theorem cwL_67 : cwO R_law 67 yX10_paper cX10_paper 3 (some .int) 2 := ⟨⟨lwd706, lwd707, lwd708, lwd1, lwd709⟩, by decide, by decide, rfl⟩
theorem cwL_70 : cwO R_law 70 yX11_paper cX11_paper 3 (some .int) 2 := ⟨⟨lwd1442, lwd1443, lwd1444, lwd16, lwd1445⟩, by decide, by decide, rfl⟩
theorem cwL_71 : cwO R_law 71 yX10_altered cX10_altered 6 (some .int) 2 := ⟨⟨lwd724, lwd725, lwd726, lwd1, lwd727⟩, by decide, by decide, rfl⟩
theorem cwL_74 : cwO R_law 74 yX11_altered cX11_altered 5 (some .int) 2 := ⟨⟨lwd1458, lwd1459, lwd1460, lwd16, lwd1461⟩, by decide, by decide, rfl⟩
theorem cwL_75 : cwO R_law 75 yX10_truly cX10_truly 8 (some .int) 3 := ⟨⟨lwd728, lwd729, lwd730, lwd1, lwd731⟩, by decide, by decide, rfl⟩
theorem cwL_78 : cwO R_law 78 yX11_truly cX11_truly 7 (some .int) 3 := ⟨⟨lwd1462, lwd1463, lwd1464, lwd16, lwd1465⟩, by decide, by decide, rfl⟩
theorem cwL_79 : cwO R_law 79 yX10_left cX10_left 7 (some .int) 3 := ⟨⟨lwd736, lwd737, lwd738, lwd1, lwd739⟩, by decide, by decide, rfl⟩
theorem cwL_82 : cwO R_law 82 yX11_left cX11_left 7 (some .int) 3 := ⟨⟨lwd1470, lwd1471, lwd1472, lwd16, lwd1473⟩, by decide, by decide, rfl⟩
theorem cwL_83 : cwO R_law 83 yX10_fit cX10_fit 7 (some .int) 5 := ⟨⟨lwd745, lwd746, lwd747, lwd1, lwd748⟩, by decide, by decide, rfl⟩
theorem cwL_86 : cwO R_law 86 yX11_fit cX11_fit 6 (some .int) 5 := ⟨⟨lwd1474, lwd1475, lwd1476, lwd16, lwd1477⟩, by decide, by decide, rfl⟩
theorem cwL_87 : cwO R_law 87 yX10_choose cX10_choose 6 (some .int) 5 := ⟨⟨lwd762, lwd763, lwd764, lwd1, lwd765⟩, by decide, by decide, rfl⟩
theorem cwL_90 : cwO R_law 90 yX11_choose cX11_choose 6 (some .int) 5 := ⟨⟨lwd1487, lwd1488, lwd1489, lwd16, lwd1490⟩, by decide, by decide, rfl⟩
theorem cwL_91 : cwO R_law 91 yX10_trial cX10_trial 8 (some .int) 3 := ⟨⟨lwd780, lwd781, lwd782, lwd1, lwd783⟩, by decide, by decide, rfl⟩
theorem cwL_94 : cwO R_law 94 yX11_trial cX11_trial 6 (some .int) 3 := ⟨⟨lwd1495, lwd1496, lwd1497, lwd16, lwd1498⟩, by decide, by decide, rfl⟩
theorem cwL_95 : cwO R_law 95 yX10_given cX10_given 5 (some .int) 3 := ⟨⟨lwd796, lwd797, lwd798, lwd1, lwd799⟩, by decide, by decide, rfl⟩
theorem cwL_98 : cwO R_law 98 yX11_given cX11_given 4 (some .int) 3 := ⟨⟨lwd1511, lwd1512, lwd1513, lwd16, lwd1514⟩, by decide, by decide, rfl⟩
theorem cwL_99 : cwO R_law 99 yX10_whole cX10_whole 5 (some .int) 2 := ⟨⟨lwd800, lwd801, lwd802, lwd1, lwd803⟩, by decide, by decide, rfl⟩
theorem cwL_102 : cwO R_law 102 yX11_whole cX11_whole 7 (some .int) 2 := ⟨⟨lwd1515, lwd1516, lwd1517, lwd16, lwd1518⟩, by decide, by decide, rfl⟩
theorem cwL_103 : cwO R_law 103 yX10_pleased cX10_pleased 8 (some .int) 4 := ⟨⟨lwd812, lwd813, lwd814, lwd1, lwd815⟩, by decide, by decide, rfl⟩
theorem cwL_107 : cwO R_law 107 yX11_pleased cX11_pleased 8 (some .int) 4 := ⟨⟨lwd1519, lwd1520, lwd1521, lwd16, lwd1522⟩, by decide, by decide, rfl⟩
theorem cwL_108 : cwO R_law 108 yX10_tail cX10_tail 5 (some .long) 4 := ⟨⟨lwd817, lwd818, lwd819, lwd1, lwd820⟩, by decide, by decide, rfl⟩
theorem cwL_112 : cwO R_law 112 yX11_tail cX11_tail 5 (some .long) 4 := ⟨⟨lwd1523, lwd1524, lwd1525, lwd16, lwd1526⟩, by decide, by decide, rfl⟩
theorem cwL_113 : cwO R_law 113 yX10_agree cX10_agree 4 (some .int) 3 := ⟨⟨lwd837, lwd838, lwd839, lwd1, lwd840⟩, by decide, by decide, rfl⟩
theorem cwL_116 : cwO R_law 116 yX11_agree cX11_agree 6 (some .int) 3 := ⟨⟨lwd1537, lwd1538, lwd1539, lwd16, lwd1540⟩, by decide, by decide, rfl⟩
theorem cwL_117 : cwO R_law 117 yX10_table cX10_table 4 (some .int) 3 := ⟨⟨lwd847, lwd848, lwd849, lwd1, lwd850⟩, by decide, by decide, rfl⟩
theorem cwL_120 : cwO R_law 120 yX11_table cX11_table 4 (some .int) 3 := ⟨⟨lwd1543, lwd1544, lwd1545, lwd16, lwd1546⟩, by decide, by decide, rfl⟩
theorem cwL_121 : cwO R_law 121 yX10_chances cX10_chances 4 (some .long) 3 := ⟨⟨lwd871, lwd872, lwd873, lwd1, lwd874⟩, by decide, by decide, rfl⟩
theorem cwL_125 : cwO R_law 125 yX11_chances cX11_chances 4 (some .long) 3 := ⟨⟨lwd1562, lwd1563, lwd1564, lwd16, lwd1565⟩, by decide, by decide, rfl⟩
theorem cwL_126 : cwO R_law 126 yX10_within cX10_within 7 (some .long) 4 := ⟨⟨lwd892, lwd893, lwd894, lwd1, lwd895⟩, by decide, by decide, rfl⟩
theorem cwL_130 : cwO R_law 130 yX11_within cX11_within 14 (some .long) 4 := ⟨⟨lwd1577, lwd1578, lwd1579, lwd16, lwd1580⟩, by decide, by decide, rfl⟩
theorem cwL_131 : cwO R_law 131 yX10_striking cX10_striking 12 (some .int) 0 := ⟨⟨lwd920, lwd921, lwd922, lwd1, lwd923⟩, by decide, by decide, rfl⟩
theorem cwL_134 : cwO R_law 134 yX11_striking cX11_striking 12 (some .int) 0 := ⟨⟨lwd1585, lwd1586, lwd1587, lwd16, lwd1588⟩, by decide, by decide, rfl⟩
theorem cwL_135 : cwO R_law 135 yX10_bound cX10_bound 5 (some .int) 1 := ⟨⟨lwd924, lwd925, lwd926, lwd1, lwd927⟩, by decide, by decide, rfl⟩
theorem cwL_138 : cwO R_law 138 yX11_bound cX11_bound 5 (some .int) 1 := ⟨⟨lwd1589, lwd1590, lwd1591, lwd16, lwd1592⟩, by decide, by decide, rfl⟩
theorem cwL_139 : cwO R_law 139 yX10_choice cX10_choice 4 (some .int) 3 := ⟨⟨lwd928, lwd929, lwd930, lwd1, lwd931⟩, by decide, by decide, rfl⟩
theorem cwL_143 : cwO R_law 143 yX11_choice cX11_choice 4 (some .int) 3 := ⟨⟨lwd1593, lwd1594, lwd1595, lwd16, lwd1596⟩, by decide, by decide, rfl⟩
theorem cwL_144 : cwO R_law 144 yX10_list cX10_list 3 (some .int) 2 := ⟨⟨lwd936, lwd937, lwd938, lwd1, lwd939⟩, by decide, by decide, rfl⟩
theorem cwL_148 : cwO R_law 148 yX11_list cX11_list 3 (some .int) 2 := ⟨⟨lwd1601, lwd1602, lwd1603, lwd16, lwd1604⟩, by decide, by decide, rfl⟩
theorem cwL_149 : cwO R_law 149 yX10_tried cX10_tried 3 (some .int) 2 := ⟨⟨lwd940, lwd941, lwd942, lwd1, lwd943⟩, by decide, by decide, rfl⟩
theorem cwL_152 : cwO R_law 152 yX11_tried cX11_tried 3 (some .int) 2 := ⟨⟨lwd1605, lwd1606, lwd1607, lwd16, lwd1608⟩, by decide, by decide, rfl⟩
theorem cwL_153 : cwO R_law 153 yX10_annul cX10_annul 2 (some .int) 1 := ⟨⟨lwd944, lwd945, lwd946, lwd1, lwd947⟩, by decide, by decide, rfl⟩
theorem cwL_156 : cwO R_law 156 yX11_annul cX11_annul 2 (some .int) 1 := ⟨⟨lwd1609, lwd1610, lwd1611, lwd16, lwd1612⟩, by decide, by decide, rfl⟩
theorem cwL_157 : cwO R_law 157 yX10_choices cX10_choices 3 (some .int) 2 := ⟨⟨lwd952, lwd953, lwd954, lwd1, lwd955⟩, by decide, by decide, rfl⟩
theorem cwL_160 : cwO R_law 160 yX11_choices cX11_choices 5 (some .int) 2 := ⟨⟨lwd1613, lwd1614, lwd1615, lwd16, lwd1616⟩, by decide, by decide, rfl⟩
theorem cwL_161 : cwO R_law 161 yX10_sure cX10_sure 5 (some .int) 3 := ⟨⟨lwd969, lwd970, lwd971, lwd1, lwd972⟩, by decide, by decide, rfl⟩
theorem cwL_164 : cwO R_law 164 yX11_sure cX11_sure 6 (some .int) 3 := ⟨⟨lwd1625, lwd1626, lwd1627, lwd16, lwd1628⟩, by decide, by decide, rfl⟩
theorem cwL_165 : cwO R_law 165 yX10_surer cX10_surer 6 (some .int) 2 := ⟨⟨lwd977, lwd978, lwd979, lwd1, lwd980⟩, by decide, by decide, rfl⟩
theorem cwL_168 : cwO R_law 168 yX11_surer cX11_surer 7 (some .int) 2 := ⟨⟨lwd1629, lwd1630, lwd1631, lwd16, lwd1632⟩, by decide, by decide, rfl⟩
theorem cwL_169 : cwO R_law 169 yX10_on cX10_on 3 (some .int) 2 := ⟨⟨lwd984, lwd985, lwd986, lwd1, lwd987⟩, by decide, by decide, rfl⟩
theorem cwL_172 : cwO R_law 172 yX11_on cX11_on 3 (some .int) 2 := ⟨⟨lwd1633, lwd1634, lwd1635, lwd16, lwd1636⟩, by decide, by decide, rfl⟩
theorem cwL_173 : cwO R_law 173 yX10_red cX10_red 4 (some .int) 3 := ⟨⟨lwd992, lwd993, lwd994, lwd1, lwd995⟩, by decide, by decide, rfl⟩
theorem cwL_176 : cwO R_law 176 yX11_red cX11_red 4 (some .int) 3 := ⟨⟨lwd1641, lwd1642, lwd1643, lwd16, lwd1644⟩, by decide, by decide, rfl⟩
theorem cwL_177 : cwO R_law 177 yX10_odds cX10_odds 4 (some .long) 3 := ⟨⟨lwd1018, lwd1019, lwd1020, lwd1, lwd1021⟩, by decide, by decide, rfl⟩
theorem cwL_180 : cwO R_law 180 yX11_odds cX11_odds 4 (some .long) 3 := ⟨⟨lwd1658, lwd1659, lwd1660, lwd16, lwd1661⟩, by decide, by decide, rfl⟩
theorem cwL_181 : cwO R_law 181 yX10_turned cX10_turned 6 (some .int) 2 := ⟨⟨lwd1022, lwd1023, lwd1024, lwd1, lwd1025⟩, by decide, by decide, rfl⟩
theorem cwL_184 : cwO R_law 184 yX11_turned cX11_turned 4 (some .int) 2 := ⟨⟨lwd1662, lwd1663, lwd1664, lwd16, lwd1665⟩, by decide, by decide, rfl⟩
theorem cwL_185 : cwO R_law 185 yX10_count cX10_count 2 (some .int) 1 := ⟨⟨lwd1026, lwd1027, lwd1028, lwd1, lwd1029⟩, by decide, by decide, rfl⟩
theorem cwL_188 : cwO R_law 188 yX11_count cX11_count 2 (some .int) 1 := ⟨⟨lwd1666, lwd1667, lwd1668, lwd16, lwd1669⟩, by decide, by decide, rfl⟩
