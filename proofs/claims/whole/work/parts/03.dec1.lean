theorem dX8_put_41 : decode cX8_put 41 = .ok (.lastore, 1) := by decide +kernel
theorem dX8_put_42 : decode cX8_put 42 = .ok (.aload_n 0, 1) := by decide +kernel
theorem dX8_put_43 : decode cX8_put 43 = .ok (.dup, 1) := by decide +kernel
theorem dX8_put_44 : decode cX8_put 44 = .ok (.getfield 22, 3) := by decide +kernel
theorem dX8_put_47 : decode cX8_put 47 = .ok (.iconst 1, 1) := by decide +kernel
theorem dX8_put_48 : decode cX8_put 48 = .ok (.iadd, 1) := by decide +kernel
theorem dX8_put_49 : decode cX8_put 49 = .ok (.putfield 22, 3) := by decide +kernel
theorem dX8_put_52 : decode cX8_put 52 = .ok (.return_, 1) := by decide +kernel
theorem dX8_withLetter_0 : decode cX8_withLetter 0 = .ok (.lload_n 0, 1) := by decide +kernel
theorem dX8_withLetter_1 : decode cX8_withLetter 1 = .ok (.ldc2_w 86, 3) := by decide +kernel
theorem dX8_withLetter_4 : decode cX8_withLetter 4 = .ok (.lmul, 1) := by decide +kernel
theorem dX8_withLetter_5 : decode cX8_withLetter 5 = .ok (.iload_n 2, 1) := by decide +kernel
theorem dX8_withLetter_6 : decode cX8_withLetter 6 = .ok (.bipush 97, 2) := by decide +kernel
theorem dX8_withLetter_8 : decode cX8_withLetter 8 = .ok (.isub, 1) := by decide +kernel
theorem dX8_withLetter_9 : decode cX8_withLetter 9 = .ok (.iconst 1, 1) := by decide +kernel
theorem dX8_withLetter_10 : decode cX8_withLetter 10 = .ok (.iadd, 1) := by decide +kernel
theorem dX8_withLetter_11 : decode cX8_withLetter 11 = .ok (.i2l, 1) := by decide +kernel
theorem dX8_withLetter_12 : decode cX8_withLetter 12 = .ok (.ladd, 1) := by decide +kernel
theorem dX8_withLetter_13 : decode cX8_withLetter 13 = .ok (.lreturn, 1) := by decide +kernel
theorem dX8_wordKind_0 : decode cX8_wordKind 0 = .ok (.iconst 0, 1) := by decide +kernel
theorem dX8_wordKind_1 : decode cX8_wordKind 1 = .ok (.istore_n 3, 1) := by decide +kernel
theorem dX8_wordKind_2 : decode cX8_wordKind 2 = .ok (.iload_n 3, 1) := by decide +kernel
theorem dX8_wordKind_3 : decode cX8_wordKind 3 = .ok (.aload_n 0, 1) := by decide +kernel
theorem dX8_wordKind_4 : decode cX8_wordKind 4 = .ok (.getfield 26, 3) := by decide +kernel
theorem dX8_wordKind_7 : decode cX8_wordKind 7 = .ok (.arraylength, 1) := by decide +kernel
theorem dX8_wordKind_8 : decode cX8_wordKind 8 = .ok (.if_icmp .ge 22, 3) := by decide +kernel
theorem dX8_wordKind_11 : decode cX8_wordKind 11 = .ok (.aload_n 0, 1) := by decide +kernel
theorem dX8_wordKind_12 : decode cX8_wordKind 12 = .ok (.getfield 26, 3) := by decide +kernel
theorem dX8_wordKind_15 : decode cX8_wordKind 15 = .ok (.iload_n 3, 1) := by decide +kernel
theorem dX8_wordKind_16 : decode cX8_wordKind 16 = .ok (.laload, 1) := by decide +kernel
theorem dX8_wordKind_17 : decode cX8_wordKind 17 = .ok (.lload_n 1, 1) := by decide +kernel
theorem dX8_wordKind_18 : decode cX8_wordKind 18 = .ok (.lcmp, 1) := by decide +kernel
theorem dX8_wordKind_19 : decode cX8_wordKind 19 = .ok (.ifCond .ne 5, 3) := by decide +kernel
theorem dX8_wordKind_22 : decode cX8_wordKind 22 = .ok (.iload_n 3, 1) := by decide +kernel
theorem dX8_wordKind_23 : decode cX8_wordKind 23 = .ok (.ireturn, 1) := by decide +kernel
theorem dX8_wordKind_24 : decode cX8_wordKind 24 = .ok (.iinc 3 1, 3) := by decide +kernel
theorem dX8_wordKind_27 : decode cX8_wordKind 27 = .ok (.goto (-25), 3) := by decide +kernel
theorem dX8_wordKind_30 : decode cX8_wordKind 30 = .ok (.bipush 23, 2) := by decide +kernel
theorem dX8_wordKind_32 : decode cX8_wordKind 32 = .ok (.ireturn, 1) := by decide +kernel
theorem dX8_markKind_0 : decode cX8_markKind 0 = .ok (.iload_n 1, 1) := by decide +kernel
theorem dX8_markKind_1 : decode cX8_markKind 1 = .ok (.bipush 61, 2) := by decide +kernel
theorem dX8_markKind_3 : decode cX8_markKind 3 = .ok (.if_icmp .ne 7, 3) := by decide +kernel
theorem dX8_markKind_6 : decode cX8_markKind 6 = .ok (.iconst 1, 1) := by decide +kernel
theorem dX8_markKind_7 : decode cX8_markKind 7 = .ok (.goto 4, 3) := by decide +kernel
theorem dX8_markKind_10 : decode cX8_markKind 10 = .ok (.iconst 0, 1) := by decide +kernel
theorem dX8_markKind_11 : decode cX8_markKind 11 = .ok (.istore_n 2, 1) := by decide +kernel
theorem dX8_markKind_12 : decode cX8_markKind 12 = .ok (.iload_n 0, 1) := by decide +kernel
theorem dX8_markKind_13 : decode cX8_markKind 13 = .ok (.tableswitch 185 33 61 #[146, 185, 185, 185, 185, 185, 185, 179, 182, 176, 170, 185, 173, 185, 185, 185, 185, 185, 185, 185, 185, 185, 185, 185, 185, 185, 131, 158, 134], 131) := by decide +kernel
theorem dX8_markKind_144 : decode cX8_markKind 144 = .ok (.bipush 25, 2) := by decide +kernel
theorem dX8_markKind_146 : decode cX8_markKind 146 = .ok (.ireturn, 1) := by decide +kernel
theorem dX8_markKind_147 : decode cX8_markKind 147 = .ok (.iload_n 2, 1) := by decide +kernel
theorem dX8_markKind_148 : decode cX8_markKind 148 = .ok (.ifCond .eq 8, 3) := by decide +kernel
theorem dX8_markKind_151 : decode cX8_markKind 151 = .ok (.bipush 30, 2) := by decide +kernel
theorem dX8_markKind_153 : decode cX8_markKind 153 = .ok (.goto 5, 3) := by decide +kernel
theorem dX8_markKind_156 : decode cX8_markKind 156 = .ok (.bipush 26, 2) := by decide +kernel
theorem dX8_markKind_158 : decode cX8_markKind 158 = .ok (.ireturn, 1) := by decide +kernel
theorem dX8_markKind_159 : decode cX8_markKind 159 = .ok (.iload_n 2, 1) := by decide +kernel
theorem dX8_markKind_160 : decode cX8_markKind 160 = .ok (.ifCond .eq 8, 3) := by decide +kernel
theorem dX8_markKind_163 : decode cX8_markKind 163 = .ok (.bipush 31, 2) := by decide +kernel
theorem dX8_markKind_165 : decode cX8_markKind 165 = .ok (.goto 5, 3) := by decide +kernel
theorem dX8_markKind_168 : decode cX8_markKind 168 = .ok (.bipush 37, 2) := by decide +kernel
theorem dX8_markKind_170 : decode cX8_markKind 170 = .ok (.ireturn, 1) := by decide +kernel
theorem dX8_markKind_171 : decode cX8_markKind 171 = .ok (.iload_n 2, 1) := by decide +kernel
theorem dX8_markKind_172 : decode cX8_markKind 172 = .ok (.ifCond .eq 8, 3) := by decide +kernel
theorem dX8_markKind_175 : decode cX8_markKind 175 = .ok (.bipush 33, 2) := by decide +kernel
theorem dX8_markKind_177 : decode cX8_markKind 177 = .ok (.goto 5, 3) := by decide +kernel
theorem dX8_markKind_180 : decode cX8_markKind 180 = .ok (.bipush 32, 2) := by decide +kernel
theorem dX8_markKind_182 : decode cX8_markKind 182 = .ok (.ireturn, 1) := by decide +kernel
theorem dX8_markKind_183 : decode cX8_markKind 183 = .ok (.bipush 27, 2) := by decide +kernel
theorem dX8_markKind_185 : decode cX8_markKind 185 = .ok (.ireturn, 1) := by decide +kernel
theorem dX8_markKind_186 : decode cX8_markKind 186 = .ok (.bipush 28, 2) := by decide +kernel
theorem dX8_markKind_188 : decode cX8_markKind 188 = .ok (.ireturn, 1) := by decide +kernel
theorem dX8_markKind_189 : decode cX8_markKind 189 = .ok (.bipush 29, 2) := by decide +kernel
theorem dX8_markKind_191 : decode cX8_markKind 191 = .ok (.ireturn, 1) := by decide +kernel
theorem dX8_markKind_192 : decode cX8_markKind 192 = .ok (.bipush 34, 2) := by decide +kernel
theorem dX8_markKind_194 : decode cX8_markKind 194 = .ok (.ireturn, 1) := by decide +kernel
theorem dX8_markKind_195 : decode cX8_markKind 195 = .ok (.bipush 35, 2) := by decide +kernel
theorem dX8_markKind_197 : decode cX8_markKind 197 = .ok (.ireturn, 1) := by decide +kernel
theorem dX8_markKind_198 : decode cX8_markKind 198 = .ok (.bipush 37, 2) := by decide +kernel
theorem dX8_markKind_200 : decode cX8_markKind 200 = .ok (.ireturn, 1) := by decide +kernel
theorem dX9_init_0 : decode cX9_init 0 = .ok (.aload_n 0, 1) := by decide +kernel
theorem dX9_init_1 : decode cX9_init 1 = .ok (.invokespecial 3, 3) := by decide +kernel
theorem dX9_init_4 : decode cX9_init 4 = .ok (.aload_n 0, 1) := by decide +kernel
theorem dX9_init_5 : decode cX9_init 5 = .ok (.iconst 0, 1) := by decide +kernel
theorem dX9_init_6 : decode cX9_init 6 = .ok (.putfield 9, 3) := by decide +kernel
theorem dX9_init_9 : decode cX9_init 9 = .ok (.aload_n 0, 1) := by decide +kernel
theorem dX9_init_10 : decode cX9_init 10 = .ok (.iconst 0, 1) := by decide +kernel
theorem dX9_init_11 : decode cX9_init 11 = .ok (.putfield 15, 3) := by decide +kernel
theorem dX9_init_14 : decode cX9_init 14 = .ok (.aload_n 0, 1) := by decide +kernel
theorem dX9_init_15 : decode cX9_init 15 = .ok (.iconst 0, 1) := by decide +kernel
theorem dX9_init_16 : decode cX9_init 16 = .ok (.putfield 18, 3) := by decide +kernel
theorem dX9_init_19 : decode cX9_init 19 = .ok (.aload_n 0, 1) := by decide +kernel
theorem dX9_init_20 : decode cX9_init 20 = .ok (.iconst 0, 1) := by decide +kernel
theorem dX9_init_21 : decode cX9_init 21 = .ok (.putfield 21, 3) := by decide +kernel
theorem dX9_init_24 : decode cX9_init 24 = .ok (.aload_n 0, 1) := by decide +kernel
theorem dX9_init_25 : decode cX9_init 25 = .ok (.iconst 0, 1) := by decide +kernel
theorem dX9_init_26 : decode cX9_init 26 = .ok (.putfield 24, 3) := by decide +kernel
theorem dX9_init_29 : decode cX9_init 29 = .ok (.aload_n 0, 1) := by decide +kernel
theorem dX9_init_30 : decode cX9_init 30 = .ok (.bipush 16, 2) := by decide +kernel
theorem dX9_init_32 : decode cX9_init 32 = .ok (.newarray .int, 2) := by decide +kernel
theorem dX9_init_34 : decode cX9_init 34 = .ok (.putfield 27, 3) := by decide +kernel
theorem dX9_init_37 : decode cX9_init 37 = .ok (.aload_n 0, 1) := by decide +kernel
theorem dX9_init_38 : decode cX9_init 38 = .ok (.bipush 40, 2) := by decide +kernel
theorem dX9_init_40 : decode cX9_init 40 = .ok (.newarray .int, 2) := by decide +kernel
theorem dX9_init_42 : decode cX9_init 42 = .ok (.putfield 31, 3) := by decide +kernel
theorem dX9_init_45 : decode cX9_init 45 = .ok (.aload_n 0, 1) := by decide +kernel
theorem dX9_init_46 : decode cX9_init 46 = .ok (.bipush 40, 2) := by decide +kernel
theorem dX9_init_48 : decode cX9_init 48 = .ok (.newarray .int, 2) := by decide +kernel
theorem dX9_init_50 : decode cX9_init 50 = .ok (.putfield 34, 3) := by decide +kernel
theorem dX9_init_53 : decode cX9_init 53 = .ok (.aload_n 0, 1) := by decide +kernel
theorem dX9_init_54 : decode cX9_init 54 = .ok (.bipush 40, 2) := by decide +kernel
theorem dX9_init_56 : decode cX9_init 56 = .ok (.newarray .int, 2) := by decide +kernel
theorem dX9_init_58 : decode cX9_init 58 = .ok (.putfield 37, 3) := by decide +kernel
theorem dX9_init_61 : decode cX9_init 61 = .ok (.aload_n 0, 1) := by decide +kernel
theorem dX9_init_62 : decode cX9_init 62 = .ok (.bipush 26, 2) := by decide +kernel
theorem dX9_init_64 : decode cX9_init 64 = .ok (.newarray .int, 2) := by decide +kernel
theorem dX9_init_66 : decode cX9_init 66 = .ok (.putfield 40, 3) := by decide +kernel
theorem dX9_init_69 : decode cX9_init 69 = .ok (.aload_n 0, 1) := by decide +kernel
theorem dX9_init_70 : decode cX9_init 70 = .ok (.bipush 26, 2) := by decide +kernel
theorem dX9_init_72 : decode cX9_init 72 = .ok (.newarray .int, 2) := by decide +kernel
theorem dX9_init_74 : decode cX9_init 74 = .ok (.putfield 43, 3) := by decide +kernel
theorem dX9_init_77 : decode cX9_init 77 = .ok (.aload_n 0, 1) := by decide +kernel
theorem dX9_init_78 : decode cX9_init 78 = .ok (.sipush 400, 3) := by decide +kernel
theorem dX9_init_81 : decode cX9_init 81 = .ok (.newarray .int, 2) := by decide +kernel
theorem dX9_init_83 : decode cX9_init 83 = .ok (.putfield 46, 3) := by decide +kernel
theorem dX9_init_86 : decode cX9_init 86 = .ok (.aload_n 0, 1) := by decide +kernel
theorem dX9_init_87 : decode cX9_init 87 = .ok (.sipush 400, 3) := by decide +kernel
theorem dX9_init_90 : decode cX9_init 90 = .ok (.newarray .int, 2) := by decide +kernel
theorem dX9_init_92 : decode cX9_init 92 = .ok (.putfield 49, 3) := by decide +kernel
theorem dX9_init_95 : decode cX9_init 95 = .ok (.aload_n 0, 1) := by decide +kernel
theorem dX9_init_96 : decode cX9_init 96 = .ok (.iconst 0, 1) := by decide +kernel
theorem dX9_init_97 : decode cX9_init 97 = .ok (.putfield 52, 3) := by decide +kernel
theorem dX9_init_100 : decode cX9_init 100 = .ok (.return_, 1) := by decide +kernel
theorem dX9_clear_0 : decode cX9_clear 0 = .ok (.aload_n 0, 1) := by decide +kernel
theorem dX9_clear_1 : decode cX9_clear 1 = .ok (.iconst 0, 1) := by decide +kernel
theorem dX9_clear_2 : decode cX9_clear 2 = .ok (.putfield 9, 3) := by decide +kernel
theorem dX9_clear_5 : decode cX9_clear 5 = .ok (.aload_n 0, 1) := by decide +kernel
theorem dX9_clear_6 : decode cX9_clear 6 = .ok (.iconst 0, 1) := by decide +kernel
theorem dX9_clear_7 : decode cX9_clear 7 = .ok (.putfield 15, 3) := by decide +kernel
theorem dX9_clear_10 : decode cX9_clear 10 = .ok (.aload_n 0, 1) := by decide +kernel
theorem dX9_clear_11 : decode cX9_clear 11 = .ok (.iconst 0, 1) := by decide +kernel
theorem dX9_clear_12 : decode cX9_clear 12 = .ok (.putfield 18, 3) := by decide +kernel
theorem dX9_clear_15 : decode cX9_clear 15 = .ok (.aload_n 0, 1) := by decide +kernel
theorem dX9_clear_16 : decode cX9_clear 16 = .ok (.iconst 0, 1) := by decide +kernel
theorem dX9_clear_17 : decode cX9_clear 17 = .ok (.putfield 21, 3) := by decide +kernel
theorem dX9_clear_20 : decode cX9_clear 20 = .ok (.aload_n 0, 1) := by decide +kernel
theorem dX9_clear_21 : decode cX9_clear 21 = .ok (.iconst 0, 1) := by decide +kernel
theorem dX9_clear_22 : decode cX9_clear 22 = .ok (.putfield 24, 3) := by decide +kernel
theorem dX9_clear_25 : decode cX9_clear 25 = .ok (.aload_n 0, 1) := by decide +kernel
theorem dX9_clear_26 : decode cX9_clear 26 = .ok (.iconst 0, 1) := by decide +kernel
theorem dX9_clear_27 : decode cX9_clear 27 = .ok (.putfield 52, 3) := by decide +kernel
theorem dX9_clear_30 : decode cX9_clear 30 = .ok (.return_, 1) := by decide +kernel
theorem dX9_addStep_0 : decode cX9_addStep 0 = .ok (.aload_n 0, 1) := by decide +kernel
theorem dX9_addStep_1 : decode cX9_addStep 1 = .ok (.getfield 52, 3) := by decide +kernel
theorem dX9_addStep_4 : decode cX9_addStep 4 = .ok (.sipush 400, 3) := by decide +kernel
theorem dX9_addStep_7 : decode cX9_addStep 7 = .ok (.if_icmp .ge 33, 3) := by decide +kernel
theorem dX9_addStep_10 : decode cX9_addStep 10 = .ok (.aload_n 0, 1) := by decide +kernel
theorem dX9_addStep_11 : decode cX9_addStep 11 = .ok (.getfield 46, 3) := by decide +kernel
theorem dX9_addStep_14 : decode cX9_addStep 14 = .ok (.aload_n 0, 1) := by decide +kernel
theorem dX9_addStep_15 : decode cX9_addStep 15 = .ok (.getfield 52, 3) := by decide +kernel
theorem dX9_addStep_18 : decode cX9_addStep 18 = .ok (.iload_n 1, 1) := by decide +kernel
theorem dX9_addStep_19 : decode cX9_addStep 19 = .ok (.iastore, 1) := by decide +kernel
theorem dX9_addStep_20 : decode cX9_addStep 20 = .ok (.aload_n 0, 1) := by decide +kernel
theorem dX9_addStep_21 : decode cX9_addStep 21 = .ok (.getfield 49, 3) := by decide +kernel
theorem dX9_addStep_24 : decode cX9_addStep 24 = .ok (.aload_n 0, 1) := by decide +kernel
theorem dX9_addStep_25 : decode cX9_addStep 25 = .ok (.getfield 52, 3) := by decide +kernel
theorem dX9_addStep_28 : decode cX9_addStep 28 = .ok (.iload_n 2, 1) := by decide +kernel
theorem dX9_addStep_29 : decode cX9_addStep 29 = .ok (.iastore, 1) := by decide +kernel
theorem dX9_addStep_30 : decode cX9_addStep 30 = .ok (.aload_n 0, 1) := by decide +kernel
theorem dX9_addStep_31 : decode cX9_addStep 31 = .ok (.dup, 1) := by decide +kernel
theorem dX9_addStep_32 : decode cX9_addStep 32 = .ok (.getfield 52, 3) := by decide +kernel
theorem dX9_addStep_35 : decode cX9_addStep 35 = .ok (.iconst 1, 1) := by decide +kernel
theorem dX9_addStep_36 : decode cX9_addStep 36 = .ok (.iadd, 1) := by decide +kernel
theorem dX9_addStep_37 : decode cX9_addStep 37 = .ok (.putfield 52, 3) := by decide +kernel
theorem dX9_addStep_40 : decode cX9_addStep 40 = .ok (.return_, 1) := by decide +kernel
theorem dX9_startFormula_0 : decode cX9_startFormula 0 = .ok (.iload_n 1, 1) := by decide +kernel
theorem dX9_startFormula_1 : decode cX9_startFormula 1 = .ok (.iconst 0, 1) := by decide +kernel
theorem dX9_startFormula_2 : decode cX9_startFormula 2 = .ok (.bipush 25, 2) := by decide +kernel
theorem dX9_startFormula_4 : decode cX9_startFormula 4 = .ok (.invokestatic 55, 3) := by decide +kernel
theorem dX9_startFormula_7 : decode cX9_startFormula 7 = .ok (.ifCond .eq 13, 3) := by decide +kernel
theorem dX9_startFormula_10 : decode cX9_startFormula 10 = .ok (.aload_n 0, 1) := by decide +kernel
theorem dX9_startFormula_11 : decode cX9_startFormula 11 = .ok (.getfield 40, 3) := by decide +kernel
theorem dX9_startFormula_14 : decode cX9_startFormula 14 = .ok (.iload_n 1, 1) := by decide +kernel
theorem dX9_startFormula_15 : decode cX9_startFormula 15 = .ok (.aload_n 0, 1) := by decide +kernel
theorem dX9_startFormula_16 : decode cX9_startFormula 16 = .ok (.getfield 52, 3) := by decide +kernel
theorem dX9_startFormula_19 : decode cX9_startFormula 19 = .ok (.iastore, 1) := by decide +kernel
theorem dX9_startFormula_20 : decode cX9_startFormula 20 = .ok (.return_, 1) := by decide +kernel
theorem dX9_endFormula_0 : decode cX9_endFormula 0 = .ok (.iload_n 1, 1) := by decide +kernel
theorem dX9_endFormula_1 : decode cX9_endFormula 1 = .ok (.iconst 0, 1) := by decide +kernel
theorem dX9_endFormula_2 : decode cX9_endFormula 2 = .ok (.bipush 25, 2) := by decide +kernel
theorem dX9_endFormula_4 : decode cX9_endFormula 4 = .ok (.invokestatic 55, 3) := by decide +kernel
theorem dX9_endFormula_7 : decode cX9_endFormula 7 = .ok (.ifCond .eq 13, 3) := by decide +kernel
theorem dX9_endFormula_10 : decode cX9_endFormula 10 = .ok (.aload_n 0, 1) := by decide +kernel
theorem dX9_endFormula_11 : decode cX9_endFormula 11 = .ok (.getfield 43, 3) := by decide +kernel
theorem dX9_endFormula_14 : decode cX9_endFormula 14 = .ok (.iload_n 1, 1) := by decide +kernel
theorem dX9_endFormula_15 : decode cX9_endFormula 15 = .ok (.aload_n 0, 1) := by decide +kernel
theorem dX9_endFormula_16 : decode cX9_endFormula 16 = .ok (.getfield 52, 3) := by decide +kernel
theorem dX9_endFormula_19 : decode cX9_endFormula 19 = .ok (.iastore, 1) := by decide +kernel
theorem dX9_endFormula_20 : decode cX9_endFormula 20 = .ok (.return_, 1) := by decide +kernel
theorem dX9_addWhen_0 : decode cX9_addWhen 0 = .ok (.aload_n 0, 1) := by decide +kernel
theorem dX9_addWhen_1 : decode cX9_addWhen 1 = .ok (.getfield 21, 3) := by decide +kernel
theorem dX9_addWhen_4 : decode cX9_addWhen 4 = .ok (.bipush 40, 2) := by decide +kernel
theorem dX9_addWhen_6 : decode cX9_addWhen 6 = .ok (.if_icmp .ge 43, 3) := by decide +kernel
theorem dX9_addWhen_9 : decode cX9_addWhen 9 = .ok (.aload_n 0, 1) := by decide +kernel
theorem dX9_addWhen_10 : decode cX9_addWhen 10 = .ok (.getfield 31, 3) := by decide +kernel
theorem dX9_addWhen_13 : decode cX9_addWhen 13 = .ok (.aload_n 0, 1) := by decide +kernel
theorem dX9_addWhen_14 : decode cX9_addWhen 14 = .ok (.getfield 21, 3) := by decide +kernel
theorem dX9_addWhen_17 : decode cX9_addWhen 17 = .ok (.iload_n 1, 1) := by decide +kernel
theorem dX9_addWhen_18 : decode cX9_addWhen 18 = .ok (.iastore, 1) := by decide +kernel
theorem dX9_addWhen_19 : decode cX9_addWhen 19 = .ok (.aload_n 0, 1) := by decide +kernel
theorem dX9_addWhen_20 : decode cX9_addWhen 20 = .ok (.getfield 34, 3) := by decide +kernel
theorem dX9_addWhen_23 : decode cX9_addWhen 23 = .ok (.aload_n 0, 1) := by decide +kernel
theorem dX9_addWhen_24 : decode cX9_addWhen 24 = .ok (.getfield 21, 3) := by decide +kernel
theorem dX9_addWhen_27 : decode cX9_addWhen 27 = .ok (.iload_n 2, 1) := by decide +kernel
theorem dX9_addWhen_28 : decode cX9_addWhen 28 = .ok (.iastore, 1) := by decide +kernel
theorem dX9_addWhen_29 : decode cX9_addWhen 29 = .ok (.aload_n 0, 1) := by decide +kernel
theorem dX9_addWhen_30 : decode cX9_addWhen 30 = .ok (.getfield 37, 3) := by decide +kernel
theorem dX9_addWhen_33 : decode cX9_addWhen 33 = .ok (.aload_n 0, 1) := by decide +kernel
theorem dX9_addWhen_34 : decode cX9_addWhen 34 = .ok (.getfield 21, 3) := by decide +kernel
theorem dX9_addWhen_37 : decode cX9_addWhen 37 = .ok (.iload_n 3, 1) := by decide +kernel
theorem dX9_addWhen_38 : decode cX9_addWhen 38 = .ok (.iastore, 1) := by decide +kernel
theorem dX9_addWhen_39 : decode cX9_addWhen 39 = .ok (.aload_n 0, 1) := by decide +kernel
theorem dX9_addWhen_40 : decode cX9_addWhen 40 = .ok (.dup, 1) := by decide +kernel
theorem dX9_addWhen_41 : decode cX9_addWhen 41 = .ok (.getfield 21, 3) := by decide +kernel
theorem dX9_addWhen_44 : decode cX9_addWhen 44 = .ok (.iconst 1, 1) := by decide +kernel
theorem dX9_addWhen_45 : decode cX9_addWhen 45 = .ok (.iadd, 1) := by decide +kernel
theorem dX9_addWhen_46 : decode cX9_addWhen 46 = .ok (.putfield 21, 3) := by decide +kernel
theorem dX9_addWhen_49 : decode cX9_addWhen 49 = .ok (.return_, 1) := by decide +kernel
theorem dX9_hasWhen_0 : decode cX9_hasWhen 0 = .ok (.iconst 0, 1) := by decide +kernel
theorem dX9_hasWhen_1 : decode cX9_hasWhen 1 = .ok (.istore 4, 2) := by decide +kernel
theorem dX9_hasWhen_3 : decode cX9_hasWhen 3 = .ok (.iload 4, 2) := by decide +kernel
theorem dX9_hasWhen_5 : decode cX9_hasWhen 5 = .ok (.aload_n 0, 1) := by decide +kernel
theorem dX9_hasWhen_6 : decode cX9_hasWhen 6 = .ok (.getfield 21, 3) := by decide +kernel
theorem dX9_hasWhen_9 : decode cX9_hasWhen 9 = .ok (.if_icmp .ge 44, 3) := by decide +kernel
theorem dX9_hasWhen_12 : decode cX9_hasWhen 12 = .ok (.aload_n 0, 1) := by decide +kernel
theorem dX9_hasWhen_13 : decode cX9_hasWhen 13 = .ok (.getfield 31, 3) := by decide +kernel
theorem dX9_hasWhen_16 : decode cX9_hasWhen 16 = .ok (.iload 4, 2) := by decide +kernel
theorem dX9_hasWhen_18 : decode cX9_hasWhen 18 = .ok (.iaload, 1) := by decide +kernel
theorem dX9_hasWhen_19 : decode cX9_hasWhen 19 = .ok (.iload_n 1, 1) := by decide +kernel
theorem dX9_hasWhen_20 : decode cX9_hasWhen 20 = .ok (.if_icmp .ne 27, 3) := by decide +kernel
theorem dX9_hasWhen_23 : decode cX9_hasWhen 23 = .ok (.aload_n 0, 1) := by decide +kernel
theorem dX9_hasWhen_24 : decode cX9_hasWhen 24 = .ok (.getfield 34, 3) := by decide +kernel
theorem dX9_hasWhen_27 : decode cX9_hasWhen 27 = .ok (.iload 4, 2) := by decide +kernel
theorem dX9_hasWhen_29 : decode cX9_hasWhen 29 = .ok (.iaload, 1) := by decide +kernel
theorem dX9_hasWhen_30 : decode cX9_hasWhen 30 = .ok (.iload_n 2, 1) := by decide +kernel
theorem dX9_hasWhen_31 : decode cX9_hasWhen 31 = .ok (.if_icmp .ne 16, 3) := by decide +kernel
theorem dX9_hasWhen_34 : decode cX9_hasWhen 34 = .ok (.aload_n 0, 1) := by decide +kernel
theorem dX9_hasWhen_35 : decode cX9_hasWhen 35 = .ok (.getfield 37, 3) := by decide +kernel
theorem dX9_hasWhen_38 : decode cX9_hasWhen 38 = .ok (.iload 4, 2) := by decide +kernel
theorem dX9_hasWhen_40 : decode cX9_hasWhen 40 = .ok (.iaload, 1) := by decide +kernel
theorem dX9_hasWhen_41 : decode cX9_hasWhen 41 = .ok (.iload_n 3, 1) := by decide +kernel
theorem dX9_hasWhen_42 : decode cX9_hasWhen 42 = .ok (.if_icmp .ne 5, 3) := by decide +kernel
theorem dX9_hasWhen_45 : decode cX9_hasWhen 45 = .ok (.iconst 1, 1) := by decide +kernel
theorem dX9_hasWhen_46 : decode cX9_hasWhen 46 = .ok (.ireturn, 1) := by decide +kernel
theorem dX9_hasWhen_47 : decode cX9_hasWhen 47 = .ok (.iinc 4 1, 3) := by decide +kernel
theorem dX9_hasWhen_50 : decode cX9_hasWhen 50 = .ok (.goto (-47), 3) := by decide +kernel
theorem dX9_hasWhen_53 : decode cX9_hasWhen 53 = .ok (.iconst 0, 1) := by decide +kernel
theorem dX9_hasWhen_54 : decode cX9_hasWhen 54 = .ok (.ireturn, 1) := by decide +kernel
theorem dX9_paperOf_0 : decode cX9_paperOf 0 = .ok (.iconst 0, 1) := by decide +kernel
theorem dX9_paperOf_1 : decode cX9_paperOf 1 = .ok (.istore_n 3, 1) := by decide +kernel
theorem dX9_paperOf_2 : decode cX9_paperOf 2 = .ok (.iconst 0, 1) := by decide +kernel
theorem dX9_paperOf_3 : decode cX9_paperOf 3 = .ok (.istore 4, 2) := by decide +kernel
theorem dX9_paperOf_5 : decode cX9_paperOf 5 = .ok (.iload 4, 2) := by decide +kernel
theorem dX9_paperOf_7 : decode cX9_paperOf 7 = .ok (.aload_n 0, 1) := by decide +kernel
theorem dX9_paperOf_8 : decode cX9_paperOf 8 = .ok (.getfield 21, 3) := by decide +kernel
theorem dX9_paperOf_11 : decode cX9_paperOf 11 = .ok (.if_icmp .ge 47, 3) := by decide +kernel
theorem dX9_paperOf_14 : decode cX9_paperOf 14 = .ok (.aload_n 0, 1) := by decide +kernel
theorem dX9_paperOf_15 : decode cX9_paperOf 15 = .ok (.getfield 31, 3) := by decide +kernel
theorem dX9_paperOf_18 : decode cX9_paperOf 18 = .ok (.iload 4, 2) := by decide +kernel
theorem dX9_paperOf_20 : decode cX9_paperOf 20 = .ok (.iaload, 1) := by decide +kernel
theorem dX9_paperOf_21 : decode cX9_paperOf 21 = .ok (.iload_n 1, 1) := by decide +kernel
theorem dX9_paperOf_22 : decode cX9_paperOf 22 = .ok (.if_icmp .ne 30, 3) := by decide +kernel
theorem dX9_paperOf_25 : decode cX9_paperOf 25 = .ok (.iload_n 2, 1) := by decide +kernel
theorem dX9_paperOf_26 : decode cX9_paperOf 26 = .ok (.aload_n 0, 1) := by decide +kernel
theorem dX9_paperOf_27 : decode cX9_paperOf 27 = .ok (.getfield 34, 3) := by decide +kernel
theorem dX9_paperOf_30 : decode cX9_paperOf 30 = .ok (.iload 4, 2) := by decide +kernel
theorem dX9_paperOf_32 : decode cX9_paperOf 32 = .ok (.iaload, 1) := by decide +kernel
theorem dX9_paperOf_33 : decode cX9_paperOf 33 = .ok (.invokestatic 59, 3) := by decide +kernel
theorem dX9_paperOf_36 : decode cX9_paperOf 36 = .ok (.iconst 1, 1) := by decide +kernel
theorem dX9_paperOf_37 : decode cX9_paperOf 37 = .ok (.if_icmp .ne 15, 3) := by decide +kernel
theorem dX9_paperOf_40 : decode cX9_paperOf 40 = .ok (.iload_n 3, 1) := by decide +kernel
theorem dX9_paperOf_41 : decode cX9_paperOf 41 = .ok (.iconst 1, 1) := by decide +kernel
theorem dX9_paperOf_42 : decode cX9_paperOf 42 = .ok (.aload_n 0, 1) := by decide +kernel
theorem dX9_paperOf_43 : decode cX9_paperOf 43 = .ok (.getfield 37, 3) := by decide +kernel
theorem dX9_paperOf_46 : decode cX9_paperOf 46 = .ok (.iload 4, 2) := by decide +kernel
theorem dX9_paperOf_48 : decode cX9_paperOf 48 = .ok (.iaload, 1) := by decide +kernel
theorem dX9_paperOf_49 : decode cX9_paperOf 49 = .ok (.ishl, 1) := by decide +kernel
theorem dX9_paperOf_50 : decode cX9_paperOf 50 = .ok (.ior, 1) := by decide +kernel
theorem dX9_paperOf_51 : decode cX9_paperOf 51 = .ok (.istore_n 3, 1) := by decide +kernel
theorem dX9_paperOf_52 : decode cX9_paperOf 52 = .ok (.iinc 4 1, 3) := by decide +kernel
theorem dX9_paperOf_55 : decode cX9_paperOf 55 = .ok (.goto (-50), 3) := by decide +kernel
theorem dX9_paperOf_58 : decode cX9_paperOf 58 = .ok (.iload_n 3, 1) := by decide +kernel
theorem dX9_paperOf_59 : decode cX9_paperOf 59 = .ok (.ireturn, 1) := by decide +kernel
theorem dX9_withoutSorts_0 : decode cX9_withoutSorts 0 = .ok (.iconst 0, 1) := by decide +kernel
theorem dX9_withoutSorts_1 : decode cX9_withoutSorts 1 = .ok (.istore_n 3, 1) := by decide +kernel
theorem dX9_withoutSorts_2 : decode cX9_withoutSorts 2 = .ok (.iconst 0, 1) := by decide +kernel
theorem dX9_withoutSorts_3 : decode cX9_withoutSorts 3 = .ok (.istore 4, 2) := by decide +kernel
theorem dX9_withoutSorts_5 : decode cX9_withoutSorts 5 = .ok (.iload 4, 2) := by decide +kernel
theorem dX9_withoutSorts_7 : decode cX9_withoutSorts 7 = .ok (.aload_n 0, 1) := by decide +kernel
theorem dX9_withoutSorts_8 : decode cX9_withoutSorts 8 = .ok (.getfield 15, 3) := by decide +kernel
theorem dX9_withoutSorts_11 : decode cX9_withoutSorts 11 = .ok (.if_icmp .ge 32, 3) := by decide +kernel
theorem dX9_withoutSorts_14 : decode cX9_withoutSorts 14 = .ok (.iload_n 2, 1) := by decide +kernel
theorem dX9_withoutSorts_15 : decode cX9_withoutSorts 15 = .ok (.aload_n 0, 1) := by decide +kernel
theorem dX9_withoutSorts_16 : decode cX9_withoutSorts 16 = .ok (.getfield 27, 3) := by decide +kernel
theorem dX9_withoutSorts_19 : decode cX9_withoutSorts 19 = .ok (.iload 4, 2) := by decide +kernel
theorem dX9_withoutSorts_21 : decode cX9_withoutSorts 21 = .ok (.iaload, 1) := by decide +kernel
theorem dX9_withoutSorts_22 : decode cX9_withoutSorts 22 = .ok (.invokestatic 59, 3) := by decide +kernel
theorem dX9_withoutSorts_25 : decode cX9_withoutSorts 25 = .ok (.ifCond .ne 12, 3) := by decide +kernel
theorem dX9_withoutSorts_28 : decode cX9_withoutSorts 28 = .ok (.iload_n 3, 1) := by decide +kernel
theorem dX9_withoutSorts_29 : decode cX9_withoutSorts 29 = .ok (.iload_n 1, 1) := by decide +kernel
theorem dX9_withoutSorts_30 : decode cX9_withoutSorts 30 = .ok (.iconst 1, 1) := by decide +kernel
theorem dX9_withoutSorts_31 : decode cX9_withoutSorts 31 = .ok (.iload 4, 2) := by decide +kernel
theorem dX9_withoutSorts_33 : decode cX9_withoutSorts 33 = .ok (.ishl, 1) := by decide +kernel
theorem dX9_withoutSorts_34 : decode cX9_withoutSorts 34 = .ok (.iand, 1) := by decide +kernel
theorem dX9_withoutSorts_35 : decode cX9_withoutSorts 35 = .ok (.ior, 1) := by decide +kernel
theorem dX9_withoutSorts_36 : decode cX9_withoutSorts 36 = .ok (.istore_n 3, 1) := by decide +kernel
theorem dX9_withoutSorts_37 : decode cX9_withoutSorts 37 = .ok (.iinc 4 1, 3) := by decide +kernel
theorem dX9_withoutSorts_40 : decode cX9_withoutSorts 40 = .ok (.goto (-35), 3) := by decide +kernel
theorem dX9_withoutSorts_43 : decode cX9_withoutSorts 43 = .ok (.iload_n 3, 1) := by decide +kernel
theorem dX9_withoutSorts_44 : decode cX9_withoutSorts 44 = .ok (.ireturn, 1) := by decide +kernel
theorem dX10_init_0 : decode cX10_init 0 = .ok (.aload_n 0, 1) := by decide +kernel
theorem dX10_init_1 : decode cX10_init 1 = .ok (.invokespecial 1, 3) := by decide +kernel
theorem dX10_init_4 : decode cX10_init 4 = .ok (.aload_n 0, 1) := by decide +kernel
theorem dX10_init_5 : decode cX10_init 5 = .ok (.new 7, 3) := by decide +kernel
theorem dX10_init_8 : decode cX10_init 8 = .ok (.dup, 1) := by decide +kernel
theorem dX10_init_9 : decode cX10_init 9 = .ok (.invokespecial 9, 3) := by decide +kernel
theorem dX10_init_12 : decode cX10_init 12 = .ok (.putfield 10, 3) := by decide +kernel
theorem dX10_init_15 : decode cX10_init 15 = .ok (.aload_n 0, 1) := by decide +kernel
theorem dX10_init_16 : decode cX10_init 16 = .ok (.new 16, 3) := by decide +kernel
theorem dX10_init_19 : decode cX10_init 19 = .ok (.dup, 1) := by decide +kernel
theorem dX10_init_20 : decode cX10_init 20 = .ok (.invokespecial 18, 3) := by decide +kernel
theorem dX10_init_23 : decode cX10_init 23 = .ok (.putfield 19, 3) := by decide +kernel
theorem dX10_init_26 : decode cX10_init 26 = .ok (.aload_n 0, 1) := by decide +kernel
theorem dX10_init_27 : decode cX10_init 27 = .ok (.new 23, 3) := by decide +kernel
theorem dX10_init_30 : decode cX10_init 30 = .ok (.dup, 1) := by decide +kernel
theorem dX10_init_31 : decode cX10_init 31 = .ok (.invokespecial 25, 3) := by decide +kernel
theorem dX10_init_34 : decode cX10_init 34 = .ok (.putfield 26, 3) := by decide +kernel
theorem dX10_init_37 : decode cX10_init 37 = .ok (.aload_n 0, 1) := by decide +kernel
theorem dX10_init_38 : decode cX10_init 38 = .ok (.new 30, 3) := by decide +kernel
theorem dX10_init_41 : decode cX10_init 41 = .ok (.dup, 1) := by decide +kernel
theorem dX10_init_42 : decode cX10_init 42 = .ok (.aload_n 0, 1) := by decide +kernel
theorem dX10_init_43 : decode cX10_init 43 = .ok (.getfield 26, 3) := by decide +kernel
theorem dX10_init_46 : decode cX10_init 46 = .ok (.invokespecial 32, 3) := by decide +kernel
theorem dX10_init_49 : decode cX10_init 49 = .ok (.putfield 35, 3) := by decide +kernel
theorem dX10_init_52 : decode cX10_init 52 = .ok (.aload_n 0, 1) := by decide +kernel
theorem dX10_init_53 : decode cX10_init 53 = .ok (.new 39, 3) := by decide +kernel
theorem dX10_init_56 : decode cX10_init 56 = .ok (.dup, 1) := by decide +kernel
theorem dX10_init_57 : decode cX10_init 57 = .ok (.invokespecial 41, 3) := by decide +kernel
theorem dX10_init_60 : decode cX10_init 60 = .ok (.putfield 42, 3) := by decide +kernel
theorem dX10_init_63 : decode cX10_init 63 = .ok (.aload_n 0, 1) := by decide +kernel
theorem dX10_init_64 : decode cX10_init 64 = .ok (.new 46, 3) := by decide +kernel
theorem dX10_init_67 : decode cX10_init 67 = .ok (.dup, 1) := by decide +kernel
theorem dX10_init_68 : decode cX10_init 68 = .ok (.invokespecial 48, 3) := by decide +kernel
theorem dX10_init_71 : decode cX10_init 71 = .ok (.putfield 49, 3) := by decide +kernel
theorem dX10_init_74 : decode cX10_init 74 = .ok (.aload_n 0, 1) := by decide +kernel
theorem dX10_init_75 : decode cX10_init 75 = .ok (.new 53, 3) := by decide +kernel
theorem dX10_init_78 : decode cX10_init 78 = .ok (.dup, 1) := by decide +kernel
theorem dX10_init_79 : decode cX10_init 79 = .ok (.invokespecial 55, 3) := by decide +kernel
theorem dX10_init_82 : decode cX10_init 82 = .ok (.putfield 56, 3) := by decide +kernel
theorem dX10_init_85 : decode cX10_init 85 = .ok (.return_, 1) := by decide +kernel
theorem dX10_feed_0 : decode cX10_feed 0 = .ok (.aload_n 0, 1) := by decide +kernel
theorem dX10_feed_1 : decode cX10_feed 1 = .ok (.getfield 10, 3) := by decide +kernel
theorem dX10_feed_4 : decode cX10_feed 4 = .ok (.getfield 60, 3) := by decide +kernel
theorem dX10_feed_7 : decode cX10_feed 7 = .ok (.bipush 20, 2) := by decide +kernel
theorem dX10_feed_9 : decode cX10_feed 9 = .ok (.iadd, 1) := by decide +kernel
theorem dX10_feed_10 : decode cX10_feed 10 = .ok (.sipush 2000, 3) := by decide +kernel
theorem dX10_feed_13 : decode cX10_feed 13 = .ok (.if_icmp .le 5, 3) := by decide +kernel
theorem dX10_feed_16 : decode cX10_feed 16 = .ok (.iconst (-1), 1) := by decide +kernel
theorem dX10_feed_17 : decode cX10_feed 17 = .ok (.ireturn, 1) := by decide +kernel
theorem dX10_feed_18 : decode cX10_feed 18 = .ok (.aload_n 0, 1) := by decide +kernel
theorem dX10_feed_19 : decode cX10_feed 19 = .ok (.getfield 10, 3) := by decide +kernel
theorem dX10_feed_22 : decode cX10_feed 22 = .ok (.iload_n 1, 1) := by decide +kernel
theorem dX10_feed_23 : decode cX10_feed 23 = .ok (.invokevirtual 64, 3) := by decide +kernel
theorem dX10_feed_26 : decode cX10_feed 26 = .ok (.aload_n 0, 1) := by decide +kernel
theorem dX10_feed_27 : decode cX10_feed 27 = .ok (.getfield 10, 3) := by decide +kernel
theorem dX10_feed_30 : decode cX10_feed 30 = .ok (.iload_n 2, 1) := by decide +kernel
theorem dX10_feed_31 : decode cX10_feed 31 = .ok (.invokevirtual 64, 3) := by decide +kernel
theorem dX10_feed_34 : decode cX10_feed 34 = .ok (.aload_n 0, 1) := by decide +kernel
theorem dX10_feed_35 : decode cX10_feed 35 = .ok (.getfield 10, 3) := by decide +kernel
theorem dX10_feed_38 : decode cX10_feed 38 = .ok (.iload_n 3, 1) := by decide +kernel
theorem dX10_feed_39 : decode cX10_feed 39 = .ok (.invokevirtual 64, 3) := by decide +kernel
theorem dX10_feed_42 : decode cX10_feed 42 = .ok (.aload_n 0, 1) := by decide +kernel
theorem dX10_feed_43 : decode cX10_feed 43 = .ok (.getfield 10, 3) := by decide +kernel
theorem dX10_feed_46 : decode cX10_feed 46 = .ok (.iload 4, 2) := by decide +kernel
theorem dX10_feed_48 : decode cX10_feed 48 = .ok (.invokevirtual 64, 3) := by decide +kernel
theorem dX10_feed_51 : decode cX10_feed 51 = .ok (.aload_n 0, 1) := by decide +kernel
theorem dX10_feed_52 : decode cX10_feed 52 = .ok (.getfield 10, 3) := by decide +kernel
theorem dX10_feed_55 : decode cX10_feed 55 = .ok (.iload 5, 2) := by decide +kernel
theorem dX10_feed_57 : decode cX10_feed 57 = .ok (.invokevirtual 64, 3) := by decide +kernel
theorem dX10_feed_60 : decode cX10_feed 60 = .ok (.aload_n 0, 1) := by decide +kernel
theorem dX10_feed_61 : decode cX10_feed 61 = .ok (.getfield 10, 3) := by decide +kernel
theorem dX10_feed_64 : decode cX10_feed 64 = .ok (.getfield 60, 3) := by decide +kernel
theorem dX10_feed_67 : decode cX10_feed 67 = .ok (.ireturn, 1) := by decide +kernel
theorem dX10_back_0 : decode cX10_back 0 = .ok (.iload_n 1, 1) := by decide +kernel
theorem dX10_back_1 : decode cX10_back 1 = .ok (.ifCond .lt 14, 3) := by decide +kernel
theorem dX10_back_4 : decode cX10_back 4 = .ok (.iload_n 1, 1) := by decide +kernel
theorem dX10_back_5 : decode cX10_back 5 = .ok (.aload_n 0, 1) := by decide +kernel
theorem dX10_back_6 : decode cX10_back 6 = .ok (.getfield 10, 3) := by decide +kernel
theorem dX10_back_9 : decode cX10_back 9 = .ok (.getfield 60, 3) := by decide +kernel
theorem dX10_back_12 : decode cX10_back 12 = .ok (.if_icmp .le 5, 3) := by decide +kernel
theorem dX10_back_15 : decode cX10_back 15 = .ok (.iconst (-1), 1) := by decide +kernel
theorem dX10_back_16 : decode cX10_back 16 = .ok (.ireturn, 1) := by decide +kernel
theorem dX10_back_17 : decode cX10_back 17 = .ok (.aload_n 0, 1) := by decide +kernel
theorem dX10_back_18 : decode cX10_back 18 = .ok (.getfield 10, 3) := by decide +kernel
theorem dX10_back_21 : decode cX10_back 21 = .ok (.dup, 1) := by decide +kernel
theorem dX10_back_22 : decode cX10_back 22 = .ok (.getfield 60, 3) := by decide +kernel
theorem dX10_back_25 : decode cX10_back 25 = .ok (.iload_n 1, 1) := by decide +kernel
theorem dX10_back_26 : decode cX10_back 26 = .ok (.isub, 1) := by decide +kernel
theorem dX10_back_27 : decode cX10_back 27 = .ok (.putfield 60, 3) := by decide +kernel
theorem dX10_back_30 : decode cX10_back 30 = .ok (.aload_n 0, 1) := by decide +kernel
theorem dX10_back_31 : decode cX10_back 31 = .ok (.getfield 10, 3) := by decide +kernel
theorem dX10_back_34 : decode cX10_back 34 = .ok (.getfield 60, 3) := by decide +kernel
theorem dX10_back_37 : decode cX10_back 37 = .ok (.ireturn, 1) := by decide +kernel
theorem dX10_read_0 : decode cX10_read 0 = .ok (.aload_n 0, 1) := by decide +kernel
theorem dX10_read_1 : decode cX10_read 1 = .ok (.getfield 19, 3) := by decide +kernel
theorem dX10_read_4 : decode cX10_read 4 = .ok (.aload_n 0, 1) := by decide +kernel
theorem dX10_read_5 : decode cX10_read 5 = .ok (.getfield 10, 3) := by decide +kernel
theorem dX10_read_8 : decode cX10_read 8 = .ok (.invokevirtual 68, 3) := by decide +kernel
theorem dX10_read_11 : decode cX10_read 11 = .ok (.istore_n 1, 1) := by decide +kernel
theorem dX10_read_12 : decode cX10_read 12 = .ok (.aload_n 0, 1) := by decide +kernel
theorem dX10_read_13 : decode cX10_read 13 = .ok (.getfield 10, 3) := by decide +kernel
theorem dX10_read_16 : decode cX10_read 16 = .ok (.iconst 0, 1) := by decide +kernel
theorem dX10_read_17 : decode cX10_read 17 = .ok (.putfield 60, 3) := by decide +kernel
theorem dX10_read_20 : decode cX10_read 20 = .ok (.iload_n 1, 1) := by decide +kernel
theorem dX10_read_21 : decode cX10_read 21 = .ok (.ifCond .ne 24, 3) := by decide +kernel
theorem dX10_read_24 : decode cX10_read 24 = .ok (.aload_n 0, 1) := by decide +kernel
theorem dX10_read_25 : decode cX10_read 25 = .ok (.getfield 35, 3) := by decide +kernel
theorem dX10_read_28 : decode cX10_read 28 = .ok (.aload_n 0, 1) := by decide +kernel
theorem dX10_read_29 : decode cX10_read 29 = .ok (.getfield 19, 3) := by decide +kernel
theorem dX10_read_32 : decode cX10_read 32 = .ok (.aload_n 0, 1) := by decide +kernel
theorem dX10_read_33 : decode cX10_read 33 = .ok (.getfield 35, 3) := by decide +kernel
theorem dX10_read_36 : decode cX10_read 36 = .ok (.getfield 72, 3) := by decide +kernel
theorem dX10_read_39 : decode cX10_read 39 = .ok (.invokevirtual 76, 3) := by decide +kernel
theorem dX10_read_42 : decode cX10_read 42 = .ok (.putfield 72, 3) := by decide +kernel
theorem dX10_read_45 : decode cX10_read 45 = .ok (.iload_n 1, 1) := by decide +kernel
theorem dX10_read_46 : decode cX10_read 46 = .ok (.ireturn, 1) := by decide +kernel
theorem dX10_place_0 : decode cX10_place 0 = .ok (.aload_n 0, 1) := by decide +kernel
theorem dX10_place_1 : decode cX10_place 1 = .ok (.getfield 19, 3) := by decide +kernel
theorem dX10_place_4 : decode cX10_place 4 = .ok (.invokevirtual 80, 3) := by decide +kernel
theorem dX10_place_7 : decode cX10_place 7 = .ok (.ireturn, 1) := by decide +kernel
theorem dX10_person_0 : decode cX10_person 0 = .ok (.aload_n 0, 1) := by decide +kernel
theorem dX10_person_1 : decode cX10_person 1 = .ok (.getfield 26, 3) := by decide +kernel
theorem dX10_person_4 : decode cX10_person 4 = .ok (.getfield 84, 3) := by decide +kernel
theorem dX10_person_7 : decode cX10_person 7 = .ok (.bipush 20, 2) := by decide +kernel
theorem dX10_person_9 : decode cX10_person 9 = .ok (.if_icmp .ge 15, 3) := by decide +kernel
theorem dX10_person_12 : decode cX10_person 12 = .ok (.iload 5, 2) := by decide +kernel
theorem dX10_person_14 : decode cX10_person 14 = .ok (.ifCond .lt 10, 3) := by decide +kernel
theorem dX10_person_17 : decode cX10_person 17 = .ok (.iload 5, 2) := by decide +kernel
theorem dX10_person_19 : decode cX10_person 19 = .ok (.ldc 87, 2) := by decide +kernel
theorem dX10_person_21 : decode cX10_person 21 = .ok (.if_icmp .le 5, 3) := by decide +kernel
theorem dX10_person_24 : decode cX10_person 24 = .ok (.iconst (-1), 1) := by decide +kernel
theorem dX10_person_25 : decode cX10_person 25 = .ok (.ireturn, 1) := by decide +kernel
theorem dX10_person_26 : decode cX10_person 26 = .ok (.iload_n 1, 1) := by decide +kernel
theorem dX10_person_27 : decode cX10_person 27 = .ok (.iconst 0, 1) := by decide +kernel
theorem dX10_person_28 : decode cX10_person 28 = .ok (.bipush 59, 2) := by decide +kernel
theorem dX10_person_30 : decode cX10_person 30 = .ok (.invokestatic 88, 3) := by decide +kernel
theorem dX10_person_33 : decode cX10_person 33 = .ok (.ifCond .eq 33, 3) := by decide +kernel
theorem dX10_person_36 : decode cX10_person 36 = .ok (.iload_n 2, 1) := by decide +kernel
theorem dX10_person_37 : decode cX10_person 37 = .ok (.iconst 0, 1) := by decide +kernel
theorem dX10_person_38 : decode cX10_person 38 = .ok (.bipush 11, 2) := by decide +kernel
theorem dX10_person_40 : decode cX10_person 40 = .ok (.invokestatic 88, 3) := by decide +kernel
theorem dX10_person_43 : decode cX10_person 43 = .ok (.ifCond .eq 23, 3) := by decide +kernel
theorem dX10_person_46 : decode cX10_person 46 = .ok (.iload_n 3, 1) := by decide +kernel
theorem dX10_person_47 : decode cX10_person 47 = .ok (.iconst 0, 1) := by decide +kernel
theorem dX10_person_48 : decode cX10_person 48 = .ok (.bipush 9, 2) := by decide +kernel
theorem dX10_person_50 : decode cX10_person 50 = .ok (.invokestatic 88, 3) := by decide +kernel
theorem dX10_person_53 : decode cX10_person 53 = .ok (.ifCond .eq 13, 3) := by decide +kernel
theorem dX10_person_56 : decode cX10_person 56 = .ok (.iload 4, 2) := by decide +kernel
theorem dX10_person_58 : decode cX10_person 58 = .ok (.iconst 0, 1) := by decide +kernel
theorem dX10_person_59 : decode cX10_person 59 = .ok (.iconst 3, 1) := by decide +kernel
theorem dX10_person_60 : decode cX10_person 60 = .ok (.invokestatic 88, 3) := by decide +kernel
theorem dX10_person_63 : decode cX10_person 63 = .ok (.ifCond .ne 5, 3) := by decide +kernel
theorem dX10_person_66 : decode cX10_person 66 = .ok (.iconst (-1), 1) := by decide +kernel
theorem dX10_person_67 : decode cX10_person 67 = .ok (.ireturn, 1) := by decide +kernel
theorem dX10_person_68 : decode cX10_person 68 = .ok (.aload_n 0, 1) := by decide +kernel
theorem dX10_person_69 : decode cX10_person 69 = .ok (.getfield 26, 3) := by decide +kernel
theorem dX10_person_72 : decode cX10_person 72 = .ok (.getfield 84, 3) := by decide +kernel
theorem dX10_person_75 : decode cX10_person 75 = .ok (.istore 6, 2) := by decide +kernel
theorem dX10_person_77 : decode cX10_person 77 = .ok (.aload_n 0, 1) := by decide +kernel
theorem dX10_person_78 : decode cX10_person 78 = .ok (.getfield 26, 3) := by decide +kernel
theorem dX10_person_81 : decode cX10_person 81 = .ok (.dup, 1) := by decide +kernel
theorem dX10_person_82 : decode cX10_person 82 = .ok (.getfield 84, 3) := by decide +kernel
theorem dX10_person_85 : decode cX10_person 85 = .ok (.iconst 1, 1) := by decide +kernel
theorem dX10_person_86 : decode cX10_person 86 = .ok (.iadd, 1) := by decide +kernel
theorem dX10_person_87 : decode cX10_person 87 = .ok (.putfield 84, 3) := by decide +kernel
theorem dX10_person_90 : decode cX10_person 90 = .ok (.aload_n 0, 1) := by decide +kernel
theorem dX10_person_91 : decode cX10_person 91 = .ok (.getfield 26, 3) := by decide +kernel
theorem dX10_person_94 : decode cX10_person 94 = .ok (.iload 6, 2) := by decide +kernel
theorem dX10_person_96 : decode cX10_person 96 = .ok (.iconst 0, 1) := by decide +kernel
theorem dX10_person_97 : decode cX10_person 97 = .ok (.iload_n 1, 1) := by decide +kernel
theorem dX10_person_98 : decode cX10_person 98 = .ok (.invokevirtual 92, 3) := by decide +kernel
theorem dX10_person_101 : decode cX10_person 101 = .ok (.aload_n 0, 1) := by decide +kernel
theorem dX10_person_102 : decode cX10_person 102 = .ok (.getfield 26, 3) := by decide +kernel
theorem dX10_person_105 : decode cX10_person 105 = .ok (.iload 6, 2) := by decide +kernel
theorem dX10_person_107 : decode cX10_person 107 = .ok (.iconst 1, 1) := by decide +kernel
theorem dX10_person_108 : decode cX10_person 108 = .ok (.iload_n 2, 1) := by decide +kernel
theorem dX10_person_109 : decode cX10_person 109 = .ok (.invokevirtual 92, 3) := by decide +kernel
theorem dX10_person_112 : decode cX10_person 112 = .ok (.aload_n 0, 1) := by decide +kernel
theorem dX10_person_113 : decode cX10_person 113 = .ok (.getfield 26, 3) := by decide +kernel
theorem dX10_person_116 : decode cX10_person 116 = .ok (.iload 6, 2) := by decide +kernel
theorem dX10_person_118 : decode cX10_person 118 = .ok (.iconst 2, 1) := by decide +kernel
theorem dX10_person_119 : decode cX10_person 119 = .ok (.iload_n 3, 1) := by decide +kernel
theorem dX10_person_120 : decode cX10_person 120 = .ok (.invokevirtual 92, 3) := by decide +kernel
theorem dX10_person_123 : decode cX10_person 123 = .ok (.aload_n 0, 1) := by decide +kernel
theorem dX10_person_124 : decode cX10_person 124 = .ok (.getfield 26, 3) := by decide +kernel
theorem dX10_person_127 : decode cX10_person 127 = .ok (.iload 6, 2) := by decide +kernel
theorem dX10_person_129 : decode cX10_person 129 = .ok (.iconst 3, 1) := by decide +kernel
theorem dX10_person_130 : decode cX10_person 130 = .ok (.iload 4, 2) := by decide +kernel
theorem dX10_person_132 : decode cX10_person 132 = .ok (.invokevirtual 92, 3) := by decide +kernel
theorem dX10_person_135 : decode cX10_person 135 = .ok (.aload_n 0, 1) := by decide +kernel
theorem dX10_person_136 : decode cX10_person 136 = .ok (.getfield 26, 3) := by decide +kernel
theorem dX10_person_139 : decode cX10_person 139 = .ok (.iload 6, 2) := by decide +kernel
theorem dX10_person_141 : decode cX10_person 141 = .ok (.iload 5, 2) := by decide +kernel
theorem dX10_person_143 : decode cX10_person 143 = .ok (.invokevirtual 96, 3) := by decide +kernel
theorem dX10_person_146 : decode cX10_person 146 = .ok (.iload 6, 2) := by decide +kernel
theorem dX10_person_148 : decode cX10_person 148 = .ok (.ireturn, 1) := by decide +kernel
theorem dX10_world_0 : decode cX10_world 0 = .ok (.iload_n 2, 1) := by decide +kernel
theorem dX10_world_1 : decode cX10_world 1 = .ok (.iconst 0, 1) := by decide +kernel
theorem dX10_world_2 : decode cX10_world 2 = .ok (.bipush 20, 2) := by decide +kernel
theorem dX10_world_4 : decode cX10_world 4 = .ok (.invokestatic 88, 3) := by decide +kernel
theorem dX10_world_7 : decode cX10_world 7 = .ok (.ifCond .eq 13, 3) := by decide +kernel
theorem dX10_world_10 : decode cX10_world 10 = .ok (.iload_n 3, 1) := by decide +kernel
theorem dX10_world_11 : decode cX10_world 11 = .ok (.iconst 0, 1) := by decide +kernel
theorem dX10_world_12 : decode cX10_world 12 = .ok (.bipush 10, 2) := by decide +kernel
theorem dX10_world_14 : decode cX10_world 14 = .ok (.invokestatic 88, 3) := by decide +kernel
theorem dX10_world_17 : decode cX10_world 17 = .ok (.ifCond .ne 5, 3) := by decide +kernel
theorem dX10_world_20 : decode cX10_world 20 = .ok (.iconst (-1), 1) := by decide +kernel
theorem dX10_world_21 : decode cX10_world 21 = .ok (.ireturn, 1) := by decide +kernel
theorem dX10_world_22 : decode cX10_world 22 = .ok (.aload_n 0, 1) := by decide +kernel
theorem dX10_world_23 : decode cX10_world 23 = .ok (.getfield 26, 3) := by decide +kernel
theorem dX10_world_26 : decode cX10_world 26 = .ok (.iload_n 2, 1) := by decide +kernel
theorem dX10_world_27 : decode cX10_world 27 = .ok (.putfield 84, 3) := by decide +kernel
theorem dX10_world_30 : decode cX10_world 30 = .ok (.iconst 0, 1) := by decide +kernel
theorem dX10_world_31 : decode cX10_world 31 = .ok (.istore 4, 2) := by decide +kernel
theorem dX10_world_33 : decode cX10_world 33 = .ok (.iload 4, 2) := by decide +kernel
theorem dX10_world_35 : decode cX10_world 35 = .ok (.iload_n 2, 1) := by decide +kernel
theorem dX10_world_36 : decode cX10_world 36 = .ok (.if_icmp .ge 30, 3) := by decide +kernel
theorem dX10_world_39 : decode cX10_world 39 = .ok (.aload_n 0, 1) := by decide +kernel
theorem dX10_world_40 : decode cX10_world 40 = .ok (.getfield 26, 3) := by decide +kernel
theorem dX10_world_43 : decode cX10_world 43 = .ok (.iload 4, 2) := by decide +kernel
theorem dX10_world_45 : decode cX10_world 45 = .ok (.iload_n 1, 1) := by decide +kernel
theorem dX10_world_46 : decode cX10_world 46 = .ok (.invokevirtual 100, 3) := by decide +kernel
theorem dX10_world_49 : decode cX10_world 49 = .ok (.aload_n 0, 1) := by decide +kernel
theorem dX10_world_50 : decode cX10_world 50 = .ok (.getfield 35, 3) := by decide +kernel
theorem dX10_world_53 : decode cX10_world 53 = .ok (.iload 4, 2) := by decide +kernel
theorem dX10_world_55 : decode cX10_world 55 = .ok (.iload_n 1, 1) := by decide +kernel
theorem dX10_world_56 : decode cX10_world 56 = .ok (.iload_n 3, 1) := by decide +kernel
theorem dX10_world_57 : decode cX10_world 57 = .ok (.invokevirtual 103, 3) := by decide +kernel
theorem dX10_world_60 : decode cX10_world 60 = .ok (.iinc 4 1, 3) := by decide +kernel
theorem dX10_world_63 : decode cX10_world 63 = .ok (.goto (-30), 3) := by decide +kernel
theorem dX10_world_66 : decode cX10_world 66 = .ok (.iload_n 2, 1) := by decide +kernel
theorem dX10_world_67 : decode cX10_world 67 = .ok (.ireturn, 1) := by decide +kernel
theorem dX10_of_0 : decode cX10_of 0 = .ok (.aload_n 0, 1) := by decide +kernel
theorem dX10_of_1 : decode cX10_of 1 = .ok (.getfield 26, 3) := by decide +kernel
theorem dX10_of_4 : decode cX10_of 4 = .ok (.iload_n 1, 1) := by decide +kernel
theorem dX10_of_5 : decode cX10_of 5 = .ok (.invokevirtual 106, 3) := by decide +kernel
theorem dX10_of_8 : decode cX10_of 8 = .ok (.ifCond .ne 5, 3) := by decide +kernel
theorem dX10_of_11 : decode cX10_of 11 = .ok (.iconst (-1), 1) := by decide +kernel
theorem dX10_of_12 : decode cX10_of 12 = .ok (.ireturn, 1) := by decide +kernel
theorem dX10_of_13 : decode cX10_of 13 = .ok (.iload_n 2, 1) := by decide +kernel
theorem dX10_of_14 : decode cX10_of 14 = .ok (.iconst 0, 1) := by decide +kernel
theorem dX10_of_15 : decode cX10_of 15 = .ok (.iconst 3, 1) := by decide +kernel
theorem dX10_of_16 : decode cX10_of 16 = .ok (.invokestatic 88, 3) := by decide +kernel
theorem dX10_of_19 : decode cX10_of 19 = .ok (.ifCond .eq 15, 3) := by decide +kernel
theorem dX10_of_22 : decode cX10_of 22 = .ok (.aload_n 0, 1) := by decide +kernel
theorem dX10_of_23 : decode cX10_of 23 = .ok (.getfield 26, 3) := by decide +kernel
theorem dX10_of_26 : decode cX10_of 26 = .ok (.iload_n 1, 1) := by decide +kernel
theorem dX10_of_27 : decode cX10_of 27 = .ok (.iconst 0, 1) := by decide +kernel
theorem dX10_of_28 : decode cX10_of 28 = .ok (.iload_n 2, 1) := by decide +kernel
theorem dX10_of_29 : decode cX10_of 29 = .ok (.iadd, 1) := by decide +kernel
theorem dX10_of_30 : decode cX10_of 30 = .ok (.invokevirtual 110, 3) := by decide +kernel
theorem dX10_of_33 : decode cX10_of 33 = .ok (.ireturn, 1) := by decide +kernel
theorem dX10_of_34 : decode cX10_of 34 = .ok (.iload_n 2, 1) := by decide +kernel
theorem dX10_of_35 : decode cX10_of 35 = .ok (.bipush 10, 2) := by decide +kernel
theorem dX10_of_37 : decode cX10_of 37 = .ok (.bipush 17, 2) := by decide +kernel
theorem dX10_of_39 : decode cX10_of 39 = .ok (.invokestatic 88, 3) := by decide +kernel
theorem dX10_of_42 : decode cX10_of 42 = .ok (.ifCond .eq 20, 3) := by decide +kernel
theorem dX10_of_45 : decode cX10_of 45 = .ok (.aload_n 0, 1) := by decide +kernel
theorem dX10_of_46 : decode cX10_of 46 = .ok (.getfield 26, 3) := by decide +kernel
theorem dX10_of_49 : decode cX10_of 49 = .ok (.iload_n 1, 1) := by decide +kernel
theorem dX10_of_50 : decode cX10_of 50 = .ok (.iconst 4, 1) := by decide +kernel
theorem dX10_of_51 : decode cX10_of 51 = .ok (.iload_n 2, 1) := by decide +kernel
theorem dX10_of_52 : decode cX10_of 52 = .ok (.iadd, 1) := by decide +kernel
theorem dX10_of_53 : decode cX10_of 53 = .ok (.bipush 10, 2) := by decide +kernel
theorem dX10_of_55 : decode cX10_of 55 = .ok (.isub, 1) := by decide +kernel
theorem dX10_of_56 : decode cX10_of 56 = .ok (.invokevirtual 110, 3) := by decide +kernel
theorem dX10_of_59 : decode cX10_of 59 = .ok (.goto 4, 3) := by decide +kernel
theorem dX10_of_62 : decode cX10_of 62 = .ok (.iconst (-1), 1) := by decide +kernel
theorem dX10_of_63 : decode cX10_of 63 = .ok (.ireturn, 1) := by decide +kernel
theorem dX10_signs_0 : decode cX10_signs 0 = .ok (.aload_n 0, 1) := by decide +kernel
theorem dX10_signs_1 : decode cX10_signs 1 = .ok (.getfield 26, 3) := by decide +kernel
theorem dX10_signs_4 : decode cX10_signs 4 = .ok (.iload_n 1, 1) := by decide +kernel
theorem dX10_signs_5 : decode cX10_signs 5 = .ok (.invokevirtual 106, 3) := by decide +kernel
theorem dX10_signs_8 : decode cX10_signs 8 = .ok (.ifCond .eq 13, 3) := by decide +kernel
theorem dX10_signs_11 : decode cX10_signs 11 = .ok (.iload_n 2, 1) := by decide +kernel
theorem dX10_signs_12 : decode cX10_signs 12 = .ok (.iconst (-1), 1) := by decide +kernel
theorem dX10_signs_13 : decode cX10_signs 13 = .ok (.bipush 59, 2) := by decide +kernel
theorem dX10_signs_15 : decode cX10_signs 15 = .ok (.invokestatic 88, 3) := by decide +kernel
theorem dX10_signs_18 : decode cX10_signs 18 = .ok (.ifCond .ne 5, 3) := by decide +kernel
theorem dX10_signs_21 : decode cX10_signs 21 = .ok (.iconst (-1), 1) := by decide +kernel
theorem dX10_signs_22 : decode cX10_signs 22 = .ok (.ireturn, 1) := by decide +kernel
theorem dX10_signs_23 : decode cX10_signs 23 = .ok (.aload_n 0, 1) := by decide +kernel
theorem dX10_signs_24 : decode cX10_signs 24 = .ok (.getfield 35, 3) := by decide +kernel
theorem dX10_signs_27 : decode cX10_signs 27 = .ok (.iload_n 1, 1) := by decide +kernel
theorem dX10_signs_28 : decode cX10_signs 28 = .ok (.iload_n 2, 1) := by decide +kernel
theorem dX10_signs_29 : decode cX10_signs 29 = .ok (.iconst (-1), 1) := by decide +kernel
theorem dX10_signs_30 : decode cX10_signs 30 = .ok (.if_icmp .ne 15, 3) := by decide +kernel
theorem dX10_signs_33 : decode cX10_signs 33 = .ok (.aload_n 0, 1) := by decide +kernel
theorem dX10_signs_34 : decode cX10_signs 34 = .ok (.getfield 26, 3) := by decide +kernel
theorem dX10_signs_37 : decode cX10_signs 37 = .ok (.iload_n 1, 1) := by decide +kernel
theorem dX10_signs_38 : decode cX10_signs 38 = .ok (.iconst 0, 1) := by decide +kernel
theorem dX10_signs_39 : decode cX10_signs 39 = .ok (.invokevirtual 110, 3) := by decide +kernel
theorem dX10_signs_42 : decode cX10_signs 42 = .ok (.goto 4, 3) := by decide +kernel
theorem dX10_signs_45 : decode cX10_signs 45 = .ok (.iload_n 2, 1) := by decide +kernel
theorem dX10_signs_46 : decode cX10_signs 46 = .ok (.invokevirtual 114, 3) := by decide +kernel
theorem dX10_signs_49 : decode cX10_signs 49 = .ok (.ireturn, 1) := by decide +kernel
theorem dX10_rounded_0 : decode cX10_rounded 0 = .ok (.aload_n 0, 1) := by decide +kernel
theorem dX10_rounded_1 : decode cX10_rounded 1 = .ok (.getfield 26, 3) := by decide +kernel
theorem dX10_rounded_4 : decode cX10_rounded 4 = .ok (.iload_n 1, 1) := by decide +kernel
theorem dX10_rounded_5 : decode cX10_rounded 5 = .ok (.invokevirtual 106, 3) := by decide +kernel
theorem dX10_rounded_8 : decode cX10_rounded 8 = .ok (.ifCond .eq 10, 3) := by decide +kernel
theorem dX10_rounded_11 : decode cX10_rounded 11 = .ok (.iload_n 2, 1) := by decide +kernel
theorem dX10_rounded_12 : decode cX10_rounded 12 = .ok (.invokestatic 117, 3) := by decide +kernel
theorem dX10_rounded_15 : decode cX10_rounded 15 = .ok (.ifCond .ne 5, 3) := by decide +kernel
theorem dX10_rounded_18 : decode cX10_rounded 18 = .ok (.iconst (-1), 1) := by decide +kernel
theorem dX10_rounded_19 : decode cX10_rounded 19 = .ok (.ireturn, 1) := by decide +kernel
theorem dX10_rounded_20 : decode cX10_rounded 20 = .ok (.aload_n 0, 1) := by decide +kernel
theorem dX10_rounded_21 : decode cX10_rounded 21 = .ok (.getfield 35, 3) := by decide +kernel
theorem dX10_rounded_24 : decode cX10_rounded 24 = .ok (.iload_n 1, 1) := by decide +kernel
theorem dX10_rounded_25 : decode cX10_rounded 25 = .ok (.aload_n 0, 1) := by decide +kernel
theorem dX10_rounded_26 : decode cX10_rounded 26 = .ok (.iload_n 1, 1) := by decide +kernel
theorem dX10_rounded_27 : decode cX10_rounded 27 = .ok (.iload_n 2, 1) := by decide +kernel
theorem dX10_rounded_28 : decode cX10_rounded 28 = .ok (.invokevirtual 120, 3) := by decide +kernel
theorem dX10_rounded_31 : decode cX10_rounded 31 = .ok (.invokevirtual 114, 3) := by decide +kernel
theorem dX10_rounded_34 : decode cX10_rounded 34 = .ok (.ireturn, 1) := by decide +kernel
theorem dX10_moved_0 : decode cX10_moved 0 = .ok (.aload_n 0, 1) := by decide +kernel
theorem dX10_moved_1 : decode cX10_moved 1 = .ok (.getfield 26, 3) := by decide +kernel
theorem dX10_moved_4 : decode cX10_moved 4 = .ok (.iload_n 1, 1) := by decide +kernel
theorem dX10_moved_5 : decode cX10_moved 5 = .ok (.invokevirtual 106, 3) := by decide +kernel
theorem dX10_moved_8 : decode cX10_moved 8 = .ok (.ifCond .eq 13, 3) := by decide +kernel
theorem dX10_moved_11 : decode cX10_moved 11 = .ok (.iload_n 2, 1) := by decide +kernel
theorem dX10_moved_12 : decode cX10_moved 12 = .ok (.iconst 0, 1) := by decide +kernel
theorem dX10_moved_13 : decode cX10_moved 13 = .ok (.bipush 30, 2) := by decide +kernel
theorem dX10_moved_15 : decode cX10_moved 15 = .ok (.invokestatic 88, 3) := by decide +kernel
theorem dX10_moved_18 : decode cX10_moved 18 = .ok (.ifCond .ne 5, 3) := by decide +kernel
theorem dX10_moved_21 : decode cX10_moved 21 = .ok (.iconst (-1), 1) := by decide +kernel
theorem dX10_moved_22 : decode cX10_moved 22 = .ok (.ireturn, 1) := by decide +kernel
theorem dX10_moved_23 : decode cX10_moved 23 = .ok (.aload_n 0, 1) := by decide +kernel
theorem dX10_moved_24 : decode cX10_moved 24 = .ok (.getfield 26, 3) := by decide +kernel
theorem dX10_moved_27 : decode cX10_moved 27 = .ok (.iload_n 1, 1) := by decide +kernel
theorem dX10_moved_28 : decode cX10_moved 28 = .ok (.iconst 0, 1) := by decide +kernel
theorem dX10_moved_29 : decode cX10_moved 29 = .ok (.invokevirtual 110, 3) := by decide +kernel
theorem dX10_moved_32 : decode cX10_moved 32 = .ok (.istore 4, 2) := by decide +kernel
theorem dX10_moved_34 : decode cX10_moved 34 = .ok (.aload_n 0, 1) := by decide +kernel
theorem dX10_moved_35 : decode cX10_moved 35 = .ok (.getfield 35, 3) := by decide +kernel
theorem dX10_moved_38 : decode cX10_moved 38 = .ok (.iload_n 1, 1) := by decide +kernel
theorem dX10_moved_39 : decode cX10_moved 39 = .ok (.iload 4, 2) := by decide +kernel
theorem dX10_moved_41 : decode cX10_moved 41 = .ok (.invokevirtual 114, 3) := by decide +kernel
theorem dX10_moved_44 : decode cX10_moved 44 = .ok (.istore 5, 2) := by decide +kernel
theorem dX10_moved_46 : decode cX10_moved 46 = .ok (.iload_n 2, 1) := by decide +kernel
theorem dX10_moved_47 : decode cX10_moved 47 = .ok (.ineg, 1) := by decide +kernel
theorem dX10_moved_48 : decode cX10_moved 48 = .ok (.istore 6, 2) := by decide +kernel
theorem dX10_moved_50 : decode cX10_moved 50 = .ok (.iload 6, 2) := by decide +kernel
theorem dX10_moved_52 : decode cX10_moved 52 = .ok (.iload_n 2, 1) := by decide +kernel
theorem dX10_moved_53 : decode cX10_moved 53 = .ok (.if_icmp .gt 48, 3) := by decide +kernel
theorem dX10_moved_56 : decode cX10_moved 56 = .ok (.aload_n 0, 1) := by decide +kernel
theorem dX10_moved_57 : decode cX10_moved 57 = .ok (.getfield 35, 3) := by decide +kernel
theorem dX10_moved_60 : decode cX10_moved 60 = .ok (.iload_n 1, 1) := by decide +kernel
theorem dX10_moved_61 : decode cX10_moved 61 = .ok (.iload 4, 2) := by decide +kernel
theorem dX10_moved_63 : decode cX10_moved 63 = .ok (.iload 6, 2) := by decide +kernel
theorem dX10_moved_65 : decode cX10_moved 65 = .ok (.iadd, 1) := by decide +kernel
theorem dX10_moved_66 : decode cX10_moved 66 = .ok (.bipush 60, 2) := by decide +kernel
theorem dX10_moved_68 : decode cX10_moved 68 = .ok (.invokestatic 123, 3) := by decide +kernel
theorem dX10_moved_71 : decode cX10_moved 71 = .ok (.invokevirtual 114, 3) := by decide +kernel
theorem dX10_moved_74 : decode cX10_moved 74 = .ok (.istore 7, 2) := by decide +kernel
theorem dX10_moved_76 : decode cX10_moved 76 = .ok (.iload_n 3, 1) := by decide +kernel
theorem dX10_moved_77 : decode cX10_moved 77 = .ok (.ifCond .eq 11, 3) := by decide +kernel
theorem dX10_moved_80 : decode cX10_moved 80 = .ok (.iload 5, 2) := by decide +kernel
theorem dX10_moved_82 : decode cX10_moved 82 = .ok (.iload 7, 2) := by decide +kernel
theorem dX10_moved_84 : decode cX10_moved 84 = .ok (.ior, 1) := by decide +kernel
theorem dX10_moved_85 : decode cX10_moved 85 = .ok (.goto 8, 3) := by decide +kernel
theorem dX10_moved_88 : decode cX10_moved 88 = .ok (.iload 5, 2) := by decide +kernel
theorem dX10_moved_90 : decode cX10_moved 90 = .ok (.iload 7, 2) := by decide +kernel
theorem dX10_moved_92 : decode cX10_moved 92 = .ok (.iand, 1) := by decide +kernel
theorem dX10_moved_93 : decode cX10_moved 93 = .ok (.istore 5, 2) := by decide +kernel
theorem dX10_moved_95 : decode cX10_moved 95 = .ok (.iinc 6 1, 3) := by decide +kernel
theorem dX10_moved_98 : decode cX10_moved 98 = .ok (.goto (-48), 3) := by decide +kernel
theorem dX10_moved_101 : decode cX10_moved 101 = .ok (.iload 5, 2) := by decide +kernel
theorem dX10_moved_103 : decode cX10_moved 103 = .ok (.ireturn, 1) := by decide +kernel
theorem dX10_holds_0 : decode cX10_holds 0 = .ok (.aload_n 0, 1) := by decide +kernel
theorem dX10_holds_1 : decode cX10_holds 1 = .ok (.iload_n 1, 1) := by decide +kernel
theorem dX10_holds_2 : decode cX10_holds 2 = .ok (.invokevirtual 128, 3) := by decide +kernel
theorem dX10_holds_5 : decode cX10_holds 5 = .ok (.ifCond .eq 14, 3) := by decide +kernel
theorem dX10_holds_8 : decode cX10_holds 8 = .ok (.aload_n 0, 1) := by decide +kernel
theorem dX10_holds_9 : decode cX10_holds 9 = .ok (.getfield 26, 3) := by decide +kernel
theorem dX10_holds_12 : decode cX10_holds 12 = .ok (.iload_n 2, 1) := by decide +kernel
theorem dX10_holds_13 : decode cX10_holds 13 = .ok (.invokevirtual 106, 3) := by decide +kernel
theorem dX10_holds_16 : decode cX10_holds 16 = .ok (.ifCond .ne 5, 3) := by decide +kernel
theorem dX10_holds_19 : decode cX10_holds 19 = .ok (.iconst (-1), 1) := by decide +kernel
theorem dX10_holds_20 : decode cX10_holds 20 = .ok (.ireturn, 1) := by decide +kernel
theorem dX10_holds_21 : decode cX10_holds 21 = .ok (.aload_n 0, 1) := by decide +kernel
theorem dX10_holds_22 : decode cX10_holds 22 = .ok (.getfield 35, 3) := by decide +kernel
theorem dX10_holds_25 : decode cX10_holds 25 = .ok (.iload_n 2, 1) := by decide +kernel
theorem dX10_holds_26 : decode cX10_holds 26 = .ok (.invokevirtual 131, 3) := by decide +kernel
theorem dX10_holds_29 : decode cX10_holds 29 = .ok (.iload_n 1, 1) := by decide +kernel
theorem dX10_holds_30 : decode cX10_holds 30 = .ok (.invokestatic 135, 3) := by decide +kernel
theorem dX10_holds_33 : decode cX10_holds 33 = .ok (.ireturn, 1) := by decide +kernel
theorem dX10_sort_0 : decode cX10_sort 0 = .ok (.aload_n 0, 1) := by decide +kernel
theorem dX10_sort_1 : decode cX10_sort 1 = .ok (.iload_n 1, 1) := by decide +kernel
theorem dX10_sort_2 : decode cX10_sort 2 = .ok (.invokevirtual 128, 3) := by decide +kernel
theorem dX10_sort_5 : decode cX10_sort 5 = .ok (.ifCond .eq 18, 3) := by decide +kernel
theorem dX10_sort_8 : decode cX10_sort 8 = .ok (.aload_n 0, 1) := by decide +kernel
theorem dX10_sort_9 : decode cX10_sort 9 = .ok (.getfield 35, 3) := by decide +kernel
theorem dX10_sort_12 : decode cX10_sort 12 = .ok (.getfield 72, 3) := by decide +kernel
theorem dX10_sort_15 : decode cX10_sort 15 = .ok (.getfield 138, 3) := by decide +kernel
theorem dX10_sort_18 : decode cX10_sort 18 = .ok (.iload_n 1, 1) := by decide +kernel
theorem dX10_sort_19 : decode cX10_sort 19 = .ok (.iaload, 1) := by decide +kernel
theorem dX10_sort_20 : decode cX10_sort 20 = .ok (.goto 4, 3) := by decide +kernel
theorem dX10_sort_23 : decode cX10_sort 23 = .ok (.iconst (-1), 1) := by decide +kernel
theorem dX10_sort_24 : decode cX10_sort 24 = .ok (.ireturn, 1) := by decide +kernel
theorem dX10_paper_0 : decode cX10_paper 0 = .ok (.aload_n 0, 1) := by decide +kernel
theorem dX10_paper_1 : decode cX10_paper 1 = .ok (.iload_n 1, 1) := by decide +kernel
theorem dX10_paper_2 : decode cX10_paper 2 = .ok (.invokevirtual 144, 3) := by decide +kernel
theorem dX10_paper_5 : decode cX10_paper 5 = .ok (.ifCond .eq 14, 3) := by decide +kernel
theorem dX10_paper_8 : decode cX10_paper 8 = .ok (.aload_n 0, 1) := by decide +kernel
theorem dX10_paper_9 : decode cX10_paper 9 = .ok (.getfield 26, 3) := by decide +kernel
theorem dX10_paper_12 : decode cX10_paper 12 = .ok (.iload_n 2, 1) := by decide +kernel
theorem dX10_paper_13 : decode cX10_paper 13 = .ok (.invokevirtual 106, 3) := by decide +kernel
theorem dX10_paper_16 : decode cX10_paper 16 = .ok (.ifCond .ne 5, 3) := by decide +kernel
theorem dX10_paper_19 : decode cX10_paper 19 = .ok (.iconst (-1), 1) := by decide +kernel
theorem dX10_paper_20 : decode cX10_paper 20 = .ok (.ireturn, 1) := by decide +kernel
theorem dX10_paper_21 : decode cX10_paper 21 = .ok (.aload_n 0, 1) := by decide +kernel
theorem dX10_paper_22 : decode cX10_paper 22 = .ok (.getfield 35, 3) := by decide +kernel
theorem dX10_paper_25 : decode cX10_paper 25 = .ok (.getfield 72, 3) := by decide +kernel
theorem dX10_paper_28 : decode cX10_paper 28 = .ok (.iload_n 1, 1) := by decide +kernel
theorem dX10_paper_29 : decode cX10_paper 29 = .ok (.aload_n 0, 1) := by decide +kernel
theorem dX10_paper_30 : decode cX10_paper 30 = .ok (.getfield 35, 3) := by decide +kernel
theorem dX10_paper_33 : decode cX10_paper 33 = .ok (.iload_n 2, 1) := by decide +kernel
theorem dX10_paper_34 : decode cX10_paper 34 = .ok (.invokevirtual 147, 3) := by decide +kernel
theorem dX10_paper_37 : decode cX10_paper 37 = .ok (.invokevirtual 150, 3) := by decide +kernel
theorem dX10_paper_40 : decode cX10_paper 40 = .ok (.ireturn, 1) := by decide +kernel
theorem dX10_altered_0 : decode cX10_altered 0 = .ok (.aload_n 0, 1) := by decide +kernel
theorem dX10_altered_1 : decode cX10_altered 1 = .ok (.iload_n 1, 1) := by decide +kernel
theorem dX10_altered_2 : decode cX10_altered 2 = .ok (.invokevirtual 144, 3) := by decide +kernel
theorem dX10_altered_5 : decode cX10_altered 5 = .ok (.ifCond .eq 10, 3) := by decide +kernel
theorem dX10_altered_8 : decode cX10_altered 8 = .ok (.iload_n 2, 1) := by decide +kernel
theorem dX10_altered_9 : decode cX10_altered 9 = .ok (.invokestatic 117, 3) := by decide +kernel
theorem dX10_altered_12 : decode cX10_altered 12 = .ok (.ifCond .ne 5, 3) := by decide +kernel
theorem dX10_altered_15 : decode cX10_altered 15 = .ok (.iconst (-1), 1) := by decide +kernel
theorem dX10_altered_16 : decode cX10_altered 16 = .ok (.ireturn, 1) := by decide +kernel
theorem dX10_altered_17 : decode cX10_altered 17 = .ok (.iconst 0, 1) := by decide +kernel
theorem dX10_altered_18 : decode cX10_altered 18 = .ok (.istore_n 3, 1) := by decide +kernel
theorem dX10_altered_19 : decode cX10_altered 19 = .ok (.iconst 0, 1) := by decide +kernel
theorem dX10_altered_20 : decode cX10_altered 20 = .ok (.istore 4, 2) := by decide +kernel
theorem dX10_altered_22 : decode cX10_altered 22 = .ok (.iload 4, 2) := by decide +kernel
theorem dX10_altered_24 : decode cX10_altered 24 = .ok (.aload_n 0, 1) := by decide +kernel
theorem dX10_altered_25 : decode cX10_altered 25 = .ok (.getfield 26, 3) := by decide +kernel
theorem dX10_altered_28 : decode cX10_altered 28 = .ok (.getfield 84, 3) := by decide +kernel
theorem dX10_altered_31 : decode cX10_altered 31 = .ok (.if_icmp .ge 66, 3) := by decide +kernel
theorem dX10_altered_34 : decode cX10_altered 34 = .ok (.aload_n 0, 1) := by decide +kernel
theorem dX10_altered_35 : decode cX10_altered 35 = .ok (.getfield 35, 3) := by decide +kernel
theorem dX10_altered_38 : decode cX10_altered 38 = .ok (.getfield 72, 3) := by decide +kernel
theorem dX10_altered_41 : decode cX10_altered 41 = .ok (.iload_n 1, 1) := by decide +kernel
theorem dX10_altered_42 : decode cX10_altered 42 = .ok (.aload_n 0, 1) := by decide +kernel
theorem dX10_altered_43 : decode cX10_altered 43 = .ok (.getfield 35, 3) := by decide +kernel
theorem dX10_altered_46 : decode cX10_altered 46 = .ok (.iload 4, 2) := by decide +kernel
theorem dX10_altered_48 : decode cX10_altered 48 = .ok (.invokevirtual 147, 3) := by decide +kernel
theorem dX10_altered_51 : decode cX10_altered 51 = .ok (.invokevirtual 150, 3) := by decide +kernel
theorem dX10_altered_54 : decode cX10_altered 54 = .ok (.istore 5, 2) := by decide +kernel
theorem dX10_altered_56 : decode cX10_altered 56 = .ok (.iload 5, 2) := by decide +kernel
theorem dX10_altered_58 : decode cX10_altered 58 = .ok (.aload_n 0, 1) := by decide +kernel
theorem dX10_altered_59 : decode cX10_altered 59 = .ok (.getfield 35, 3) := by decide +kernel
theorem dX10_altered_62 : decode cX10_altered 62 = .ok (.getfield 72, 3) := by decide +kernel
theorem dX10_altered_65 : decode cX10_altered 65 = .ok (.iload_n 1, 1) := by decide +kernel
theorem dX10_altered_66 : decode cX10_altered 66 = .ok (.aload_n 0, 1) := by decide +kernel
theorem dX10_altered_67 : decode cX10_altered 67 = .ok (.getfield 35, 3) := by decide +kernel
theorem dX10_altered_70 : decode cX10_altered 70 = .ok (.iload 4, 2) := by decide +kernel
theorem dX10_altered_72 : decode cX10_altered 72 = .ok (.aload_n 0, 1) := by decide +kernel
theorem dX10_altered_73 : decode cX10_altered 73 = .ok (.iload 4, 2) := by decide +kernel
theorem dX10_altered_75 : decode cX10_altered 75 = .ok (.iload_n 2, 1) := by decide +kernel
theorem dX10_altered_76 : decode cX10_altered 76 = .ok (.invokevirtual 120, 3) := by decide +kernel
theorem dX10_altered_79 : decode cX10_altered 79 = .ok (.invokevirtual 114, 3) := by decide +kernel
theorem dX10_altered_82 : decode cX10_altered 82 = .ok (.invokevirtual 150, 3) := by decide +kernel
theorem dX10_altered_85 : decode cX10_altered 85 = .ok (.if_icmp .eq 6, 3) := by decide +kernel
theorem dX10_altered_88 : decode cX10_altered 88 = .ok (.iinc 3 1, 3) := by decide +kernel
theorem dX10_altered_91 : decode cX10_altered 91 = .ok (.iinc 4 1, 3) := by decide +kernel
theorem dX10_altered_94 : decode cX10_altered 94 = .ok (.goto (-72), 3) := by decide +kernel
theorem dX10_altered_97 : decode cX10_altered 97 = .ok (.iload_n 3, 1) := by decide +kernel
theorem dX10_altered_98 : decode cX10_altered 98 = .ok (.ireturn, 1) := by decide +kernel
theorem dX10_truly_0 : decode cX10_truly 0 = .ok (.aload_n 0, 1) := by decide +kernel
theorem dX10_truly_1 : decode cX10_truly 1 = .ok (.iload_n 1, 1) := by decide +kernel
theorem dX10_truly_2 : decode cX10_truly 2 = .ok (.invokevirtual 128, 3) := by decide +kernel
theorem dX10_truly_5 : decode cX10_truly 5 = .ok (.ifCond .eq 20, 3) := by decide +kernel
theorem dX10_truly_8 : decode cX10_truly 8 = .ok (.aload_n 0, 1) := by decide +kernel
theorem dX10_truly_9 : decode cX10_truly 9 = .ok (.iload_n 2, 1) := by decide +kernel
theorem dX10_truly_10 : decode cX10_truly 10 = .ok (.invokevirtual 144, 3) := by decide +kernel
theorem dX10_truly_13 : decode cX10_truly 13 = .ok (.ifCond .eq 12, 3) := by decide +kernel
theorem dX10_truly_16 : decode cX10_truly 16 = .ok (.iload_n 3, 1) := by decide +kernel
theorem dX10_truly_17 : decode cX10_truly 17 = .ok (.iconst 0, 1) := by decide +kernel
theorem dX10_truly_18 : decode cX10_truly 18 = .ok (.iconst 3, 1) := by decide +kernel
theorem dX10_truly_19 : decode cX10_truly 19 = .ok (.invokestatic 88, 3) := by decide +kernel
theorem dX10_truly_22 : decode cX10_truly 22 = .ok (.ifCond .ne 5, 3) := by decide +kernel
theorem dX10_truly_25 : decode cX10_truly 25 = .ok (.iconst (-1), 1) := by decide +kernel
theorem dX10_truly_26 : decode cX10_truly 26 = .ok (.ireturn, 1) := by decide +kernel
theorem dX10_truly_27 : decode cX10_truly 27 = .ok (.aload_n 0, 1) := by decide +kernel
theorem dX10_truly_28 : decode cX10_truly 28 = .ok (.getfield 35, 3) := by decide +kernel
theorem dX10_truly_31 : decode cX10_truly 31 = .ok (.invokevirtual 153, 3) := by decide +kernel
theorem dX10_truly_34 : decode cX10_truly 34 = .ok (.iconst 0, 1) := by decide +kernel
theorem dX10_truly_35 : decode cX10_truly 35 = .ok (.istore 4, 2) := by decide +kernel
theorem dX10_truly_37 : decode cX10_truly 37 = .ok (.iconst 0, 1) := by decide +kernel
theorem dX10_truly_38 : decode cX10_truly 38 = .ok (.istore 5, 2) := by decide +kernel
theorem dX10_truly_40 : decode cX10_truly 40 = .ok (.iload 5, 2) := by decide +kernel
theorem dX10_truly_42 : decode cX10_truly 42 = .ok (.aload_n 0, 1) := by decide +kernel
theorem dX10_truly_43 : decode cX10_truly 43 = .ok (.getfield 26, 3) := by decide +kernel
theorem dX10_truly_46 : decode cX10_truly 46 = .ok (.getfield 84, 3) := by decide +kernel
theorem dX10_truly_49 : decode cX10_truly 49 = .ok (.if_icmp .ge 111, 3) := by decide +kernel
theorem dX10_truly_52 : decode cX10_truly 52 = .ok (.aload_n 0, 1) := by decide +kernel
theorem dX10_truly_53 : decode cX10_truly 53 = .ok (.getfield 35, 3) := by decide +kernel
theorem dX10_truly_56 : decode cX10_truly 56 = .ok (.getfield 156, 3) := by decide +kernel
theorem dX10_truly_59 : decode cX10_truly 59 = .ok (.iload 5, 2) := by decide +kernel
theorem dX10_truly_61 : decode cX10_truly 61 = .ok (.iaload, 1) := by decide +kernel
theorem dX10_truly_62 : decode cX10_truly 62 = .ok (.iload_n 1, 1) := by decide +kernel
theorem dX10_truly_63 : decode cX10_truly 63 = .ok (.invokestatic 135, 3) := by decide +kernel
theorem dX10_truly_66 : decode cX10_truly 66 = .ok (.istore 6, 2) := by decide +kernel
theorem dX10_truly_68 : decode cX10_truly 68 = .ok (.aload_n 0, 1) := by decide +kernel
theorem dX10_truly_69 : decode cX10_truly 69 = .ok (.getfield 35, 3) := by decide +kernel
theorem dX10_truly_72 : decode cX10_truly 72 = .ok (.getfield 72, 3) := by decide +kernel
theorem dX10_truly_75 : decode cX10_truly 75 = .ok (.iload_n 2, 1) := by decide +kernel
theorem dX10_truly_76 : decode cX10_truly 76 = .ok (.aload_n 0, 1) := by decide +kernel
theorem dX10_truly_77 : decode cX10_truly 77 = .ok (.getfield 35, 3) := by decide +kernel
theorem dX10_truly_80 : decode cX10_truly 80 = .ok (.getfield 159, 3) := by decide +kernel
theorem dX10_truly_83 : decode cX10_truly 83 = .ok (.iload 5, 2) := by decide +kernel
theorem dX10_truly_85 : decode cX10_truly 85 = .ok (.iaload, 1) := by decide +kernel
theorem dX10_truly_86 : decode cX10_truly 86 = .ok (.invokevirtual 150, 3) := by decide +kernel
theorem dX10_truly_89 : decode cX10_truly 89 = .ok (.iload_n 1, 1) := by decide +kernel
theorem dX10_truly_90 : decode cX10_truly 90 = .ok (.invokestatic 135, 3) := by decide +kernel
theorem dX10_truly_93 : decode cX10_truly 93 = .ok (.istore 7, 2) := by decide +kernel
theorem dX10_truly_95 : decode cX10_truly 95 = .ok (.iload_n 3, 1) := by decide +kernel
theorem dX10_truly_96 : decode cX10_truly 96 = .ok (.ifCond .ne 13, 3) := by decide +kernel
theorem dX10_truly_99 : decode cX10_truly 99 = .ok (.iload 4, 2) := by decide +kernel
theorem dX10_truly_101 : decode cX10_truly 101 = .ok (.iload 6, 2) := by decide +kernel
theorem dX10_truly_103 : decode cX10_truly 103 = .ok (.iadd, 1) := by decide +kernel
theorem dX10_truly_104 : decode cX10_truly 104 = .ok (.istore 4, 2) := by decide +kernel
theorem dX10_truly_106 : decode cX10_truly 106 = .ok (.goto 48, 3) := by decide +kernel
theorem dX10_truly_109 : decode cX10_truly 109 = .ok (.iload_n 3, 1) := by decide +kernel
theorem dX10_truly_110 : decode cX10_truly 110 = .ok (.iconst 1, 1) := by decide +kernel
theorem dX10_truly_111 : decode cX10_truly 111 = .ok (.if_icmp .ne 16, 3) := by decide +kernel
theorem dX10_truly_114 : decode cX10_truly 114 = .ok (.iload 4, 2) := by decide +kernel
theorem dX10_truly_116 : decode cX10_truly 116 = .ok (.iload 6, 2) := by decide +kernel
theorem dX10_truly_118 : decode cX10_truly 118 = .ok (.iload 7, 2) := by decide +kernel
theorem dX10_truly_120 : decode cX10_truly 120 = .ok (.iand, 1) := by decide +kernel
theorem dX10_truly_121 : decode cX10_truly 121 = .ok (.iadd, 1) := by decide +kernel
theorem dX10_truly_122 : decode cX10_truly 122 = .ok (.istore 4, 2) := by decide +kernel
theorem dX10_truly_124 : decode cX10_truly 124 = .ok (.goto 30, 3) := by decide +kernel
theorem dX10_truly_127 : decode cX10_truly 127 = .ok (.iload_n 3, 1) := by decide +kernel
theorem dX10_truly_128 : decode cX10_truly 128 = .ok (.iconst 2, 1) := by decide +kernel
theorem dX10_truly_129 : decode cX10_truly 129 = .ok (.if_icmp .ne 18, 3) := by decide +kernel
theorem dX10_truly_132 : decode cX10_truly 132 = .ok (.iload 4, 2) := by decide +kernel
theorem dX10_truly_134 : decode cX10_truly 134 = .ok (.iload 6, 2) := by decide +kernel
theorem dX10_truly_136 : decode cX10_truly 136 = .ok (.iconst 1, 1) := by decide +kernel
theorem dX10_truly_137 : decode cX10_truly 137 = .ok (.iload 7, 2) := by decide +kernel
theorem dX10_truly_139 : decode cX10_truly 139 = .ok (.isub, 1) := by decide +kernel
theorem dX10_truly_140 : decode cX10_truly 140 = .ok (.iand, 1) := by decide +kernel
theorem dX10_truly_141 : decode cX10_truly 141 = .ok (.iadd, 1) := by decide +kernel
theorem dX10_truly_142 : decode cX10_truly 142 = .ok (.istore 4, 2) := by decide +kernel
theorem dX10_truly_144 : decode cX10_truly 144 = .ok (.goto 10, 3) := by decide +kernel
theorem dX10_truly_147 : decode cX10_truly 147 = .ok (.iload 4, 2) := by decide +kernel
theorem dX10_truly_149 : decode cX10_truly 149 = .ok (.iload 7, 2) := by decide +kernel
theorem dX10_truly_151 : decode cX10_truly 151 = .ok (.iadd, 1) := by decide +kernel
theorem dX10_truly_152 : decode cX10_truly 152 = .ok (.istore 4, 2) := by decide +kernel
theorem dX10_truly_154 : decode cX10_truly 154 = .ok (.iinc 5 1, 3) := by decide +kernel
theorem dX10_truly_157 : decode cX10_truly 157 = .ok (.goto (-117), 3) := by decide +kernel
theorem dX10_truly_160 : decode cX10_truly 160 = .ok (.iload 4, 2) := by decide +kernel
theorem dX10_truly_162 : decode cX10_truly 162 = .ok (.ireturn, 1) := by decide +kernel
theorem dX10_left_0 : decode cX10_left 0 = .ok (.aload_n 0, 1) := by decide +kernel
theorem dX10_left_1 : decode cX10_left 1 = .ok (.iload_n 1, 1) := by decide +kernel
theorem dX10_left_2 : decode cX10_left 2 = .ok (.invokevirtual 144, 3) := by decide +kernel
theorem dX10_left_5 : decode cX10_left 5 = .ok (.ifCond .eq 24, 3) := by decide +kernel
theorem dX10_left_8 : decode cX10_left 8 = .ok (.aload_n 0, 1) := by decide +kernel
theorem dX10_left_9 : decode cX10_left 9 = .ok (.getfield 26, 3) := by decide +kernel
theorem dX10_left_12 : decode cX10_left 12 = .ok (.iload_n 2, 1) := by decide +kernel
theorem dX10_left_13 : decode cX10_left 13 = .ok (.invokevirtual 106, 3) := by decide +kernel
theorem dX10_left_16 : decode cX10_left 16 = .ok (.ifCond .eq 13, 3) := by decide +kernel
theorem dX10_left_19 : decode cX10_left 19 = .ok (.iload_n 3, 1) := by decide +kernel
theorem dX10_left_20 : decode cX10_left 20 = .ok (.iconst 0, 1) := by decide +kernel
theorem dX10_left_21 : decode cX10_left 21 = .ok (.bipush 20, 2) := by decide +kernel
theorem dX10_left_23 : decode cX10_left 23 = .ok (.invokestatic 88, 3) := by decide +kernel
theorem dX10_left_26 : decode cX10_left 26 = .ok (.ifCond .ne 5, 3) := by decide +kernel
theorem dX10_left_29 : decode cX10_left 29 = .ok (.iconst (-1), 1) := by decide +kernel
theorem dX10_left_30 : decode cX10_left 30 = .ok (.ireturn, 1) := by decide +kernel
theorem dX10_left_31 : decode cX10_left 31 = .ok (.aload_n 0, 1) := by decide +kernel
theorem dX10_left_32 : decode cX10_left 32 = .ok (.getfield 35, 3) := by decide +kernel
theorem dX10_left_35 : decode cX10_left 35 = .ok (.invokevirtual 153, 3) := by decide +kernel
theorem dX10_left_38 : decode cX10_left 38 = .ok (.aload_n 0, 1) := by decide +kernel
theorem dX10_left_39 : decode cX10_left 39 = .ok (.getfield 35, 3) := by decide +kernel
theorem dX10_left_42 : decode cX10_left 42 = .ok (.getfield 72, 3) := by decide +kernel
theorem dX10_left_45 : decode cX10_left 45 = .ok (.iload_n 1, 1) := by decide +kernel
theorem dX10_left_46 : decode cX10_left 46 = .ok (.aload_n 0, 1) := by decide +kernel
theorem dX10_left_47 : decode cX10_left 47 = .ok (.getfield 35, 3) := by decide +kernel
theorem dX10_left_50 : decode cX10_left 50 = .ok (.getfield 159, 3) := by decide +kernel
theorem dX10_left_53 : decode cX10_left 53 = .ok (.iload_n 2, 1) := by decide +kernel
theorem dX10_left_54 : decode cX10_left 54 = .ok (.iaload, 1) := by decide +kernel
theorem dX10_left_55 : decode cX10_left 55 = .ok (.invokevirtual 150, 3) := by decide +kernel
theorem dX10_left_58 : decode cX10_left 58 = .ok (.aload_n 0, 1) := by decide +kernel
theorem dX10_left_59 : decode cX10_left 59 = .ok (.getfield 35, 3) := by decide +kernel
theorem dX10_left_62 : decode cX10_left 62 = .ok (.getfield 156, 3) := by decide +kernel
theorem dX10_left_65 : decode cX10_left 65 = .ok (.iload_n 2, 1) := by decide +kernel
theorem dX10_left_66 : decode cX10_left 66 = .ok (.iaload, 1) := by decide +kernel
theorem dX10_left_67 : decode cX10_left 67 = .ok (.iand, 1) := by decide +kernel
theorem dX10_left_68 : decode cX10_left 68 = .ok (.istore 4, 2) := by decide +kernel
theorem dX10_left_70 : decode cX10_left 70 = .ok (.iconst 0, 1) := by decide +kernel
theorem dX10_left_71 : decode cX10_left 71 = .ok (.istore 5, 2) := by decide +kernel
theorem dX10_left_73 : decode cX10_left 73 = .ok (.iconst 0, 1) := by decide +kernel
theorem dX10_left_74 : decode cX10_left 74 = .ok (.istore 6, 2) := by decide +kernel
theorem dX10_left_76 : decode cX10_left 76 = .ok (.iload 6, 2) := by decide +kernel
theorem dX10_left_78 : decode cX10_left 78 = .ok (.aload_n 0, 1) := by decide +kernel
theorem dX10_left_79 : decode cX10_left 79 = .ok (.getfield 35, 3) := by decide +kernel
theorem dX10_left_82 : decode cX10_left 82 = .ok (.getfield 72, 3) := by decide +kernel
theorem dX10_left_85 : decode cX10_left 85 = .ok (.getfield 162, 3) := by decide +kernel
theorem dX10_left_88 : decode cX10_left 88 = .ok (.if_icmp .ge 36, 3) := by decide +kernel
theorem dX10_left_91 : decode cX10_left 91 = .ok (.iload 4, 2) := by decide +kernel
theorem dX10_left_93 : decode cX10_left 93 = .ok (.iload 6, 2) := by decide +kernel
theorem dX10_left_95 : decode cX10_left 95 = .ok (.invokestatic 135, 3) := by decide +kernel
theorem dX10_left_98 : decode cX10_left 98 = .ok (.iconst 1, 1) := by decide +kernel
theorem dX10_left_99 : decode cX10_left 99 = .ok (.if_icmp .ne 19, 3) := by decide +kernel
theorem dX10_left_102 : decode cX10_left 102 = .ok (.aload_n 0, 1) := by decide +kernel
theorem dX10_left_103 : decode cX10_left 103 = .ok (.getfield 35, 3) := by decide +kernel
theorem dX10_left_106 : decode cX10_left 106 = .ok (.iload 6, 2) := by decide +kernel
theorem dX10_left_108 : decode cX10_left 108 = .ok (.invokevirtual 165, 3) := by decide +kernel
theorem dX10_left_111 : decode cX10_left 111 = .ok (.iload_n 3, 1) := by decide +kernel
theorem dX10_left_112 : decode cX10_left 112 = .ok (.if_icmp .gt 6, 3) := by decide +kernel
theorem dX10_left_115 : decode cX10_left 115 = .ok (.iinc 5 1, 3) := by decide +kernel
theorem dX10_left_118 : decode cX10_left 118 = .ok (.iinc 6 1, 3) := by decide +kernel
theorem dX10_left_121 : decode cX10_left 121 = .ok (.goto (-45), 3) := by decide +kernel
theorem dX10_left_124 : decode cX10_left 124 = .ok (.iload 5, 2) := by decide +kernel
theorem dX10_left_126 : decode cX10_left 126 = .ok (.ireturn, 1) := by decide +kernel
theorem dX10_fit_0 : decode cX10_fit 0 = .ok (.aload_n 0, 1) := by decide +kernel
theorem dX10_fit_1 : decode cX10_fit 1 = .ok (.iload_n 1, 1) := by decide +kernel
theorem dX10_fit_2 : decode cX10_fit 2 = .ok (.invokevirtual 168, 3) := by decide +kernel
theorem dX10_fit_5 : decode cX10_fit 5 = .ok (.ifCond .eq 45, 3) := by decide +kernel
theorem dX10_fit_8 : decode cX10_fit 8 = .ok (.aload_n 0, 1) := by decide +kernel
theorem dX10_fit_9 : decode cX10_fit 9 = .ok (.iload_n 2, 1) := by decide +kernel
theorem dX10_fit_10 : decode cX10_fit 10 = .ok (.invokevirtual 144, 3) := by decide +kernel
theorem dX10_fit_13 : decode cX10_fit 13 = .ok (.ifCond .eq 37, 3) := by decide +kernel
theorem dX10_fit_16 : decode cX10_fit 16 = .ok (.aload_n 0, 1) := by decide +kernel
theorem dX10_fit_17 : decode cX10_fit 17 = .ok (.getfield 26, 3) := by decide +kernel
theorem dX10_fit_20 : decode cX10_fit 20 = .ok (.iload_n 3, 1) := by decide +kernel
theorem dX10_fit_21 : decode cX10_fit 21 = .ok (.invokevirtual 106, 3) := by decide +kernel
theorem dX10_fit_24 : decode cX10_fit 24 = .ok (.ifCond .eq 26, 3) := by decide +kernel
theorem dX10_fit_27 : decode cX10_fit 27 = .ok (.aload_n 0, 1) := by decide +kernel
theorem dX10_fit_28 : decode cX10_fit 28 = .ok (.getfield 26, 3) := by decide +kernel
theorem dX10_fit_31 : decode cX10_fit 31 = .ok (.iload 4, 2) := by decide +kernel
theorem dX10_fit_33 : decode cX10_fit 33 = .ok (.invokevirtual 106, 3) := by decide +kernel
theorem dX10_fit_36 : decode cX10_fit 36 = .ok (.ifCond .eq 14, 3) := by decide +kernel
theorem dX10_fit_39 : decode cX10_fit 39 = .ok (.iload 5, 2) := by decide +kernel
theorem dX10_fit_41 : decode cX10_fit 41 = .ok (.iconst 0, 1) := by decide +kernel
theorem dX10_fit_42 : decode cX10_fit 42 = .ok (.bipush 127, 2) := by decide +kernel
theorem dX10_fit_44 : decode cX10_fit 44 = .ok (.invokestatic 88, 3) := by decide +kernel
theorem dX10_fit_47 : decode cX10_fit 47 = .ok (.ifCond .ne 6, 3) := by decide +kernel
theorem dX10_fit_50 : decode cX10_fit 50 = .ok (.ldc 171, 2) := by decide +kernel
theorem dX10_fit_52 : decode cX10_fit 52 = .ok (.ireturn, 1) := by decide +kernel
theorem dX10_fit_53 : decode cX10_fit 53 = .ok (.aload_n 0, 1) := by decide +kernel
theorem dX10_fit_54 : decode cX10_fit 54 = .ok (.getfield 35, 3) := by decide +kernel
theorem dX10_fit_57 : decode cX10_fit 57 = .ok (.invokevirtual 153, 3) := by decide +kernel
theorem dX10_fit_60 : decode cX10_fit 60 = .ok (.aload_n 0, 1) := by decide +kernel
theorem dX10_fit_61 : decode cX10_fit 61 = .ok (.getfield 35, 3) := by decide +kernel
theorem dX10_fit_64 : decode cX10_fit 64 = .ok (.getfield 72, 3) := by decide +kernel
theorem dX10_fit_67 : decode cX10_fit 67 = .ok (.aload_n 0, 1) := by decide +kernel
theorem dX10_fit_68 : decode cX10_fit 68 = .ok (.getfield 35, 3) := by decide +kernel
theorem dX10_fit_71 : decode cX10_fit 71 = .ok (.getfield 72, 3) := by decide +kernel
theorem dX10_fit_74 : decode cX10_fit 74 = .ok (.iload_n 2, 1) := by decide +kernel
theorem dX10_fit_75 : decode cX10_fit 75 = .ok (.aload_n 0, 1) := by decide +kernel
theorem dX10_fit_76 : decode cX10_fit 76 = .ok (.getfield 35, 3) := by decide +kernel
theorem dX10_fit_79 : decode cX10_fit 79 = .ok (.getfield 159, 3) := by decide +kernel
theorem dX10_fit_82 : decode cX10_fit 82 = .ok (.iload 4, 2) := by decide +kernel
theorem dX10_fit_84 : decode cX10_fit 84 = .ok (.iaload, 1) := by decide +kernel
theorem dX10_fit_85 : decode cX10_fit 85 = .ok (.invokevirtual 150, 3) := by decide +kernel
theorem dX10_fit_88 : decode cX10_fit 88 = .ok (.iload 5, 2) := by decide +kernel
theorem dX10_fit_90 : decode cX10_fit 90 = .ok (.invokevirtual 172, 3) := by decide +kernel
theorem dX10_fit_93 : decode cX10_fit 93 = .ok (.istore 6, 2) := by decide +kernel
theorem dX10_fit_95 : decode cX10_fit 95 = .ok (.aload_n 0, 1) := by decide +kernel
theorem dX10_fit_96 : decode cX10_fit 96 = .ok (.getfield 35, 3) := by decide +kernel
theorem dX10_fit_99 : decode cX10_fit 99 = .ok (.iload_n 1, 1) := by decide +kernel
theorem dX10_fit_100 : decode cX10_fit 100 = .ok (.iload_n 3, 1) := by decide +kernel
theorem dX10_fit_101 : decode cX10_fit 101 = .ok (.iload 6, 2) := by decide +kernel
theorem dX10_fit_103 : decode cX10_fit 103 = .ok (.invokevirtual 175, 3) := by decide +kernel
theorem dX10_fit_106 : decode cX10_fit 106 = .ok (.ireturn, 1) := by decide +kernel
theorem dX10_choose_0 : decode cX10_choose 0 = .ok (.aload_n 0, 1) := by decide +kernel
theorem dX10_choose_1 : decode cX10_choose 1 = .ok (.iload_n 1, 1) := by decide +kernel
theorem dX10_choose_2 : decode cX10_choose 2 = .ok (.invokevirtual 168, 3) := by decide +kernel
theorem dX10_choose_5 : decode cX10_choose 5 = .ok (.ifCond .eq 46, 3) := by decide +kernel
theorem dX10_choose_8 : decode cX10_choose 8 = .ok (.aload_n 0, 1) := by decide +kernel
theorem dX10_choose_9 : decode cX10_choose 9 = .ok (.iload_n 2, 1) := by decide +kernel
theorem dX10_choose_10 : decode cX10_choose 10 = .ok (.invokevirtual 144, 3) := by decide +kernel
theorem dX10_choose_13 : decode cX10_choose 13 = .ok (.ifCond .eq 38, 3) := by decide +kernel
theorem dX10_choose_16 : decode cX10_choose 16 = .ok (.aload_n 0, 1) := by decide +kernel
theorem dX10_choose_17 : decode cX10_choose 17 = .ok (.getfield 26, 3) := by decide +kernel
theorem dX10_choose_20 : decode cX10_choose 20 = .ok (.iload_n 3, 1) := by decide +kernel
theorem dX10_choose_21 : decode cX10_choose 21 = .ok (.invokevirtual 106, 3) := by decide +kernel
theorem dX10_choose_24 : decode cX10_choose 24 = .ok (.ifCond .eq 27, 3) := by decide +kernel
theorem dX10_choose_27 : decode cX10_choose 27 = .ok (.aload_n 0, 1) := by decide +kernel
theorem dX10_choose_28 : decode cX10_choose 28 = .ok (.getfield 26, 3) := by decide +kernel
theorem dX10_choose_31 : decode cX10_choose 31 = .ok (.iload 4, 2) := by decide +kernel
theorem dX10_choose_33 : decode cX10_choose 33 = .ok (.invokevirtual 106, 3) := by decide +kernel
theorem dX10_choose_36 : decode cX10_choose 36 = .ok (.ifCond .eq 15, 3) := by decide +kernel
theorem dX10_choose_39 : decode cX10_choose 39 = .ok (.aload_n 0, 1) := by decide +kernel
theorem dX10_choose_40 : decode cX10_choose 40 = .ok (.getfield 26, 3) := by decide +kernel
theorem dX10_choose_43 : decode cX10_choose 43 = .ok (.iload 5, 2) := by decide +kernel
theorem dX10_choose_45 : decode cX10_choose 45 = .ok (.invokevirtual 106, 3) := by decide +kernel
theorem dX10_choose_48 : decode cX10_choose 48 = .ok (.ifCond .ne 5, 3) := by decide +kernel
theorem dX10_choose_51 : decode cX10_choose 51 = .ok (.iconst (-1), 1) := by decide +kernel
theorem dX10_choose_52 : decode cX10_choose 52 = .ok (.ireturn, 1) := by decide +kernel
theorem dX10_choose_53 : decode cX10_choose 53 = .ok (.iload_n 3, 1) := by decide +kernel
theorem dX10_choose_54 : decode cX10_choose 54 = .ok (.iload 4, 2) := by decide +kernel
theorem dX10_choose_56 : decode cX10_choose 56 = .ok (.if_icmp .eq 16, 3) := by decide +kernel
theorem dX10_choose_59 : decode cX10_choose 59 = .ok (.iload_n 3, 1) := by decide +kernel
theorem dX10_choose_60 : decode cX10_choose 60 = .ok (.iload 5, 2) := by decide +kernel
theorem dX10_choose_62 : decode cX10_choose 62 = .ok (.if_icmp .eq 10, 3) := by decide +kernel
theorem dX10_choose_65 : decode cX10_choose 65 = .ok (.iload 4, 2) := by decide +kernel
theorem dX10_choose_67 : decode cX10_choose 67 = .ok (.iload 5, 2) := by decide +kernel
theorem dX10_choose_69 : decode cX10_choose 69 = .ok (.if_icmp .ne 5, 3) := by decide +kernel
theorem dX10_choose_72 : decode cX10_choose 72 = .ok (.iconst (-1), 1) := by decide +kernel
theorem dX10_choose_73 : decode cX10_choose 73 = .ok (.ireturn, 1) := by decide +kernel
theorem dX10_choose_74 : decode cX10_choose 74 = .ok (.aload_n 0, 1) := by decide +kernel
theorem dX10_choose_75 : decode cX10_choose 75 = .ok (.getfield 35, 3) := by decide +kernel
theorem dX10_choose_78 : decode cX10_choose 78 = .ok (.invokevirtual 153, 3) := by decide +kernel
theorem dX10_choose_81 : decode cX10_choose 81 = .ok (.aload_n 0, 1) := by decide +kernel
theorem dX10_choose_82 : decode cX10_choose 82 = .ok (.getfield 35, 3) := by decide +kernel
theorem dX10_choose_85 : decode cX10_choose 85 = .ok (.iload_n 1, 1) := by decide +kernel
theorem dX10_choose_86 : decode cX10_choose 86 = .ok (.iload_n 2, 1) := by decide +kernel
theorem dX10_choose_87 : decode cX10_choose 87 = .ok (.iload_n 3, 1) := by decide +kernel
theorem dX10_choose_88 : decode cX10_choose 88 = .ok (.iload 4, 2) := by decide +kernel
theorem dX10_choose_90 : decode cX10_choose 90 = .ok (.iload 5, 2) := by decide +kernel
theorem dX10_choose_92 : decode cX10_choose 92 = .ok (.invokevirtual 179, 3) := by decide +kernel
theorem dX10_choose_95 : decode cX10_choose 95 = .ok (.ireturn, 1) := by decide +kernel
theorem dX10_trial_0 : decode cX10_trial 0 = .ok (.aload_n 0, 1) := by decide +kernel
theorem dX10_trial_1 : decode cX10_trial 1 = .ok (.iload_n 1, 1) := by decide +kernel
theorem dX10_trial_2 : decode cX10_trial 2 = .ok (.invokevirtual 168, 3) := by decide +kernel
theorem dX10_trial_5 : decode cX10_trial 5 = .ok (.ifCond .eq 22, 3) := by decide +kernel
theorem dX10_trial_8 : decode cX10_trial 8 = .ok (.aload_n 0, 1) := by decide +kernel
theorem dX10_trial_9 : decode cX10_trial 9 = .ok (.iload_n 2, 1) := by decide +kernel
theorem dX10_trial_10 : decode cX10_trial 10 = .ok (.invokevirtual 144, 3) := by decide +kernel
theorem dX10_trial_13 : decode cX10_trial 13 = .ok (.ifCond .eq 14, 3) := by decide +kernel
theorem dX10_trial_16 : decode cX10_trial 16 = .ok (.aload_n 0, 1) := by decide +kernel
theorem dX10_trial_17 : decode cX10_trial 17 = .ok (.getfield 26, 3) := by decide +kernel
theorem dX10_trial_20 : decode cX10_trial 20 = .ok (.getfield 84, 3) := by decide +kernel
theorem dX10_trial_23 : decode cX10_trial 23 = .ok (.iconst 3, 1) := by decide +kernel
theorem dX10_trial_24 : decode cX10_trial 24 = .ok (.if_icmp .ge 5, 3) := by decide +kernel
theorem dX10_trial_27 : decode cX10_trial 27 = .ok (.iconst (-1), 1) := by decide +kernel
theorem dX10_trial_28 : decode cX10_trial 28 = .ok (.ireturn, 1) := by decide +kernel
theorem dX10_trial_29 : decode cX10_trial 29 = .ok (.aload_n 0, 1) := by decide +kernel
theorem dX10_trial_30 : decode cX10_trial 30 = .ok (.getfield 35, 3) := by decide +kernel
theorem dX10_trial_33 : decode cX10_trial 33 = .ok (.invokevirtual 153, 3) := by decide +kernel
theorem dX10_trial_36 : decode cX10_trial 36 = .ok (.iconst 0, 1) := by decide +kernel
theorem dX10_trial_37 : decode cX10_trial 37 = .ok (.istore 4, 2) := by decide +kernel
theorem dX10_trial_39 : decode cX10_trial 39 = .ok (.iconst 0, 1) := by decide +kernel
theorem dX10_trial_40 : decode cX10_trial 40 = .ok (.istore 5, 2) := by decide +kernel
theorem dX10_trial_42 : decode cX10_trial 42 = .ok (.iload 5, 2) := by decide +kernel
theorem dX10_trial_44 : decode cX10_trial 44 = .ok (.aload_n 0, 1) := by decide +kernel
theorem dX10_trial_45 : decode cX10_trial 45 = .ok (.getfield 26, 3) := by decide +kernel
theorem dX10_trial_48 : decode cX10_trial 48 = .ok (.getfield 84, 3) := by decide +kernel
theorem dX10_trial_51 : decode cX10_trial 51 = .ok (.if_icmp .ge 55, 3) := by decide +kernel
theorem dX10_trial_54 : decode cX10_trial 54 = .ok (.aload_n 0, 1) := by decide +kernel
theorem dX10_trial_55 : decode cX10_trial 55 = .ok (.getfield 26, 3) := by decide +kernel
theorem dX10_trial_58 : decode cX10_trial 58 = .ok (.iload 5, 2) := by decide +kernel
theorem dX10_trial_60 : decode cX10_trial 60 = .ok (.iload_n 3, 1) := by decide +kernel
theorem dX10_trial_61 : decode cX10_trial 61 = .ok (.invokevirtual 183, 3) := by decide +kernel
theorem dX10_trial_64 : decode cX10_trial 64 = .ok (.istore 6, 2) := by decide +kernel
theorem dX10_trial_66 : decode cX10_trial 66 = .ok (.aload_n 0, 1) := by decide +kernel
theorem dX10_trial_67 : decode cX10_trial 67 = .ok (.getfield 26, 3) := by decide +kernel
theorem dX10_trial_70 : decode cX10_trial 70 = .ok (.iload 5, 2) := by decide +kernel
theorem dX10_trial_72 : decode cX10_trial 72 = .ok (.iload 6, 2) := by decide +kernel
theorem dX10_trial_74 : decode cX10_trial 74 = .ok (.iload_n 3, 1) := by decide +kernel
theorem dX10_trial_75 : decode cX10_trial 75 = .ok (.invokevirtual 186, 3) := by decide +kernel
theorem dX10_trial_78 : decode cX10_trial 78 = .ok (.istore 7, 2) := by decide +kernel
theorem dX10_trial_80 : decode cX10_trial 80 = .ok (.iload 4, 2) := by decide +kernel
theorem dX10_trial_82 : decode cX10_trial 82 = .ok (.aload_n 0, 1) := by decide +kernel
theorem dX10_trial_83 : decode cX10_trial 83 = .ok (.getfield 35, 3) := by decide +kernel
theorem dX10_trial_86 : decode cX10_trial 86 = .ok (.iload_n 1, 1) := by decide +kernel
theorem dX10_trial_87 : decode cX10_trial 87 = .ok (.iload_n 2, 1) := by decide +kernel
theorem dX10_trial_88 : decode cX10_trial 88 = .ok (.iload 5, 2) := by decide +kernel
theorem dX10_trial_90 : decode cX10_trial 90 = .ok (.iload 6, 2) := by decide +kernel
theorem dX10_trial_92 : decode cX10_trial 92 = .ok (.iload 7, 2) := by decide +kernel
theorem dX10_trial_94 : decode cX10_trial 94 = .ok (.invokevirtual 179, 3) := by decide +kernel
theorem dX10_trial_97 : decode cX10_trial 97 = .ok (.iadd, 1) := by decide +kernel
theorem dX10_trial_98 : decode cX10_trial 98 = .ok (.istore 4, 2) := by decide +kernel
theorem dX10_trial_100 : decode cX10_trial 100 = .ok (.iinc 5 1, 3) := by decide +kernel
theorem dX10_trial_103 : decode cX10_trial 103 = .ok (.goto (-61), 3) := by decide +kernel
theorem dX10_trial_106 : decode cX10_trial 106 = .ok (.iload 4, 2) := by decide +kernel
theorem dX10_trial_108 : decode cX10_trial 108 = .ok (.ireturn, 1) := by decide +kernel
theorem dX10_given_0 : decode cX10_given 0 = .ok (.aload_n 0, 1) := by decide +kernel
theorem dX10_given_1 : decode cX10_given 1 = .ok (.getfield 26, 3) := by decide +kernel
theorem dX10_given_4 : decode cX10_given 4 = .ok (.iload_n 1, 1) := by decide +kernel
theorem dX10_given_5 : decode cX10_given 5 = .ok (.invokevirtual 106, 3) := by decide +kernel
theorem dX10_given_8 : decode cX10_given 8 = .ok (.ifCond .eq 23, 3) := by decide +kernel
theorem dX10_given_11 : decode cX10_given 11 = .ok (.aload_n 0, 1) := by decide +kernel
theorem dX10_given_12 : decode cX10_given 12 = .ok (.getfield 26, 3) := by decide +kernel
theorem dX10_given_15 : decode cX10_given 15 = .ok (.getfield 84, 3) := by decide +kernel
theorem dX10_given_18 : decode cX10_given 18 = .ok (.iconst 3, 1) := by decide +kernel
theorem dX10_given_19 : decode cX10_given 19 = .ok (.if_icmp .lt 12, 3) := by decide +kernel
theorem dX10_given_22 : decode cX10_given 22 = .ok (.iload_n 3, 1) := by decide +kernel
theorem dX10_given_23 : decode cX10_given 23 = .ok (.iconst 0, 1) := by decide +kernel
theorem dX10_given_24 : decode cX10_given 24 = .ok (.iconst 1, 1) := by decide +kernel
theorem dX10_given_25 : decode cX10_given 25 = .ok (.invokestatic 88, 3) := by decide +kernel
theorem dX10_given_28 : decode cX10_given 28 = .ok (.ifCond .ne 5, 3) := by decide +kernel
theorem dX10_given_31 : decode cX10_given 31 = .ok (.iconst (-1), 1) := by decide +kernel
theorem dX10_given_32 : decode cX10_given 32 = .ok (.ireturn, 1) := by decide +kernel
theorem dX10_given_33 : decode cX10_given 33 = .ok (.aload_n 0, 1) := by decide +kernel
theorem dX10_given_34 : decode cX10_given 34 = .ok (.getfield 26, 3) := by decide +kernel
theorem dX10_given_37 : decode cX10_given 37 = .ok (.iload_n 1, 1) := by decide +kernel
theorem dX10_given_38 : decode cX10_given 38 = .ok (.iload_n 2, 1) := by decide +kernel
theorem dX10_given_39 : decode cX10_given 39 = .ok (.invokevirtual 183, 3) := by decide +kernel
theorem dX10_given_42 : decode cX10_given 42 = .ok (.istore 4, 2) := by decide +kernel
theorem dX10_given_44 : decode cX10_given 44 = .ok (.iload_n 3, 1) := by decide +kernel
theorem dX10_given_45 : decode cX10_given 45 = .ok (.ifCond .ne 8, 3) := by decide +kernel
theorem dX10_given_48 : decode cX10_given 48 = .ok (.iload 4, 2) := by decide +kernel
theorem dX10_given_50 : decode cX10_given 50 = .ok (.goto 14, 3) := by decide +kernel
theorem dX10_given_53 : decode cX10_given 53 = .ok (.aload_n 0, 1) := by decide +kernel
theorem dX10_given_54 : decode cX10_given 54 = .ok (.getfield 26, 3) := by decide +kernel
theorem dX10_given_57 : decode cX10_given 57 = .ok (.iload_n 1, 1) := by decide +kernel
theorem dX10_given_58 : decode cX10_given 58 = .ok (.iload 4, 2) := by decide +kernel
theorem dX10_given_60 : decode cX10_given 60 = .ok (.iload_n 2, 1) := by decide +kernel
theorem dX10_given_61 : decode cX10_given 61 = .ok (.invokevirtual 186, 3) := by decide +kernel
theorem dX10_given_64 : decode cX10_given 64 = .ok (.ireturn, 1) := by decide +kernel
theorem dX10_whole_0 : decode cX10_whole 0 = .ok (.aload_n 0, 1) := by decide +kernel
theorem dX10_whole_1 : decode cX10_whole 1 = .ok (.iload_n 1, 1) := by decide +kernel
theorem dX10_whole_2 : decode cX10_whole 2 = .ok (.invokevirtual 168, 3) := by decide +kernel
theorem dX10_whole_5 : decode cX10_whole 5 = .ok (.ifCond .eq 11, 3) := by decide +kernel
theorem dX10_whole_8 : decode cX10_whole 8 = .ok (.aload_n 0, 1) := by decide +kernel
theorem dX10_whole_9 : decode cX10_whole 9 = .ok (.iload_n 2, 1) := by decide +kernel
theorem dX10_whole_10 : decode cX10_whole 10 = .ok (.invokevirtual 144, 3) := by decide +kernel
theorem dX10_whole_13 : decode cX10_whole 13 = .ok (.ifCond .ne 5, 3) := by decide +kernel
theorem dX10_whole_16 : decode cX10_whole 16 = .ok (.iconst (-1), 1) := by decide +kernel
theorem dX10_whole_17 : decode cX10_whole 17 = .ok (.ireturn, 1) := by decide +kernel
theorem dX10_whole_18 : decode cX10_whole 18 = .ok (.aload_n 0, 1) := by decide +kernel
theorem dX10_whole_19 : decode cX10_whole 19 = .ok (.getfield 35, 3) := by decide +kernel
theorem dX10_whole_22 : decode cX10_whole 22 = .ok (.invokevirtual 153, 3) := by decide +kernel
theorem dX10_whole_25 : decode cX10_whole 25 = .ok (.iconst 0, 1) := by decide +kernel
theorem dX10_whole_26 : decode cX10_whole 26 = .ok (.istore_n 3, 1) := by decide +kernel
theorem dX10_whole_27 : decode cX10_whole 27 = .ok (.iconst 0, 1) := by decide +kernel
theorem dX10_whole_28 : decode cX10_whole 28 = .ok (.istore 4, 2) := by decide +kernel
theorem dX10_whole_30 : decode cX10_whole 30 = .ok (.iload 4, 2) := by decide +kernel
theorem dX10_whole_32 : decode cX10_whole 32 = .ok (.aload_n 0, 1) := by decide +kernel
theorem dX10_whole_33 : decode cX10_whole 33 = .ok (.getfield 26, 3) := by decide +kernel
theorem dX10_whole_36 : decode cX10_whole 36 = .ok (.getfield 84, 3) := by decide +kernel
theorem dX10_whole_39 : decode cX10_whole 39 = .ok (.if_icmp .ge 32, 3) := by decide +kernel
theorem dX10_whole_42 : decode cX10_whole 42 = .ok (.aload_n 0, 1) := by decide +kernel
theorem dX10_whole_43 : decode cX10_whole 43 = .ok (.getfield 35, 3) := by decide +kernel
theorem dX10_whole_46 : decode cX10_whole 46 = .ok (.iload_n 1, 1) := by decide +kernel
theorem dX10_whole_47 : decode cX10_whole 47 = .ok (.iload_n 2, 1) := by decide +kernel
theorem dX10_whole_48 : decode cX10_whole 48 = .ok (.iload 4, 2) := by decide +kernel
theorem dX10_whole_50 : decode cX10_whole 50 = .ok (.invokevirtual 189, 3) := by decide +kernel
theorem dX10_whole_53 : decode cX10_whole 53 = .ok (.iload_n 3, 1) := by decide +kernel
theorem dX10_whole_54 : decode cX10_whole 54 = .ok (.aload_n 0, 1) := by decide +kernel
theorem dX10_whole_55 : decode cX10_whole 55 = .ok (.getfield 35, 3) := by decide +kernel
theorem dX10_whole_58 : decode cX10_whole 58 = .ok (.iload 4, 2) := by decide +kernel
theorem dX10_whole_60 : decode cX10_whole 60 = .ok (.invokevirtual 192, 3) := by decide +kernel
theorem dX10_whole_63 : decode cX10_whole 63 = .ok (.iadd, 1) := by decide +kernel
theorem dX10_whole_64 : decode cX10_whole 64 = .ok (.istore_n 3, 1) := by decide +kernel
theorem dX10_whole_65 : decode cX10_whole 65 = .ok (.iinc 4 1, 3) := by decide +kernel
theorem dX10_whole_68 : decode cX10_whole 68 = .ok (.goto (-38), 3) := by decide +kernel
theorem dX10_whole_71 : decode cX10_whole 71 = .ok (.iload_n 3, 1) := by decide +kernel
theorem dX10_whole_72 : decode cX10_whole 72 = .ok (.ireturn, 1) := by decide +kernel
theorem dX10_pleased_0 : decode cX10_pleased 0 = .ok (.aload_n 0, 1) := by decide +kernel
theorem dX10_pleased_1 : decode cX10_pleased 1 = .ok (.iload_n 1, 1) := by decide +kernel
theorem dX10_pleased_2 : decode cX10_pleased 2 = .ok (.invokevirtual 168, 3) := by decide +kernel
theorem dX10_pleased_5 : decode cX10_pleased 5 = .ok (.ifCond .eq 11, 3) := by decide +kernel
theorem dX10_pleased_8 : decode cX10_pleased 8 = .ok (.aload_n 0, 1) := by decide +kernel
theorem dX10_pleased_9 : decode cX10_pleased 9 = .ok (.iload_n 2, 1) := by decide +kernel
theorem dX10_pleased_10 : decode cX10_pleased 10 = .ok (.invokevirtual 144, 3) := by decide +kernel
theorem dX10_pleased_13 : decode cX10_pleased 13 = .ok (.ifCond .ne 5, 3) := by decide +kernel
theorem dX10_pleased_16 : decode cX10_pleased 16 = .ok (.iconst (-1), 1) := by decide +kernel
theorem dX10_pleased_17 : decode cX10_pleased 17 = .ok (.ireturn, 1) := by decide +kernel
theorem dX10_pleased_18 : decode cX10_pleased 18 = .ok (.aload_n 0, 1) := by decide +kernel
theorem dX10_pleased_19 : decode cX10_pleased 19 = .ok (.getfield 35, 3) := by decide +kernel
theorem dX10_pleased_22 : decode cX10_pleased 22 = .ok (.invokevirtual 153, 3) := by decide +kernel
theorem dX10_pleased_25 : decode cX10_pleased 25 = .ok (.iconst 0, 1) := by decide +kernel
theorem dX10_pleased_26 : decode cX10_pleased 26 = .ok (.istore 5, 2) := by decide +kernel
theorem dX10_pleased_28 : decode cX10_pleased 28 = .ok (.iconst 0, 1) := by decide +kernel
theorem dX10_pleased_29 : decode cX10_pleased 29 = .ok (.istore 6, 2) := by decide +kernel
theorem dX10_pleased_31 : decode cX10_pleased 31 = .ok (.iload 6, 2) := by decide +kernel
theorem dX10_pleased_33 : decode cX10_pleased 33 = .ok (.aload_n 0, 1) := by decide +kernel
theorem dX10_pleased_34 : decode cX10_pleased 34 = .ok (.getfield 26, 3) := by decide +kernel
theorem dX10_pleased_37 : decode cX10_pleased 37 = .ok (.getfield 84, 3) := by decide +kernel
theorem dX10_pleased_40 : decode cX10_pleased 40 = .ok (.if_icmp .ge 67, 3) := by decide +kernel
theorem dX10_pleased_43 : decode cX10_pleased 43 = .ok (.iconst 0, 1) := by decide +kernel
theorem dX10_pleased_44 : decode cX10_pleased 44 = .ok (.istore 7, 2) := by decide +kernel
theorem dX10_pleased_46 : decode cX10_pleased 46 = .ok (.iload 7, 2) := by decide +kernel
theorem dX10_pleased_48 : decode cX10_pleased 48 = .ok (.aload_n 0, 1) := by decide +kernel
theorem dX10_pleased_49 : decode cX10_pleased 49 = .ok (.getfield 26, 3) := by decide +kernel
theorem dX10_pleased_52 : decode cX10_pleased 52 = .ok (.getfield 84, 3) := by decide +kernel
theorem dX10_pleased_55 : decode cX10_pleased 55 = .ok (.if_icmp .ge 46, 3) := by decide +kernel
theorem dX10_pleased_58 : decode cX10_pleased 58 = .ok (.iload 7, 2) := by decide +kernel
theorem dX10_pleased_60 : decode cX10_pleased 60 = .ok (.iload 6, 2) := by decide +kernel
theorem dX10_pleased_62 : decode cX10_pleased 62 = .ok (.if_icmp .eq 7, 3) := by decide +kernel
theorem dX10_pleased_65 : decode cX10_pleased 65 = .ok (.iconst 1, 1) := by decide +kernel
theorem dX10_pleased_66 : decode cX10_pleased 66 = .ok (.goto 4, 3) := by decide +kernel
theorem dX10_pleased_69 : decode cX10_pleased 69 = .ok (.iconst 0, 1) := by decide +kernel
theorem dX10_pleased_70 : decode cX10_pleased 70 = .ok (.iload 4, 2) := by decide +kernel
theorem dX10_pleased_72 : decode cX10_pleased 72 = .ok (.if_icmp .ne 23, 3) := by decide +kernel
theorem dX10_pleased_75 : decode cX10_pleased 75 = .ok (.aload_n 0, 1) := by decide +kernel
theorem dX10_pleased_76 : decode cX10_pleased 76 = .ok (.getfield 35, 3) := by decide +kernel
theorem dX10_pleased_79 : decode cX10_pleased 79 = .ok (.iload_n 1, 1) := by decide +kernel
theorem dX10_pleased_80 : decode cX10_pleased 80 = .ok (.iload_n 2, 1) := by decide +kernel
theorem dX10_pleased_81 : decode cX10_pleased 81 = .ok (.iload 6, 2) := by decide +kernel
theorem dX10_pleased_83 : decode cX10_pleased 83 = .ok (.iload 7, 2) := by decide +kernel
theorem dX10_pleased_85 : decode cX10_pleased 85 = .ok (.invokevirtual 195, 3) := by decide +kernel
theorem dX10_pleased_88 : decode cX10_pleased 88 = .ok (.iload_n 3, 1) := by decide +kernel
theorem dX10_pleased_89 : decode cX10_pleased 89 = .ok (.if_icmp .lt 6, 3) := by decide +kernel
theorem dX10_pleased_92 : decode cX10_pleased 92 = .ok (.iinc 5 1, 3) := by decide +kernel
theorem dX10_pleased_95 : decode cX10_pleased 95 = .ok (.iinc 7 1, 3) := by decide +kernel
theorem dX10_pleased_98 : decode cX10_pleased 98 = .ok (.goto (-52), 3) := by decide +kernel
theorem dX10_pleased_101 : decode cX10_pleased 101 = .ok (.iinc 6 1, 3) := by decide +kernel
theorem dX10_pleased_104 : decode cX10_pleased 104 = .ok (.goto (-73), 3) := by decide +kernel
theorem dX10_pleased_107 : decode cX10_pleased 107 = .ok (.iload 5, 2) := by decide +kernel
theorem dX10_pleased_109 : decode cX10_pleased 109 = .ok (.ireturn, 1) := by decide +kernel
theorem dX10_tail_0 : decode cX10_tail 0 = .ok (.iload_n 1, 1) := by decide +kernel
theorem dX10_tail_1 : decode cX10_tail 1 = .ok (.iconst 0, 1) := by decide +kernel
theorem dX10_tail_2 : decode cX10_tail 2 = .ok (.bipush 30, 2) := by decide +kernel
theorem dX10_tail_4 : decode cX10_tail 4 = .ok (.invokestatic 88, 3) := by decide +kernel
theorem dX10_tail_7 : decode cX10_tail 7 = .ok (.ifCond .eq 33, 3) := by decide +kernel
theorem dX10_tail_10 : decode cX10_tail 10 = .ok (.iload_n 2, 1) := by decide +kernel
theorem dX10_tail_11 : decode cX10_tail 11 = .ok (.iconst 0, 1) := by decide +kernel
theorem dX10_tail_12 : decode cX10_tail 12 = .ok (.bipush 31, 2) := by decide +kernel
theorem dX10_tail_14 : decode cX10_tail 14 = .ok (.invokestatic 88, 3) := by decide +kernel
theorem dX10_tail_17 : decode cX10_tail 17 = .ok (.ifCond .eq 23, 3) := by decide +kernel
theorem dX10_tail_20 : decode cX10_tail 20 = .ok (.iload 4, 2) := by decide +kernel
theorem dX10_tail_22 : decode cX10_tail 22 = .ok (.iconst 1, 1) := by decide +kernel
theorem dX10_tail_23 : decode cX10_tail 23 = .ok (.iconst 4, 1) := by decide +kernel
theorem dX10_tail_24 : decode cX10_tail 24 = .ok (.invokestatic 88, 3) := by decide +kernel
theorem dX10_tail_27 : decode cX10_tail 27 = .ok (.ifCond .eq 13, 3) := by decide +kernel
theorem dX10_tail_30 : decode cX10_tail 30 = .ok (.iload_n 3, 1) := by decide +kernel
theorem dX10_tail_31 : decode cX10_tail 31 = .ok (.iconst 0, 1) := by decide +kernel
theorem dX10_tail_32 : decode cX10_tail 32 = .ok (.iload 4, 2) := by decide +kernel
theorem dX10_tail_34 : decode cX10_tail 34 = .ok (.invokestatic 88, 3) := by decide +kernel
theorem dX10_tail_37 : decode cX10_tail 37 = .ok (.ifCond .ne 7, 3) := by decide +kernel
theorem dX10_tail_40 : decode cX10_tail 40 = .ok (.ldc2_w 199, 3) := by decide +kernel
theorem dX10_tail_43 : decode cX10_tail 43 = .ok (.lreturn, 1) := by decide +kernel
theorem dX10_tail_44 : decode cX10_tail 44 = .ok (.aload_n 0, 1) := by decide +kernel
theorem dX10_tail_45 : decode cX10_tail 45 = .ok (.getfield 49, 3) := by decide +kernel
theorem dX10_tail_48 : decode cX10_tail 48 = .ok (.iload_n 1, 1) := by decide +kernel
theorem dX10_tail_49 : decode cX10_tail 49 = .ok (.iload_n 2, 1) := by decide +kernel
theorem dX10_tail_50 : decode cX10_tail 50 = .ok (.iload_n 3, 1) := by decide +kernel
theorem dX10_tail_51 : decode cX10_tail 51 = .ok (.iload 4, 2) := by decide +kernel
theorem dX10_tail_53 : decode cX10_tail 53 = .ok (.invokevirtual 201, 3) := by decide +kernel
theorem dX10_tail_56 : decode cX10_tail 56 = .ok (.lreturn, 1) := by decide +kernel
theorem dX10_agree_0 : decode cX10_agree 0 = .ok (.iload_n 1, 1) := by decide +kernel
theorem dX10_agree_1 : decode cX10_agree 1 = .ok (.iconst 2, 1) := by decide +kernel
theorem dX10_agree_2 : decode cX10_agree 2 = .ok (.sipush 1000, 3) := by decide +kernel
theorem dX10_agree_5 : decode cX10_agree 5 = .ok (.invokestatic 88, 3) := by decide +kernel
theorem dX10_agree_8 : decode cX10_agree 8 = .ok (.ifCond .eq 23, 3) := by decide +kernel
theorem dX10_agree_11 : decode cX10_agree 11 = .ok (.iload_n 2, 1) := by decide +kernel
theorem dX10_agree_12 : decode cX10_agree 12 = .ok (.iconst 2, 1) := by decide +kernel
theorem dX10_agree_13 : decode cX10_agree 13 = .ok (.sipush 1000, 3) := by decide +kernel
theorem dX10_agree_16 : decode cX10_agree 16 = .ok (.invokestatic 88, 3) := by decide +kernel
theorem dX10_agree_19 : decode cX10_agree 19 = .ok (.ifCond .eq 12, 3) := by decide +kernel
theorem dX10_agree_22 : decode cX10_agree 22 = .ok (.iload_n 3, 1) := by decide +kernel
theorem dX10_agree_23 : decode cX10_agree 23 = .ok (.iconst 0, 1) := by decide +kernel
theorem dX10_agree_24 : decode cX10_agree 24 = .ok (.iconst 1, 1) := by decide +kernel
theorem dX10_agree_25 : decode cX10_agree 25 = .ok (.invokestatic 88, 3) := by decide +kernel
theorem dX10_agree_28 : decode cX10_agree 28 = .ok (.ifCond .ne 5, 3) := by decide +kernel
theorem dX10_agree_31 : decode cX10_agree 31 = .ok (.iconst (-1), 1) := by decide +kernel
theorem dX10_agree_32 : decode cX10_agree 32 = .ok (.ireturn, 1) := by decide +kernel
theorem dX10_agree_33 : decode cX10_agree 33 = .ok (.aload_n 0, 1) := by decide +kernel
theorem dX10_agree_34 : decode cX10_agree 34 = .ok (.getfield 49, 3) := by decide +kernel
theorem dX10_agree_37 : decode cX10_agree 37 = .ok (.iload_n 1, 1) := by decide +kernel
theorem dX10_agree_38 : decode cX10_agree 38 = .ok (.iload_n 2, 1) := by decide +kernel
theorem dX10_agree_39 : decode cX10_agree 39 = .ok (.iload_n 3, 1) := by decide +kernel
theorem dX10_agree_40 : decode cX10_agree 40 = .ok (.invokevirtual 205, 3) := by decide +kernel
theorem dX10_agree_43 : decode cX10_agree 43 = .ok (.ireturn, 1) := by decide +kernel
theorem dX10_table_0 : decode cX10_table 0 = .ok (.aload_n 0, 1) := by decide +kernel
theorem dX10_table_1 : decode cX10_table 1 = .ok (.iload_n 1, 1) := by decide +kernel
theorem dX10_table_2 : decode cX10_table 2 = .ok (.invokevirtual 208, 3) := by decide +kernel
theorem dX10_table_5 : decode cX10_table 5 = .ok (.ifCond .eq 20, 3) := by decide +kernel
theorem dX10_table_8 : decode cX10_table 8 = .ok (.aload_n 0, 1) := by decide +kernel
theorem dX10_table_9 : decode cX10_table 9 = .ok (.iload_n 2, 1) := by decide +kernel
theorem dX10_table_10 : decode cX10_table 10 = .ok (.invokevirtual 128, 3) := by decide +kernel
theorem dX10_table_13 : decode cX10_table 13 = .ok (.ifCond .eq 12, 3) := by decide +kernel
theorem dX10_table_16 : decode cX10_table 16 = .ok (.iload_n 3, 1) := by decide +kernel
theorem dX10_table_17 : decode cX10_table 17 = .ok (.iconst 0, 1) := by decide +kernel
theorem dX10_table_18 : decode cX10_table 18 = .ok (.iconst 3, 1) := by decide +kernel
theorem dX10_table_19 : decode cX10_table 19 = .ok (.invokestatic 88, 3) := by decide +kernel
theorem dX10_table_22 : decode cX10_table 22 = .ok (.ifCond .ne 5, 3) := by decide +kernel
theorem dX10_table_25 : decode cX10_table 25 = .ok (.iconst (-1), 1) := by decide +kernel
theorem dX10_table_26 : decode cX10_table 26 = .ok (.ireturn, 1) := by decide +kernel
theorem dX10_table_27 : decode cX10_table 27 = .ok (.aload_n 0, 1) := by decide +kernel
theorem dX10_table_28 : decode cX10_table 28 = .ok (.getfield 35, 3) := by decide +kernel
theorem dX10_table_31 : decode cX10_table 31 = .ok (.invokevirtual 153, 3) := by decide +kernel
theorem dX10_table_34 : decode cX10_table 34 = .ok (.aload_n 0, 1) := by decide +kernel
theorem dX10_table_35 : decode cX10_table 35 = .ok (.getfield 35, 3) := by decide +kernel
theorem dX10_table_38 : decode cX10_table 38 = .ok (.aload_n 0, 1) := by decide +kernel
theorem dX10_table_39 : decode cX10_table 39 = .ok (.getfield 56, 3) := by decide +kernel
theorem dX10_table_42 : decode cX10_table 42 = .ok (.iload_n 1, 1) := by decide +kernel
theorem dX10_table_43 : decode cX10_table 43 = .ok (.iload_n 2, 1) := by decide +kernel
theorem dX10_table_44 : decode cX10_table 44 = .ok (.invokevirtual 211, 3) := by decide +kernel
theorem dX10_table_47 : decode cX10_table 47 = .ok (.aload_n 0, 1) := by decide +kernel
theorem dX10_table_48 : decode cX10_table 48 = .ok (.getfield 56, 3) := by decide +kernel
theorem dX10_table_51 : decode cX10_table 51 = .ok (.iload_n 3, 1) := by decide +kernel
theorem dX10_table_52 : decode cX10_table 52 = .ok (.invokevirtual 215, 3) := by decide +kernel
theorem dX10_table_55 : decode cX10_table 55 = .ok (.ireturn, 1) := by decide +kernel
theorem dX10_chances_0 : decode cX10_chances 0 = .ok (.aload_n 0, 1) := by decide +kernel
theorem dX10_chances_1 : decode cX10_chances 1 = .ok (.iload_n 1, 1) := by decide +kernel
theorem dX10_chances_2 : decode cX10_chances 2 = .ok (.invokevirtual 208, 3) := by decide +kernel
theorem dX10_chances_5 : decode cX10_chances 5 = .ok (.ifCond .eq 11, 3) := by decide +kernel
theorem dX10_chances_8 : decode cX10_chances 8 = .ok (.aload_n 0, 1) := by decide +kernel
theorem dX10_chances_9 : decode cX10_chances 9 = .ok (.iload_n 2, 1) := by decide +kernel
theorem dX10_chances_10 : decode cX10_chances 10 = .ok (.invokevirtual 128, 3) := by decide +kernel
theorem dX10_chances_13 : decode cX10_chances 13 = .ok (.ifCond .ne 7, 3) := by decide +kernel
theorem dX10_chances_16 : decode cX10_chances 16 = .ok (.ldc2_w 199, 3) := by decide +kernel
theorem dX10_chances_19 : decode cX10_chances 19 = .ok (.lreturn, 1) := by decide +kernel
theorem dX10_chances_20 : decode cX10_chances 20 = .ok (.aload_n 0, 1) := by decide +kernel
theorem dX10_chances_21 : decode cX10_chances 21 = .ok (.getfield 35, 3) := by decide +kernel
theorem dX10_chances_24 : decode cX10_chances 24 = .ok (.invokevirtual 153, 3) := by decide +kernel
theorem dX10_chances_27 : decode cX10_chances 27 = .ok (.aload_n 0, 1) := by decide +kernel
theorem dX10_chances_28 : decode cX10_chances 28 = .ok (.getfield 35, 3) := by decide +kernel
theorem dX10_chances_31 : decode cX10_chances 31 = .ok (.aload_n 0, 1) := by decide +kernel
theorem dX10_chances_32 : decode cX10_chances 32 = .ok (.getfield 56, 3) := by decide +kernel
theorem dX10_chances_35 : decode cX10_chances 35 = .ok (.iload_n 1, 1) := by decide +kernel
theorem dX10_chances_36 : decode cX10_chances 36 = .ok (.iload_n 2, 1) := by decide +kernel
theorem dX10_chances_37 : decode cX10_chances 37 = .ok (.invokevirtual 211, 3) := by decide +kernel
theorem dX10_chances_40 : decode cX10_chances 40 = .ok (.iload_n 3, 1) := by decide +kernel
theorem dX10_chances_41 : decode cX10_chances 41 = .ok (.ifCond .eq 17, 3) := by decide +kernel
theorem dX10_chances_44 : decode cX10_chances 44 = .ok (.aload_n 0, 1) := by decide +kernel
theorem dX10_chances_45 : decode cX10_chances 45 = .ok (.getfield 49, 3) := by decide +kernel
theorem dX10_chances_48 : decode cX10_chances 48 = .ok (.aload_n 0, 1) := by decide +kernel
theorem dX10_chances_49 : decode cX10_chances 49 = .ok (.getfield 56, 3) := by decide +kernel
theorem dX10_chances_52 : decode cX10_chances 52 = .ok (.invokevirtual 218, 3) := by decide +kernel
theorem dX10_chances_55 : decode cX10_chances 55 = .ok (.goto 14, 3) := by decide +kernel
theorem dX10_chances_58 : decode cX10_chances 58 = .ok (.aload_n 0, 1) := by decide +kernel
theorem dX10_chances_59 : decode cX10_chances 59 = .ok (.getfield 49, 3) := by decide +kernel
theorem dX10_chances_62 : decode cX10_chances 62 = .ok (.aload_n 0, 1) := by decide +kernel
theorem dX10_chances_63 : decode cX10_chances 63 = .ok (.getfield 56, 3) := by decide +kernel
theorem dX10_chances_66 : decode cX10_chances 66 = .ok (.invokevirtual 222, 3) := by decide +kernel
theorem dX10_chances_69 : decode cX10_chances 69 = .ok (.lreturn, 1) := by decide +kernel
theorem dX10_within_0 : decode cX10_within 0 = .ok (.aload_n 0, 1) := by decide +kernel
theorem dX10_within_1 : decode cX10_within 1 = .ok (.iload_n 1, 1) := by decide +kernel
theorem dX10_within_2 : decode cX10_within 2 = .ok (.invokevirtual 208, 3) := by decide +kernel
theorem dX10_within_5 : decode cX10_within 5 = .ok (.ifCond .eq 20, 3) := by decide +kernel
theorem dX10_within_8 : decode cX10_within 8 = .ok (.aload_n 0, 1) := by decide +kernel
theorem dX10_within_9 : decode cX10_within 9 = .ok (.iload_n 2, 1) := by decide +kernel
theorem dX10_within_10 : decode cX10_within 10 = .ok (.invokevirtual 128, 3) := by decide +kernel
theorem dX10_within_13 : decode cX10_within 13 = .ok (.ifCond .eq 12, 3) := by decide +kernel
theorem dX10_within_16 : decode cX10_within 16 = .ok (.iload_n 3, 1) := by decide +kernel
theorem dX10_within_17 : decode cX10_within 17 = .ok (.iconst 0, 1) := by decide +kernel
theorem dX10_within_18 : decode cX10_within 18 = .ok (.iconst 2, 1) := by decide +kernel
theorem dX10_within_19 : decode cX10_within 19 = .ok (.invokestatic 88, 3) := by decide +kernel
theorem dX10_within_22 : decode cX10_within 22 = .ok (.ifCond .ne 7, 3) := by decide +kernel
theorem dX10_within_25 : decode cX10_within 25 = .ok (.ldc2_w 199, 3) := by decide +kernel
theorem dX10_within_28 : decode cX10_within 28 = .ok (.lreturn, 1) := by decide +kernel
theorem dX10_within_29 : decode cX10_within 29 = .ok (.aload_n 0, 1) := by decide +kernel
theorem dX10_within_30 : decode cX10_within 30 = .ok (.getfield 35, 3) := by decide +kernel
theorem dX10_within_33 : decode cX10_within 33 = .ok (.invokevirtual 153, 3) := by decide +kernel
theorem dX10_within_36 : decode cX10_within 36 = .ok (.aload_n 0, 1) := by decide +kernel
theorem dX10_within_37 : decode cX10_within 37 = .ok (.getfield 35, 3) := by decide +kernel
theorem dX10_within_40 : decode cX10_within 40 = .ok (.aload_n 0, 1) := by decide +kernel
theorem dX10_within_41 : decode cX10_within 41 = .ok (.getfield 56, 3) := by decide +kernel
theorem dX10_within_44 : decode cX10_within 44 = .ok (.iload_n 1, 1) := by decide +kernel
theorem dX10_within_45 : decode cX10_within 45 = .ok (.iload_n 2, 1) := by decide +kernel
theorem dX10_within_46 : decode cX10_within 46 = .ok (.invokevirtual 211, 3) := by decide +kernel
theorem dX10_within_49 : decode cX10_within 49 = .ok (.iload 4, 2) := by decide +kernel
theorem dX10_within_51 : decode cX10_within 51 = .ok (.ifCond .eq 13, 3) := by decide +kernel
theorem dX10_within_54 : decode cX10_within 54 = .ok (.aload_n 0, 1) := by decide +kernel
theorem dX10_within_55 : decode cX10_within 55 = .ok (.getfield 56, 3) := by decide +kernel
theorem dX10_within_58 : decode cX10_within 58 = .ok (.getfield 225, 3) := by decide +kernel
theorem dX10_within_61 : decode cX10_within 61 = .ok (.goto 4, 3) := by decide +kernel
theorem dX10_within_64 : decode cX10_within 64 = .ok (.iconst 0, 1) := by decide +kernel
theorem dX10_within_65 : decode cX10_within 65 = .ok (.istore 5, 2) := by decide +kernel
theorem dX10_within_67 : decode cX10_within 67 = .ok (.aload_n 0, 1) := by decide +kernel
theorem dX10_within_68 : decode cX10_within 68 = .ok (.getfield 49, 3) := by decide +kernel
theorem dX10_within_71 : decode cX10_within 71 = .ok (.invokevirtual 228, 3) := by decide +kernel
theorem dX10_within_74 : decode cX10_within 74 = .ok (.iconst 0, 1) := by decide +kernel
theorem dX10_within_75 : decode cX10_within 75 = .ok (.istore 6, 2) := by decide +kernel
theorem dX10_within_77 : decode cX10_within 77 = .ok (.iload 6, 2) := by decide +kernel
theorem dX10_within_79 : decode cX10_within 79 = .ok (.bipush 10, 2) := by decide +kernel
theorem dX10_within_81 : decode cX10_within 81 = .ok (.if_icmp .ge 36, 3) := by decide +kernel
theorem dX10_within_84 : decode cX10_within 84 = .ok (.aload_n 0, 1) := by decide +kernel
theorem dX10_within_85 : decode cX10_within 85 = .ok (.getfield 35, 3) := by decide +kernel
theorem dX10_within_88 : decode cX10_within 88 = .ok (.aload_n 0, 1) := by decide +kernel
theorem dX10_within_89 : decode cX10_within 89 = .ok (.getfield 56, 3) := by decide +kernel
theorem dX10_within_92 : decode cX10_within 92 = .ok (.iload_n 1, 1) := by decide +kernel
theorem dX10_within_93 : decode cX10_within 93 = .ok (.iload_n 2, 1) := by decide +kernel
theorem dX10_within_94 : decode cX10_within 94 = .ok (.iload_n 3, 1) := by decide +kernel
theorem dX10_within_95 : decode cX10_within 95 = .ok (.iload 6, 2) := by decide +kernel
theorem dX10_within_97 : decode cX10_within 97 = .ok (.invokevirtual 231, 3) := by decide +kernel
theorem dX10_within_100 : decode cX10_within 100 = .ok (.aload_n 0, 1) := by decide +kernel
theorem dX10_within_101 : decode cX10_within 101 = .ok (.getfield 49, 3) := by decide +kernel
theorem dX10_within_104 : decode cX10_within 104 = .ok (.aload_n 0, 1) := by decide +kernel
theorem dX10_within_105 : decode cX10_within 105 = .ok (.getfield 56, 3) := by decide +kernel
theorem dX10_within_108 : decode cX10_within 108 = .ok (.invokevirtual 235, 3) := by decide +kernel
theorem dX10_within_111 : decode cX10_within 111 = .ok (.iinc 6 1, 3) := by decide +kernel
theorem dX10_within_114 : decode cX10_within 114 = .ok (.goto (-37), 3) := by decide +kernel
theorem dX10_within_117 : decode cX10_within 117 = .ok (.aload_n 0, 1) := by decide +kernel
theorem dX10_within_118 : decode cX10_within 118 = .ok (.getfield 49, 3) := by decide +kernel
theorem dX10_within_121 : decode cX10_within 121 = .ok (.iload 5, 2) := by decide +kernel
theorem dX10_within_123 : decode cX10_within 123 = .ok (.invokevirtual 239, 3) := by decide +kernel
theorem dX10_within_126 : decode cX10_within 126 = .ok (.lreturn, 1) := by decide +kernel
theorem dX10_striking_0 : decode cX10_striking 0 = .ok (.aload_n 0, 1) := by decide +kernel
theorem dX10_striking_1 : decode cX10_striking 1 = .ok (.getfield 35, 3) := by decide +kernel
theorem dX10_striking_4 : decode cX10_striking 4 = .ok (.invokevirtual 153, 3) := by decide +kernel
theorem dX10_striking_7 : decode cX10_striking 7 = .ok (.iconst (-1), 1) := by decide +kernel
theorem dX10_striking_8 : decode cX10_striking 8 = .ok (.istore_n 1, 1) := by decide +kernel
theorem dX10_striking_9 : decode cX10_striking 9 = .ok (.lconst 0, 1) := by decide +kernel
theorem dX10_striking_10 : decode cX10_striking 10 = .ok (.lstore_n 2, 1) := by decide +kernel
theorem dX10_striking_11 : decode cX10_striking 11 = .ok (.lconst 0, 1) := by decide +kernel
theorem dX10_striking_12 : decode cX10_striking 12 = .ok (.lstore 4, 2) := by decide +kernel
theorem dX10_striking_14 : decode cX10_striking 14 = .ok (.iconst 0, 1) := by decide +kernel
theorem dX10_striking_15 : decode cX10_striking 15 = .ok (.istore 6, 2) := by decide +kernel
theorem dX10_striking_17 : decode cX10_striking 17 = .ok (.iload 6, 2) := by decide +kernel
theorem dX10_striking_19 : decode cX10_striking 19 = .ok (.aload_n 0, 1) := by decide +kernel
theorem dX10_striking_20 : decode cX10_striking 20 = .ok (.getfield 35, 3) := by decide +kernel
theorem dX10_striking_23 : decode cX10_striking 23 = .ok (.getfield 72, 3) := by decide +kernel
theorem dX10_striking_26 : decode cX10_striking 26 = .ok (.getfield 243, 3) := by decide +kernel
theorem dX10_striking_29 : decode cX10_striking 29 = .ok (.if_icmp .ge 108, 3) := by decide +kernel
theorem dX10_striking_32 : decode cX10_striking 32 = .ok (.iconst 0, 1) := by decide +kernel
theorem dX10_striking_33 : decode cX10_striking 33 = .ok (.istore 7, 2) := by decide +kernel
theorem dX10_striking_35 : decode cX10_striking 35 = .ok (.iload 7, 2) := by decide +kernel
theorem dX10_striking_37 : decode cX10_striking 37 = .ok (.aload_n 0, 1) := by decide +kernel
theorem dX10_striking_38 : decode cX10_striking 38 = .ok (.getfield 35, 3) := by decide +kernel
theorem dX10_striking_41 : decode cX10_striking 41 = .ok (.getfield 72, 3) := by decide +kernel
theorem dX10_striking_44 : decode cX10_striking 44 = .ok (.getfield 162, 3) := by decide +kernel
theorem dX10_striking_47 : decode cX10_striking 47 = .ok (.if_icmp .ge 84, 3) := by decide +kernel
theorem dX10_striking_50 : decode cX10_striking 50 = .ok (.aload_n 0, 1) := by decide +kernel
theorem dX10_striking_51 : decode cX10_striking 51 = .ok (.getfield 35, 3) := by decide +kernel
theorem dX10_striking_54 : decode cX10_striking 54 = .ok (.aload_n 0, 1) := by decide +kernel
theorem dX10_striking_55 : decode cX10_striking 55 = .ok (.getfield 56, 3) := by decide +kernel
theorem dX10_striking_58 : decode cX10_striking 58 = .ok (.iload 6, 2) := by decide +kernel
theorem dX10_striking_60 : decode cX10_striking 60 = .ok (.iload 7, 2) := by decide +kernel
theorem dX10_striking_62 : decode cX10_striking 62 = .ok (.invokevirtual 211, 3) := by decide +kernel
theorem dX10_striking_65 : decode cX10_striking 65 = .ok (.aload_n 0, 1) := by decide +kernel
theorem dX10_striking_66 : decode cX10_striking 66 = .ok (.getfield 49, 3) := by decide +kernel
theorem dX10_striking_69 : decode cX10_striking 69 = .ok (.aload_n 0, 1) := by decide +kernel
theorem dX10_striking_70 : decode cX10_striking 70 = .ok (.getfield 56, 3) := by decide +kernel
theorem dX10_striking_73 : decode cX10_striking 73 = .ok (.invokevirtual 218, 3) := by decide +kernel
theorem dX10_striking_76 : decode cX10_striking 76 = .ok (.lstore 8, 2) := by decide +kernel
theorem dX10_striking_78 : decode cX10_striking 78 = .ok (.aload_n 0, 1) := by decide +kernel
theorem dX10_striking_79 : decode cX10_striking 79 = .ok (.getfield 49, 3) := by decide +kernel
theorem dX10_striking_82 : decode cX10_striking 82 = .ok (.aload_n 0, 1) := by decide +kernel
theorem dX10_striking_83 : decode cX10_striking 83 = .ok (.getfield 56, 3) := by decide +kernel
theorem dX10_striking_86 : decode cX10_striking 86 = .ok (.invokevirtual 222, 3) := by decide +kernel
theorem dX10_striking_89 : decode cX10_striking 89 = .ok (.lstore 10, 2) := by decide +kernel
theorem dX10_striking_91 : decode cX10_striking 91 = .ok (.iload_n 1, 1) := by decide +kernel
theorem dX10_striking_92 : decode cX10_striking 92 = .ok (.iconst (-1), 1) := by decide +kernel
theorem dX10_striking_93 : decode cX10_striking 93 = .ok (.if_icmp .eq 16, 3) := by decide +kernel
theorem dX10_striking_96 : decode cX10_striking 96 = .ok (.lload 8, 2) := by decide +kernel
theorem dX10_striking_98 : decode cX10_striking 98 = .ok (.lload 4, 2) := by decide +kernel
theorem dX10_striking_100 : decode cX10_striking 100 = .ok (.lmul, 1) := by decide +kernel
theorem dX10_striking_101 : decode cX10_striking 101 = .ok (.lload_n 2, 1) := by decide +kernel
theorem dX10_striking_102 : decode cX10_striking 102 = .ok (.lload 10, 2) := by decide +kernel
theorem dX10_striking_104 : decode cX10_striking 104 = .ok (.lmul, 1) := by decide +kernel
theorem dX10_striking_105 : decode cX10_striking 105 = .ok (.lcmp, 1) := by decide +kernel
theorem dX10_striking_106 : decode cX10_striking 106 = .ok (.ifCond .ge 19, 3) := by decide +kernel
theorem dX10_striking_109 : decode cX10_striking 109 = .ok (.bipush 100, 2) := by decide +kernel
theorem dX10_striking_111 : decode cX10_striking 111 = .ok (.iload 6, 2) := by decide +kernel
theorem dX10_striking_113 : decode cX10_striking 113 = .ok (.imul, 1) := by decide +kernel
theorem dX10_striking_114 : decode cX10_striking 114 = .ok (.iload 7, 2) := by decide +kernel
theorem dX10_striking_116 : decode cX10_striking 116 = .ok (.iadd, 1) := by decide +kernel
theorem dX10_striking_117 : decode cX10_striking 117 = .ok (.istore_n 1, 1) := by decide +kernel
theorem dX10_striking_118 : decode cX10_striking 118 = .ok (.lload 8, 2) := by decide +kernel
theorem dX10_striking_120 : decode cX10_striking 120 = .ok (.lstore_n 2, 1) := by decide +kernel
theorem dX10_striking_121 : decode cX10_striking 121 = .ok (.lload 10, 2) := by decide +kernel
theorem dX10_striking_123 : decode cX10_striking 123 = .ok (.lstore 4, 2) := by decide +kernel
theorem dX10_striking_125 : decode cX10_striking 125 = .ok (.iinc 7 1, 3) := by decide +kernel
theorem dX10_striking_128 : decode cX10_striking 128 = .ok (.goto (-93), 3) := by decide +kernel
theorem dX10_striking_131 : decode cX10_striking 131 = .ok (.iinc 6 1, 3) := by decide +kernel
theorem dX10_striking_134 : decode cX10_striking 134 = .ok (.goto (-117), 3) := by decide +kernel
theorem dX10_striking_137 : decode cX10_striking 137 = .ok (.iload_n 1, 1) := by decide +kernel
theorem dX10_striking_138 : decode cX10_striking 138 = .ok (.ireturn, 1) := by decide +kernel
theorem dX10_bound_0 : decode cX10_bound 0 = .ok (.iload_n 1, 1) := by decide +kernel
theorem dX10_bound_1 : decode cX10_bound 1 = .ok (.iconst 1, 1) := by decide +kernel
theorem dX10_bound_2 : decode cX10_bound 2 = .ok (.sipush 10000, 3) := by decide +kernel
theorem dX10_bound_5 : decode cX10_bound 5 = .ok (.invokestatic 88, 3) := by decide +kernel
theorem dX10_bound_8 : decode cX10_bound 8 = .ok (.ifCond .ne 5, 3) := by decide +kernel
theorem dX10_bound_11 : decode cX10_bound 11 = .ok (.iconst (-1), 1) := by decide +kernel
theorem dX10_bound_12 : decode cX10_bound 12 = .ok (.ireturn, 1) := by decide +kernel
theorem dX10_bound_13 : decode cX10_bound 13 = .ok (.aload_n 0, 1) := by decide +kernel
theorem dX10_bound_14 : decode cX10_bound 14 = .ok (.getfield 35, 3) := by decide +kernel
theorem dX10_bound_17 : decode cX10_bound 17 = .ok (.invokevirtual 153, 3) := by decide +kernel
theorem dX10_bound_20 : decode cX10_bound 20 = .ok (.iconst 0, 1) := by decide +kernel
theorem dX10_bound_21 : decode cX10_bound 21 = .ok (.istore_n 2, 1) := by decide +kernel
theorem dX10_bound_22 : decode cX10_bound 22 = .ok (.iconst 0, 1) := by decide +kernel
theorem dX10_bound_23 : decode cX10_bound 23 = .ok (.istore_n 3, 1) := by decide +kernel
theorem dX10_bound_24 : decode cX10_bound 24 = .ok (.iload_n 3, 1) := by decide +kernel
theorem dX10_bound_25 : decode cX10_bound 25 = .ok (.aload_n 0, 1) := by decide +kernel
theorem dX10_bound_26 : decode cX10_bound 26 = .ok (.getfield 35, 3) := by decide +kernel
theorem dX10_bound_29 : decode cX10_bound 29 = .ok (.getfield 72, 3) := by decide +kernel
theorem dX10_bound_32 : decode cX10_bound 32 = .ok (.getfield 243, 3) := by decide +kernel
theorem dX10_bound_35 : decode cX10_bound 35 = .ok (.if_icmp .ge 79, 3) := by decide +kernel
theorem dX10_bound_38 : decode cX10_bound 38 = .ok (.iconst 0, 1) := by decide +kernel
theorem dX10_bound_39 : decode cX10_bound 39 = .ok (.istore 4, 2) := by decide +kernel
theorem dX10_bound_41 : decode cX10_bound 41 = .ok (.iload 4, 2) := by decide +kernel
theorem dX10_bound_43 : decode cX10_bound 43 = .ok (.aload_n 0, 1) := by decide +kernel
theorem dX10_bound_44 : decode cX10_bound 44 = .ok (.getfield 35, 3) := by decide +kernel
theorem dX10_bound_47 : decode cX10_bound 47 = .ok (.getfield 72, 3) := by decide +kernel
theorem dX10_bound_50 : decode cX10_bound 50 = .ok (.getfield 162, 3) := by decide +kernel
theorem dX10_bound_53 : decode cX10_bound 53 = .ok (.if_icmp .ge 55, 3) := by decide +kernel
theorem dX10_bound_56 : decode cX10_bound 56 = .ok (.aload_n 0, 1) := by decide +kernel
theorem dX10_bound_57 : decode cX10_bound 57 = .ok (.getfield 35, 3) := by decide +kernel
theorem dX10_bound_60 : decode cX10_bound 60 = .ok (.aload_n 0, 1) := by decide +kernel
theorem dX10_bound_61 : decode cX10_bound 61 = .ok (.getfield 56, 3) := by decide +kernel
theorem dX10_bound_64 : decode cX10_bound 64 = .ok (.iload_n 3, 1) := by decide +kernel
theorem dX10_bound_65 : decode cX10_bound 65 = .ok (.iload 4, 2) := by decide +kernel
theorem dX10_bound_67 : decode cX10_bound 67 = .ok (.invokevirtual 211, 3) := by decide +kernel
theorem dX10_bound_70 : decode cX10_bound 70 = .ok (.aload_n 0, 1) := by decide +kernel
theorem dX10_bound_71 : decode cX10_bound 71 = .ok (.getfield 49, 3) := by decide +kernel
theorem dX10_bound_74 : decode cX10_bound 74 = .ok (.aload_n 0, 1) := by decide +kernel
theorem dX10_bound_75 : decode cX10_bound 75 = .ok (.getfield 56, 3) := by decide +kernel
theorem dX10_bound_78 : decode cX10_bound 78 = .ok (.invokevirtual 218, 3) := by decide +kernel
theorem dX10_bound_81 : decode cX10_bound 81 = .ok (.iload_n 1, 1) := by decide +kernel
theorem dX10_bound_82 : decode cX10_bound 82 = .ok (.i2l, 1) := by decide +kernel
theorem dX10_bound_83 : decode cX10_bound 83 = .ok (.lmul, 1) := by decide +kernel
theorem dX10_bound_84 : decode cX10_bound 84 = .ok (.aload_n 0, 1) := by decide +kernel
theorem dX10_bound_85 : decode cX10_bound 85 = .ok (.getfield 49, 3) := by decide +kernel
theorem dX10_bound_88 : decode cX10_bound 88 = .ok (.aload_n 0, 1) := by decide +kernel
theorem dX10_bound_89 : decode cX10_bound 89 = .ok (.getfield 56, 3) := by decide +kernel
theorem dX10_bound_92 : decode cX10_bound 92 = .ok (.invokevirtual 222, 3) := by decide +kernel
theorem dX10_bound_95 : decode cX10_bound 95 = .ok (.lcmp, 1) := by decide +kernel
theorem dX10_bound_96 : decode cX10_bound 96 = .ok (.ifCond .gt 6, 3) := by decide +kernel
theorem dX10_bound_99 : decode cX10_bound 99 = .ok (.iinc 2 1, 3) := by decide +kernel
theorem dX10_bound_102 : decode cX10_bound 102 = .ok (.iinc 4 1, 3) := by decide +kernel
theorem dX10_bound_105 : decode cX10_bound 105 = .ok (.goto (-64), 3) := by decide +kernel
theorem dX10_bound_108 : decode cX10_bound 108 = .ok (.iinc 3 1, 3) := by decide +kernel
theorem dX10_bound_111 : decode cX10_bound 111 = .ok (.goto (-87), 3) := by decide +kernel
theorem dX10_bound_114 : decode cX10_bound 114 = .ok (.iload_n 2, 1) := by decide +kernel
theorem dX10_bound_115 : decode cX10_bound 115 = .ok (.ireturn, 1) := by decide +kernel
theorem dX10_choice_0 : decode cX10_choice 0 = .ok (.aload_n 0, 1) := by decide +kernel
theorem dX10_choice_1 : decode cX10_choice 1 = .ok (.getfield 26, 3) := by decide +kernel
theorem dX10_choice_4 : decode cX10_choice 4 = .ok (.iload_n 1, 1) := by decide +kernel
theorem dX10_choice_5 : decode cX10_choice 5 = .ok (.invokevirtual 106, 3) := by decide +kernel
theorem dX10_choice_8 : decode cX10_choice 8 = .ok (.ifCond .eq 12, 3) := by decide +kernel
theorem dX10_choice_11 : decode cX10_choice 11 = .ok (.iload_n 3, 1) := by decide +kernel
theorem dX10_choice_12 : decode cX10_choice 12 = .ok (.iconst 1, 1) := by decide +kernel
theorem dX10_choice_13 : decode cX10_choice 13 = .ok (.iconst 5, 1) := by decide +kernel
theorem dX10_choice_14 : decode cX10_choice 14 = .ok (.invokestatic 88, 3) := by decide +kernel
theorem dX10_choice_17 : decode cX10_choice 17 = .ok (.ifCond .ne 5, 3) := by decide +kernel
theorem dX10_choice_20 : decode cX10_choice 20 = .ok (.iconst (-1), 1) := by decide +kernel
theorem dX10_choice_21 : decode cX10_choice 21 = .ok (.ireturn, 1) := by decide +kernel
theorem dX10_choice_22 : decode cX10_choice 22 = .ok (.aload_n 0, 1) := by decide +kernel
theorem dX10_choice_23 : decode cX10_choice 23 = .ok (.getfield 42, 3) := by decide +kernel
theorem dX10_choice_26 : decode cX10_choice 26 = .ok (.iload_n 2, 1) := by decide +kernel
theorem dX10_choice_27 : decode cX10_choice 27 = .ok (.ifCond .eq 7, 3) := by decide +kernel
theorem dX10_choice_30 : decode cX10_choice 30 = .ok (.iconst 0, 1) := by decide +kernel
theorem dX10_choice_31 : decode cX10_choice 31 = .ok (.goto 4, 3) := by decide +kernel
theorem dX10_choice_34 : decode cX10_choice 34 = .ok (.iconst 1, 1) := by decide +kernel
theorem dX10_choice_35 : decode cX10_choice 35 = .ok (.iload_n 1, 1) := by decide +kernel
theorem dX10_choice_36 : decode cX10_choice 36 = .ok (.iload_n 3, 1) := by decide +kernel
theorem dX10_choice_37 : decode cX10_choice 37 = .ok (.invokevirtual 246, 3) := by decide +kernel
theorem dX10_choice_40 : decode cX10_choice 40 = .ok (.ireturn, 1) := by decide +kernel
theorem dX10_list_0 : decode cX10_list 0 = .ok (.aload_n 0, 1) := by decide +kernel
theorem dX10_list_1 : decode cX10_list 1 = .ok (.getfield 26, 3) := by decide +kernel
theorem dX10_list_4 : decode cX10_list 4 = .ok (.iload_n 1, 1) := by decide +kernel
theorem dX10_list_5 : decode cX10_list 5 = .ok (.invokevirtual 106, 3) := by decide +kernel
theorem dX10_list_8 : decode cX10_list 8 = .ok (.ifCond .ne 5, 3) := by decide +kernel
theorem dX10_list_11 : decode cX10_list 11 = .ok (.iconst (-1), 1) := by decide +kernel
theorem dX10_list_12 : decode cX10_list 12 = .ok (.ireturn, 1) := by decide +kernel
theorem dX10_list_13 : decode cX10_list 13 = .ok (.aload_n 0, 1) := by decide +kernel
theorem dX10_list_14 : decode cX10_list 14 = .ok (.getfield 42, 3) := by decide +kernel
theorem dX10_list_17 : decode cX10_list 17 = .ok (.iload_n 2, 1) := by decide +kernel
theorem dX10_list_18 : decode cX10_list 18 = .ok (.ifCond .eq 7, 3) := by decide +kernel
theorem dX10_list_21 : decode cX10_list 21 = .ok (.iconst 2, 1) := by decide +kernel
theorem dX10_list_22 : decode cX10_list 22 = .ok (.goto 4, 3) := by decide +kernel
theorem dX10_list_25 : decode cX10_list 25 = .ok (.iconst 3, 1) := by decide +kernel
theorem dX10_list_26 : decode cX10_list 26 = .ok (.iload_n 1, 1) := by decide +kernel
theorem dX10_list_27 : decode cX10_list 27 = .ok (.iconst 0, 1) := by decide +kernel
theorem dX10_list_28 : decode cX10_list 28 = .ok (.invokevirtual 246, 3) := by decide +kernel
theorem dX10_list_31 : decode cX10_list 31 = .ok (.ireturn, 1) := by decide +kernel
theorem dX10_tried_0 : decode cX10_tried 0 = .ok (.aload_n 0, 1) := by decide +kernel
theorem dX10_tried_1 : decode cX10_tried 1 = .ok (.iload_n 1, 1) := by decide +kernel
theorem dX10_tried_2 : decode cX10_tried 2 = .ok (.invokevirtual 208, 3) := by decide +kernel
theorem dX10_tried_5 : decode cX10_tried 5 = .ok (.ifCond .eq 13, 3) := by decide +kernel
theorem dX10_tried_8 : decode cX10_tried 8 = .ok (.iload_n 2, 1) := by decide +kernel
theorem dX10_tried_9 : decode cX10_tried 9 = .ok (.iconst 0, 1) := by decide +kernel
theorem dX10_tried_10 : decode cX10_tried 10 = .ok (.bipush 9, 2) := by decide +kernel
theorem dX10_tried_12 : decode cX10_tried 12 = .ok (.invokestatic 88, 3) := by decide +kernel
theorem dX10_tried_15 : decode cX10_tried 15 = .ok (.ifCond .ne 5, 3) := by decide +kernel
theorem dX10_tried_18 : decode cX10_tried 18 = .ok (.iconst (-1), 1) := by decide +kernel
theorem dX10_tried_19 : decode cX10_tried 19 = .ok (.ireturn, 1) := by decide +kernel
theorem dX10_tried_20 : decode cX10_tried 20 = .ok (.aload_n 0, 1) := by decide +kernel
theorem dX10_tried_21 : decode cX10_tried 21 = .ok (.getfield 42, 3) := by decide +kernel
theorem dX10_tried_24 : decode cX10_tried 24 = .ok (.iconst 4, 1) := by decide +kernel
theorem dX10_tried_25 : decode cX10_tried 25 = .ok (.iload_n 1, 1) := by decide +kernel
theorem dX10_tried_26 : decode cX10_tried 26 = .ok (.iload_n 2, 1) := by decide +kernel
theorem dX10_tried_27 : decode cX10_tried 27 = .ok (.invokevirtual 246, 3) := by decide +kernel
theorem dX10_tried_30 : decode cX10_tried 30 = .ok (.ireturn, 1) := by decide +kernel
theorem dX10_annul_0 : decode cX10_annul 0 = .ok (.aload_n 0, 1) := by decide +kernel
theorem dX10_annul_1 : decode cX10_annul 1 = .ok (.getfield 42, 3) := by decide +kernel
theorem dX10_annul_4 : decode cX10_annul 4 = .ok (.iload_n 1, 1) := by decide +kernel
theorem dX10_annul_5 : decode cX10_annul 5 = .ok (.invokevirtual 249, 3) := by decide +kernel
theorem dX10_annul_8 : decode cX10_annul 8 = .ok (.ifCond .eq 16, 3) := by decide +kernel
theorem dX10_annul_11 : decode cX10_annul 11 = .ok (.aload_n 0, 1) := by decide +kernel
theorem dX10_annul_12 : decode cX10_annul 12 = .ok (.getfield 42, 3) := by decide +kernel
theorem dX10_annul_15 : decode cX10_annul 15 = .ok (.getfield 250, 3) := by decide +kernel
theorem dX10_annul_18 : decode cX10_annul 18 = .ok (.iload_n 1, 1) := by decide +kernel
theorem dX10_annul_19 : decode cX10_annul 19 = .ok (.iaload, 1) := by decide +kernel
theorem dX10_annul_20 : decode cX10_annul 20 = .ok (.iconst 5, 1) := by decide +kernel
theorem dX10_annul_21 : decode cX10_annul 21 = .ok (.if_icmp .ne 5, 3) := by decide +kernel
theorem dX10_annul_24 : decode cX10_annul 24 = .ok (.iconst (-1), 1) := by decide +kernel
theorem dX10_annul_25 : decode cX10_annul 25 = .ok (.ireturn, 1) := by decide +kernel
theorem dX10_annul_26 : decode cX10_annul 26 = .ok (.aload_n 0, 1) := by decide +kernel
theorem dX10_annul_27 : decode cX10_annul 27 = .ok (.getfield 42, 3) := by decide +kernel
theorem dX10_annul_30 : decode cX10_annul 30 = .ok (.iconst 5, 1) := by decide +kernel
theorem dX10_annul_31 : decode cX10_annul 31 = .ok (.iload_n 1, 1) := by decide +kernel
theorem dX10_annul_32 : decode cX10_annul 32 = .ok (.iconst 0, 1) := by decide +kernel
theorem dX10_annul_33 : decode cX10_annul 33 = .ok (.invokevirtual 246, 3) := by decide +kernel
theorem dX10_annul_36 : decode cX10_annul 36 = .ok (.ireturn, 1) := by decide +kernel
theorem dX10_choices_0 : decode cX10_choices 0 = .ok (.aload_n 0, 1) := by decide +kernel
theorem dX10_choices_1 : decode cX10_choices 1 = .ok (.getfield 42, 3) := by decide +kernel
theorem dX10_choices_4 : decode cX10_choices 4 = .ok (.iload_n 1, 1) := by decide +kernel
theorem dX10_choices_5 : decode cX10_choices 5 = .ok (.invokevirtual 253, 3) := by decide +kernel
theorem dX10_choices_8 : decode cX10_choices 8 = .ok (.ifCond .eq 12, 3) := by decide +kernel
theorem dX10_choices_11 : decode cX10_choices 11 = .ok (.iload_n 2, 1) := by decide +kernel
theorem dX10_choices_12 : decode cX10_choices 12 = .ok (.iconst 0, 1) := by decide +kernel
theorem dX10_choices_13 : decode cX10_choices 13 = .ok (.iconst 3, 1) := by decide +kernel
theorem dX10_choices_14 : decode cX10_choices 14 = .ok (.invokestatic 88, 3) := by decide +kernel
theorem dX10_choices_17 : decode cX10_choices 17 = .ok (.ifCond .ne 5, 3) := by decide +kernel
theorem dX10_choices_20 : decode cX10_choices 20 = .ok (.iconst (-1), 1) := by decide +kernel
theorem dX10_choices_21 : decode cX10_choices 21 = .ok (.ireturn, 1) := by decide +kernel
theorem dX10_choices_22 : decode cX10_choices 22 = .ok (.aload_n 0, 1) := by decide +kernel
theorem dX10_choices_23 : decode cX10_choices 23 = .ok (.getfield 42, 3) := by decide +kernel
theorem dX10_choices_26 : decode cX10_choices 26 = .ok (.iload_n 1, 1) := by decide +kernel
theorem dX10_choices_27 : decode cX10_choices 27 = .ok (.invokevirtual 256, 3) := by decide +kernel
theorem dX10_choices_30 : decode cX10_choices 30 = .ok (.iload_n 2, 1) := by decide +kernel
theorem dX10_choices_31 : decode cX10_choices 31 = .ok (.ifCond .ne 23, 3) := by decide +kernel
theorem dX10_choices_34 : decode cX10_choices 34 = .ok (.aload_n 0, 1) := by decide +kernel
theorem dX10_choices_35 : decode cX10_choices 35 = .ok (.getfield 42, 3) := by decide +kernel
theorem dX10_choices_38 : decode cX10_choices 38 = .ok (.iconst 0, 1) := by decide +kernel
theorem dX10_choices_39 : decode cX10_choices 39 = .ok (.iconst 0, 1) := by decide +kernel
theorem dX10_choices_40 : decode cX10_choices 40 = .ok (.invokevirtual 259, 3) := by decide +kernel
theorem dX10_choices_43 : decode cX10_choices 43 = .ok (.aload_n 0, 1) := by decide +kernel
theorem dX10_choices_44 : decode cX10_choices 44 = .ok (.getfield 42, 3) := by decide +kernel
theorem dX10_choices_47 : decode cX10_choices 47 = .ok (.iconst 1, 1) := by decide +kernel
theorem dX10_choices_48 : decode cX10_choices 48 = .ok (.iconst 0, 1) := by decide +kernel
theorem dX10_choices_49 : decode cX10_choices 49 = .ok (.invokevirtual 259, 3) := by decide +kernel
theorem dX10_choices_52 : decode cX10_choices 52 = .ok (.iadd, 1) := by decide +kernel
theorem dX10_choices_53 : decode cX10_choices 53 = .ok (.ireturn, 1) := by decide +kernel
theorem dX10_choices_54 : decode cX10_choices 54 = .ok (.iload_n 2, 1) := by decide +kernel
theorem dX10_choices_55 : decode cX10_choices 55 = .ok (.iconst 1, 1) := by decide +kernel
theorem dX10_choices_56 : decode cX10_choices 56 = .ok (.if_icmp .ne 13, 3) := by decide +kernel
theorem dX10_choices_59 : decode cX10_choices 59 = .ok (.aload_n 0, 1) := by decide +kernel
theorem dX10_choices_60 : decode cX10_choices 60 = .ok (.getfield 42, 3) := by decide +kernel
theorem dX10_choices_63 : decode cX10_choices 63 = .ok (.iconst 0, 1) := by decide +kernel
theorem dX10_choices_64 : decode cX10_choices 64 = .ok (.iconst 0, 1) := by decide +kernel
theorem dX10_choices_65 : decode cX10_choices 65 = .ok (.invokevirtual 259, 3) := by decide +kernel
theorem dX10_choices_68 : decode cX10_choices 68 = .ok (.ireturn, 1) := by decide +kernel
theorem dX10_choices_69 : decode cX10_choices 69 = .ok (.aload_n 0, 1) := by decide +kernel
theorem dX10_choices_70 : decode cX10_choices 70 = .ok (.getfield 42, 3) := by decide +kernel
theorem dX10_choices_73 : decode cX10_choices 73 = .ok (.iload_n 2, 1) := by decide +kernel
theorem dX10_choices_74 : decode cX10_choices 74 = .ok (.iconst 2, 1) := by decide +kernel
theorem dX10_choices_75 : decode cX10_choices 75 = .ok (.if_icmp .ne 7, 3) := by decide +kernel
theorem dX10_choices_78 : decode cX10_choices 78 = .ok (.iconst 0, 1) := by decide +kernel
theorem dX10_choices_79 : decode cX10_choices 79 = .ok (.goto 4, 3) := by decide +kernel
theorem dX10_choices_82 : decode cX10_choices 82 = .ok (.iconst 1, 1) := by decide +kernel
theorem dX10_choices_83 : decode cX10_choices 83 = .ok (.iconst 1, 1) := by decide +kernel
theorem dX10_choices_84 : decode cX10_choices 84 = .ok (.invokevirtual 259, 3) := by decide +kernel
theorem dX10_choices_87 : decode cX10_choices 87 = .ok (.ireturn, 1) := by decide +kernel
theorem dX10_sure_0 : decode cX10_sure 0 = .ok (.aload_n 0, 1) := by decide +kernel
theorem dX10_sure_1 : decode cX10_sure 1 = .ok (.getfield 42, 3) := by decide +kernel
theorem dX10_sure_4 : decode cX10_sure 4 = .ok (.iload_n 1, 1) := by decide +kernel
theorem dX10_sure_5 : decode cX10_sure 5 = .ok (.invokevirtual 253, 3) := by decide +kernel
theorem dX10_sure_8 : decode cX10_sure 8 = .ok (.ifCond .eq 21, 3) := by decide +kernel
theorem dX10_sure_11 : decode cX10_sure 11 = .ok (.iload_n 2, 1) := by decide +kernel
theorem dX10_sure_12 : decode cX10_sure 12 = .ok (.iconst 1, 1) := by decide +kernel
theorem dX10_sure_13 : decode cX10_sure 13 = .ok (.iconst 5, 1) := by decide +kernel
theorem dX10_sure_14 : decode cX10_sure 14 = .ok (.invokestatic 88, 3) := by decide +kernel
theorem dX10_sure_17 : decode cX10_sure 17 = .ok (.ifCond .eq 12, 3) := by decide +kernel
theorem dX10_sure_20 : decode cX10_sure 20 = .ok (.iload_n 3, 1) := by decide +kernel
theorem dX10_sure_21 : decode cX10_sure 21 = .ok (.iconst 0, 1) := by decide +kernel
theorem dX10_sure_22 : decode cX10_sure 22 = .ok (.iconst 1, 1) := by decide +kernel
theorem dX10_sure_23 : decode cX10_sure 23 = .ok (.invokestatic 88, 3) := by decide +kernel
theorem dX10_sure_26 : decode cX10_sure 26 = .ok (.ifCond .ne 5, 3) := by decide +kernel
theorem dX10_sure_29 : decode cX10_sure 29 = .ok (.iconst (-1), 1) := by decide +kernel
theorem dX10_sure_30 : decode cX10_sure 30 = .ok (.ireturn, 1) := by decide +kernel
theorem dX10_sure_31 : decode cX10_sure 31 = .ok (.aload_n 0, 1) := by decide +kernel
theorem dX10_sure_32 : decode cX10_sure 32 = .ok (.getfield 42, 3) := by decide +kernel
theorem dX10_sure_35 : decode cX10_sure 35 = .ok (.iload_n 1, 1) := by decide +kernel
theorem dX10_sure_36 : decode cX10_sure 36 = .ok (.invokevirtual 256, 3) := by decide +kernel
theorem dX10_sure_39 : decode cX10_sure 39 = .ok (.aload_n 0, 1) := by decide +kernel
theorem dX10_sure_40 : decode cX10_sure 40 = .ok (.getfield 42, 3) := by decide +kernel
theorem dX10_sure_43 : decode cX10_sure 43 = .ok (.iconst 0, 1) := by decide +kernel
theorem dX10_sure_44 : decode cX10_sure 44 = .ok (.iload_n 2, 1) := by decide +kernel
theorem dX10_sure_45 : decode cX10_sure 45 = .ok (.invokevirtual 263, 3) := by decide +kernel
theorem dX10_sure_48 : decode cX10_sure 48 = .ok (.istore 4, 2) := by decide +kernel
theorem dX10_sure_50 : decode cX10_sure 50 = .ok (.iload_n 3, 1) := by decide +kernel
theorem dX10_sure_51 : decode cX10_sure 51 = .ok (.iconst 1, 1) := by decide +kernel
theorem dX10_sure_52 : decode cX10_sure 52 = .ok (.if_icmp .ne 8, 3) := by decide +kernel
theorem dX10_sure_55 : decode cX10_sure 55 = .ok (.iload 4, 2) := by decide +kernel
theorem dX10_sure_57 : decode cX10_sure 57 = .ok (.goto 15, 3) := by decide +kernel
theorem dX10_sure_60 : decode cX10_sure 60 = .ok (.iload 4, 2) := by decide +kernel
theorem dX10_sure_62 : decode cX10_sure 62 = .ok (.aload_n 0, 1) := by decide +kernel
theorem dX10_sure_63 : decode cX10_sure 63 = .ok (.getfield 42, 3) := by decide +kernel
theorem dX10_sure_66 : decode cX10_sure 66 = .ok (.iconst 1, 1) := by decide +kernel
theorem dX10_sure_67 : decode cX10_sure 67 = .ok (.iload_n 2, 1) := by decide +kernel
theorem dX10_sure_68 : decode cX10_sure 68 = .ok (.invokevirtual 263, 3) := by decide +kernel
theorem dX10_sure_71 : decode cX10_sure 71 = .ok (.iadd, 1) := by decide +kernel
theorem dX10_sure_72 : decode cX10_sure 72 = .ok (.ireturn, 1) := by decide +kernel
theorem dX10_surer_0 : decode cX10_surer 0 = .ok (.aload_n 0, 1) := by decide +kernel
theorem dX10_surer_1 : decode cX10_surer 1 = .ok (.getfield 42, 3) := by decide +kernel
theorem dX10_surer_4 : decode cX10_surer 4 = .ok (.iload_n 1, 1) := by decide +kernel
theorem dX10_surer_5 : decode cX10_surer 5 = .ok (.invokevirtual 253, 3) := by decide +kernel
theorem dX10_surer_8 : decode cX10_surer 8 = .ok (.ifCond .eq 12, 3) := by decide +kernel
theorem dX10_surer_11 : decode cX10_surer 11 = .ok (.iload_n 2, 1) := by decide +kernel
theorem dX10_surer_12 : decode cX10_surer 12 = .ok (.iconst 0, 1) := by decide +kernel
theorem dX10_surer_13 : decode cX10_surer 13 = .ok (.iconst 2, 1) := by decide +kernel
theorem dX10_surer_14 : decode cX10_surer 14 = .ok (.invokestatic 88, 3) := by decide +kernel
theorem dX10_surer_17 : decode cX10_surer 17 = .ok (.ifCond .ne 5, 3) := by decide +kernel
theorem dX10_surer_20 : decode cX10_surer 20 = .ok (.iconst (-1), 1) := by decide +kernel
theorem dX10_surer_21 : decode cX10_surer 21 = .ok (.ireturn, 1) := by decide +kernel
theorem dX10_surer_22 : decode cX10_surer 22 = .ok (.aload_n 0, 1) := by decide +kernel
theorem dX10_surer_23 : decode cX10_surer 23 = .ok (.getfield 42, 3) := by decide +kernel
theorem dX10_surer_26 : decode cX10_surer 26 = .ok (.iload_n 1, 1) := by decide +kernel
theorem dX10_surer_27 : decode cX10_surer 27 = .ok (.invokevirtual 256, 3) := by decide +kernel
theorem dX10_surer_30 : decode cX10_surer 30 = .ok (.iconst 0, 1) := by decide +kernel
theorem dX10_surer_31 : decode cX10_surer 31 = .ok (.istore_n 3, 1) := by decide +kernel
theorem dX10_surer_32 : decode cX10_surer 32 = .ok (.iconst 1, 1) := by decide +kernel
theorem dX10_surer_33 : decode cX10_surer 33 = .ok (.istore 4, 2) := by decide +kernel
theorem dX10_surer_35 : decode cX10_surer 35 = .ok (.iload 4, 2) := by decide +kernel
theorem dX10_surer_37 : decode cX10_surer 37 = .ok (.iconst 5, 1) := by decide +kernel
theorem dX10_surer_38 : decode cX10_surer 38 = .ok (.if_icmp .gt 61, 3) := by decide +kernel
theorem dX10_surer_41 : decode cX10_surer 41 = .ok (.iconst 1, 1) := by decide +kernel
theorem dX10_surer_42 : decode cX10_surer 42 = .ok (.istore 5, 2) := by decide +kernel
theorem dX10_surer_44 : decode cX10_surer 44 = .ok (.iload 5, 2) := by decide +kernel
theorem dX10_surer_46 : decode cX10_surer 46 = .ok (.iconst 5, 1) := by decide +kernel
theorem dX10_surer_47 : decode cX10_surer 47 = .ok (.if_icmp .gt 46, 3) := by decide +kernel
theorem dX10_surer_50 : decode cX10_surer 50 = .ok (.iconst 1, 1) := by decide +kernel
theorem dX10_surer_51 : decode cX10_surer 51 = .ok (.iload 4, 2) := by decide +kernel
theorem dX10_surer_53 : decode cX10_surer 53 = .ok (.iload 5, 2) := by decide +kernel
theorem dX10_surer_55 : decode cX10_surer 55 = .ok (.invokestatic 266, 3) := by decide +kernel
theorem dX10_surer_58 : decode cX10_surer 58 = .ok (.isub, 1) := by decide +kernel
theorem dX10_surer_59 : decode cX10_surer 59 = .ok (.iload_n 2, 1) := by decide +kernel
theorem dX10_surer_60 : decode cX10_surer 60 = .ok (.if_icmp .ne 27, 3) := by decide +kernel
theorem dX10_surer_63 : decode cX10_surer 63 = .ok (.iload_n 3, 1) := by decide +kernel
theorem dX10_surer_64 : decode cX10_surer 64 = .ok (.aload_n 0, 1) := by decide +kernel
theorem dX10_surer_65 : decode cX10_surer 65 = .ok (.getfield 42, 3) := by decide +kernel
theorem dX10_surer_68 : decode cX10_surer 68 = .ok (.iconst 0, 1) := by decide +kernel
theorem dX10_surer_69 : decode cX10_surer 69 = .ok (.iload 4, 2) := by decide +kernel
theorem dX10_surer_71 : decode cX10_surer 71 = .ok (.invokevirtual 263, 3) := by decide +kernel
theorem dX10_surer_74 : decode cX10_surer 74 = .ok (.aload_n 0, 1) := by decide +kernel
theorem dX10_surer_75 : decode cX10_surer 75 = .ok (.getfield 42, 3) := by decide +kernel
theorem dX10_surer_78 : decode cX10_surer 78 = .ok (.iconst 1, 1) := by decide +kernel
theorem dX10_surer_79 : decode cX10_surer 79 = .ok (.iload 5, 2) := by decide +kernel
theorem dX10_surer_81 : decode cX10_surer 81 = .ok (.invokevirtual 263, 3) := by decide +kernel
theorem dX10_surer_84 : decode cX10_surer 84 = .ok (.imul, 1) := by decide +kernel
theorem dX10_surer_85 : decode cX10_surer 85 = .ok (.iadd, 1) := by decide +kernel
theorem dX10_surer_86 : decode cX10_surer 86 = .ok (.istore_n 3, 1) := by decide +kernel
theorem dX10_surer_87 : decode cX10_surer 87 = .ok (.iinc 5 1, 3) := by decide +kernel
theorem dX10_surer_90 : decode cX10_surer 90 = .ok (.goto (-46), 3) := by decide +kernel
theorem dX10_surer_93 : decode cX10_surer 93 = .ok (.iinc 4 1, 3) := by decide +kernel
theorem dX10_surer_96 : decode cX10_surer 96 = .ok (.goto (-61), 3) := by decide +kernel
theorem dX10_surer_99 : decode cX10_surer 99 = .ok (.iload_n 3, 1) := by decide +kernel
theorem dX10_surer_100 : decode cX10_surer 100 = .ok (.ireturn, 1) := by decide +kernel
theorem dX10_on_0 : decode cX10_on 0 = .ok (.aload_n 0, 1) := by decide +kernel
theorem dX10_on_1 : decode cX10_on 1 = .ok (.getfield 26, 3) := by decide +kernel
theorem dX10_on_4 : decode cX10_on 4 = .ok (.iload_n 1, 1) := by decide +kernel
theorem dX10_on_5 : decode cX10_on 5 = .ok (.invokevirtual 106, 3) := by decide +kernel
theorem dX10_on_8 : decode cX10_on 8 = .ok (.ifCond .eq 14, 3) := by decide +kernel
theorem dX10_on_11 : decode cX10_on 11 = .ok (.aload_n 0, 1) := by decide +kernel
theorem dX10_on_12 : decode cX10_on 12 = .ok (.getfield 42, 3) := by decide +kernel
theorem dX10_on_15 : decode cX10_on 15 = .ok (.iload_n 2, 1) := by decide +kernel
theorem dX10_on_16 : decode cX10_on 16 = .ok (.invokevirtual 253, 3) := by decide +kernel
theorem dX10_on_19 : decode cX10_on 19 = .ok (.ifCond .ne 5, 3) := by decide +kernel
theorem dX10_on_22 : decode cX10_on 22 = .ok (.iconst (-1), 1) := by decide +kernel
theorem dX10_on_23 : decode cX10_on 23 = .ok (.ireturn, 1) := by decide +kernel
theorem dX10_on_24 : decode cX10_on 24 = .ok (.aload_n 0, 1) := by decide +kernel
theorem dX10_on_25 : decode cX10_on 25 = .ok (.getfield 42, 3) := by decide +kernel
theorem dX10_on_28 : decode cX10_on 28 = .ok (.iload_n 2, 1) := by decide +kernel
theorem dX10_on_29 : decode cX10_on 29 = .ok (.invokevirtual 256, 3) := by decide +kernel
theorem dX10_on_32 : decode cX10_on 32 = .ok (.aload_n 0, 1) := by decide +kernel
theorem dX10_on_33 : decode cX10_on 33 = .ok (.getfield 42, 3) := by decide +kernel
theorem dX10_on_36 : decode cX10_on 36 = .ok (.iload_n 1, 1) := by decide +kernel
theorem dX10_on_37 : decode cX10_on 37 = .ok (.invokevirtual 271, 3) := by decide +kernel
theorem dX10_on_40 : decode cX10_on 40 = .ok (.ifCond .eq 7, 3) := by decide +kernel
theorem dX10_on_43 : decode cX10_on 43 = .ok (.iconst 1, 1) := by decide +kernel
theorem dX10_on_44 : decode cX10_on 44 = .ok (.goto 4, 3) := by decide +kernel
theorem dX10_on_47 : decode cX10_on 47 = .ok (.iconst 0, 1) := by decide +kernel
theorem dX10_on_48 : decode cX10_on 48 = .ok (.ireturn, 1) := by decide +kernel
theorem dX10_red_0 : decode cX10_red 0 = .ok (.aload_n 0, 1) := by decide +kernel
theorem dX10_red_1 : decode cX10_red 1 = .ok (.iload_n 1, 1) := by decide +kernel
theorem dX10_red_2 : decode cX10_red 2 = .ok (.invokevirtual 208, 3) := by decide +kernel
theorem dX10_red_5 : decode cX10_red 5 = .ok (.ifCond .eq 23, 3) := by decide +kernel
theorem dX10_red_8 : decode cX10_red 8 = .ok (.aload_n 0, 1) := by decide +kernel
theorem dX10_red_9 : decode cX10_red 9 = .ok (.getfield 42, 3) := by decide +kernel
theorem dX10_red_12 : decode cX10_red 12 = .ok (.iload_n 2, 1) := by decide +kernel
theorem dX10_red_13 : decode cX10_red 13 = .ok (.invokevirtual 253, 3) := by decide +kernel
theorem dX10_red_16 : decode cX10_red 16 = .ok (.ifCond .eq 12, 3) := by decide +kernel
theorem dX10_red_19 : decode cX10_red 19 = .ok (.iload_n 3, 1) := by decide +kernel
theorem dX10_red_20 : decode cX10_red 20 = .ok (.iconst 0, 1) := by decide +kernel
theorem dX10_red_21 : decode cX10_red 21 = .ok (.iconst 4, 1) := by decide +kernel
theorem dX10_red_22 : decode cX10_red 22 = .ok (.invokestatic 88, 3) := by decide +kernel
theorem dX10_red_25 : decode cX10_red 25 = .ok (.ifCond .ne 5, 3) := by decide +kernel
theorem dX10_red_28 : decode cX10_red 28 = .ok (.iconst (-1), 1) := by decide +kernel
theorem dX10_red_29 : decode cX10_red 29 = .ok (.ireturn, 1) := by decide +kernel
theorem dX10_red_30 : decode cX10_red 30 = .ok (.aload_n 0, 1) := by decide +kernel
theorem dX10_red_31 : decode cX10_red 31 = .ok (.getfield 35, 3) := by decide +kernel
theorem dX10_red_34 : decode cX10_red 34 = .ok (.invokevirtual 153, 3) := by decide +kernel
theorem dX10_red_37 : decode cX10_red 37 = .ok (.aload_n 0, 1) := by decide +kernel
theorem dX10_red_38 : decode cX10_red 38 = .ok (.iload_n 1, 1) := by decide +kernel
theorem dX10_red_39 : decode cX10_red 39 = .ok (.iload_n 2, 1) := by decide +kernel
theorem dX10_red_40 : decode cX10_red 40 = .ok (.invokevirtual 274, 3) := by decide +kernel
theorem dX10_red_43 : decode cX10_red 43 = .ok (.iload_n 3, 1) := by decide +kernel
theorem dX10_red_44 : decode cX10_red 44 = .ok (.tableswitch 64 0 3 #[32, 40, 48, 56], 32) := by decide +kernel
theorem dX10_red_76 : decode cX10_red 76 = .ok (.aload_n 0, 1) := by decide +kernel
theorem dX10_red_77 : decode cX10_red 77 = .ok (.getfield 56, 3) := by decide +kernel
theorem dX10_red_80 : decode cX10_red 80 = .ok (.getfield 277, 3) := by decide +kernel
theorem dX10_red_83 : decode cX10_red 83 = .ok (.ireturn, 1) := by decide +kernel
theorem dX10_red_84 : decode cX10_red 84 = .ok (.aload_n 0, 1) := by decide +kernel
theorem dX10_red_85 : decode cX10_red 85 = .ok (.getfield 56, 3) := by decide +kernel
theorem dX10_red_88 : decode cX10_red 88 = .ok (.getfield 225, 3) := by decide +kernel
theorem dX10_red_91 : decode cX10_red 91 = .ok (.ireturn, 1) := by decide +kernel
theorem dX10_red_92 : decode cX10_red 92 = .ok (.aload_n 0, 1) := by decide +kernel
theorem dX10_red_93 : decode cX10_red 93 = .ok (.getfield 56, 3) := by decide +kernel
theorem dX10_red_96 : decode cX10_red 96 = .ok (.getfield 280, 3) := by decide +kernel
theorem dX10_red_99 : decode cX10_red 99 = .ok (.ireturn, 1) := by decide +kernel
theorem dX10_red_100 : decode cX10_red 100 = .ok (.aload_n 0, 1) := by decide +kernel
theorem dX10_red_101 : decode cX10_red 101 = .ok (.getfield 42, 3) := by decide +kernel
theorem dX10_red_104 : decode cX10_red 104 = .ok (.invokevirtual 283, 3) := by decide +kernel
theorem dX10_red_107 : decode cX10_red 107 = .ok (.ireturn, 1) := by decide +kernel
theorem dX10_red_108 : decode cX10_red 108 = .ok (.aload_n 0, 1) := by decide +kernel
theorem dX10_red_109 : decode cX10_red 109 = .ok (.invokevirtual 286, 3) := by decide +kernel
theorem dX10_red_112 : decode cX10_red 112 = .ok (.ifCond .eq 7, 3) := by decide +kernel
theorem dX10_red_115 : decode cX10_red 115 = .ok (.iconst 1, 1) := by decide +kernel
theorem dX10_red_116 : decode cX10_red 116 = .ok (.goto 4, 3) := by decide +kernel
theorem dX10_red_119 : decode cX10_red 119 = .ok (.iconst 0, 1) := by decide +kernel
theorem dX10_red_120 : decode cX10_red 120 = .ok (.ireturn, 1) := by decide +kernel
theorem dX10_odds_0 : decode cX10_odds 0 = .ok (.aload_n 0, 1) := by decide +kernel
theorem dX10_odds_1 : decode cX10_odds 1 = .ok (.iload_n 1, 1) := by decide +kernel
theorem dX10_odds_2 : decode cX10_odds 2 = .ok (.invokevirtual 208, 3) := by decide +kernel
theorem dX10_odds_5 : decode cX10_odds 5 = .ok (.ifCond .eq 14, 3) := by decide +kernel
theorem dX10_odds_8 : decode cX10_odds 8 = .ok (.aload_n 0, 1) := by decide +kernel
theorem dX10_odds_9 : decode cX10_odds 9 = .ok (.getfield 42, 3) := by decide +kernel
theorem dX10_odds_12 : decode cX10_odds 12 = .ok (.iload_n 2, 1) := by decide +kernel
theorem dX10_odds_13 : decode cX10_odds 13 = .ok (.invokevirtual 253, 3) := by decide +kernel
theorem dX10_odds_16 : decode cX10_odds 16 = .ok (.ifCond .ne 7, 3) := by decide +kernel
theorem dX10_odds_19 : decode cX10_odds 19 = .ok (.ldc2_w 199, 3) := by decide +kernel
theorem dX10_odds_22 : decode cX10_odds 22 = .ok (.lreturn, 1) := by decide +kernel
theorem dX10_odds_23 : decode cX10_odds 23 = .ok (.aload_n 0, 1) := by decide +kernel
theorem dX10_odds_24 : decode cX10_odds 24 = .ok (.getfield 35, 3) := by decide +kernel
theorem dX10_odds_27 : decode cX10_odds 27 = .ok (.invokevirtual 153, 3) := by decide +kernel
theorem dX10_odds_30 : decode cX10_odds 30 = .ok (.aload_n 0, 1) := by decide +kernel
theorem dX10_odds_31 : decode cX10_odds 31 = .ok (.iload_n 1, 1) := by decide +kernel
theorem dX10_odds_32 : decode cX10_odds 32 = .ok (.iload_n 2, 1) := by decide +kernel
theorem dX10_odds_33 : decode cX10_odds 33 = .ok (.invokevirtual 274, 3) := by decide +kernel
theorem dX10_odds_36 : decode cX10_odds 36 = .ok (.iload_n 3, 1) := by decide +kernel
theorem dX10_odds_37 : decode cX10_odds 37 = .ok (.ifCond .eq 17, 3) := by decide +kernel
theorem dX10_odds_40 : decode cX10_odds 40 = .ok (.aload_n 0, 1) := by decide +kernel
theorem dX10_odds_41 : decode cX10_odds 41 = .ok (.getfield 49, 3) := by decide +kernel
theorem dX10_odds_44 : decode cX10_odds 44 = .ok (.aload_n 0, 1) := by decide +kernel
theorem dX10_odds_45 : decode cX10_odds 45 = .ok (.getfield 56, 3) := by decide +kernel
theorem dX10_odds_48 : decode cX10_odds 48 = .ok (.invokevirtual 218, 3) := by decide +kernel
theorem dX10_odds_51 : decode cX10_odds 51 = .ok (.goto 14, 3) := by decide +kernel
theorem dX10_odds_54 : decode cX10_odds 54 = .ok (.aload_n 0, 1) := by decide +kernel
theorem dX10_odds_55 : decode cX10_odds 55 = .ok (.getfield 49, 3) := by decide +kernel
theorem dX10_odds_58 : decode cX10_odds 58 = .ok (.aload_n 0, 1) := by decide +kernel
theorem dX10_odds_59 : decode cX10_odds 59 = .ok (.getfield 56, 3) := by decide +kernel
theorem dX10_odds_62 : decode cX10_odds 62 = .ok (.invokevirtual 222, 3) := by decide +kernel
theorem dX10_odds_65 : decode cX10_odds 65 = .ok (.lreturn, 1) := by decide +kernel
theorem dX10_turned_0 : decode cX10_turned 0 = .ok (.aload_n 0, 1) := by decide +kernel
theorem dX10_turned_1 : decode cX10_turned 1 = .ok (.iload_n 1, 1) := by decide +kernel
theorem dX10_turned_2 : decode cX10_turned 2 = .ok (.invokevirtual 208, 3) := by decide +kernel
theorem dX10_turned_5 : decode cX10_turned 5 = .ok (.ifCond .eq 14, 3) := by decide +kernel
theorem dX10_turned_8 : decode cX10_turned 8 = .ok (.aload_n 0, 1) := by decide +kernel
theorem dX10_turned_9 : decode cX10_turned 9 = .ok (.getfield 42, 3) := by decide +kernel
theorem dX10_turned_12 : decode cX10_turned 12 = .ok (.iload_n 2, 1) := by decide +kernel
theorem dX10_turned_13 : decode cX10_turned 13 = .ok (.invokevirtual 249, 3) := by decide +kernel
theorem dX10_turned_16 : decode cX10_turned 16 = .ok (.ifCond .ne 5, 3) := by decide +kernel
theorem dX10_turned_19 : decode cX10_turned 19 = .ok (.iconst (-1), 1) := by decide +kernel
theorem dX10_turned_20 : decode cX10_turned 20 = .ok (.ireturn, 1) := by decide +kernel
theorem dX10_turned_21 : decode cX10_turned 21 = .ok (.aload_n 0, 1) := by decide +kernel
theorem dX10_turned_22 : decode cX10_turned 22 = .ok (.getfield 35, 3) := by decide +kernel
theorem dX10_turned_25 : decode cX10_turned 25 = .ok (.invokevirtual 153, 3) := by decide +kernel
theorem dX10_turned_28 : decode cX10_turned 28 = .ok (.aload_n 0, 1) := by decide +kernel
theorem dX10_turned_29 : decode cX10_turned 29 = .ok (.iload_n 1, 1) := by decide +kernel
theorem dX10_turned_30 : decode cX10_turned 30 = .ok (.iload_n 2, 1) := by decide +kernel
theorem dX10_turned_31 : decode cX10_turned 31 = .ok (.invokevirtual 274, 3) := by decide +kernel
theorem dX10_turned_34 : decode cX10_turned 34 = .ok (.aload_n 0, 1) := by decide +kernel
theorem dX10_turned_35 : decode cX10_turned 35 = .ok (.invokevirtual 286, 3) := by decide +kernel
theorem dX10_turned_38 : decode cX10_turned 38 = .ok (.istore_n 3, 1) := by decide +kernel
theorem dX10_turned_39 : decode cX10_turned 39 = .ok (.iload_n 2, 1) := by decide +kernel
theorem dX10_turned_40 : decode cX10_turned 40 = .ok (.istore 4, 2) := by decide +kernel
theorem dX10_turned_42 : decode cX10_turned 42 = .ok (.iload 4, 2) := by decide +kernel
theorem dX10_turned_44 : decode cX10_turned 44 = .ok (.aload_n 0, 1) := by decide +kernel
theorem dX10_turned_45 : decode cX10_turned 45 = .ok (.getfield 42, 3) := by decide +kernel
theorem dX10_turned_48 : decode cX10_turned 48 = .ok (.getfield 290, 3) := by decide +kernel
theorem dX10_turned_51 : decode cX10_turned 51 = .ok (.if_icmp .ge 33, 3) := by decide +kernel
theorem dX10_turned_54 : decode cX10_turned 54 = .ok (.aload_n 0, 1) := by decide +kernel
theorem dX10_turned_55 : decode cX10_turned 55 = .ok (.iload_n 1, 1) := by decide +kernel
theorem dX10_turned_56 : decode cX10_turned 56 = .ok (.iload 4, 2) := by decide +kernel
theorem dX10_turned_58 : decode cX10_turned 58 = .ok (.iconst 1, 1) := by decide +kernel
theorem dX10_turned_59 : decode cX10_turned 59 = .ok (.iadd, 1) := by decide +kernel
theorem dX10_turned_60 : decode cX10_turned 60 = .ok (.invokevirtual 274, 3) := by decide +kernel
theorem dX10_turned_63 : decode cX10_turned 63 = .ok (.aload_n 0, 1) := by decide +kernel
theorem dX10_turned_64 : decode cX10_turned 64 = .ok (.invokevirtual 286, 3) := by decide +kernel
theorem dX10_turned_67 : decode cX10_turned 67 = .ok (.istore 5, 2) := by decide +kernel
theorem dX10_turned_69 : decode cX10_turned 69 = .ok (.iload 5, 2) := by decide +kernel
theorem dX10_turned_71 : decode cX10_turned 71 = .ok (.iload_n 3, 1) := by decide +kernel
theorem dX10_turned_72 : decode cX10_turned 72 = .ok (.if_icmp .eq 6, 3) := by decide +kernel
theorem dX10_turned_75 : decode cX10_turned 75 = .ok (.iload 4, 2) := by decide +kernel
theorem dX10_turned_77 : decode cX10_turned 77 = .ok (.ireturn, 1) := by decide +kernel
theorem dX10_turned_78 : decode cX10_turned 78 = .ok (.iinc 4 1, 3) := by decide +kernel
theorem dX10_turned_81 : decode cX10_turned 81 = .ok (.goto (-39), 3) := by decide +kernel
theorem dX10_turned_84 : decode cX10_turned 84 = .ok (.iconst (-1), 1) := by decide +kernel
theorem dX10_turned_85 : decode cX10_turned 85 = .ok (.ireturn, 1) := by decide +kernel
theorem dX10_count_0 : decode cX10_count 0 = .ok (.iload_n 1, 1) := by decide +kernel
theorem dX10_count_1 : decode cX10_count 1 = .ok (.tableswitch 126 0 7 #[47, 55, 66, 77, 88, 99, 110, 118], 47) := by decide +kernel
theorem dX10_count_48 : decode cX10_count 48 = .ok (.aload_n 0, 1) := by decide +kernel
theorem dX10_count_49 : decode cX10_count 49 = .ok (.getfield 26, 3) := by decide +kernel
theorem dX10_count_52 : decode cX10_count 52 = .ok (.getfield 84, 3) := by decide +kernel
theorem dX10_count_55 : decode cX10_count 55 = .ok (.ireturn, 1) := by decide +kernel
theorem dX10_count_56 : decode cX10_count 56 = .ok (.aload_n 0, 1) := by decide +kernel
theorem dX10_count_57 : decode cX10_count 57 = .ok (.getfield 35, 3) := by decide +kernel
theorem dX10_count_60 : decode cX10_count 60 = .ok (.getfield 72, 3) := by decide +kernel
theorem dX10_count_63 : decode cX10_count 63 = .ok (.getfield 243, 3) := by decide +kernel
theorem dX10_count_66 : decode cX10_count 66 = .ok (.ireturn, 1) := by decide +kernel
theorem dX10_count_67 : decode cX10_count 67 = .ok (.aload_n 0, 1) := by decide +kernel
theorem dX10_count_68 : decode cX10_count 68 = .ok (.getfield 35, 3) := by decide +kernel
theorem dX10_count_71 : decode cX10_count 71 = .ok (.getfield 72, 3) := by decide +kernel
theorem dX10_count_74 : decode cX10_count 74 = .ok (.getfield 162, 3) := by decide +kernel
theorem dX10_count_77 : decode cX10_count 77 = .ok (.ireturn, 1) := by decide +kernel
theorem dX10_count_78 : decode cX10_count 78 = .ok (.aload_n 0, 1) := by decide +kernel
theorem dX10_count_79 : decode cX10_count 79 = .ok (.getfield 35, 3) := by decide +kernel
theorem dX10_count_82 : decode cX10_count 82 = .ok (.getfield 72, 3) := by decide +kernel
theorem dX10_count_85 : decode cX10_count 85 = .ok (.getfield 291, 3) := by decide +kernel
theorem dX10_count_88 : decode cX10_count 88 = .ok (.ireturn, 1) := by decide +kernel
theorem dX10_count_89 : decode cX10_count 89 = .ok (.aload_n 0, 1) := by decide +kernel
theorem dX10_count_90 : decode cX10_count 90 = .ok (.getfield 35, 3) := by decide +kernel
theorem dX10_count_93 : decode cX10_count 93 = .ok (.getfield 72, 3) := by decide +kernel
theorem dX10_count_96 : decode cX10_count 96 = .ok (.getfield 294, 3) := by decide +kernel
theorem dX10_count_99 : decode cX10_count 99 = .ok (.ireturn, 1) := by decide +kernel
theorem dX10_count_100 : decode cX10_count 100 = .ok (.aload_n 0, 1) := by decide +kernel
theorem dX10_count_101 : decode cX10_count 101 = .ok (.getfield 35, 3) := by decide +kernel
theorem dX10_count_104 : decode cX10_count 104 = .ok (.getfield 72, 3) := by decide +kernel
theorem dX10_count_107 : decode cX10_count 107 = .ok (.getfield 297, 3) := by decide +kernel
theorem dX10_count_110 : decode cX10_count 110 = .ok (.ireturn, 1) := by decide +kernel
theorem dX10_count_111 : decode cX10_count 111 = .ok (.aload_n 0, 1) := by decide +kernel
theorem dX10_count_112 : decode cX10_count 112 = .ok (.getfield 42, 3) := by decide +kernel
theorem dX10_count_115 : decode cX10_count 115 = .ok (.getfield 290, 3) := by decide +kernel
theorem dX10_count_118 : decode cX10_count 118 = .ok (.ireturn, 1) := by decide +kernel
theorem dX10_count_119 : decode cX10_count 119 = .ok (.aload_n 0, 1) := by decide +kernel
theorem dX10_count_120 : decode cX10_count 120 = .ok (.getfield 10, 3) := by decide +kernel
theorem dX10_count_123 : decode cX10_count 123 = .ok (.getfield 60, 3) := by decide +kernel
theorem dX10_count_126 : decode cX10_count 126 = .ok (.ireturn, 1) := by decide +kernel
theorem dX10_count_127 : decode cX10_count 127 = .ok (.iconst (-1), 1) := by decide +kernel
theorem dX10_count_128 : decode cX10_count 128 = .ok (.ireturn, 1) := by decide +kernel
theorem dX10_inRange_0 : decode cX10_inRange 0 = .ok (.iload_n 0, 1) := by decide +kernel
theorem dX10_inRange_1 : decode cX10_inRange 1 = .ok (.iload_n 1, 1) := by decide +kernel
theorem dX10_inRange_2 : decode cX10_inRange 2 = .ok (.if_icmp .lt 12, 3) := by decide +kernel
theorem dX10_inRange_5 : decode cX10_inRange 5 = .ok (.iload_n 0, 1) := by decide +kernel
theorem dX10_inRange_6 : decode cX10_inRange 6 = .ok (.iload_n 2, 1) := by decide +kernel
theorem dX10_inRange_7 : decode cX10_inRange 7 = .ok (.if_icmp .gt 7, 3) := by decide +kernel
theorem dX10_inRange_10 : decode cX10_inRange 10 = .ok (.iconst 1, 1) := by decide +kernel
theorem dX10_inRange_11 : decode cX10_inRange 11 = .ok (.goto 4, 3) := by decide +kernel
theorem dX10_inRange_14 : decode cX10_inRange 14 = .ok (.iconst 0, 1) := by decide +kernel
theorem dX10_inRange_15 : decode cX10_inRange 15 = .ok (.ireturn, 1) := by decide +kernel
theorem dX10_bitOf_0 : decode cX10_bitOf 0 = .ok (.iload_n 0, 1) := by decide +kernel
theorem dX10_bitOf_1 : decode cX10_bitOf 1 = .ok (.iload_n 1, 1) := by decide +kernel
theorem dX10_bitOf_2 : decode cX10_bitOf 2 = .ok (.iushr, 1) := by decide +kernel
theorem dX10_bitOf_3 : decode cX10_bitOf 3 = .ok (.iconst 1, 1) := by decide +kernel
theorem dX10_bitOf_4 : decode cX10_bitOf 4 = .ok (.iand, 1) := by decide +kernel
theorem dX10_bitOf_5 : decode cX10_bitOf 5 = .ok (.ireturn, 1) := by decide +kernel
theorem dX10_isStep_0 : decode cX10_isStep 0 = .ok (.iload_n 0, 1) := by decide +kernel
theorem dX10_isStep_1 : decode cX10_isStep 1 = .ok (.iconst 2, 1) := by decide +kernel
theorem dX10_isStep_2 : decode cX10_isStep 2 = .ok (.bipush 30, 2) := by decide +kernel
theorem dX10_isStep_4 : decode cX10_isStep 4 = .ok (.invokestatic 88, 3) := by decide +kernel
theorem dX10_isStep_7 : decode cX10_isStep 7 = .ok (.ireturn, 1) := by decide +kernel
theorem dX10_isSign_0 : decode cX10_isSign 0 = .ok (.iload_n 1, 1) := by decide +kernel
theorem dX10_isSign_1 : decode cX10_isSign 1 = .ok (.iconst 0, 1) := by decide +kernel
theorem dX10_isSign_2 : decode cX10_isSign 2 = .ok (.aload_n 0, 1) := by decide +kernel
theorem dX10_isSign_3 : decode cX10_isSign 3 = .ok (.getfield 35, 3) := by decide +kernel
theorem dX10_isSign_6 : decode cX10_isSign 6 = .ok (.getfield 72, 3) := by decide +kernel
theorem dX10_isSign_9 : decode cX10_isSign 9 = .ok (.getfield 243, 3) := by decide +kernel
theorem dX10_isSign_12 : decode cX10_isSign 12 = .ok (.iconst 1, 1) := by decide +kernel
theorem dX10_isSign_13 : decode cX10_isSign 13 = .ok (.isub, 1) := by decide +kernel
theorem dX10_isSign_14 : decode cX10_isSign 14 = .ok (.invokestatic 88, 3) := by decide +kernel
theorem dX10_isSign_17 : decode cX10_isSign 17 = .ok (.ireturn, 1) := by decide +kernel
theorem dX10_isSentence_0 : decode cX10_isSentence 0 = .ok (.iload_n 1, 1) := by decide +kernel
theorem dX10_isSentence_1 : decode cX10_isSentence 1 = .ok (.iconst 0, 1) := by decide +kernel
theorem dX10_isSentence_2 : decode cX10_isSentence 2 = .ok (.aload_n 0, 1) := by decide +kernel
theorem dX10_isSentence_3 : decode cX10_isSentence 3 = .ok (.getfield 35, 3) := by decide +kernel
theorem dX10_isSentence_6 : decode cX10_isSentence 6 = .ok (.getfield 72, 3) := by decide +kernel
theorem dX10_isSentence_9 : decode cX10_isSentence 9 = .ok (.getfield 162, 3) := by decide +kernel
theorem dX10_isSentence_12 : decode cX10_isSentence 12 = .ok (.iconst 1, 1) := by decide +kernel
theorem dX10_isSentence_13 : decode cX10_isSentence 13 = .ok (.isub, 1) := by decide +kernel
theorem dX10_isSentence_14 : decode cX10_isSentence 14 = .ok (.invokestatic 88, 3) := by decide +kernel
theorem dX10_isSentence_17 : decode cX10_isSentence 17 = .ok (.ireturn, 1) := by decide +kernel
theorem dX10_isBook_0 : decode cX10_isBook 0 = .ok (.iload_n 1, 1) := by decide +kernel
theorem dX10_isBook_1 : decode cX10_isBook 1 = .ok (.iconst 0, 1) := by decide +kernel
theorem dX10_isBook_2 : decode cX10_isBook 2 = .ok (.aload_n 0, 1) := by decide +kernel
theorem dX10_isBook_3 : decode cX10_isBook 3 = .ok (.getfield 35, 3) := by decide +kernel
theorem dX10_isBook_6 : decode cX10_isBook 6 = .ok (.getfield 72, 3) := by decide +kernel
theorem dX10_isBook_9 : decode cX10_isBook 9 = .ok (.getfield 291, 3) := by decide +kernel
theorem dX10_isBook_12 : decode cX10_isBook 12 = .ok (.iconst 1, 1) := by decide +kernel
theorem dX10_isBook_13 : decode cX10_isBook 13 = .ok (.isub, 1) := by decide +kernel
theorem dX10_isBook_14 : decode cX10_isBook 14 = .ok (.invokestatic 88, 3) := by decide +kernel
theorem dX10_isBook_17 : decode cX10_isBook 17 = .ok (.ireturn, 1) := by decide +kernel
theorem dX10_isLaw_0 : decode cX10_isLaw 0 = .ok (.iload_n 1, 1) := by decide +kernel
theorem dX10_isLaw_1 : decode cX10_isLaw 1 = .ok (.iconst 0, 1) := by decide +kernel
theorem dX10_isLaw_2 : decode cX10_isLaw 2 = .ok (.aload_n 0, 1) := by decide +kernel
theorem dX10_isLaw_3 : decode cX10_isLaw 3 = .ok (.getfield 35, 3) := by decide +kernel
theorem dX10_isLaw_6 : decode cX10_isLaw 6 = .ok (.getfield 72, 3) := by decide +kernel
theorem dX10_isLaw_9 : decode cX10_isLaw 9 = .ok (.getfield 294, 3) := by decide +kernel
theorem dX10_isLaw_12 : decode cX10_isLaw 12 = .ok (.iconst 1, 1) := by decide +kernel
theorem dX10_isLaw_13 : decode cX10_isLaw 13 = .ok (.isub, 1) := by decide +kernel
theorem dX10_isLaw_14 : decode cX10_isLaw 14 = .ok (.invokestatic 88, 3) := by decide +kernel
theorem dX10_isLaw_17 : decode cX10_isLaw 17 = .ok (.ireturn, 1) := by decide +kernel
theorem dX10_roundedMinute_0 : decode cX10_roundedMinute 0 = .ok (.iload_n 2, 1) := by decide +kernel
theorem dX10_roundedMinute_1 : decode cX10_roundedMinute 1 = .ok (.invokestatic 117, 3) := by decide +kernel
theorem dX10_roundedMinute_4 : decode cX10_roundedMinute 4 = .ok (.ifCond .ne 5, 3) := by decide +kernel
theorem dX10_roundedMinute_7 : decode cX10_roundedMinute 7 = .ok (.iconst 0, 1) := by decide +kernel
theorem dX10_roundedMinute_8 : decode cX10_roundedMinute 8 = .ok (.ireturn, 1) := by decide +kernel
theorem dX10_roundedMinute_9 : decode cX10_roundedMinute 9 = .ok (.iconst 2, 1) := by decide +kernel
theorem dX10_roundedMinute_10 : decode cX10_roundedMinute 10 = .ok (.aload_n 0, 1) := by decide +kernel
theorem dX10_roundedMinute_11 : decode cX10_roundedMinute 11 = .ok (.getfield 26, 3) := by decide +kernel
theorem dX10_roundedMinute_14 : decode cX10_roundedMinute 14 = .ok (.iload_n 1, 1) := by decide +kernel
theorem dX10_roundedMinute_15 : decode cX10_roundedMinute 15 = .ok (.iconst 0, 1) := by decide +kernel
theorem dX10_roundedMinute_16 : decode cX10_roundedMinute 16 = .ok (.invokevirtual 110, 3) := by decide +kernel
theorem dX10_roundedMinute_19 : decode cX10_roundedMinute 19 = .ok (.imul, 1) := by decide +kernel
theorem dX10_roundedMinute_20 : decode cX10_roundedMinute 20 = .ok (.iload_n 2, 1) := by decide +kernel
theorem dX10_roundedMinute_21 : decode cX10_roundedMinute 21 = .ok (.iadd, 1) := by decide +kernel
theorem dX10_roundedMinute_22 : decode cX10_roundedMinute 22 = .ok (.iconst 2, 1) := by decide +kernel
theorem dX10_roundedMinute_23 : decode cX10_roundedMinute 23 = .ok (.iload_n 2, 1) := by decide +kernel
theorem dX10_roundedMinute_24 : decode cX10_roundedMinute 24 = .ok (.imul, 1) := by decide +kernel
theorem dX10_roundedMinute_25 : decode cX10_roundedMinute 25 = .ok (.idiv, 1) := by decide +kernel
theorem dX10_roundedMinute_26 : decode cX10_roundedMinute 26 = .ok (.istore_n 3, 1) := by decide +kernel
theorem dX10_roundedMinute_27 : decode cX10_roundedMinute 27 = .ok (.iload_n 3, 1) := by decide +kernel
theorem dX10_roundedMinute_28 : decode cX10_roundedMinute 28 = .ok (.iload_n 2, 1) := by decide +kernel
theorem dX10_roundedMinute_29 : decode cX10_roundedMinute 29 = .ok (.imul, 1) := by decide +kernel
theorem dX10_roundedMinute_30 : decode cX10_roundedMinute 30 = .ok (.bipush 60, 2) := by decide +kernel
theorem dX10_roundedMinute_32 : decode cX10_roundedMinute 32 = .ok (.irem, 1) := by decide +kernel
theorem dX10_roundedMinute_33 : decode cX10_roundedMinute 33 = .ok (.ireturn, 1) := by decide +kernel
theorem dX10_fillRedTable_0 : decode cX10_fillRedTable 0 = .ok (.aload_n 0, 1) := by decide +kernel
theorem dX10_fillRedTable_1 : decode cX10_fillRedTable 1 = .ok (.getfield 42, 3) := by decide +kernel
theorem dX10_fillRedTable_4 : decode cX10_fillRedTable 4 = .ok (.iload_n 2, 1) := by decide +kernel
theorem dX10_fillRedTable_5 : decode cX10_fillRedTable 5 = .ok (.invokevirtual 256, 3) := by decide +kernel
theorem dX10_fillRedTable_8 : decode cX10_fillRedTable 8 = .ok (.aload_n 0, 1) := by decide +kernel
theorem dX10_fillRedTable_9 : decode cX10_fillRedTable 9 = .ok (.getfield 56, 3) := by decide +kernel
theorem dX10_fillRedTable_12 : decode cX10_fillRedTable 12 = .ok (.invokevirtual 300, 3) := by decide +kernel
theorem dX10_fillRedTable_15 : decode cX10_fillRedTable 15 = .ok (.iconst 0, 1) := by decide +kernel
theorem dX10_fillRedTable_16 : decode cX10_fillRedTable 16 = .ok (.istore_n 3, 1) := by decide +kernel
theorem dX10_fillRedTable_17 : decode cX10_fillRedTable 17 = .ok (.iload_n 3, 1) := by decide +kernel
theorem dX10_fillRedTable_18 : decode cX10_fillRedTable 18 = .ok (.aload_n 0, 1) := by decide +kernel
theorem dX10_fillRedTable_19 : decode cX10_fillRedTable 19 = .ok (.getfield 26, 3) := by decide +kernel
theorem dX10_fillRedTable_22 : decode cX10_fillRedTable 22 = .ok (.getfield 84, 3) := by decide +kernel
theorem dX10_fillRedTable_25 : decode cX10_fillRedTable 25 = .ok (.if_icmp .ge 45, 3) := by decide +kernel
theorem dX10_fillRedTable_28 : decode cX10_fillRedTable 28 = .ok (.aload_n 0, 1) := by decide +kernel
theorem dX10_fillRedTable_29 : decode cX10_fillRedTable 29 = .ok (.getfield 56, 3) := by decide +kernel
theorem dX10_fillRedTable_32 : decode cX10_fillRedTable 32 = .ok (.aload_n 0, 1) := by decide +kernel
theorem dX10_fillRedTable_33 : decode cX10_fillRedTable 33 = .ok (.getfield 35, 3) := by decide +kernel
theorem dX10_fillRedTable_36 : decode cX10_fillRedTable 36 = .ok (.getfield 159, 3) := by decide +kernel
theorem dX10_fillRedTable_39 : decode cX10_fillRedTable 39 = .ok (.iload_n 3, 1) := by decide +kernel
theorem dX10_fillRedTable_40 : decode cX10_fillRedTable 40 = .ok (.iaload, 1) := by decide +kernel
theorem dX10_fillRedTable_41 : decode cX10_fillRedTable 41 = .ok (.iload_n 1, 1) := by decide +kernel
theorem dX10_fillRedTable_42 : decode cX10_fillRedTable 42 = .ok (.invokestatic 135, 3) := by decide +kernel
theorem dX10_fillRedTable_45 : decode cX10_fillRedTable 45 = .ok (.aload_n 0, 1) := by decide +kernel
theorem dX10_fillRedTable_46 : decode cX10_fillRedTable 46 = .ok (.getfield 42, 3) := by decide +kernel
theorem dX10_fillRedTable_49 : decode cX10_fillRedTable 49 = .ok (.iload_n 3, 1) := by decide +kernel
theorem dX10_fillRedTable_50 : decode cX10_fillRedTable 50 = .ok (.invokevirtual 271, 3) := by decide +kernel
theorem dX10_fillRedTable_53 : decode cX10_fillRedTable 53 = .ok (.ifCond .eq 7, 3) := by decide +kernel
theorem dX10_fillRedTable_56 : decode cX10_fillRedTable 56 = .ok (.iconst 1, 1) := by decide +kernel
theorem dX10_fillRedTable_57 : decode cX10_fillRedTable 57 = .ok (.goto 4, 3) := by decide +kernel
theorem dX10_fillRedTable_60 : decode cX10_fillRedTable 60 = .ok (.iconst 0, 1) := by decide +kernel
theorem dX10_fillRedTable_61 : decode cX10_fillRedTable 61 = .ok (.invokevirtual 303, 3) := by decide +kernel
theorem dX10_fillRedTable_64 : decode cX10_fillRedTable 64 = .ok (.iinc 3 1, 3) := by decide +kernel
theorem dX10_fillRedTable_67 : decode cX10_fillRedTable 67 = .ok (.goto (-50), 3) := by decide +kernel
theorem dX10_fillRedTable_70 : decode cX10_fillRedTable 70 = .ok (.return_, 1) := by decide +kernel
theorem dX10_redStands_0 : decode cX10_redStands 0 = .ok (.aload_n 0, 1) := by decide +kernel
theorem dX10_redStands_1 : decode cX10_redStands 1 = .ok (.getfield 42, 3) := by decide +kernel
theorem dX10_redStands_4 : decode cX10_redStands 4 = .ok (.invokevirtual 283, 3) := by decide +kernel
theorem dX10_redStands_7 : decode cX10_redStands 7 = .ok (.iconst 1, 1) := by decide +kernel
theorem dX10_redStands_8 : decode cX10_redStands 8 = .ok (.invokestatic 306, 3) := by decide +kernel
theorem dX10_redStands_11 : decode cX10_redStands 11 = .ok (.i2l, 1) := by decide +kernel
theorem dX10_redStands_12 : decode cX10_redStands 12 = .ok (.lstore_n 1, 1) := by decide +kernel
theorem dX10_redStands_13 : decode cX10_redStands 13 = .ok (.aload_n 0, 1) := by decide +kernel
theorem dX10_redStands_14 : decode cX10_redStands 14 = .ok (.getfield 49, 3) := by decide +kernel
theorem dX10_redStands_17 : decode cX10_redStands 17 = .ok (.aload_n 0, 1) := by decide +kernel
theorem dX10_redStands_18 : decode cX10_redStands 18 = .ok (.getfield 56, 3) := by decide +kernel
theorem dX10_redStands_21 : decode cX10_redStands 21 = .ok (.invokevirtual 218, 3) := by decide +kernel
theorem dX10_redStands_24 : decode cX10_redStands 24 = .ok (.lload_n 1, 1) := by decide +kernel
theorem dX10_redStands_25 : decode cX10_redStands 25 = .ok (.lmul, 1) := by decide +kernel
theorem dX10_redStands_26 : decode cX10_redStands 26 = .ok (.ldc2_w 309, 3) := by decide +kernel
theorem dX10_redStands_29 : decode cX10_redStands 29 = .ok (.lmul, 1) := by decide +kernel
theorem dX10_redStands_30 : decode cX10_redStands 30 = .ok (.aload_n 0, 1) := by decide +kernel
theorem dX10_redStands_31 : decode cX10_redStands 31 = .ok (.getfield 49, 3) := by decide +kernel
theorem dX10_redStands_34 : decode cX10_redStands 34 = .ok (.aload_n 0, 1) := by decide +kernel
theorem dX10_redStands_35 : decode cX10_redStands 35 = .ok (.getfield 56, 3) := by decide +kernel
theorem dX10_redStands_38 : decode cX10_redStands 38 = .ok (.invokevirtual 222, 3) := by decide +kernel
theorem dX10_redStands_41 : decode cX10_redStands 41 = .ok (.lcmp, 1) := by decide +kernel
theorem dX10_redStands_42 : decode cX10_redStands 42 = .ok (.ifCond .gt 7, 3) := by decide +kernel
theorem dX10_redStands_45 : decode cX10_redStands 45 = .ok (.iconst 1, 1) := by decide +kernel
theorem dX10_redStands_46 : decode cX10_redStands 46 = .ok (.goto 4, 3) := by decide +kernel
theorem dX10_redStands_49 : decode cX10_redStands 49 = .ok (.iconst 0, 1) := by decide +kernel
theorem dX10_redStands_50 : decode cX10_redStands 50 = .ok (.ireturn, 1) := by decide +kernel
theorem dX11_init_0 : decode cX11_init 0 = .ok (.aload_n 0, 1) := by decide +kernel
theorem dX11_init_1 : decode cX11_init 1 = .ok (.invokespecial 7, 3) := by decide +kernel
theorem dX11_init_4 : decode cX11_init 4 = .ok (.aload_n 0, 1) := by decide +kernel
theorem dX11_init_5 : decode cX11_init 5 = .ok (.sipush 2000, 3) := by decide +kernel
theorem dX11_init_8 : decode cX11_init 8 = .ok (.newarray .byte, 2) := by decide +kernel
theorem dX11_init_10 : decode cX11_init 10 = .ok (.putfield 13, 3) := by decide +kernel
theorem dX11_init_13 : decode cX11_init 13 = .ok (.aload_n 0, 1) := by decide +kernel
theorem dX11_init_14 : decode cX11_init 14 = .ok (.sipush 2000, 3) := by decide +kernel
theorem dX11_init_17 : decode cX11_init 17 = .ok (.newarray .byte, 2) := by decide +kernel
theorem dX11_init_19 : decode cX11_init 19 = .ok (.putfield 17, 3) := by decide +kernel
theorem dX11_init_22 : decode cX11_init 22 = .ok (.aload_n 0, 1) := by decide +kernel
theorem dX11_init_23 : decode cX11_init 23 = .ok (.sipush 403, 3) := by decide +kernel
theorem dX11_init_26 : decode cX11_init 26 = .ok (.newarray .int, 2) := by decide +kernel
theorem dX11_init_28 : decode cX11_init 28 = .ok (.putfield 20, 3) := by decide +kernel
theorem dX11_init_31 : decode cX11_init 31 = .ok (.aload_n 0, 1) := by decide +kernel
theorem dX11_init_32 : decode cX11_init 32 = .ok (.sipush 403, 3) := by decide +kernel
theorem dX11_init_35 : decode cX11_init 35 = .ok (.newarray .int, 2) := by decide +kernel
theorem dX11_init_37 : decode cX11_init 37 = .ok (.putfield 24, 3) := by decide +kernel
theorem dX11_init_40 : decode cX11_init 40 = .ok (.aload_n 0, 1) := by decide +kernel
theorem dX11_init_41 : decode cX11_init 41 = .ok (.sipush 403, 3) := by decide +kernel
theorem dX11_init_44 : decode cX11_init 44 = .ok (.newarray .int, 2) := by decide +kernel
theorem dX11_init_46 : decode cX11_init 46 = .ok (.putfield 27, 3) := by decide +kernel
theorem dX11_init_49 : decode cX11_init 49 = .ok (.aload_n 0, 1) := by decide +kernel
theorem dX11_init_50 : decode cX11_init 50 = .ok (.sipush 403, 3) := by decide +kernel
theorem dX11_init_53 : decode cX11_init 53 = .ok (.newarray .long, 2) := by decide +kernel
theorem dX11_init_55 : decode cX11_init 55 = .ok (.putfield 30, 3) := by decide +kernel
theorem dX11_init_58 : decode cX11_init 58 = .ok (.aload_n 0, 1) := by decide +kernel
theorem dX11_init_59 : decode cX11_init 59 = .ok (.bipush 23, 2) := by decide +kernel
theorem dX11_init_61 : decode cX11_init 61 = .ok (.newarray .long, 2) := by decide +kernel
theorem dX11_init_63 : decode cX11_init 63 = .ok (.putfield 34, 3) := by decide +kernel
theorem dX11_init_66 : decode cX11_init 66 = .ok (.aload_n 0, 1) := by decide +kernel
theorem dX11_init_67 : decode cX11_init 67 = .ok (.iconst (-1), 1) := by decide +kernel
theorem dX11_init_68 : decode cX11_init 68 = .ok (.putfield 37, 3) := by decide +kernel
theorem dX11_init_71 : decode cX11_init 71 = .ok (.aload_n 0, 1) := by decide +kernel
theorem dX11_init_72 : decode cX11_init 72 = .ok (.bipush 40, 2) := by decide +kernel
theorem dX11_init_74 : decode cX11_init 74 = .ok (.newarray .long, 2) := by decide +kernel
theorem dX11_init_76 : decode cX11_init 76 = .ok (.putfield 40, 3) := by decide +kernel
theorem dX11_init_79 : decode cX11_init 79 = .ok (.aload_n 0, 1) := by decide +kernel
theorem dX11_init_80 : decode cX11_init 80 = .ok (.bipush 40, 2) := by decide +kernel
theorem dX11_init_82 : decode cX11_init 82 = .ok (.newarray .int, 2) := by decide +kernel
theorem dX11_init_84 : decode cX11_init 84 = .ok (.putfield 43, 3) := by decide +kernel
theorem dX11_init_87 : decode cX11_init 87 = .ok (.aload_n 0, 1) := by decide +kernel
theorem dX11_init_88 : decode cX11_init 88 = .ok (.bipush 40, 2) := by decide +kernel
theorem dX11_init_90 : decode cX11_init 90 = .ok (.newarray .int, 2) := by decide +kernel
theorem dX11_init_92 : decode cX11_init 92 = .ok (.putfield 46, 3) := by decide +kernel
theorem dX11_init_95 : decode cX11_init 95 = .ok (.aload_n 0, 1) := by decide +kernel
theorem dX11_init_96 : decode cX11_init 96 = .ok (.iconst 2, 1) := by decide +kernel
theorem dX11_init_97 : decode cX11_init 97 = .ok (.newarray .int, 2) := by decide +kernel
theorem dX11_init_99 : decode cX11_init 99 = .ok (.putfield 49, 3) := by decide +kernel
theorem dX11_init_102 : decode cX11_init 102 = .ok (.aload_n 0, 1) := by decide +kernel
theorem dX11_init_103 : decode cX11_init 103 = .ok (.iconst 2, 1) := by decide +kernel
theorem dX11_init_104 : decode cX11_init 104 = .ok (.newarray .int, 2) := by decide +kernel
theorem dX11_init_106 : decode cX11_init 106 = .ok (.putfield 52, 3) := by decide +kernel
theorem dX11_init_109 : decode cX11_init 109 = .ok (.aload_n 0, 1) := by decide +kernel
theorem dX11_init_110 : decode cX11_init 110 = .ok (.iconst 2, 1) := by decide +kernel
theorem dX11_init_111 : decode cX11_init 111 = .ok (.newarray .int, 2) := by decide +kernel
theorem dX11_init_113 : decode cX11_init 113 = .ok (.putfield 55, 3) := by decide +kernel
theorem dX11_init_116 : decode cX11_init 116 = .ok (.aload_n 0, 1) := by decide +kernel
theorem dX11_init_117 : decode cX11_init 117 = .ok (.iconst 2, 1) := by decide +kernel
theorem dX11_init_118 : decode cX11_init 118 = .ok (.newarray .int, 2) := by decide +kernel
theorem dX11_init_120 : decode cX11_init 120 = .ok (.putfield 58, 3) := by decide +kernel
theorem dX11_init_123 : decode cX11_init 123 = .ok (.aload_n 0, 1) := by decide +kernel
theorem dX11_init_124 : decode cX11_init 124 = .ok (.bipush 32, 2) := by decide +kernel
theorem dX11_init_126 : decode cX11_init 126 = .ok (.newarray .int, 2) := by decide +kernel
theorem dX11_init_128 : decode cX11_init 128 = .ok (.putfield 61, 3) := by decide +kernel
theorem dX11_init_131 : decode cX11_init 131 = .ok (.aload_n 0, 1) := by decide +kernel
theorem dX11_init_132 : decode cX11_init 132 = .ok (.iconst 2, 1) := by decide +kernel
theorem dX11_init_133 : decode cX11_init 133 = .ok (.newarray .int, 2) := by decide +kernel
theorem dX11_init_135 : decode cX11_init 135 = .ok (.putfield 64, 3) := by decide +kernel
theorem dX11_init_138 : decode cX11_init 138 = .ok (.aload_n 0, 1) := by decide +kernel
theorem dX11_init_139 : decode cX11_init 139 = .ok (.bipush 80, 2) := by decide +kernel
theorem dX11_init_141 : decode cX11_init 141 = .ok (.newarray .int, 2) := by decide +kernel
theorem dX11_init_143 : decode cX11_init 143 = .ok (.putfield 67, 3) := by decide +kernel
theorem dX11_init_146 : decode cX11_init 146 = .ok (.aload_n 0, 1) := by decide +kernel
theorem dX11_init_147 : decode cX11_init 147 = .ok (.bipush 80, 2) := by decide +kernel
theorem dX11_init_149 : decode cX11_init 149 = .ok (.newarray .int, 2) := by decide +kernel
theorem dX11_init_151 : decode cX11_init 151 = .ok (.putfield 70, 3) := by decide +kernel
theorem dX11_init_154 : decode cX11_init 154 = .ok (.aload_n 0, 1) := by decide +kernel
theorem dX11_init_155 : decode cX11_init 155 = .ok (.bipush 80, 2) := by decide +kernel
theorem dX11_init_157 : decode cX11_init 157 = .ok (.newarray .int, 2) := by decide +kernel
theorem dX11_init_159 : decode cX11_init 159 = .ok (.putfield 73, 3) := by decide +kernel
theorem dX11_init_162 : decode cX11_init 162 = .ok (.aload_n 0, 1) := by decide +kernel
theorem dX11_init_163 : decode cX11_init 163 = .ok (.bipush 52, 2) := by decide +kernel
theorem dX11_init_165 : decode cX11_init 165 = .ok (.newarray .int, 2) := by decide +kernel
theorem dX11_init_167 : decode cX11_init 167 = .ok (.putfield 76, 3) := by decide +kernel
theorem dX11_init_170 : decode cX11_init 170 = .ok (.aload_n 0, 1) := by decide +kernel
theorem dX11_init_171 : decode cX11_init 171 = .ok (.bipush 52, 2) := by decide +kernel
theorem dX11_init_173 : decode cX11_init 173 = .ok (.newarray .int, 2) := by decide +kernel
theorem dX11_init_175 : decode cX11_init 175 = .ok (.putfield 79, 3) := by decide +kernel
theorem dX11_init_178 : decode cX11_init 178 = .ok (.aload_n 0, 1) := by decide +kernel
theorem dX11_init_179 : decode cX11_init 179 = .ok (.bipush 52, 2) := by decide +kernel
theorem dX11_init_181 : decode cX11_init 181 = .ok (.newarray .int, 2) := by decide +kernel
theorem dX11_init_183 : decode cX11_init 183 = .ok (.putfield 82, 3) := by decide +kernel
theorem dX11_init_186 : decode cX11_init 186 = .ok (.aload_n 0, 1) := by decide +kernel
theorem dX11_init_187 : decode cX11_init 187 = .ok (.bipush 52, 2) := by decide +kernel
theorem dX11_init_189 : decode cX11_init 189 = .ok (.newarray .int, 2) := by decide +kernel
theorem dX11_init_191 : decode cX11_init 191 = .ok (.putfield 85, 3) := by decide +kernel
theorem dX11_init_194 : decode cX11_init 194 = .ok (.aload_n 0, 1) := by decide +kernel
theorem dX11_init_195 : decode cX11_init 195 = .ok (.sipush 300, 3) := by decide +kernel
theorem dX11_init_198 : decode cX11_init 198 = .ok (.newarray .int, 2) := by decide +kernel
theorem dX11_init_200 : decode cX11_init 200 = .ok (.putfield 88, 3) := by decide +kernel
theorem dX11_init_203 : decode cX11_init 203 = .ok (.aload_n 0, 1) := by decide +kernel
theorem dX11_init_204 : decode cX11_init 204 = .ok (.sipush 300, 3) := by decide +kernel
theorem dX11_init_207 : decode cX11_init 207 = .ok (.newarray .boolean, 2) := by decide +kernel
theorem dX11_init_209 : decode cX11_init 209 = .ok (.putfield 91, 3) := by decide +kernel
theorem dX11_init_212 : decode cX11_init 212 = .ok (.aload_n 0, 1) := by decide +kernel
theorem dX11_init_213 : decode cX11_init 213 = .ok (.sipush 300, 3) := by decide +kernel
theorem dX11_init_216 : decode cX11_init 216 = .ok (.newarray .boolean, 2) := by decide +kernel
theorem dX11_init_218 : decode cX11_init 218 = .ok (.putfield 95, 3) := by decide +kernel
theorem dX11_init_221 : decode cX11_init 221 = .ok (.aload_n 0, 1) := by decide +kernel
theorem dX11_init_222 : decode cX11_init 222 = .ok (.sipush 300, 3) := by decide +kernel
theorem dX11_init_225 : decode cX11_init 225 = .ok (.newarray .int, 2) := by decide +kernel
theorem dX11_init_227 : decode cX11_init 227 = .ok (.putfield 98, 3) := by decide +kernel
theorem dX11_init_230 : decode cX11_init 230 = .ok (.aload_n 0, 1) := by decide +kernel
theorem dX11_init_231 : decode cX11_init 231 = .ok (.sipush 300, 3) := by decide +kernel
theorem dX11_init_234 : decode cX11_init 234 = .ok (.newarray .int, 2) := by decide +kernel
theorem dX11_init_236 : decode cX11_init 236 = .ok (.putfield 101, 3) := by decide +kernel
theorem dX11_init_239 : decode cX11_init 239 = .ok (.aload_n 0, 1) := by decide +kernel
theorem dX11_init_240 : decode cX11_init 240 = .ok (.sipush 300, 3) := by decide +kernel
theorem dX11_init_243 : decode cX11_init 243 = .ok (.newarray .int, 2) := by decide +kernel
theorem dX11_init_245 : decode cX11_init 245 = .ok (.putfield 104, 3) := by decide +kernel
theorem dX11_init_248 : decode cX11_init 248 = .ok (.aload_n 0, 1) := by decide +kernel
theorem dX11_init_249 : decode cX11_init 249 = .ok (.sipush 840, 3) := by decide +kernel
theorem dX11_init_252 : decode cX11_init 252 = .ok (.newarray .int, 2) := by decide +kernel
theorem dX11_init_254 : decode cX11_init 254 = .ok (.putfield 107, 3) := by decide +kernel
theorem dX11_init_257 : decode cX11_init 257 = .ok (.aload_n 0, 1) := by decide +kernel
theorem dX11_init_258 : decode cX11_init 258 = .ok (.sipush 840, 3) := by decide +kernel
theorem dX11_init_261 : decode cX11_init 261 = .ok (.newarray .int, 2) := by decide +kernel
theorem dX11_init_263 : decode cX11_init 263 = .ok (.putfield 110, 3) := by decide +kernel
theorem dX11_init_266 : decode cX11_init 266 = .ok (.aload_n 0, 1) := by decide +kernel
theorem dX11_init_267 : decode cX11_init 267 = .ok (.bipush 64, 2) := by decide +kernel
theorem dX11_init_269 : decode cX11_init 269 = .ok (.newarray .int, 2) := by decide +kernel
theorem dX11_init_271 : decode cX11_init 271 = .ok (.putfield 113, 3) := by decide +kernel
theorem dX11_init_274 : decode cX11_init 274 = .ok (.aload_n 0, 1) := by decide +kernel
theorem dX11_init_275 : decode cX11_init 275 = .ok (.bipush 21, 2) := by decide +kernel
theorem dX11_init_277 : decode cX11_init 277 = .ok (.newarray .int, 2) := by decide +kernel
theorem dX11_init_279 : decode cX11_init 279 = .ok (.putfield 116, 3) := by decide +kernel
theorem dX11_init_282 : decode cX11_init 282 = .ok (.aload_n 0, 1) := by decide +kernel
theorem dX11_init_283 : decode cX11_init 283 = .ok (.sipush 400, 3) := by decide +kernel
theorem dX11_init_286 : decode cX11_init 286 = .ok (.newarray .int, 2) := by decide +kernel
theorem dX11_init_288 : decode cX11_init 288 = .ok (.putfield 119, 3) := by decide +kernel
theorem dX11_init_291 : decode cX11_init 291 = .ok (.aload_n 0, 1) := by decide +kernel
theorem dX11_init_292 : decode cX11_init 292 = .ok (.bipush 20, 2) := by decide +kernel
theorem dX11_init_294 : decode cX11_init 294 = .ok (.newarray .int, 2) := by decide +kernel
theorem dX11_init_296 : decode cX11_init 296 = .ok (.putfield 122, 3) := by decide +kernel
theorem dX11_init_299 : decode cX11_init 299 = .ok (.aload_n 0, 1) := by decide +kernel
theorem dX11_init_300 : decode cX11_init 300 = .ok (.bipush 20, 2) := by decide +kernel
theorem dX11_init_302 : decode cX11_init 302 = .ok (.newarray .int, 2) := by decide +kernel
theorem dX11_init_304 : decode cX11_init 304 = .ok (.putfield 125, 3) := by decide +kernel
theorem dX11_init_307 : decode cX11_init 307 = .ok (.aload_n 0, 1) := by decide +kernel
theorem dX11_init_308 : decode cX11_init 308 = .ok (.bipush 20, 2) := by decide +kernel
theorem dX11_init_310 : decode cX11_init 310 = .ok (.newarray .int, 2) := by decide +kernel
theorem dX11_init_312 : decode cX11_init 312 = .ok (.putfield 128, 3) := by decide +kernel
theorem dX11_init_315 : decode cX11_init 315 = .ok (.aload_n 0, 1) := by decide +kernel
theorem dX11_init_316 : decode cX11_init 316 = .ok (.bipush 20, 2) := by decide +kernel
theorem dX11_init_318 : decode cX11_init 318 = .ok (.newarray .int, 2) := by decide +kernel
theorem dX11_init_320 : decode cX11_init 320 = .ok (.putfield 131, 3) := by decide +kernel
theorem dX11_init_323 : decode cX11_init 323 = .ok (.aload_n 0, 1) := by decide +kernel
theorem dX11_init_324 : decode cX11_init 324 = .ok (.sipush 160, 3) := by decide +kernel
theorem dX11_init_327 : decode cX11_init 327 = .ok (.newarray .int, 2) := by decide +kernel
theorem dX11_init_329 : decode cX11_init 329 = .ok (.putfield 134, 3) := by decide +kernel
theorem dX11_init_332 : decode cX11_init 332 = .ok (.aload_n 0, 1) := by decide +kernel
theorem dX11_init_333 : decode cX11_init 333 = .ok (.bipush 16, 2) := by decide +kernel
theorem dX11_init_335 : decode cX11_init 335 = .ok (.newarray .boolean, 2) := by decide +kernel
theorem dX11_init_337 : decode cX11_init 337 = .ok (.putfield 137, 3) := by decide +kernel
theorem dX11_init_340 : decode cX11_init 340 = .ok (.aload_n 0, 1) := by decide +kernel
theorem dX11_init_341 : decode cX11_init 341 = .ok (.bipush 21, 2) := by decide +kernel
theorem dX11_init_343 : decode cX11_init 343 = .ok (.newarray .long, 2) := by decide +kernel
theorem dX11_init_345 : decode cX11_init 345 = .ok (.putfield 140, 3) := by decide +kernel
theorem dX11_init_348 : decode cX11_init 348 = .ok (.aload_n 0, 1) := by decide +kernel
theorem dX11_init_349 : decode cX11_init 349 = .ok (.bipush 21, 2) := by decide +kernel
theorem dX11_init_351 : decode cX11_init 351 = .ok (.newarray .long, 2) := by decide +kernel
theorem dX11_init_353 : decode cX11_init 353 = .ok (.putfield 143, 3) := by decide +kernel
theorem dX11_init_356 : decode cX11_init 356 = .ok (.aload_n 0, 1) := by decide +kernel
theorem dX11_init_357 : decode cX11_init 357 = .ok (.bipush 60, 2) := by decide +kernel
theorem dX11_init_359 : decode cX11_init 359 = .ok (.newarray .int, 2) := by decide +kernel
theorem dX11_init_361 : decode cX11_init 361 = .ok (.putfield 146, 3) := by decide +kernel
theorem dX11_init_364 : decode cX11_init 364 = .ok (.aload_n 0, 1) := by decide +kernel
theorem dX11_init_365 : decode cX11_init 365 = .ok (.bipush 60, 2) := by decide +kernel
theorem dX11_init_367 : decode cX11_init 367 = .ok (.newarray .int, 2) := by decide +kernel
theorem dX11_init_369 : decode cX11_init 369 = .ok (.putfield 149, 3) := by decide +kernel
theorem dX11_init_372 : decode cX11_init 372 = .ok (.aload_n 0, 1) := by decide +kernel
theorem dX11_init_373 : decode cX11_init 373 = .ok (.bipush 60, 2) := by decide +kernel
theorem dX11_init_375 : decode cX11_init 375 = .ok (.newarray .int, 2) := by decide +kernel
theorem dX11_init_377 : decode cX11_init 377 = .ok (.putfield 152, 3) := by decide +kernel
theorem dX11_init_380 : decode cX11_init 380 = .ok (.aload_n 0, 1) := by decide +kernel
theorem dX11_init_381 : decode cX11_init 381 = .ok (.bipush 60, 2) := by decide +kernel
theorem dX11_init_383 : decode cX11_init 383 = .ok (.newarray .boolean, 2) := by decide +kernel
theorem dX11_init_385 : decode cX11_init 385 = .ok (.putfield 155, 3) := by decide +kernel
theorem dX11_init_388 : decode cX11_init 388 = .ok (.aload_n 0, 1) := by decide +kernel
theorem dX11_init_389 : decode cX11_init 389 = .ok (.getfield 34, 3) := by decide +kernel
theorem dX11_init_392 : decode cX11_init 392 = .ok (.iconst 0, 1) := by decide +kernel
theorem dX11_init_393 : decode cX11_init 393 = .ok (.bipush 115, 2) := by decide +kernel
theorem dX11_init_395 : decode cX11_init 395 = .ok (.bipush 105, 2) := by decide +kernel
theorem dX11_init_397 : decode cX11_init 397 = .ok (.bipush 103, 2) := by decide +kernel
theorem dX11_init_399 : decode cX11_init 399 = .ok (.bipush 110, 2) := by decide +kernel
theorem dX11_init_401 : decode cX11_init 401 = .ok (.iconst 0, 1) := by decide +kernel
theorem dX11_init_402 : decode cX11_init 402 = .ok (.iconst 0, 1) := by decide +kernel
theorem dX11_init_403 : decode cX11_init 403 = .ok (.iconst 0, 1) := by decide +kernel
theorem dX11_init_404 : decode cX11_init 404 = .ok (.invokestatic 158, 3) := by decide +kernel
theorem dX11_init_407 : decode cX11_init 407 = .ok (.lastore, 1) := by decide +kernel
theorem dX11_init_408 : decode cX11_init 408 = .ok (.aload_n 0, 1) := by decide +kernel
theorem dX11_init_409 : decode cX11_init 409 = .ok (.getfield 34, 3) := by decide +kernel
theorem dX11_init_412 : decode cX11_init 412 = .ok (.iconst 1, 1) := by decide +kernel
theorem dX11_init_413 : decode cX11_init 413 = .ok (.bipush 105, 2) := by decide +kernel
theorem dX11_init_415 : decode cX11_init 415 = .ok (.bipush 102, 2) := by decide +kernel
theorem dX11_init_417 : decode cX11_init 417 = .ok (.iconst 0, 1) := by decide +kernel
theorem dX11_init_418 : decode cX11_init 418 = .ok (.iconst 0, 1) := by decide +kernel
theorem dX11_init_419 : decode cX11_init 419 = .ok (.iconst 0, 1) := by decide +kernel
theorem dX11_init_420 : decode cX11_init 420 = .ok (.iconst 0, 1) := by decide +kernel
theorem dX11_init_421 : decode cX11_init 421 = .ok (.iconst 0, 1) := by decide +kernel
theorem dX11_init_422 : decode cX11_init 422 = .ok (.invokestatic 158, 3) := by decide +kernel
theorem dX11_init_425 : decode cX11_init 425 = .ok (.lastore, 1) := by decide +kernel
theorem dX11_init_426 : decode cX11_init 426 = .ok (.aload_n 0, 1) := by decide +kernel
theorem dX11_init_427 : decode cX11_init 427 = .ok (.getfield 34, 3) := by decide +kernel
theorem dX11_init_430 : decode cX11_init 430 = .ok (.iconst 2, 1) := by decide +kernel
theorem dX11_init_431 : decode cX11_init 431 = .ok (.bipush 115, 2) := by decide +kernel
theorem dX11_init_433 : decode cX11_init 433 = .ok (.bipush 97, 2) := by decide +kernel
theorem dX11_init_435 : decode cX11_init 435 = .ok (.bipush 121, 2) := by decide +kernel
theorem dX11_init_437 : decode cX11_init 437 = .ok (.iconst 0, 1) := by decide +kernel
theorem dX11_init_438 : decode cX11_init 438 = .ok (.iconst 0, 1) := by decide +kernel
theorem dX11_init_439 : decode cX11_init 439 = .ok (.iconst 0, 1) := by decide +kernel
theorem dX11_init_440 : decode cX11_init 440 = .ok (.iconst 0, 1) := by decide +kernel
theorem dX11_init_441 : decode cX11_init 441 = .ok (.invokestatic 158, 3) := by decide +kernel
theorem dX11_init_444 : decode cX11_init 444 = .ok (.lastore, 1) := by decide +kernel
theorem dX11_init_445 : decode cX11_init 445 = .ok (.aload_n 0, 1) := by decide +kernel
theorem dX11_init_446 : decode cX11_init 446 = .ok (.getfield 34, 3) := by decide +kernel
theorem dX11_init_449 : decode cX11_init 449 = .ok (.iconst 3, 1) := by decide +kernel
theorem dX11_init_450 : decode cX11_init 450 = .ok (.bipush 98, 2) := by decide +kernel
theorem dX11_init_452 : decode cX11_init 452 = .ok (.bipush 111, 2) := by decide +kernel
theorem dX11_init_454 : decode cX11_init 454 = .ok (.bipush 111, 2) := by decide +kernel
theorem dX11_init_456 : decode cX11_init 456 = .ok (.bipush 107, 2) := by decide +kernel
theorem dX11_init_458 : decode cX11_init 458 = .ok (.iconst 0, 1) := by decide +kernel
theorem dX11_init_459 : decode cX11_init 459 = .ok (.iconst 0, 1) := by decide +kernel
theorem dX11_init_460 : decode cX11_init 460 = .ok (.iconst 0, 1) := by decide +kernel
theorem dX11_init_461 : decode cX11_init 461 = .ok (.invokestatic 158, 3) := by decide +kernel
theorem dX11_init_464 : decode cX11_init 464 = .ok (.lastore, 1) := by decide +kernel
theorem dX11_init_465 : decode cX11_init 465 = .ok (.aload_n 0, 1) := by decide +kernel
theorem dX11_init_466 : decode cX11_init 466 = .ok (.getfield 34, 3) := by decide +kernel
theorem dX11_init_469 : decode cX11_init 469 = .ok (.iconst 4, 1) := by decide +kernel
theorem dX11_init_470 : decode cX11_init 470 = .ok (.bipush 119, 2) := by decide +kernel
theorem dX11_init_472 : decode cX11_init 472 = .ok (.bipush 104, 2) := by decide +kernel
theorem dX11_init_474 : decode cX11_init 474 = .ok (.bipush 101, 2) := by decide +kernel
theorem dX11_init_476 : decode cX11_init 476 = .ok (.bipush 110, 2) := by decide +kernel
theorem dX11_init_478 : decode cX11_init 478 = .ok (.iconst 0, 1) := by decide +kernel
theorem dX11_init_479 : decode cX11_init 479 = .ok (.iconst 0, 1) := by decide +kernel
theorem dX11_init_480 : decode cX11_init 480 = .ok (.iconst 0, 1) := by decide +kernel
theorem dX11_init_481 : decode cX11_init 481 = .ok (.invokestatic 158, 3) := by decide +kernel
theorem dX11_init_484 : decode cX11_init 484 = .ok (.lastore, 1) := by decide +kernel
theorem dX11_init_485 : decode cX11_init 485 = .ok (.aload_n 0, 1) := by decide +kernel
theorem dX11_init_486 : decode cX11_init 486 = .ok (.getfield 34, 3) := by decide +kernel
theorem dX11_init_489 : decode cX11_init 489 = .ok (.iconst 5, 1) := by decide +kernel
theorem dX11_init_490 : decode cX11_init 490 = .ok (.bipush 108, 2) := by decide +kernel
theorem dX11_init_492 : decode cX11_init 492 = .ok (.bipush 97, 2) := by decide +kernel
theorem dX11_init_494 : decode cX11_init 494 = .ok (.bipush 119, 2) := by decide +kernel
theorem dX11_init_496 : decode cX11_init 496 = .ok (.iconst 0, 1) := by decide +kernel
theorem dX11_init_497 : decode cX11_init 497 = .ok (.iconst 0, 1) := by decide +kernel
theorem dX11_init_498 : decode cX11_init 498 = .ok (.iconst 0, 1) := by decide +kernel
theorem dX11_init_499 : decode cX11_init 499 = .ok (.iconst 0, 1) := by decide +kernel
theorem dX11_init_500 : decode cX11_init 500 = .ok (.invokestatic 158, 3) := by decide +kernel
theorem dX11_init_503 : decode cX11_init 503 = .ok (.lastore, 1) := by decide +kernel
theorem dX11_init_504 : decode cX11_init 504 = .ok (.aload_n 0, 1) := by decide +kernel
theorem dX11_init_505 : decode cX11_init 505 = .ok (.getfield 34, 3) := by decide +kernel
theorem dX11_init_508 : decode cX11_init 508 = .ok (.bipush 6, 2) := by decide +kernel
theorem dX11_init_510 : decode cX11_init 510 = .ok (.bipush 97, 2) := by decide +kernel
theorem dX11_init_512 : decode cX11_init 512 = .ok (.bipush 108, 2) := by decide +kernel
theorem dX11_init_514 : decode cX11_init 514 = .ok (.bipush 108, 2) := by decide +kernel
theorem dX11_init_516 : decode cX11_init 516 = .ok (.iconst 0, 1) := by decide +kernel
theorem dX11_init_517 : decode cX11_init 517 = .ok (.iconst 0, 1) := by decide +kernel
theorem dX11_init_518 : decode cX11_init 518 = .ok (.iconst 0, 1) := by decide +kernel
theorem dX11_init_519 : decode cX11_init 519 = .ok (.iconst 0, 1) := by decide +kernel
theorem dX11_init_520 : decode cX11_init 520 = .ok (.invokestatic 158, 3) := by decide +kernel
theorem dX11_init_523 : decode cX11_init 523 = .ok (.lastore, 1) := by decide +kernel
theorem dX11_init_524 : decode cX11_init 524 = .ok (.aload_n 0, 1) := by decide +kernel
theorem dX11_init_525 : decode cX11_init 525 = .ok (.getfield 34, 3) := by decide +kernel
theorem dX11_init_528 : decode cX11_init 528 = .ok (.bipush 7, 2) := by decide +kernel
theorem dX11_init_530 : decode cX11_init 530 = .ok (.bipush 107, 2) := by decide +kernel
theorem dX11_init_532 : decode cX11_init 532 = .ok (.bipush 105, 2) := by decide +kernel
theorem dX11_init_534 : decode cX11_init 534 = .ok (.bipush 110, 2) := by decide +kernel
theorem dX11_init_536 : decode cX11_init 536 = .ok (.bipush 100, 2) := by decide +kernel
theorem dX11_init_538 : decode cX11_init 538 = .ok (.iconst 0, 1) := by decide +kernel
theorem dX11_init_539 : decode cX11_init 539 = .ok (.iconst 0, 1) := by decide +kernel
theorem dX11_init_540 : decode cX11_init 540 = .ok (.iconst 0, 1) := by decide +kernel
theorem dX11_init_541 : decode cX11_init 541 = .ok (.invokestatic 158, 3) := by decide +kernel
theorem dX11_init_544 : decode cX11_init 544 = .ok (.lastore, 1) := by decide +kernel
theorem dX11_init_545 : decode cX11_init 545 = .ok (.aload_n 0, 1) := by decide +kernel
theorem dX11_init_546 : decode cX11_init 546 = .ok (.getfield 34, 3) := by decide +kernel
theorem dX11_init_549 : decode cX11_init 549 = .ok (.bipush 8, 2) := by decide +kernel
theorem dX11_init_551 : decode cX11_init 551 = .ok (.bipush 116, 2) := by decide +kernel
theorem dX11_init_553 : decode cX11_init 553 = .ok (.bipush 119, 2) := by decide +kernel
theorem dX11_init_555 : decode cX11_init 555 = .ok (.bipush 111, 2) := by decide +kernel
theorem dX11_init_557 : decode cX11_init 557 = .ok (.iconst 0, 1) := by decide +kernel
theorem dX11_init_558 : decode cX11_init 558 = .ok (.iconst 0, 1) := by decide +kernel
theorem dX11_init_559 : decode cX11_init 559 = .ok (.iconst 0, 1) := by decide +kernel
theorem dX11_init_560 : decode cX11_init 560 = .ok (.iconst 0, 1) := by decide +kernel
theorem dX11_init_561 : decode cX11_init 561 = .ok (.invokestatic 158, 3) := by decide +kernel
theorem dX11_init_564 : decode cX11_init 564 = .ok (.lastore, 1) := by decide +kernel
theorem dX11_init_565 : decode cX11_init 565 = .ok (.aload_n 0, 1) := by decide +kernel
theorem dX11_init_566 : decode cX11_init 566 = .ok (.getfield 34, 3) := by decide +kernel
theorem dX11_init_569 : decode cX11_init 569 = .ok (.bipush 9, 2) := by decide +kernel
theorem dX11_init_571 : decode cX11_init 571 = .ok (.bipush 115, 2) := by decide +kernel
theorem dX11_init_573 : decode cX11_init 573 = .ok (.bipush 104, 2) := by decide +kernel
theorem dX11_init_575 : decode cX11_init 575 = .ok (.bipush 97, 2) := by decide +kernel
theorem dX11_init_577 : decode cX11_init 577 = .ok (.bipush 114, 2) := by decide +kernel
theorem dX11_init_579 : decode cX11_init 579 = .ok (.bipush 112, 2) := by decide +kernel
theorem dX11_init_581 : decode cX11_init 581 = .ok (.iconst 0, 1) := by decide +kernel
theorem dX11_init_582 : decode cX11_init 582 = .ok (.iconst 0, 1) := by decide +kernel
theorem dX11_init_583 : decode cX11_init 583 = .ok (.invokestatic 158, 3) := by decide +kernel
theorem dX11_init_586 : decode cX11_init 586 = .ok (.lastore, 1) := by decide +kernel
theorem dX11_init_587 : decode cX11_init 587 = .ok (.aload_n 0, 1) := by decide +kernel
theorem dX11_init_588 : decode cX11_init 588 = .ok (.getfield 34, 3) := by decide +kernel
theorem dX11_init_591 : decode cX11_init 591 = .ok (.bipush 10, 2) := by decide +kernel
theorem dX11_init_593 : decode cX11_init 593 = .ok (.bipush 107, 2) := by decide +kernel
theorem dX11_init_595 : decode cX11_init 595 = .ok (.bipush 110, 2) := by decide +kernel
theorem dX11_init_597 : decode cX11_init 597 = .ok (.bipush 111, 2) := by decide +kernel
theorem dX11_init_599 : decode cX11_init 599 = .ok (.bipush 119, 2) := by decide +kernel
theorem dX11_init_601 : decode cX11_init 601 = .ok (.bipush 110, 2) := by decide +kernel
theorem dX11_init_603 : decode cX11_init 603 = .ok (.iconst 0, 1) := by decide +kernel
theorem dX11_init_604 : decode cX11_init 604 = .ok (.iconst 0, 1) := by decide +kernel
theorem dX11_init_605 : decode cX11_init 605 = .ok (.invokestatic 158, 3) := by decide +kernel
theorem dX11_init_608 : decode cX11_init 608 = .ok (.lastore, 1) := by decide +kernel
theorem dX11_init_609 : decode cX11_init 609 = .ok (.aload_n 0, 1) := by decide +kernel
theorem dX11_init_610 : decode cX11_init 610 = .ok (.getfield 34, 3) := by decide +kernel
theorem dX11_init_613 : decode cX11_init 613 = .ok (.bipush 11, 2) := by decide +kernel
theorem dX11_init_615 : decode cX11_init 615 = .ok (.bipush 97, 2) := by decide +kernel
theorem dX11_init_617 : decode cX11_init 617 = .ok (.bipush 103, 2) := by decide +kernel
theorem dX11_init_619 : decode cX11_init 619 = .ok (.bipush 101, 2) := by decide +kernel
theorem dX11_init_621 : decode cX11_init 621 = .ok (.iconst 0, 1) := by decide +kernel
theorem dX11_init_622 : decode cX11_init 622 = .ok (.iconst 0, 1) := by decide +kernel
theorem dX11_init_623 : decode cX11_init 623 = .ok (.iconst 0, 1) := by decide +kernel
theorem dX11_init_624 : decode cX11_init 624 = .ok (.iconst 0, 1) := by decide +kernel
theorem dX11_init_625 : decode cX11_init 625 = .ok (.invokestatic 158, 3) := by decide +kernel
theorem dX11_init_628 : decode cX11_init 628 = .ok (.lastore, 1) := by decide +kernel
theorem dX11_init_629 : decode cX11_init 629 = .ok (.aload_n 0, 1) := by decide +kernel
theorem dX11_init_630 : decode cX11_init 630 = .ok (.getfield 34, 3) := by decide +kernel
theorem dX11_init_633 : decode cX11_init 633 = .ok (.bipush 12, 2) := by decide +kernel
theorem dX11_init_635 : decode cX11_init 635 = .ok (.bipush 119, 2) := by decide +kernel
theorem dX11_init_637 : decode cX11_init 637 = .ok (.bipush 114, 2) := by decide +kernel
theorem dX11_init_639 : decode cX11_init 639 = .ok (.bipush 111, 2) := by decide +kernel
theorem dX11_init_641 : decode cX11_init 641 = .ok (.bipush 110, 2) := by decide +kernel
theorem dX11_init_643 : decode cX11_init 643 = .ok (.bipush 103, 2) := by decide +kernel
theorem dX11_init_645 : decode cX11_init 645 = .ok (.iconst 0, 1) := by decide +kernel
theorem dX11_init_646 : decode cX11_init 646 = .ok (.iconst 0, 1) := by decide +kernel
theorem dX11_init_647 : decode cX11_init 647 = .ok (.invokestatic 158, 3) := by decide +kernel
theorem dX11_init_650 : decode cX11_init 650 = .ok (.lastore, 1) := by decide +kernel
theorem dX11_init_651 : decode cX11_init 651 = .ok (.aload_n 0, 1) := by decide +kernel
theorem dX11_init_652 : decode cX11_init 652 = .ok (.getfield 34, 3) := by decide +kernel
theorem dX11_init_655 : decode cX11_init 655 = .ok (.bipush 13, 2) := by decide +kernel
theorem dX11_init_657 : decode cX11_init 657 = .ok (.bipush 111, 2) := by decide +kernel
theorem dX11_init_659 : decode cX11_init 659 = .ok (.bipush 114, 2) := by decide +kernel
theorem dX11_init_661 : decode cX11_init 661 = .ok (.iconst 0, 1) := by decide +kernel
theorem dX11_init_662 : decode cX11_init 662 = .ok (.iconst 0, 1) := by decide +kernel
theorem dX11_init_663 : decode cX11_init 663 = .ok (.iconst 0, 1) := by decide +kernel
theorem dX11_init_664 : decode cX11_init 664 = .ok (.iconst 0, 1) := by decide +kernel
theorem dX11_init_665 : decode cX11_init 665 = .ok (.iconst 0, 1) := by decide +kernel
theorem dX11_init_666 : decode cX11_init 666 = .ok (.invokestatic 158, 3) := by decide +kernel
theorem dX11_init_669 : decode cX11_init 669 = .ok (.lastore, 1) := by decide +kernel
theorem dX11_init_670 : decode cX11_init 670 = .ok (.aload_n 0, 1) := by decide +kernel
theorem dX11_init_671 : decode cX11_init 671 = .ok (.getfield 34, 3) := by decide +kernel
theorem dX11_init_674 : decode cX11_init 674 = .ok (.bipush 14, 2) := by decide +kernel
theorem dX11_init_676 : decode cX11_init 676 = .ok (.bipush 97, 2) := by decide +kernel
theorem dX11_init_678 : decode cX11_init 678 = .ok (.bipush 110, 2) := by decide +kernel
theorem dX11_init_680 : decode cX11_init 680 = .ok (.bipush 100, 2) := by decide +kernel
theorem dX11_init_682 : decode cX11_init 682 = .ok (.iconst 0, 1) := by decide +kernel
theorem dX11_init_683 : decode cX11_init 683 = .ok (.iconst 0, 1) := by decide +kernel
theorem dX11_init_684 : decode cX11_init 684 = .ok (.iconst 0, 1) := by decide +kernel
theorem dX11_init_685 : decode cX11_init 685 = .ok (.iconst 0, 1) := by decide +kernel
theorem dX11_init_686 : decode cX11_init 686 = .ok (.invokestatic 158, 3) := by decide +kernel
theorem dX11_init_689 : decode cX11_init 689 = .ok (.lastore, 1) := by decide +kernel
theorem dX11_init_690 : decode cX11_init 690 = .ok (.aload_n 0, 1) := by decide +kernel
theorem dX11_init_691 : decode cX11_init 691 = .ok (.getfield 34, 3) := by decide +kernel
theorem dX11_init_694 : decode cX11_init 694 = .ok (.bipush 15, 2) := by decide +kernel
theorem dX11_init_696 : decode cX11_init 696 = .ok (.bipush 110, 2) := by decide +kernel
theorem dX11_init_698 : decode cX11_init 698 = .ok (.bipush 111, 2) := by decide +kernel
theorem dX11_init_700 : decode cX11_init 700 = .ok (.bipush 116, 2) := by decide +kernel
theorem dX11_init_702 : decode cX11_init 702 = .ok (.iconst 0, 1) := by decide +kernel
theorem dX11_init_703 : decode cX11_init 703 = .ok (.iconst 0, 1) := by decide +kernel
theorem dX11_init_704 : decode cX11_init 704 = .ok (.iconst 0, 1) := by decide +kernel
theorem dX11_init_705 : decode cX11_init 705 = .ok (.iconst 0, 1) := by decide +kernel
theorem dX11_init_706 : decode cX11_init 706 = .ok (.invokestatic 158, 3) := by decide +kernel
theorem dX11_init_709 : decode cX11_init 709 = .ok (.lastore, 1) := by decide +kernel
theorem dX11_init_710 : decode cX11_init 710 = .ok (.aload_n 0, 1) := by decide +kernel
theorem dX11_init_711 : decode cX11_init 711 = .ok (.getfield 34, 3) := by decide +kernel
theorem dX11_init_714 : decode cX11_init 714 = .ok (.bipush 16, 2) := by decide +kernel
theorem dX11_init_716 : decode cX11_init 716 = .ok (.bipush 119, 2) := by decide +kernel
theorem dX11_init_718 : decode cX11_init 718 = .ok (.bipush 97, 2) := by decide +kernel
theorem dX11_init_720 : decode cX11_init 720 = .ok (.bipush 121, 2) := by decide +kernel
theorem dX11_init_722 : decode cX11_init 722 = .ok (.iconst 0, 1) := by decide +kernel
theorem dX11_init_723 : decode cX11_init 723 = .ok (.iconst 0, 1) := by decide +kernel
theorem dX11_init_724 : decode cX11_init 724 = .ok (.iconst 0, 1) := by decide +kernel
theorem dX11_init_725 : decode cX11_init 725 = .ok (.iconst 0, 1) := by decide +kernel
theorem dX11_init_726 : decode cX11_init 726 = .ok (.invokestatic 158, 3) := by decide +kernel
theorem dX11_init_729 : decode cX11_init 729 = .ok (.lastore, 1) := by decide +kernel
theorem dX11_init_730 : decode cX11_init 730 = .ok (.aload_n 0, 1) := by decide +kernel
theorem dX11_init_731 : decode cX11_init 731 = .ok (.getfield 34, 3) := by decide +kernel
theorem dX11_init_734 : decode cX11_init 734 = .ok (.bipush 17, 2) := by decide +kernel
theorem dX11_init_736 : decode cX11_init 736 = .ok (.bipush 109, 2) := by decide +kernel
theorem dX11_init_738 : decode cX11_init 738 = .ok (.bipush 105, 2) := by decide +kernel
theorem dX11_init_740 : decode cX11_init 740 = .ok (.bipush 110, 2) := by decide +kernel
theorem dX11_init_742 : decode cX11_init 742 = .ok (.bipush 117, 2) := by decide +kernel
theorem dX11_init_744 : decode cX11_init 744 = .ok (.bipush 116, 2) := by decide +kernel
theorem dX11_init_746 : decode cX11_init 746 = .ok (.bipush 101, 2) := by decide +kernel
theorem dX11_init_748 : decode cX11_init 748 = .ok (.iconst 0, 1) := by decide +kernel
theorem dX11_init_749 : decode cX11_init 749 = .ok (.invokestatic 158, 3) := by decide +kernel
theorem dX11_init_752 : decode cX11_init 752 = .ok (.lastore, 1) := by decide +kernel
theorem dX11_init_753 : decode cX11_init 753 = .ok (.aload_n 0, 1) := by decide +kernel
theorem dX11_init_754 : decode cX11_init 754 = .ok (.getfield 34, 3) := by decide +kernel
theorem dX11_init_757 : decode cX11_init 757 = .ok (.bipush 18, 2) := by decide +kernel
theorem dX11_init_759 : decode cX11_init 759 = .ok (.bipush 109, 2) := by decide +kernel
theorem dX11_init_761 : decode cX11_init 761 = .ok (.bipush 111, 2) := by decide +kernel
theorem dX11_init_763 : decode cX11_init 763 = .ok (.bipush 110, 2) := by decide +kernel
theorem dX11_init_765 : decode cX11_init 765 = .ok (.bipush 116, 2) := by decide +kernel
theorem dX11_init_767 : decode cX11_init 767 = .ok (.bipush 104, 2) := by decide +kernel
theorem dX11_init_769 : decode cX11_init 769 = .ok (.iconst 0, 1) := by decide +kernel
theorem dX11_init_770 : decode cX11_init 770 = .ok (.iconst 0, 1) := by decide +kernel
theorem dX11_init_771 : decode cX11_init 771 = .ok (.invokestatic 158, 3) := by decide +kernel
theorem dX11_init_774 : decode cX11_init 774 = .ok (.lastore, 1) := by decide +kernel
theorem dX11_init_775 : decode cX11_init 775 = .ok (.aload_n 0, 1) := by decide +kernel
theorem dX11_init_776 : decode cX11_init 776 = .ok (.getfield 34, 3) := by decide +kernel
theorem dX11_init_779 : decode cX11_init 779 = .ok (.bipush 19, 2) := by decide +kernel
theorem dX11_init_781 : decode cX11_init 781 = .ok (.bipush 121, 2) := by decide +kernel
theorem dX11_init_783 : decode cX11_init 783 = .ok (.bipush 101, 2) := by decide +kernel
theorem dX11_init_785 : decode cX11_init 785 = .ok (.bipush 97, 2) := by decide +kernel
theorem dX11_init_787 : decode cX11_init 787 = .ok (.bipush 114, 2) := by decide +kernel
theorem dX11_init_789 : decode cX11_init 789 = .ok (.bipush 115, 2) := by decide +kernel
theorem dX11_init_791 : decode cX11_init 791 = .ok (.iconst 0, 1) := by decide +kernel
theorem dX11_init_792 : decode cX11_init 792 = .ok (.iconst 0, 1) := by decide +kernel
theorem dX11_init_793 : decode cX11_init 793 = .ok (.invokestatic 158, 3) := by decide +kernel
theorem dX11_init_796 : decode cX11_init 796 = .ok (.lastore, 1) := by decide +kernel
theorem dX11_init_797 : decode cX11_init 797 = .ok (.aload_n 0, 1) := by decide +kernel
theorem dX11_init_798 : decode cX11_init 798 = .ok (.getfield 34, 3) := by decide +kernel
theorem dX11_init_801 : decode cX11_init 801 = .ok (.bipush 20, 2) := by decide +kernel
theorem dX11_init_803 : decode cX11_init 803 = .ok (.bipush 99, 2) := by decide +kernel
theorem dX11_init_805 : decode cX11_init 805 = .ok (.bipush 111, 2) := by decide +kernel
theorem dX11_init_807 : decode cX11_init 807 = .ok (.bipush 97, 2) := by decide +kernel
theorem dX11_init_809 : decode cX11_init 809 = .ok (.bipush 116, 2) := by decide +kernel
theorem dX11_init_811 : decode cX11_init 811 = .ok (.iconst 0, 1) := by decide +kernel
theorem dX11_init_812 : decode cX11_init 812 = .ok (.iconst 0, 1) := by decide +kernel
theorem dX11_init_813 : decode cX11_init 813 = .ok (.iconst 0, 1) := by decide +kernel
theorem dX11_init_814 : decode cX11_init 814 = .ok (.invokestatic 158, 3) := by decide +kernel
theorem dX11_init_817 : decode cX11_init 817 = .ok (.lastore, 1) := by decide +kernel
theorem dX11_init_818 : decode cX11_init 818 = .ok (.aload_n 0, 1) := by decide +kernel
theorem dX11_init_819 : decode cX11_init 819 = .ok (.getfield 34, 3) := by decide +kernel
theorem dX11_init_822 : decode cX11_init 822 = .ok (.bipush 21, 2) := by decide +kernel
theorem dX11_init_824 : decode cX11_init 824 = .ok (.bipush 116, 2) := by decide +kernel
theorem dX11_init_826 : decode cX11_init 826 = .ok (.bipush 114, 2) := by decide +kernel
theorem dX11_init_828 : decode cX11_init 828 = .ok (.bipush 117, 2) := by decide +kernel
theorem dX11_init_830 : decode cX11_init 830 = .ok (.bipush 101, 2) := by decide +kernel
theorem dX11_init_832 : decode cX11_init 832 = .ok (.iconst 0, 1) := by decide +kernel
theorem dX11_init_833 : decode cX11_init 833 = .ok (.iconst 0, 1) := by decide +kernel
theorem dX11_init_834 : decode cX11_init 834 = .ok (.iconst 0, 1) := by decide +kernel
theorem dX11_init_835 : decode cX11_init 835 = .ok (.invokestatic 158, 3) := by decide +kernel
theorem dX11_init_838 : decode cX11_init 838 = .ok (.lastore, 1) := by decide +kernel
theorem dX11_init_839 : decode cX11_init 839 = .ok (.aload_n 0, 1) := by decide +kernel
theorem dX11_init_840 : decode cX11_init 840 = .ok (.getfield 34, 3) := by decide +kernel
theorem dX11_init_843 : decode cX11_init 843 = .ok (.bipush 22, 2) := by decide +kernel
theorem dX11_init_845 : decode cX11_init 845 = .ok (.bipush 102, 2) := by decide +kernel
theorem dX11_init_847 : decode cX11_init 847 = .ok (.bipush 97, 2) := by decide +kernel
theorem dX11_init_849 : decode cX11_init 849 = .ok (.bipush 108, 2) := by decide +kernel
theorem dX11_init_851 : decode cX11_init 851 = .ok (.bipush 115, 2) := by decide +kernel
theorem dX11_init_853 : decode cX11_init 853 = .ok (.bipush 101, 2) := by decide +kernel
theorem dX11_init_855 : decode cX11_init 855 = .ok (.iconst 0, 1) := by decide +kernel
theorem dX11_init_856 : decode cX11_init 856 = .ok (.iconst 0, 1) := by decide +kernel
theorem dX11_init_857 : decode cX11_init 857 = .ok (.invokestatic 158, 3) := by decide +kernel
theorem dX11_init_860 : decode cX11_init 860 = .ok (.lastore, 1) := by decide +kernel
theorem dX11_init_861 : decode cX11_init 861 = .ok (.return_, 1) := by decide +kernel
theorem dX11_feed_0 : decode cX11_feed 0 = .ok (.aload_n 0, 1) := by decide +kernel
theorem dX11_feed_1 : decode cX11_feed 1 = .ok (.getfield 162, 3) := by decide +kernel
theorem dX11_feed_4 : decode cX11_feed 4 = .ok (.bipush 20, 2) := by decide +kernel
theorem dX11_feed_6 : decode cX11_feed 6 = .ok (.iadd, 1) := by decide +kernel
theorem dX11_feed_7 : decode cX11_feed 7 = .ok (.sipush 2000, 3) := by decide +kernel
theorem dX11_feed_10 : decode cX11_feed 10 = .ok (.if_icmp .le 5, 3) := by decide +kernel
theorem dX11_feed_13 : decode cX11_feed 13 = .ok (.iconst (-1), 1) := by decide +kernel
theorem dX11_feed_14 : decode cX11_feed 14 = .ok (.ireturn, 1) := by decide +kernel
theorem dX11_feed_15 : decode cX11_feed 15 = .ok (.aload_n 0, 1) := by decide +kernel
theorem dX11_feed_16 : decode cX11_feed 16 = .ok (.iload_n 1, 1) := by decide +kernel
theorem dX11_feed_17 : decode cX11_feed 17 = .ok (.invokevirtual 165, 3) := by decide +kernel
theorem dX11_feed_20 : decode cX11_feed 20 = .ok (.aload_n 0, 1) := by decide +kernel
theorem dX11_feed_21 : decode cX11_feed 21 = .ok (.iload_n 2, 1) := by decide +kernel
theorem dX11_feed_22 : decode cX11_feed 22 = .ok (.invokevirtual 165, 3) := by decide +kernel
theorem dX11_feed_25 : decode cX11_feed 25 = .ok (.aload_n 0, 1) := by decide +kernel
theorem dX11_feed_26 : decode cX11_feed 26 = .ok (.iload_n 3, 1) := by decide +kernel
theorem dX11_feed_27 : decode cX11_feed 27 = .ok (.invokevirtual 165, 3) := by decide +kernel
theorem dX11_feed_30 : decode cX11_feed 30 = .ok (.aload_n 0, 1) := by decide +kernel
theorem dX11_feed_31 : decode cX11_feed 31 = .ok (.iload 4, 2) := by decide +kernel
theorem dX11_feed_33 : decode cX11_feed 33 = .ok (.invokevirtual 165, 3) := by decide +kernel
theorem dX11_feed_36 : decode cX11_feed 36 = .ok (.aload_n 0, 1) := by decide +kernel
theorem dX11_feed_37 : decode cX11_feed 37 = .ok (.iload 5, 2) := by decide +kernel
theorem dX11_feed_39 : decode cX11_feed 39 = .ok (.invokevirtual 165, 3) := by decide +kernel
theorem dX11_feed_42 : decode cX11_feed 42 = .ok (.aload_n 0, 1) := by decide +kernel
theorem dX11_feed_43 : decode cX11_feed 43 = .ok (.getfield 162, 3) := by decide +kernel
theorem dX11_feed_46 : decode cX11_feed 46 = .ok (.ireturn, 1) := by decide +kernel
theorem dX11_put_0 : decode cX11_put 0 = .ok (.bipush 24, 2) := by decide +kernel
theorem dX11_put_2 : decode cX11_put 2 = .ok (.istore_n 2, 1) := by decide +kernel
theorem dX11_put_3 : decode cX11_put 3 = .ok (.iload_n 2, 1) := by decide +kernel
theorem dX11_put_4 : decode cX11_put 4 = .ok (.ifCond .lt 32, 3) := by decide +kernel
theorem dX11_put_7 : decode cX11_put 7 = .ok (.aload_n 0, 1) := by decide +kernel
theorem dX11_put_8 : decode cX11_put 8 = .ok (.getfield 13, 3) := by decide +kernel
theorem dX11_put_11 : decode cX11_put 11 = .ok (.aload_n 0, 1) := by decide +kernel
theorem dX11_put_12 : decode cX11_put 12 = .ok (.getfield 162, 3) := by decide +kernel
theorem dX11_put_15 : decode cX11_put 15 = .ok (.iload_n 1, 1) := by decide +kernel
theorem dX11_put_16 : decode cX11_put 16 = .ok (.iload_n 2, 1) := by decide +kernel
theorem dX11_put_17 : decode cX11_put 17 = .ok (.ishr, 1) := by decide +kernel
theorem dX11_put_18 : decode cX11_put 18 = .ok (.i2b, 1) := by decide +kernel
theorem dX11_put_19 : decode cX11_put 19 = .ok (.bastore, 1) := by decide +kernel
theorem dX11_put_20 : decode cX11_put 20 = .ok (.aload_n 0, 1) := by decide +kernel
theorem dX11_put_21 : decode cX11_put 21 = .ok (.dup, 1) := by decide +kernel
theorem dX11_put_22 : decode cX11_put 22 = .ok (.getfield 162, 3) := by decide +kernel
theorem dX11_put_25 : decode cX11_put 25 = .ok (.iconst 1, 1) := by decide +kernel
theorem dX11_put_26 : decode cX11_put 26 = .ok (.iadd, 1) := by decide +kernel
theorem dX11_put_27 : decode cX11_put 27 = .ok (.putfield 162, 3) := by decide +kernel
theorem dX11_put_30 : decode cX11_put 30 = .ok (.iinc 2 (-8), 3) := by decide +kernel
theorem dX11_put_33 : decode cX11_put 33 = .ok (.goto (-30), 3) := by decide +kernel
theorem dX11_put_36 : decode cX11_put 36 = .ok (.return_, 1) := by decide +kernel
theorem dX11_back_0 : decode cX11_back 0 = .ok (.iload_n 1, 1) := by decide +kernel
theorem dX11_back_1 : decode cX11_back 1 = .ok (.ifCond .lt 11, 3) := by decide +kernel
theorem dX11_back_4 : decode cX11_back 4 = .ok (.iload_n 1, 1) := by decide +kernel
theorem dX11_back_5 : decode cX11_back 5 = .ok (.aload_n 0, 1) := by decide +kernel
theorem dX11_back_6 : decode cX11_back 6 = .ok (.getfield 162, 3) := by decide +kernel
theorem dX11_back_9 : decode cX11_back 9 = .ok (.if_icmp .le 5, 3) := by decide +kernel
theorem dX11_back_12 : decode cX11_back 12 = .ok (.iconst (-1), 1) := by decide +kernel
theorem dX11_back_13 : decode cX11_back 13 = .ok (.ireturn, 1) := by decide +kernel
theorem dX11_back_14 : decode cX11_back 14 = .ok (.aload_n 0, 1) := by decide +kernel
theorem dX11_back_15 : decode cX11_back 15 = .ok (.dup, 1) := by decide +kernel
theorem dX11_back_16 : decode cX11_back 16 = .ok (.getfield 162, 3) := by decide +kernel
theorem dX11_back_19 : decode cX11_back 19 = .ok (.iload_n 1, 1) := by decide +kernel
theorem dX11_back_20 : decode cX11_back 20 = .ok (.isub, 1) := by decide +kernel
theorem dX11_back_21 : decode cX11_back 21 = .ok (.putfield 162, 3) := by decide +kernel
theorem dX11_back_24 : decode cX11_back 24 = .ok (.aload_n 0, 1) := by decide +kernel
theorem dX11_back_25 : decode cX11_back 25 = .ok (.getfield 162, 3) := by decide +kernel
theorem dX11_back_28 : decode cX11_back 28 = .ok (.ireturn, 1) := by decide +kernel
theorem dX11_byteAt_0 : decode cX11_byteAt 0 = .ok (.iload_n 1, 1) := by decide +kernel
theorem dX11_byteAt_1 : decode cX11_byteAt 1 = .ok (.aload_n 0, 1) := by decide +kernel
theorem dX11_byteAt_2 : decode cX11_byteAt 2 = .ok (.getfield 169, 3) := by decide +kernel
theorem dX11_byteAt_5 : decode cX11_byteAt 5 = .ok (.if_icmp .ge 16, 3) := by decide +kernel
theorem dX11_byteAt_8 : decode cX11_byteAt 8 = .ok (.aload_n 0, 1) := by decide +kernel
theorem dX11_byteAt_9 : decode cX11_byteAt 9 = .ok (.getfield 17, 3) := by decide +kernel
theorem dX11_byteAt_12 : decode cX11_byteAt 12 = .ok (.iload_n 1, 1) := by decide +kernel
theorem dX11_byteAt_13 : decode cX11_byteAt 13 = .ok (.baload, 1) := by decide +kernel
theorem dX11_byteAt_14 : decode cX11_byteAt 14 = .ok (.sipush 255, 3) := by decide +kernel
theorem dX11_byteAt_17 : decode cX11_byteAt 17 = .ok (.iand, 1) := by decide +kernel
theorem dX11_byteAt_18 : decode cX11_byteAt 18 = .ok (.goto 4, 3) := by decide +kernel
theorem dX11_byteAt_21 : decode cX11_byteAt 21 = .ok (.iconst 0, 1) := by decide +kernel
theorem dX11_byteAt_22 : decode cX11_byteAt 22 = .ok (.ireturn, 1) := by decide +kernel
theorem dX11_isDigit_0 : decode cX11_isDigit 0 = .ok (.iload_n 0, 1) := by decide +kernel
theorem dX11_isDigit_1 : decode cX11_isDigit 1 = .ok (.bipush 48, 2) := by decide +kernel
theorem dX11_isDigit_3 : decode cX11_isDigit 3 = .ok (.if_icmp .lt 13, 3) := by decide +kernel
theorem dX11_isDigit_6 : decode cX11_isDigit 6 = .ok (.iload_n 0, 1) := by decide +kernel
theorem dX11_isDigit_7 : decode cX11_isDigit 7 = .ok (.bipush 57, 2) := by decide +kernel
theorem dX11_isDigit_9 : decode cX11_isDigit 9 = .ok (.if_icmp .gt 7, 3) := by decide +kernel
theorem dX11_isDigit_12 : decode cX11_isDigit 12 = .ok (.iconst 1, 1) := by decide +kernel
theorem dX11_isDigit_13 : decode cX11_isDigit 13 = .ok (.goto 4, 3) := by decide +kernel
theorem dX11_isDigit_16 : decode cX11_isDigit 16 = .ok (.iconst 0, 1) := by decide +kernel
theorem dX11_isDigit_17 : decode cX11_isDigit 17 = .ok (.ireturn, 1) := by decide +kernel
theorem dX11_isLetter_0 : decode cX11_isLetter 0 = .ok (.iload_n 0, 1) := by decide +kernel
theorem dX11_isLetter_1 : decode cX11_isLetter 1 = .ok (.bipush 97, 2) := by decide +kernel
theorem dX11_isLetter_3 : decode cX11_isLetter 3 = .ok (.if_icmp .lt 13, 3) := by decide +kernel
theorem dX11_isLetter_6 : decode cX11_isLetter 6 = .ok (.iload_n 0, 1) := by decide +kernel
theorem dX11_isLetter_7 : decode cX11_isLetter 7 = .ok (.bipush 122, 2) := by decide +kernel
theorem dX11_isLetter_9 : decode cX11_isLetter 9 = .ok (.if_icmp .gt 7, 3) := by decide +kernel
theorem dX11_isLetter_12 : decode cX11_isLetter 12 = .ok (.iconst 1, 1) := by decide +kernel
theorem dX11_isLetter_13 : decode cX11_isLetter 13 = .ok (.goto 4, 3) := by decide +kernel
theorem dX11_isLetter_16 : decode cX11_isLetter 16 = .ok (.iconst 0, 1) := by decide +kernel
theorem dX11_isLetter_17 : decode cX11_isLetter 17 = .ok (.ireturn, 1) := by decide +kernel
theorem dX11_appends_0 : decode cX11_appends 0 = .ok (.iload_n 2, 1) := by decide +kernel
theorem dX11_appends_1 : decode cX11_appends 1 = .ok (.ifCond .ne 7, 3) := by decide +kernel
theorem dX11_appends_4 : decode cX11_appends 4 = .ok (.lload_n 0, 1) := by decide +kernel
theorem dX11_appends_5 : decode cX11_appends 5 = .ok (.goto 16, 3) := by decide +kernel
theorem dX11_appends_8 : decode cX11_appends 8 = .ok (.ldc2_w 172, 3) := by decide +kernel
theorem dX11_appends_11 : decode cX11_appends 11 = .ok (.lload_n 0, 1) := by decide +kernel
theorem dX11_appends_12 : decode cX11_appends 12 = .ok (.lmul, 1) := by decide +kernel
theorem dX11_appends_13 : decode cX11_appends 13 = .ok (.iload_n 2, 1) := by decide +kernel
theorem dX11_appends_14 : decode cX11_appends 14 = .ok (.bipush 97, 2) := by decide +kernel
theorem dX11_appends_16 : decode cX11_appends 16 = .ok (.isub, 1) := by decide +kernel
theorem dX11_appends_17 : decode cX11_appends 17 = .ok (.iconst 1, 1) := by decide +kernel
theorem dX11_appends_18 : decode cX11_appends 18 = .ok (.iadd, 1) := by decide +kernel
theorem dX11_appends_19 : decode cX11_appends 19 = .ok (.i2l, 1) := by decide +kernel
theorem dX11_appends_20 : decode cX11_appends 20 = .ok (.ladd, 1) := by decide +kernel
theorem dX11_appends_21 : decode cX11_appends 21 = .ok (.lreturn, 1) := by decide +kernel
theorem dX11_word_0 : decode cX11_word 0 = .ok (.lconst 0, 1) := by decide +kernel
theorem dX11_word_1 : decode cX11_word 1 = .ok (.iload_n 0, 1) := by decide +kernel
theorem dX11_word_2 : decode cX11_word 2 = .ok (.invokestatic 174, 3) := by decide +kernel
theorem dX11_word_5 : decode cX11_word 5 = .ok (.iload_n 1, 1) := by decide +kernel
theorem dX11_word_6 : decode cX11_word 6 = .ok (.invokestatic 174, 3) := by decide +kernel
theorem dX11_word_9 : decode cX11_word 9 = .ok (.iload_n 2, 1) := by decide +kernel
theorem dX11_word_10 : decode cX11_word 10 = .ok (.invokestatic 174, 3) := by decide +kernel
theorem dX11_word_13 : decode cX11_word 13 = .ok (.iload_n 3, 1) := by decide +kernel
theorem dX11_word_14 : decode cX11_word 14 = .ok (.invokestatic 174, 3) := by decide +kernel
theorem dX11_word_17 : decode cX11_word 17 = .ok (.iload 4, 2) := by decide +kernel
theorem dX11_word_19 : decode cX11_word 19 = .ok (.invokestatic 174, 3) := by decide +kernel
theorem dX11_word_22 : decode cX11_word 22 = .ok (.iload 5, 2) := by decide +kernel
theorem dX11_word_24 : decode cX11_word 24 = .ok (.invokestatic 174, 3) := by decide +kernel
theorem dX11_word_27 : decode cX11_word 27 = .ok (.iload 6, 2) := by decide +kernel
theorem dX11_word_29 : decode cX11_word 29 = .ok (.invokestatic 174, 3) := by decide +kernel
theorem dX11_word_32 : decode cX11_word 32 = .ok (.lreturn, 1) := by decide +kernel
theorem dX11_token_0 : decode cX11_token 0 = .ok (.aload_n 0, 1) := by decide +kernel
theorem dX11_token_1 : decode cX11_token 1 = .ok (.getfield 20, 3) := by decide +kernel
theorem dX11_token_4 : decode cX11_token 4 = .ok (.aload_n 0, 1) := by decide +kernel
theorem dX11_token_5 : decode cX11_token 5 = .ok (.getfield 178, 3) := by decide +kernel
theorem dX11_token_8 : decode cX11_token 8 = .ok (.iload_n 1, 1) := by decide +kernel
theorem dX11_token_9 : decode cX11_token 9 = .ok (.iastore, 1) := by decide +kernel
theorem dX11_token_10 : decode cX11_token 10 = .ok (.aload_n 0, 1) := by decide +kernel
theorem dX11_token_11 : decode cX11_token 11 = .ok (.getfield 24, 3) := by decide +kernel
theorem dX11_token_14 : decode cX11_token 14 = .ok (.aload_n 0, 1) := by decide +kernel
theorem dX11_token_15 : decode cX11_token 15 = .ok (.getfield 178, 3) := by decide +kernel
theorem dX11_token_18 : decode cX11_token 18 = .ok (.iload_n 2, 1) := by decide +kernel
theorem dX11_token_19 : decode cX11_token 19 = .ok (.iastore, 1) := by decide +kernel
theorem dX11_token_20 : decode cX11_token 20 = .ok (.aload_n 0, 1) := by decide +kernel
theorem dX11_token_21 : decode cX11_token 21 = .ok (.getfield 27, 3) := by decide +kernel
theorem dX11_token_24 : decode cX11_token 24 = .ok (.aload_n 0, 1) := by decide +kernel
theorem dX11_token_25 : decode cX11_token 25 = .ok (.getfield 178, 3) := by decide +kernel
theorem dX11_token_28 : decode cX11_token 28 = .ok (.iload_n 3, 1) := by decide +kernel
theorem dX11_token_29 : decode cX11_token 29 = .ok (.iastore, 1) := by decide +kernel
theorem dX11_token_30 : decode cX11_token 30 = .ok (.aload_n 0, 1) := by decide +kernel
theorem dX11_token_31 : decode cX11_token 31 = .ok (.getfield 30, 3) := by decide +kernel
theorem dX11_token_34 : decode cX11_token 34 = .ok (.aload_n 0, 1) := by decide +kernel
theorem dX11_token_35 : decode cX11_token 35 = .ok (.getfield 178, 3) := by decide +kernel
theorem dX11_token_38 : decode cX11_token 38 = .ok (.lload 4, 2) := by decide +kernel
theorem dX11_token_40 : decode cX11_token 40 = .ok (.lastore, 1) := by decide +kernel
theorem dX11_token_41 : decode cX11_token 41 = .ok (.aload_n 0, 1) := by decide +kernel
theorem dX11_token_42 : decode cX11_token 42 = .ok (.dup, 1) := by decide +kernel
theorem dX11_token_43 : decode cX11_token 43 = .ok (.getfield 178, 3) := by decide +kernel
theorem dX11_token_46 : decode cX11_token 46 = .ok (.iconst 1, 1) := by decide +kernel
theorem dX11_token_47 : decode cX11_token 47 = .ok (.iadd, 1) := by decide +kernel
theorem dX11_token_48 : decode cX11_token 48 = .ok (.putfield 178, 3) := by decide +kernel
theorem dX11_token_51 : decode cX11_token 51 = .ok (.return_, 1) := by decide +kernel
theorem dX11_cut_0 : decode cX11_cut 0 = .ok (.aload_n 0, 1) := by decide +kernel
theorem dX11_cut_1 : decode cX11_cut 1 = .ok (.iconst 0, 1) := by decide +kernel
theorem dX11_cut_2 : decode cX11_cut 2 = .ok (.putfield 178, 3) := by decide +kernel
theorem dX11_cut_5 : decode cX11_cut 5 = .ok (.iconst 0, 1) := by decide +kernel
theorem dX11_cut_6 : decode cX11_cut 6 = .ok (.istore_n 1, 1) := by decide +kernel
theorem dX11_cut_7 : decode cX11_cut 7 = .ok (.aload_n 0, 1) := by decide +kernel
theorem dX11_cut_8 : decode cX11_cut 8 = .ok (.getfield 178, 3) := by decide +kernel
theorem dX11_cut_11 : decode cX11_cut 11 = .ok (.sipush 400, 3) := by decide +kernel
theorem dX11_cut_14 : decode cX11_cut 14 = .ok (.if_icmp .gt 280, 3) := by decide +kernel
theorem dX11_cut_17 : decode cX11_cut 17 = .ok (.aload_n 0, 1) := by decide +kernel
theorem dX11_cut_18 : decode cX11_cut 18 = .ok (.iload_n 1, 1) := by decide +kernel
theorem dX11_cut_19 : decode cX11_cut 19 = .ok (.invokevirtual 181, 3) := by decide +kernel
theorem dX11_cut_22 : decode cX11_cut 22 = .ok (.istore_n 2, 1) := by decide +kernel
theorem dX11_cut_23 : decode cX11_cut 23 = .ok (.iload_n 1, 1) := by decide +kernel
theorem dX11_cut_24 : decode cX11_cut 24 = .ok (.aload_n 0, 1) := by decide +kernel
theorem dX11_cut_25 : decode cX11_cut 25 = .ok (.getfield 169, 3) := by decide +kernel
theorem dX11_cut_28 : decode cX11_cut 28 = .ok (.if_icmp .lt 15, 3) := by decide +kernel
theorem dX11_cut_31 : decode cX11_cut 31 = .ok (.aload_n 0, 1) := by decide +kernel
theorem dX11_cut_32 : decode cX11_cut 32 = .ok (.iconst 0, 1) := by decide +kernel
theorem dX11_cut_33 : decode cX11_cut 33 = .ok (.aload_n 0, 1) := by decide +kernel
theorem dX11_cut_34 : decode cX11_cut 34 = .ok (.getfield 169, 3) := by decide +kernel
theorem dX11_cut_37 : decode cX11_cut 37 = .ok (.iconst 0, 1) := by decide +kernel
theorem dX11_cut_38 : decode cX11_cut 38 = .ok (.lconst 0, 1) := by decide +kernel
theorem dX11_cut_39 : decode cX11_cut 39 = .ok (.invokevirtual 185, 3) := by decide +kernel
theorem dX11_cut_42 : decode cX11_cut 42 = .ok (.return_, 1) := by decide +kernel
theorem dX11_cut_43 : decode cX11_cut 43 = .ok (.iload_n 2, 1) := by decide +kernel
theorem dX11_cut_44 : decode cX11_cut 44 = .ok (.bipush 9, 2) := by decide +kernel
theorem dX11_cut_46 : decode cX11_cut 46 = .ok (.if_icmp .eq 21, 3) := by decide +kernel
theorem dX11_cut_49 : decode cX11_cut 49 = .ok (.iload_n 2, 1) := by decide +kernel
theorem dX11_cut_50 : decode cX11_cut 50 = .ok (.bipush 10, 2) := by decide +kernel
theorem dX11_cut_52 : decode cX11_cut 52 = .ok (.if_icmp .eq 15, 3) := by decide +kernel
theorem dX11_cut_55 : decode cX11_cut 55 = .ok (.iload_n 2, 1) := by decide +kernel
theorem dX11_cut_56 : decode cX11_cut 56 = .ok (.bipush 13, 2) := by decide +kernel
theorem dX11_cut_58 : decode cX11_cut 58 = .ok (.if_icmp .eq 9, 3) := by decide +kernel
theorem dX11_cut_61 : decode cX11_cut 61 = .ok (.iload_n 2, 1) := by decide +kernel
theorem dX11_cut_62 : decode cX11_cut 62 = .ok (.bipush 32, 2) := by decide +kernel
theorem dX11_cut_64 : decode cX11_cut 64 = .ok (.if_icmp .ne 9, 3) := by decide +kernel
theorem dX11_cut_67 : decode cX11_cut 67 = .ok (.iinc 1 1, 3) := by decide +kernel
theorem dX11_cut_70 : decode cX11_cut 70 = .ok (.goto 221, 3) := by decide +kernel
theorem dX11_cut_73 : decode cX11_cut 73 = .ok (.iload_n 2, 1) := by decide +kernel
theorem dX11_cut_74 : decode cX11_cut 74 = .ok (.invokestatic 189, 3) := by decide +kernel
theorem dX11_cut_77 : decode cX11_cut 77 = .ok (.ifCond .eq 119, 3) := by decide +kernel
theorem dX11_cut_80 : decode cX11_cut 80 = .ok (.iconst 0, 1) := by decide +kernel
theorem dX11_cut_81 : decode cX11_cut 81 = .ok (.istore_n 3, 1) := by decide +kernel
theorem dX11_cut_82 : decode cX11_cut 82 = .ok (.lconst 0, 1) := by decide +kernel
theorem dX11_cut_83 : decode cX11_cut 83 = .ok (.lstore 4, 2) := by decide +kernel
theorem dX11_cut_85 : decode cX11_cut 85 = .ok (.aload_n 0, 1) := by decide +kernel
theorem dX11_cut_86 : decode cX11_cut 86 = .ok (.iload_n 1, 1) := by decide +kernel
theorem dX11_cut_87 : decode cX11_cut 87 = .ok (.iload_n 3, 1) := by decide +kernel
theorem dX11_cut_88 : decode cX11_cut 88 = .ok (.iadd, 1) := by decide +kernel
theorem dX11_cut_89 : decode cX11_cut 89 = .ok (.invokevirtual 181, 3) := by decide +kernel
theorem dX11_cut_92 : decode cX11_cut 92 = .ok (.invokestatic 189, 3) := by decide +kernel
theorem dX11_cut_95 : decode cX11_cut 95 = .ok (.ifCond .eq 29, 3) := by decide +kernel
theorem dX11_cut_98 : decode cX11_cut 98 = .ok (.iload_n 3, 1) := by decide +kernel
theorem dX11_cut_99 : decode cX11_cut 99 = .ok (.bipush 8, 2) := by decide +kernel
theorem dX11_cut_101 : decode cX11_cut 101 = .ok (.if_icmp .ge 17, 3) := by decide +kernel
theorem dX11_cut_104 : decode cX11_cut 104 = .ok (.lload 4, 2) := by decide +kernel
theorem dX11_cut_106 : decode cX11_cut 106 = .ok (.aload_n 0, 1) := by decide +kernel
theorem dX11_cut_107 : decode cX11_cut 107 = .ok (.iload_n 1, 1) := by decide +kernel
theorem dX11_cut_108 : decode cX11_cut 108 = .ok (.iload_n 3, 1) := by decide +kernel
theorem dX11_cut_109 : decode cX11_cut 109 = .ok (.iadd, 1) := by decide +kernel
theorem dX11_cut_110 : decode cX11_cut 110 = .ok (.invokevirtual 181, 3) := by decide +kernel
theorem dX11_cut_113 : decode cX11_cut 113 = .ok (.invokestatic 174, 3) := by decide +kernel
theorem dX11_cut_116 : decode cX11_cut 116 = .ok (.lstore 4, 2) := by decide +kernel
theorem dX11_cut_118 : decode cX11_cut 118 = .ok (.iinc 3 1, 3) := by decide +kernel
theorem dX11_cut_121 : decode cX11_cut 121 = .ok (.goto (-36), 3) := by decide +kernel
theorem dX11_cut_124 : decode cX11_cut 124 = .ok (.iload_n 3, 1) := by decide +kernel
theorem dX11_cut_125 : decode cX11_cut 125 = .ok (.bipush 8, 2) := by decide +kernel
theorem dX11_cut_127 : decode cX11_cut 127 = .ok (.if_icmp .le 7, 3) := by decide +kernel
theorem dX11_cut_130 : decode cX11_cut 130 = .ok (.iconst 3, 1) := by decide +kernel
theorem dX11_cut_131 : decode cX11_cut 131 = .ok (.goto 4, 3) := by decide +kernel
theorem dX11_cut_134 : decode cX11_cut 134 = .ok (.iconst 1, 1) := by decide +kernel
theorem dX11_cut_135 : decode cX11_cut 135 = .ok (.istore 6, 2) := by decide +kernel
theorem dX11_cut_137 : decode cX11_cut 137 = .ok (.iload_n 3, 1) := by decide +kernel
theorem dX11_cut_138 : decode cX11_cut 138 = .ok (.bipush 7, 2) := by decide +kernel
theorem dX11_cut_140 : decode cX11_cut 140 = .ok (.if_icmp .gt 39, 3) := by decide +kernel
theorem dX11_cut_143 : decode cX11_cut 143 = .ok (.iconst 0, 1) := by decide +kernel
theorem dX11_cut_144 : decode cX11_cut 144 = .ok (.istore 7, 2) := by decide +kernel
theorem dX11_cut_146 : decode cX11_cut 146 = .ok (.iload 7, 2) := by decide +kernel
theorem dX11_cut_148 : decode cX11_cut 148 = .ok (.bipush 23, 2) := by decide +kernel
theorem dX11_cut_150 : decode cX11_cut 150 = .ok (.if_icmp .ge 29, 3) := by decide +kernel
theorem dX11_cut_153 : decode cX11_cut 153 = .ok (.aload_n 0, 1) := by decide +kernel
theorem dX11_cut_154 : decode cX11_cut 154 = .ok (.getfield 34, 3) := by decide +kernel
theorem dX11_cut_157 : decode cX11_cut 157 = .ok (.iload 7, 2) := by decide +kernel
theorem dX11_cut_159 : decode cX11_cut 159 = .ok (.laload, 1) := by decide +kernel
theorem dX11_cut_160 : decode cX11_cut 160 = .ok (.lload 4, 2) := by decide +kernel
theorem dX11_cut_162 : decode cX11_cut 162 = .ok (.lcmp, 1) := by decide +kernel
theorem dX11_cut_163 : decode cX11_cut 163 = .ok (.ifCond .ne 10, 3) := by decide +kernel
theorem dX11_cut_166 : decode cX11_cut 166 = .ok (.bipush 20, 2) := by decide +kernel
theorem dX11_cut_168 : decode cX11_cut 168 = .ok (.iload 7, 2) := by decide +kernel
theorem dX11_cut_170 : decode cX11_cut 170 = .ok (.iadd, 1) := by decide +kernel
theorem dX11_cut_171 : decode cX11_cut 171 = .ok (.istore 6, 2) := by decide +kernel
theorem dX11_cut_173 : decode cX11_cut 173 = .ok (.iinc 7 1, 3) := by decide +kernel
theorem dX11_cut_176 : decode cX11_cut 176 = .ok (.goto (-30), 3) := by decide +kernel
theorem dX11_cut_179 : decode cX11_cut 179 = .ok (.aload_n 0, 1) := by decide +kernel
theorem dX11_cut_180 : decode cX11_cut 180 = .ok (.iload 6, 2) := by decide +kernel
theorem dX11_cut_182 : decode cX11_cut 182 = .ok (.iload_n 1, 1) := by decide +kernel
theorem dX11_cut_183 : decode cX11_cut 183 = .ok (.iconst 0, 1) := by decide +kernel
theorem dX11_cut_184 : decode cX11_cut 184 = .ok (.lload 4, 2) := by decide +kernel
theorem dX11_cut_186 : decode cX11_cut 186 = .ok (.invokevirtual 185, 3) := by decide +kernel
theorem dX11_cut_189 : decode cX11_cut 189 = .ok (.iload_n 1, 1) := by decide +kernel
theorem dX11_cut_190 : decode cX11_cut 190 = .ok (.iload_n 3, 1) := by decide +kernel
theorem dX11_cut_191 : decode cX11_cut 191 = .ok (.iadd, 1) := by decide +kernel
theorem dX11_cut_192 : decode cX11_cut 192 = .ok (.istore_n 1, 1) := by decide +kernel
theorem dX11_cut_193 : decode cX11_cut 193 = .ok (.goto 98, 3) := by decide +kernel
theorem dX11_cut_196 : decode cX11_cut 196 = .ok (.iload_n 2, 1) := by decide +kernel
theorem dX11_cut_197 : decode cX11_cut 197 = .ok (.invokestatic 193, 3) := by decide +kernel
theorem dX11_cut_200 : decode cX11_cut 200 = .ok (.ifCond .eq 75, 3) := by decide +kernel
theorem dX11_cut_203 : decode cX11_cut 203 = .ok (.iconst 0, 1) := by decide +kernel
theorem dX11_cut_204 : decode cX11_cut 204 = .ok (.istore_n 3, 1) := by decide +kernel
theorem dX11_cut_205 : decode cX11_cut 205 = .ok (.iconst 0, 1) := by decide +kernel
theorem dX11_cut_206 : decode cX11_cut 206 = .ok (.istore 4, 2) := by decide +kernel
theorem dX11_cut_208 : decode cX11_cut 208 = .ok (.aload_n 0, 1) := by decide +kernel
theorem dX11_cut_209 : decode cX11_cut 209 = .ok (.iload_n 1, 1) := by decide +kernel
theorem dX11_cut_210 : decode cX11_cut 210 = .ok (.iload_n 3, 1) := by decide +kernel
theorem dX11_cut_211 : decode cX11_cut 211 = .ok (.iadd, 1) := by decide +kernel
theorem dX11_cut_212 : decode cX11_cut 212 = .ok (.invokevirtual 181, 3) := by decide +kernel
theorem dX11_cut_215 : decode cX11_cut 215 = .ok (.invokestatic 193, 3) := by decide +kernel
theorem dX11_cut_218 : decode cX11_cut 218 = .ok (.ifCond .eq 32, 3) := by decide +kernel
theorem dX11_cut_221 : decode cX11_cut 221 = .ok (.iload_n 3, 1) := by decide +kernel
theorem dX11_cut_222 : decode cX11_cut 222 = .ok (.iconst 4, 1) := by decide +kernel
theorem dX11_cut_223 : decode cX11_cut 223 = .ok (.if_icmp .ge 21, 3) := by decide +kernel
theorem dX11_cut_226 : decode cX11_cut 226 = .ok (.bipush 10, 2) := by decide +kernel
theorem dX11_cut_228 : decode cX11_cut 228 = .ok (.iload 4, 2) := by decide +kernel
theorem dX11_cut_230 : decode cX11_cut 230 = .ok (.imul, 1) := by decide +kernel
theorem dX11_cut_231 : decode cX11_cut 231 = .ok (.aload_n 0, 1) := by decide +kernel
theorem dX11_cut_232 : decode cX11_cut 232 = .ok (.iload_n 1, 1) := by decide +kernel
theorem dX11_cut_233 : decode cX11_cut 233 = .ok (.iload_n 3, 1) := by decide +kernel
theorem dX11_cut_234 : decode cX11_cut 234 = .ok (.iadd, 1) := by decide +kernel
theorem dX11_cut_235 : decode cX11_cut 235 = .ok (.invokevirtual 181, 3) := by decide +kernel
theorem dX11_cut_238 : decode cX11_cut 238 = .ok (.iadd, 1) := by decide +kernel
theorem dX11_cut_239 : decode cX11_cut 239 = .ok (.bipush 48, 2) := by decide +kernel
theorem dX11_cut_241 : decode cX11_cut 241 = .ok (.isub, 1) := by decide +kernel
theorem dX11_cut_242 : decode cX11_cut 242 = .ok (.istore 4, 2) := by decide +kernel
theorem dX11_cut_244 : decode cX11_cut 244 = .ok (.iinc 3 1, 3) := by decide +kernel
theorem dX11_cut_247 : decode cX11_cut 247 = .ok (.goto (-39), 3) := by decide +kernel
theorem dX11_cut_250 : decode cX11_cut 250 = .ok (.aload_n 0, 1) := by decide +kernel
theorem dX11_cut_251 : decode cX11_cut 251 = .ok (.iload_n 3, 1) := by decide +kernel
theorem dX11_cut_252 : decode cX11_cut 252 = .ok (.iconst 4, 1) := by decide +kernel
theorem dX11_cut_253 : decode cX11_cut 253 = .ok (.if_icmp .le 7, 3) := by decide +kernel
theorem dX11_cut_256 : decode cX11_cut 256 = .ok (.iconst 3, 1) := by decide +kernel
theorem dX11_cut_257 : decode cX11_cut 257 = .ok (.goto 4, 3) := by decide +kernel
theorem dX11_cut_260 : decode cX11_cut 260 = .ok (.iconst 2, 1) := by decide +kernel
theorem dX11_cut_261 : decode cX11_cut 261 = .ok (.iload_n 1, 1) := by decide +kernel
theorem dX11_cut_262 : decode cX11_cut 262 = .ok (.iload 4, 2) := by decide +kernel
theorem dX11_cut_264 : decode cX11_cut 264 = .ok (.lconst 0, 1) := by decide +kernel
theorem dX11_cut_265 : decode cX11_cut 265 = .ok (.invokevirtual 185, 3) := by decide +kernel
theorem dX11_cut_268 : decode cX11_cut 268 = .ok (.iload_n 1, 1) := by decide +kernel
theorem dX11_cut_269 : decode cX11_cut 269 = .ok (.iload_n 3, 1) := by decide +kernel
theorem dX11_cut_270 : decode cX11_cut 270 = .ok (.iadd, 1) := by decide +kernel
theorem dX11_cut_271 : decode cX11_cut 271 = .ok (.istore_n 1, 1) := by decide +kernel
theorem dX11_cut_272 : decode cX11_cut 272 = .ok (.goto 19, 3) := by decide +kernel
theorem dX11_cut_275 : decode cX11_cut 275 = .ok (.iload_n 1, 1) := by decide +kernel
theorem dX11_cut_276 : decode cX11_cut 276 = .ok (.aload_n 0, 1) := by decide +kernel
theorem dX11_cut_277 : decode cX11_cut 277 = .ok (.iload_n 1, 1) := by decide +kernel
theorem dX11_cut_278 : decode cX11_cut 278 = .ok (.iload_n 2, 1) := by decide +kernel
theorem dX11_cut_279 : decode cX11_cut 279 = .ok (.aload_n 0, 1) := by decide +kernel
theorem dX11_cut_280 : decode cX11_cut 280 = .ok (.iload_n 1, 1) := by decide +kernel
theorem dX11_cut_281 : decode cX11_cut 281 = .ok (.iconst 1, 1) := by decide +kernel
theorem dX11_cut_282 : decode cX11_cut 282 = .ok (.iadd, 1) := by decide +kernel
theorem dX11_cut_283 : decode cX11_cut 283 = .ok (.invokevirtual 181, 3) := by decide +kernel
theorem dX11_cut_286 : decode cX11_cut 286 = .ok (.invokevirtual 196, 3) := by decide +kernel
theorem dX11_cut_289 : decode cX11_cut 289 = .ok (.iadd, 1) := by decide +kernel
theorem dX11_cut_290 : decode cX11_cut 290 = .ok (.istore_n 1, 1) := by decide +kernel
theorem dX11_cut_291 : decode cX11_cut 291 = .ok (.goto (-284), 3) := by decide +kernel
theorem dX11_cut_294 : decode cX11_cut 294 = .ok (.return_, 1) := by decide +kernel
theorem dX11_sign_0 : decode cX11_sign 0 = .ok (.iload_n 3, 1) := by decide +kernel
theorem dX11_sign_1 : decode cX11_sign 1 = .ok (.bipush 61, 2) := by decide +kernel
theorem dX11_sign_3 : decode cX11_sign 3 = .ok (.if_icmp .eq 7, 3) := by decide +kernel
theorem dX11_sign_6 : decode cX11_sign 6 = .ok (.iconst 0, 1) := by decide +kernel
theorem dX11_sign_7 : decode cX11_sign 7 = .ok (.goto 37, 3) := by decide +kernel
theorem dX11_sign_10 : decode cX11_sign 10 = .ok (.iload_n 2, 1) := by decide +kernel
theorem dX11_sign_11 : decode cX11_sign 11 = .ok (.bipush 61, 2) := by decide +kernel
theorem dX11_sign_13 : decode cX11_sign 13 = .ok (.if_icmp .ne 8, 3) := by decide +kernel
theorem dX11_sign_16 : decode cX11_sign 16 = .ok (.bipush 11, 2) := by decide +kernel
theorem dX11_sign_18 : decode cX11_sign 18 = .ok (.goto 26, 3) := by decide +kernel
theorem dX11_sign_21 : decode cX11_sign 21 = .ok (.iload_n 2, 1) := by decide +kernel
theorem dX11_sign_22 : decode cX11_sign 22 = .ok (.bipush 33, 2) := by decide +kernel
theorem dX11_sign_24 : decode cX11_sign 24 = .ok (.if_icmp .ne 8, 3) := by decide +kernel
theorem dX11_sign_27 : decode cX11_sign 27 = .ok (.bipush 12, 2) := by decide +kernel
theorem dX11_sign_29 : decode cX11_sign 29 = .ok (.goto 15, 3) := by decide +kernel
theorem dX11_sign_32 : decode cX11_sign 32 = .ok (.iload_n 2, 1) := by decide +kernel
theorem dX11_sign_33 : decode cX11_sign 33 = .ok (.bipush 60, 2) := by decide +kernel
theorem dX11_sign_35 : decode cX11_sign 35 = .ok (.if_icmp .ne 8, 3) := by decide +kernel
theorem dX11_sign_38 : decode cX11_sign 38 = .ok (.bipush 14, 2) := by decide +kernel
