theorem dX0_init_0 : decode cX0_init 0 = .ok (.aload_n 0, 1) := by decide +kernel
theorem dX0_init_1 : decode cX0_init 1 = .ok (.invokespecial 3, 3) := by decide +kernel
theorem dX0_init_4 : decode cX0_init 4 = .ok (.aload_n 0, 1) := by decide +kernel
theorem dX0_init_5 : decode cX0_init 5 = .ok (.sipush 441, 3) := by decide +kernel
theorem dX0_init_8 : decode cX0_init 8 = .ok (.newarray .long, 2) := by decide +kernel
theorem dX0_init_10 : decode cX0_init 10 = .ok (.putfield 11, 3) := by decide +kernel
theorem dX0_init_13 : decode cX0_init 13 = .ok (.aload_n 0, 1) := by decide +kernel
theorem dX0_init_14 : decode cX0_init 14 = .ok (.bipush 31, 2) := by decide +kernel
theorem dX0_init_16 : decode cX0_init 16 = .ok (.newarray .long, 2) := by decide +kernel
theorem dX0_init_18 : decode cX0_init 18 = .ok (.putfield 15, 3) := by decide +kernel
theorem dX0_init_21 : decode cX0_init 21 = .ok (.aload_n 0, 1) := by decide +kernel
theorem dX0_init_22 : decode cX0_init 22 = .ok (.bipush 31, 2) := by decide +kernel
theorem dX0_init_24 : decode cX0_init 24 = .ok (.newarray .long, 2) := by decide +kernel
theorem dX0_init_26 : decode cX0_init 26 = .ok (.putfield 18, 3) := by decide +kernel
theorem dX0_init_29 : decode cX0_init 29 = .ok (.aload_n 0, 1) := by decide +kernel
theorem dX0_init_30 : decode cX0_init 30 = .ok (.bipush 21, 2) := by decide +kernel
theorem dX0_init_32 : decode cX0_init 32 = .ok (.newarray .long, 2) := by decide +kernel
theorem dX0_init_34 : decode cX0_init 34 = .ok (.putfield 21, 3) := by decide +kernel
theorem dX0_init_37 : decode cX0_init 37 = .ok (.aload_n 0, 1) := by decide +kernel
theorem dX0_init_38 : decode cX0_init 38 = .ok (.bipush 21, 2) := by decide +kernel
theorem dX0_init_40 : decode cX0_init 40 = .ok (.newarray .long, 2) := by decide +kernel
theorem dX0_init_42 : decode cX0_init 42 = .ok (.putfield 24, 3) := by decide +kernel
theorem dX0_init_45 : decode cX0_init 45 = .ok (.iconst 0, 1) := by decide +kernel
theorem dX0_init_46 : decode cX0_init 46 = .ok (.istore_n 1, 1) := by decide +kernel
theorem dX0_init_47 : decode cX0_init 47 = .ok (.iload_n 1, 1) := by decide +kernel
theorem dX0_init_48 : decode cX0_init 48 = .ok (.bipush 21, 2) := by decide +kernel
theorem dX0_init_50 : decode cX0_init 50 = .ok (.if_icmp .ge 72, 3) := by decide +kernel
theorem dX0_init_53 : decode cX0_init 53 = .ok (.aload_n 0, 1) := by decide +kernel
theorem dX0_init_54 : decode cX0_init 54 = .ok (.getfield 11, 3) := by decide +kernel
theorem dX0_init_57 : decode cX0_init 57 = .ok (.iload_n 1, 1) := by decide +kernel
theorem dX0_init_58 : decode cX0_init 58 = .ok (.bipush 21, 2) := by decide +kernel
theorem dX0_init_60 : decode cX0_init 60 = .ok (.imul, 1) := by decide +kernel
theorem dX0_init_61 : decode cX0_init 61 = .ok (.lconst 1, 1) := by decide +kernel
theorem dX0_init_62 : decode cX0_init 62 = .ok (.lastore, 1) := by decide +kernel
theorem dX0_init_63 : decode cX0_init 63 = .ok (.iconst 1, 1) := by decide +kernel
theorem dX0_init_64 : decode cX0_init 64 = .ok (.istore_n 2, 1) := by decide +kernel
theorem dX0_init_65 : decode cX0_init 65 = .ok (.iload_n 2, 1) := by decide +kernel
theorem dX0_init_66 : decode cX0_init 66 = .ok (.iload_n 1, 1) := by decide +kernel
theorem dX0_init_67 : decode cX0_init 67 = .ok (.if_icmp .gt 49, 3) := by decide +kernel
theorem dX0_init_70 : decode cX0_init 70 = .ok (.aload_n 0, 1) := by decide +kernel
theorem dX0_init_71 : decode cX0_init 71 = .ok (.getfield 11, 3) := by decide +kernel
theorem dX0_init_74 : decode cX0_init 74 = .ok (.iload_n 1, 1) := by decide +kernel
theorem dX0_init_75 : decode cX0_init 75 = .ok (.bipush 21, 2) := by decide +kernel
theorem dX0_init_77 : decode cX0_init 77 = .ok (.imul, 1) := by decide +kernel
theorem dX0_init_78 : decode cX0_init 78 = .ok (.iload_n 2, 1) := by decide +kernel
theorem dX0_init_79 : decode cX0_init 79 = .ok (.iadd, 1) := by decide +kernel
theorem dX0_init_80 : decode cX0_init 80 = .ok (.aload_n 0, 1) := by decide +kernel
theorem dX0_init_81 : decode cX0_init 81 = .ok (.getfield 11, 3) := by decide +kernel
theorem dX0_init_84 : decode cX0_init 84 = .ok (.iload_n 1, 1) := by decide +kernel
theorem dX0_init_85 : decode cX0_init 85 = .ok (.iconst 1, 1) := by decide +kernel
theorem dX0_init_86 : decode cX0_init 86 = .ok (.isub, 1) := by decide +kernel
theorem dX0_init_87 : decode cX0_init 87 = .ok (.bipush 21, 2) := by decide +kernel
theorem dX0_init_89 : decode cX0_init 89 = .ok (.imul, 1) := by decide +kernel
theorem dX0_init_90 : decode cX0_init 90 = .ok (.iload_n 2, 1) := by decide +kernel
theorem dX0_init_91 : decode cX0_init 91 = .ok (.iadd, 1) := by decide +kernel
theorem dX0_init_92 : decode cX0_init 92 = .ok (.iconst 1, 1) := by decide +kernel
theorem dX0_init_93 : decode cX0_init 93 = .ok (.isub, 1) := by decide +kernel
theorem dX0_init_94 : decode cX0_init 94 = .ok (.laload, 1) := by decide +kernel
theorem dX0_init_95 : decode cX0_init 95 = .ok (.aload_n 0, 1) := by decide +kernel
theorem dX0_init_96 : decode cX0_init 96 = .ok (.getfield 11, 3) := by decide +kernel
theorem dX0_init_99 : decode cX0_init 99 = .ok (.iload_n 1, 1) := by decide +kernel
theorem dX0_init_100 : decode cX0_init 100 = .ok (.iconst 1, 1) := by decide +kernel
theorem dX0_init_101 : decode cX0_init 101 = .ok (.isub, 1) := by decide +kernel
theorem dX0_init_102 : decode cX0_init 102 = .ok (.bipush 21, 2) := by decide +kernel
theorem dX0_init_104 : decode cX0_init 104 = .ok (.imul, 1) := by decide +kernel
theorem dX0_init_105 : decode cX0_init 105 = .ok (.iload_n 2, 1) := by decide +kernel
theorem dX0_init_106 : decode cX0_init 106 = .ok (.iadd, 1) := by decide +kernel
theorem dX0_init_107 : decode cX0_init 107 = .ok (.laload, 1) := by decide +kernel
theorem dX0_init_108 : decode cX0_init 108 = .ok (.ladd, 1) := by decide +kernel
theorem dX0_init_109 : decode cX0_init 109 = .ok (.lastore, 1) := by decide +kernel
theorem dX0_init_110 : decode cX0_init 110 = .ok (.iinc 2 1, 3) := by decide +kernel
theorem dX0_init_113 : decode cX0_init 113 = .ok (.goto (-48), 3) := by decide +kernel
theorem dX0_init_116 : decode cX0_init 116 = .ok (.iinc 1 1, 3) := by decide +kernel
theorem dX0_init_119 : decode cX0_init 119 = .ok (.goto (-72), 3) := by decide +kernel
theorem dX0_init_122 : decode cX0_init 122 = .ok (.return_, 1) := by decide +kernel
theorem dX0_tailOf_0 : decode cX0_tailOf 0 = .ok (.aload_n 0, 1) := by decide +kernel
theorem dX0_tailOf_1 : decode cX0_tailOf 1 = .ok (.getfield 18, 3) := by decide +kernel
theorem dX0_tailOf_4 : decode cX0_tailOf 4 = .ok (.invokestatic 27, 3) := by decide +kernel
theorem dX0_tailOf_7 : decode cX0_tailOf 7 = .ok (.iconst 1, 1) := by decide +kernel
theorem dX0_tailOf_8 : decode cX0_tailOf 8 = .ok (.istore 5, 2) := by decide +kernel
theorem dX0_tailOf_10 : decode cX0_tailOf 10 = .ok (.iload 5, 2) := by decide +kernel
theorem dX0_tailOf_12 : decode cX0_tailOf 12 = .ok (.iload_n 1, 1) := by decide +kernel
theorem dX0_tailOf_13 : decode cX0_tailOf 13 = .ok (.if_icmp .gt 23, 3) := by decide +kernel
theorem dX0_tailOf_16 : decode cX0_tailOf 16 = .ok (.aload_n 0, 1) := by decide +kernel
theorem dX0_tailOf_17 : decode cX0_tailOf 17 = .ok (.getfield 18, 3) := by decide +kernel
theorem dX0_tailOf_20 : decode cX0_tailOf 20 = .ok (.iload 5, 2) := by decide +kernel
theorem dX0_tailOf_22 : decode cX0_tailOf 22 = .ok (.iload_n 3, 1) := by decide +kernel
theorem dX0_tailOf_23 : decode cX0_tailOf 23 = .ok (.iload 4, 2) := by decide +kernel
theorem dX0_tailOf_25 : decode cX0_tailOf 25 = .ok (.iload_n 3, 1) := by decide +kernel
theorem dX0_tailOf_26 : decode cX0_tailOf 26 = .ok (.isub, 1) := by decide +kernel
theorem dX0_tailOf_27 : decode cX0_tailOf 27 = .ok (.invokestatic 31, 3) := by decide +kernel
theorem dX0_tailOf_30 : decode cX0_tailOf 30 = .ok (.iinc 5 1, 3) := by decide +kernel
theorem dX0_tailOf_33 : decode cX0_tailOf 33 = .ok (.goto (-23), 3) := by decide +kernel
theorem dX0_tailOf_36 : decode cX0_tailOf 36 = .ok (.aload_n 0, 1) := by decide +kernel
theorem dX0_tailOf_37 : decode cX0_tailOf 37 = .ok (.getfield 18, 3) := by decide +kernel
theorem dX0_tailOf_40 : decode cX0_tailOf 40 = .ok (.iload_n 2, 1) := by decide +kernel
theorem dX0_tailOf_41 : decode cX0_tailOf 41 = .ok (.iload_n 1, 1) := by decide +kernel
theorem dX0_tailOf_42 : decode cX0_tailOf 42 = .ok (.invokestatic 35, 3) := by decide +kernel
theorem dX0_tailOf_45 : decode cX0_tailOf 45 = .ok (.lreturn, 1) := by decide +kernel
theorem dX0_agreed_0 : decode cX0_agreed 0 = .ok (.aload_n 0, 1) := by decide +kernel
theorem dX0_agreed_1 : decode cX0_agreed 1 = .ok (.getfield 15, 3) := by decide +kernel
theorem dX0_agreed_4 : decode cX0_agreed 4 = .ok (.invokestatic 27, 3) := by decide +kernel
theorem dX0_agreed_7 : decode cX0_agreed 7 = .ok (.aload_n 0, 1) := by decide +kernel
theorem dX0_agreed_8 : decode cX0_agreed 8 = .ok (.getfield 18, 3) := by decide +kernel
theorem dX0_agreed_11 : decode cX0_agreed 11 = .ok (.invokestatic 27, 3) := by decide +kernel
theorem dX0_agreed_14 : decode cX0_agreed 14 = .ok (.lconst 1, 1) := by decide +kernel
theorem dX0_agreed_15 : decode cX0_agreed 15 = .ok (.lstore 4, 2) := by decide +kernel
theorem dX0_agreed_17 : decode cX0_agreed 17 = .ok (.lconst 1, 1) := by decide +kernel
theorem dX0_agreed_18 : decode cX0_agreed 18 = .ok (.lstore 6, 2) := by decide +kernel
theorem dX0_agreed_20 : decode cX0_agreed 20 = .ok (.iconst 1, 1) := by decide +kernel
theorem dX0_agreed_21 : decode cX0_agreed 21 = .ok (.istore 8, 2) := by decide +kernel
theorem dX0_agreed_23 : decode cX0_agreed 23 = .ok (.iload 8, 2) := by decide +kernel
theorem dX0_agreed_25 : decode cX0_agreed 25 = .ok (.bipush 30, 2) := by decide +kernel
theorem dX0_agreed_27 : decode cX0_agreed 27 = .ok (.if_icmp .gt 116, 3) := by decide +kernel
theorem dX0_agreed_30 : decode cX0_agreed 30 = .ok (.aload_n 0, 1) := by decide +kernel
theorem dX0_agreed_31 : decode cX0_agreed 31 = .ok (.getfield 15, 3) := by decide +kernel
theorem dX0_agreed_34 : decode cX0_agreed 34 = .ok (.iload 8, 2) := by decide +kernel
theorem dX0_agreed_36 : decode cX0_agreed 36 = .ok (.iconst 1, 1) := by decide +kernel
theorem dX0_agreed_37 : decode cX0_agreed 37 = .ok (.iconst 2, 1) := by decide +kernel
theorem dX0_agreed_38 : decode cX0_agreed 38 = .ok (.invokestatic 31, 3) := by decide +kernel
theorem dX0_agreed_41 : decode cX0_agreed 41 = .ok (.aload_n 0, 1) := by decide +kernel
theorem dX0_agreed_42 : decode cX0_agreed 42 = .ok (.getfield 18, 3) := by decide +kernel
theorem dX0_agreed_45 : decode cX0_agreed 45 = .ok (.iload 8, 2) := by decide +kernel
theorem dX0_agreed_47 : decode cX0_agreed 47 = .ok (.iconst 1, 1) := by decide +kernel
theorem dX0_agreed_48 : decode cX0_agreed 48 = .ok (.iconst 1, 1) := by decide +kernel
theorem dX0_agreed_49 : decode cX0_agreed 49 = .ok (.invokestatic 31, 3) := by decide +kernel
theorem dX0_agreed_52 : decode cX0_agreed 52 = .ok (.lload 4, 2) := by decide +kernel
theorem dX0_agreed_54 : decode cX0_agreed 54 = .ok (.ldc2_w 39, 3) := by decide +kernel
theorem dX0_agreed_57 : decode cX0_agreed 57 = .ok (.lmul, 1) := by decide +kernel
theorem dX0_agreed_58 : decode cX0_agreed 58 = .ok (.lstore 4, 2) := by decide +kernel
theorem dX0_agreed_60 : decode cX0_agreed 60 = .ok (.lload 6, 2) := by decide +kernel
theorem dX0_agreed_62 : decode cX0_agreed 62 = .ok (.ldc2_w 41, 3) := by decide +kernel
theorem dX0_agreed_65 : decode cX0_agreed 65 = .ok (.lmul, 1) := by decide +kernel
theorem dX0_agreed_66 : decode cX0_agreed 66 = .ok (.lstore 6, 2) := by decide +kernel
theorem dX0_agreed_68 : decode cX0_agreed 68 = .ok (.iconst 0, 1) := by decide +kernel
theorem dX0_agreed_69 : decode cX0_agreed 69 = .ok (.istore 9, 2) := by decide +kernel
theorem dX0_agreed_71 : decode cX0_agreed 71 = .ok (.iload 9, 2) := by decide +kernel
theorem dX0_agreed_73 : decode cX0_agreed 73 = .ok (.iload 8, 2) := by decide +kernel
theorem dX0_agreed_75 : decode cX0_agreed 75 = .ok (.if_icmp .gt 62, 3) := by decide +kernel
theorem dX0_agreed_78 : decode cX0_agreed 78 = .ok (.iload_n 1, 1) := by decide +kernel
theorem dX0_agreed_79 : decode cX0_agreed 79 = .ok (.i2l, 1) := by decide +kernel
theorem dX0_agreed_80 : decode cX0_agreed 80 = .ok (.aload_n 0, 1) := by decide +kernel
theorem dX0_agreed_81 : decode cX0_agreed 81 = .ok (.getfield 15, 3) := by decide +kernel
theorem dX0_agreed_84 : decode cX0_agreed 84 = .ok (.iload 9, 2) := by decide +kernel
theorem dX0_agreed_86 : decode cX0_agreed 86 = .ok (.iload 8, 2) := by decide +kernel
theorem dX0_agreed_88 : decode cX0_agreed 88 = .ok (.invokestatic 35, 3) := by decide +kernel
theorem dX0_agreed_91 : decode cX0_agreed 91 = .ok (.lmul, 1) := by decide +kernel
theorem dX0_agreed_92 : decode cX0_agreed 92 = .ok (.lload 4, 2) := by decide +kernel
theorem dX0_agreed_94 : decode cX0_agreed 94 = .ok (.lcmp, 1) := by decide +kernel
theorem dX0_agreed_95 : decode cX0_agreed 95 = .ok (.ifCond .gt 36, 3) := by decide +kernel
theorem dX0_agreed_98 : decode cX0_agreed 98 = .ok (.iload_n 2, 1) := by decide +kernel
theorem dX0_agreed_99 : decode cX0_agreed 99 = .ok (.i2l, 1) := by decide +kernel
theorem dX0_agreed_100 : decode cX0_agreed 100 = .ok (.aload_n 0, 1) := by decide +kernel
theorem dX0_agreed_101 : decode cX0_agreed 101 = .ok (.getfield 18, 3) := by decide +kernel
theorem dX0_agreed_104 : decode cX0_agreed 104 = .ok (.iconst 0, 1) := by decide +kernel
theorem dX0_agreed_105 : decode cX0_agreed 105 = .ok (.iload 9, 2) := by decide +kernel
theorem dX0_agreed_107 : decode cX0_agreed 107 = .ok (.iconst 1, 1) := by decide +kernel
theorem dX0_agreed_108 : decode cX0_agreed 108 = .ok (.isub, 1) := by decide +kernel
theorem dX0_agreed_109 : decode cX0_agreed 109 = .ok (.invokestatic 35, 3) := by decide +kernel
theorem dX0_agreed_112 : decode cX0_agreed 112 = .ok (.lmul, 1) := by decide +kernel
theorem dX0_agreed_113 : decode cX0_agreed 113 = .ok (.lload 6, 2) := by decide +kernel
theorem dX0_agreed_115 : decode cX0_agreed 115 = .ok (.lcmp, 1) := by decide +kernel
theorem dX0_agreed_116 : decode cX0_agreed 116 = .ok (.ifCond .gt 15, 3) := by decide +kernel
theorem dX0_agreed_119 : decode cX0_agreed 119 = .ok (.iload_n 3, 1) := by decide +kernel
theorem dX0_agreed_120 : decode cX0_agreed 120 = .ok (.ifCond .ne 8, 3) := by decide +kernel
theorem dX0_agreed_123 : decode cX0_agreed 123 = .ok (.iload 8, 2) := by decide +kernel
theorem dX0_agreed_125 : decode cX0_agreed 125 = .ok (.goto 5, 3) := by decide +kernel
theorem dX0_agreed_128 : decode cX0_agreed 128 = .ok (.iload 9, 2) := by decide +kernel
theorem dX0_agreed_130 : decode cX0_agreed 130 = .ok (.ireturn, 1) := by decide +kernel
theorem dX0_agreed_131 : decode cX0_agreed 131 = .ok (.iinc 9 1, 3) := by decide +kernel
theorem dX0_agreed_134 : decode cX0_agreed 134 = .ok (.goto (-63), 3) := by decide +kernel
theorem dX0_agreed_137 : decode cX0_agreed 137 = .ok (.iinc 8 1, 3) := by decide +kernel
theorem dX0_agreed_140 : decode cX0_agreed 140 = .ok (.goto (-117), 3) := by decide +kernel
theorem dX0_agreed_143 : decode cX0_agreed 143 = .ok (.bipush (-2), 2) := by decide +kernel
theorem dX0_agreed_145 : decode cX0_agreed 145 = .ok (.ireturn, 1) := by decide +kernel
theorem dX0_allOf_0 : decode cX0_allOf 0 = .ok (.aload_n 0, 1) := by decide +kernel
theorem dX0_allOf_1 : decode cX0_allOf 1 = .ok (.aload_n 1, 1) := by decide +kernel
theorem dX0_allOf_2 : decode cX0_allOf 2 = .ok (.getfield 43, 3) := by decide +kernel
theorem dX0_allOf_5 : decode cX0_allOf 5 = .ok (.aload_n 1, 1) := by decide +kernel
theorem dX0_allOf_6 : decode cX0_allOf 6 = .ok (.getfield 49, 3) := by decide +kernel
theorem dX0_allOf_9 : decode cX0_allOf 9 = .ok (.invokevirtual 52, 3) := by decide +kernel
theorem dX0_allOf_12 : decode cX0_allOf 12 = .ok (.lreturn, 1) := by decide +kernel
theorem dX0_moreOf_0 : decode cX0_moreOf 0 = .ok (.lconst 0, 1) := by decide +kernel
theorem dX0_moreOf_1 : decode cX0_moreOf 1 = .ok (.lstore_n 2, 1) := by decide +kernel
theorem dX0_moreOf_2 : decode cX0_moreOf 2 = .ok (.aload_n 1, 1) := by decide +kernel
theorem dX0_moreOf_3 : decode cX0_moreOf 3 = .ok (.getfield 56, 3) := by decide +kernel
theorem dX0_moreOf_6 : decode cX0_moreOf 6 = .ok (.istore 4, 2) := by decide +kernel
theorem dX0_moreOf_8 : decode cX0_moreOf 8 = .ok (.iload 4, 2) := by decide +kernel
theorem dX0_moreOf_10 : decode cX0_moreOf 10 = .ok (.aload_n 1, 1) := by decide +kernel
theorem dX0_moreOf_11 : decode cX0_moreOf 11 = .ok (.getfield 49, 3) := by decide +kernel
theorem dX0_moreOf_14 : decode cX0_moreOf 14 = .ok (.if_icmp .gt 19, 3) := by decide +kernel
theorem dX0_moreOf_17 : decode cX0_moreOf 17 = .ok (.lload_n 2, 1) := by decide +kernel
theorem dX0_moreOf_18 : decode cX0_moreOf 18 = .ok (.aload_n 0, 1) := by decide +kernel
theorem dX0_moreOf_19 : decode cX0_moreOf 19 = .ok (.aload_n 1, 1) := by decide +kernel
theorem dX0_moreOf_20 : decode cX0_moreOf 20 = .ok (.iload 4, 2) := by decide +kernel
theorem dX0_moreOf_22 : decode cX0_moreOf 22 = .ok (.invokevirtual 59, 3) := by decide +kernel
theorem dX0_moreOf_25 : decode cX0_moreOf 25 = .ok (.ladd, 1) := by decide +kernel
theorem dX0_moreOf_26 : decode cX0_moreOf 26 = .ok (.lstore_n 2, 1) := by decide +kernel
theorem dX0_moreOf_27 : decode cX0_moreOf 27 = .ok (.iinc 4 1, 3) := by decide +kernel
theorem dX0_moreOf_30 : decode cX0_moreOf 30 = .ok (.goto (-22), 3) := by decide +kernel
theorem dX0_moreOf_33 : decode cX0_moreOf 33 = .ok (.lload_n 2, 1) := by decide +kernel
theorem dX0_moreOf_34 : decode cX0_moreOf 34 = .ok (.lreturn, 1) := by decide +kernel
theorem dX0_startSpread_0 : decode cX0_startSpread 0 = .ok (.aload_n 0, 1) := by decide +kernel
theorem dX0_startSpread_1 : decode cX0_startSpread 1 = .ok (.getfield 21, 3) := by decide +kernel
theorem dX0_startSpread_4 : decode cX0_startSpread 4 = .ok (.invokestatic 27, 3) := by decide +kernel
theorem dX0_startSpread_7 : decode cX0_startSpread 7 = .ok (.return_, 1) := by decide +kernel
theorem dX0_widenSpread_0 : decode cX0_widenSpread 0 = .ok (.iconst 0, 1) := by decide +kernel
theorem dX0_widenSpread_1 : decode cX0_widenSpread 1 = .ok (.istore_n 2, 1) := by decide +kernel
theorem dX0_widenSpread_2 : decode cX0_widenSpread 2 = .ok (.iload_n 2, 1) := by decide +kernel
theorem dX0_widenSpread_3 : decode cX0_widenSpread 3 = .ok (.bipush 21, 2) := by decide +kernel
theorem dX0_widenSpread_5 : decode cX0_widenSpread 5 = .ok (.if_icmp .ge 61, 3) := by decide +kernel
theorem dX0_widenSpread_8 : decode cX0_widenSpread 8 = .ok (.aload_n 0, 1) := by decide +kernel
theorem dX0_widenSpread_9 : decode cX0_widenSpread 9 = .ok (.getfield 24, 3) := by decide +kernel
theorem dX0_widenSpread_12 : decode cX0_widenSpread 12 = .ok (.iload_n 2, 1) := by decide +kernel
theorem dX0_widenSpread_13 : decode cX0_widenSpread 13 = .ok (.lconst 0, 1) := by decide +kernel
theorem dX0_widenSpread_14 : decode cX0_widenSpread 14 = .ok (.lastore, 1) := by decide +kernel
theorem dX0_widenSpread_15 : decode cX0_widenSpread 15 = .ok (.iconst 0, 1) := by decide +kernel
theorem dX0_widenSpread_16 : decode cX0_widenSpread 16 = .ok (.istore_n 3, 1) := by decide +kernel
theorem dX0_widenSpread_17 : decode cX0_widenSpread 17 = .ok (.iload_n 3, 1) := by decide +kernel
theorem dX0_widenSpread_18 : decode cX0_widenSpread 18 = .ok (.aload_n 1, 1) := by decide +kernel
theorem dX0_widenSpread_19 : decode cX0_widenSpread 19 = .ok (.getfield 49, 3) := by decide +kernel
theorem dX0_widenSpread_22 : decode cX0_widenSpread 22 = .ok (.if_icmp .gt 38, 3) := by decide +kernel
theorem dX0_widenSpread_25 : decode cX0_widenSpread 25 = .ok (.iload_n 3, 1) := by decide +kernel
theorem dX0_widenSpread_26 : decode cX0_widenSpread 26 = .ok (.iload_n 2, 1) := by decide +kernel
theorem dX0_widenSpread_27 : decode cX0_widenSpread 27 = .ok (.if_icmp .gt 33, 3) := by decide +kernel
theorem dX0_widenSpread_30 : decode cX0_widenSpread 30 = .ok (.aload_n 0, 1) := by decide +kernel
theorem dX0_widenSpread_31 : decode cX0_widenSpread 31 = .ok (.getfield 24, 3) := by decide +kernel
theorem dX0_widenSpread_34 : decode cX0_widenSpread 34 = .ok (.iload_n 2, 1) := by decide +kernel
theorem dX0_widenSpread_35 : decode cX0_widenSpread 35 = .ok (.dup2, 1) := by decide +kernel
theorem dX0_widenSpread_36 : decode cX0_widenSpread 36 = .ok (.laload, 1) := by decide +kernel
theorem dX0_widenSpread_37 : decode cX0_widenSpread 37 = .ok (.aload_n 0, 1) := by decide +kernel
theorem dX0_widenSpread_38 : decode cX0_widenSpread 38 = .ok (.getfield 21, 3) := by decide +kernel
theorem dX0_widenSpread_41 : decode cX0_widenSpread 41 = .ok (.iload_n 2, 1) := by decide +kernel
theorem dX0_widenSpread_42 : decode cX0_widenSpread 42 = .ok (.iload_n 3, 1) := by decide +kernel
theorem dX0_widenSpread_43 : decode cX0_widenSpread 43 = .ok (.isub, 1) := by decide +kernel
theorem dX0_widenSpread_44 : decode cX0_widenSpread 44 = .ok (.laload, 1) := by decide +kernel
theorem dX0_widenSpread_45 : decode cX0_widenSpread 45 = .ok (.aload_n 0, 1) := by decide +kernel
theorem dX0_widenSpread_46 : decode cX0_widenSpread 46 = .ok (.aload_n 1, 1) := by decide +kernel
theorem dX0_widenSpread_47 : decode cX0_widenSpread 47 = .ok (.iload_n 3, 1) := by decide +kernel
theorem dX0_widenSpread_48 : decode cX0_widenSpread 48 = .ok (.invokevirtual 59, 3) := by decide +kernel
theorem dX0_widenSpread_51 : decode cX0_widenSpread 51 = .ok (.lmul, 1) := by decide +kernel
theorem dX0_widenSpread_52 : decode cX0_widenSpread 52 = .ok (.ladd, 1) := by decide +kernel
theorem dX0_widenSpread_53 : decode cX0_widenSpread 53 = .ok (.lastore, 1) := by decide +kernel
theorem dX0_widenSpread_54 : decode cX0_widenSpread 54 = .ok (.iinc 3 1, 3) := by decide +kernel
theorem dX0_widenSpread_57 : decode cX0_widenSpread 57 = .ok (.goto (-40), 3) := by decide +kernel
theorem dX0_widenSpread_60 : decode cX0_widenSpread 60 = .ok (.iinc 2 1, 3) := by decide +kernel
theorem dX0_widenSpread_63 : decode cX0_widenSpread 63 = .ok (.goto (-61), 3) := by decide +kernel
theorem dX0_widenSpread_66 : decode cX0_widenSpread 66 = .ok (.aload_n 0, 1) := by decide +kernel
theorem dX0_widenSpread_67 : decode cX0_widenSpread 67 = .ok (.getfield 24, 3) := by decide +kernel
theorem dX0_widenSpread_70 : decode cX0_widenSpread 70 = .ok (.iconst 0, 1) := by decide +kernel
theorem dX0_widenSpread_71 : decode cX0_widenSpread 71 = .ok (.aload_n 0, 1) := by decide +kernel
theorem dX0_widenSpread_72 : decode cX0_widenSpread 72 = .ok (.getfield 21, 3) := by decide +kernel
theorem dX0_widenSpread_75 : decode cX0_widenSpread 75 = .ok (.iconst 0, 1) := by decide +kernel
theorem dX0_widenSpread_76 : decode cX0_widenSpread 76 = .ok (.bipush 21, 2) := by decide +kernel
theorem dX0_widenSpread_78 : decode cX0_widenSpread 78 = .ok (.invokestatic 63, 3) := by decide +kernel
theorem dX0_widenSpread_81 : decode cX0_widenSpread 81 = .ok (.return_, 1) := by decide +kernel
theorem dX0_spreadFrom_0 : decode cX0_spreadFrom 0 = .ok (.aload_n 0, 1) := by decide +kernel
theorem dX0_spreadFrom_1 : decode cX0_spreadFrom 1 = .ok (.getfield 21, 3) := by decide +kernel
theorem dX0_spreadFrom_4 : decode cX0_spreadFrom 4 = .ok (.iload_n 1, 1) := by decide +kernel
theorem dX0_spreadFrom_5 : decode cX0_spreadFrom 5 = .ok (.bipush 20, 2) := by decide +kernel
theorem dX0_spreadFrom_7 : decode cX0_spreadFrom 7 = .ok (.invokestatic 35, 3) := by decide +kernel
theorem dX0_spreadFrom_10 : decode cX0_spreadFrom 10 = .ok (.lreturn, 1) := by decide +kernel
theorem dX0_takingJust_0 : decode cX0_takingJust 0 = .ok (.aload_n 0, 1) := by decide +kernel
theorem dX0_takingJust_1 : decode cX0_takingJust 1 = .ok (.aload_n 1, 1) := by decide +kernel
theorem dX0_takingJust_2 : decode cX0_takingJust 2 = .ok (.getfield 69, 3) := by decide +kernel
theorem dX0_takingJust_5 : decode cX0_takingJust 5 = .ok (.iload_n 2, 1) := by decide +kernel
theorem dX0_takingJust_6 : decode cX0_takingJust 6 = .ok (.invokevirtual 52, 3) := by decide +kernel
theorem dX0_takingJust_9 : decode cX0_takingJust 9 = .ok (.aload_n 0, 1) := by decide +kernel
theorem dX0_takingJust_10 : decode cX0_takingJust 10 = .ok (.aload_n 1, 1) := by decide +kernel
theorem dX0_takingJust_11 : decode cX0_takingJust 11 = .ok (.getfield 43, 3) := by decide +kernel
theorem dX0_takingJust_14 : decode cX0_takingJust 14 = .ok (.aload_n 1, 1) := by decide +kernel
theorem dX0_takingJust_15 : decode cX0_takingJust 15 = .ok (.getfield 69, 3) := by decide +kernel
theorem dX0_takingJust_18 : decode cX0_takingJust 18 = .ok (.isub, 1) := by decide +kernel
theorem dX0_takingJust_19 : decode cX0_takingJust 19 = .ok (.aload_n 1, 1) := by decide +kernel
theorem dX0_takingJust_20 : decode cX0_takingJust 20 = .ok (.getfield 49, 3) := by decide +kernel
theorem dX0_takingJust_23 : decode cX0_takingJust 23 = .ok (.iload_n 2, 1) := by decide +kernel
theorem dX0_takingJust_24 : decode cX0_takingJust 24 = .ok (.isub, 1) := by decide +kernel
theorem dX0_takingJust_25 : decode cX0_takingJust 25 = .ok (.invokevirtual 52, 3) := by decide +kernel
theorem dX0_takingJust_28 : decode cX0_takingJust 28 = .ok (.lmul, 1) := by decide +kernel
theorem dX0_takingJust_29 : decode cX0_takingJust 29 = .ok (.lreturn, 1) := by decide +kernel
theorem dX0_taking_0 : decode cX0_taking 0 = .ok (.iload_n 1, 1) := by decide +kernel
theorem dX0_taking_1 : decode cX0_taking 1 = .ok (.iconst 0, 1) := by decide +kernel
theorem dX0_taking_2 : decode cX0_taking 2 = .ok (.bipush 20, 2) := by decide +kernel
theorem dX0_taking_4 : decode cX0_taking 4 = .ok (.invokestatic 72, 3) := by decide +kernel
theorem dX0_taking_7 : decode cX0_taking 7 = .ok (.ifCond .eq 26, 3) := by decide +kernel
theorem dX0_taking_10 : decode cX0_taking 10 = .ok (.iload_n 2, 1) := by decide +kernel
theorem dX0_taking_11 : decode cX0_taking 11 = .ok (.iconst 0, 1) := by decide +kernel
theorem dX0_taking_12 : decode cX0_taking 12 = .ok (.iload_n 1, 1) := by decide +kernel
theorem dX0_taking_13 : decode cX0_taking 13 = .ok (.invokestatic 72, 3) := by decide +kernel
theorem dX0_taking_16 : decode cX0_taking 16 = .ok (.ifCond .eq 17, 3) := by decide +kernel
theorem dX0_taking_19 : decode cX0_taking 19 = .ok (.aload_n 0, 1) := by decide +kernel
theorem dX0_taking_20 : decode cX0_taking 20 = .ok (.getfield 11, 3) := by decide +kernel
theorem dX0_taking_23 : decode cX0_taking 23 = .ok (.iload_n 1, 1) := by decide +kernel
theorem dX0_taking_24 : decode cX0_taking 24 = .ok (.bipush 21, 2) := by decide +kernel
theorem dX0_taking_26 : decode cX0_taking 26 = .ok (.imul, 1) := by decide +kernel
theorem dX0_taking_27 : decode cX0_taking 27 = .ok (.iload_n 2, 1) := by decide +kernel
theorem dX0_taking_28 : decode cX0_taking 28 = .ok (.iadd, 1) := by decide +kernel
theorem dX0_taking_29 : decode cX0_taking 29 = .ok (.laload, 1) := by decide +kernel
theorem dX0_taking_30 : decode cX0_taking 30 = .ok (.goto 4, 3) := by decide +kernel
theorem dX0_taking_33 : decode cX0_taking 33 = .ok (.lconst 0, 1) := by decide +kernel
theorem dX0_taking_34 : decode cX0_taking 34 = .ok (.lreturn, 1) := by decide +kernel
theorem dX0_startRow_0 : decode cX0_startRow 0 = .ok (.iconst 0, 1) := by decide +kernel
theorem dX0_startRow_1 : decode cX0_startRow 1 = .ok (.istore_n 1, 1) := by decide +kernel
theorem dX0_startRow_2 : decode cX0_startRow 2 = .ok (.iload_n 1, 1) := by decide +kernel
theorem dX0_startRow_3 : decode cX0_startRow 3 = .ok (.aload_n 0, 1) := by decide +kernel
theorem dX0_startRow_4 : decode cX0_startRow 4 = .ok (.arraylength, 1) := by decide +kernel
theorem dX0_startRow_5 : decode cX0_startRow 5 = .ok (.if_icmp .ge 21, 3) := by decide +kernel
theorem dX0_startRow_8 : decode cX0_startRow 8 = .ok (.aload_n 0, 1) := by decide +kernel
theorem dX0_startRow_9 : decode cX0_startRow 9 = .ok (.iload_n 1, 1) := by decide +kernel
theorem dX0_startRow_10 : decode cX0_startRow 10 = .ok (.iload_n 1, 1) := by decide +kernel
theorem dX0_startRow_11 : decode cX0_startRow 11 = .ok (.ifCond .ne 7, 3) := by decide +kernel
theorem dX0_startRow_14 : decode cX0_startRow 14 = .ok (.lconst 1, 1) := by decide +kernel
theorem dX0_startRow_15 : decode cX0_startRow 15 = .ok (.goto 4, 3) := by decide +kernel
theorem dX0_startRow_18 : decode cX0_startRow 18 = .ok (.lconst 0, 1) := by decide +kernel
theorem dX0_startRow_19 : decode cX0_startRow 19 = .ok (.lastore, 1) := by decide +kernel
theorem dX0_startRow_20 : decode cX0_startRow 20 = .ok (.iinc 1 1, 3) := by decide +kernel
theorem dX0_startRow_23 : decode cX0_startRow 23 = .ok (.goto (-21), 3) := by decide +kernel
theorem dX0_startRow_26 : decode cX0_startRow 26 = .ok (.return_, 1) := by decide +kernel
theorem dX0_addTry_0 : decode cX0_addTry 0 = .ok (.iload_n 1, 1) := by decide +kernel
theorem dX0_addTry_1 : decode cX0_addTry 1 = .ok (.aload_n 0, 1) := by decide +kernel
theorem dX0_addTry_2 : decode cX0_addTry 2 = .ok (.arraylength, 1) := by decide +kernel
theorem dX0_addTry_3 : decode cX0_addTry 3 = .ok (.iconst 1, 1) := by decide +kernel
theorem dX0_addTry_4 : decode cX0_addTry 4 = .ok (.isub, 1) := by decide +kernel
theorem dX0_addTry_5 : decode cX0_addTry 5 = .ok (.invokestatic 76, 3) := by decide +kernel
theorem dX0_addTry_8 : decode cX0_addTry 8 = .ok (.istore 4, 2) := by decide +kernel
theorem dX0_addTry_10 : decode cX0_addTry 10 = .ok (.iload 4, 2) := by decide +kernel
theorem dX0_addTry_12 : decode cX0_addTry 12 = .ok (.ifCond .le 30, 3) := by decide +kernel
theorem dX0_addTry_15 : decode cX0_addTry 15 = .ok (.aload_n 0, 1) := by decide +kernel
theorem dX0_addTry_16 : decode cX0_addTry 16 = .ok (.iload 4, 2) := by decide +kernel
theorem dX0_addTry_18 : decode cX0_addTry 18 = .ok (.aload_n 0, 1) := by decide +kernel
theorem dX0_addTry_19 : decode cX0_addTry 19 = .ok (.iload 4, 2) := by decide +kernel
theorem dX0_addTry_21 : decode cX0_addTry 21 = .ok (.laload, 1) := by decide +kernel
theorem dX0_addTry_22 : decode cX0_addTry 22 = .ok (.iload_n 3, 1) := by decide +kernel
theorem dX0_addTry_23 : decode cX0_addTry 23 = .ok (.i2l, 1) := by decide +kernel
theorem dX0_addTry_24 : decode cX0_addTry 24 = .ok (.lmul, 1) := by decide +kernel
theorem dX0_addTry_25 : decode cX0_addTry 25 = .ok (.aload_n 0, 1) := by decide +kernel
theorem dX0_addTry_26 : decode cX0_addTry 26 = .ok (.iload 4, 2) := by decide +kernel
theorem dX0_addTry_28 : decode cX0_addTry 28 = .ok (.iconst 1, 1) := by decide +kernel
theorem dX0_addTry_29 : decode cX0_addTry 29 = .ok (.isub, 1) := by decide +kernel
theorem dX0_addTry_30 : decode cX0_addTry 30 = .ok (.laload, 1) := by decide +kernel
theorem dX0_addTry_31 : decode cX0_addTry 31 = .ok (.iload_n 2, 1) := by decide +kernel
theorem dX0_addTry_32 : decode cX0_addTry 32 = .ok (.i2l, 1) := by decide +kernel
theorem dX0_addTry_33 : decode cX0_addTry 33 = .ok (.lmul, 1) := by decide +kernel
theorem dX0_addTry_34 : decode cX0_addTry 34 = .ok (.ladd, 1) := by decide +kernel
theorem dX0_addTry_35 : decode cX0_addTry 35 = .ok (.lastore, 1) := by decide +kernel
theorem dX0_addTry_36 : decode cX0_addTry 36 = .ok (.iinc 4 (-1), 3) := by decide +kernel
theorem dX0_addTry_39 : decode cX0_addTry 39 = .ok (.goto (-29), 3) := by decide +kernel
theorem dX0_addTry_42 : decode cX0_addTry 42 = .ok (.aload_n 0, 1) := by decide +kernel
theorem dX0_addTry_43 : decode cX0_addTry 43 = .ok (.iconst 0, 1) := by decide +kernel
theorem dX0_addTry_44 : decode cX0_addTry 44 = .ok (.dup2, 1) := by decide +kernel
theorem dX0_addTry_45 : decode cX0_addTry 45 = .ok (.laload, 1) := by decide +kernel
theorem dX0_addTry_46 : decode cX0_addTry 46 = .ok (.iload_n 3, 1) := by decide +kernel
theorem dX0_addTry_47 : decode cX0_addTry 47 = .ok (.i2l, 1) := by decide +kernel
theorem dX0_addTry_48 : decode cX0_addTry 48 = .ok (.lmul, 1) := by decide +kernel
theorem dX0_addTry_49 : decode cX0_addTry 49 = .ok (.lastore, 1) := by decide +kernel
theorem dX0_addTry_50 : decode cX0_addTry 50 = .ok (.return_, 1) := by decide +kernel
theorem dX0_sumOf_0 : decode cX0_sumOf 0 = .ok (.lconst 0, 1) := by decide +kernel
theorem dX0_sumOf_1 : decode cX0_sumOf 1 = .ok (.lstore_n 3, 1) := by decide +kernel
theorem dX0_sumOf_2 : decode cX0_sumOf 2 = .ok (.iload_n 1, 1) := by decide +kernel
theorem dX0_sumOf_3 : decode cX0_sumOf 3 = .ok (.iconst 0, 1) := by decide +kernel
theorem dX0_sumOf_4 : decode cX0_sumOf 4 = .ok (.invokestatic 82, 3) := by decide +kernel
theorem dX0_sumOf_7 : decode cX0_sumOf 7 = .ok (.istore 5, 2) := by decide +kernel
theorem dX0_sumOf_9 : decode cX0_sumOf 9 = .ok (.iload 5, 2) := by decide +kernel
theorem dX0_sumOf_11 : decode cX0_sumOf 11 = .ok (.iload_n 2, 1) := by decide +kernel
theorem dX0_sumOf_12 : decode cX0_sumOf 12 = .ok (.if_icmp .gt 23, 3) := by decide +kernel
theorem dX0_sumOf_15 : decode cX0_sumOf 15 = .ok (.iload 5, 2) := by decide +kernel
theorem dX0_sumOf_17 : decode cX0_sumOf 17 = .ok (.aload_n 0, 1) := by decide +kernel
theorem dX0_sumOf_18 : decode cX0_sumOf 18 = .ok (.arraylength, 1) := by decide +kernel
theorem dX0_sumOf_19 : decode cX0_sumOf 19 = .ok (.if_icmp .ge 16, 3) := by decide +kernel
theorem dX0_sumOf_22 : decode cX0_sumOf 22 = .ok (.lload_n 3, 1) := by decide +kernel
theorem dX0_sumOf_23 : decode cX0_sumOf 23 = .ok (.aload_n 0, 1) := by decide +kernel
theorem dX0_sumOf_24 : decode cX0_sumOf 24 = .ok (.iload 5, 2) := by decide +kernel
theorem dX0_sumOf_26 : decode cX0_sumOf 26 = .ok (.laload, 1) := by decide +kernel
theorem dX0_sumOf_27 : decode cX0_sumOf 27 = .ok (.ladd, 1) := by decide +kernel
theorem dX0_sumOf_28 : decode cX0_sumOf 28 = .ok (.lstore_n 3, 1) := by decide +kernel
theorem dX0_sumOf_29 : decode cX0_sumOf 29 = .ok (.iinc 5 1, 3) := by decide +kernel
theorem dX0_sumOf_32 : decode cX0_sumOf 32 = .ok (.goto (-23), 3) := by decide +kernel
theorem dX0_sumOf_35 : decode cX0_sumOf 35 = .ok (.lload_n 3, 1) := by decide +kernel
theorem dX0_sumOf_36 : decode cX0_sumOf 36 = .ok (.lreturn, 1) := by decide +kernel
theorem dX1_init_0 : decode cX1_init 0 = .ok (.aload_n 0, 1) := by decide +kernel
theorem dX1_init_1 : decode cX1_init 1 = .ok (.invokespecial 3, 3) := by decide +kernel
theorem dX1_init_4 : decode cX1_init 4 = .ok (.aload_n 0, 1) := by decide +kernel
theorem dX1_init_5 : decode cX1_init 5 = .ok (.bipush 60, 2) := by decide +kernel
theorem dX1_init_7 : decode cX1_init 7 = .ok (.newarray .int, 2) := by decide +kernel
theorem dX1_init_9 : decode cX1_init 9 = .ok (.putfield 9, 3) := by decide +kernel
theorem dX1_init_12 : decode cX1_init 12 = .ok (.aload_n 0, 1) := by decide +kernel
theorem dX1_init_13 : decode cX1_init 13 = .ok (.bipush 60, 2) := by decide +kernel
theorem dX1_init_15 : decode cX1_init 15 = .ok (.newarray .int, 2) := by decide +kernel
theorem dX1_init_17 : decode cX1_init 17 = .ok (.putfield 15, 3) := by decide +kernel
theorem dX1_init_20 : decode cX1_init 20 = .ok (.aload_n 0, 1) := by decide +kernel
theorem dX1_init_21 : decode cX1_init 21 = .ok (.bipush 60, 2) := by decide +kernel
theorem dX1_init_23 : decode cX1_init 23 = .ok (.newarray .int, 2) := by decide +kernel
theorem dX1_init_25 : decode cX1_init 25 = .ok (.putfield 18, 3) := by decide +kernel
theorem dX1_init_28 : decode cX1_init 28 = .ok (.aload_n 0, 1) := by decide +kernel
theorem dX1_init_29 : decode cX1_init 29 = .ok (.bipush 60, 2) := by decide +kernel
theorem dX1_init_31 : decode cX1_init 31 = .ok (.newarray .boolean, 2) := by decide +kernel
theorem dX1_init_33 : decode cX1_init 33 = .ok (.putfield 21, 3) := by decide +kernel
theorem dX1_init_36 : decode cX1_init 36 = .ok (.aload_n 0, 1) := by decide +kernel
theorem dX1_init_37 : decode cX1_init 37 = .ok (.iconst 0, 1) := by decide +kernel
theorem dX1_init_38 : decode cX1_init 38 = .ok (.putfield 25, 3) := by decide +kernel
theorem dX1_init_41 : decode cX1_init 41 = .ok (.return_, 1) := by decide +kernel
theorem dX1_add_0 : decode cX1_add 0 = .ok (.aload_n 0, 1) := by decide +kernel
theorem dX1_add_1 : decode cX1_add 1 = .ok (.getfield 25, 3) := by decide +kernel
theorem dX1_add_4 : decode cX1_add 4 = .ok (.bipush 60, 2) := by decide +kernel
theorem dX1_add_6 : decode cX1_add 6 = .ok (.if_icmp .lt 5, 3) := by decide +kernel
theorem dX1_add_9 : decode cX1_add 9 = .ok (.iconst (-1), 1) := by decide +kernel
theorem dX1_add_10 : decode cX1_add 10 = .ok (.ireturn, 1) := by decide +kernel
theorem dX1_add_11 : decode cX1_add 11 = .ok (.aload_n 0, 1) := by decide +kernel
theorem dX1_add_12 : decode cX1_add 12 = .ok (.getfield 9, 3) := by decide +kernel
theorem dX1_add_15 : decode cX1_add 15 = .ok (.aload_n 0, 1) := by decide +kernel
theorem dX1_add_16 : decode cX1_add 16 = .ok (.getfield 25, 3) := by decide +kernel
theorem dX1_add_19 : decode cX1_add 19 = .ok (.iload_n 1, 1) := by decide +kernel
theorem dX1_add_20 : decode cX1_add 20 = .ok (.iastore, 1) := by decide +kernel
theorem dX1_add_21 : decode cX1_add 21 = .ok (.aload_n 0, 1) := by decide +kernel
theorem dX1_add_22 : decode cX1_add 22 = .ok (.getfield 15, 3) := by decide +kernel
theorem dX1_add_25 : decode cX1_add 25 = .ok (.aload_n 0, 1) := by decide +kernel
theorem dX1_add_26 : decode cX1_add 26 = .ok (.getfield 25, 3) := by decide +kernel
theorem dX1_add_29 : decode cX1_add 29 = .ok (.iload_n 2, 1) := by decide +kernel
theorem dX1_add_30 : decode cX1_add 30 = .ok (.iastore, 1) := by decide +kernel
theorem dX1_add_31 : decode cX1_add 31 = .ok (.aload_n 0, 1) := by decide +kernel
theorem dX1_add_32 : decode cX1_add 32 = .ok (.getfield 18, 3) := by decide +kernel
theorem dX1_add_35 : decode cX1_add 35 = .ok (.aload_n 0, 1) := by decide +kernel
theorem dX1_add_36 : decode cX1_add 36 = .ok (.getfield 25, 3) := by decide +kernel
theorem dX1_add_39 : decode cX1_add 39 = .ok (.iload_n 3, 1) := by decide +kernel
theorem dX1_add_40 : decode cX1_add 40 = .ok (.iastore, 1) := by decide +kernel
theorem dX1_add_41 : decode cX1_add 41 = .ok (.aload_n 0, 1) := by decide +kernel
theorem dX1_add_42 : decode cX1_add 42 = .ok (.dup, 1) := by decide +kernel
theorem dX1_add_43 : decode cX1_add 43 = .ok (.getfield 25, 3) := by decide +kernel
theorem dX1_add_46 : decode cX1_add 46 = .ok (.iconst 1, 1) := by decide +kernel
theorem dX1_add_47 : decode cX1_add 47 = .ok (.iadd, 1) := by decide +kernel
theorem dX1_add_48 : decode cX1_add 48 = .ok (.putfield 25, 3) := by decide +kernel
theorem dX1_add_51 : decode cX1_add 51 = .ok (.aload_n 0, 1) := by decide +kernel
theorem dX1_add_52 : decode cX1_add 52 = .ok (.getfield 25, 3) := by decide +kernel
theorem dX1_add_55 : decode cX1_add 55 = .ok (.iconst 1, 1) := by decide +kernel
theorem dX1_add_56 : decode cX1_add 56 = .ok (.isub, 1) := by decide +kernel
theorem dX1_add_57 : decode cX1_add 57 = .ok (.ireturn, 1) := by decide +kernel
theorem dX1_has_0 : decode cX1_has 0 = .ok (.iload_n 1, 1) := by decide +kernel
theorem dX1_has_1 : decode cX1_has 1 = .ok (.ifCond .lt 15, 3) := by decide +kernel
theorem dX1_has_4 : decode cX1_has 4 = .ok (.iload_n 1, 1) := by decide +kernel
theorem dX1_has_5 : decode cX1_has 5 = .ok (.aload_n 0, 1) := by decide +kernel
theorem dX1_has_6 : decode cX1_has 6 = .ok (.getfield 25, 3) := by decide +kernel
theorem dX1_has_9 : decode cX1_has 9 = .ok (.if_icmp .ge 7, 3) := by decide +kernel
theorem dX1_has_12 : decode cX1_has 12 = .ok (.iconst 1, 1) := by decide +kernel
theorem dX1_has_13 : decode cX1_has 13 = .ok (.goto 4, 3) := by decide +kernel
theorem dX1_has_16 : decode cX1_has 16 = .ok (.iconst 0, 1) := by decide +kernel
theorem dX1_has_17 : decode cX1_has 17 = .ok (.ireturn, 1) := by decide +kernel
theorem dX1_canKnow_0 : decode cX1_canKnow 0 = .ok (.iload_n 1, 1) := by decide +kernel
theorem dX1_canKnow_1 : decode cX1_canKnow 1 = .ok (.ifCond .lt 15, 3) := by decide +kernel
theorem dX1_canKnow_4 : decode cX1_canKnow 4 = .ok (.iload_n 1, 1) := by decide +kernel
theorem dX1_canKnow_5 : decode cX1_canKnow 5 = .ok (.aload_n 0, 1) := by decide +kernel
theorem dX1_canKnow_6 : decode cX1_canKnow 6 = .ok (.getfield 25, 3) := by decide +kernel
theorem dX1_canKnow_9 : decode cX1_canKnow 9 = .ok (.if_icmp .gt 7, 3) := by decide +kernel
theorem dX1_canKnow_12 : decode cX1_canKnow 12 = .ok (.iconst 1, 1) := by decide +kernel
theorem dX1_canKnow_13 : decode cX1_canKnow 13 = .ok (.goto 4, 3) := by decide +kernel
theorem dX1_canKnow_16 : decode cX1_canKnow 16 = .ok (.iconst 0, 1) := by decide +kernel
theorem dX1_canKnow_17 : decode cX1_canKnow 17 = .ok (.ireturn, 1) := by decide +kernel
theorem dX1_know_0 : decode cX1_know 0 = .ok (.iconst 0, 1) := by decide +kernel
theorem dX1_know_1 : decode cX1_know 1 = .ok (.istore_n 2, 1) := by decide +kernel
theorem dX1_know_2 : decode cX1_know 2 = .ok (.iload_n 2, 1) := by decide +kernel
theorem dX1_know_3 : decode cX1_know 3 = .ok (.aload_n 0, 1) := by decide +kernel
theorem dX1_know_4 : decode cX1_know 4 = .ok (.getfield 25, 3) := by decide +kernel
theorem dX1_know_7 : decode cX1_know 7 = .ok (.if_icmp .ge 25, 3) := by decide +kernel
theorem dX1_know_10 : decode cX1_know 10 = .ok (.aload_n 0, 1) := by decide +kernel
theorem dX1_know_11 : decode cX1_know 11 = .ok (.getfield 21, 3) := by decide +kernel
theorem dX1_know_14 : decode cX1_know 14 = .ok (.iload_n 2, 1) := by decide +kernel
theorem dX1_know_15 : decode cX1_know 15 = .ok (.iload_n 2, 1) := by decide +kernel
theorem dX1_know_16 : decode cX1_know 16 = .ok (.iload_n 1, 1) := by decide +kernel
theorem dX1_know_17 : decode cX1_know 17 = .ok (.if_icmp .ge 7, 3) := by decide +kernel
theorem dX1_know_20 : decode cX1_know 20 = .ok (.iconst 1, 1) := by decide +kernel
theorem dX1_know_21 : decode cX1_know 21 = .ok (.goto 4, 3) := by decide +kernel
theorem dX1_know_24 : decode cX1_know 24 = .ok (.iconst 0, 1) := by decide +kernel
theorem dX1_know_25 : decode cX1_know 25 = .ok (.bastore, 1) := by decide +kernel
theorem dX1_know_26 : decode cX1_know 26 = .ok (.iinc 2 1, 3) := by decide +kernel
theorem dX1_know_29 : decode cX1_know 29 = .ok (.goto (-27), 3) := by decide +kernel
theorem dX1_know_32 : decode cX1_know 32 = .ok (.iconst 0, 1) := by decide +kernel
theorem dX1_know_33 : decode cX1_know 33 = .ok (.istore_n 2, 1) := by decide +kernel
theorem dX1_know_34 : decode cX1_know 34 = .ok (.iload_n 2, 1) := by decide +kernel
theorem dX1_know_35 : decode cX1_know 35 = .ok (.iload_n 1, 1) := by decide +kernel
theorem dX1_know_36 : decode cX1_know 36 = .ok (.if_icmp .ge 52, 3) := by decide +kernel
theorem dX1_know_39 : decode cX1_know 39 = .ok (.iload_n 2, 1) := by decide +kernel
theorem dX1_know_40 : decode cX1_know 40 = .ok (.aload_n 0, 1) := by decide +kernel
theorem dX1_know_41 : decode cX1_know 41 = .ok (.getfield 25, 3) := by decide +kernel
theorem dX1_know_44 : decode cX1_know 44 = .ok (.if_icmp .ge 44, 3) := by decide +kernel
theorem dX1_know_47 : decode cX1_know 47 = .ok (.aload_n 0, 1) := by decide +kernel
theorem dX1_know_48 : decode cX1_know 48 = .ok (.getfield 9, 3) := by decide +kernel
theorem dX1_know_51 : decode cX1_know 51 = .ok (.iload_n 2, 1) := by decide +kernel
theorem dX1_know_52 : decode cX1_know 52 = .ok (.iaload, 1) := by decide +kernel
theorem dX1_know_53 : decode cX1_know 53 = .ok (.iconst 5, 1) := by decide +kernel
theorem dX1_know_54 : decode cX1_know 54 = .ok (.if_icmp .ne 28, 3) := by decide +kernel
theorem dX1_know_57 : decode cX1_know 57 = .ok (.aload_n 0, 1) := by decide +kernel
theorem dX1_know_58 : decode cX1_know 58 = .ok (.aload_n 0, 1) := by decide +kernel
theorem dX1_know_59 : decode cX1_know 59 = .ok (.getfield 15, 3) := by decide +kernel
theorem dX1_know_62 : decode cX1_know 62 = .ok (.iload_n 2, 1) := by decide +kernel
theorem dX1_know_63 : decode cX1_know 63 = .ok (.iaload, 1) := by decide +kernel
theorem dX1_know_64 : decode cX1_know 64 = .ok (.invokevirtual 29, 3) := by decide +kernel
theorem dX1_know_67 : decode cX1_know 67 = .ok (.ifCond .eq 15, 3) := by decide +kernel
theorem dX1_know_70 : decode cX1_know 70 = .ok (.aload_n 0, 1) := by decide +kernel
theorem dX1_know_71 : decode cX1_know 71 = .ok (.getfield 21, 3) := by decide +kernel
theorem dX1_know_74 : decode cX1_know 74 = .ok (.aload_n 0, 1) := by decide +kernel
theorem dX1_know_75 : decode cX1_know 75 = .ok (.getfield 15, 3) := by decide +kernel
theorem dX1_know_78 : decode cX1_know 78 = .ok (.iload_n 2, 1) := by decide +kernel
theorem dX1_know_79 : decode cX1_know 79 = .ok (.iaload, 1) := by decide +kernel
theorem dX1_know_80 : decode cX1_know 80 = .ok (.iconst 0, 1) := by decide +kernel
theorem dX1_know_81 : decode cX1_know 81 = .ok (.bastore, 1) := by decide +kernel
theorem dX1_know_82 : decode cX1_know 82 = .ok (.iinc 2 1, 3) := by decide +kernel
theorem dX1_know_85 : decode cX1_know 85 = .ok (.goto (-51), 3) := by decide +kernel
theorem dX1_know_88 : decode cX1_know 88 = .ok (.return_, 1) := by decide +kernel
theorem dX1_sumOf_0 : decode cX1_sumOf 0 = .ok (.iconst 0, 1) := by decide +kernel
theorem dX1_sumOf_1 : decode cX1_sumOf 1 = .ok (.istore_n 3, 1) := by decide +kernel
theorem dX1_sumOf_2 : decode cX1_sumOf 2 = .ok (.iconst 0, 1) := by decide +kernel
theorem dX1_sumOf_3 : decode cX1_sumOf 3 = .ok (.istore 4, 2) := by decide +kernel
theorem dX1_sumOf_5 : decode cX1_sumOf 5 = .ok (.iload 4, 2) := by decide +kernel
theorem dX1_sumOf_7 : decode cX1_sumOf 7 = .ok (.aload_n 0, 1) := by decide +kernel
theorem dX1_sumOf_8 : decode cX1_sumOf 8 = .ok (.getfield 25, 3) := by decide +kernel
theorem dX1_sumOf_11 : decode cX1_sumOf 11 = .ok (.if_icmp .ge 48, 3) := by decide +kernel
theorem dX1_sumOf_14 : decode cX1_sumOf 14 = .ok (.aload_n 0, 1) := by decide +kernel
theorem dX1_sumOf_15 : decode cX1_sumOf 15 = .ok (.getfield 21, 3) := by decide +kernel
theorem dX1_sumOf_18 : decode cX1_sumOf 18 = .ok (.iload 4, 2) := by decide +kernel
theorem dX1_sumOf_20 : decode cX1_sumOf 20 = .ok (.baload, 1) := by decide +kernel
theorem dX1_sumOf_21 : decode cX1_sumOf 21 = .ok (.ifCond .eq 32, 3) := by decide +kernel
theorem dX1_sumOf_24 : decode cX1_sumOf 24 = .ok (.aload_n 0, 1) := by decide +kernel
theorem dX1_sumOf_25 : decode cX1_sumOf 25 = .ok (.getfield 9, 3) := by decide +kernel
theorem dX1_sumOf_28 : decode cX1_sumOf 28 = .ok (.iload 4, 2) := by decide +kernel
theorem dX1_sumOf_30 : decode cX1_sumOf 30 = .ok (.iaload, 1) := by decide +kernel
theorem dX1_sumOf_31 : decode cX1_sumOf 31 = .ok (.iload_n 1, 1) := by decide +kernel
theorem dX1_sumOf_32 : decode cX1_sumOf 32 = .ok (.if_icmp .ne 21, 3) := by decide +kernel
theorem dX1_sumOf_35 : decode cX1_sumOf 35 = .ok (.iload_n 3, 1) := by decide +kernel
theorem dX1_sumOf_36 : decode cX1_sumOf 36 = .ok (.iload_n 2, 1) := by decide +kernel
theorem dX1_sumOf_37 : decode cX1_sumOf 37 = .ok (.ifCond .eq 13, 3) := by decide +kernel
theorem dX1_sumOf_40 : decode cX1_sumOf 40 = .ok (.aload_n 0, 1) := by decide +kernel
theorem dX1_sumOf_41 : decode cX1_sumOf 41 = .ok (.getfield 18, 3) := by decide +kernel
theorem dX1_sumOf_44 : decode cX1_sumOf 44 = .ok (.iload 4, 2) := by decide +kernel
theorem dX1_sumOf_46 : decode cX1_sumOf 46 = .ok (.iaload, 1) := by decide +kernel
theorem dX1_sumOf_47 : decode cX1_sumOf 47 = .ok (.goto 4, 3) := by decide +kernel
theorem dX1_sumOf_50 : decode cX1_sumOf 50 = .ok (.iconst 1, 1) := by decide +kernel
theorem dX1_sumOf_51 : decode cX1_sumOf 51 = .ok (.iadd, 1) := by decide +kernel
theorem dX1_sumOf_52 : decode cX1_sumOf 52 = .ok (.istore_n 3, 1) := by decide +kernel
theorem dX1_sumOf_53 : decode cX1_sumOf 53 = .ok (.iinc 4 1, 3) := by decide +kernel
theorem dX1_sumOf_56 : decode cX1_sumOf 56 = .ok (.goto (-51), 3) := by decide +kernel
theorem dX1_sumOf_59 : decode cX1_sumOf 59 = .ok (.iload_n 3, 1) := by decide +kernel
theorem dX1_sumOf_60 : decode cX1_sumOf 60 = .ok (.ireturn, 1) := by decide +kernel
theorem dX1_howManySure_0 : decode cX1_howManySure 0 = .ok (.iconst 0, 1) := by decide +kernel
theorem dX1_howManySure_1 : decode cX1_howManySure 1 = .ok (.istore_n 3, 1) := by decide +kernel
theorem dX1_howManySure_2 : decode cX1_howManySure 2 = .ok (.iconst 0, 1) := by decide +kernel
theorem dX1_howManySure_3 : decode cX1_howManySure 3 = .ok (.istore 4, 2) := by decide +kernel
theorem dX1_howManySure_5 : decode cX1_howManySure 5 = .ok (.iload 4, 2) := by decide +kernel
theorem dX1_howManySure_7 : decode cX1_howManySure 7 = .ok (.aload_n 0, 1) := by decide +kernel
theorem dX1_howManySure_8 : decode cX1_howManySure 8 = .ok (.getfield 25, 3) := by decide +kernel
theorem dX1_howManySure_11 : decode cX1_howManySure 11 = .ok (.if_icmp .ge 44, 3) := by decide +kernel
theorem dX1_howManySure_14 : decode cX1_howManySure 14 = .ok (.aload_n 0, 1) := by decide +kernel
theorem dX1_howManySure_15 : decode cX1_howManySure 15 = .ok (.getfield 21, 3) := by decide +kernel
theorem dX1_howManySure_18 : decode cX1_howManySure 18 = .ok (.iload 4, 2) := by decide +kernel
theorem dX1_howManySure_20 : decode cX1_howManySure 20 = .ok (.baload, 1) := by decide +kernel
theorem dX1_howManySure_21 : decode cX1_howManySure 21 = .ok (.ifCond .eq 28, 3) := by decide +kernel
theorem dX1_howManySure_24 : decode cX1_howManySure 24 = .ok (.aload_n 0, 1) := by decide +kernel
theorem dX1_howManySure_25 : decode cX1_howManySure 25 = .ok (.getfield 9, 3) := by decide +kernel
theorem dX1_howManySure_28 : decode cX1_howManySure 28 = .ok (.iload 4, 2) := by decide +kernel
theorem dX1_howManySure_30 : decode cX1_howManySure 30 = .ok (.iaload, 1) := by decide +kernel
theorem dX1_howManySure_31 : decode cX1_howManySure 31 = .ok (.iload_n 1, 1) := by decide +kernel
theorem dX1_howManySure_32 : decode cX1_howManySure 32 = .ok (.if_icmp .ne 17, 3) := by decide +kernel
theorem dX1_howManySure_35 : decode cX1_howManySure 35 = .ok (.aload_n 0, 1) := by decide +kernel
theorem dX1_howManySure_36 : decode cX1_howManySure 36 = .ok (.getfield 18, 3) := by decide +kernel
theorem dX1_howManySure_39 : decode cX1_howManySure 39 = .ok (.iload 4, 2) := by decide +kernel
theorem dX1_howManySure_41 : decode cX1_howManySure 41 = .ok (.iaload, 1) := by decide +kernel
theorem dX1_howManySure_42 : decode cX1_howManySure 42 = .ok (.iload_n 2, 1) := by decide +kernel
theorem dX1_howManySure_43 : decode cX1_howManySure 43 = .ok (.if_icmp .ne 6, 3) := by decide +kernel
theorem dX1_howManySure_46 : decode cX1_howManySure 46 = .ok (.iinc 3 1, 3) := by decide +kernel
theorem dX1_howManySure_49 : decode cX1_howManySure 49 = .ok (.iinc 4 1, 3) := by decide +kernel
theorem dX1_howManySure_52 : decode cX1_howManySure 52 = .ok (.goto (-47), 3) := by decide +kernel
theorem dX1_howManySure_55 : decode cX1_howManySure 55 = .ok (.iload_n 3, 1) := by decide +kernel
theorem dX1_howManySure_56 : decode cX1_howManySure 56 = .ok (.ireturn, 1) := by decide +kernel
theorem dX1_isListed_0 : decode cX1_isListed 0 = .ok (.iconst 0, 1) := by decide +kernel
theorem dX1_isListed_1 : decode cX1_isListed 1 = .ok (.istore_n 2, 1) := by decide +kernel
theorem dX1_isListed_2 : decode cX1_isListed 2 = .ok (.iconst 0, 1) := by decide +kernel
theorem dX1_isListed_3 : decode cX1_isListed 3 = .ok (.istore_n 3, 1) := by decide +kernel
theorem dX1_isListed_4 : decode cX1_isListed 4 = .ok (.iload_n 3, 1) := by decide +kernel
theorem dX1_isListed_5 : decode cX1_isListed 5 = .ok (.aload_n 0, 1) := by decide +kernel
theorem dX1_isListed_6 : decode cX1_isListed 6 = .ok (.getfield 25, 3) := by decide +kernel
theorem dX1_isListed_9 : decode cX1_isListed 9 = .ok (.if_icmp .ge 64, 3) := by decide +kernel
theorem dX1_isListed_12 : decode cX1_isListed 12 = .ok (.aload_n 0, 1) := by decide +kernel
theorem dX1_isListed_13 : decode cX1_isListed 13 = .ok (.getfield 21, 3) := by decide +kernel
theorem dX1_isListed_16 : decode cX1_isListed 16 = .ok (.iload_n 3, 1) := by decide +kernel
theorem dX1_isListed_17 : decode cX1_isListed 17 = .ok (.baload, 1) := by decide +kernel
theorem dX1_isListed_18 : decode cX1_isListed 18 = .ok (.ifCond .eq 49, 3) := by decide +kernel
theorem dX1_isListed_21 : decode cX1_isListed 21 = .ok (.aload_n 0, 1) := by decide +kernel
theorem dX1_isListed_22 : decode cX1_isListed 22 = .ok (.getfield 15, 3) := by decide +kernel
theorem dX1_isListed_25 : decode cX1_isListed 25 = .ok (.iload_n 3, 1) := by decide +kernel
theorem dX1_isListed_26 : decode cX1_isListed 26 = .ok (.iaload, 1) := by decide +kernel
theorem dX1_isListed_27 : decode cX1_isListed 27 = .ok (.iload_n 1, 1) := by decide +kernel
theorem dX1_isListed_28 : decode cX1_isListed 28 = .ok (.if_icmp .ne 39, 3) := by decide +kernel
theorem dX1_isListed_31 : decode cX1_isListed 31 = .ok (.aload_n 0, 1) := by decide +kernel
theorem dX1_isListed_32 : decode cX1_isListed 32 = .ok (.getfield 9, 3) := by decide +kernel
theorem dX1_isListed_35 : decode cX1_isListed 35 = .ok (.iload_n 3, 1) := by decide +kernel
theorem dX1_isListed_36 : decode cX1_isListed 36 = .ok (.iaload, 1) := by decide +kernel
theorem dX1_isListed_37 : decode cX1_isListed 37 = .ok (.iconst 2, 1) := by decide +kernel
theorem dX1_isListed_38 : decode cX1_isListed 38 = .ok (.if_icmp .eq 13, 3) := by decide +kernel
theorem dX1_isListed_41 : decode cX1_isListed 41 = .ok (.aload_n 0, 1) := by decide +kernel
theorem dX1_isListed_42 : decode cX1_isListed 42 = .ok (.getfield 9, 3) := by decide +kernel
theorem dX1_isListed_45 : decode cX1_isListed 45 = .ok (.iload_n 3, 1) := by decide +kernel
theorem dX1_isListed_46 : decode cX1_isListed 46 = .ok (.iaload, 1) := by decide +kernel
theorem dX1_isListed_47 : decode cX1_isListed 47 = .ok (.iconst 3, 1) := by decide +kernel
theorem dX1_isListed_48 : decode cX1_isListed 48 = .ok (.if_icmp .ne 19, 3) := by decide +kernel
theorem dX1_isListed_51 : decode cX1_isListed 51 = .ok (.aload_n 0, 1) := by decide +kernel
theorem dX1_isListed_52 : decode cX1_isListed 52 = .ok (.getfield 9, 3) := by decide +kernel
theorem dX1_isListed_55 : decode cX1_isListed 55 = .ok (.iload_n 3, 1) := by decide +kernel
theorem dX1_isListed_56 : decode cX1_isListed 56 = .ok (.iaload, 1) := by decide +kernel
theorem dX1_isListed_57 : decode cX1_isListed 57 = .ok (.iconst 2, 1) := by decide +kernel
theorem dX1_isListed_58 : decode cX1_isListed 58 = .ok (.if_icmp .ne 7, 3) := by decide +kernel
theorem dX1_isListed_61 : decode cX1_isListed 61 = .ok (.iconst 1, 1) := by decide +kernel
theorem dX1_isListed_62 : decode cX1_isListed 62 = .ok (.goto 4, 3) := by decide +kernel
theorem dX1_isListed_65 : decode cX1_isListed 65 = .ok (.iconst 0, 1) := by decide +kernel
theorem dX1_isListed_66 : decode cX1_isListed 66 = .ok (.istore_n 2, 1) := by decide +kernel
theorem dX1_isListed_67 : decode cX1_isListed 67 = .ok (.iinc 3 1, 3) := by decide +kernel
theorem dX1_isListed_70 : decode cX1_isListed 70 = .ok (.goto (-66), 3) := by decide +kernel
theorem dX1_isListed_73 : decode cX1_isListed 73 = .ok (.iload_n 2, 1) := by decide +kernel
theorem dX1_isListed_74 : decode cX1_isListed 74 = .ok (.ireturn, 1) := by decide +kernel
theorem dX1_unlikeTries_0 : decode cX1_unlikeTries 0 = .ok (.lconst 0, 1) := by decide +kernel
theorem dX1_unlikeTries_1 : decode cX1_unlikeTries 1 = .ok (.lstore_n 1, 1) := by decide +kernel
theorem dX1_unlikeTries_2 : decode cX1_unlikeTries 2 = .ok (.iconst 0, 1) := by decide +kernel
theorem dX1_unlikeTries_3 : decode cX1_unlikeTries 3 = .ok (.istore_n 3, 1) := by decide +kernel
theorem dX1_unlikeTries_4 : decode cX1_unlikeTries 4 = .ok (.iload_n 3, 1) := by decide +kernel
theorem dX1_unlikeTries_5 : decode cX1_unlikeTries 5 = .ok (.aload_n 0, 1) := by decide +kernel
theorem dX1_unlikeTries_6 : decode cX1_unlikeTries 6 = .ok (.getfield 25, 3) := by decide +kernel
theorem dX1_unlikeTries_9 : decode cX1_unlikeTries 9 = .ok (.if_icmp .ge 49, 3) := by decide +kernel
theorem dX1_unlikeTries_12 : decode cX1_unlikeTries 12 = .ok (.aload_n 0, 1) := by decide +kernel
theorem dX1_unlikeTries_13 : decode cX1_unlikeTries 13 = .ok (.getfield 21, 3) := by decide +kernel
theorem dX1_unlikeTries_16 : decode cX1_unlikeTries 16 = .ok (.iload_n 3, 1) := by decide +kernel
theorem dX1_unlikeTries_17 : decode cX1_unlikeTries 17 = .ok (.baload, 1) := by decide +kernel
theorem dX1_unlikeTries_18 : decode cX1_unlikeTries 18 = .ok (.ifCond .eq 34, 3) := by decide +kernel
theorem dX1_unlikeTries_21 : decode cX1_unlikeTries 21 = .ok (.aload_n 0, 1) := by decide +kernel
theorem dX1_unlikeTries_22 : decode cX1_unlikeTries 22 = .ok (.getfield 9, 3) := by decide +kernel
theorem dX1_unlikeTries_25 : decode cX1_unlikeTries 25 = .ok (.iload_n 3, 1) := by decide +kernel
theorem dX1_unlikeTries_26 : decode cX1_unlikeTries 26 = .ok (.iaload, 1) := by decide +kernel
theorem dX1_unlikeTries_27 : decode cX1_unlikeTries 27 = .ok (.iconst 4, 1) := by decide +kernel
theorem dX1_unlikeTries_28 : decode cX1_unlikeTries 28 = .ok (.if_icmp .ne 24, 3) := by decide +kernel
theorem dX1_unlikeTries_31 : decode cX1_unlikeTries 31 = .ok (.lload_n 1, 1) := by decide +kernel
theorem dX1_unlikeTries_32 : decode cX1_unlikeTries 32 = .ok (.lconst 1, 1) := by decide +kernel
theorem dX1_unlikeTries_33 : decode cX1_unlikeTries 33 = .ok (.aload_n 0, 1) := by decide +kernel
theorem dX1_unlikeTries_34 : decode cX1_unlikeTries 34 = .ok (.getfield 15, 3) := by decide +kernel
theorem dX1_unlikeTries_37 : decode cX1_unlikeTries 37 = .ok (.iload_n 3, 1) := by decide +kernel
theorem dX1_unlikeTries_38 : decode cX1_unlikeTries 38 = .ok (.iaload, 1) := by decide +kernel
theorem dX1_unlikeTries_39 : decode cX1_unlikeTries 39 = .ok (.bipush 10, 2) := by decide +kernel
theorem dX1_unlikeTries_41 : decode cX1_unlikeTries 41 = .ok (.imul, 1) := by decide +kernel
theorem dX1_unlikeTries_42 : decode cX1_unlikeTries 42 = .ok (.aload_n 0, 1) := by decide +kernel
theorem dX1_unlikeTries_43 : decode cX1_unlikeTries 43 = .ok (.getfield 18, 3) := by decide +kernel
theorem dX1_unlikeTries_46 : decode cX1_unlikeTries 46 = .ok (.iload_n 3, 1) := by decide +kernel
theorem dX1_unlikeTries_47 : decode cX1_unlikeTries 47 = .ok (.iaload, 1) := by decide +kernel
theorem dX1_unlikeTries_48 : decode cX1_unlikeTries 48 = .ok (.iadd, 1) := by decide +kernel
theorem dX1_unlikeTries_49 : decode cX1_unlikeTries 49 = .ok (.lshl, 1) := by decide +kernel
theorem dX1_unlikeTries_50 : decode cX1_unlikeTries 50 = .ok (.lor, 1) := by decide +kernel
theorem dX1_unlikeTries_51 : decode cX1_unlikeTries 51 = .ok (.lstore_n 1, 1) := by decide +kernel
theorem dX1_unlikeTries_52 : decode cX1_unlikeTries 52 = .ok (.iinc 3 1, 3) := by decide +kernel
theorem dX1_unlikeTries_55 : decode cX1_unlikeTries 55 = .ok (.goto (-51), 3) := by decide +kernel
theorem dX1_unlikeTries_58 : decode cX1_unlikeTries 58 = .ok (.lload_n 1, 1) := by decide +kernel
theorem dX1_unlikeTries_59 : decode cX1_unlikeTries 59 = .ok (.invokestatic 33, 3) := by decide +kernel
theorem dX1_unlikeTries_62 : decode cX1_unlikeTries 62 = .ok (.ireturn, 1) := by decide +kernel
theorem dX2_init_0 : decode cX2_init 0 = .ok (.aload_n 0, 1) := by decide +kernel
theorem dX2_init_1 : decode cX2_init 1 = .ok (.invokespecial 3, 3) := by decide +kernel
theorem dX2_init_4 : decode cX2_init 4 = .ok (.aload_n 0, 1) := by decide +kernel
theorem dX2_init_5 : decode cX2_init 5 = .ok (.sipush 240, 3) := by decide +kernel
theorem dX2_init_8 : decode cX2_init 8 = .ok (.newarray .int, 2) := by decide +kernel
theorem dX2_init_10 : decode cX2_init 10 = .ok (.putfield 9, 3) := by decide +kernel
theorem dX2_init_13 : decode cX2_init 13 = .ok (.aload_n 0, 1) := by decide +kernel
theorem dX2_init_14 : decode cX2_init 14 = .ok (.iconst 0, 1) := by decide +kernel
theorem dX2_init_15 : decode cX2_init 15 = .ok (.putfield 15, 3) := by decide +kernel
theorem dX2_init_18 : decode cX2_init 18 = .ok (.return_, 1) := by decide +kernel
theorem dX2_has_0 : decode cX2_has 0 = .ok (.iload_n 1, 1) := by decide +kernel
theorem dX2_has_1 : decode cX2_has 1 = .ok (.ifCond .lt 15, 3) := by decide +kernel
theorem dX2_has_4 : decode cX2_has 4 = .ok (.iload_n 1, 1) := by decide +kernel
theorem dX2_has_5 : decode cX2_has 5 = .ok (.aload_n 0, 1) := by decide +kernel
theorem dX2_has_6 : decode cX2_has 6 = .ok (.getfield 15, 3) := by decide +kernel
theorem dX2_has_9 : decode cX2_has 9 = .ok (.if_icmp .ge 7, 3) := by decide +kernel
theorem dX2_has_12 : decode cX2_has 12 = .ok (.iconst 1, 1) := by decide +kernel
theorem dX2_has_13 : decode cX2_has 13 = .ok (.goto 4, 3) := by decide +kernel
theorem dX2_has_16 : decode cX2_has 16 = .ok (.iconst 0, 1) := by decide +kernel
theorem dX2_has_17 : decode cX2_has 17 = .ok (.ireturn, 1) := by decide +kernel
theorem dX2_trait_0 : decode cX2_trait 0 = .ok (.iload_n 1, 1) := by decide +kernel
theorem dX2_trait_1 : decode cX2_trait 1 = .ok (.iconst 0, 1) := by decide +kernel
theorem dX2_trait_2 : decode cX2_trait 2 = .ok (.bipush 19, 2) := by decide +kernel
theorem dX2_trait_4 : decode cX2_trait 4 = .ok (.invokestatic 19, 3) := by decide +kernel
theorem dX2_trait_7 : decode cX2_trait 7 = .ok (.ifCond .eq 27, 3) := by decide +kernel
theorem dX2_trait_10 : decode cX2_trait 10 = .ok (.iload_n 2, 1) := by decide +kernel
theorem dX2_trait_11 : decode cX2_trait 11 = .ok (.iconst 0, 1) := by decide +kernel
theorem dX2_trait_12 : decode cX2_trait 12 = .ok (.bipush 11, 2) := by decide +kernel
theorem dX2_trait_14 : decode cX2_trait 14 = .ok (.invokestatic 19, 3) := by decide +kernel
theorem dX2_trait_17 : decode cX2_trait 17 = .ok (.ifCond .eq 17, 3) := by decide +kernel
theorem dX2_trait_20 : decode cX2_trait 20 = .ok (.aload_n 0, 1) := by decide +kernel
theorem dX2_trait_21 : decode cX2_trait 21 = .ok (.getfield 9, 3) := by decide +kernel
theorem dX2_trait_24 : decode cX2_trait 24 = .ok (.iload_n 1, 1) := by decide +kernel
theorem dX2_trait_25 : decode cX2_trait 25 = .ok (.bipush 12, 2) := by decide +kernel
theorem dX2_trait_27 : decode cX2_trait 27 = .ok (.imul, 1) := by decide +kernel
theorem dX2_trait_28 : decode cX2_trait 28 = .ok (.iload_n 2, 1) := by decide +kernel
theorem dX2_trait_29 : decode cX2_trait 29 = .ok (.iadd, 1) := by decide +kernel
theorem dX2_trait_30 : decode cX2_trait 30 = .ok (.iaload, 1) := by decide +kernel
theorem dX2_trait_31 : decode cX2_trait 31 = .ok (.goto 4, 3) := by decide +kernel
theorem dX2_trait_34 : decode cX2_trait 34 = .ok (.iconst 0, 1) := by decide +kernel
theorem dX2_trait_35 : decode cX2_trait 35 = .ok (.ireturn, 1) := by decide +kernel
theorem dX2_setTrait_0 : decode cX2_setTrait 0 = .ok (.iload_n 1, 1) := by decide +kernel
theorem dX2_setTrait_1 : decode cX2_setTrait 1 = .ok (.iconst 0, 1) := by decide +kernel
theorem dX2_setTrait_2 : decode cX2_setTrait 2 = .ok (.bipush 19, 2) := by decide +kernel
theorem dX2_setTrait_4 : decode cX2_setTrait 4 = .ok (.invokestatic 19, 3) := by decide +kernel
theorem dX2_setTrait_7 : decode cX2_setTrait 7 = .ok (.ifCond .eq 25, 3) := by decide +kernel
theorem dX2_setTrait_10 : decode cX2_setTrait 10 = .ok (.iload_n 2, 1) := by decide +kernel
theorem dX2_setTrait_11 : decode cX2_setTrait 11 = .ok (.iconst 0, 1) := by decide +kernel
theorem dX2_setTrait_12 : decode cX2_setTrait 12 = .ok (.bipush 11, 2) := by decide +kernel
theorem dX2_setTrait_14 : decode cX2_setTrait 14 = .ok (.invokestatic 19, 3) := by decide +kernel
theorem dX2_setTrait_17 : decode cX2_setTrait 17 = .ok (.ifCond .eq 15, 3) := by decide +kernel
theorem dX2_setTrait_20 : decode cX2_setTrait 20 = .ok (.aload_n 0, 1) := by decide +kernel
theorem dX2_setTrait_21 : decode cX2_setTrait 21 = .ok (.getfield 9, 3) := by decide +kernel
theorem dX2_setTrait_24 : decode cX2_setTrait 24 = .ok (.iload_n 1, 1) := by decide +kernel
theorem dX2_setTrait_25 : decode cX2_setTrait 25 = .ok (.bipush 12, 2) := by decide +kernel
theorem dX2_setTrait_27 : decode cX2_setTrait 27 = .ok (.imul, 1) := by decide +kernel
theorem dX2_setTrait_28 : decode cX2_setTrait 28 = .ok (.iload_n 2, 1) := by decide +kernel
theorem dX2_setTrait_29 : decode cX2_setTrait 29 = .ok (.iadd, 1) := by decide +kernel
theorem dX2_setTrait_30 : decode cX2_setTrait 30 = .ok (.iload_n 3, 1) := by decide +kernel
theorem dX2_setTrait_31 : decode cX2_setTrait 31 = .ok (.iastore, 1) := by decide +kernel
theorem dX2_setTrait_32 : decode cX2_setTrait 32 = .ok (.return_, 1) := by decide +kernel
theorem dX2_setWays_0 : decode cX2_setWays 0 = .ok (.iload_n 2, 1) := by decide +kernel
theorem dX2_setWays_1 : decode cX2_setWays 1 = .ok (.istore_n 3, 1) := by decide +kernel
theorem dX2_setWays_2 : decode cX2_setWays 2 = .ok (.iconst 0, 1) := by decide +kernel
theorem dX2_setWays_3 : decode cX2_setWays 3 = .ok (.istore 4, 2) := by decide +kernel
theorem dX2_setWays_5 : decode cX2_setWays 5 = .ok (.iload 4, 2) := by decide +kernel
theorem dX2_setWays_7 : decode cX2_setWays 7 = .ok (.bipush 8, 2) := by decide +kernel
theorem dX2_setWays_9 : decode cX2_setWays 9 = .ok (.if_icmp .ge 27, 3) := by decide +kernel
theorem dX2_setWays_12 : decode cX2_setWays 12 = .ok (.aload_n 0, 1) := by decide +kernel
theorem dX2_setWays_13 : decode cX2_setWays 13 = .ok (.iload_n 1, 1) := by decide +kernel
theorem dX2_setWays_14 : decode cX2_setWays 14 = .ok (.iconst 4, 1) := by decide +kernel
theorem dX2_setWays_15 : decode cX2_setWays 15 = .ok (.iload 4, 2) := by decide +kernel
theorem dX2_setWays_17 : decode cX2_setWays 17 = .ok (.iadd, 1) := by decide +kernel
theorem dX2_setWays_18 : decode cX2_setWays 18 = .ok (.iload_n 3, 1) := by decide +kernel
theorem dX2_setWays_19 : decode cX2_setWays 19 = .ok (.bipush 10, 2) := by decide +kernel
theorem dX2_setWays_21 : decode cX2_setWays 21 = .ok (.irem, 1) := by decide +kernel
theorem dX2_setWays_22 : decode cX2_setWays 22 = .ok (.invokevirtual 23, 3) := by decide +kernel
theorem dX2_setWays_25 : decode cX2_setWays 25 = .ok (.iload_n 3, 1) := by decide +kernel
theorem dX2_setWays_26 : decode cX2_setWays 26 = .ok (.bipush 10, 2) := by decide +kernel
theorem dX2_setWays_28 : decode cX2_setWays 28 = .ok (.idiv, 1) := by decide +kernel
theorem dX2_setWays_29 : decode cX2_setWays 29 = .ok (.istore_n 3, 1) := by decide +kernel
theorem dX2_setWays_30 : decode cX2_setWays 30 = .ok (.iinc 4 1, 3) := by decide +kernel
theorem dX2_setWays_33 : decode cX2_setWays 33 = .ok (.goto (-28), 3) := by decide +kernel
theorem dX2_setWays_36 : decode cX2_setWays 36 = .ok (.return_, 1) := by decide +kernel
theorem dX2_draw_0 : decode cX2_draw 0 = .ok (.iconst 0, 1) := by decide +kernel
theorem dX2_draw_1 : decode cX2_draw 1 = .ok (.istore_n 3, 1) := by decide +kernel
theorem dX2_draw_2 : decode cX2_draw 2 = .ok (.iload_n 3, 1) := by decide +kernel
theorem dX2_draw_3 : decode cX2_draw 3 = .ok (.bipush 12, 2) := by decide +kernel
theorem dX2_draw_5 : decode cX2_draw 5 = .ok (.if_icmp .ge 30, 3) := by decide +kernel
theorem dX2_draw_8 : decode cX2_draw 8 = .ok (.aload_n 0, 1) := by decide +kernel
theorem dX2_draw_9 : decode cX2_draw 9 = .ok (.iload_n 1, 1) := by decide +kernel
theorem dX2_draw_10 : decode cX2_draw 10 = .ok (.iload_n 3, 1) := by decide +kernel
theorem dX2_draw_11 : decode cX2_draw 11 = .ok (.getstatic 27, 3) := by decide +kernel
theorem dX2_draw_14 : decode cX2_draw 14 = .ok (.iload_n 3, 1) := by decide +kernel
theorem dX2_draw_15 : decode cX2_draw 15 = .ok (.iaload, 1) := by decide +kernel
theorem dX2_draw_16 : decode cX2_draw 16 = .ok (.iload_n 2, 1) := by decide +kernel
theorem dX2_draw_17 : decode cX2_draw 17 = .ok (.bipush 20, 2) := by decide +kernel
theorem dX2_draw_19 : decode cX2_draw 19 = .ok (.iload_n 1, 1) := by decide +kernel
theorem dX2_draw_20 : decode cX2_draw 20 = .ok (.imul, 1) := by decide +kernel
theorem dX2_draw_21 : decode cX2_draw 21 = .ok (.iload_n 3, 1) := by decide +kernel
theorem dX2_draw_22 : decode cX2_draw 22 = .ok (.iadd, 1) := by decide +kernel
theorem dX2_draw_23 : decode cX2_draw 23 = .ok (.invokestatic 30, 3) := by decide +kernel
theorem dX2_draw_26 : decode cX2_draw 26 = .ok (.invokevirtual 23, 3) := by decide +kernel
theorem dX2_draw_29 : decode cX2_draw 29 = .ok (.iinc 3 1, 3) := by decide +kernel
theorem dX2_draw_32 : decode cX2_draw 32 = .ok (.goto (-30), 3) := by decide +kernel
theorem dX2_draw_35 : decode cX2_draw 35 = .ok (.return_, 1) := by decide +kernel
theorem dX2_classOf_0 : decode cX2_classOf 0 = .ok (.iload_n 2, 1) := by decide +kernel
theorem dX2_classOf_1 : decode cX2_classOf 1 = .ok (.ifCond .ne 12, 3) := by decide +kernel
theorem dX2_classOf_4 : decode cX2_classOf 4 = .ok (.aload_n 0, 1) := by decide +kernel
theorem dX2_classOf_5 : decode cX2_classOf 5 = .ok (.iload_n 1, 1) := by decide +kernel
theorem dX2_classOf_6 : decode cX2_classOf 6 = .ok (.iconst 1, 1) := by decide +kernel
theorem dX2_classOf_7 : decode cX2_classOf 7 = .ok (.invokevirtual 34, 3) := by decide +kernel
theorem dX2_classOf_10 : decode cX2_classOf 10 = .ok (.iconst 3, 1) := by decide +kernel
theorem dX2_classOf_11 : decode cX2_classOf 11 = .ok (.idiv, 1) := by decide +kernel
theorem dX2_classOf_12 : decode cX2_classOf 12 = .ok (.ireturn, 1) := by decide +kernel
theorem dX2_classOf_13 : decode cX2_classOf 13 = .ok (.aload_n 0, 1) := by decide +kernel
theorem dX2_classOf_14 : decode cX2_classOf 14 = .ok (.iload_n 1, 1) := by decide +kernel
theorem dX2_classOf_15 : decode cX2_classOf 15 = .ok (.iload_n 2, 1) := by decide +kernel
theorem dX2_classOf_16 : decode cX2_classOf 16 = .ok (.iconst 1, 1) := by decide +kernel
theorem dX2_classOf_17 : decode cX2_classOf 17 = .ok (.if_icmp .ne 7, 3) := by decide +kernel
theorem dX2_classOf_20 : decode cX2_classOf 20 = .ok (.iconst 2, 1) := by decide +kernel
theorem dX2_classOf_21 : decode cX2_classOf 21 = .ok (.goto 4, 3) := by decide +kernel
theorem dX2_classOf_24 : decode cX2_classOf 24 = .ok (.iconst 3, 1) := by decide +kernel
theorem dX2_classOf_25 : decode cX2_classOf 25 = .ok (.invokevirtual 34, 3) := by decide +kernel
theorem dX2_classOf_28 : decode cX2_classOf 28 = .ok (.ireturn, 1) := by decide +kernel
theorem dX2_firstGiven_0 : decode cX2_firstGiven 0 = .ok (.aload_n 0, 1) := by decide +kernel
theorem dX2_firstGiven_1 : decode cX2_firstGiven 1 = .ok (.aload_n 0, 1) := by decide +kernel
theorem dX2_firstGiven_2 : decode cX2_firstGiven 2 = .ok (.getfield 15, 3) := by decide +kernel
theorem dX2_firstGiven_5 : decode cX2_firstGiven 5 = .ok (.iconst 1, 1) := by decide +kernel
theorem dX2_firstGiven_6 : decode cX2_firstGiven 6 = .ok (.isub, 1) := by decide +kernel
theorem dX2_firstGiven_7 : decode cX2_firstGiven 7 = .ok (.iload_n 2, 1) := by decide +kernel
theorem dX2_firstGiven_8 : decode cX2_firstGiven 8 = .ok (.iconst 2, 1) := by decide +kernel
theorem dX2_firstGiven_9 : decode cX2_firstGiven 9 = .ok (.iload_n 1, 1) := by decide +kernel
theorem dX2_firstGiven_10 : decode cX2_firstGiven 10 = .ok (.imul, 1) := by decide +kernel
theorem dX2_firstGiven_11 : decode cX2_firstGiven 11 = .ok (.invokestatic 30, 3) := by decide +kernel
theorem dX2_firstGiven_14 : decode cX2_firstGiven 14 = .ok (.iload_n 1, 1) := by decide +kernel
theorem dX2_firstGiven_15 : decode cX2_firstGiven 15 = .ok (.iload_n 1, 1) := by decide +kernel
theorem dX2_firstGiven_16 : decode cX2_firstGiven 16 = .ok (.invokevirtual 38, 3) := by decide +kernel
theorem dX2_firstGiven_19 : decode cX2_firstGiven 19 = .ok (.ireturn, 1) := by decide +kernel
theorem dX2_secondGiven_0 : decode cX2_secondGiven 0 = .ok (.aload_n 0, 1) := by decide +kernel
theorem dX2_secondGiven_1 : decode cX2_secondGiven 1 = .ok (.aload_n 0, 1) := by decide +kernel
theorem dX2_secondGiven_2 : decode cX2_secondGiven 2 = .ok (.getfield 15, 3) := by decide +kernel
theorem dX2_secondGiven_5 : decode cX2_secondGiven 5 = .ok (.iconst 2, 1) := by decide +kernel
theorem dX2_secondGiven_6 : decode cX2_secondGiven 6 = .ok (.isub, 1) := by decide +kernel
theorem dX2_secondGiven_7 : decode cX2_secondGiven 7 = .ok (.iload_n 3, 1) := by decide +kernel
theorem dX2_secondGiven_8 : decode cX2_secondGiven 8 = .ok (.iconst 2, 1) := by decide +kernel
theorem dX2_secondGiven_9 : decode cX2_secondGiven 9 = .ok (.iload_n 1, 1) := by decide +kernel
theorem dX2_secondGiven_10 : decode cX2_secondGiven 10 = .ok (.imul, 1) := by decide +kernel
theorem dX2_secondGiven_11 : decode cX2_secondGiven 11 = .ok (.iconst 1, 1) := by decide +kernel
theorem dX2_secondGiven_12 : decode cX2_secondGiven 12 = .ok (.iadd, 1) := by decide +kernel
theorem dX2_secondGiven_13 : decode cX2_secondGiven 13 = .ok (.invokestatic 30, 3) := by decide +kernel
theorem dX2_secondGiven_16 : decode cX2_secondGiven 16 = .ok (.iload_n 1, 1) := by decide +kernel
theorem dX2_secondGiven_17 : decode cX2_secondGiven 17 = .ok (.iload_n 2, 1) := by decide +kernel
theorem dX2_secondGiven_18 : decode cX2_secondGiven 18 = .ok (.invokevirtual 38, 3) := by decide +kernel
theorem dX2_secondGiven_21 : decode cX2_secondGiven 21 = .ok (.ireturn, 1) := by decide +kernel
theorem dX2_nthOther_0 : decode cX2_nthOther 0 = .ok (.iconst 0, 1) := by decide +kernel
theorem dX2_nthOther_1 : decode cX2_nthOther 1 = .ok (.istore 4, 2) := by decide +kernel
theorem dX2_nthOther_3 : decode cX2_nthOther 3 = .ok (.iconst 0, 1) := by decide +kernel
theorem dX2_nthOther_4 : decode cX2_nthOther 4 = .ok (.istore 5, 2) := by decide +kernel
theorem dX2_nthOther_6 : decode cX2_nthOther 6 = .ok (.iload 5, 2) := by decide +kernel
theorem dX2_nthOther_8 : decode cX2_nthOther 8 = .ok (.aload_n 0, 1) := by decide +kernel
theorem dX2_nthOther_9 : decode cX2_nthOther 9 = .ok (.getfield 15, 3) := by decide +kernel
theorem dX2_nthOther_12 : decode cX2_nthOther 12 = .ok (.if_icmp .ge 33, 3) := by decide +kernel
theorem dX2_nthOther_15 : decode cX2_nthOther 15 = .ok (.iload 5, 2) := by decide +kernel
theorem dX2_nthOther_17 : decode cX2_nthOther 17 = .ok (.iload_n 2, 1) := by decide +kernel
theorem dX2_nthOther_18 : decode cX2_nthOther 18 = .ok (.if_icmp .eq 21, 3) := by decide +kernel
theorem dX2_nthOther_21 : decode cX2_nthOther 21 = .ok (.iload 5, 2) := by decide +kernel
theorem dX2_nthOther_23 : decode cX2_nthOther 23 = .ok (.iload_n 3, 1) := by decide +kernel
theorem dX2_nthOther_24 : decode cX2_nthOther 24 = .ok (.if_icmp .eq 15, 3) := by decide +kernel
theorem dX2_nthOther_27 : decode cX2_nthOther 27 = .ok (.iload 4, 2) := by decide +kernel
theorem dX2_nthOther_29 : decode cX2_nthOther 29 = .ok (.iload_n 1, 1) := by decide +kernel
theorem dX2_nthOther_30 : decode cX2_nthOther 30 = .ok (.if_icmp .ne 6, 3) := by decide +kernel
theorem dX2_nthOther_33 : decode cX2_nthOther 33 = .ok (.iload 5, 2) := by decide +kernel
theorem dX2_nthOther_35 : decode cX2_nthOther 35 = .ok (.ireturn, 1) := by decide +kernel
theorem dX2_nthOther_36 : decode cX2_nthOther 36 = .ok (.iinc 4 1, 3) := by decide +kernel
theorem dX2_nthOther_39 : decode cX2_nthOther 39 = .ok (.iinc 5 1, 3) := by decide +kernel
theorem dX2_nthOther_42 : decode cX2_nthOther 42 = .ok (.goto (-36), 3) := by decide +kernel
theorem dX2_nthOther_45 : decode cX2_nthOther 45 = .ok (.iconst 0, 1) := by decide +kernel
theorem dX2_nthOther_46 : decode cX2_nthOther 46 = .ok (.ireturn, 1) := by decide +kernel
theorem dX2_lot_0 : decode cX2_lot 0 = .ok (.iload_n 0, 1) := by decide +kernel
theorem dX2_lot_1 : decode cX2_lot 1 = .ok (.iconst 1, 1) := by decide +kernel
theorem dX2_lot_2 : decode cX2_lot 2 = .ok (.if_icmp .ge 5, 3) := by decide +kernel
theorem dX2_lot_5 : decode cX2_lot 5 = .ok (.iconst 0, 1) := by decide +kernel
theorem dX2_lot_6 : decode cX2_lot 6 = .ok (.ireturn, 1) := by decide +kernel
theorem dX2_lot_7 : decode cX2_lot 7 = .ok (.iload_n 1, 1) := by decide +kernel
theorem dX2_lot_8 : decode cX2_lot 8 = .ok (.bipush 7, 2) := by decide +kernel
theorem dX2_lot_10 : decode cX2_lot 10 = .ok (.invokestatic 41, 3) := by decide +kernel
theorem dX2_lot_13 : decode cX2_lot 13 = .ok (.iload_n 2, 1) := by decide +kernel
theorem dX2_lot_14 : decode cX2_lot 14 = .ok (.invokestatic 41, 3) := by decide +kernel
theorem dX2_lot_17 : decode cX2_lot 17 = .ok (.istore_n 3, 1) := by decide +kernel
theorem dX2_lot_18 : decode cX2_lot 18 = .ok (.iload_n 3, 1) := by decide +kernel
theorem dX2_lot_19 : decode cX2_lot 19 = .ok (.iconst 1, 1) := by decide +kernel
theorem dX2_lot_20 : decode cX2_lot 20 = .ok (.iushr, 1) := by decide +kernel
theorem dX2_lot_21 : decode cX2_lot 21 = .ok (.iload_n 0, 1) := by decide +kernel
theorem dX2_lot_22 : decode cX2_lot 22 = .ok (.irem, 1) := by decide +kernel
theorem dX2_lot_23 : decode cX2_lot 23 = .ok (.ireturn, 1) := by decide +kernel
theorem dX2_mix_0 : decode cX2_mix 0 = .ok (.iload_n 0, 1) := by decide +kernel
theorem dX2_mix_1 : decode cX2_mix 1 = .ok (.iload_n 1, 1) := by decide +kernel
theorem dX2_mix_2 : decode cX2_mix 2 = .ok (.ixor, 1) := by decide +kernel
theorem dX2_mix_3 : decode cX2_mix 3 = .ok (.ldc 44, 2) := by decide +kernel
theorem dX2_mix_5 : decode cX2_mix 5 = .ok (.imul, 1) := by decide +kernel
theorem dX2_mix_6 : decode cX2_mix 6 = .ok (.sipush 12345, 3) := by decide +kernel
theorem dX2_mix_9 : decode cX2_mix 9 = .ok (.iadd, 1) := by decide +kernel
theorem dX2_mix_10 : decode cX2_mix 10 = .ok (.istore_n 2, 1) := by decide +kernel
theorem dX2_mix_11 : decode cX2_mix 11 = .ok (.iload_n 2, 1) := by decide +kernel
theorem dX2_mix_12 : decode cX2_mix 12 = .ok (.iload_n 2, 1) := by decide +kernel
theorem dX2_mix_13 : decode cX2_mix 13 = .ok (.bipush 15, 2) := by decide +kernel
theorem dX2_mix_15 : decode cX2_mix 15 = .ok (.iushr, 1) := by decide +kernel
theorem dX2_mix_16 : decode cX2_mix 16 = .ok (.ixor, 1) := by decide +kernel
theorem dX2_mix_17 : decode cX2_mix 17 = .ok (.ireturn, 1) := by decide +kernel
theorem dX3_init_0 : decode cX3_init 0 = .ok (.aload_n 0, 1) := by decide +kernel
theorem dX3_init_1 : decode cX3_init 1 = .ok (.invokespecial 3, 3) := by decide +kernel
theorem dX3_init_4 : decode cX3_init 4 = .ok (.aload_n 0, 1) := by decide +kernel
theorem dX3_init_5 : decode cX3_init 5 = .ok (.bipush 21, 2) := by decide +kernel
theorem dX3_init_7 : decode cX3_init 7 = .ok (.newarray .int, 2) := by decide +kernel
theorem dX3_init_9 : decode cX3_init 9 = .ok (.putfield 9, 3) := by decide +kernel
theorem dX3_init_12 : decode cX3_init 12 = .ok (.aload_n 0, 1) := by decide +kernel
theorem dX3_init_13 : decode cX3_init 13 = .ok (.bipush 40, 2) := by decide +kernel
theorem dX3_init_15 : decode cX3_init 15 = .ok (.newarray .int, 2) := by decide +kernel
theorem dX3_init_17 : decode cX3_init 17 = .ok (.putfield 15, 3) := by decide +kernel
theorem dX3_init_20 : decode cX3_init 20 = .ok (.aload_n 0, 1) := by decide +kernel
theorem dX3_init_21 : decode cX3_init 21 = .ok (.iconst 0, 1) := by decide +kernel
theorem dX3_init_22 : decode cX3_init 22 = .ok (.putfield 18, 3) := by decide +kernel
theorem dX3_init_25 : decode cX3_init 25 = .ok (.return_, 1) := by decide +kernel
theorem dX3_valueOf_0 : decode cX3_valueOf 0 = .ok (.aload_n 0, 1) := by decide +kernel
theorem dX3_valueOf_1 : decode cX3_valueOf 1 = .ok (.iconst 0, 1) := by decide +kernel
theorem dX3_valueOf_2 : decode cX3_valueOf 2 = .ok (.putfield 18, 3) := by decide +kernel
theorem dX3_valueOf_5 : decode cX3_valueOf 5 = .ok (.iload_n 2, 1) := by decide +kernel
theorem dX3_valueOf_6 : decode cX3_valueOf 6 = .ok (.iconst 0, 1) := by decide +kernel
theorem dX3_valueOf_7 : decode cX3_valueOf 7 = .ok (.bipush 25, 2) := by decide +kernel
theorem dX3_valueOf_9 : decode cX3_valueOf 9 = .ok (.invokestatic 24, 3) := by decide +kernel
theorem dX3_valueOf_12 : decode cX3_valueOf 12 = .ok (.ifCond .eq 59, 3) := by decide +kernel
theorem dX3_valueOf_15 : decode cX3_valueOf 15 = .ok (.aload_n 1, 1) := by decide +kernel
theorem dX3_valueOf_16 : decode cX3_valueOf 16 = .ok (.getfield 28, 3) := by decide +kernel
theorem dX3_valueOf_19 : decode cX3_valueOf 19 = .ok (.iload_n 2, 1) := by decide +kernel
theorem dX3_valueOf_20 : decode cX3_valueOf 20 = .ok (.iaload, 1) := by decide +kernel
theorem dX3_valueOf_21 : decode cX3_valueOf 21 = .ok (.aload_n 1, 1) := by decide +kernel
theorem dX3_valueOf_22 : decode cX3_valueOf 22 = .ok (.getfield 31, 3) := by decide +kernel
theorem dX3_valueOf_25 : decode cX3_valueOf 25 = .ok (.invokestatic 34, 3) := by decide +kernel
theorem dX3_valueOf_28 : decode cX3_valueOf 28 = .ok (.istore_n 3, 1) := by decide +kernel
theorem dX3_valueOf_29 : decode cX3_valueOf 29 = .ok (.aload_n 1, 1) := by decide +kernel
theorem dX3_valueOf_30 : decode cX3_valueOf 30 = .ok (.getfield 40, 3) := by decide +kernel
theorem dX3_valueOf_33 : decode cX3_valueOf 33 = .ok (.iload_n 2, 1) := by decide +kernel
theorem dX3_valueOf_34 : decode cX3_valueOf 34 = .ok (.iaload, 1) := by decide +kernel
theorem dX3_valueOf_35 : decode cX3_valueOf 35 = .ok (.iconst 0, 1) := by decide +kernel
theorem dX3_valueOf_36 : decode cX3_valueOf 36 = .ok (.invokestatic 43, 3) := by decide +kernel
theorem dX3_valueOf_39 : decode cX3_valueOf 39 = .ok (.istore 4, 2) := by decide +kernel
theorem dX3_valueOf_41 : decode cX3_valueOf 41 = .ok (.iload 4, 2) := by decide +kernel
theorem dX3_valueOf_43 : decode cX3_valueOf 43 = .ok (.iload_n 3, 1) := by decide +kernel
theorem dX3_valueOf_44 : decode cX3_valueOf 44 = .ok (.if_icmp .ge 27, 3) := by decide +kernel
theorem dX3_valueOf_47 : decode cX3_valueOf 47 = .ok (.aload_n 0, 1) := by decide +kernel
theorem dX3_valueOf_48 : decode cX3_valueOf 48 = .ok (.aload_n 1, 1) := by decide +kernel
theorem dX3_valueOf_49 : decode cX3_valueOf 49 = .ok (.getfield 46, 3) := by decide +kernel
theorem dX3_valueOf_52 : decode cX3_valueOf 52 = .ok (.iload 4, 2) := by decide +kernel
theorem dX3_valueOf_54 : decode cX3_valueOf 54 = .ok (.iaload, 1) := by decide +kernel
theorem dX3_valueOf_55 : decode cX3_valueOf 55 = .ok (.aload_n 1, 1) := by decide +kernel
theorem dX3_valueOf_56 : decode cX3_valueOf 56 = .ok (.getfield 49, 3) := by decide +kernel
theorem dX3_valueOf_59 : decode cX3_valueOf 59 = .ok (.iload 4, 2) := by decide +kernel
theorem dX3_valueOf_61 : decode cX3_valueOf 61 = .ok (.iaload, 1) := by decide +kernel
theorem dX3_valueOf_62 : decode cX3_valueOf 62 = .ok (.invokevirtual 52, 3) := by decide +kernel
theorem dX3_valueOf_65 : decode cX3_valueOf 65 = .ok (.iinc 4 1, 3) := by decide +kernel
theorem dX3_valueOf_68 : decode cX3_valueOf 68 = .ok (.goto (-27), 3) := by decide +kernel
theorem dX3_valueOf_71 : decode cX3_valueOf 71 = .ok (.aload_n 0, 1) := by decide +kernel
theorem dX3_valueOf_72 : decode cX3_valueOf 72 = .ok (.invokevirtual 56, 3) := by decide +kernel
theorem dX3_valueOf_75 : decode cX3_valueOf 75 = .ok (.ireturn, 1) := by decide +kernel
theorem dX3_step_0 : decode cX3_step 0 = .ok (.iload_n 1, 1) := by decide +kernel
theorem dX3_step_1 : decode cX3_step 1 = .ok (.bipush 24, 2) := by decide +kernel
theorem dX3_step_3 : decode cX3_step 3 = .ok (.if_icmp .ne 11, 3) := by decide +kernel
theorem dX3_step_6 : decode cX3_step 6 = .ok (.aload_n 0, 1) := by decide +kernel
theorem dX3_step_7 : decode cX3_step 7 = .ok (.iload_n 2, 1) := by decide +kernel
theorem dX3_step_8 : decode cX3_step 8 = .ok (.invokevirtual 60, 3) := by decide +kernel
theorem dX3_step_11 : decode cX3_step 11 = .ok (.goto 77, 3) := by decide +kernel
theorem dX3_step_14 : decode cX3_step 14 = .ok (.iload_n 1, 1) := by decide +kernel
theorem dX3_step_15 : decode cX3_step 15 = .ok (.bipush 9, 2) := by decide +kernel
theorem dX3_step_17 : decode cX3_step 17 = .ok (.if_icmp .ne 30, 3) := by decide +kernel
theorem dX3_step_20 : decode cX3_step 20 = .ok (.aload_n 0, 1) := by decide +kernel
theorem dX3_step_21 : decode cX3_step 21 = .ok (.iload_n 2, 1) := by decide +kernel
theorem dX3_step_22 : decode cX3_step 22 = .ok (.iconst 0, 1) := by decide +kernel
theorem dX3_step_23 : decode cX3_step 23 = .ok (.bipush 20, 2) := by decide +kernel
theorem dX3_step_25 : decode cX3_step 25 = .ok (.invokestatic 24, 3) := by decide +kernel
theorem dX3_step_28 : decode cX3_step 28 = .ok (.ifCond .eq 12, 3) := by decide +kernel
theorem dX3_step_31 : decode cX3_step 31 = .ok (.aload_n 0, 1) := by decide +kernel
theorem dX3_step_32 : decode cX3_step 32 = .ok (.getfield 9, 3) := by decide +kernel
theorem dX3_step_35 : decode cX3_step 35 = .ok (.iload_n 2, 1) := by decide +kernel
theorem dX3_step_36 : decode cX3_step 36 = .ok (.iaload, 1) := by decide +kernel
theorem dX3_step_37 : decode cX3_step 37 = .ok (.goto 4, 3) := by decide +kernel
theorem dX3_step_40 : decode cX3_step 40 = .ok (.iconst 0, 1) := by decide +kernel
theorem dX3_step_41 : decode cX3_step 41 = .ok (.invokevirtual 60, 3) := by decide +kernel
theorem dX3_step_44 : decode cX3_step 44 = .ok (.goto 44, 3) := by decide +kernel
theorem dX3_step_47 : decode cX3_step 47 = .ok (.iload_n 1, 1) := by decide +kernel
theorem dX3_step_48 : decode cX3_step 48 = .ok (.bipush 8, 2) := by decide +kernel
theorem dX3_step_50 : decode cX3_step 50 = .ok (.if_icmp .ne 16, 3) := by decide +kernel
theorem dX3_step_53 : decode cX3_step 53 = .ok (.aload_n 0, 1) := by decide +kernel
theorem dX3_step_54 : decode cX3_step 54 = .ok (.iconst 1, 1) := by decide +kernel
theorem dX3_step_55 : decode cX3_step 55 = .ok (.aload_n 0, 1) := by decide +kernel
theorem dX3_step_56 : decode cX3_step 56 = .ok (.invokevirtual 56, 3) := by decide +kernel
theorem dX3_step_59 : decode cX3_step 59 = .ok (.isub, 1) := by decide +kernel
theorem dX3_step_60 : decode cX3_step 60 = .ok (.invokevirtual 60, 3) := by decide +kernel
theorem dX3_step_63 : decode cX3_step 63 = .ok (.goto 25, 3) := by decide +kernel
theorem dX3_step_66 : decode cX3_step 66 = .ok (.aload_n 0, 1) := by decide +kernel
theorem dX3_step_67 : decode cX3_step 67 = .ok (.invokevirtual 56, 3) := by decide +kernel
theorem dX3_step_70 : decode cX3_step 70 = .ok (.istore_n 3, 1) := by decide +kernel
theorem dX3_step_71 : decode cX3_step 71 = .ok (.aload_n 0, 1) := by decide +kernel
theorem dX3_step_72 : decode cX3_step 72 = .ok (.invokevirtual 56, 3) := by decide +kernel
theorem dX3_step_75 : decode cX3_step 75 = .ok (.istore 4, 2) := by decide +kernel
theorem dX3_step_77 : decode cX3_step 77 = .ok (.aload_n 0, 1) := by decide +kernel
theorem dX3_step_78 : decode cX3_step 78 = .ok (.iload_n 1, 1) := by decide +kernel
theorem dX3_step_79 : decode cX3_step 79 = .ok (.iload 4, 2) := by decide +kernel
theorem dX3_step_81 : decode cX3_step 81 = .ok (.iload_n 3, 1) := by decide +kernel
theorem dX3_step_82 : decode cX3_step 82 = .ok (.invokestatic 64, 3) := by decide +kernel
theorem dX3_step_85 : decode cX3_step 85 = .ok (.invokevirtual 60, 3) := by decide +kernel
theorem dX3_step_88 : decode cX3_step 88 = .ok (.return_, 1) := by decide +kernel
theorem dX3_joined_0 : decode cX3_joined 0 = .ok (.iload_n 0, 1) := by decide +kernel
theorem dX3_joined_1 : decode cX3_joined 1 = .ok (.tableswitch 191 6 33 #[187, 183, 191, 191, 191, 191, 191, 191, 191, 191, 191, 191, 191, 191, 191, 191, 191, 191, 191, 191, 191, 127, 131, 135, 139, 150, 161, 172], 127) := by decide +kernel
theorem dX3_joined_128 : decode cX3_joined 128 = .ok (.iload_n 1, 1) := by decide +kernel
theorem dX3_joined_129 : decode cX3_joined 129 = .ok (.iload_n 2, 1) := by decide +kernel
theorem dX3_joined_130 : decode cX3_joined 130 = .ok (.iadd, 1) := by decide +kernel
theorem dX3_joined_131 : decode cX3_joined 131 = .ok (.ireturn, 1) := by decide +kernel
theorem dX3_joined_132 : decode cX3_joined 132 = .ok (.iload_n 1, 1) := by decide +kernel
theorem dX3_joined_133 : decode cX3_joined 133 = .ok (.iload_n 2, 1) := by decide +kernel
theorem dX3_joined_134 : decode cX3_joined 134 = .ok (.isub, 1) := by decide +kernel
theorem dX3_joined_135 : decode cX3_joined 135 = .ok (.ireturn, 1) := by decide +kernel
theorem dX3_joined_136 : decode cX3_joined 136 = .ok (.iload_n 1, 1) := by decide +kernel
theorem dX3_joined_137 : decode cX3_joined 137 = .ok (.iload_n 2, 1) := by decide +kernel
theorem dX3_joined_138 : decode cX3_joined 138 = .ok (.imul, 1) := by decide +kernel
theorem dX3_joined_139 : decode cX3_joined 139 = .ok (.ireturn, 1) := by decide +kernel
theorem dX3_joined_140 : decode cX3_joined 140 = .ok (.iload_n 1, 1) := by decide +kernel
theorem dX3_joined_141 : decode cX3_joined 141 = .ok (.iload_n 2, 1) := by decide +kernel
theorem dX3_joined_142 : decode cX3_joined 142 = .ok (.if_icmp .ne 7, 3) := by decide +kernel
theorem dX3_joined_145 : decode cX3_joined 145 = .ok (.iconst 1, 1) := by decide +kernel
theorem dX3_joined_146 : decode cX3_joined 146 = .ok (.goto 4, 3) := by decide +kernel
theorem dX3_joined_149 : decode cX3_joined 149 = .ok (.iconst 0, 1) := by decide +kernel
theorem dX3_joined_150 : decode cX3_joined 150 = .ok (.ireturn, 1) := by decide +kernel
theorem dX3_joined_151 : decode cX3_joined 151 = .ok (.iload_n 1, 1) := by decide +kernel
theorem dX3_joined_152 : decode cX3_joined 152 = .ok (.iload_n 2, 1) := by decide +kernel
theorem dX3_joined_153 : decode cX3_joined 153 = .ok (.if_icmp .eq 7, 3) := by decide +kernel
theorem dX3_joined_156 : decode cX3_joined 156 = .ok (.iconst 1, 1) := by decide +kernel
theorem dX3_joined_157 : decode cX3_joined 157 = .ok (.goto 4, 3) := by decide +kernel
theorem dX3_joined_160 : decode cX3_joined 160 = .ok (.iconst 0, 1) := by decide +kernel
theorem dX3_joined_161 : decode cX3_joined 161 = .ok (.ireturn, 1) := by decide +kernel
theorem dX3_joined_162 : decode cX3_joined 162 = .ok (.iload_n 1, 1) := by decide +kernel
theorem dX3_joined_163 : decode cX3_joined 163 = .ok (.iload_n 2, 1) := by decide +kernel
theorem dX3_joined_164 : decode cX3_joined 164 = .ok (.if_icmp .ge 7, 3) := by decide +kernel
theorem dX3_joined_167 : decode cX3_joined 167 = .ok (.iconst 1, 1) := by decide +kernel
theorem dX3_joined_168 : decode cX3_joined 168 = .ok (.goto 4, 3) := by decide +kernel
theorem dX3_joined_171 : decode cX3_joined 171 = .ok (.iconst 0, 1) := by decide +kernel
theorem dX3_joined_172 : decode cX3_joined 172 = .ok (.ireturn, 1) := by decide +kernel
theorem dX3_joined_173 : decode cX3_joined 173 = .ok (.iload_n 1, 1) := by decide +kernel
theorem dX3_joined_174 : decode cX3_joined 174 = .ok (.iload_n 2, 1) := by decide +kernel
theorem dX3_joined_175 : decode cX3_joined 175 = .ok (.if_icmp .gt 7, 3) := by decide +kernel
theorem dX3_joined_178 : decode cX3_joined 178 = .ok (.iconst 1, 1) := by decide +kernel
theorem dX3_joined_179 : decode cX3_joined 179 = .ok (.goto 4, 3) := by decide +kernel
theorem dX3_joined_182 : decode cX3_joined 182 = .ok (.iconst 0, 1) := by decide +kernel
theorem dX3_joined_183 : decode cX3_joined 183 = .ok (.ireturn, 1) := by decide +kernel
theorem dX3_joined_184 : decode cX3_joined 184 = .ok (.iload_n 1, 1) := by decide +kernel
theorem dX3_joined_185 : decode cX3_joined 185 = .ok (.iload_n 2, 1) := by decide +kernel
theorem dX3_joined_186 : decode cX3_joined 186 = .ok (.iand, 1) := by decide +kernel
theorem dX3_joined_187 : decode cX3_joined 187 = .ok (.ireturn, 1) := by decide +kernel
theorem dX3_joined_188 : decode cX3_joined 188 = .ok (.iload_n 1, 1) := by decide +kernel
theorem dX3_joined_189 : decode cX3_joined 189 = .ok (.iload_n 2, 1) := by decide +kernel
theorem dX3_joined_190 : decode cX3_joined 190 = .ok (.ior, 1) := by decide +kernel
theorem dX3_joined_191 : decode cX3_joined 191 = .ok (.ireturn, 1) := by decide +kernel
theorem dX3_joined_192 : decode cX3_joined 192 = .ok (.iconst 0, 1) := by decide +kernel
theorem dX3_joined_193 : decode cX3_joined 193 = .ok (.ireturn, 1) := by decide +kernel
theorem dX3_push_0 : decode cX3_push 0 = .ok (.aload_n 0, 1) := by decide +kernel
theorem dX3_push_1 : decode cX3_push 1 = .ok (.getfield 18, 3) := by decide +kernel
theorem dX3_push_4 : decode cX3_push 4 = .ok (.bipush 40, 2) := by decide +kernel
theorem dX3_push_6 : decode cX3_push 6 = .ok (.if_icmp .ge 23, 3) := by decide +kernel
theorem dX3_push_9 : decode cX3_push 9 = .ok (.aload_n 0, 1) := by decide +kernel
theorem dX3_push_10 : decode cX3_push 10 = .ok (.getfield 15, 3) := by decide +kernel
theorem dX3_push_13 : decode cX3_push 13 = .ok (.aload_n 0, 1) := by decide +kernel
theorem dX3_push_14 : decode cX3_push 14 = .ok (.getfield 18, 3) := by decide +kernel
theorem dX3_push_17 : decode cX3_push 17 = .ok (.iload_n 1, 1) := by decide +kernel
theorem dX3_push_18 : decode cX3_push 18 = .ok (.iastore, 1) := by decide +kernel
theorem dX3_push_19 : decode cX3_push 19 = .ok (.aload_n 0, 1) := by decide +kernel
theorem dX3_push_20 : decode cX3_push 20 = .ok (.dup, 1) := by decide +kernel
theorem dX3_push_21 : decode cX3_push 21 = .ok (.getfield 18, 3) := by decide +kernel
theorem dX3_push_24 : decode cX3_push 24 = .ok (.iconst 1, 1) := by decide +kernel
theorem dX3_push_25 : decode cX3_push 25 = .ok (.iadd, 1) := by decide +kernel
theorem dX3_push_26 : decode cX3_push 26 = .ok (.putfield 18, 3) := by decide +kernel
theorem dX3_push_29 : decode cX3_push 29 = .ok (.return_, 1) := by decide +kernel
theorem dX3_pop_0 : decode cX3_pop 0 = .ok (.aload_n 0, 1) := by decide +kernel
theorem dX3_pop_1 : decode cX3_pop 1 = .ok (.getfield 18, 3) := by decide +kernel
theorem dX3_pop_4 : decode cX3_pop 4 = .ok (.ifCond .gt 5, 3) := by decide +kernel
theorem dX3_pop_7 : decode cX3_pop 7 = .ok (.iconst 0, 1) := by decide +kernel
theorem dX3_pop_8 : decode cX3_pop 8 = .ok (.ireturn, 1) := by decide +kernel
theorem dX3_pop_9 : decode cX3_pop 9 = .ok (.aload_n 0, 1) := by decide +kernel
theorem dX3_pop_10 : decode cX3_pop 10 = .ok (.dup, 1) := by decide +kernel
theorem dX3_pop_11 : decode cX3_pop 11 = .ok (.getfield 18, 3) := by decide +kernel
theorem dX3_pop_14 : decode cX3_pop 14 = .ok (.iconst 1, 1) := by decide +kernel
theorem dX3_pop_15 : decode cX3_pop 15 = .ok (.isub, 1) := by decide +kernel
theorem dX3_pop_16 : decode cX3_pop 16 = .ok (.putfield 18, 3) := by decide +kernel
theorem dX3_pop_19 : decode cX3_pop 19 = .ok (.aload_n 0, 1) := by decide +kernel
theorem dX3_pop_20 : decode cX3_pop 20 = .ok (.getfield 15, 3) := by decide +kernel
theorem dX3_pop_23 : decode cX3_pop 23 = .ok (.aload_n 0, 1) := by decide +kernel
theorem dX3_pop_24 : decode cX3_pop 24 = .ok (.getfield 18, 3) := by decide +kernel
theorem dX3_pop_27 : decode cX3_pop 27 = .ok (.iaload, 1) := by decide +kernel
theorem dX3_pop_28 : decode cX3_pop 28 = .ok (.ireturn, 1) := by decide +kernel
theorem dX4_init_0 : decode cX4_init 0 = .ok (.aload_n 0, 1) := by decide +kernel
theorem dX4_init_1 : decode cX4_init 1 = .ok (.invokespecial 3, 3) := by decide +kernel
theorem dX4_init_4 : decode cX4_init 4 = .ok (.aload_n 0, 1) := by decide +kernel
theorem dX4_init_5 : decode cX4_init 5 = .ok (.new 9, 3) := by decide +kernel
theorem dX4_init_8 : decode cX4_init 8 = .ok (.dup, 1) := by decide +kernel
theorem dX4_init_9 : decode cX4_init 9 = .ok (.invokespecial 11, 3) := by decide +kernel
theorem dX4_init_12 : decode cX4_init 12 = .ok (.putfield 12, 3) := by decide +kernel
theorem dX4_init_15 : decode cX4_init 15 = .ok (.aload_n 0, 1) := by decide +kernel
theorem dX4_init_16 : decode cX4_init 16 = .ok (.new 18, 3) := by decide +kernel
theorem dX4_init_19 : decode cX4_init 19 = .ok (.dup, 1) := by decide +kernel
theorem dX4_init_20 : decode cX4_init 20 = .ok (.invokespecial 20, 3) := by decide +kernel
theorem dX4_init_23 : decode cX4_init 23 = .ok (.putfield 21, 3) := by decide +kernel
theorem dX4_init_26 : decode cX4_init 26 = .ok (.aload_n 0, 1) := by decide +kernel
theorem dX4_init_27 : decode cX4_init 27 = .ok (.bipush 20, 2) := by decide +kernel
theorem dX4_init_29 : decode cX4_init 29 = .ok (.newarray .int, 2) := by decide +kernel
theorem dX4_init_31 : decode cX4_init 31 = .ok (.putfield 25, 3) := by decide +kernel
theorem dX4_init_34 : decode cX4_init 34 = .ok (.aload_n 0, 1) := by decide +kernel
theorem dX4_init_35 : decode cX4_init 35 = .ok (.bipush 20, 2) := by decide +kernel
theorem dX4_init_37 : decode cX4_init 37 = .ok (.newarray .int, 2) := by decide +kernel
theorem dX4_init_39 : decode cX4_init 39 = .ok (.putfield 29, 3) := by decide +kernel
theorem dX4_init_42 : decode cX4_init 42 = .ok (.aload_n 0, 1) := by decide +kernel
theorem dX4_init_43 : decode cX4_init 43 = .ok (.bipush 20, 2) := by decide +kernel
theorem dX4_init_45 : decode cX4_init 45 = .ok (.newarray .int, 2) := by decide +kernel
theorem dX4_init_47 : decode cX4_init 47 = .ok (.putfield 32, 3) := by decide +kernel
theorem dX4_init_50 : decode cX4_init 50 = .ok (.aload_n 0, 1) := by decide +kernel
theorem dX4_init_51 : decode cX4_init 51 = .ok (.aload_n 1, 1) := by decide +kernel
theorem dX4_init_52 : decode cX4_init 52 = .ok (.putfield 35, 3) := by decide +kernel
theorem dX4_init_55 : decode cX4_init 55 = .ok (.return_, 1) := by decide +kernel
theorem dX4_survey_0 : decode cX4_survey 0 = .ok (.iconst 0, 1) := by decide +kernel
theorem dX4_survey_1 : decode cX4_survey 1 = .ok (.istore_n 1, 1) := by decide +kernel
theorem dX4_survey_2 : decode cX4_survey 2 = .ok (.iload_n 1, 1) := by decide +kernel
theorem dX4_survey_3 : decode cX4_survey 3 = .ok (.aload_n 0, 1) := by decide +kernel
theorem dX4_survey_4 : decode cX4_survey 4 = .ok (.getfield 35, 3) := by decide +kernel
theorem dX4_survey_7 : decode cX4_survey 7 = .ok (.getfield 39, 3) := by decide +kernel
theorem dX4_survey_10 : decode cX4_survey 10 = .ok (.if_icmp .ge 51, 3) := by decide +kernel
theorem dX4_survey_13 : decode cX4_survey 13 = .ok (.aload_n 0, 1) := by decide +kernel
theorem dX4_survey_14 : decode cX4_survey 14 = .ok (.iload_n 1, 1) := by decide +kernel
theorem dX4_survey_15 : decode cX4_survey 15 = .ok (.invokevirtual 45, 3) := by decide +kernel
theorem dX4_survey_18 : decode cX4_survey 18 = .ok (.aload_n 0, 1) := by decide +kernel
theorem dX4_survey_19 : decode cX4_survey 19 = .ok (.getfield 25, 3) := by decide +kernel
theorem dX4_survey_22 : decode cX4_survey 22 = .ok (.iload_n 1, 1) := by decide +kernel
theorem dX4_survey_23 : decode cX4_survey 23 = .ok (.aload_n 0, 1) := by decide +kernel
theorem dX4_survey_24 : decode cX4_survey 24 = .ok (.iconst 0, 1) := by decide +kernel
theorem dX4_survey_25 : decode cX4_survey 25 = .ok (.aload_n 0, 1) := by decide +kernel
theorem dX4_survey_26 : decode cX4_survey 26 = .ok (.getfield 12, 3) := by decide +kernel
theorem dX4_survey_29 : decode cX4_survey 29 = .ok (.getfield 49, 3) := by decide +kernel
theorem dX4_survey_32 : decode cX4_survey 32 = .ok (.invokevirtual 52, 3) := by decide +kernel
theorem dX4_survey_35 : decode cX4_survey 35 = .ok (.iastore, 1) := by decide +kernel
theorem dX4_survey_36 : decode cX4_survey 36 = .ok (.aload_n 0, 1) := by decide +kernel
theorem dX4_survey_37 : decode cX4_survey 37 = .ok (.getfield 29, 3) := by decide +kernel
theorem dX4_survey_40 : decode cX4_survey 40 = .ok (.iload_n 1, 1) := by decide +kernel
theorem dX4_survey_41 : decode cX4_survey 41 = .ok (.aload_n 0, 1) := by decide +kernel
theorem dX4_survey_42 : decode cX4_survey 42 = .ok (.bipush 6, 2) := by decide +kernel
theorem dX4_survey_44 : decode cX4_survey 44 = .ok (.aload_n 0, 1) := by decide +kernel
theorem dX4_survey_45 : decode cX4_survey 45 = .ok (.getfield 12, 3) := by decide +kernel
theorem dX4_survey_48 : decode cX4_survey 48 = .ok (.getfield 56, 3) := by decide +kernel
theorem dX4_survey_51 : decode cX4_survey 51 = .ok (.invokevirtual 52, 3) := by decide +kernel
theorem dX4_survey_54 : decode cX4_survey 54 = .ok (.iastore, 1) := by decide +kernel
theorem dX4_survey_55 : decode cX4_survey 55 = .ok (.iinc 1 1, 3) := by decide +kernel
theorem dX4_survey_58 : decode cX4_survey 58 = .ok (.goto (-56), 3) := by decide +kernel
theorem dX4_survey_61 : decode cX4_survey 61 = .ok (.return_, 1) := by decide +kernel
theorem dX4_upNow_0 : decode cX4_upNow 0 = .ok (.aload_n 0, 1) := by decide +kernel
theorem dX4_upNow_1 : decode cX4_upNow 1 = .ok (.iload_n 1, 1) := by decide +kernel
theorem dX4_upNow_2 : decode cX4_upNow 2 = .ok (.aload_n 0, 1) := by decide +kernel
theorem dX4_upNow_3 : decode cX4_upNow 3 = .ok (.getfield 35, 3) := by decide +kernel
theorem dX4_upNow_6 : decode cX4_upNow 6 = .ok (.iload_n 1, 1) := by decide +kernel
theorem dX4_upNow_7 : decode cX4_upNow 7 = .ok (.iconst 0, 1) := by decide +kernel
theorem dX4_upNow_8 : decode cX4_upNow 8 = .ok (.invokevirtual 59, 3) := by decide +kernel
theorem dX4_upNow_11 : decode cX4_upNow 11 = .ok (.invokevirtual 62, 3) := by decide +kernel
theorem dX4_upNow_14 : decode cX4_upNow 14 = .ok (.ireturn, 1) := by decide +kernel
theorem dX4_upAt_0 : decode cX4_upAt 0 = .ok (.aload_n 0, 1) := by decide +kernel
theorem dX4_upAt_1 : decode cX4_upAt 1 = .ok (.iload_n 1, 1) := by decide +kernel
theorem dX4_upAt_2 : decode cX4_upAt 2 = .ok (.invokevirtual 45, 3) := by decide +kernel
theorem dX4_upAt_5 : decode cX4_upAt 5 = .ok (.aload_n 0, 1) := by decide +kernel
theorem dX4_upAt_6 : decode cX4_upAt 6 = .ok (.getfield 21, 3) := by decide +kernel
theorem dX4_upAt_9 : decode cX4_upAt 9 = .ok (.getfield 65, 3) := by decide +kernel
theorem dX4_upAt_12 : decode cX4_upAt 12 = .ok (.iconst 0, 1) := by decide +kernel
theorem dX4_upAt_13 : decode cX4_upAt 13 = .ok (.iload_n 2, 1) := by decide +kernel
theorem dX4_upAt_14 : decode cX4_upAt 14 = .ok (.iastore, 1) := by decide +kernel
theorem dX4_upAt_15 : decode cX4_upAt 15 = .ok (.aload_n 0, 1) := by decide +kernel
theorem dX4_upAt_16 : decode cX4_upAt 16 = .ok (.iconst 0, 1) := by decide +kernel
theorem dX4_upAt_17 : decode cX4_upAt 17 = .ok (.aload_n 0, 1) := by decide +kernel
theorem dX4_upAt_18 : decode cX4_upAt 18 = .ok (.getfield 12, 3) := by decide +kernel
theorem dX4_upAt_21 : decode cX4_upAt 21 = .ok (.getfield 49, 3) := by decide +kernel
theorem dX4_upAt_24 : decode cX4_upAt 24 = .ok (.invokevirtual 52, 3) := by decide +kernel
theorem dX4_upAt_27 : decode cX4_upAt 27 = .ok (.ireturn, 1) := by decide +kernel
theorem dX4_trueOf_0 : decode cX4_trueOf 0 = .ok (.aload_n 0, 1) := by decide +kernel
theorem dX4_trueOf_1 : decode cX4_trueOf 1 = .ok (.iload_n 1, 1) := by decide +kernel
theorem dX4_trueOf_2 : decode cX4_trueOf 2 = .ok (.invokevirtual 45, 3) := by decide +kernel
theorem dX4_trueOf_5 : decode cX4_trueOf 5 = .ok (.aload_n 0, 1) := by decide +kernel
theorem dX4_trueOf_6 : decode cX4_trueOf 6 = .ok (.bipush 6, 2) := by decide +kernel
theorem dX4_trueOf_8 : decode cX4_trueOf 8 = .ok (.aload_n 0, 1) := by decide +kernel
theorem dX4_trueOf_9 : decode cX4_trueOf 9 = .ok (.getfield 12, 3) := by decide +kernel
theorem dX4_trueOf_12 : decode cX4_trueOf 12 = .ok (.getfield 56, 3) := by decide +kernel
theorem dX4_trueOf_15 : decode cX4_trueOf 15 = .ok (.invokevirtual 52, 3) := by decide +kernel
theorem dX4_trueOf_18 : decode cX4_trueOf 18 = .ok (.ireturn, 1) := by decide +kernel
theorem dX4_markBySigns_0 : decode cX4_markBySigns 0 = .ok (.iconst 0, 1) := by decide +kernel
theorem dX4_markBySigns_1 : decode cX4_markBySigns 1 = .ok (.istore 4, 2) := by decide +kernel
theorem dX4_markBySigns_3 : decode cX4_markBySigns 3 = .ok (.iload 4, 2) := by decide +kernel
theorem dX4_markBySigns_5 : decode cX4_markBySigns 5 = .ok (.aload_n 0, 1) := by decide +kernel
theorem dX4_markBySigns_6 : decode cX4_markBySigns 6 = .ok (.getfield 12, 3) := by decide +kernel
theorem dX4_markBySigns_9 : decode cX4_markBySigns 9 = .ok (.getfield 49, 3) := by decide +kernel
theorem dX4_markBySigns_12 : decode cX4_markBySigns 12 = .ok (.if_icmp .ge 79, 3) := by decide +kernel
theorem dX4_markBySigns_15 : decode cX4_markBySigns 15 = .ok (.aload_n 0, 1) := by decide +kernel
theorem dX4_markBySigns_16 : decode cX4_markBySigns 16 = .ok (.iload_n 1, 1) := by decide +kernel
theorem dX4_markBySigns_17 : decode cX4_markBySigns 17 = .ok (.invokevirtual 45, 3) := by decide +kernel
theorem dX4_markBySigns_20 : decode cX4_markBySigns 20 = .ok (.aload_n 0, 1) := by decide +kernel
theorem dX4_markBySigns_21 : decode cX4_markBySigns 21 = .ok (.getfield 21, 3) := by decide +kernel
theorem dX4_markBySigns_24 : decode cX4_markBySigns 24 = .ok (.aload_n 0, 1) := by decide +kernel
theorem dX4_markBySigns_25 : decode cX4_markBySigns 25 = .ok (.getfield 12, 3) := by decide +kernel
theorem dX4_markBySigns_28 : decode cX4_markBySigns 28 = .ok (.iconst 0, 1) := by decide +kernel
theorem dX4_markBySigns_29 : decode cX4_markBySigns 29 = .ok (.iload 4, 2) := by decide +kernel
theorem dX4_markBySigns_31 : decode cX4_markBySigns 31 = .ok (.iadd, 1) := by decide +kernel
theorem dX4_markBySigns_32 : decode cX4_markBySigns 32 = .ok (.invokevirtual 68, 3) := by decide +kernel
theorem dX4_markBySigns_35 : decode cX4_markBySigns 35 = .ok (.iconst 1, 1) := by decide +kernel
theorem dX4_markBySigns_36 : decode cX4_markBySigns 36 = .ok (.if_icmp .ne 7, 3) := by decide +kernel
theorem dX4_markBySigns_39 : decode cX4_markBySigns 39 = .ok (.iconst 1, 1) := by decide +kernel
theorem dX4_markBySigns_40 : decode cX4_markBySigns 40 = .ok (.goto 4, 3) := by decide +kernel
theorem dX4_markBySigns_43 : decode cX4_markBySigns 43 = .ok (.iconst 0, 1) := by decide +kernel
theorem dX4_markBySigns_44 : decode cX4_markBySigns 44 = .ok (.istore 5, 2) := by decide +kernel
theorem dX4_markBySigns_46 : decode cX4_markBySigns 46 = .ok (.iload 5, 2) := by decide +kernel
theorem dX4_markBySigns_48 : decode cX4_markBySigns 48 = .ok (.ifCond .eq 37, 3) := by decide +kernel
theorem dX4_markBySigns_51 : decode cX4_markBySigns 51 = .ok (.bipush 10, 2) := by decide +kernel
theorem dX4_markBySigns_53 : decode cX4_markBySigns 53 = .ok (.iload_n 2, 1) := by decide +kernel
theorem dX4_markBySigns_54 : decode cX4_markBySigns 54 = .ok (.bipush 20, 2) := by decide +kernel
theorem dX4_markBySigns_56 : decode cX4_markBySigns 56 = .ok (.iload_n 1, 1) := by decide +kernel
theorem dX4_markBySigns_57 : decode cX4_markBySigns 57 = .ok (.imul, 1) := by decide +kernel
theorem dX4_markBySigns_58 : decode cX4_markBySigns 58 = .ok (.bipush 12, 2) := by decide +kernel
theorem dX4_markBySigns_60 : decode cX4_markBySigns 60 = .ok (.iadd, 1) := by decide +kernel
theorem dX4_markBySigns_61 : decode cX4_markBySigns 61 = .ok (.iload 4, 2) := by decide +kernel
theorem dX4_markBySigns_63 : decode cX4_markBySigns 63 = .ok (.iadd, 1) := by decide +kernel
theorem dX4_markBySigns_64 : decode cX4_markBySigns 64 = .ok (.invokestatic 72, 3) := by decide +kernel
theorem dX4_markBySigns_67 : decode cX4_markBySigns 67 = .ok (.iload_n 3, 1) := by decide +kernel
theorem dX4_markBySigns_68 : decode cX4_markBySigns 68 = .ok (.if_icmp .ge 17, 3) := by decide +kernel
theorem dX4_markBySigns_71 : decode cX4_markBySigns 71 = .ok (.aload_n 0, 1) := by decide +kernel
theorem dX4_markBySigns_72 : decode cX4_markBySigns 72 = .ok (.getfield 35, 3) := by decide +kernel
theorem dX4_markBySigns_75 : decode cX4_markBySigns 75 = .ok (.iload_n 1, 1) := by decide +kernel
theorem dX4_markBySigns_76 : decode cX4_markBySigns 76 = .ok (.iconst 4, 1) := by decide +kernel
theorem dX4_markBySigns_77 : decode cX4_markBySigns 77 = .ok (.iload 4, 2) := by decide +kernel
theorem dX4_markBySigns_79 : decode cX4_markBySigns 79 = .ok (.iadd, 1) := by decide +kernel
theorem dX4_markBySigns_80 : decode cX4_markBySigns 80 = .ok (.bipush 9, 2) := by decide +kernel
theorem dX4_markBySigns_82 : decode cX4_markBySigns 82 = .ok (.invokevirtual 76, 3) := by decide +kernel
theorem dX4_markBySigns_85 : decode cX4_markBySigns 85 = .ok (.iinc 4 1, 3) := by decide +kernel
theorem dX4_markBySigns_88 : decode cX4_markBySigns 88 = .ok (.goto (-85), 3) := by decide +kernel
theorem dX4_markBySigns_91 : decode cX4_markBySigns 91 = .ok (.return_, 1) := by decide +kernel
theorem dX4_howManyTrue_0 : decode cX4_howManyTrue 0 = .ok (.iconst 0, 1) := by decide +kernel
theorem dX4_howManyTrue_1 : decode cX4_howManyTrue 1 = .ok (.istore_n 2, 1) := by decide +kernel
theorem dX4_howManyTrue_2 : decode cX4_howManyTrue 2 = .ok (.iconst 0, 1) := by decide +kernel
theorem dX4_howManyTrue_3 : decode cX4_howManyTrue 3 = .ok (.istore_n 3, 1) := by decide +kernel
theorem dX4_howManyTrue_4 : decode cX4_howManyTrue 4 = .ok (.iload_n 3, 1) := by decide +kernel
theorem dX4_howManyTrue_5 : decode cX4_howManyTrue 5 = .ok (.aload_n 0, 1) := by decide +kernel
theorem dX4_howManyTrue_6 : decode cX4_howManyTrue 6 = .ok (.getfield 35, 3) := by decide +kernel
theorem dX4_howManyTrue_9 : decode cX4_howManyTrue 9 = .ok (.getfield 39, 3) := by decide +kernel
theorem dX4_howManyTrue_12 : decode cX4_howManyTrue 12 = .ok (.if_icmp .ge 22, 3) := by decide +kernel
theorem dX4_howManyTrue_15 : decode cX4_howManyTrue 15 = .ok (.iload_n 2, 1) := by decide +kernel
theorem dX4_howManyTrue_16 : decode cX4_howManyTrue 16 = .ok (.aload_n 0, 1) := by decide +kernel
theorem dX4_howManyTrue_17 : decode cX4_howManyTrue 17 = .ok (.getfield 29, 3) := by decide +kernel
theorem dX4_howManyTrue_20 : decode cX4_howManyTrue 20 = .ok (.iload_n 3, 1) := by decide +kernel
theorem dX4_howManyTrue_21 : decode cX4_howManyTrue 21 = .ok (.iaload, 1) := by decide +kernel
theorem dX4_howManyTrue_22 : decode cX4_howManyTrue 22 = .ok (.iload_n 1, 1) := by decide +kernel
theorem dX4_howManyTrue_23 : decode cX4_howManyTrue 23 = .ok (.invokestatic 80, 3) := by decide +kernel
theorem dX4_howManyTrue_26 : decode cX4_howManyTrue 26 = .ok (.iadd, 1) := by decide +kernel
theorem dX4_howManyTrue_27 : decode cX4_howManyTrue 27 = .ok (.istore_n 2, 1) := by decide +kernel
theorem dX4_howManyTrue_28 : decode cX4_howManyTrue 28 = .ok (.iinc 3 1, 3) := by decide +kernel
theorem dX4_howManyTrue_31 : decode cX4_howManyTrue 31 = .ok (.goto (-27), 3) := by decide +kernel
theorem dX4_howManyTrue_34 : decode cX4_howManyTrue 34 = .ok (.iload_n 2, 1) := by decide +kernel
theorem dX4_howManyTrue_35 : decode cX4_howManyTrue 35 = .ok (.ireturn, 1) := by decide +kernel
theorem dX4_fitOf_0 : decode cX4_fitOf 0 = .ok (.aload_n 0, 1) := by decide +kernel
theorem dX4_fitOf_1 : decode cX4_fitOf 1 = .ok (.iload_n 2, 1) := by decide +kernel
theorem dX4_fitOf_2 : decode cX4_fitOf 2 = .ok (.invokevirtual 45, 3) := by decide +kernel
theorem dX4_fitOf_5 : decode cX4_fitOf 5 = .ok (.iconst 0, 1) := by decide +kernel
theorem dX4_fitOf_6 : decode cX4_fitOf 6 = .ok (.istore 4, 2) := by decide +kernel
theorem dX4_fitOf_8 : decode cX4_fitOf 8 = .ok (.iload 4, 2) := by decide +kernel
theorem dX4_fitOf_10 : decode cX4_fitOf 10 = .ok (.aload_n 0, 1) := by decide +kernel
theorem dX4_fitOf_11 : decode cX4_fitOf 11 = .ok (.getfield 12, 3) := by decide +kernel
theorem dX4_fitOf_14 : decode cX4_fitOf 14 = .ok (.getfield 56, 3) := by decide +kernel
theorem dX4_fitOf_17 : decode cX4_fitOf 17 = .ok (.if_icmp .ge 90, 3) := by decide +kernel
theorem dX4_fitOf_20 : decode cX4_fitOf 20 = .ok (.iload_n 3, 1) := by decide +kernel
theorem dX4_fitOf_21 : decode cX4_fitOf 21 = .ok (.iload 4, 2) := by decide +kernel
theorem dX4_fitOf_23 : decode cX4_fitOf 23 = .ok (.invokestatic 80, 3) := by decide +kernel
theorem dX4_fitOf_26 : decode cX4_fitOf 26 = .ok (.iconst 1, 1) := by decide +kernel
theorem dX4_fitOf_27 : decode cX4_fitOf 27 = .ok (.if_icmp .ne 74, 3) := by decide +kernel
theorem dX4_fitOf_30 : decode cX4_fitOf 30 = .ok (.aload_n 0, 1) := by decide +kernel
theorem dX4_fitOf_31 : decode cX4_fitOf 31 = .ok (.getfield 29, 3) := by decide +kernel
theorem dX4_fitOf_34 : decode cX4_fitOf 34 = .ok (.iload_n 2, 1) := by decide +kernel
theorem dX4_fitOf_35 : decode cX4_fitOf 35 = .ok (.iaload, 1) := by decide +kernel
theorem dX4_fitOf_36 : decode cX4_fitOf 36 = .ok (.iload 4, 2) := by decide +kernel
theorem dX4_fitOf_38 : decode cX4_fitOf 38 = .ok (.invokestatic 80, 3) := by decide +kernel
theorem dX4_fitOf_41 : decode cX4_fitOf 41 = .ok (.iconst 1, 1) := by decide +kernel
theorem dX4_fitOf_42 : decode cX4_fitOf 42 = .ok (.if_icmp .ne 45, 3) := by decide +kernel
theorem dX4_fitOf_45 : decode cX4_fitOf 45 = .ok (.aload_n 0, 1) := by decide +kernel
theorem dX4_fitOf_46 : decode cX4_fitOf 46 = .ok (.getfield 21, 3) := by decide +kernel
theorem dX4_fitOf_49 : decode cX4_fitOf 49 = .ok (.getfield 65, 3) := by decide +kernel
theorem dX4_fitOf_52 : decode cX4_fitOf 52 = .ok (.bipush 12, 2) := by decide +kernel
theorem dX4_fitOf_54 : decode cX4_fitOf 54 = .ok (.dup2, 1) := by decide +kernel
theorem dX4_fitOf_55 : decode cX4_fitOf 55 = .ok (.iaload, 1) := by decide +kernel
theorem dX4_fitOf_56 : decode cX4_fitOf 56 = .ok (.iconst 1, 1) := by decide +kernel
theorem dX4_fitOf_57 : decode cX4_fitOf 57 = .ok (.iadd, 1) := by decide +kernel
theorem dX4_fitOf_58 : decode cX4_fitOf 58 = .ok (.iastore, 1) := by decide +kernel
theorem dX4_fitOf_59 : decode cX4_fitOf 59 = .ok (.aload_n 0, 1) := by decide +kernel
theorem dX4_fitOf_60 : decode cX4_fitOf 60 = .ok (.getfield 21, 3) := by decide +kernel
theorem dX4_fitOf_63 : decode cX4_fitOf 63 = .ok (.getfield 65, 3) := by decide +kernel
theorem dX4_fitOf_66 : decode cX4_fitOf 66 = .ok (.bipush 14, 2) := by decide +kernel
theorem dX4_fitOf_68 : decode cX4_fitOf 68 = .ok (.aload_n 0, 1) := by decide +kernel
theorem dX4_fitOf_69 : decode cX4_fitOf 69 = .ok (.getfield 12, 3) := by decide +kernel
theorem dX4_fitOf_72 : decode cX4_fitOf 72 = .ok (.getfield 83, 3) := by decide +kernel
theorem dX4_fitOf_75 : decode cX4_fitOf 75 = .ok (.iload 4, 2) := by decide +kernel
theorem dX4_fitOf_77 : decode cX4_fitOf 77 = .ok (.iaload, 1) := by decide +kernel
theorem dX4_fitOf_78 : decode cX4_fitOf 78 = .ok (.iadd, 1) := by decide +kernel
theorem dX4_fitOf_79 : decode cX4_fitOf 79 = .ok (.dup2, 1) := by decide +kernel
theorem dX4_fitOf_80 : decode cX4_fitOf 80 = .ok (.iaload, 1) := by decide +kernel
theorem dX4_fitOf_81 : decode cX4_fitOf 81 = .ok (.iconst 1, 1) := by decide +kernel
theorem dX4_fitOf_82 : decode cX4_fitOf 82 = .ok (.iadd, 1) := by decide +kernel
theorem dX4_fitOf_83 : decode cX4_fitOf 83 = .ok (.iastore, 1) := by decide +kernel
theorem dX4_fitOf_84 : decode cX4_fitOf 84 = .ok (.goto 17, 3) := by decide +kernel
theorem dX4_fitOf_87 : decode cX4_fitOf 87 = .ok (.aload_n 0, 1) := by decide +kernel
theorem dX4_fitOf_88 : decode cX4_fitOf 88 = .ok (.getfield 21, 3) := by decide +kernel
theorem dX4_fitOf_91 : decode cX4_fitOf 91 = .ok (.getfield 65, 3) := by decide +kernel
theorem dX4_fitOf_94 : decode cX4_fitOf 94 = .ok (.bipush 13, 2) := by decide +kernel
theorem dX4_fitOf_96 : decode cX4_fitOf 96 = .ok (.dup2, 1) := by decide +kernel
theorem dX4_fitOf_97 : decode cX4_fitOf 97 = .ok (.iaload, 1) := by decide +kernel
theorem dX4_fitOf_98 : decode cX4_fitOf 98 = .ok (.iconst 1, 1) := by decide +kernel
theorem dX4_fitOf_99 : decode cX4_fitOf 99 = .ok (.iadd, 1) := by decide +kernel
theorem dX4_fitOf_100 : decode cX4_fitOf 100 = .ok (.iastore, 1) := by decide +kernel
theorem dX4_fitOf_101 : decode cX4_fitOf 101 = .ok (.iinc 4 1, 3) := by decide +kernel
theorem dX4_fitOf_104 : decode cX4_fitOf 104 = .ok (.goto (-96), 3) := by decide +kernel
theorem dX4_fitOf_107 : decode cX4_fitOf 107 = .ok (.aload_n 0, 1) := by decide +kernel
theorem dX4_fitOf_108 : decode cX4_fitOf 108 = .ok (.getfield 21, 3) := by decide +kernel
theorem dX4_fitOf_111 : decode cX4_fitOf 111 = .ok (.aload_n 0, 1) := by decide +kernel
theorem dX4_fitOf_112 : decode cX4_fitOf 112 = .ok (.getfield 12, 3) := by decide +kernel
theorem dX4_fitOf_115 : decode cX4_fitOf 115 = .ok (.bipush 22, 2) := by decide +kernel
theorem dX4_fitOf_117 : decode cX4_fitOf 117 = .ok (.iload_n 1, 1) := by decide +kernel
theorem dX4_fitOf_118 : decode cX4_fitOf 118 = .ok (.iadd, 1) := by decide +kernel
theorem dX4_fitOf_119 : decode cX4_fitOf 119 = .ok (.invokevirtual 68, 3) := by decide +kernel
theorem dX4_fitOf_122 : decode cX4_fitOf 122 = .ok (.ireturn, 1) := by decide +kernel
theorem dX4_weigh_0 : decode cX4_weigh 0 = .ok (.aload_n 0, 1) := by decide +kernel
theorem dX4_weigh_1 : decode cX4_weigh 1 = .ok (.getfield 32, 3) := by decide +kernel
theorem dX4_weigh_4 : decode cX4_weigh 4 = .ok (.iload 4, 2) := by decide +kernel
theorem dX4_weigh_6 : decode cX4_weigh 6 = .ok (.aload_n 0, 1) := by decide +kernel
theorem dX4_weigh_7 : decode cX4_weigh 7 = .ok (.iload_n 1, 1) := by decide +kernel
theorem dX4_weigh_8 : decode cX4_weigh 8 = .ok (.iload_n 3, 1) := by decide +kernel
theorem dX4_weigh_9 : decode cX4_weigh 9 = .ok (.aload_n 0, 1) := by decide +kernel
theorem dX4_weigh_10 : decode cX4_weigh 10 = .ok (.getfield 12, 3) := by decide +kernel
theorem dX4_weigh_13 : decode cX4_weigh 13 = .ok (.iload_n 2, 1) := by decide +kernel
theorem dX4_weigh_14 : decode cX4_weigh 14 = .ok (.aload_n 0, 1) := by decide +kernel
theorem dX4_weigh_15 : decode cX4_weigh 15 = .ok (.getfield 25, 3) := by decide +kernel
theorem dX4_weigh_18 : decode cX4_weigh 18 = .ok (.iload 4, 2) := by decide +kernel
theorem dX4_weigh_20 : decode cX4_weigh 20 = .ok (.iaload, 1) := by decide +kernel
theorem dX4_weigh_21 : decode cX4_weigh 21 = .ok (.invokevirtual 86, 3) := by decide +kernel
theorem dX4_weigh_24 : decode cX4_weigh 24 = .ok (.invokevirtual 89, 3) := by decide +kernel
theorem dX4_weigh_27 : decode cX4_weigh 27 = .ok (.iastore, 1) := by decide +kernel
theorem dX4_weigh_28 : decode cX4_weigh 28 = .ok (.aload_n 0, 1) := by decide +kernel
theorem dX4_weigh_29 : decode cX4_weigh 29 = .ok (.getfield 32, 3) := by decide +kernel
theorem dX4_weigh_32 : decode cX4_weigh 32 = .ok (.iload 4, 2) := by decide +kernel
theorem dX4_weigh_34 : decode cX4_weigh 34 = .ok (.iaload, 1) := by decide +kernel
theorem dX4_weigh_35 : decode cX4_weigh 35 = .ok (.ireturn, 1) := by decide +kernel
theorem dX4_weighAll_0 : decode cX4_weighAll 0 = .ok (.iconst 0, 1) := by decide +kernel
theorem dX4_weighAll_1 : decode cX4_weighAll 1 = .ok (.istore 4, 2) := by decide +kernel
theorem dX4_weighAll_3 : decode cX4_weighAll 3 = .ok (.iload 4, 2) := by decide +kernel
theorem dX4_weighAll_5 : decode cX4_weighAll 5 = .ok (.aload_n 0, 1) := by decide +kernel
theorem dX4_weighAll_6 : decode cX4_weighAll 6 = .ok (.getfield 35, 3) := by decide +kernel
theorem dX4_weighAll_9 : decode cX4_weighAll 9 = .ok (.getfield 39, 3) := by decide +kernel
theorem dX4_weighAll_12 : decode cX4_weighAll 12 = .ok (.if_icmp .ge 19, 3) := by decide +kernel
theorem dX4_weighAll_15 : decode cX4_weighAll 15 = .ok (.aload_n 0, 1) := by decide +kernel
theorem dX4_weighAll_16 : decode cX4_weighAll 16 = .ok (.iload_n 1, 1) := by decide +kernel
theorem dX4_weighAll_17 : decode cX4_weighAll 17 = .ok (.iload_n 2, 1) := by decide +kernel
theorem dX4_weighAll_18 : decode cX4_weighAll 18 = .ok (.iload_n 3, 1) := by decide +kernel
theorem dX4_weighAll_19 : decode cX4_weighAll 19 = .ok (.iload 4, 2) := by decide +kernel
theorem dX4_weighAll_21 : decode cX4_weighAll 21 = .ok (.invokevirtual 92, 3) := by decide +kernel
theorem dX4_weighAll_24 : decode cX4_weighAll 24 = .ok (.pop, 1) := by decide +kernel
theorem dX4_weighAll_25 : decode cX4_weighAll 25 = .ok (.iinc 4 1, 3) := by decide +kernel
theorem dX4_weighAll_28 : decode cX4_weighAll 28 = .ok (.goto (-25), 3) := by decide +kernel
theorem dX4_weighAll_31 : decode cX4_weighAll 31 = .ok (.return_, 1) := by decide +kernel
theorem dX4_sixthsOf_0 : decode cX4_sixthsOf 0 = .ok (.aload_n 0, 1) := by decide +kernel
theorem dX4_sixthsOf_1 : decode cX4_sixthsOf 1 = .ok (.iload_n 1, 1) := by decide +kernel
theorem dX4_sixthsOf_2 : decode cX4_sixthsOf 2 = .ok (.iload_n 2, 1) := by decide +kernel
theorem dX4_sixthsOf_3 : decode cX4_sixthsOf 3 = .ok (.iload_n 3, 1) := by decide +kernel
theorem dX4_sixthsOf_4 : decode cX4_sixthsOf 4 = .ok (.iload_n 3, 1) := by decide +kernel
theorem dX4_sixthsOf_5 : decode cX4_sixthsOf 5 = .ok (.invokevirtual 92, 3) := by decide +kernel
theorem dX4_sixthsOf_8 : decode cX4_sixthsOf 8 = .ok (.pop, 1) := by decide +kernel
theorem dX4_sixthsOf_9 : decode cX4_sixthsOf 9 = .ok (.aload_n 0, 1) := by decide +kernel
theorem dX4_sixthsOf_10 : decode cX4_sixthsOf 10 = .ok (.iload_n 1, 1) := by decide +kernel
theorem dX4_sixthsOf_11 : decode cX4_sixthsOf 11 = .ok (.iload_n 2, 1) := by decide +kernel
theorem dX4_sixthsOf_12 : decode cX4_sixthsOf 12 = .ok (.iload_n 3, 1) := by decide +kernel
theorem dX4_sixthsOf_13 : decode cX4_sixthsOf 13 = .ok (.iload 4, 2) := by decide +kernel
theorem dX4_sixthsOf_15 : decode cX4_sixthsOf 15 = .ok (.invokevirtual 92, 3) := by decide +kernel
theorem dX4_sixthsOf_18 : decode cX4_sixthsOf 18 = .ok (.pop, 1) := by decide +kernel
theorem dX4_sixthsOf_19 : decode cX4_sixthsOf 19 = .ok (.aload_n 0, 1) := by decide +kernel
theorem dX4_sixthsOf_20 : decode cX4_sixthsOf 20 = .ok (.iload_n 1, 1) := by decide +kernel
theorem dX4_sixthsOf_21 : decode cX4_sixthsOf 21 = .ok (.iload_n 2, 1) := by decide +kernel
theorem dX4_sixthsOf_22 : decode cX4_sixthsOf 22 = .ok (.iload_n 3, 1) := by decide +kernel
theorem dX4_sixthsOf_23 : decode cX4_sixthsOf 23 = .ok (.iload 5, 2) := by decide +kernel
theorem dX4_sixthsOf_25 : decode cX4_sixthsOf 25 = .ok (.invokevirtual 92, 3) := by decide +kernel
theorem dX4_sixthsOf_28 : decode cX4_sixthsOf 28 = .ok (.pop, 1) := by decide +kernel
theorem dX4_sixthsOf_29 : decode cX4_sixthsOf 29 = .ok (.aload_n 0, 1) := by decide +kernel
theorem dX4_sixthsOf_30 : decode cX4_sixthsOf 30 = .ok (.iload_n 3, 1) := by decide +kernel
theorem dX4_sixthsOf_31 : decode cX4_sixthsOf 31 = .ok (.iload 4, 2) := by decide +kernel
theorem dX4_sixthsOf_33 : decode cX4_sixthsOf 33 = .ok (.iload 5, 2) := by decide +kernel
theorem dX4_sixthsOf_35 : decode cX4_sixthsOf 35 = .ok (.invokevirtual 96, 3) := by decide +kernel
theorem dX4_sixthsOf_38 : decode cX4_sixthsOf 38 = .ok (.ireturn, 1) := by decide +kernel
theorem dX4_sixthsOfAllTwos_0 : decode cX4_sixthsOfAllTwos 0 = .ok (.iconst 0, 1) := by decide +kernel
theorem dX4_sixthsOfAllTwos_1 : decode cX4_sixthsOfAllTwos 1 = .ok (.istore_n 2, 1) := by decide +kernel
theorem dX4_sixthsOfAllTwos_2 : decode cX4_sixthsOfAllTwos 2 = .ok (.iconst 0, 1) := by decide +kernel
theorem dX4_sixthsOfAllTwos_3 : decode cX4_sixthsOfAllTwos 3 = .ok (.istore_n 3, 1) := by decide +kernel
theorem dX4_sixthsOfAllTwos_4 : decode cX4_sixthsOfAllTwos 4 = .ok (.iload_n 3, 1) := by decide +kernel
theorem dX4_sixthsOfAllTwos_5 : decode cX4_sixthsOfAllTwos 5 = .ok (.aload_n 0, 1) := by decide +kernel
theorem dX4_sixthsOfAllTwos_6 : decode cX4_sixthsOfAllTwos 6 = .ok (.getfield 35, 3) := by decide +kernel
theorem dX4_sixthsOfAllTwos_9 : decode cX4_sixthsOfAllTwos 9 = .ok (.getfield 39, 3) := by decide +kernel
theorem dX4_sixthsOfAllTwos_12 : decode cX4_sixthsOfAllTwos 12 = .ok (.if_icmp .ge 54, 3) := by decide +kernel
theorem dX4_sixthsOfAllTwos_15 : decode cX4_sixthsOfAllTwos 15 = .ok (.iload_n 3, 1) := by decide +kernel
theorem dX4_sixthsOfAllTwos_16 : decode cX4_sixthsOfAllTwos 16 = .ok (.iconst 1, 1) := by decide +kernel
theorem dX4_sixthsOfAllTwos_17 : decode cX4_sixthsOfAllTwos 17 = .ok (.iadd, 1) := by decide +kernel
theorem dX4_sixthsOfAllTwos_18 : decode cX4_sixthsOfAllTwos 18 = .ok (.istore 4, 2) := by decide +kernel
theorem dX4_sixthsOfAllTwos_20 : decode cX4_sixthsOfAllTwos 20 = .ok (.iload 4, 2) := by decide +kernel
theorem dX4_sixthsOfAllTwos_22 : decode cX4_sixthsOfAllTwos 22 = .ok (.aload_n 0, 1) := by decide +kernel
theorem dX4_sixthsOfAllTwos_23 : decode cX4_sixthsOfAllTwos 23 = .ok (.getfield 35, 3) := by decide +kernel
theorem dX4_sixthsOfAllTwos_26 : decode cX4_sixthsOfAllTwos 26 = .ok (.getfield 39, 3) := by decide +kernel
theorem dX4_sixthsOfAllTwos_29 : decode cX4_sixthsOfAllTwos 29 = .ok (.if_icmp .ge 31, 3) := by decide +kernel
theorem dX4_sixthsOfAllTwos_32 : decode cX4_sixthsOfAllTwos 32 = .ok (.iload_n 3, 1) := by decide +kernel
theorem dX4_sixthsOfAllTwos_33 : decode cX4_sixthsOfAllTwos 33 = .ok (.iload_n 1, 1) := by decide +kernel
theorem dX4_sixthsOfAllTwos_34 : decode cX4_sixthsOfAllTwos 34 = .ok (.if_icmp .eq 20, 3) := by decide +kernel
theorem dX4_sixthsOfAllTwos_37 : decode cX4_sixthsOfAllTwos 37 = .ok (.iload 4, 2) := by decide +kernel
theorem dX4_sixthsOfAllTwos_39 : decode cX4_sixthsOfAllTwos 39 = .ok (.iload_n 1, 1) := by decide +kernel
theorem dX4_sixthsOfAllTwos_40 : decode cX4_sixthsOfAllTwos 40 = .ok (.if_icmp .eq 14, 3) := by decide +kernel
theorem dX4_sixthsOfAllTwos_43 : decode cX4_sixthsOfAllTwos 43 = .ok (.iload_n 2, 1) := by decide +kernel
theorem dX4_sixthsOfAllTwos_44 : decode cX4_sixthsOfAllTwos 44 = .ok (.aload_n 0, 1) := by decide +kernel
theorem dX4_sixthsOfAllTwos_45 : decode cX4_sixthsOfAllTwos 45 = .ok (.iload_n 1, 1) := by decide +kernel
theorem dX4_sixthsOfAllTwos_46 : decode cX4_sixthsOfAllTwos 46 = .ok (.iload_n 3, 1) := by decide +kernel
theorem dX4_sixthsOfAllTwos_47 : decode cX4_sixthsOfAllTwos 47 = .ok (.iload 4, 2) := by decide +kernel
theorem dX4_sixthsOfAllTwos_49 : decode cX4_sixthsOfAllTwos 49 = .ok (.invokevirtual 96, 3) := by decide +kernel
theorem dX4_sixthsOfAllTwos_52 : decode cX4_sixthsOfAllTwos 52 = .ok (.iadd, 1) := by decide +kernel
theorem dX4_sixthsOfAllTwos_53 : decode cX4_sixthsOfAllTwos 53 = .ok (.istore_n 2, 1) := by decide +kernel
theorem dX4_sixthsOfAllTwos_54 : decode cX4_sixthsOfAllTwos 54 = .ok (.iinc 4 1, 3) := by decide +kernel
theorem dX4_sixthsOfAllTwos_57 : decode cX4_sixthsOfAllTwos 57 = .ok (.goto (-37), 3) := by decide +kernel
theorem dX4_sixthsOfAllTwos_60 : decode cX4_sixthsOfAllTwos 60 = .ok (.iinc 3 1, 3) := by decide +kernel
theorem dX4_sixthsOfAllTwos_63 : decode cX4_sixthsOfAllTwos 63 = .ok (.goto (-59), 3) := by decide +kernel
theorem dX4_sixthsOfAllTwos_66 : decode cX4_sixthsOfAllTwos 66 = .ok (.iload_n 2, 1) := by decide +kernel
theorem dX4_sixthsOfAllTwos_67 : decode cX4_sixthsOfAllTwos 67 = .ok (.ireturn, 1) := by decide +kernel
theorem dX4_fillTable_0 : decode cX4_fillTable 0 = .ok (.aload_n 1, 1) := by decide +kernel
theorem dX4_fillTable_1 : decode cX4_fillTable 1 = .ok (.invokevirtual 99, 3) := by decide +kernel
theorem dX4_fillTable_4 : decode cX4_fillTable 4 = .ok (.iconst 0, 1) := by decide +kernel
theorem dX4_fillTable_5 : decode cX4_fillTable 5 = .ok (.istore 4, 2) := by decide +kernel
theorem dX4_fillTable_7 : decode cX4_fillTable 7 = .ok (.iload 4, 2) := by decide +kernel
theorem dX4_fillTable_9 : decode cX4_fillTable 9 = .ok (.aload_n 0, 1) := by decide +kernel
theorem dX4_fillTable_10 : decode cX4_fillTable 10 = .ok (.getfield 35, 3) := by decide +kernel
theorem dX4_fillTable_13 : decode cX4_fillTable 13 = .ok (.getfield 39, 3) := by decide +kernel
theorem dX4_fillTable_16 : decode cX4_fillTable 16 = .ok (.if_icmp .ge 35, 3) := by decide +kernel
theorem dX4_fillTable_19 : decode cX4_fillTable 19 = .ok (.aload_n 1, 1) := by decide +kernel
theorem dX4_fillTable_20 : decode cX4_fillTable 20 = .ok (.aload_n 0, 1) := by decide +kernel
theorem dX4_fillTable_21 : decode cX4_fillTable 21 = .ok (.getfield 25, 3) := by decide +kernel
theorem dX4_fillTable_24 : decode cX4_fillTable 24 = .ok (.iload 4, 2) := by decide +kernel
theorem dX4_fillTable_26 : decode cX4_fillTable 26 = .ok (.iaload, 1) := by decide +kernel
theorem dX4_fillTable_27 : decode cX4_fillTable 27 = .ok (.iload_n 2, 1) := by decide +kernel
theorem dX4_fillTable_28 : decode cX4_fillTable 28 = .ok (.invokestatic 80, 3) := by decide +kernel
theorem dX4_fillTable_31 : decode cX4_fillTable 31 = .ok (.aload_n 0, 1) := by decide +kernel
theorem dX4_fillTable_32 : decode cX4_fillTable 32 = .ok (.getfield 29, 3) := by decide +kernel
theorem dX4_fillTable_35 : decode cX4_fillTable 35 = .ok (.iload 4, 2) := by decide +kernel
theorem dX4_fillTable_37 : decode cX4_fillTable 37 = .ok (.iaload, 1) := by decide +kernel
theorem dX4_fillTable_38 : decode cX4_fillTable 38 = .ok (.iload_n 3, 1) := by decide +kernel
theorem dX4_fillTable_39 : decode cX4_fillTable 39 = .ok (.invokestatic 80, 3) := by decide +kernel
theorem dX4_fillTable_42 : decode cX4_fillTable 42 = .ok (.invokevirtual 104, 3) := by decide +kernel
theorem dX4_fillTable_45 : decode cX4_fillTable 45 = .ok (.iinc 4 1, 3) := by decide +kernel
theorem dX4_fillTable_48 : decode cX4_fillTable 48 = .ok (.goto (-41), 3) := by decide +kernel
theorem dX4_fillTable_51 : decode cX4_fillTable 51 = .ok (.return_, 1) := by decide +kernel
theorem dX4_fillClassTable_0 : decode cX4_fillClassTable 0 = .ok (.aload_n 1, 1) := by decide +kernel
theorem dX4_fillClassTable_1 : decode cX4_fillClassTable 1 = .ok (.invokevirtual 99, 3) := by decide +kernel
theorem dX4_fillClassTable_4 : decode cX4_fillClassTable 4 = .ok (.iconst 0, 1) := by decide +kernel
theorem dX4_fillClassTable_5 : decode cX4_fillClassTable 5 = .ok (.istore 6, 2) := by decide +kernel
theorem dX4_fillClassTable_7 : decode cX4_fillClassTable 7 = .ok (.iload 6, 2) := by decide +kernel
theorem dX4_fillClassTable_9 : decode cX4_fillClassTable 9 = .ok (.aload_n 0, 1) := by decide +kernel
theorem dX4_fillClassTable_10 : decode cX4_fillClassTable 10 = .ok (.getfield 35, 3) := by decide +kernel
theorem dX4_fillClassTable_13 : decode cX4_fillClassTable 13 = .ok (.getfield 39, 3) := by decide +kernel
theorem dX4_fillClassTable_16 : decode cX4_fillClassTable 16 = .ok (.if_icmp .ge 51, 3) := by decide +kernel
theorem dX4_fillClassTable_19 : decode cX4_fillClassTable 19 = .ok (.aload_n 0, 1) := by decide +kernel
theorem dX4_fillClassTable_20 : decode cX4_fillClassTable 20 = .ok (.getfield 35, 3) := by decide +kernel
theorem dX4_fillClassTable_23 : decode cX4_fillClassTable 23 = .ok (.iload 6, 2) := by decide +kernel
theorem dX4_fillClassTable_25 : decode cX4_fillClassTable 25 = .ok (.iload 4, 2) := by decide +kernel
theorem dX4_fillClassTable_27 : decode cX4_fillClassTable 27 = .ok (.invokevirtual 108, 3) := by decide +kernel
theorem dX4_fillClassTable_30 : decode cX4_fillClassTable 30 = .ok (.iload 5, 2) := by decide +kernel
theorem dX4_fillClassTable_32 : decode cX4_fillClassTable 32 = .ok (.if_icmp .ne 29, 3) := by decide +kernel
theorem dX4_fillClassTable_35 : decode cX4_fillClassTable 35 = .ok (.aload_n 1, 1) := by decide +kernel
theorem dX4_fillClassTable_36 : decode cX4_fillClassTable 36 = .ok (.aload_n 0, 1) := by decide +kernel
theorem dX4_fillClassTable_37 : decode cX4_fillClassTable 37 = .ok (.getfield 25, 3) := by decide +kernel
theorem dX4_fillClassTable_40 : decode cX4_fillClassTable 40 = .ok (.iload 6, 2) := by decide +kernel
theorem dX4_fillClassTable_42 : decode cX4_fillClassTable 42 = .ok (.iaload, 1) := by decide +kernel
theorem dX4_fillClassTable_43 : decode cX4_fillClassTable 43 = .ok (.iload_n 2, 1) := by decide +kernel
theorem dX4_fillClassTable_44 : decode cX4_fillClassTable 44 = .ok (.invokestatic 80, 3) := by decide +kernel
theorem dX4_fillClassTable_47 : decode cX4_fillClassTable 47 = .ok (.aload_n 0, 1) := by decide +kernel
theorem dX4_fillClassTable_48 : decode cX4_fillClassTable 48 = .ok (.getfield 29, 3) := by decide +kernel
theorem dX4_fillClassTable_51 : decode cX4_fillClassTable 51 = .ok (.iload 6, 2) := by decide +kernel
theorem dX4_fillClassTable_53 : decode cX4_fillClassTable 53 = .ok (.iaload, 1) := by decide +kernel
theorem dX4_fillClassTable_54 : decode cX4_fillClassTable 54 = .ok (.iload_n 3, 1) := by decide +kernel
theorem dX4_fillClassTable_55 : decode cX4_fillClassTable 55 = .ok (.invokestatic 80, 3) := by decide +kernel
theorem dX4_fillClassTable_58 : decode cX4_fillClassTable 58 = .ok (.invokevirtual 104, 3) := by decide +kernel
theorem dX4_fillClassTable_61 : decode cX4_fillClassTable 61 = .ok (.iinc 6 1, 3) := by decide +kernel
theorem dX4_fillClassTable_64 : decode cX4_fillClassTable 64 = .ok (.goto (-57), 3) := by decide +kernel
theorem dX4_fillClassTable_67 : decode cX4_fillClassTable 67 = .ok (.return_, 1) := by decide +kernel
theorem dX4_sixths_0 : decode cX4_sixths 0 = .ok (.aload_n 0, 1) := by decide +kernel
theorem dX4_sixths_1 : decode cX4_sixths 1 = .ok (.getfield 32, 3) := by decide +kernel
theorem dX4_sixths_4 : decode cX4_sixths 4 = .ok (.iload_n 1, 1) := by decide +kernel
theorem dX4_sixths_5 : decode cX4_sixths 5 = .ok (.iaload, 1) := by decide +kernel
theorem dX4_sixths_6 : decode cX4_sixths 6 = .ok (.istore 4, 2) := by decide +kernel
theorem dX4_sixths_8 : decode cX4_sixths 8 = .ok (.aload_n 0, 1) := by decide +kernel
theorem dX4_sixths_9 : decode cX4_sixths 9 = .ok (.getfield 32, 3) := by decide +kernel
theorem dX4_sixths_12 : decode cX4_sixths 12 = .ok (.iload_n 2, 1) := by decide +kernel
theorem dX4_sixths_13 : decode cX4_sixths 13 = .ok (.iaload, 1) := by decide +kernel
theorem dX4_sixths_14 : decode cX4_sixths 14 = .ok (.iload 4, 2) := by decide +kernel
theorem dX4_sixths_16 : decode cX4_sixths 16 = .ok (.if_icmp .gt 14, 3) := by decide +kernel
theorem dX4_sixths_19 : decode cX4_sixths 19 = .ok (.aload_n 0, 1) := by decide +kernel
theorem dX4_sixths_20 : decode cX4_sixths 20 = .ok (.getfield 32, 3) := by decide +kernel
theorem dX4_sixths_23 : decode cX4_sixths 23 = .ok (.iload_n 3, 1) := by decide +kernel
theorem dX4_sixths_24 : decode cX4_sixths 24 = .ok (.iaload, 1) := by decide +kernel
theorem dX4_sixths_25 : decode cX4_sixths 25 = .ok (.iload 4, 2) := by decide +kernel
theorem dX4_sixths_27 : decode cX4_sixths 27 = .ok (.if_icmp .le 5, 3) := by decide +kernel
theorem dX4_sixths_30 : decode cX4_sixths 30 = .ok (.iconst 0, 1) := by decide +kernel
theorem dX4_sixths_31 : decode cX4_sixths 31 = .ok (.ireturn, 1) := by decide +kernel
theorem dX4_sixths_32 : decode cX4_sixths 32 = .ok (.aload_n 0, 1) := by decide +kernel
theorem dX4_sixths_33 : decode cX4_sixths 33 = .ok (.getfield 32, 3) := by decide +kernel
theorem dX4_sixths_36 : decode cX4_sixths 36 = .ok (.iload_n 2, 1) := by decide +kernel
theorem dX4_sixths_37 : decode cX4_sixths 37 = .ok (.iaload, 1) := by decide +kernel
theorem dX4_sixths_38 : decode cX4_sixths 38 = .ok (.iload 4, 2) := by decide +kernel
theorem dX4_sixths_40 : decode cX4_sixths 40 = .ok (.if_icmp .ne 16, 3) := by decide +kernel
theorem dX4_sixths_43 : decode cX4_sixths 43 = .ok (.aload_n 0, 1) := by decide +kernel
theorem dX4_sixths_44 : decode cX4_sixths 44 = .ok (.getfield 32, 3) := by decide +kernel
theorem dX4_sixths_47 : decode cX4_sixths 47 = .ok (.iload_n 3, 1) := by decide +kernel
theorem dX4_sixths_48 : decode cX4_sixths 48 = .ok (.iaload, 1) := by decide +kernel
theorem dX4_sixths_49 : decode cX4_sixths 49 = .ok (.iload 4, 2) := by decide +kernel
theorem dX4_sixths_51 : decode cX4_sixths 51 = .ok (.if_icmp .ne 5, 3) := by decide +kernel
theorem dX4_sixths_54 : decode cX4_sixths 54 = .ok (.iconst 2, 1) := by decide +kernel
theorem dX4_sixths_55 : decode cX4_sixths 55 = .ok (.ireturn, 1) := by decide +kernel
theorem dX4_sixths_56 : decode cX4_sixths 56 = .ok (.aload_n 0, 1) := by decide +kernel
theorem dX4_sixths_57 : decode cX4_sixths 57 = .ok (.getfield 32, 3) := by decide +kernel
theorem dX4_sixths_60 : decode cX4_sixths 60 = .ok (.iload_n 2, 1) := by decide +kernel
theorem dX4_sixths_61 : decode cX4_sixths 61 = .ok (.iaload, 1) := by decide +kernel
theorem dX4_sixths_62 : decode cX4_sixths 62 = .ok (.iload 4, 2) := by decide +kernel
theorem dX4_sixths_64 : decode cX4_sixths 64 = .ok (.if_icmp .eq 14, 3) := by decide +kernel
theorem dX4_sixths_67 : decode cX4_sixths 67 = .ok (.aload_n 0, 1) := by decide +kernel
theorem dX4_sixths_68 : decode cX4_sixths 68 = .ok (.getfield 32, 3) := by decide +kernel
theorem dX4_sixths_71 : decode cX4_sixths 71 = .ok (.iload_n 3, 1) := by decide +kernel
theorem dX4_sixths_72 : decode cX4_sixths 72 = .ok (.iaload, 1) := by decide +kernel
theorem dX4_sixths_73 : decode cX4_sixths 73 = .ok (.iload 4, 2) := by decide +kernel
theorem dX4_sixths_75 : decode cX4_sixths 75 = .ok (.if_icmp .ne 7, 3) := by decide +kernel
theorem dX4_sixths_78 : decode cX4_sixths 78 = .ok (.iconst 3, 1) := by decide +kernel
theorem dX4_sixths_79 : decode cX4_sixths 79 = .ok (.goto 5, 3) := by decide +kernel
theorem dX4_sixths_82 : decode cX4_sixths 82 = .ok (.bipush 6, 2) := by decide +kernel
theorem dX4_sixths_84 : decode cX4_sixths 84 = .ok (.ireturn, 1) := by decide +kernel
theorem dX4_setPerson_0 : decode cX4_setPerson 0 = .ok (.iconst 0, 1) := by decide +kernel
theorem dX4_setPerson_1 : decode cX4_setPerson 1 = .ok (.istore_n 2, 1) := by decide +kernel
theorem dX4_setPerson_2 : decode cX4_setPerson 2 = .ok (.iload_n 2, 1) := by decide +kernel
theorem dX4_setPerson_3 : decode cX4_setPerson 3 = .ok (.bipush 21, 2) := by decide +kernel
theorem dX4_setPerson_5 : decode cX4_setPerson 5 = .ok (.if_icmp .ge 37, 3) := by decide +kernel
theorem dX4_setPerson_8 : decode cX4_setPerson 8 = .ok (.aload_n 0, 1) := by decide +kernel
theorem dX4_setPerson_9 : decode cX4_setPerson 9 = .ok (.getfield 21, 3) := by decide +kernel
theorem dX4_setPerson_12 : decode cX4_setPerson 12 = .ok (.getfield 65, 3) := by decide +kernel
theorem dX4_setPerson_15 : decode cX4_setPerson 15 = .ok (.iload_n 2, 1) := by decide +kernel
theorem dX4_setPerson_16 : decode cX4_setPerson 16 = .ok (.iload_n 2, 1) := by decide +kernel
theorem dX4_setPerson_17 : decode cX4_setPerson 17 = .ok (.bipush 12, 2) := by decide +kernel
theorem dX4_setPerson_19 : decode cX4_setPerson 19 = .ok (.if_icmp .ge 15, 3) := by decide +kernel
theorem dX4_setPerson_22 : decode cX4_setPerson 22 = .ok (.aload_n 0, 1) := by decide +kernel
theorem dX4_setPerson_23 : decode cX4_setPerson 23 = .ok (.getfield 35, 3) := by decide +kernel
theorem dX4_setPerson_26 : decode cX4_setPerson 26 = .ok (.iload_n 1, 1) := by decide +kernel
theorem dX4_setPerson_27 : decode cX4_setPerson 27 = .ok (.iload_n 2, 1) := by decide +kernel
theorem dX4_setPerson_28 : decode cX4_setPerson 28 = .ok (.invokevirtual 59, 3) := by decide +kernel
theorem dX4_setPerson_31 : decode cX4_setPerson 31 = .ok (.goto 4, 3) := by decide +kernel
theorem dX4_setPerson_34 : decode cX4_setPerson 34 = .ok (.iconst 0, 1) := by decide +kernel
theorem dX4_setPerson_35 : decode cX4_setPerson 35 = .ok (.iastore, 1) := by decide +kernel
theorem dX4_setPerson_36 : decode cX4_setPerson 36 = .ok (.iinc 2 1, 3) := by decide +kernel
theorem dX4_setPerson_39 : decode cX4_setPerson 39 = .ok (.goto (-37), 3) := by decide +kernel
theorem dX4_setPerson_42 : decode cX4_setPerson 42 = .ok (.return_, 1) := by decide +kernel
theorem dX4_bitsOf_0 : decode cX4_bitsOf 0 = .ok (.iconst 0, 1) := by decide +kernel
theorem dX4_bitsOf_1 : decode cX4_bitsOf 1 = .ok (.istore_n 3, 1) := by decide +kernel
theorem dX4_bitsOf_2 : decode cX4_bitsOf 2 = .ok (.iconst 0, 1) := by decide +kernel
theorem dX4_bitsOf_3 : decode cX4_bitsOf 3 = .ok (.istore 4, 2) := by decide +kernel
theorem dX4_bitsOf_5 : decode cX4_bitsOf 5 = .ok (.iload 4, 2) := by decide +kernel
theorem dX4_bitsOf_7 : decode cX4_bitsOf 7 = .ok (.iload_n 2, 1) := by decide +kernel
theorem dX4_bitsOf_8 : decode cX4_bitsOf 8 = .ok (.if_icmp .ge 35, 3) := by decide +kernel
theorem dX4_bitsOf_11 : decode cX4_bitsOf 11 = .ok (.aload_n 0, 1) := by decide +kernel
theorem dX4_bitsOf_12 : decode cX4_bitsOf 12 = .ok (.getfield 21, 3) := by decide +kernel
theorem dX4_bitsOf_15 : decode cX4_bitsOf 15 = .ok (.aload_n 0, 1) := by decide +kernel
theorem dX4_bitsOf_16 : decode cX4_bitsOf 16 = .ok (.getfield 12, 3) := by decide +kernel
theorem dX4_bitsOf_19 : decode cX4_bitsOf 19 = .ok (.iload_n 1, 1) := by decide +kernel
theorem dX4_bitsOf_20 : decode cX4_bitsOf 20 = .ok (.iload 4, 2) := by decide +kernel
theorem dX4_bitsOf_22 : decode cX4_bitsOf 22 = .ok (.iadd, 1) := by decide +kernel
theorem dX4_bitsOf_23 : decode cX4_bitsOf 23 = .ok (.invokevirtual 68, 3) := by decide +kernel
theorem dX4_bitsOf_26 : decode cX4_bitsOf 26 = .ok (.iconst 1, 1) := by decide +kernel
theorem dX4_bitsOf_27 : decode cX4_bitsOf 27 = .ok (.if_icmp .ne 10, 3) := by decide +kernel
theorem dX4_bitsOf_30 : decode cX4_bitsOf 30 = .ok (.iload_n 3, 1) := by decide +kernel
theorem dX4_bitsOf_31 : decode cX4_bitsOf 31 = .ok (.iconst 1, 1) := by decide +kernel
theorem dX4_bitsOf_32 : decode cX4_bitsOf 32 = .ok (.iload 4, 2) := by decide +kernel
theorem dX4_bitsOf_34 : decode cX4_bitsOf 34 = .ok (.ishl, 1) := by decide +kernel
theorem dX4_bitsOf_35 : decode cX4_bitsOf 35 = .ok (.ior, 1) := by decide +kernel
theorem dX4_bitsOf_36 : decode cX4_bitsOf 36 = .ok (.istore_n 3, 1) := by decide +kernel
theorem dX4_bitsOf_37 : decode cX4_bitsOf 37 = .ok (.iinc 4 1, 3) := by decide +kernel
theorem dX4_bitsOf_40 : decode cX4_bitsOf 40 = .ok (.goto (-35), 3) := by decide +kernel
theorem dX4_bitsOf_43 : decode cX4_bitsOf 43 = .ok (.iload_n 3, 1) := by decide +kernel
theorem dX4_bitsOf_44 : decode cX4_bitsOf 44 = .ok (.ireturn, 1) := by decide +kernel
theorem dX5_init_0 : decode cX5_init 0 = .ok (.aload_n 0, 1) := by decide +kernel
theorem dX5_init_1 : decode cX5_init 1 = .ok (.invokespecial 1, 3) := by decide +kernel
theorem dX5_init_4 : decode cX5_init 4 = .ok (.aload_n 0, 1) := by decide +kernel
theorem dX5_init_5 : decode cX5_init 5 = .ok (.iconst 0, 1) := by decide +kernel
theorem dX5_init_6 : decode cX5_init 6 = .ok (.putfield 7, 3) := by decide +kernel
theorem dX5_init_9 : decode cX5_init 9 = .ok (.aload_n 0, 1) := by decide +kernel
theorem dX5_init_10 : decode cX5_init 10 = .ok (.iconst 0, 1) := by decide +kernel
theorem dX5_init_11 : decode cX5_init 11 = .ok (.putfield 13, 3) := by decide +kernel
theorem dX5_init_14 : decode cX5_init 14 = .ok (.aload_n 0, 1) := by decide +kernel
theorem dX5_init_15 : decode cX5_init 15 = .ok (.iconst 0, 1) := by decide +kernel
theorem dX5_init_16 : decode cX5_init 16 = .ok (.putfield 16, 3) := by decide +kernel
theorem dX5_init_19 : decode cX5_init 19 = .ok (.aload_n 0, 1) := by decide +kernel
theorem dX5_init_20 : decode cX5_init 20 = .ok (.iconst 0, 1) := by decide +kernel
theorem dX5_init_21 : decode cX5_init 21 = .ok (.putfield 19, 3) := by decide +kernel
theorem dX5_init_24 : decode cX5_init 24 = .ok (.return_, 1) := by decide +kernel
theorem dX5_clear_0 : decode cX5_clear 0 = .ok (.aload_n 0, 1) := by decide +kernel
theorem dX5_clear_1 : decode cX5_clear 1 = .ok (.iconst 0, 1) := by decide +kernel
theorem dX5_clear_2 : decode cX5_clear 2 = .ok (.putfield 7, 3) := by decide +kernel
theorem dX5_clear_5 : decode cX5_clear 5 = .ok (.aload_n 0, 1) := by decide +kernel
theorem dX5_clear_6 : decode cX5_clear 6 = .ok (.iconst 0, 1) := by decide +kernel
theorem dX5_clear_7 : decode cX5_clear 7 = .ok (.putfield 13, 3) := by decide +kernel
theorem dX5_clear_10 : decode cX5_clear 10 = .ok (.aload_n 0, 1) := by decide +kernel
theorem dX5_clear_11 : decode cX5_clear 11 = .ok (.iconst 0, 1) := by decide +kernel
theorem dX5_clear_12 : decode cX5_clear 12 = .ok (.putfield 16, 3) := by decide +kernel
theorem dX5_clear_15 : decode cX5_clear 15 = .ok (.aload_n 0, 1) := by decide +kernel
theorem dX5_clear_16 : decode cX5_clear 16 = .ok (.iconst 0, 1) := by decide +kernel
theorem dX5_clear_17 : decode cX5_clear 17 = .ok (.putfield 19, 3) := by decide +kernel
theorem dX5_clear_20 : decode cX5_clear 20 = .ok (.return_, 1) := by decide +kernel
theorem dX5_addOne_0 : decode cX5_addOne 0 = .ok (.aload_n 0, 1) := by decide +kernel
theorem dX5_addOne_1 : decode cX5_addOne 1 = .ok (.dup, 1) := by decide +kernel
theorem dX5_addOne_2 : decode cX5_addOne 2 = .ok (.getfield 7, 3) := by decide +kernel
theorem dX5_addOne_5 : decode cX5_addOne 5 = .ok (.iconst 1, 1) := by decide +kernel
theorem dX5_addOne_6 : decode cX5_addOne 6 = .ok (.iadd, 1) := by decide +kernel
theorem dX5_addOne_7 : decode cX5_addOne 7 = .ok (.putfield 7, 3) := by decide +kernel
theorem dX5_addOne_10 : decode cX5_addOne 10 = .ok (.aload_n 0, 1) := by decide +kernel
theorem dX5_addOne_11 : decode cX5_addOne 11 = .ok (.dup, 1) := by decide +kernel
theorem dX5_addOne_12 : decode cX5_addOne 12 = .ok (.getfield 13, 3) := by decide +kernel
theorem dX5_addOne_15 : decode cX5_addOne 15 = .ok (.iload_n 1, 1) := by decide +kernel
theorem dX5_addOne_16 : decode cX5_addOne 16 = .ok (.iadd, 1) := by decide +kernel
theorem dX5_addOne_17 : decode cX5_addOne 17 = .ok (.putfield 13, 3) := by decide +kernel
theorem dX5_addOne_20 : decode cX5_addOne 20 = .ok (.aload_n 0, 1) := by decide +kernel
theorem dX5_addOne_21 : decode cX5_addOne 21 = .ok (.dup, 1) := by decide +kernel
theorem dX5_addOne_22 : decode cX5_addOne 22 = .ok (.getfield 16, 3) := by decide +kernel
theorem dX5_addOne_25 : decode cX5_addOne 25 = .ok (.iload_n 2, 1) := by decide +kernel
theorem dX5_addOne_26 : decode cX5_addOne 26 = .ok (.iadd, 1) := by decide +kernel
theorem dX5_addOne_27 : decode cX5_addOne 27 = .ok (.putfield 16, 3) := by decide +kernel
theorem dX5_addOne_30 : decode cX5_addOne 30 = .ok (.aload_n 0, 1) := by decide +kernel
theorem dX5_addOne_31 : decode cX5_addOne 31 = .ok (.dup, 1) := by decide +kernel
theorem dX5_addOne_32 : decode cX5_addOne 32 = .ok (.getfield 19, 3) := by decide +kernel
theorem dX5_addOne_35 : decode cX5_addOne 35 = .ok (.iload_n 1, 1) := by decide +kernel
theorem dX5_addOne_36 : decode cX5_addOne 36 = .ok (.iload_n 2, 1) := by decide +kernel
theorem dX5_addOne_37 : decode cX5_addOne 37 = .ok (.iand, 1) := by decide +kernel
theorem dX5_addOne_38 : decode cX5_addOne 38 = .ok (.iadd, 1) := by decide +kernel
theorem dX5_addOne_39 : decode cX5_addOne 39 = .ok (.putfield 19, 3) := by decide +kernel
theorem dX5_addOne_42 : decode cX5_addOne 42 = .ok (.return_, 1) := by decide +kernel
theorem dX5_part_0 : decode cX5_part 0 = .ok (.iload_n 1, 1) := by decide +kernel
theorem dX5_part_1 : decode cX5_part 1 = .ok (.tableswitch 42 0 2 #[27, 32, 37], 27) := by decide +kernel
theorem dX5_part_28 : decode cX5_part 28 = .ok (.aload_n 0, 1) := by decide +kernel
theorem dX5_part_29 : decode cX5_part 29 = .ok (.getfield 7, 3) := by decide +kernel
theorem dX5_part_32 : decode cX5_part 32 = .ok (.ireturn, 1) := by decide +kernel
theorem dX5_part_33 : decode cX5_part 33 = .ok (.aload_n 0, 1) := by decide +kernel
theorem dX5_part_34 : decode cX5_part 34 = .ok (.getfield 13, 3) := by decide +kernel
theorem dX5_part_37 : decode cX5_part 37 = .ok (.ireturn, 1) := by decide +kernel
theorem dX5_part_38 : decode cX5_part 38 = .ok (.aload_n 0, 1) := by decide +kernel
theorem dX5_part_39 : decode cX5_part 39 = .ok (.getfield 16, 3) := by decide +kernel
theorem dX5_part_42 : decode cX5_part 42 = .ok (.ireturn, 1) := by decide +kernel
theorem dX5_part_43 : decode cX5_part 43 = .ok (.aload_n 0, 1) := by decide +kernel
theorem dX5_part_44 : decode cX5_part 44 = .ok (.getfield 19, 3) := by decide +kernel
theorem dX5_part_47 : decode cX5_part 47 = .ok (.ireturn, 1) := by decide +kernel
theorem dX6_init_0 : decode cX6_init 0 = .ok (.aload_n 0, 1) := by decide +kernel
theorem dX6_init_1 : decode cX6_init 1 = .ok (.invokespecial 3, 3) := by decide +kernel
theorem dX6_init_4 : decode cX6_init 4 = .ok (.aload_n 0, 1) := by decide +kernel
theorem dX6_init_5 : decode cX6_init 5 = .ok (.sipush 2000, 3) := by decide +kernel
theorem dX6_init_8 : decode cX6_init 8 = .ok (.newarray .int, 2) := by decide +kernel
theorem dX6_init_10 : decode cX6_init 10 = .ok (.putfield 11, 3) := by decide +kernel
theorem dX6_init_13 : decode cX6_init 13 = .ok (.aload_n 0, 1) := by decide +kernel
theorem dX6_init_14 : decode cX6_init 14 = .ok (.iconst 0, 1) := by decide +kernel
theorem dX6_init_15 : decode cX6_init 15 = .ok (.putfield 15, 3) := by decide +kernel
theorem dX6_init_18 : decode cX6_init 18 = .ok (.return_, 1) := by decide +kernel
theorem dX6_addFour_0 : decode cX6_addFour 0 = .ok (.bipush 24, 2) := by decide +kernel
theorem dX6_addFour_2 : decode cX6_addFour 2 = .ok (.istore_n 2, 1) := by decide +kernel
theorem dX6_addFour_3 : decode cX6_addFour 3 = .ok (.iload_n 2, 1) := by decide +kernel
theorem dX6_addFour_4 : decode cX6_addFour 4 = .ok (.ifCond .lt 45, 3) := by decide +kernel
theorem dX6_addFour_7 : decode cX6_addFour 7 = .ok (.aload_n 0, 1) := by decide +kernel
theorem dX6_addFour_8 : decode cX6_addFour 8 = .ok (.getfield 15, 3) := by decide +kernel
theorem dX6_addFour_11 : decode cX6_addFour 11 = .ok (.sipush 2000, 3) := by decide +kernel
theorem dX6_addFour_14 : decode cX6_addFour 14 = .ok (.if_icmp .ge 29, 3) := by decide +kernel
theorem dX6_addFour_17 : decode cX6_addFour 17 = .ok (.aload_n 0, 1) := by decide +kernel
theorem dX6_addFour_18 : decode cX6_addFour 18 = .ok (.getfield 11, 3) := by decide +kernel
theorem dX6_addFour_21 : decode cX6_addFour 21 = .ok (.aload_n 0, 1) := by decide +kernel
theorem dX6_addFour_22 : decode cX6_addFour 22 = .ok (.getfield 15, 3) := by decide +kernel
theorem dX6_addFour_25 : decode cX6_addFour 25 = .ok (.iload_n 1, 1) := by decide +kernel
theorem dX6_addFour_26 : decode cX6_addFour 26 = .ok (.iload_n 2, 1) := by decide +kernel
theorem dX6_addFour_27 : decode cX6_addFour 27 = .ok (.iushr, 1) := by decide +kernel
theorem dX6_addFour_28 : decode cX6_addFour 28 = .ok (.sipush 255, 3) := by decide +kernel
theorem dX6_addFour_31 : decode cX6_addFour 31 = .ok (.iand, 1) := by decide +kernel
theorem dX6_addFour_32 : decode cX6_addFour 32 = .ok (.iastore, 1) := by decide +kernel
theorem dX6_addFour_33 : decode cX6_addFour 33 = .ok (.aload_n 0, 1) := by decide +kernel
theorem dX6_addFour_34 : decode cX6_addFour 34 = .ok (.dup, 1) := by decide +kernel
theorem dX6_addFour_35 : decode cX6_addFour 35 = .ok (.getfield 15, 3) := by decide +kernel
theorem dX6_addFour_38 : decode cX6_addFour 38 = .ok (.iconst 1, 1) := by decide +kernel
theorem dX6_addFour_39 : decode cX6_addFour 39 = .ok (.iadd, 1) := by decide +kernel
theorem dX6_addFour_40 : decode cX6_addFour 40 = .ok (.putfield 15, 3) := by decide +kernel
theorem dX6_addFour_43 : decode cX6_addFour 43 = .ok (.iinc 2 (-8), 3) := by decide +kernel
theorem dX6_addFour_46 : decode cX6_addFour 46 = .ok (.goto (-43), 3) := by decide +kernel
theorem dX6_addFour_49 : decode cX6_addFour 49 = .ok (.return_, 1) := by decide +kernel
theorem dX6_byteAt_0 : decode cX6_byteAt 0 = .ok (.iload_n 1, 1) := by decide +kernel
theorem dX6_byteAt_1 : decode cX6_byteAt 1 = .ok (.ifCond .lt 20, 3) := by decide +kernel
theorem dX6_byteAt_4 : decode cX6_byteAt 4 = .ok (.iload_n 1, 1) := by decide +kernel
theorem dX6_byteAt_5 : decode cX6_byteAt 5 = .ok (.aload_n 0, 1) := by decide +kernel
theorem dX6_byteAt_6 : decode cX6_byteAt 6 = .ok (.getfield 15, 3) := by decide +kernel
theorem dX6_byteAt_9 : decode cX6_byteAt 9 = .ok (.if_icmp .ge 12, 3) := by decide +kernel
theorem dX6_byteAt_12 : decode cX6_byteAt 12 = .ok (.aload_n 0, 1) := by decide +kernel
theorem dX6_byteAt_13 : decode cX6_byteAt 13 = .ok (.getfield 11, 3) := by decide +kernel
theorem dX6_byteAt_16 : decode cX6_byteAt 16 = .ok (.iload_n 1, 1) := by decide +kernel
theorem dX6_byteAt_17 : decode cX6_byteAt 17 = .ok (.iaload, 1) := by decide +kernel
theorem dX6_byteAt_18 : decode cX6_byteAt 18 = .ok (.goto 4, 3) := by decide +kernel
theorem dX6_byteAt_21 : decode cX6_byteAt 21 = .ok (.iconst (-1), 1) := by decide +kernel
theorem dX6_byteAt_22 : decode cX6_byteAt 22 = .ok (.ireturn, 1) := by decide +kernel
theorem dX6_afterBlanks_0 : decode cX6_afterBlanks 0 = .ok (.iload_n 1, 1) := by decide +kernel
theorem dX6_afterBlanks_1 : decode cX6_afterBlanks 1 = .ok (.istore_n 2, 1) := by decide +kernel
theorem dX6_afterBlanks_2 : decode cX6_afterBlanks 2 = .ok (.iload_n 2, 1) := by decide +kernel
theorem dX6_afterBlanks_3 : decode cX6_afterBlanks 3 = .ok (.aload_n 0, 1) := by decide +kernel
theorem dX6_afterBlanks_4 : decode cX6_afterBlanks 4 = .ok (.getfield 15, 3) := by decide +kernel
theorem dX6_afterBlanks_7 : decode cX6_afterBlanks 7 = .ok (.if_icmp .ge 41, 3) := by decide +kernel
theorem dX6_afterBlanks_10 : decode cX6_afterBlanks 10 = .ok (.aload_n 0, 1) := by decide +kernel
theorem dX6_afterBlanks_11 : decode cX6_afterBlanks 11 = .ok (.iload_n 2, 1) := by decide +kernel
theorem dX6_afterBlanks_12 : decode cX6_afterBlanks 12 = .ok (.invokevirtual 19, 3) := by decide +kernel
theorem dX6_afterBlanks_15 : decode cX6_afterBlanks 15 = .ok (.istore_n 3, 1) := by decide +kernel
theorem dX6_afterBlanks_16 : decode cX6_afterBlanks 16 = .ok (.iload_n 3, 1) := by decide +kernel
theorem dX6_afterBlanks_17 : decode cX6_afterBlanks 17 = .ok (.bipush 9, 2) := by decide +kernel
theorem dX6_afterBlanks_19 : decode cX6_afterBlanks 19 = .ok (.if_icmp .eq 23, 3) := by decide +kernel
theorem dX6_afterBlanks_22 : decode cX6_afterBlanks 22 = .ok (.iload_n 3, 1) := by decide +kernel
theorem dX6_afterBlanks_23 : decode cX6_afterBlanks 23 = .ok (.bipush 10, 2) := by decide +kernel
theorem dX6_afterBlanks_25 : decode cX6_afterBlanks 25 = .ok (.if_icmp .eq 17, 3) := by decide +kernel
theorem dX6_afterBlanks_28 : decode cX6_afterBlanks 28 = .ok (.iload_n 3, 1) := by decide +kernel
theorem dX6_afterBlanks_29 : decode cX6_afterBlanks 29 = .ok (.bipush 13, 2) := by decide +kernel
theorem dX6_afterBlanks_31 : decode cX6_afterBlanks 31 = .ok (.if_icmp .eq 11, 3) := by decide +kernel
theorem dX6_afterBlanks_34 : decode cX6_afterBlanks 34 = .ok (.iload_n 3, 1) := by decide +kernel
theorem dX6_afterBlanks_35 : decode cX6_afterBlanks 35 = .ok (.bipush 32, 2) := by decide +kernel
theorem dX6_afterBlanks_37 : decode cX6_afterBlanks 37 = .ok (.if_icmp .eq 5, 3) := by decide +kernel
theorem dX6_afterBlanks_40 : decode cX6_afterBlanks 40 = .ok (.iload_n 2, 1) := by decide +kernel
theorem dX6_afterBlanks_41 : decode cX6_afterBlanks 41 = .ok (.ireturn, 1) := by decide +kernel
theorem dX6_afterBlanks_42 : decode cX6_afterBlanks 42 = .ok (.iinc 2 1, 3) := by decide +kernel
theorem dX6_afterBlanks_45 : decode cX6_afterBlanks 45 = .ok (.goto (-43), 3) := by decide +kernel
theorem dX6_afterBlanks_48 : decode cX6_afterBlanks 48 = .ok (.aload_n 0, 1) := by decide +kernel
theorem dX6_afterBlanks_49 : decode cX6_afterBlanks 49 = .ok (.getfield 15, 3) := by decide +kernel
theorem dX6_afterBlanks_52 : decode cX6_afterBlanks 52 = .ok (.ireturn, 1) := by decide +kernel
theorem dX6_afterRun_0 : decode cX6_afterRun 0 = .ok (.iload_n 1, 1) := by decide +kernel
theorem dX6_afterRun_1 : decode cX6_afterRun 1 = .ok (.istore 4, 2) := by decide +kernel
theorem dX6_afterRun_3 : decode cX6_afterRun 3 = .ok (.iload 4, 2) := by decide +kernel
theorem dX6_afterRun_5 : decode cX6_afterRun 5 = .ok (.aload_n 0, 1) := by decide +kernel
theorem dX6_afterRun_6 : decode cX6_afterRun 6 = .ok (.getfield 15, 3) := by decide +kernel
theorem dX6_afterRun_9 : decode cX6_afterRun 9 = .ok (.if_icmp .ge 26, 3) := by decide +kernel
theorem dX6_afterRun_12 : decode cX6_afterRun 12 = .ok (.aload_n 0, 1) := by decide +kernel
theorem dX6_afterRun_13 : decode cX6_afterRun 13 = .ok (.iload 4, 2) := by decide +kernel
theorem dX6_afterRun_15 : decode cX6_afterRun 15 = .ok (.invokevirtual 19, 3) := by decide +kernel
theorem dX6_afterRun_18 : decode cX6_afterRun 18 = .ok (.iload_n 2, 1) := by decide +kernel
theorem dX6_afterRun_19 : decode cX6_afterRun 19 = .ok (.iload_n 3, 1) := by decide +kernel
theorem dX6_afterRun_20 : decode cX6_afterRun 20 = .ok (.invokestatic 23, 3) := by decide +kernel
theorem dX6_afterRun_23 : decode cX6_afterRun 23 = .ok (.ifCond .ne 6, 3) := by decide +kernel
theorem dX6_afterRun_26 : decode cX6_afterRun 26 = .ok (.iload 4, 2) := by decide +kernel
theorem dX6_afterRun_28 : decode cX6_afterRun 28 = .ok (.ireturn, 1) := by decide +kernel
theorem dX6_afterRun_29 : decode cX6_afterRun 29 = .ok (.iinc 4 1, 3) := by decide +kernel
theorem dX6_afterRun_32 : decode cX6_afterRun 32 = .ok (.goto (-29), 3) := by decide +kernel
theorem dX6_afterRun_35 : decode cX6_afterRun 35 = .ok (.aload_n 0, 1) := by decide +kernel
theorem dX6_afterRun_36 : decode cX6_afterRun 36 = .ok (.getfield 15, 3) := by decide +kernel
theorem dX6_afterRun_39 : decode cX6_afterRun 39 = .ok (.ireturn, 1) := by decide +kernel
theorem dX7_init_0 : decode cX7_init 0 = .ok (.aload_n 0, 1) := by decide +kernel
theorem dX7_init_1 : decode cX7_init 1 = .ok (.invokespecial 3, 3) := by decide +kernel
theorem dX7_init_4 : decode cX7_init 4 = .ok (.aload_n 0, 1) := by decide +kernel
theorem dX7_init_5 : decode cX7_init 5 = .ok (.new 9, 3) := by decide +kernel
theorem dX7_init_8 : decode cX7_init 8 = .ok (.dup, 1) := by decide +kernel
theorem dX7_init_9 : decode cX7_init 9 = .ok (.invokespecial 11, 3) := by decide +kernel
theorem dX7_init_12 : decode cX7_init 12 = .ok (.putfield 12, 3) := by decide +kernel
theorem dX7_init_15 : decode cX7_init 15 = .ok (.aload_n 0, 1) := by decide +kernel
theorem dX7_init_16 : decode cX7_init 16 = .ok (.new 18, 3) := by decide +kernel
theorem dX7_init_19 : decode cX7_init 19 = .ok (.dup, 1) := by decide +kernel
theorem dX7_init_20 : decode cX7_init 20 = .ok (.invokespecial 20, 3) := by decide +kernel
theorem dX7_init_23 : decode cX7_init 23 = .ok (.putfield 21, 3) := by decide +kernel
theorem dX7_init_26 : decode cX7_init 26 = .ok (.aload_n 0, 1) := by decide +kernel
theorem dX7_init_27 : decode cX7_init 27 = .ok (.iconst 0, 1) := by decide +kernel
theorem dX7_init_28 : decode cX7_init 28 = .ok (.putfield 25, 3) := by decide +kernel
theorem dX7_init_31 : decode cX7_init 31 = .ok (.aload_n 0, 1) := by decide +kernel
theorem dX7_init_32 : decode cX7_init 32 = .ok (.bipush 36, 2) := by decide +kernel
theorem dX7_init_34 : decode cX7_init 34 = .ok (.putfield 29, 3) := by decide +kernel
theorem dX7_init_37 : decode cX7_init 37 = .ok (.aload_n 0, 1) := by decide +kernel
theorem dX7_init_38 : decode cX7_init 38 = .ok (.lconst 0, 1) := by decide +kernel
theorem dX7_init_39 : decode cX7_init 39 = .ok (.putfield 32, 3) := by decide +kernel
theorem dX7_init_42 : decode cX7_init 42 = .ok (.aload_n 0, 1) := by decide +kernel
theorem dX7_init_43 : decode cX7_init 43 = .ok (.iconst 0, 1) := by decide +kernel
theorem dX7_init_44 : decode cX7_init 44 = .ok (.putfield 36, 3) := by decide +kernel
theorem dX7_init_47 : decode cX7_init 47 = .ok (.aload_n 0, 1) := by decide +kernel
theorem dX7_init_48 : decode cX7_init 48 = .ok (.iconst 0, 1) := by decide +kernel
theorem dX7_init_49 : decode cX7_init 49 = .ok (.putfield 39, 3) := by decide +kernel
theorem dX7_init_52 : decode cX7_init 52 = .ok (.aload_n 0, 1) := by decide +kernel
theorem dX7_init_53 : decode cX7_init 53 = .ok (.iconst (-1), 1) := by decide +kernel
theorem dX7_init_54 : decode cX7_init 54 = .ok (.putfield 42, 3) := by decide +kernel
theorem dX7_init_57 : decode cX7_init 57 = .ok (.aload_n 0, 1) := by decide +kernel
theorem dX7_init_58 : decode cX7_init 58 = .ok (.iconst 0, 1) := by decide +kernel
theorem dX7_init_59 : decode cX7_init 59 = .ok (.putfield 45, 3) := by decide +kernel
theorem dX7_init_62 : decode cX7_init 62 = .ok (.aload_n 0, 1) := by decide +kernel
theorem dX7_init_63 : decode cX7_init 63 = .ok (.iconst (-1), 1) := by decide +kernel
theorem dX7_init_64 : decode cX7_init 64 = .ok (.putfield 48, 3) := by decide +kernel
theorem dX7_init_67 : decode cX7_init 67 = .ok (.aload_n 0, 1) := by decide +kernel
theorem dX7_init_68 : decode cX7_init 68 = .ok (.bipush 30, 2) := by decide +kernel
theorem dX7_init_70 : decode cX7_init 70 = .ok (.newarray .long, 2) := by decide +kernel
theorem dX7_init_72 : decode cX7_init 72 = .ok (.putfield 51, 3) := by decide +kernel
theorem dX7_init_75 : decode cX7_init 75 = .ok (.aload_n 0, 1) := by decide +kernel
theorem dX7_init_76 : decode cX7_init 76 = .ok (.bipush 30, 2) := by decide +kernel
theorem dX7_init_78 : decode cX7_init 78 = .ok (.newarray .int, 2) := by decide +kernel
theorem dX7_init_80 : decode cX7_init 80 = .ok (.putfield 55, 3) := by decide +kernel
theorem dX7_init_83 : decode cX7_init 83 = .ok (.aload_n 0, 1) := by decide +kernel
theorem dX7_init_84 : decode cX7_init 84 = .ok (.bipush 30, 2) := by decide +kernel
theorem dX7_init_86 : decode cX7_init 86 = .ok (.newarray .int, 2) := by decide +kernel
theorem dX7_init_88 : decode cX7_init 88 = .ok (.putfield 59, 3) := by decide +kernel
theorem dX7_init_91 : decode cX7_init 91 = .ok (.aload_n 0, 1) := by decide +kernel
theorem dX7_init_92 : decode cX7_init 92 = .ok (.iconst 0, 1) := by decide +kernel
theorem dX7_init_93 : decode cX7_init 93 = .ok (.putfield 62, 3) := by decide +kernel
theorem dX7_init_96 : decode cX7_init 96 = .ok (.return_, 1) := by decide +kernel
theorem dX7_parse_0 : decode cX7_parse 0 = .ok (.aload_n 0, 1) := by decide +kernel
theorem dX7_parse_1 : decode cX7_parse 1 = .ok (.getfield 12, 3) := by decide +kernel
theorem dX7_parse_4 : decode cX7_parse 4 = .ok (.aload_n 1, 1) := by decide +kernel
theorem dX7_parse_5 : decode cX7_parse 5 = .ok (.invokevirtual 65, 3) := by decide +kernel
theorem dX7_parse_8 : decode cX7_parse 8 = .ok (.aload_n 0, 1) := by decide +kernel
theorem dX7_parse_9 : decode cX7_parse 9 = .ok (.invokevirtual 69, 3) := by decide +kernel
theorem dX7_parse_12 : decode cX7_parse 12 = .ok (.iconst 0, 1) := by decide +kernel
theorem dX7_parse_13 : decode cX7_parse 13 = .ok (.istore_n 2, 1) := by decide +kernel
theorem dX7_parse_14 : decode cX7_parse 14 = .ok (.iload_n 2, 1) := by decide +kernel
theorem dX7_parse_15 : decode cX7_parse 15 = .ok (.sipush 400, 3) := by decide +kernel
theorem dX7_parse_18 : decode cX7_parse 18 = .ok (.if_icmp .gt 108, 3) := by decide +kernel
theorem dX7_parse_21 : decode cX7_parse 21 = .ok (.aload_n 0, 1) := by decide +kernel
theorem dX7_parse_22 : decode cX7_parse 22 = .ok (.getfield 29, 3) := by decide +kernel
theorem dX7_parse_25 : decode cX7_parse 25 = .ok (.bipush 36, 2) := by decide +kernel
theorem dX7_parse_27 : decode cX7_parse 27 = .ok (.if_icmp .eq 99, 3) := by decide +kernel
theorem dX7_parse_30 : decode cX7_parse 30 = .ok (.aload_n 0, 1) := by decide +kernel
theorem dX7_parse_31 : decode cX7_parse 31 = .ok (.getfield 29, 3) := by decide +kernel
theorem dX7_parse_34 : decode cX7_parse 34 = .ok (.bipush 38, 2) := by decide +kernel
theorem dX7_parse_36 : decode cX7_parse 36 = .ok (.if_icmp .eq 90, 3) := by decide +kernel
theorem dX7_parse_39 : decode cX7_parse 39 = .ok (.aload_n 0, 1) := by decide +kernel
theorem dX7_parse_40 : decode cX7_parse 40 = .ok (.getfield 29, 3) := by decide +kernel
theorem dX7_parse_43 : decode cX7_parse 43 = .ok (.tableswitch 72 0 5 #[37, 72, 44, 51, 58, 65], 37) := by decide +kernel
theorem dX7_parse_80 : decode cX7_parse 80 = .ok (.aload_n 0, 1) := by decide +kernel
theorem dX7_parse_81 : decode cX7_parse 81 = .ok (.invokevirtual 72, 3) := by decide +kernel
theorem dX7_parse_84 : decode cX7_parse 84 = .ok (.goto 36, 3) := by decide +kernel
theorem dX7_parse_87 : decode cX7_parse 87 = .ok (.aload_n 0, 1) := by decide +kernel
theorem dX7_parse_88 : decode cX7_parse 88 = .ok (.invokevirtual 75, 3) := by decide +kernel
theorem dX7_parse_91 : decode cX7_parse 91 = .ok (.goto 29, 3) := by decide +kernel
theorem dX7_parse_94 : decode cX7_parse 94 = .ok (.aload_n 0, 1) := by decide +kernel
theorem dX7_parse_95 : decode cX7_parse 95 = .ok (.invokevirtual 78, 3) := by decide +kernel
theorem dX7_parse_98 : decode cX7_parse 98 = .ok (.goto 22, 3) := by decide +kernel
theorem dX7_parse_101 : decode cX7_parse 101 = .ok (.aload_n 0, 1) := by decide +kernel
theorem dX7_parse_102 : decode cX7_parse 102 = .ok (.invokevirtual 81, 3) := by decide +kernel
theorem dX7_parse_105 : decode cX7_parse 105 = .ok (.goto 15, 3) := by decide +kernel
theorem dX7_parse_108 : decode cX7_parse 108 = .ok (.aload_n 0, 1) := by decide +kernel
theorem dX7_parse_109 : decode cX7_parse 109 = .ok (.invokevirtual 84, 3) := by decide +kernel
theorem dX7_parse_112 : decode cX7_parse 112 = .ok (.goto 8, 3) := by decide +kernel
theorem dX7_parse_115 : decode cX7_parse 115 = .ok (.aload_n 0, 1) := by decide +kernel
theorem dX7_parse_116 : decode cX7_parse 116 = .ok (.iconst 1, 1) := by decide +kernel
theorem dX7_parse_117 : decode cX7_parse 117 = .ok (.invokevirtual 87, 3) := by decide +kernel
theorem dX7_parse_120 : decode cX7_parse 120 = .ok (.iinc 2 1, 3) := by decide +kernel
theorem dX7_parse_123 : decode cX7_parse 123 = .ok (.goto (-109), 3) := by decide +kernel
theorem dX7_parse_126 : decode cX7_parse 126 = .ok (.aload_n 0, 1) := by decide +kernel
theorem dX7_parse_127 : decode cX7_parse 127 = .ok (.getfield 39, 3) := by decide +kernel
theorem dX7_parse_130 : decode cX7_parse 130 = .ok (.ifCond .eq 14, 3) := by decide +kernel
theorem dX7_parse_133 : decode cX7_parse 133 = .ok (.aload_n 0, 1) := by decide +kernel
theorem dX7_parse_134 : decode cX7_parse 134 = .ok (.aload_n 0, 1) := by decide +kernel
theorem dX7_parse_135 : decode cX7_parse 135 = .ok (.getfield 36, 3) := by decide +kernel
theorem dX7_parse_138 : decode cX7_parse 138 = .ok (.putfield 42, 3) := by decide +kernel
theorem dX7_parse_141 : decode cX7_parse 141 = .ok (.goto 19, 3) := by decide +kernel
theorem dX7_parse_144 : decode cX7_parse 144 = .ok (.aload_n 0, 1) := by decide +kernel
theorem dX7_parse_145 : decode cX7_parse 145 = .ok (.aload_n 0, 1) := by decide +kernel
theorem dX7_parse_146 : decode cX7_parse 146 = .ok (.getfield 45, 3) := by decide +kernel
theorem dX7_parse_149 : decode cX7_parse 149 = .ok (.putfield 39, 3) := by decide +kernel
theorem dX7_parse_152 : decode cX7_parse 152 = .ok (.aload_n 0, 1) := by decide +kernel
theorem dX7_parse_153 : decode cX7_parse 153 = .ok (.aload_n 0, 1) := by decide +kernel
theorem dX7_parse_154 : decode cX7_parse 154 = .ok (.getfield 48, 3) := by decide +kernel
theorem dX7_parse_157 : decode cX7_parse 157 = .ok (.putfield 42, 3) := by decide +kernel
theorem dX7_parse_160 : decode cX7_parse 160 = .ok (.aload_n 0, 1) := by decide +kernel
theorem dX7_parse_161 : decode cX7_parse 161 = .ok (.getfield 39, 3) := by decide +kernel
theorem dX7_parse_164 : decode cX7_parse 164 = .ok (.ireturn, 1) := by decide +kernel
theorem dX7_faultPlace_0 : decode cX7_faultPlace 0 = .ok (.aload_n 0, 1) := by decide +kernel
theorem dX7_faultPlace_1 : decode cX7_faultPlace 1 = .ok (.getfield 42, 3) := by decide +kernel
theorem dX7_faultPlace_4 : decode cX7_faultPlace 4 = .ok (.ireturn, 1) := by decide +kernel
theorem dX7_exchange_0 : decode cX7_exchange 0 = .ok (.aload_n 0, 1) := by decide +kernel
theorem dX7_exchange_1 : decode cX7_exchange 1 = .ok (.getfield 21, 3) := by decide +kernel
theorem dX7_exchange_4 : decode cX7_exchange 4 = .ok (.astore_n 2, 1) := by decide +kernel
theorem dX7_exchange_5 : decode cX7_exchange 5 = .ok (.aload_n 0, 1) := by decide +kernel
theorem dX7_exchange_6 : decode cX7_exchange 6 = .ok (.aload_n 1, 1) := by decide +kernel
theorem dX7_exchange_7 : decode cX7_exchange 7 = .ok (.putfield 21, 3) := by decide +kernel
theorem dX7_exchange_10 : decode cX7_exchange 10 = .ok (.aload_n 2, 1) := by decide +kernel
theorem dX7_exchange_11 : decode cX7_exchange 11 = .ok (.areturn, 1) := by decide +kernel
theorem dX7_start_0 : decode cX7_start 0 = .ok (.aload_n 0, 1) := by decide +kernel
theorem dX7_start_1 : decode cX7_start 1 = .ok (.getfield 21, 3) := by decide +kernel
theorem dX7_start_4 : decode cX7_start 4 = .ok (.invokevirtual 91, 3) := by decide +kernel
theorem dX7_start_7 : decode cX7_start 7 = .ok (.aload_n 0, 1) := by decide +kernel
theorem dX7_start_8 : decode cX7_start 8 = .ok (.iconst 0, 1) := by decide +kernel
theorem dX7_start_9 : decode cX7_start 9 = .ok (.putfield 25, 3) := by decide +kernel
theorem dX7_start_12 : decode cX7_start 12 = .ok (.aload_n 0, 1) := by decide +kernel
theorem dX7_start_13 : decode cX7_start 13 = .ok (.aload_n 0, 1) := by decide +kernel
theorem dX7_start_14 : decode cX7_start 14 = .ok (.getfield 12, 3) := by decide +kernel
theorem dX7_start_17 : decode cX7_start 17 = .ok (.getfield 94, 3) := by decide +kernel
theorem dX7_start_20 : decode cX7_start 20 = .ok (.iconst 0, 1) := by decide +kernel
theorem dX7_start_21 : decode cX7_start 21 = .ok (.iaload, 1) := by decide +kernel
theorem dX7_start_22 : decode cX7_start 22 = .ok (.putfield 29, 3) := by decide +kernel
theorem dX7_start_25 : decode cX7_start 25 = .ok (.aload_n 0, 1) := by decide +kernel
theorem dX7_start_26 : decode cX7_start 26 = .ok (.aload_n 0, 1) := by decide +kernel
theorem dX7_start_27 : decode cX7_start 27 = .ok (.getfield 12, 3) := by decide +kernel
theorem dX7_start_30 : decode cX7_start 30 = .ok (.getfield 97, 3) := by decide +kernel
theorem dX7_start_33 : decode cX7_start 33 = .ok (.iconst 0, 1) := by decide +kernel
theorem dX7_start_34 : decode cX7_start 34 = .ok (.laload, 1) := by decide +kernel
theorem dX7_start_35 : decode cX7_start 35 = .ok (.putfield 32, 3) := by decide +kernel
theorem dX7_start_38 : decode cX7_start 38 = .ok (.aload_n 0, 1) := by decide +kernel
theorem dX7_start_39 : decode cX7_start 39 = .ok (.aload_n 0, 1) := by decide +kernel
theorem dX7_start_40 : decode cX7_start 40 = .ok (.getfield 12, 3) := by decide +kernel
theorem dX7_start_43 : decode cX7_start 43 = .ok (.getfield 100, 3) := by decide +kernel
theorem dX7_start_46 : decode cX7_start 46 = .ok (.iconst 0, 1) := by decide +kernel
theorem dX7_start_47 : decode cX7_start 47 = .ok (.iaload, 1) := by decide +kernel
theorem dX7_start_48 : decode cX7_start 48 = .ok (.putfield 36, 3) := by decide +kernel
theorem dX7_start_51 : decode cX7_start 51 = .ok (.aload_n 0, 1) := by decide +kernel
theorem dX7_start_52 : decode cX7_start 52 = .ok (.iconst 0, 1) := by decide +kernel
theorem dX7_start_53 : decode cX7_start 53 = .ok (.putfield 39, 3) := by decide +kernel
theorem dX7_start_56 : decode cX7_start 56 = .ok (.aload_n 0, 1) := by decide +kernel
theorem dX7_start_57 : decode cX7_start 57 = .ok (.iconst (-1), 1) := by decide +kernel
theorem dX7_start_58 : decode cX7_start 58 = .ok (.putfield 42, 3) := by decide +kernel
theorem dX7_start_61 : decode cX7_start 61 = .ok (.aload_n 0, 1) := by decide +kernel
theorem dX7_start_62 : decode cX7_start 62 = .ok (.iconst 0, 1) := by decide +kernel
theorem dX7_start_63 : decode cX7_start 63 = .ok (.putfield 45, 3) := by decide +kernel
theorem dX7_start_66 : decode cX7_start 66 = .ok (.aload_n 0, 1) := by decide +kernel
theorem dX7_start_67 : decode cX7_start 67 = .ok (.iconst (-1), 1) := by decide +kernel
theorem dX7_start_68 : decode cX7_start 68 = .ok (.putfield 48, 3) := by decide +kernel
theorem dX7_start_71 : decode cX7_start 71 = .ok (.aload_n 0, 1) := by decide +kernel
theorem dX7_start_72 : decode cX7_start 72 = .ok (.iconst 0, 1) := by decide +kernel
theorem dX7_start_73 : decode cX7_start 73 = .ok (.putfield 62, 3) := by decide +kernel
theorem dX7_start_76 : decode cX7_start 76 = .ok (.return_, 1) := by decide +kernel
theorem dX7_tellSign_0 : decode cX7_tellSign 0 = .ok (.aload_n 0, 1) := by decide +kernel
theorem dX7_tellSign_1 : decode cX7_tellSign 1 = .ok (.aload_n 0, 1) := by decide +kernel
theorem dX7_tellSign_2 : decode cX7_tellSign 2 = .ok (.getfield 21, 3) := by decide +kernel
theorem dX7_tellSign_5 : decode cX7_tellSign 5 = .ok (.getfield 103, 3) := by decide +kernel
theorem dX7_tellSign_8 : decode cX7_tellSign 8 = .ok (.bipush 6, 2) := by decide +kernel
theorem dX7_tellSign_10 : decode cX7_tellSign 10 = .ok (.if_icmp .ge 7, 3) := by decide +kernel
theorem dX7_tellSign_13 : decode cX7_tellSign 13 = .ok (.iconst 1, 1) := by decide +kernel
theorem dX7_tellSign_14 : decode cX7_tellSign 14 = .ok (.goto 4, 3) := by decide +kernel
theorem dX7_tellSign_17 : decode cX7_tellSign 17 = .ok (.iconst 0, 1) := by decide +kernel
theorem dX7_tellSign_18 : decode cX7_tellSign 18 = .ok (.invokevirtual 106, 3) := by decide +kernel
theorem dX7_tellSign_21 : decode cX7_tellSign 21 = .ok (.ifCond .ne 4, 3) := by decide +kernel
theorem dX7_tellSign_24 : decode cX7_tellSign 24 = .ok (.return_, 1) := by decide +kernel
theorem dX7_tellSign_25 : decode cX7_tellSign 25 = .ok (.iconst 0, 1) := by decide +kernel
theorem dX7_tellSign_26 : decode cX7_tellSign 26 = .ok (.aload_n 0, 1) := by decide +kernel
theorem dX7_tellSign_27 : decode cX7_tellSign 27 = .ok (.getfield 21, 3) := by decide +kernel
theorem dX7_tellSign_30 : decode cX7_tellSign 30 = .ok (.getfield 103, 3) := by decide +kernel
theorem dX7_tellSign_33 : decode cX7_tellSign 33 = .ok (.iadd, 1) := by decide +kernel
theorem dX7_tellSign_34 : decode cX7_tellSign 34 = .ok (.istore_n 1, 1) := by decide +kernel
theorem dX7_tellSign_35 : decode cX7_tellSign 35 = .ok (.aload_n 0, 1) := by decide +kernel
theorem dX7_tellSign_36 : decode cX7_tellSign 36 = .ok (.iconst 0, 1) := by decide +kernel
theorem dX7_tellSign_37 : decode cX7_tellSign 37 = .ok (.aload_n 0, 1) := by decide +kernel
theorem dX7_tellSign_38 : decode cX7_tellSign 38 = .ok (.getfield 21, 3) := by decide +kernel
theorem dX7_tellSign_41 : decode cX7_tellSign 41 = .ok (.getfield 103, 3) := by decide +kernel
theorem dX7_tellSign_44 : decode cX7_tellSign 44 = .ok (.invokevirtual 110, 3) := by decide +kernel
theorem dX7_tellSign_47 : decode cX7_tellSign 47 = .ok (.aload_n 0, 1) := by decide +kernel
theorem dX7_tellSign_48 : decode cX7_tellSign 48 = .ok (.iconst 1, 1) := by decide +kernel
theorem dX7_tellSign_49 : decode cX7_tellSign 49 = .ok (.invokevirtual 114, 3) := by decide +kernel
theorem dX7_tellSign_52 : decode cX7_tellSign 52 = .ok (.aload_n 0, 1) := by decide +kernel
theorem dX7_tellSign_53 : decode cX7_tellSign 53 = .ok (.getfield 21, 3) := by decide +kernel
theorem dX7_tellSign_56 : decode cX7_tellSign 56 = .ok (.iload_n 1, 1) := by decide +kernel
theorem dX7_tellSign_57 : decode cX7_tellSign 57 = .ok (.invokevirtual 117, 3) := by decide +kernel
theorem dX7_tellSign_60 : decode cX7_tellSign 60 = .ok (.aload_n 0, 1) := by decide +kernel
theorem dX7_tellSign_61 : decode cX7_tellSign 61 = .ok (.invokevirtual 120, 3) := by decide +kernel
theorem dX7_tellSign_64 : decode cX7_tellSign 64 = .ok (.aload_n 0, 1) := by decide +kernel
theorem dX7_tellSign_65 : decode cX7_tellSign 65 = .ok (.getfield 21, 3) := by decide +kernel
theorem dX7_tellSign_68 : decode cX7_tellSign 68 = .ok (.iload_n 1, 1) := by decide +kernel
theorem dX7_tellSign_69 : decode cX7_tellSign 69 = .ok (.invokevirtual 123, 3) := by decide +kernel
theorem dX7_tellSign_72 : decode cX7_tellSign 72 = .ok (.aload_n 0, 1) := by decide +kernel
theorem dX7_tellSign_73 : decode cX7_tellSign 73 = .ok (.bipush 25, 2) := by decide +kernel
theorem dX7_tellSign_75 : decode cX7_tellSign 75 = .ok (.invokevirtual 114, 3) := by decide +kernel
theorem dX7_tellSign_78 : decode cX7_tellSign 78 = .ok (.aload_n 0, 1) := by decide +kernel
theorem dX7_tellSign_79 : decode cX7_tellSign 79 = .ok (.getfield 21, 3) := by decide +kernel
theorem dX7_tellSign_82 : decode cX7_tellSign 82 = .ok (.dup, 1) := by decide +kernel
theorem dX7_tellSign_83 : decode cX7_tellSign 83 = .ok (.getfield 103, 3) := by decide +kernel
theorem dX7_tellSign_86 : decode cX7_tellSign 86 = .ok (.iconst 1, 1) := by decide +kernel
theorem dX7_tellSign_87 : decode cX7_tellSign 87 = .ok (.iadd, 1) := by decide +kernel
theorem dX7_tellSign_88 : decode cX7_tellSign 88 = .ok (.putfield 103, 3) := by decide +kernel
theorem dX7_tellSign_91 : decode cX7_tellSign 91 = .ok (.return_, 1) := by decide +kernel
theorem dX7_tellSay_0 : decode cX7_tellSay 0 = .ok (.aload_n 0, 1) := by decide +kernel
theorem dX7_tellSay_1 : decode cX7_tellSay 1 = .ok (.aload_n 0, 1) := by decide +kernel
theorem dX7_tellSay_2 : decode cX7_tellSay 2 = .ok (.getfield 21, 3) := by decide +kernel
theorem dX7_tellSay_5 : decode cX7_tellSay 5 = .ok (.getfield 126, 3) := by decide +kernel
theorem dX7_tellSay_8 : decode cX7_tellSay 8 = .ok (.bipush 16, 2) := by decide +kernel
theorem dX7_tellSay_10 : decode cX7_tellSay 10 = .ok (.if_icmp .ge 7, 3) := by decide +kernel
theorem dX7_tellSay_13 : decode cX7_tellSay 13 = .ok (.iconst 1, 1) := by decide +kernel
theorem dX7_tellSay_14 : decode cX7_tellSay 14 = .ok (.goto 4, 3) := by decide +kernel
theorem dX7_tellSay_17 : decode cX7_tellSay 17 = .ok (.iconst 0, 1) := by decide +kernel
theorem dX7_tellSay_18 : decode cX7_tellSay 18 = .ok (.invokevirtual 106, 3) := by decide +kernel
theorem dX7_tellSay_21 : decode cX7_tellSay 21 = .ok (.ifCond .ne 4, 3) := by decide +kernel
theorem dX7_tellSay_24 : decode cX7_tellSay 24 = .ok (.return_, 1) := by decide +kernel
theorem dX7_tellSay_25 : decode cX7_tellSay 25 = .ok (.bipush 6, 2) := by decide +kernel
theorem dX7_tellSay_27 : decode cX7_tellSay 27 = .ok (.aload_n 0, 1) := by decide +kernel
theorem dX7_tellSay_28 : decode cX7_tellSay 28 = .ok (.getfield 21, 3) := by decide +kernel
theorem dX7_tellSay_31 : decode cX7_tellSay 31 = .ok (.getfield 126, 3) := by decide +kernel
theorem dX7_tellSay_34 : decode cX7_tellSay 34 = .ok (.iadd, 1) := by decide +kernel
theorem dX7_tellSay_35 : decode cX7_tellSay 35 = .ok (.istore_n 1, 1) := by decide +kernel
theorem dX7_tellSay_36 : decode cX7_tellSay 36 = .ok (.aload_n 0, 1) := by decide +kernel
theorem dX7_tellSay_37 : decode cX7_tellSay 37 = .ok (.iconst 2, 1) := by decide +kernel
theorem dX7_tellSay_38 : decode cX7_tellSay 38 = .ok (.aload_n 0, 1) := by decide +kernel
theorem dX7_tellSay_39 : decode cX7_tellSay 39 = .ok (.getfield 21, 3) := by decide +kernel
theorem dX7_tellSay_42 : decode cX7_tellSay 42 = .ok (.getfield 126, 3) := by decide +kernel
theorem dX7_tellSay_45 : decode cX7_tellSay 45 = .ok (.invokevirtual 110, 3) := by decide +kernel
theorem dX7_tellSay_48 : decode cX7_tellSay 48 = .ok (.aload_n 0, 1) := by decide +kernel
theorem dX7_tellSay_49 : decode cX7_tellSay 49 = .ok (.getfield 29, 3) := by decide +kernel
theorem dX7_tellSay_52 : decode cX7_tellSay 52 = .ok (.bipush 16, 2) := by decide +kernel
theorem dX7_tellSay_54 : decode cX7_tellSay 54 = .ok (.bipush 22, 2) := by decide +kernel
theorem dX7_tellSay_56 : decode cX7_tellSay 56 = .ok (.invokestatic 129, 3) := by decide +kernel
theorem dX7_tellSay_59 : decode cX7_tellSay 59 = .ok (.ifCond .eq 32, 3) := by decide +kernel
theorem dX7_tellSay_62 : decode cX7_tellSay 62 = .ok (.aload_n 0, 1) := by decide +kernel
theorem dX7_tellSay_63 : decode cX7_tellSay 63 = .ok (.getfield 21, 3) := by decide +kernel
theorem dX7_tellSay_66 : decode cX7_tellSay 66 = .ok (.getfield 133, 3) := by decide +kernel
theorem dX7_tellSay_69 : decode cX7_tellSay 69 = .ok (.aload_n 0, 1) := by decide +kernel
theorem dX7_tellSay_70 : decode cX7_tellSay 70 = .ok (.getfield 21, 3) := by decide +kernel
theorem dX7_tellSay_73 : decode cX7_tellSay 73 = .ok (.getfield 126, 3) := by decide +kernel
theorem dX7_tellSay_76 : decode cX7_tellSay 76 = .ok (.aload_n 0, 1) := by decide +kernel
theorem dX7_tellSay_77 : decode cX7_tellSay 77 = .ok (.getfield 29, 3) := by decide +kernel
theorem dX7_tellSay_80 : decode cX7_tellSay 80 = .ok (.bipush 16, 2) := by decide +kernel
theorem dX7_tellSay_82 : decode cX7_tellSay 82 = .ok (.isub, 1) := by decide +kernel
theorem dX7_tellSay_83 : decode cX7_tellSay 83 = .ok (.iastore, 1) := by decide +kernel
theorem dX7_tellSay_84 : decode cX7_tellSay 84 = .ok (.aload_n 0, 1) := by decide +kernel
theorem dX7_tellSay_85 : decode cX7_tellSay 85 = .ok (.invokevirtual 136, 3) := by decide +kernel
theorem dX7_tellSay_88 : decode cX7_tellSay 88 = .ok (.goto 8, 3) := by decide +kernel
theorem dX7_tellSay_91 : decode cX7_tellSay 91 = .ok (.aload_n 0, 1) := by decide +kernel
theorem dX7_tellSay_92 : decode cX7_tellSay 92 = .ok (.iconst 1, 1) := by decide +kernel
theorem dX7_tellSay_93 : decode cX7_tellSay 93 = .ok (.invokevirtual 87, 3) := by decide +kernel
theorem dX7_tellSay_96 : decode cX7_tellSay 96 = .ok (.aload_n 0, 1) := by decide +kernel
theorem dX7_tellSay_97 : decode cX7_tellSay 97 = .ok (.iconst 1, 1) := by decide +kernel
theorem dX7_tellSay_98 : decode cX7_tellSay 98 = .ok (.invokevirtual 114, 3) := by decide +kernel
theorem dX7_tellSay_101 : decode cX7_tellSay 101 = .ok (.aload_n 0, 1) := by decide +kernel
theorem dX7_tellSay_102 : decode cX7_tellSay 102 = .ok (.getfield 21, 3) := by decide +kernel
theorem dX7_tellSay_105 : decode cX7_tellSay 105 = .ok (.iload_n 1, 1) := by decide +kernel
theorem dX7_tellSay_106 : decode cX7_tellSay 106 = .ok (.invokevirtual 117, 3) := by decide +kernel
theorem dX7_tellSay_109 : decode cX7_tellSay 109 = .ok (.aload_n 0, 1) := by decide +kernel
theorem dX7_tellSay_110 : decode cX7_tellSay 110 = .ok (.invokevirtual 120, 3) := by decide +kernel
theorem dX7_tellSay_113 : decode cX7_tellSay 113 = .ok (.aload_n 0, 1) := by decide +kernel
theorem dX7_tellSay_114 : decode cX7_tellSay 114 = .ok (.getfield 21, 3) := by decide +kernel
theorem dX7_tellSay_117 : decode cX7_tellSay 117 = .ok (.iload_n 1, 1) := by decide +kernel
theorem dX7_tellSay_118 : decode cX7_tellSay 118 = .ok (.invokevirtual 123, 3) := by decide +kernel
theorem dX7_tellSay_121 : decode cX7_tellSay 121 = .ok (.aload_n 0, 1) := by decide +kernel
theorem dX7_tellSay_122 : decode cX7_tellSay 122 = .ok (.bipush 25, 2) := by decide +kernel
theorem dX7_tellSay_124 : decode cX7_tellSay 124 = .ok (.invokevirtual 114, 3) := by decide +kernel
theorem dX7_tellSay_127 : decode cX7_tellSay 127 = .ok (.aload_n 0, 1) := by decide +kernel
theorem dX7_tellSay_128 : decode cX7_tellSay 128 = .ok (.getfield 21, 3) := by decide +kernel
theorem dX7_tellSay_131 : decode cX7_tellSay 131 = .ok (.dup, 1) := by decide +kernel
theorem dX7_tellSay_132 : decode cX7_tellSay 132 = .ok (.getfield 126, 3) := by decide +kernel
theorem dX7_tellSay_135 : decode cX7_tellSay 135 = .ok (.iconst 1, 1) := by decide +kernel
theorem dX7_tellSay_136 : decode cX7_tellSay 136 = .ok (.iadd, 1) := by decide +kernel
theorem dX7_tellSay_137 : decode cX7_tellSay 137 = .ok (.putfield 126, 3) := by decide +kernel
theorem dX7_tellSay_140 : decode cX7_tellSay 140 = .ok (.return_, 1) := by decide +kernel
theorem dX7_tellBook_0 : decode cX7_tellBook 0 = .ok (.aload_n 0, 1) := by decide +kernel
theorem dX7_tellBook_1 : decode cX7_tellBook 1 = .ok (.aload_n 0, 1) := by decide +kernel
theorem dX7_tellBook_2 : decode cX7_tellBook 2 = .ok (.getfield 21, 3) := by decide +kernel
theorem dX7_tellBook_5 : decode cX7_tellBook 5 = .ok (.getfield 139, 3) := by decide +kernel
theorem dX7_tellBook_8 : decode cX7_tellBook 8 = .ok (.iconst 4, 1) := by decide +kernel
theorem dX7_tellBook_9 : decode cX7_tellBook 9 = .ok (.if_icmp .ge 7, 3) := by decide +kernel
theorem dX7_tellBook_12 : decode cX7_tellBook 12 = .ok (.iconst 1, 1) := by decide +kernel
theorem dX7_tellBook_13 : decode cX7_tellBook 13 = .ok (.goto 4, 3) := by decide +kernel
theorem dX7_tellBook_16 : decode cX7_tellBook 16 = .ok (.iconst 0, 1) := by decide +kernel
theorem dX7_tellBook_17 : decode cX7_tellBook 17 = .ok (.invokevirtual 106, 3) := by decide +kernel
theorem dX7_tellBook_20 : decode cX7_tellBook 20 = .ok (.ifCond .ne 4, 3) := by decide +kernel
theorem dX7_tellBook_23 : decode cX7_tellBook 23 = .ok (.return_, 1) := by decide +kernel
theorem dX7_tellBook_24 : decode cX7_tellBook 24 = .ok (.aload_n 0, 1) := by decide +kernel
theorem dX7_tellBook_25 : decode cX7_tellBook 25 = .ok (.iconst 3, 1) := by decide +kernel
theorem dX7_tellBook_26 : decode cX7_tellBook 26 = .ok (.aload_n 0, 1) := by decide +kernel
theorem dX7_tellBook_27 : decode cX7_tellBook 27 = .ok (.getfield 21, 3) := by decide +kernel
theorem dX7_tellBook_30 : decode cX7_tellBook 30 = .ok (.getfield 139, 3) := by decide +kernel
theorem dX7_tellBook_33 : decode cX7_tellBook 33 = .ok (.invokevirtual 110, 3) := by decide +kernel
theorem dX7_tellBook_36 : decode cX7_tellBook 36 = .ok (.aload_n 0, 1) := by decide +kernel
theorem dX7_tellBook_37 : decode cX7_tellBook 37 = .ok (.bipush 25, 2) := by decide +kernel
theorem dX7_tellBook_39 : decode cX7_tellBook 39 = .ok (.invokevirtual 114, 3) := by decide +kernel
theorem dX7_tellBook_42 : decode cX7_tellBook 42 = .ok (.aload_n 0, 1) := by decide +kernel
theorem dX7_tellBook_43 : decode cX7_tellBook 43 = .ok (.getfield 21, 3) := by decide +kernel
theorem dX7_tellBook_46 : decode cX7_tellBook 46 = .ok (.dup, 1) := by decide +kernel
theorem dX7_tellBook_47 : decode cX7_tellBook 47 = .ok (.getfield 139, 3) := by decide +kernel
theorem dX7_tellBook_50 : decode cX7_tellBook 50 = .ok (.iconst 1, 1) := by decide +kernel
theorem dX7_tellBook_51 : decode cX7_tellBook 51 = .ok (.iadd, 1) := by decide +kernel
theorem dX7_tellBook_52 : decode cX7_tellBook 52 = .ok (.putfield 139, 3) := by decide +kernel
theorem dX7_tellBook_55 : decode cX7_tellBook 55 = .ok (.return_, 1) := by decide +kernel
theorem dX7_tellWhen_0 : decode cX7_tellWhen 0 = .ok (.aload_n 0, 1) := by decide +kernel
theorem dX7_tellWhen_1 : decode cX7_tellWhen 1 = .ok (.getfield 21, 3) := by decide +kernel
theorem dX7_tellWhen_4 : decode cX7_tellWhen 4 = .ok (.getfield 139, 3) := by decide +kernel
theorem dX7_tellWhen_7 : decode cX7_tellWhen 7 = .ok (.ifCond .ne 8, 3) := by decide +kernel
theorem dX7_tellWhen_10 : decode cX7_tellWhen 10 = .ok (.aload_n 0, 1) := by decide +kernel
theorem dX7_tellWhen_11 : decode cX7_tellWhen 11 = .ok (.iconst 4, 1) := by decide +kernel
theorem dX7_tellWhen_12 : decode cX7_tellWhen 12 = .ok (.invokevirtual 142, 3) := by decide +kernel
theorem dX7_tellWhen_15 : decode cX7_tellWhen 15 = .ok (.aload_n 0, 1) := by decide +kernel
theorem dX7_tellWhen_16 : decode cX7_tellWhen 16 = .ok (.aload_n 0, 1) := by decide +kernel
theorem dX7_tellWhen_17 : decode cX7_tellWhen 17 = .ok (.getfield 21, 3) := by decide +kernel
theorem dX7_tellWhen_20 : decode cX7_tellWhen 20 = .ok (.getfield 145, 3) := by decide +kernel
theorem dX7_tellWhen_23 : decode cX7_tellWhen 23 = .ok (.bipush 40, 2) := by decide +kernel
theorem dX7_tellWhen_25 : decode cX7_tellWhen 25 = .ok (.if_icmp .ge 7, 3) := by decide +kernel
theorem dX7_tellWhen_28 : decode cX7_tellWhen 28 = .ok (.iconst 1, 1) := by decide +kernel
theorem dX7_tellWhen_29 : decode cX7_tellWhen 29 = .ok (.goto 4, 3) := by decide +kernel
theorem dX7_tellWhen_32 : decode cX7_tellWhen 32 = .ok (.iconst 0, 1) := by decide +kernel
theorem dX7_tellWhen_33 : decode cX7_tellWhen 33 = .ok (.invokevirtual 106, 3) := by decide +kernel
theorem dX7_tellWhen_36 : decode cX7_tellWhen 36 = .ok (.ifCond .ne 4, 3) := by decide +kernel
theorem dX7_tellWhen_39 : decode cX7_tellWhen 39 = .ok (.return_, 1) := by decide +kernel
theorem dX7_tellWhen_40 : decode cX7_tellWhen 40 = .ok (.aload_n 0, 1) := by decide +kernel
theorem dX7_tellWhen_41 : decode cX7_tellWhen 41 = .ok (.getfield 21, 3) := by decide +kernel
theorem dX7_tellWhen_44 : decode cX7_tellWhen 44 = .ok (.getfield 139, 3) := by decide +kernel
theorem dX7_tellWhen_47 : decode cX7_tellWhen 47 = .ok (.iconst 1, 1) := by decide +kernel
theorem dX7_tellWhen_48 : decode cX7_tellWhen 48 = .ok (.isub, 1) := by decide +kernel
theorem dX7_tellWhen_49 : decode cX7_tellWhen 49 = .ok (.istore_n 1, 1) := by decide +kernel
theorem dX7_tellWhen_50 : decode cX7_tellWhen 50 = .ok (.aload_n 0, 1) := by decide +kernel
theorem dX7_tellWhen_51 : decode cX7_tellWhen 51 = .ok (.iconst 0, 1) := by decide +kernel
theorem dX7_tellWhen_52 : decode cX7_tellWhen 52 = .ok (.invokevirtual 148, 3) := by decide +kernel
theorem dX7_tellWhen_55 : decode cX7_tellWhen 55 = .ok (.istore_n 2, 1) := by decide +kernel
theorem dX7_tellWhen_56 : decode cX7_tellWhen 56 = .ok (.aload_n 0, 1) := by decide +kernel
theorem dX7_tellWhen_57 : decode cX7_tellWhen 57 = .ok (.bipush 23, 2) := by decide +kernel
theorem dX7_tellWhen_59 : decode cX7_tellWhen 59 = .ok (.invokevirtual 114, 3) := by decide +kernel
theorem dX7_tellWhen_62 : decode cX7_tellWhen 62 = .ok (.aload_n 0, 1) := by decide +kernel
theorem dX7_tellWhen_63 : decode cX7_tellWhen 63 = .ok (.iconst 2, 1) := by decide +kernel
theorem dX7_tellWhen_64 : decode cX7_tellWhen 64 = .ok (.invokevirtual 114, 3) := by decide +kernel
theorem dX7_tellWhen_67 : decode cX7_tellWhen 67 = .ok (.aload_n 0, 1) := by decide +kernel
theorem dX7_tellWhen_68 : decode cX7_tellWhen 68 = .ok (.iconst 2, 1) := by decide +kernel
theorem dX7_tellWhen_69 : decode cX7_tellWhen 69 = .ok (.invokevirtual 148, 3) := by decide +kernel
theorem dX7_tellWhen_72 : decode cX7_tellWhen 72 = .ok (.istore_n 3, 1) := by decide +kernel
theorem dX7_tellWhen_73 : decode cX7_tellWhen 73 = .ok (.iload_n 2, 1) := by decide +kernel
theorem dX7_tellWhen_74 : decode cX7_tellWhen 74 = .ok (.iconst (-1), 1) := by decide +kernel
theorem dX7_tellWhen_75 : decode cX7_tellWhen 75 = .ok (.if_icmp .eq 26, 3) := by decide +kernel
theorem dX7_tellWhen_78 : decode cX7_tellWhen 78 = .ok (.iload_n 3, 1) := by decide +kernel
theorem dX7_tellWhen_79 : decode cX7_tellWhen 79 = .ok (.iconst (-1), 1) := by decide +kernel
theorem dX7_tellWhen_80 : decode cX7_tellWhen 80 = .ok (.if_icmp .eq 21, 3) := by decide +kernel
theorem dX7_tellWhen_83 : decode cX7_tellWhen 83 = .ok (.aload_n 0, 1) := by decide +kernel
theorem dX7_tellWhen_84 : decode cX7_tellWhen 84 = .ok (.getfield 21, 3) := by decide +kernel
theorem dX7_tellWhen_87 : decode cX7_tellWhen 87 = .ok (.iload_n 1, 1) := by decide +kernel
theorem dX7_tellWhen_88 : decode cX7_tellWhen 88 = .ok (.iload_n 2, 1) := by decide +kernel
theorem dX7_tellWhen_89 : decode cX7_tellWhen 89 = .ok (.iload_n 3, 1) := by decide +kernel
theorem dX7_tellWhen_90 : decode cX7_tellWhen 90 = .ok (.invokevirtual 152, 3) := by decide +kernel
theorem dX7_tellWhen_93 : decode cX7_tellWhen 93 = .ok (.ifCond .eq 8, 3) := by decide +kernel
theorem dX7_tellWhen_96 : decode cX7_tellWhen 96 = .ok (.aload_n 0, 1) := by decide +kernel
theorem dX7_tellWhen_97 : decode cX7_tellWhen 97 = .ok (.iconst 3, 1) := by decide +kernel
theorem dX7_tellWhen_98 : decode cX7_tellWhen 98 = .ok (.invokevirtual 142, 3) := by decide +kernel
theorem dX7_tellWhen_101 : decode cX7_tellWhen 101 = .ok (.aload_n 0, 1) := by decide +kernel
theorem dX7_tellWhen_102 : decode cX7_tellWhen 102 = .ok (.bipush 23, 2) := by decide +kernel
theorem dX7_tellWhen_104 : decode cX7_tellWhen 104 = .ok (.invokevirtual 114, 3) := by decide +kernel
theorem dX7_tellWhen_107 : decode cX7_tellWhen 107 = .ok (.aload_n 0, 1) := by decide +kernel
theorem dX7_tellWhen_108 : decode cX7_tellWhen 108 = .ok (.bipush 25, 2) := by decide +kernel
theorem dX7_tellWhen_110 : decode cX7_tellWhen 110 = .ok (.invokevirtual 114, 3) := by decide +kernel
theorem dX7_tellWhen_113 : decode cX7_tellWhen 113 = .ok (.aload_n 0, 1) := by decide +kernel
theorem dX7_tellWhen_114 : decode cX7_tellWhen 114 = .ok (.getfield 21, 3) := by decide +kernel
theorem dX7_tellWhen_117 : decode cX7_tellWhen 117 = .ok (.iload_n 1, 1) := by decide +kernel
theorem dX7_tellWhen_118 : decode cX7_tellWhen 118 = .ok (.iload_n 2, 1) := by decide +kernel
theorem dX7_tellWhen_119 : decode cX7_tellWhen 119 = .ok (.iload_n 3, 1) := by decide +kernel
theorem dX7_tellWhen_120 : decode cX7_tellWhen 120 = .ok (.invokevirtual 155, 3) := by decide +kernel
theorem dX7_tellWhen_123 : decode cX7_tellWhen 123 = .ok (.return_, 1) := by decide +kernel
theorem dX7_tellLaw_0 : decode cX7_tellLaw 0 = .ok (.aload_n 0, 1) := by decide +kernel
theorem dX7_tellLaw_1 : decode cX7_tellLaw 1 = .ok (.aload_n 0, 1) := by decide +kernel
theorem dX7_tellLaw_2 : decode cX7_tellLaw 2 = .ok (.getfield 21, 3) := by decide +kernel
theorem dX7_tellLaw_5 : decode cX7_tellLaw 5 = .ok (.getfield 159, 3) := by decide +kernel
theorem dX7_tellLaw_8 : decode cX7_tellLaw 8 = .ok (.iconst 4, 1) := by decide +kernel
theorem dX7_tellLaw_9 : decode cX7_tellLaw 9 = .ok (.if_icmp .ge 7, 3) := by decide +kernel
theorem dX7_tellLaw_12 : decode cX7_tellLaw 12 = .ok (.iconst 1, 1) := by decide +kernel
theorem dX7_tellLaw_13 : decode cX7_tellLaw 13 = .ok (.goto 4, 3) := by decide +kernel
theorem dX7_tellLaw_16 : decode cX7_tellLaw 16 = .ok (.iconst 0, 1) := by decide +kernel
theorem dX7_tellLaw_17 : decode cX7_tellLaw 17 = .ok (.invokevirtual 106, 3) := by decide +kernel
theorem dX7_tellLaw_20 : decode cX7_tellLaw 20 = .ok (.ifCond .ne 4, 3) := by decide +kernel
theorem dX7_tellLaw_23 : decode cX7_tellLaw 23 = .ok (.return_, 1) := by decide +kernel
theorem dX7_tellLaw_24 : decode cX7_tellLaw 24 = .ok (.bipush 22, 2) := by decide +kernel
theorem dX7_tellLaw_26 : decode cX7_tellLaw 26 = .ok (.aload_n 0, 1) := by decide +kernel
theorem dX7_tellLaw_27 : decode cX7_tellLaw 27 = .ok (.getfield 21, 3) := by decide +kernel
theorem dX7_tellLaw_30 : decode cX7_tellLaw 30 = .ok (.getfield 159, 3) := by decide +kernel
theorem dX7_tellLaw_33 : decode cX7_tellLaw 33 = .ok (.iadd, 1) := by decide +kernel
theorem dX7_tellLaw_34 : decode cX7_tellLaw 34 = .ok (.istore_n 1, 1) := by decide +kernel
theorem dX7_tellLaw_35 : decode cX7_tellLaw 35 = .ok (.aload_n 0, 1) := by decide +kernel
theorem dX7_tellLaw_36 : decode cX7_tellLaw 36 = .ok (.iconst 5, 1) := by decide +kernel
theorem dX7_tellLaw_37 : decode cX7_tellLaw 37 = .ok (.aload_n 0, 1) := by decide +kernel
theorem dX7_tellLaw_38 : decode cX7_tellLaw 38 = .ok (.getfield 21, 3) := by decide +kernel
theorem dX7_tellLaw_41 : decode cX7_tellLaw 41 = .ok (.getfield 159, 3) := by decide +kernel
theorem dX7_tellLaw_44 : decode cX7_tellLaw 44 = .ok (.invokevirtual 110, 3) := by decide +kernel
theorem dX7_tellLaw_47 : decode cX7_tellLaw 47 = .ok (.aload_n 0, 1) := by decide +kernel
theorem dX7_tellLaw_48 : decode cX7_tellLaw 48 = .ok (.bipush 26, 2) := by decide +kernel
theorem dX7_tellLaw_50 : decode cX7_tellLaw 50 = .ok (.invokevirtual 114, 3) := by decide +kernel
theorem dX7_tellLaw_53 : decode cX7_tellLaw 53 = .ok (.aload_n 0, 1) := by decide +kernel
theorem dX7_tellLaw_54 : decode cX7_tellLaw 54 = .ok (.getfield 21, 3) := by decide +kernel
theorem dX7_tellLaw_57 : decode cX7_tellLaw 57 = .ok (.iload_n 1, 1) := by decide +kernel
theorem dX7_tellLaw_58 : decode cX7_tellLaw 58 = .ok (.invokevirtual 117, 3) := by decide +kernel
theorem dX7_tellLaw_61 : decode cX7_tellLaw 61 = .ok (.aload_n 0, 1) := by decide +kernel
theorem dX7_tellLaw_62 : decode cX7_tellLaw 62 = .ok (.iconst 0, 1) := by decide +kernel
theorem dX7_tellLaw_63 : decode cX7_tellLaw 63 = .ok (.invokevirtual 162, 3) := by decide +kernel
theorem dX7_tellLaw_66 : decode cX7_tellLaw 66 = .ok (.aload_n 0, 1) := by decide +kernel
theorem dX7_tellLaw_67 : decode cX7_tellLaw 67 = .ok (.getfield 21, 3) := by decide +kernel
theorem dX7_tellLaw_70 : decode cX7_tellLaw 70 = .ok (.iload_n 1, 1) := by decide +kernel
theorem dX7_tellLaw_71 : decode cX7_tellLaw 71 = .ok (.invokevirtual 123, 3) := by decide +kernel
theorem dX7_tellLaw_74 : decode cX7_tellLaw 74 = .ok (.aload_n 0, 1) := by decide +kernel
theorem dX7_tellLaw_75 : decode cX7_tellLaw 75 = .ok (.bipush 25, 2) := by decide +kernel
theorem dX7_tellLaw_77 : decode cX7_tellLaw 77 = .ok (.invokevirtual 114, 3) := by decide +kernel
theorem dX7_tellLaw_80 : decode cX7_tellLaw 80 = .ok (.aload_n 0, 1) := by decide +kernel
theorem dX7_tellLaw_81 : decode cX7_tellLaw 81 = .ok (.getfield 21, 3) := by decide +kernel
theorem dX7_tellLaw_84 : decode cX7_tellLaw 84 = .ok (.dup, 1) := by decide +kernel
theorem dX7_tellLaw_85 : decode cX7_tellLaw 85 = .ok (.getfield 159, 3) := by decide +kernel
theorem dX7_tellLaw_88 : decode cX7_tellLaw 88 = .ok (.iconst 1, 1) := by decide +kernel
theorem dX7_tellLaw_89 : decode cX7_tellLaw 89 = .ok (.iadd, 1) := by decide +kernel
theorem dX7_tellLaw_90 : decode cX7_tellLaw 90 = .ok (.putfield 159, 3) := by decide +kernel
theorem dX7_tellLaw_93 : decode cX7_tellLaw 93 = .ok (.return_, 1) := by decide +kernel
theorem dX7_tellName_0 : decode cX7_tellName 0 = .ok (.aload_n 0, 1) := by decide +kernel
theorem dX7_tellName_1 : decode cX7_tellName 1 = .ok (.getfield 29, 3) := by decide +kernel
theorem dX7_tellName_4 : decode cX7_tellName 4 = .ok (.bipush 23, 2) := by decide +kernel
theorem dX7_tellName_6 : decode cX7_tellName 6 = .ok (.if_icmp .eq 9, 3) := by decide +kernel
theorem dX7_tellName_9 : decode cX7_tellName 9 = .ok (.aload_n 0, 1) := by decide +kernel
theorem dX7_tellName_10 : decode cX7_tellName 10 = .ok (.iconst 1, 1) := by decide +kernel
theorem dX7_tellName_11 : decode cX7_tellName 11 = .ok (.invokevirtual 87, 3) := by decide +kernel
theorem dX7_tellName_14 : decode cX7_tellName 14 = .ok (.return_, 1) := by decide +kernel
theorem dX7_tellName_15 : decode cX7_tellName 15 = .ok (.aload_n 0, 1) := by decide +kernel
theorem dX7_tellName_16 : decode cX7_tellName 16 = .ok (.aload_n 0, 1) := by decide +kernel
theorem dX7_tellName_17 : decode cX7_tellName 17 = .ok (.getfield 32, 3) := by decide +kernel
theorem dX7_tellName_20 : decode cX7_tellName 20 = .ok (.invokevirtual 165, 3) := by decide +kernel
theorem dX7_tellName_23 : decode cX7_tellName 23 = .ok (.iconst (-1), 1) := by decide +kernel
theorem dX7_tellName_24 : decode cX7_tellName 24 = .ok (.if_icmp .eq 11, 3) := by decide +kernel
theorem dX7_tellName_27 : decode cX7_tellName 27 = .ok (.aload_n 0, 1) := by decide +kernel
theorem dX7_tellName_28 : decode cX7_tellName 28 = .ok (.iconst 3, 1) := by decide +kernel
theorem dX7_tellName_29 : decode cX7_tellName 29 = .ok (.invokevirtual 142, 3) := by decide +kernel
theorem dX7_tellName_32 : decode cX7_tellName 32 = .ok (.goto 55, 3) := by decide +kernel
theorem dX7_tellName_35 : decode cX7_tellName 35 = .ok (.aload_n 0, 1) := by decide +kernel
theorem dX7_tellName_36 : decode cX7_tellName 36 = .ok (.getfield 62, 3) := by decide +kernel
theorem dX7_tellName_39 : decode cX7_tellName 39 = .ok (.bipush 30, 2) := by decide +kernel
theorem dX7_tellName_41 : decode cX7_tellName 41 = .ok (.if_icmp .ge 46, 3) := by decide +kernel
theorem dX7_tellName_44 : decode cX7_tellName 44 = .ok (.aload_n 0, 1) := by decide +kernel
theorem dX7_tellName_45 : decode cX7_tellName 45 = .ok (.getfield 51, 3) := by decide +kernel
theorem dX7_tellName_48 : decode cX7_tellName 48 = .ok (.aload_n 0, 1) := by decide +kernel
theorem dX7_tellName_49 : decode cX7_tellName 49 = .ok (.getfield 62, 3) := by decide +kernel
theorem dX7_tellName_52 : decode cX7_tellName 52 = .ok (.aload_n 0, 1) := by decide +kernel
theorem dX7_tellName_53 : decode cX7_tellName 53 = .ok (.getfield 32, 3) := by decide +kernel
theorem dX7_tellName_56 : decode cX7_tellName 56 = .ok (.lastore, 1) := by decide +kernel
theorem dX7_tellName_57 : decode cX7_tellName 57 = .ok (.aload_n 0, 1) := by decide +kernel
theorem dX7_tellName_58 : decode cX7_tellName 58 = .ok (.getfield 55, 3) := by decide +kernel
theorem dX7_tellName_61 : decode cX7_tellName 61 = .ok (.aload_n 0, 1) := by decide +kernel
theorem dX7_tellName_62 : decode cX7_tellName 62 = .ok (.getfield 62, 3) := by decide +kernel
theorem dX7_tellName_65 : decode cX7_tellName 65 = .ok (.iload_n 1, 1) := by decide +kernel
theorem dX7_tellName_66 : decode cX7_tellName 66 = .ok (.iastore, 1) := by decide +kernel
theorem dX7_tellName_67 : decode cX7_tellName 67 = .ok (.aload_n 0, 1) := by decide +kernel
theorem dX7_tellName_68 : decode cX7_tellName 68 = .ok (.getfield 59, 3) := by decide +kernel
theorem dX7_tellName_71 : decode cX7_tellName 71 = .ok (.aload_n 0, 1) := by decide +kernel
theorem dX7_tellName_72 : decode cX7_tellName 72 = .ok (.getfield 62, 3) := by decide +kernel
theorem dX7_tellName_75 : decode cX7_tellName 75 = .ok (.iload_n 2, 1) := by decide +kernel
theorem dX7_tellName_76 : decode cX7_tellName 76 = .ok (.iastore, 1) := by decide +kernel
theorem dX7_tellName_77 : decode cX7_tellName 77 = .ok (.aload_n 0, 1) := by decide +kernel
theorem dX7_tellName_78 : decode cX7_tellName 78 = .ok (.dup, 1) := by decide +kernel
theorem dX7_tellName_79 : decode cX7_tellName 79 = .ok (.getfield 62, 3) := by decide +kernel
theorem dX7_tellName_82 : decode cX7_tellName 82 = .ok (.iconst 1, 1) := by decide +kernel
theorem dX7_tellName_83 : decode cX7_tellName 83 = .ok (.iadd, 1) := by decide +kernel
theorem dX7_tellName_84 : decode cX7_tellName 84 = .ok (.putfield 62, 3) := by decide +kernel
theorem dX7_tellName_87 : decode cX7_tellName 87 = .ok (.aload_n 0, 1) := by decide +kernel
theorem dX7_tellName_88 : decode cX7_tellName 88 = .ok (.invokevirtual 136, 3) := by decide +kernel
theorem dX7_tellName_91 : decode cX7_tellName 91 = .ok (.return_, 1) := by decide +kernel
theorem dX7_findName_0 : decode cX7_findName 0 = .ok (.iconst 0, 1) := by decide +kernel
theorem dX7_findName_1 : decode cX7_findName 1 = .ok (.istore_n 3, 1) := by decide +kernel
theorem dX7_findName_2 : decode cX7_findName 2 = .ok (.iload_n 3, 1) := by decide +kernel
theorem dX7_findName_3 : decode cX7_findName 3 = .ok (.aload_n 0, 1) := by decide +kernel
theorem dX7_findName_4 : decode cX7_findName 4 = .ok (.getfield 62, 3) := by decide +kernel
theorem dX7_findName_7 : decode cX7_findName 7 = .ok (.if_icmp .ge 22, 3) := by decide +kernel
theorem dX7_findName_10 : decode cX7_findName 10 = .ok (.aload_n 0, 1) := by decide +kernel
theorem dX7_findName_11 : decode cX7_findName 11 = .ok (.getfield 51, 3) := by decide +kernel
theorem dX7_findName_14 : decode cX7_findName 14 = .ok (.iload_n 3, 1) := by decide +kernel
theorem dX7_findName_15 : decode cX7_findName 15 = .ok (.laload, 1) := by decide +kernel
theorem dX7_findName_16 : decode cX7_findName 16 = .ok (.lload_n 1, 1) := by decide +kernel
theorem dX7_findName_17 : decode cX7_findName 17 = .ok (.lcmp, 1) := by decide +kernel
theorem dX7_findName_18 : decode cX7_findName 18 = .ok (.ifCond .ne 5, 3) := by decide +kernel
theorem dX7_findName_21 : decode cX7_findName 21 = .ok (.iload_n 3, 1) := by decide +kernel
theorem dX7_findName_22 : decode cX7_findName 22 = .ok (.ireturn, 1) := by decide +kernel
theorem dX7_findName_23 : decode cX7_findName 23 = .ok (.iinc 3 1, 3) := by decide +kernel
theorem dX7_findName_26 : decode cX7_findName 26 = .ok (.goto (-24), 3) := by decide +kernel
theorem dX7_findName_29 : decode cX7_findName 29 = .ok (.iconst (-1), 1) := by decide +kernel
theorem dX7_findName_30 : decode cX7_findName 30 = .ok (.ireturn, 1) := by decide +kernel
theorem dX7_nameAhead_0 : decode cX7_nameAhead 0 = .ok (.aload_n 0, 1) := by decide +kernel
theorem dX7_nameAhead_1 : decode cX7_nameAhead 1 = .ok (.getfield 29, 3) := by decide +kernel
theorem dX7_nameAhead_4 : decode cX7_nameAhead 4 = .ok (.bipush 23, 2) := by decide +kernel
theorem dX7_nameAhead_6 : decode cX7_nameAhead 6 = .ok (.if_icmp .eq 5, 3) := by decide +kernel
theorem dX7_nameAhead_9 : decode cX7_nameAhead 9 = .ok (.iconst (-1), 1) := by decide +kernel
theorem dX7_nameAhead_10 : decode cX7_nameAhead 10 = .ok (.ireturn, 1) := by decide +kernel
theorem dX7_nameAhead_11 : decode cX7_nameAhead 11 = .ok (.aload_n 0, 1) := by decide +kernel
theorem dX7_nameAhead_12 : decode cX7_nameAhead 12 = .ok (.aload_n 0, 1) := by decide +kernel
theorem dX7_nameAhead_13 : decode cX7_nameAhead 13 = .ok (.getfield 32, 3) := by decide +kernel
theorem dX7_nameAhead_16 : decode cX7_nameAhead 16 = .ok (.invokevirtual 165, 3) := by decide +kernel
theorem dX7_nameAhead_19 : decode cX7_nameAhead 19 = .ok (.istore_n 2, 1) := by decide +kernel
theorem dX7_nameAhead_20 : decode cX7_nameAhead 20 = .ok (.iload_n 2, 1) := by decide +kernel
theorem dX7_nameAhead_21 : decode cX7_nameAhead 21 = .ok (.iconst (-1), 1) := by decide +kernel
theorem dX7_nameAhead_22 : decode cX7_nameAhead 22 = .ok (.if_icmp .eq 13, 3) := by decide +kernel
theorem dX7_nameAhead_25 : decode cX7_nameAhead 25 = .ok (.aload_n 0, 1) := by decide +kernel
theorem dX7_nameAhead_26 : decode cX7_nameAhead 26 = .ok (.getfield 55, 3) := by decide +kernel
theorem dX7_nameAhead_29 : decode cX7_nameAhead 29 = .ok (.iload_n 2, 1) := by decide +kernel
theorem dX7_nameAhead_30 : decode cX7_nameAhead 30 = .ok (.iaload, 1) := by decide +kernel
theorem dX7_nameAhead_31 : decode cX7_nameAhead 31 = .ok (.iload_n 1, 1) := by decide +kernel
theorem dX7_nameAhead_32 : decode cX7_nameAhead 32 = .ok (.if_icmp .eq 10, 3) := by decide +kernel
theorem dX7_nameAhead_35 : decode cX7_nameAhead 35 = .ok (.aload_n 0, 1) := by decide +kernel
theorem dX7_nameAhead_36 : decode cX7_nameAhead 36 = .ok (.iconst 4, 1) := by decide +kernel
theorem dX7_nameAhead_37 : decode cX7_nameAhead 37 = .ok (.invokevirtual 142, 3) := by decide +kernel
theorem dX7_nameAhead_40 : decode cX7_nameAhead 40 = .ok (.iconst (-1), 1) := by decide +kernel
theorem dX7_nameAhead_41 : decode cX7_nameAhead 41 = .ok (.ireturn, 1) := by decide +kernel
theorem dX7_nameAhead_42 : decode cX7_nameAhead 42 = .ok (.aload_n 0, 1) := by decide +kernel
theorem dX7_nameAhead_43 : decode cX7_nameAhead 43 = .ok (.getfield 59, 3) := by decide +kernel
theorem dX7_nameAhead_46 : decode cX7_nameAhead 46 = .ok (.iload_n 2, 1) := by decide +kernel
theorem dX7_nameAhead_47 : decode cX7_nameAhead 47 = .ok (.iaload, 1) := by decide +kernel
theorem dX7_nameAhead_48 : decode cX7_nameAhead 48 = .ok (.ireturn, 1) := by decide +kernel
theorem dX7_condition_0 : decode cX7_condition 0 = .ok (.iconst 0, 1) := by decide +kernel
theorem dX7_condition_1 : decode cX7_condition 1 = .ok (.istore_n 1, 1) := by decide +kernel
theorem dX7_condition_2 : decode cX7_condition 2 = .ok (.iconst 0, 1) := by decide +kernel
theorem dX7_condition_3 : decode cX7_condition 3 = .ok (.istore_n 2, 1) := by decide +kernel
theorem dX7_condition_4 : decode cX7_condition 4 = .ok (.iconst 1, 1) := by decide +kernel
theorem dX7_condition_5 : decode cX7_condition 5 = .ok (.istore_n 3, 1) := by decide +kernel
theorem dX7_condition_6 : decode cX7_condition 6 = .ok (.iconst 0, 1) := by decide +kernel
theorem dX7_condition_7 : decode cX7_condition 7 = .ok (.istore 4, 2) := by decide +kernel
theorem dX7_condition_9 : decode cX7_condition 9 = .ok (.iload 4, 2) := by decide +kernel
theorem dX7_condition_11 : decode cX7_condition 11 = .ok (.sipush 400, 3) := by decide +kernel
theorem dX7_condition_14 : decode cX7_condition 14 = .ok (.if_icmp .gt 101, 3) := by decide +kernel
theorem dX7_condition_17 : decode cX7_condition 17 = .ok (.iload_n 3, 1) := by decide +kernel
theorem dX7_condition_18 : decode cX7_condition 18 = .ok (.ifCond .eq 97, 3) := by decide +kernel
theorem dX7_condition_21 : decode cX7_condition 21 = .ok (.aload_n 0, 1) := by decide +kernel
theorem dX7_condition_22 : decode cX7_condition 22 = .ok (.invokevirtual 169, 3) := by decide +kernel
theorem dX7_condition_25 : decode cX7_condition 25 = .ok (.iload_n 1, 1) := by decide +kernel
theorem dX7_condition_26 : decode cX7_condition 26 = .ok (.ifCond .eq 13, 3) := by decide +kernel
theorem dX7_condition_29 : decode cX7_condition 29 = .ok (.aload_n 0, 1) := by decide +kernel
theorem dX7_condition_30 : decode cX7_condition 30 = .ok (.getfield 21, 3) := by decide +kernel
theorem dX7_condition_33 : decode cX7_condition 33 = .ok (.bipush 7, 2) := by decide +kernel
theorem dX7_condition_35 : decode cX7_condition 35 = .ok (.iconst 0, 1) := by decide +kernel
theorem dX7_condition_36 : decode cX7_condition 36 = .ok (.invokevirtual 172, 3) := by decide +kernel
theorem dX7_condition_39 : decode cX7_condition 39 = .ok (.aload_n 0, 1) := by decide +kernel
theorem dX7_condition_40 : decode cX7_condition 40 = .ok (.getfield 29, 3) := by decide +kernel
theorem dX7_condition_43 : decode cX7_condition 43 = .ok (.bipush 7, 2) := by decide +kernel
theorem dX7_condition_45 : decode cX7_condition 45 = .ok (.if_icmp .ne 7, 3) := by decide +kernel
theorem dX7_condition_48 : decode cX7_condition 48 = .ok (.iconst 1, 1) := by decide +kernel
theorem dX7_condition_49 : decode cX7_condition 49 = .ok (.goto 4, 3) := by decide +kernel
theorem dX7_condition_52 : decode cX7_condition 52 = .ok (.iconst 0, 1) := by decide +kernel
theorem dX7_condition_53 : decode cX7_condition 53 = .ok (.istore_n 1, 1) := by decide +kernel
theorem dX7_condition_54 : decode cX7_condition 54 = .ok (.iload_n 1, 1) := by decide +kernel
theorem dX7_condition_55 : decode cX7_condition 55 = .ok (.ifCond .ne 32, 3) := by decide +kernel
theorem dX7_condition_58 : decode cX7_condition 58 = .ok (.iload_n 2, 1) := by decide +kernel
theorem dX7_condition_59 : decode cX7_condition 59 = .ok (.ifCond .eq 13, 3) := by decide +kernel
theorem dX7_condition_62 : decode cX7_condition 62 = .ok (.aload_n 0, 1) := by decide +kernel
theorem dX7_condition_63 : decode cX7_condition 63 = .ok (.getfield 21, 3) := by decide +kernel
theorem dX7_condition_66 : decode cX7_condition 66 = .ok (.bipush 6, 2) := by decide +kernel
theorem dX7_condition_68 : decode cX7_condition 68 = .ok (.iconst 0, 1) := by decide +kernel
theorem dX7_condition_69 : decode cX7_condition 69 = .ok (.invokevirtual 172, 3) := by decide +kernel
theorem dX7_condition_72 : decode cX7_condition 72 = .ok (.aload_n 0, 1) := by decide +kernel
theorem dX7_condition_73 : decode cX7_condition 73 = .ok (.getfield 29, 3) := by decide +kernel
theorem dX7_condition_76 : decode cX7_condition 76 = .ok (.bipush 6, 2) := by decide +kernel
theorem dX7_condition_78 : decode cX7_condition 78 = .ok (.if_icmp .ne 7, 3) := by decide +kernel
theorem dX7_condition_81 : decode cX7_condition 81 = .ok (.iconst 1, 1) := by decide +kernel
theorem dX7_condition_82 : decode cX7_condition 82 = .ok (.goto 4, 3) := by decide +kernel
theorem dX7_condition_85 : decode cX7_condition 85 = .ok (.iconst 0, 1) := by decide +kernel
theorem dX7_condition_86 : decode cX7_condition 86 = .ok (.istore_n 2, 1) := by decide +kernel
theorem dX7_condition_87 : decode cX7_condition 87 = .ok (.iload_n 1, 1) := by decide +kernel
theorem dX7_condition_88 : decode cX7_condition 88 = .ok (.ifCond .ne 7, 3) := by decide +kernel
theorem dX7_condition_91 : decode cX7_condition 91 = .ok (.iload_n 2, 1) := by decide +kernel
theorem dX7_condition_92 : decode cX7_condition 92 = .ok (.ifCond .eq 7, 3) := by decide +kernel
theorem dX7_condition_95 : decode cX7_condition 95 = .ok (.iconst 1, 1) := by decide +kernel
theorem dX7_condition_96 : decode cX7_condition 96 = .ok (.goto 4, 3) := by decide +kernel
theorem dX7_condition_99 : decode cX7_condition 99 = .ok (.iconst 0, 1) := by decide +kernel
theorem dX7_condition_100 : decode cX7_condition 100 = .ok (.istore_n 3, 1) := by decide +kernel
theorem dX7_condition_101 : decode cX7_condition 101 = .ok (.iload_n 3, 1) := by decide +kernel
theorem dX7_condition_102 : decode cX7_condition 102 = .ok (.ifCond .eq 7, 3) := by decide +kernel
theorem dX7_condition_105 : decode cX7_condition 105 = .ok (.aload_n 0, 1) := by decide +kernel
theorem dX7_condition_106 : decode cX7_condition 106 = .ok (.invokevirtual 136, 3) := by decide +kernel
theorem dX7_condition_109 : decode cX7_condition 109 = .ok (.iinc 4 1, 3) := by decide +kernel
theorem dX7_condition_112 : decode cX7_condition 112 = .ok (.goto (-103), 3) := by decide +kernel
theorem dX7_condition_115 : decode cX7_condition 115 = .ok (.return_, 1) := by decide +kernel
theorem dX7_literal_0 : decode cX7_literal 0 = .ok (.iconst 0, 1) := by decide +kernel
theorem dX7_literal_1 : decode cX7_literal 1 = .ok (.istore_n 1, 1) := by decide +kernel
theorem dX7_literal_2 : decode cX7_literal 2 = .ok (.iconst 0, 1) := by decide +kernel
theorem dX7_literal_3 : decode cX7_literal 3 = .ok (.istore_n 2, 1) := by decide +kernel
theorem dX7_literal_4 : decode cX7_literal 4 = .ok (.iload_n 2, 1) := by decide +kernel
theorem dX7_literal_5 : decode cX7_literal 5 = .ok (.sipush 400, 3) := by decide +kernel
theorem dX7_literal_8 : decode cX7_literal 8 = .ok (.if_icmp .gt 32, 3) := by decide +kernel
theorem dX7_literal_11 : decode cX7_literal 11 = .ok (.aload_n 0, 1) := by decide +kernel
theorem dX7_literal_12 : decode cX7_literal 12 = .ok (.getfield 29, 3) := by decide +kernel
theorem dX7_literal_15 : decode cX7_literal 15 = .ok (.bipush 8, 2) := by decide +kernel
theorem dX7_literal_17 : decode cX7_literal 17 = .ok (.if_icmp .ne 23, 3) := by decide +kernel
theorem dX7_literal_20 : decode cX7_literal 20 = .ok (.iload_n 1, 1) := by decide +kernel
theorem dX7_literal_21 : decode cX7_literal 21 = .ok (.ifCond .ne 7, 3) := by decide +kernel
theorem dX7_literal_24 : decode cX7_literal 24 = .ok (.iconst 1, 1) := by decide +kernel
theorem dX7_literal_25 : decode cX7_literal 25 = .ok (.goto 4, 3) := by decide +kernel
theorem dX7_literal_28 : decode cX7_literal 28 = .ok (.iconst 0, 1) := by decide +kernel
theorem dX7_literal_29 : decode cX7_literal 29 = .ok (.istore_n 1, 1) := by decide +kernel
theorem dX7_literal_30 : decode cX7_literal 30 = .ok (.aload_n 0, 1) := by decide +kernel
theorem dX7_literal_31 : decode cX7_literal 31 = .ok (.invokevirtual 136, 3) := by decide +kernel
theorem dX7_literal_34 : decode cX7_literal 34 = .ok (.iinc 2 1, 3) := by decide +kernel
theorem dX7_literal_37 : decode cX7_literal 37 = .ok (.goto (-33), 3) := by decide +kernel
theorem dX7_literal_40 : decode cX7_literal 40 = .ok (.aload_n 0, 1) := by decide +kernel
theorem dX7_literal_41 : decode cX7_literal 41 = .ok (.iconst 0, 1) := by decide +kernel
theorem dX7_literal_42 : decode cX7_literal 42 = .ok (.invokevirtual 162, 3) := by decide +kernel
theorem dX7_literal_45 : decode cX7_literal 45 = .ok (.aload_n 0, 1) := by decide +kernel
theorem dX7_literal_46 : decode cX7_literal 46 = .ok (.getfield 29, 3) := by decide +kernel
theorem dX7_literal_49 : decode cX7_literal 49 = .ok (.istore_n 2, 1) := by decide +kernel
theorem dX7_literal_50 : decode cX7_literal 50 = .ok (.iload_n 2, 1) := by decide +kernel
theorem dX7_literal_51 : decode cX7_literal 51 = .ok (.bipush 30, 2) := by decide +kernel
theorem dX7_literal_53 : decode cX7_literal 53 = .ok (.bipush 33, 2) := by decide +kernel
theorem dX7_literal_55 : decode cX7_literal 55 = .ok (.invokestatic 129, 3) := by decide +kernel
theorem dX7_literal_58 : decode cX7_literal 58 = .ok (.ifCond .ne 9, 3) := by decide +kernel
theorem dX7_literal_61 : decode cX7_literal 61 = .ok (.aload_n 0, 1) := by decide +kernel
theorem dX7_literal_62 : decode cX7_literal 62 = .ok (.iconst 1, 1) := by decide +kernel
theorem dX7_literal_63 : decode cX7_literal 63 = .ok (.invokevirtual 87, 3) := by decide +kernel
theorem dX7_literal_66 : decode cX7_literal 66 = .ok (.return_, 1) := by decide +kernel
theorem dX7_literal_67 : decode cX7_literal 67 = .ok (.aload_n 0, 1) := by decide +kernel
theorem dX7_literal_68 : decode cX7_literal 68 = .ok (.invokevirtual 136, 3) := by decide +kernel
theorem dX7_literal_71 : decode cX7_literal 71 = .ok (.aload_n 0, 1) := by decide +kernel
theorem dX7_literal_72 : decode cX7_literal 72 = .ok (.iconst 0, 1) := by decide +kernel
theorem dX7_literal_73 : decode cX7_literal 73 = .ok (.invokevirtual 162, 3) := by decide +kernel
theorem dX7_literal_76 : decode cX7_literal 76 = .ok (.aload_n 0, 1) := by decide +kernel
theorem dX7_literal_77 : decode cX7_literal 77 = .ok (.getfield 21, 3) := by decide +kernel
theorem dX7_literal_80 : decode cX7_literal 80 = .ok (.iload_n 2, 1) := by decide +kernel
theorem dX7_literal_81 : decode cX7_literal 81 = .ok (.iconst 0, 1) := by decide +kernel
theorem dX7_literal_82 : decode cX7_literal 82 = .ok (.invokevirtual 172, 3) := by decide +kernel
theorem dX7_literal_85 : decode cX7_literal 85 = .ok (.iload_n 1, 1) := by decide +kernel
theorem dX7_literal_86 : decode cX7_literal 86 = .ok (.ifCond .eq 13, 3) := by decide +kernel
theorem dX7_literal_89 : decode cX7_literal 89 = .ok (.aload_n 0, 1) := by decide +kernel
theorem dX7_literal_90 : decode cX7_literal 90 = .ok (.getfield 21, 3) := by decide +kernel
theorem dX7_literal_93 : decode cX7_literal 93 = .ok (.bipush 8, 2) := by decide +kernel
theorem dX7_literal_95 : decode cX7_literal 95 = .ok (.iconst 0, 1) := by decide +kernel
theorem dX7_literal_96 : decode cX7_literal 96 = .ok (.invokevirtual 172, 3) := by decide +kernel
theorem dX7_literal_99 : decode cX7_literal 99 = .ok (.return_, 1) := by decide +kernel
theorem dX7_sum_0 : decode cX7_sum 0 = .ok (.iconst 0, 1) := by decide +kernel
theorem dX7_sum_1 : decode cX7_sum 1 = .ok (.istore_n 2, 1) := by decide +kernel
theorem dX7_sum_2 : decode cX7_sum 2 = .ok (.iconst (-1), 1) := by decide +kernel
theorem dX7_sum_3 : decode cX7_sum 3 = .ok (.istore_n 3, 1) := by decide +kernel
theorem dX7_sum_4 : decode cX7_sum 4 = .ok (.iconst 1, 1) := by decide +kernel
theorem dX7_sum_5 : decode cX7_sum 5 = .ok (.istore 4, 2) := by decide +kernel
theorem dX7_sum_7 : decode cX7_sum 7 = .ok (.iconst 0, 1) := by decide +kernel
theorem dX7_sum_8 : decode cX7_sum 8 = .ok (.istore 5, 2) := by decide +kernel
theorem dX7_sum_10 : decode cX7_sum 10 = .ok (.iload 5, 2) := by decide +kernel
theorem dX7_sum_12 : decode cX7_sum 12 = .ok (.sipush 400, 3) := by decide +kernel
theorem dX7_sum_15 : decode cX7_sum 15 = .ok (.if_icmp .gt 118, 3) := by decide +kernel
theorem dX7_sum_18 : decode cX7_sum 18 = .ok (.iload 4, 2) := by decide +kernel
theorem dX7_sum_20 : decode cX7_sum 20 = .ok (.ifCond .eq 113, 3) := by decide +kernel
theorem dX7_sum_23 : decode cX7_sum 23 = .ok (.aload_n 0, 1) := by decide +kernel
theorem dX7_sum_24 : decode cX7_sum 24 = .ok (.iload_n 1, 1) := by decide +kernel
theorem dX7_sum_25 : decode cX7_sum 25 = .ok (.invokevirtual 175, 3) := by decide +kernel
theorem dX7_sum_28 : decode cX7_sum 28 = .ok (.iload_n 2, 1) := by decide +kernel
theorem dX7_sum_29 : decode cX7_sum 29 = .ok (.ifCond .eq 13, 3) := by decide +kernel
theorem dX7_sum_32 : decode cX7_sum 32 = .ok (.aload_n 0, 1) := by decide +kernel
theorem dX7_sum_33 : decode cX7_sum 33 = .ok (.getfield 21, 3) := by decide +kernel
theorem dX7_sum_36 : decode cX7_sum 36 = .ok (.bipush 29, 2) := by decide +kernel
theorem dX7_sum_38 : decode cX7_sum 38 = .ok (.iconst 0, 1) := by decide +kernel
theorem dX7_sum_39 : decode cX7_sum 39 = .ok (.invokevirtual 172, 3) := by decide +kernel
theorem dX7_sum_42 : decode cX7_sum 42 = .ok (.aload_n 0, 1) := by decide +kernel
theorem dX7_sum_43 : decode cX7_sum 43 = .ok (.getfield 29, 3) := by decide +kernel
theorem dX7_sum_46 : decode cX7_sum 46 = .ok (.bipush 29, 2) := by decide +kernel
theorem dX7_sum_48 : decode cX7_sum 48 = .ok (.if_icmp .ne 7, 3) := by decide +kernel
theorem dX7_sum_51 : decode cX7_sum 51 = .ok (.iconst 1, 1) := by decide +kernel
theorem dX7_sum_52 : decode cX7_sum 52 = .ok (.goto 4, 3) := by decide +kernel
theorem dX7_sum_55 : decode cX7_sum 55 = .ok (.iconst 0, 1) := by decide +kernel
theorem dX7_sum_56 : decode cX7_sum 56 = .ok (.istore_n 2, 1) := by decide +kernel
theorem dX7_sum_57 : decode cX7_sum 57 = .ok (.iload_n 2, 1) := by decide +kernel
theorem dX7_sum_58 : decode cX7_sum 58 = .ok (.ifCond .ne 44, 3) := by decide +kernel
theorem dX7_sum_61 : decode cX7_sum 61 = .ok (.iload_n 3, 1) := by decide +kernel
theorem dX7_sum_62 : decode cX7_sum 62 = .ok (.iconst (-1), 1) := by decide +kernel
theorem dX7_sum_63 : decode cX7_sum 63 = .ok (.if_icmp .eq 12, 3) := by decide +kernel
theorem dX7_sum_66 : decode cX7_sum 66 = .ok (.aload_n 0, 1) := by decide +kernel
theorem dX7_sum_67 : decode cX7_sum 67 = .ok (.getfield 21, 3) := by decide +kernel
theorem dX7_sum_70 : decode cX7_sum 70 = .ok (.iload_n 3, 1) := by decide +kernel
theorem dX7_sum_71 : decode cX7_sum 71 = .ok (.iconst 0, 1) := by decide +kernel
theorem dX7_sum_72 : decode cX7_sum 72 = .ok (.invokevirtual 172, 3) := by decide +kernel
theorem dX7_sum_75 : decode cX7_sum 75 = .ok (.aload_n 0, 1) := by decide +kernel
theorem dX7_sum_76 : decode cX7_sum 76 = .ok (.getfield 29, 3) := by decide +kernel
theorem dX7_sum_79 : decode cX7_sum 79 = .ok (.bipush 27, 2) := by decide +kernel
theorem dX7_sum_81 : decode cX7_sum 81 = .ok (.if_icmp .eq 12, 3) := by decide +kernel
theorem dX7_sum_84 : decode cX7_sum 84 = .ok (.aload_n 0, 1) := by decide +kernel
theorem dX7_sum_85 : decode cX7_sum 85 = .ok (.getfield 29, 3) := by decide +kernel
theorem dX7_sum_88 : decode cX7_sum 88 = .ok (.bipush 28, 2) := by decide +kernel
theorem dX7_sum_90 : decode cX7_sum 90 = .ok (.if_icmp .ne 10, 3) := by decide +kernel
theorem dX7_sum_93 : decode cX7_sum 93 = .ok (.aload_n 0, 1) := by decide +kernel
theorem dX7_sum_94 : decode cX7_sum 94 = .ok (.getfield 29, 3) := by decide +kernel
theorem dX7_sum_97 : decode cX7_sum 97 = .ok (.goto 4, 3) := by decide +kernel
theorem dX7_sum_100 : decode cX7_sum 100 = .ok (.iconst (-1), 1) := by decide +kernel
theorem dX7_sum_101 : decode cX7_sum 101 = .ok (.istore_n 3, 1) := by decide +kernel
theorem dX7_sum_102 : decode cX7_sum 102 = .ok (.iload_n 2, 1) := by decide +kernel
theorem dX7_sum_103 : decode cX7_sum 103 = .ok (.ifCond .ne 8, 3) := by decide +kernel
theorem dX7_sum_106 : decode cX7_sum 106 = .ok (.iload_n 3, 1) := by decide +kernel
theorem dX7_sum_107 : decode cX7_sum 107 = .ok (.iconst (-1), 1) := by decide +kernel
theorem dX7_sum_108 : decode cX7_sum 108 = .ok (.if_icmp .eq 7, 3) := by decide +kernel
theorem dX7_sum_111 : decode cX7_sum 111 = .ok (.iconst 1, 1) := by decide +kernel
theorem dX7_sum_112 : decode cX7_sum 112 = .ok (.goto 4, 3) := by decide +kernel
theorem dX7_sum_115 : decode cX7_sum 115 = .ok (.iconst 0, 1) := by decide +kernel
theorem dX7_sum_116 : decode cX7_sum 116 = .ok (.istore 4, 2) := by decide +kernel
theorem dX7_sum_118 : decode cX7_sum 118 = .ok (.iload 4, 2) := by decide +kernel
theorem dX7_sum_120 : decode cX7_sum 120 = .ok (.ifCond .eq 7, 3) := by decide +kernel
theorem dX7_sum_123 : decode cX7_sum 123 = .ok (.aload_n 0, 1) := by decide +kernel
theorem dX7_sum_124 : decode cX7_sum 124 = .ok (.invokevirtual 136, 3) := by decide +kernel
theorem dX7_sum_127 : decode cX7_sum 127 = .ok (.iinc 5 1, 3) := by decide +kernel
theorem dX7_sum_130 : decode cX7_sum 130 = .ok (.goto (-120), 3) := by decide +kernel
theorem dX7_sum_133 : decode cX7_sum 133 = .ok (.return_, 1) := by decide +kernel
theorem dX7_unit_0 : decode cX7_unit 0 = .ok (.aload_n 0, 1) := by decide +kernel
theorem dX7_unit_1 : decode cX7_unit 1 = .ok (.getfield 29, 3) := by decide +kernel
theorem dX7_unit_4 : decode cX7_unit 4 = .ok (.istore_n 2, 1) := by decide +kernel
theorem dX7_unit_5 : decode cX7_unit 5 = .ok (.aload_n 0, 1) := by decide +kernel
theorem dX7_unit_6 : decode cX7_unit 6 = .ok (.getfield 29, 3) := by decide +kernel
theorem dX7_unit_9 : decode cX7_unit 9 = .ok (.bipush 34, 2) := by decide +kernel
theorem dX7_unit_11 : decode cX7_unit 11 = .ok (.if_icmp .ne 32, 3) := by decide +kernel
theorem dX7_unit_14 : decode cX7_unit 14 = .ok (.iload_n 1, 1) := by decide +kernel
theorem dX7_unit_15 : decode cX7_unit 15 = .ok (.bipush 6, 2) := by decide +kernel
theorem dX7_unit_17 : decode cX7_unit 17 = .ok (.if_icmp .lt 9, 3) := by decide +kernel
theorem dX7_unit_20 : decode cX7_unit 20 = .ok (.aload_n 0, 1) := by decide +kernel
theorem dX7_unit_21 : decode cX7_unit 21 = .ok (.iconst 2, 1) := by decide +kernel
theorem dX7_unit_22 : decode cX7_unit 22 = .ok (.invokevirtual 87, 3) := by decide +kernel
theorem dX7_unit_25 : decode cX7_unit 25 = .ok (.return_, 1) := by decide +kernel
theorem dX7_unit_26 : decode cX7_unit 26 = .ok (.aload_n 0, 1) := by decide +kernel
theorem dX7_unit_27 : decode cX7_unit 27 = .ok (.invokevirtual 136, 3) := by decide +kernel
theorem dX7_unit_30 : decode cX7_unit 30 = .ok (.aload_n 0, 1) := by decide +kernel
theorem dX7_unit_31 : decode cX7_unit 31 = .ok (.iload_n 1, 1) := by decide +kernel
theorem dX7_unit_32 : decode cX7_unit 32 = .ok (.iconst 1, 1) := by decide +kernel
theorem dX7_unit_33 : decode cX7_unit 33 = .ok (.iadd, 1) := by decide +kernel
theorem dX7_unit_34 : decode cX7_unit 34 = .ok (.invokevirtual 162, 3) := by decide +kernel
theorem dX7_unit_37 : decode cX7_unit 37 = .ok (.bipush 35, 2) := by decide +kernel
theorem dX7_unit_39 : decode cX7_unit 39 = .ok (.istore_n 2, 1) := by decide +kernel
theorem dX7_unit_40 : decode cX7_unit 40 = .ok (.goto 162, 3) := by decide +kernel
theorem dX7_unit_43 : decode cX7_unit 43 = .ok (.aload_n 0, 1) := by decide +kernel
theorem dX7_unit_44 : decode cX7_unit 44 = .ok (.getfield 29, 3) := by decide +kernel
theorem dX7_unit_47 : decode cX7_unit 47 = .ok (.bipush 9, 2) := by decide +kernel
theorem dX7_unit_49 : decode cX7_unit 49 = .ok (.if_icmp .ne 54, 3) := by decide +kernel
theorem dX7_unit_52 : decode cX7_unit 52 = .ok (.aload_n 0, 1) := by decide +kernel
theorem dX7_unit_53 : decode cX7_unit 53 = .ok (.invokevirtual 136, 3) := by decide +kernel
theorem dX7_unit_56 : decode cX7_unit 56 = .ok (.aload_n 0, 1) := by decide +kernel
theorem dX7_unit_57 : decode cX7_unit 57 = .ok (.getfield 29, 3) := by decide +kernel
theorem dX7_unit_60 : decode cX7_unit 60 = .ok (.bipush 24, 2) := by decide +kernel
theorem dX7_unit_62 : decode cX7_unit 62 = .ok (.if_icmp .ne 19, 3) := by decide +kernel
theorem dX7_unit_65 : decode cX7_unit 65 = .ok (.aload_n 0, 1) := by decide +kernel
theorem dX7_unit_66 : decode cX7_unit 66 = .ok (.getfield 32, 3) := by decide +kernel
theorem dX7_unit_69 : decode cX7_unit 69 = .ok (.ldc2_w 178, 3) := by decide +kernel
theorem dX7_unit_72 : decode cX7_unit 72 = .ok (.lcmp, 1) := by decide +kernel
theorem dX7_unit_73 : decode cX7_unit 73 = .ok (.ifCond .lt 8, 3) := by decide +kernel
theorem dX7_unit_76 : decode cX7_unit 76 = .ok (.aload_n 0, 1) := by decide +kernel
theorem dX7_unit_77 : decode cX7_unit 77 = .ok (.iconst 5, 1) := by decide +kernel
theorem dX7_unit_78 : decode cX7_unit 78 = .ok (.invokevirtual 142, 3) := by decide +kernel
theorem dX7_unit_81 : decode cX7_unit 81 = .ok (.aload_n 0, 1) := by decide +kernel
theorem dX7_unit_82 : decode cX7_unit 82 = .ok (.getfield 21, 3) := by decide +kernel
theorem dX7_unit_85 : decode cX7_unit 85 = .ok (.bipush 9, 2) := by decide +kernel
theorem dX7_unit_87 : decode cX7_unit 87 = .ok (.iconst 4, 1) := by decide +kernel
theorem dX7_unit_88 : decode cX7_unit 88 = .ok (.aload_n 0, 1) := by decide +kernel
theorem dX7_unit_89 : decode cX7_unit 89 = .ok (.getfield 32, 3) := by decide +kernel
theorem dX7_unit_92 : decode cX7_unit 92 = .ok (.l2i, 1) := by decide +kernel
theorem dX7_unit_93 : decode cX7_unit 93 = .ok (.iadd, 1) := by decide +kernel
theorem dX7_unit_94 : decode cX7_unit 94 = .ok (.invokevirtual 172, 3) := by decide +kernel
theorem dX7_unit_97 : decode cX7_unit 97 = .ok (.bipush 24, 2) := by decide +kernel
theorem dX7_unit_99 : decode cX7_unit 99 = .ok (.istore_n 2, 1) := by decide +kernel
theorem dX7_unit_100 : decode cX7_unit 100 = .ok (.goto 102, 3) := by decide +kernel
theorem dX7_unit_103 : decode cX7_unit 103 = .ok (.aload_n 0, 1) := by decide +kernel
theorem dX7_unit_104 : decode cX7_unit 104 = .ok (.getfield 29, 3) := by decide +kernel
theorem dX7_unit_107 : decode cX7_unit 107 = .ok (.bipush 24, 2) := by decide +kernel
theorem dX7_unit_109 : decode cX7_unit 109 = .ok (.if_icmp .ne 20, 3) := by decide +kernel
theorem dX7_unit_112 : decode cX7_unit 112 = .ok (.aload_n 0, 1) := by decide +kernel
theorem dX7_unit_113 : decode cX7_unit 113 = .ok (.getfield 21, 3) := by decide +kernel
theorem dX7_unit_116 : decode cX7_unit 116 = .ok (.bipush 24, 2) := by decide +kernel
theorem dX7_unit_118 : decode cX7_unit 118 = .ok (.aload_n 0, 1) := by decide +kernel
theorem dX7_unit_119 : decode cX7_unit 119 = .ok (.getfield 32, 3) := by decide +kernel
theorem dX7_unit_122 : decode cX7_unit 122 = .ok (.l2i, 1) := by decide +kernel
theorem dX7_unit_123 : decode cX7_unit 123 = .ok (.invokevirtual 172, 3) := by decide +kernel
theorem dX7_unit_126 : decode cX7_unit 126 = .ok (.goto 76, 3) := by decide +kernel
theorem dX7_unit_129 : decode cX7_unit 129 = .ok (.aload_n 0, 1) := by decide +kernel
theorem dX7_unit_130 : decode cX7_unit 130 = .ok (.getfield 29, 3) := by decide +kernel
theorem dX7_unit_133 : decode cX7_unit 133 = .ok (.bipush 10, 2) := by decide +kernel
theorem dX7_unit_135 : decode cX7_unit 135 = .ok (.bipush 13, 2) := by decide +kernel
theorem dX7_unit_137 : decode cX7_unit 137 = .ok (.invokestatic 129, 3) := by decide +kernel
theorem dX7_unit_140 : decode cX7_unit 140 = .ok (.ifCond .eq 24, 3) := by decide +kernel
theorem dX7_unit_143 : decode cX7_unit 143 = .ok (.aload_n 0, 1) := by decide +kernel
theorem dX7_unit_144 : decode cX7_unit 144 = .ok (.getfield 21, 3) := by decide +kernel
theorem dX7_unit_147 : decode cX7_unit 147 = .ok (.bipush 9, 2) := by decide +kernel
theorem dX7_unit_149 : decode cX7_unit 149 = .ok (.iconst 0, 1) := by decide +kernel
theorem dX7_unit_150 : decode cX7_unit 150 = .ok (.aload_n 0, 1) := by decide +kernel
theorem dX7_unit_151 : decode cX7_unit 151 = .ok (.getfield 29, 3) := by decide +kernel
theorem dX7_unit_154 : decode cX7_unit 154 = .ok (.iadd, 1) := by decide +kernel
theorem dX7_unit_155 : decode cX7_unit 155 = .ok (.bipush 10, 2) := by decide +kernel
theorem dX7_unit_157 : decode cX7_unit 157 = .ok (.isub, 1) := by decide +kernel
theorem dX7_unit_158 : decode cX7_unit 158 = .ok (.invokevirtual 172, 3) := by decide +kernel
theorem dX7_unit_161 : decode cX7_unit 161 = .ok (.goto 41, 3) := by decide +kernel
theorem dX7_unit_164 : decode cX7_unit 164 = .ok (.aload_n 0, 1) := by decide +kernel
theorem dX7_unit_165 : decode cX7_unit 165 = .ok (.getfield 29, 3) := by decide +kernel
theorem dX7_unit_168 : decode cX7_unit 168 = .ok (.bipush 14, 2) := by decide +kernel
theorem dX7_unit_170 : decode cX7_unit 170 = .ok (.bipush 22, 2) := by decide +kernel
theorem dX7_unit_172 : decode cX7_unit 172 = .ok (.invokestatic 129, 3) := by decide +kernel
theorem dX7_unit_175 : decode cX7_unit 175 = .ok (.ifCond .eq 25, 3) := by decide +kernel
theorem dX7_unit_178 : decode cX7_unit 178 = .ok (.aload_n 0, 1) := by decide +kernel
theorem dX7_unit_179 : decode cX7_unit 179 = .ok (.getfield 21, 3) := by decide +kernel
theorem dX7_unit_182 : decode cX7_unit 182 = .ok (.bipush 9, 2) := by decide +kernel
theorem dX7_unit_184 : decode cX7_unit 184 = .ok (.bipush 12, 2) := by decide +kernel
theorem dX7_unit_186 : decode cX7_unit 186 = .ok (.aload_n 0, 1) := by decide +kernel
theorem dX7_unit_187 : decode cX7_unit 187 = .ok (.getfield 29, 3) := by decide +kernel
theorem dX7_unit_190 : decode cX7_unit 190 = .ok (.iadd, 1) := by decide +kernel
theorem dX7_unit_191 : decode cX7_unit 191 = .ok (.bipush 14, 2) := by decide +kernel
theorem dX7_unit_193 : decode cX7_unit 193 = .ok (.isub, 1) := by decide +kernel
theorem dX7_unit_194 : decode cX7_unit 194 = .ok (.invokevirtual 172, 3) := by decide +kernel
theorem dX7_unit_197 : decode cX7_unit 197 = .ok (.goto 5, 3) := by decide +kernel
theorem dX7_unit_200 : decode cX7_unit 200 = .ok (.iconst (-1), 1) := by decide +kernel
theorem dX7_unit_201 : decode cX7_unit 201 = .ok (.istore_n 2, 1) := by decide +kernel
theorem dX7_unit_202 : decode cX7_unit 202 = .ok (.aload_n 0, 1) := by decide +kernel
theorem dX7_unit_203 : decode cX7_unit 203 = .ok (.getfield 29, 3) := by decide +kernel
theorem dX7_unit_206 : decode cX7_unit 206 = .ok (.iload_n 2, 1) := by decide +kernel
theorem dX7_unit_207 : decode cX7_unit 207 = .ok (.if_icmp .ne 10, 3) := by decide +kernel
theorem dX7_unit_210 : decode cX7_unit 210 = .ok (.aload_n 0, 1) := by decide +kernel
theorem dX7_unit_211 : decode cX7_unit 211 = .ok (.invokevirtual 136, 3) := by decide +kernel
theorem dX7_unit_214 : decode cX7_unit 214 = .ok (.goto 8, 3) := by decide +kernel
theorem dX7_unit_217 : decode cX7_unit 217 = .ok (.aload_n 0, 1) := by decide +kernel
theorem dX7_unit_218 : decode cX7_unit 218 = .ok (.iconst 1, 1) := by decide +kernel
theorem dX7_unit_219 : decode cX7_unit 219 = .ok (.invokevirtual 87, 3) := by decide +kernel
theorem dX7_unit_222 : decode cX7_unit 222 = .ok (.return_, 1) := by decide +kernel
theorem dX7_open_0 : decode cX7_open 0 = .ok (.iload_n 1, 1) := by decide +kernel
theorem dX7_open_1 : decode cX7_open 1 = .ok (.ifCond .eq 10, 3) := by decide +kernel
theorem dX7_open_4 : decode cX7_open 4 = .ok (.aload_n 0, 1) := by decide +kernel
theorem dX7_open_5 : decode cX7_open 5 = .ok (.invokevirtual 136, 3) := by decide +kernel
theorem dX7_open_8 : decode cX7_open 8 = .ok (.goto 8, 3) := by decide +kernel
theorem dX7_open_11 : decode cX7_open 11 = .ok (.aload_n 0, 1) := by decide +kernel
theorem dX7_open_12 : decode cX7_open 12 = .ok (.iconst 2, 1) := by decide +kernel
theorem dX7_open_13 : decode cX7_open 13 = .ok (.invokevirtual 87, 3) := by decide +kernel
theorem dX7_open_16 : decode cX7_open 16 = .ok (.aload_n 0, 1) := by decide +kernel
theorem dX7_open_17 : decode cX7_open 17 = .ok (.getfield 39, 3) := by decide +kernel
theorem dX7_open_20 : decode cX7_open 20 = .ok (.ifCond .ne 7, 3) := by decide +kernel
theorem dX7_open_23 : decode cX7_open 23 = .ok (.iconst 1, 1) := by decide +kernel
theorem dX7_open_24 : decode cX7_open 24 = .ok (.goto 4, 3) := by decide +kernel
theorem dX7_open_27 : decode cX7_open 27 = .ok (.iconst 0, 1) := by decide +kernel
theorem dX7_open_28 : decode cX7_open 28 = .ok (.ireturn, 1) := by decide +kernel
theorem dX7_need_0 : decode cX7_need 0 = .ok (.aload_n 0, 1) := by decide +kernel
theorem dX7_need_1 : decode cX7_need 1 = .ok (.getfield 29, 3) := by decide +kernel
theorem dX7_need_4 : decode cX7_need 4 = .ok (.iload_n 1, 1) := by decide +kernel
theorem dX7_need_5 : decode cX7_need 5 = .ok (.if_icmp .ne 10, 3) := by decide +kernel
theorem dX7_need_8 : decode cX7_need 8 = .ok (.aload_n 0, 1) := by decide +kernel
theorem dX7_need_9 : decode cX7_need 9 = .ok (.invokevirtual 136, 3) := by decide +kernel
theorem dX7_need_12 : decode cX7_need 12 = .ok (.goto 8, 3) := by decide +kernel
theorem dX7_need_15 : decode cX7_need 15 = .ok (.aload_n 0, 1) := by decide +kernel
theorem dX7_need_16 : decode cX7_need 16 = .ok (.iconst 1, 1) := by decide +kernel
theorem dX7_need_17 : decode cX7_need 17 = .ok (.invokevirtual 87, 3) := by decide +kernel
theorem dX7_need_20 : decode cX7_need 20 = .ok (.return_, 1) := by decide +kernel
theorem dX7_take_0 : decode cX7_take 0 = .ok (.aload_n 0, 1) := by decide +kernel
theorem dX7_take_1 : decode cX7_take 1 = .ok (.getfield 25, 3) := by decide +kernel
theorem dX7_take_4 : decode cX7_take 4 = .ok (.sipush 400, 3) := by decide +kernel
theorem dX7_take_7 : decode cX7_take 7 = .ok (.if_icmp .ge 64, 3) := by decide +kernel
theorem dX7_take_10 : decode cX7_take 10 = .ok (.aload_n 0, 1) := by decide +kernel
theorem dX7_take_11 : decode cX7_take 11 = .ok (.dup, 1) := by decide +kernel
theorem dX7_take_12 : decode cX7_take 12 = .ok (.getfield 25, 3) := by decide +kernel
theorem dX7_take_15 : decode cX7_take 15 = .ok (.iconst 1, 1) := by decide +kernel
theorem dX7_take_16 : decode cX7_take 16 = .ok (.iadd, 1) := by decide +kernel
theorem dX7_take_17 : decode cX7_take 17 = .ok (.putfield 25, 3) := by decide +kernel
theorem dX7_take_20 : decode cX7_take 20 = .ok (.aload_n 0, 1) := by decide +kernel
theorem dX7_take_21 : decode cX7_take 21 = .ok (.aload_n 0, 1) := by decide +kernel
theorem dX7_take_22 : decode cX7_take 22 = .ok (.getfield 12, 3) := by decide +kernel
theorem dX7_take_25 : decode cX7_take 25 = .ok (.getfield 94, 3) := by decide +kernel
theorem dX7_take_28 : decode cX7_take 28 = .ok (.aload_n 0, 1) := by decide +kernel
theorem dX7_take_29 : decode cX7_take 29 = .ok (.getfield 25, 3) := by decide +kernel
theorem dX7_take_32 : decode cX7_take 32 = .ok (.iaload, 1) := by decide +kernel
theorem dX7_take_33 : decode cX7_take 33 = .ok (.putfield 29, 3) := by decide +kernel
theorem dX7_take_36 : decode cX7_take 36 = .ok (.aload_n 0, 1) := by decide +kernel
theorem dX7_take_37 : decode cX7_take 37 = .ok (.aload_n 0, 1) := by decide +kernel
theorem dX7_take_38 : decode cX7_take 38 = .ok (.getfield 12, 3) := by decide +kernel
theorem dX7_take_41 : decode cX7_take 41 = .ok (.getfield 97, 3) := by decide +kernel
theorem dX7_take_44 : decode cX7_take 44 = .ok (.aload_n 0, 1) := by decide +kernel
theorem dX7_take_45 : decode cX7_take 45 = .ok (.getfield 25, 3) := by decide +kernel
theorem dX7_take_48 : decode cX7_take 48 = .ok (.laload, 1) := by decide +kernel
theorem dX7_take_49 : decode cX7_take 49 = .ok (.putfield 32, 3) := by decide +kernel
theorem dX7_take_52 : decode cX7_take 52 = .ok (.aload_n 0, 1) := by decide +kernel
theorem dX7_take_53 : decode cX7_take 53 = .ok (.aload_n 0, 1) := by decide +kernel
theorem dX7_take_54 : decode cX7_take 54 = .ok (.getfield 12, 3) := by decide +kernel
theorem dX7_take_57 : decode cX7_take 57 = .ok (.getfield 100, 3) := by decide +kernel
theorem dX7_take_60 : decode cX7_take 60 = .ok (.aload_n 0, 1) := by decide +kernel
theorem dX7_take_61 : decode cX7_take 61 = .ok (.getfield 25, 3) := by decide +kernel
theorem dX7_take_64 : decode cX7_take 64 = .ok (.iaload, 1) := by decide +kernel
theorem dX7_take_65 : decode cX7_take 65 = .ok (.putfield 36, 3) := by decide +kernel
theorem dX7_take_68 : decode cX7_take 68 = .ok (.goto 14, 3) := by decide +kernel
theorem dX7_take_71 : decode cX7_take 71 = .ok (.aload_n 0, 1) := by decide +kernel
theorem dX7_take_72 : decode cX7_take 72 = .ok (.iconst 2, 1) := by decide +kernel
theorem dX7_take_73 : decode cX7_take 73 = .ok (.putfield 39, 3) := by decide +kernel
theorem dX7_take_76 : decode cX7_take 76 = .ok (.aload_n 0, 1) := by decide +kernel
theorem dX7_take_77 : decode cX7_take 77 = .ok (.bipush 38, 2) := by decide +kernel
theorem dX7_take_79 : decode cX7_take 79 = .ok (.putfield 29, 3) := by decide +kernel
theorem dX7_take_82 : decode cX7_take 82 = .ok (.return_, 1) := by decide +kernel
theorem dX7_fail_0 : decode cX7_fail 0 = .ok (.aload_n 0, 1) := by decide +kernel
theorem dX7_fail_1 : decode cX7_fail 1 = .ok (.getfield 39, 3) := by decide +kernel
theorem dX7_fail_4 : decode cX7_fail 4 = .ok (.ifCond .ne 8, 3) := by decide +kernel
theorem dX7_fail_7 : decode cX7_fail 7 = .ok (.aload_n 0, 1) := by decide +kernel
theorem dX7_fail_8 : decode cX7_fail 8 = .ok (.iload_n 1, 1) := by decide +kernel
theorem dX7_fail_9 : decode cX7_fail 9 = .ok (.putfield 39, 3) := by decide +kernel
theorem dX7_fail_12 : decode cX7_fail 12 = .ok (.aload_n 0, 1) := by decide +kernel
theorem dX7_fail_13 : decode cX7_fail 13 = .ok (.bipush 38, 2) := by decide +kernel
theorem dX7_fail_15 : decode cX7_fail 15 = .ok (.putfield 29, 3) := by decide +kernel
theorem dX7_fail_18 : decode cX7_fail 18 = .ok (.return_, 1) := by decide +kernel
theorem dX7_blame_0 : decode cX7_blame 0 = .ok (.aload_n 0, 1) := by decide +kernel
theorem dX7_blame_1 : decode cX7_blame 1 = .ok (.getfield 45, 3) := by decide +kernel
theorem dX7_blame_4 : decode cX7_blame 4 = .ok (.ifCond .ne 16, 3) := by decide +kernel
theorem dX7_blame_7 : decode cX7_blame 7 = .ok (.aload_n 0, 1) := by decide +kernel
theorem dX7_blame_8 : decode cX7_blame 8 = .ok (.iload_n 1, 1) := by decide +kernel
theorem dX7_blame_9 : decode cX7_blame 9 = .ok (.putfield 45, 3) := by decide +kernel
theorem dX7_blame_12 : decode cX7_blame 12 = .ok (.aload_n 0, 1) := by decide +kernel
theorem dX7_blame_13 : decode cX7_blame 13 = .ok (.aload_n 0, 1) := by decide +kernel
theorem dX7_blame_14 : decode cX7_blame 14 = .ok (.getfield 36, 3) := by decide +kernel
theorem dX7_blame_17 : decode cX7_blame 17 = .ok (.putfield 48, 3) := by decide +kernel
theorem dX7_blame_20 : decode cX7_blame 20 = .ok (.return_, 1) := by decide +kernel
theorem dX8_init_0 : decode cX8_init 0 = .ok (.aload_n 0, 1) := by decide +kernel
theorem dX8_init_1 : decode cX8_init 1 = .ok (.invokespecial 3, 3) := by decide +kernel
theorem dX8_init_4 : decode cX8_init 4 = .ok (.aload_n 0, 1) := by decide +kernel
theorem dX8_init_5 : decode cX8_init 5 = .ok (.sipush 401, 3) := by decide +kernel
theorem dX8_init_8 : decode cX8_init 8 = .ok (.newarray .int, 2) := by decide +kernel
theorem dX8_init_10 : decode cX8_init 10 = .ok (.putfield 9, 3) := by decide +kernel
theorem dX8_init_13 : decode cX8_init 13 = .ok (.aload_n 0, 1) := by decide +kernel
theorem dX8_init_14 : decode cX8_init 14 = .ok (.sipush 401, 3) := by decide +kernel
theorem dX8_init_17 : decode cX8_init 17 = .ok (.newarray .int, 2) := by decide +kernel
theorem dX8_init_19 : decode cX8_init 19 = .ok (.putfield 15, 3) := by decide +kernel
theorem dX8_init_22 : decode cX8_init 22 = .ok (.aload_n 0, 1) := by decide +kernel
theorem dX8_init_23 : decode cX8_init 23 = .ok (.sipush 401, 3) := by decide +kernel
theorem dX8_init_26 : decode cX8_init 26 = .ok (.newarray .long, 2) := by decide +kernel
theorem dX8_init_28 : decode cX8_init 28 = .ok (.putfield 18, 3) := by decide +kernel
theorem dX8_init_31 : decode cX8_init 31 = .ok (.aload_n 0, 1) := by decide +kernel
theorem dX8_init_32 : decode cX8_init 32 = .ok (.iconst 0, 1) := by decide +kernel
theorem dX8_init_33 : decode cX8_init 33 = .ok (.putfield 22, 3) := by decide +kernel
theorem dX8_init_36 : decode cX8_init 36 = .ok (.aload_n 0, 1) := by decide +kernel
theorem dX8_init_37 : decode cX8_init 37 = .ok (.bipush 23, 2) := by decide +kernel
theorem dX8_init_39 : decode cX8_init 39 = .ok (.newarray .long, 2) := by decide +kernel
theorem dX8_init_41 : decode cX8_init 41 = .ok (.putfield 26, 3) := by decide +kernel
theorem dX8_init_44 : decode cX8_init 44 = .ok (.iconst 0, 1) := by decide +kernel
theorem dX8_init_45 : decode cX8_init 45 = .ok (.istore_n 1, 1) := by decide +kernel
theorem dX8_init_46 : decode cX8_init 46 = .ok (.lconst 0, 1) := by decide +kernel
theorem dX8_init_47 : decode cX8_init 47 = .ok (.lstore_n 2, 1) := by decide +kernel
theorem dX8_init_48 : decode cX8_init 48 = .ok (.iconst 0, 1) := by decide +kernel
theorem dX8_init_49 : decode cX8_init 49 = .ok (.istore 4, 2) := by decide +kernel
theorem dX8_init_51 : decode cX8_init 51 = .ok (.iload 4, 2) := by decide +kernel
theorem dX8_init_53 : decode cX8_init 53 = .ok (.ldc 29, 2) := by decide +kernel
theorem dX8_init_55 : decode cX8_init 55 = .ok (.invokevirtual 31, 3) := by decide +kernel
theorem dX8_init_58 : decode cX8_init 58 = .ok (.if_icmp .ge 56, 3) := by decide +kernel
theorem dX8_init_61 : decode cX8_init 61 = .ok (.ldc 29, 2) := by decide +kernel
theorem dX8_init_63 : decode cX8_init 63 = .ok (.iload 4, 2) := by decide +kernel
theorem dX8_init_65 : decode cX8_init 65 = .ok (.invokevirtual 37, 3) := by decide +kernel
theorem dX8_init_68 : decode cX8_init 68 = .ok (.istore 5, 2) := by decide +kernel
theorem dX8_init_70 : decode cX8_init 70 = .ok (.iload 5, 2) := by decide +kernel
theorem dX8_init_72 : decode cX8_init 72 = .ok (.bipush 32, 2) := by decide +kernel
theorem dX8_init_74 : decode cX8_init 74 = .ok (.if_icmp .eq 13, 3) := by decide +kernel
theorem dX8_init_77 : decode cX8_init 77 = .ok (.lload_n 2, 1) := by decide +kernel
theorem dX8_init_78 : decode cX8_init 78 = .ok (.iload 5, 2) := by decide +kernel
theorem dX8_init_80 : decode cX8_init 80 = .ok (.invokestatic 41, 3) := by decide +kernel
theorem dX8_init_83 : decode cX8_init 83 = .ok (.lstore_n 2, 1) := by decide +kernel
theorem dX8_init_84 : decode cX8_init 84 = .ok (.goto 24, 3) := by decide +kernel
theorem dX8_init_87 : decode cX8_init 87 = .ok (.iload_n 1, 1) := by decide +kernel
theorem dX8_init_88 : decode cX8_init 88 = .ok (.aload_n 0, 1) := by decide +kernel
theorem dX8_init_89 : decode cX8_init 89 = .ok (.getfield 26, 3) := by decide +kernel
theorem dX8_init_92 : decode cX8_init 92 = .ok (.arraylength, 1) := by decide +kernel
theorem dX8_init_93 : decode cX8_init 93 = .ok (.if_icmp .ge 15, 3) := by decide +kernel
theorem dX8_init_96 : decode cX8_init 96 = .ok (.aload_n 0, 1) := by decide +kernel
theorem dX8_init_97 : decode cX8_init 97 = .ok (.getfield 26, 3) := by decide +kernel
theorem dX8_init_100 : decode cX8_init 100 = .ok (.iload_n 1, 1) := by decide +kernel
theorem dX8_init_101 : decode cX8_init 101 = .ok (.lload_n 2, 1) := by decide +kernel
theorem dX8_init_102 : decode cX8_init 102 = .ok (.lastore, 1) := by decide +kernel
theorem dX8_init_103 : decode cX8_init 103 = .ok (.iinc 1 1, 3) := by decide +kernel
theorem dX8_init_106 : decode cX8_init 106 = .ok (.lconst 0, 1) := by decide +kernel
theorem dX8_init_107 : decode cX8_init 107 = .ok (.lstore_n 2, 1) := by decide +kernel
theorem dX8_init_108 : decode cX8_init 108 = .ok (.iinc 4 1, 3) := by decide +kernel
theorem dX8_init_111 : decode cX8_init 111 = .ok (.goto (-60), 3) := by decide +kernel
theorem dX8_init_114 : decode cX8_init 114 = .ok (.return_, 1) := by decide +kernel
theorem dX8_scan_0 : decode cX8_scan 0 = .ok (.aload_n 0, 1) := by decide +kernel
theorem dX8_scan_1 : decode cX8_scan 1 = .ok (.iconst 0, 1) := by decide +kernel
theorem dX8_scan_2 : decode cX8_scan 2 = .ok (.putfield 22, 3) := by decide +kernel
theorem dX8_scan_5 : decode cX8_scan 5 = .ok (.iconst 0, 1) := by decide +kernel
theorem dX8_scan_6 : decode cX8_scan 6 = .ok (.istore_n 2, 1) := by decide +kernel
theorem dX8_scan_7 : decode cX8_scan 7 = .ok (.iconst 1, 1) := by decide +kernel
theorem dX8_scan_8 : decode cX8_scan 8 = .ok (.istore_n 3, 1) := by decide +kernel
theorem dX8_scan_9 : decode cX8_scan 9 = .ok (.iconst 0, 1) := by decide +kernel
theorem dX8_scan_10 : decode cX8_scan 10 = .ok (.istore 4, 2) := by decide +kernel
theorem dX8_scan_12 : decode cX8_scan 12 = .ok (.iload 4, 2) := by decide +kernel
theorem dX8_scan_14 : decode cX8_scan 14 = .ok (.sipush 400, 3) := by decide +kernel
theorem dX8_scan_17 : decode cX8_scan 17 = .ok (.if_icmp .gt 58, 3) := by decide +kernel
theorem dX8_scan_20 : decode cX8_scan 20 = .ok (.iload_n 3, 1) := by decide +kernel
theorem dX8_scan_21 : decode cX8_scan 21 = .ok (.ifCond .eq 54, 3) := by decide +kernel
theorem dX8_scan_24 : decode cX8_scan 24 = .ok (.aload_n 1, 1) := by decide +kernel
theorem dX8_scan_25 : decode cX8_scan 25 = .ok (.iload_n 2, 1) := by decide +kernel
theorem dX8_scan_26 : decode cX8_scan 26 = .ok (.invokevirtual 45, 3) := by decide +kernel
theorem dX8_scan_29 : decode cX8_scan 29 = .ok (.istore 5, 2) := by decide +kernel
theorem dX8_scan_31 : decode cX8_scan 31 = .ok (.aload_n 0, 1) := by decide +kernel
theorem dX8_scan_32 : decode cX8_scan 32 = .ok (.aload_n 1, 1) := by decide +kernel
theorem dX8_scan_33 : decode cX8_scan 33 = .ok (.iload 5, 2) := by decide +kernel
theorem dX8_scan_35 : decode cX8_scan 35 = .ok (.invokevirtual 51, 3) := by decide +kernel
theorem dX8_scan_38 : decode cX8_scan 38 = .ok (.istore_n 2, 1) := by decide +kernel
theorem dX8_scan_39 : decode cX8_scan 39 = .ok (.aload_n 0, 1) := by decide +kernel
theorem dX8_scan_40 : decode cX8_scan 40 = .ok (.getfield 9, 3) := by decide +kernel
theorem dX8_scan_43 : decode cX8_scan 43 = .ok (.iload 4, 2) := by decide +kernel
theorem dX8_scan_45 : decode cX8_scan 45 = .ok (.iaload, 1) := by decide +kernel
theorem dX8_scan_46 : decode cX8_scan 46 = .ok (.bipush 36, 2) := by decide +kernel
theorem dX8_scan_48 : decode cX8_scan 48 = .ok (.if_icmp .eq 19, 3) := by decide +kernel
theorem dX8_scan_51 : decode cX8_scan 51 = .ok (.aload_n 0, 1) := by decide +kernel
theorem dX8_scan_52 : decode cX8_scan 52 = .ok (.getfield 9, 3) := by decide +kernel
theorem dX8_scan_55 : decode cX8_scan 55 = .ok (.iload 4, 2) := by decide +kernel
theorem dX8_scan_57 : decode cX8_scan 57 = .ok (.iaload, 1) := by decide +kernel
theorem dX8_scan_58 : decode cX8_scan 58 = .ok (.bipush 37, 2) := by decide +kernel
theorem dX8_scan_60 : decode cX8_scan 60 = .ok (.if_icmp .eq 7, 3) := by decide +kernel
theorem dX8_scan_63 : decode cX8_scan 63 = .ok (.iconst 1, 1) := by decide +kernel
theorem dX8_scan_64 : decode cX8_scan 64 = .ok (.goto 4, 3) := by decide +kernel
theorem dX8_scan_67 : decode cX8_scan 67 = .ok (.iconst 0, 1) := by decide +kernel
theorem dX8_scan_68 : decode cX8_scan 68 = .ok (.istore_n 3, 1) := by decide +kernel
theorem dX8_scan_69 : decode cX8_scan 69 = .ok (.iinc 4 1, 3) := by decide +kernel
theorem dX8_scan_72 : decode cX8_scan 72 = .ok (.goto (-60), 3) := by decide +kernel
theorem dX8_scan_75 : decode cX8_scan 75 = .ok (.return_, 1) := by decide +kernel
theorem dX8_scanOne_0 : decode cX8_scanOne 0 = .ok (.aload_n 1, 1) := by decide +kernel
theorem dX8_scanOne_1 : decode cX8_scanOne 1 = .ok (.iload_n 2, 1) := by decide +kernel
theorem dX8_scanOne_2 : decode cX8_scanOne 2 = .ok (.invokevirtual 55, 3) := by decide +kernel
theorem dX8_scanOne_5 : decode cX8_scanOne 5 = .ok (.istore_n 3, 1) := by decide +kernel
theorem dX8_scanOne_6 : decode cX8_scanOne 6 = .ok (.iload_n 3, 1) := by decide +kernel
theorem dX8_scanOne_7 : decode cX8_scanOne 7 = .ok (.iconst (-1), 1) := by decide +kernel
theorem dX8_scanOne_8 : decode cX8_scanOne 8 = .ok (.if_icmp .ne 13, 3) := by decide +kernel
theorem dX8_scanOne_11 : decode cX8_scanOne 11 = .ok (.aload_n 0, 1) := by decide +kernel
theorem dX8_scanOne_12 : decode cX8_scanOne 12 = .ok (.bipush 36, 2) := by decide +kernel
theorem dX8_scanOne_14 : decode cX8_scanOne 14 = .ok (.iload_n 2, 1) := by decide +kernel
theorem dX8_scanOne_15 : decode cX8_scanOne 15 = .ok (.lconst 0, 1) := by decide +kernel
theorem dX8_scanOne_16 : decode cX8_scanOne 16 = .ok (.invokevirtual 58, 3) := by decide +kernel
theorem dX8_scanOne_19 : decode cX8_scanOne 19 = .ok (.iload_n 2, 1) := by decide +kernel
theorem dX8_scanOne_20 : decode cX8_scanOne 20 = .ok (.ireturn, 1) := by decide +kernel
theorem dX8_scanOne_21 : decode cX8_scanOne 21 = .ok (.iload_n 3, 1) := by decide +kernel
theorem dX8_scanOne_22 : decode cX8_scanOne 22 = .ok (.bipush 97, 2) := by decide +kernel
theorem dX8_scanOne_24 : decode cX8_scanOne 24 = .ok (.bipush 122, 2) := by decide +kernel
theorem dX8_scanOne_26 : decode cX8_scanOne 26 = .ok (.invokestatic 62, 3) := by decide +kernel
theorem dX8_scanOne_29 : decode cX8_scanOne 29 = .ok (.ifCond .eq 10, 3) := by decide +kernel
theorem dX8_scanOne_32 : decode cX8_scanOne 32 = .ok (.aload_n 0, 1) := by decide +kernel
theorem dX8_scanOne_33 : decode cX8_scanOne 33 = .ok (.aload_n 1, 1) := by decide +kernel
theorem dX8_scanOne_34 : decode cX8_scanOne 34 = .ok (.iload_n 2, 1) := by decide +kernel
theorem dX8_scanOne_35 : decode cX8_scanOne 35 = .ok (.invokevirtual 66, 3) := by decide +kernel
theorem dX8_scanOne_38 : decode cX8_scanOne 38 = .ok (.ireturn, 1) := by decide +kernel
theorem dX8_scanOne_39 : decode cX8_scanOne 39 = .ok (.iload_n 3, 1) := by decide +kernel
theorem dX8_scanOne_40 : decode cX8_scanOne 40 = .ok (.bipush 48, 2) := by decide +kernel
theorem dX8_scanOne_42 : decode cX8_scanOne 42 = .ok (.bipush 57, 2) := by decide +kernel
theorem dX8_scanOne_44 : decode cX8_scanOne 44 = .ok (.invokestatic 62, 3) := by decide +kernel
theorem dX8_scanOne_47 : decode cX8_scanOne 47 = .ok (.ifCond .eq 10, 3) := by decide +kernel
theorem dX8_scanOne_50 : decode cX8_scanOne 50 = .ok (.aload_n 0, 1) := by decide +kernel
theorem dX8_scanOne_51 : decode cX8_scanOne 51 = .ok (.aload_n 1, 1) := by decide +kernel
theorem dX8_scanOne_52 : decode cX8_scanOne 52 = .ok (.iload_n 2, 1) := by decide +kernel
theorem dX8_scanOne_53 : decode cX8_scanOne 53 = .ok (.invokevirtual 69, 3) := by decide +kernel
theorem dX8_scanOne_56 : decode cX8_scanOne 56 = .ok (.ireturn, 1) := by decide +kernel
theorem dX8_scanOne_57 : decode cX8_scanOne 57 = .ok (.iload_n 3, 1) := by decide +kernel
theorem dX8_scanOne_58 : decode cX8_scanOne 58 = .ok (.aload_n 1, 1) := by decide +kernel
theorem dX8_scanOne_59 : decode cX8_scanOne 59 = .ok (.iload_n 2, 1) := by decide +kernel
theorem dX8_scanOne_60 : decode cX8_scanOne 60 = .ok (.iconst 1, 1) := by decide +kernel
theorem dX8_scanOne_61 : decode cX8_scanOne 61 = .ok (.iadd, 1) := by decide +kernel
theorem dX8_scanOne_62 : decode cX8_scanOne 62 = .ok (.invokevirtual 55, 3) := by decide +kernel
theorem dX8_scanOne_65 : decode cX8_scanOne 65 = .ok (.invokestatic 72, 3) := by decide +kernel
theorem dX8_scanOne_68 : decode cX8_scanOne 68 = .ok (.istore 4, 2) := by decide +kernel
theorem dX8_scanOne_70 : decode cX8_scanOne 70 = .ok (.aload_n 0, 1) := by decide +kernel
theorem dX8_scanOne_71 : decode cX8_scanOne 71 = .ok (.iload 4, 2) := by decide +kernel
theorem dX8_scanOne_73 : decode cX8_scanOne 73 = .ok (.iload_n 2, 1) := by decide +kernel
theorem dX8_scanOne_74 : decode cX8_scanOne 74 = .ok (.lconst 0, 1) := by decide +kernel
theorem dX8_scanOne_75 : decode cX8_scanOne 75 = .ok (.invokevirtual 58, 3) := by decide +kernel
theorem dX8_scanOne_78 : decode cX8_scanOne 78 = .ok (.iload_n 2, 1) := by decide +kernel
theorem dX8_scanOne_79 : decode cX8_scanOne 79 = .ok (.iload 4, 2) := by decide +kernel
theorem dX8_scanOne_81 : decode cX8_scanOne 81 = .ok (.bipush 30, 2) := by decide +kernel
theorem dX8_scanOne_83 : decode cX8_scanOne 83 = .ok (.if_icmp .eq 17, 3) := by decide +kernel
theorem dX8_scanOne_86 : decode cX8_scanOne 86 = .ok (.iload 4, 2) := by decide +kernel
theorem dX8_scanOne_88 : decode cX8_scanOne 88 = .ok (.bipush 31, 2) := by decide +kernel
theorem dX8_scanOne_90 : decode cX8_scanOne 90 = .ok (.if_icmp .eq 10, 3) := by decide +kernel
theorem dX8_scanOne_93 : decode cX8_scanOne 93 = .ok (.iload 4, 2) := by decide +kernel
theorem dX8_scanOne_95 : decode cX8_scanOne 95 = .ok (.bipush 33, 2) := by decide +kernel
theorem dX8_scanOne_97 : decode cX8_scanOne 97 = .ok (.if_icmp .ne 7, 3) := by decide +kernel
theorem dX8_scanOne_100 : decode cX8_scanOne 100 = .ok (.iconst 2, 1) := by decide +kernel
theorem dX8_scanOne_101 : decode cX8_scanOne 101 = .ok (.goto 4, 3) := by decide +kernel
theorem dX8_scanOne_104 : decode cX8_scanOne 104 = .ok (.iconst 1, 1) := by decide +kernel
theorem dX8_scanOne_105 : decode cX8_scanOne 105 = .ok (.iadd, 1) := by decide +kernel
theorem dX8_scanOne_106 : decode cX8_scanOne 106 = .ok (.ireturn, 1) := by decide +kernel
theorem dX8_scanWord_0 : decode cX8_scanWord 0 = .ok (.aload_n 1, 1) := by decide +kernel
theorem dX8_scanWord_1 : decode cX8_scanWord 1 = .ok (.iload_n 2, 1) := by decide +kernel
theorem dX8_scanWord_2 : decode cX8_scanWord 2 = .ok (.bipush 97, 2) := by decide +kernel
theorem dX8_scanWord_4 : decode cX8_scanWord 4 = .ok (.bipush 122, 2) := by decide +kernel
theorem dX8_scanWord_6 : decode cX8_scanWord 6 = .ok (.invokevirtual 76, 3) := by decide +kernel
theorem dX8_scanWord_9 : decode cX8_scanWord 9 = .ok (.istore_n 3, 1) := by decide +kernel
theorem dX8_scanWord_10 : decode cX8_scanWord 10 = .ok (.lconst 0, 1) := by decide +kernel
theorem dX8_scanWord_11 : decode cX8_scanWord 11 = .ok (.lstore 4, 2) := by decide +kernel
theorem dX8_scanWord_13 : decode cX8_scanWord 13 = .ok (.iload_n 2, 1) := by decide +kernel
theorem dX8_scanWord_14 : decode cX8_scanWord 14 = .ok (.istore 6, 2) := by decide +kernel
theorem dX8_scanWord_16 : decode cX8_scanWord 16 = .ok (.iload 6, 2) := by decide +kernel
theorem dX8_scanWord_18 : decode cX8_scanWord 18 = .ok (.iload_n 3, 1) := by decide +kernel
theorem dX8_scanWord_19 : decode cX8_scanWord 19 = .ok (.if_icmp .ge 22, 3) := by decide +kernel
theorem dX8_scanWord_22 : decode cX8_scanWord 22 = .ok (.lload 4, 2) := by decide +kernel
theorem dX8_scanWord_24 : decode cX8_scanWord 24 = .ok (.aload_n 1, 1) := by decide +kernel
theorem dX8_scanWord_25 : decode cX8_scanWord 25 = .ok (.iload 6, 2) := by decide +kernel
theorem dX8_scanWord_27 : decode cX8_scanWord 27 = .ok (.invokevirtual 55, 3) := by decide +kernel
theorem dX8_scanWord_30 : decode cX8_scanWord 30 = .ok (.invokestatic 41, 3) := by decide +kernel
theorem dX8_scanWord_33 : decode cX8_scanWord 33 = .ok (.lstore 4, 2) := by decide +kernel
theorem dX8_scanWord_35 : decode cX8_scanWord 35 = .ok (.iinc 6 1, 3) := by decide +kernel
theorem dX8_scanWord_38 : decode cX8_scanWord 38 = .ok (.goto (-22), 3) := by decide +kernel
theorem dX8_scanWord_41 : decode cX8_scanWord 41 = .ok (.aload_n 0, 1) := by decide +kernel
theorem dX8_scanWord_42 : decode cX8_scanWord 42 = .ok (.iload_n 3, 1) := by decide +kernel
theorem dX8_scanWord_43 : decode cX8_scanWord 43 = .ok (.iload_n 2, 1) := by decide +kernel
theorem dX8_scanWord_44 : decode cX8_scanWord 44 = .ok (.isub, 1) := by decide +kernel
theorem dX8_scanWord_45 : decode cX8_scanWord 45 = .ok (.bipush 8, 2) := by decide +kernel
theorem dX8_scanWord_47 : decode cX8_scanWord 47 = .ok (.if_icmp .le 8, 3) := by decide +kernel
theorem dX8_scanWord_50 : decode cX8_scanWord 50 = .ok (.bipush 37, 2) := by decide +kernel
theorem dX8_scanWord_52 : decode cX8_scanWord 52 = .ok (.goto 9, 3) := by decide +kernel
theorem dX8_scanWord_55 : decode cX8_scanWord 55 = .ok (.aload_n 0, 1) := by decide +kernel
theorem dX8_scanWord_56 : decode cX8_scanWord 56 = .ok (.lload 4, 2) := by decide +kernel
theorem dX8_scanWord_58 : decode cX8_scanWord 58 = .ok (.invokevirtual 80, 3) := by decide +kernel
theorem dX8_scanWord_61 : decode cX8_scanWord 61 = .ok (.iload_n 2, 1) := by decide +kernel
theorem dX8_scanWord_62 : decode cX8_scanWord 62 = .ok (.lload 4, 2) := by decide +kernel
theorem dX8_scanWord_64 : decode cX8_scanWord 64 = .ok (.invokevirtual 58, 3) := by decide +kernel
theorem dX8_scanWord_67 : decode cX8_scanWord 67 = .ok (.iload_n 3, 1) := by decide +kernel
theorem dX8_scanWord_68 : decode cX8_scanWord 68 = .ok (.ireturn, 1) := by decide +kernel
theorem dX8_scanInt_0 : decode cX8_scanInt 0 = .ok (.aload_n 1, 1) := by decide +kernel
theorem dX8_scanInt_1 : decode cX8_scanInt 1 = .ok (.iload_n 2, 1) := by decide +kernel
theorem dX8_scanInt_2 : decode cX8_scanInt 2 = .ok (.bipush 48, 2) := by decide +kernel
theorem dX8_scanInt_4 : decode cX8_scanInt 4 = .ok (.bipush 57, 2) := by decide +kernel
theorem dX8_scanInt_6 : decode cX8_scanInt 6 = .ok (.invokevirtual 76, 3) := by decide +kernel
theorem dX8_scanInt_9 : decode cX8_scanInt 9 = .ok (.istore_n 3, 1) := by decide +kernel
theorem dX8_scanInt_10 : decode cX8_scanInt 10 = .ok (.lconst 0, 1) := by decide +kernel
theorem dX8_scanInt_11 : decode cX8_scanInt 11 = .ok (.lstore 4, 2) := by decide +kernel
theorem dX8_scanInt_13 : decode cX8_scanInt 13 = .ok (.iload_n 2, 1) := by decide +kernel
theorem dX8_scanInt_14 : decode cX8_scanInt 14 = .ok (.istore 6, 2) := by decide +kernel
theorem dX8_scanInt_16 : decode cX8_scanInt 16 = .ok (.iload 6, 2) := by decide +kernel
theorem dX8_scanInt_18 : decode cX8_scanInt 18 = .ok (.iload_n 3, 1) := by decide +kernel
theorem dX8_scanInt_19 : decode cX8_scanInt 19 = .ok (.if_icmp .ge 28, 3) := by decide +kernel
theorem dX8_scanInt_22 : decode cX8_scanInt 22 = .ok (.lload 4, 2) := by decide +kernel
theorem dX8_scanInt_24 : decode cX8_scanInt 24 = .ok (.ldc2_w 84, 3) := by decide +kernel
theorem dX8_scanInt_27 : decode cX8_scanInt 27 = .ok (.lmul, 1) := by decide +kernel
theorem dX8_scanInt_28 : decode cX8_scanInt 28 = .ok (.aload_n 1, 1) := by decide +kernel
theorem dX8_scanInt_29 : decode cX8_scanInt 29 = .ok (.iload 6, 2) := by decide +kernel
theorem dX8_scanInt_31 : decode cX8_scanInt 31 = .ok (.invokevirtual 55, 3) := by decide +kernel
theorem dX8_scanInt_34 : decode cX8_scanInt 34 = .ok (.bipush 48, 2) := by decide +kernel
theorem dX8_scanInt_36 : decode cX8_scanInt 36 = .ok (.isub, 1) := by decide +kernel
theorem dX8_scanInt_37 : decode cX8_scanInt 37 = .ok (.i2l, 1) := by decide +kernel
theorem dX8_scanInt_38 : decode cX8_scanInt 38 = .ok (.ladd, 1) := by decide +kernel
theorem dX8_scanInt_39 : decode cX8_scanInt 39 = .ok (.lstore 4, 2) := by decide +kernel
theorem dX8_scanInt_41 : decode cX8_scanInt 41 = .ok (.iinc 6 1, 3) := by decide +kernel
theorem dX8_scanInt_44 : decode cX8_scanInt 44 = .ok (.goto (-28), 3) := by decide +kernel
theorem dX8_scanInt_47 : decode cX8_scanInt 47 = .ok (.aload_n 0, 1) := by decide +kernel
theorem dX8_scanInt_48 : decode cX8_scanInt 48 = .ok (.iload_n 3, 1) := by decide +kernel
theorem dX8_scanInt_49 : decode cX8_scanInt 49 = .ok (.iload_n 2, 1) := by decide +kernel
theorem dX8_scanInt_50 : decode cX8_scanInt 50 = .ok (.isub, 1) := by decide +kernel
theorem dX8_scanInt_51 : decode cX8_scanInt 51 = .ok (.iconst 4, 1) := by decide +kernel
theorem dX8_scanInt_52 : decode cX8_scanInt 52 = .ok (.if_icmp .le 8, 3) := by decide +kernel
theorem dX8_scanInt_55 : decode cX8_scanInt 55 = .ok (.bipush 37, 2) := by decide +kernel
theorem dX8_scanInt_57 : decode cX8_scanInt 57 = .ok (.goto 5, 3) := by decide +kernel
theorem dX8_scanInt_60 : decode cX8_scanInt 60 = .ok (.bipush 24, 2) := by decide +kernel
theorem dX8_scanInt_62 : decode cX8_scanInt 62 = .ok (.iload_n 2, 1) := by decide +kernel
theorem dX8_scanInt_63 : decode cX8_scanInt 63 = .ok (.lload 4, 2) := by decide +kernel
theorem dX8_scanInt_65 : decode cX8_scanInt 65 = .ok (.invokevirtual 58, 3) := by decide +kernel
theorem dX8_scanInt_68 : decode cX8_scanInt 68 = .ok (.iload_n 3, 1) := by decide +kernel
theorem dX8_scanInt_69 : decode cX8_scanInt 69 = .ok (.ireturn, 1) := by decide +kernel
theorem dX8_put_0 : decode cX8_put 0 = .ok (.aload_n 0, 1) := by decide +kernel
theorem dX8_put_1 : decode cX8_put 1 = .ok (.getfield 22, 3) := by decide +kernel
theorem dX8_put_4 : decode cX8_put 4 = .ok (.aload_n 0, 1) := by decide +kernel
theorem dX8_put_5 : decode cX8_put 5 = .ok (.getfield 9, 3) := by decide +kernel
theorem dX8_put_8 : decode cX8_put 8 = .ok (.arraylength, 1) := by decide +kernel
theorem dX8_put_9 : decode cX8_put 9 = .ok (.if_icmp .ge 43, 3) := by decide +kernel
theorem dX8_put_12 : decode cX8_put 12 = .ok (.aload_n 0, 1) := by decide +kernel
theorem dX8_put_13 : decode cX8_put 13 = .ok (.getfield 9, 3) := by decide +kernel
theorem dX8_put_16 : decode cX8_put 16 = .ok (.aload_n 0, 1) := by decide +kernel
theorem dX8_put_17 : decode cX8_put 17 = .ok (.getfield 22, 3) := by decide +kernel
theorem dX8_put_20 : decode cX8_put 20 = .ok (.iload_n 1, 1) := by decide +kernel
theorem dX8_put_21 : decode cX8_put 21 = .ok (.iastore, 1) := by decide +kernel
theorem dX8_put_22 : decode cX8_put 22 = .ok (.aload_n 0, 1) := by decide +kernel
theorem dX8_put_23 : decode cX8_put 23 = .ok (.getfield 15, 3) := by decide +kernel
theorem dX8_put_26 : decode cX8_put 26 = .ok (.aload_n 0, 1) := by decide +kernel
theorem dX8_put_27 : decode cX8_put 27 = .ok (.getfield 22, 3) := by decide +kernel
theorem dX8_put_30 : decode cX8_put 30 = .ok (.iload_n 2, 1) := by decide +kernel
theorem dX8_put_31 : decode cX8_put 31 = .ok (.iastore, 1) := by decide +kernel
theorem dX8_put_32 : decode cX8_put 32 = .ok (.aload_n 0, 1) := by decide +kernel
theorem dX8_put_33 : decode cX8_put 33 = .ok (.getfield 18, 3) := by decide +kernel
theorem dX8_put_36 : decode cX8_put 36 = .ok (.aload_n 0, 1) := by decide +kernel
theorem dX8_put_37 : decode cX8_put 37 = .ok (.getfield 22, 3) := by decide +kernel
theorem dX8_put_40 : decode cX8_put 40 = .ok (.lload_n 3, 1) := by decide +kernel
