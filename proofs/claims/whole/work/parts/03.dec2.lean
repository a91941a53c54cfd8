theorem dX11_sign_40 : decode cX11_sign 40 = .ok (.goto 4, 3) := by decide +kernel
theorem dX11_sign_43 : decode cX11_sign 43 = .ok (.iconst 0, 1) := by decide +kernel
theorem dX11_sign_44 : decode cX11_sign 44 = .ok (.istore 4, 2) := by decide +kernel
theorem dX11_sign_46 : decode cX11_sign 46 = .ok (.iconst 3, 1) := by decide +kernel
theorem dX11_sign_47 : decode cX11_sign 47 = .ok (.istore 5, 2) := by decide +kernel
theorem dX11_sign_49 : decode cX11_sign 49 = .ok (.iload 4, 2) := by decide +kernel
theorem dX11_sign_51 : decode cX11_sign 51 = .ok (.ifCond .le 10, 3) := by decide +kernel
theorem dX11_sign_54 : decode cX11_sign 54 = .ok (.iload 4, 2) := by decide +kernel
theorem dX11_sign_56 : decode cX11_sign 56 = .ok (.istore 5, 2) := by decide +kernel
theorem dX11_sign_58 : decode cX11_sign 58 = .ok (.goto 103, 3) := by decide +kernel
theorem dX11_sign_61 : decode cX11_sign 61 = .ok (.iload_n 2, 1) := by decide +kernel
theorem dX11_sign_62 : decode cX11_sign 62 = .ok (.bipush 59, 2) := by decide +kernel
theorem dX11_sign_64 : decode cX11_sign 64 = .ok (.if_icmp .ne 9, 3) := by decide +kernel
theorem dX11_sign_67 : decode cX11_sign 67 = .ok (.iconst 4, 1) := by decide +kernel
theorem dX11_sign_68 : decode cX11_sign 68 = .ok (.istore 5, 2) := by decide +kernel
theorem dX11_sign_70 : decode cX11_sign 70 = .ok (.goto 91, 3) := by decide +kernel
theorem dX11_sign_73 : decode cX11_sign 73 = .ok (.iload_n 2, 1) := by decide +kernel
theorem dX11_sign_74 : decode cX11_sign 74 = .ok (.bipush 40, 2) := by decide +kernel
theorem dX11_sign_76 : decode cX11_sign 76 = .ok (.if_icmp .ne 10, 3) := by decide +kernel
theorem dX11_sign_79 : decode cX11_sign 79 = .ok (.bipush 6, 2) := by decide +kernel
theorem dX11_sign_81 : decode cX11_sign 81 = .ok (.istore 5, 2) := by decide +kernel
theorem dX11_sign_83 : decode cX11_sign 83 = .ok (.goto 78, 3) := by decide +kernel
theorem dX11_sign_86 : decode cX11_sign 86 = .ok (.iload_n 2, 1) := by decide +kernel
theorem dX11_sign_87 : decode cX11_sign 87 = .ok (.bipush 41, 2) := by decide +kernel
theorem dX11_sign_89 : decode cX11_sign 89 = .ok (.if_icmp .ne 10, 3) := by decide +kernel
theorem dX11_sign_92 : decode cX11_sign 92 = .ok (.bipush 7, 2) := by decide +kernel
theorem dX11_sign_94 : decode cX11_sign 94 = .ok (.istore 5, 2) := by decide +kernel
theorem dX11_sign_96 : decode cX11_sign 96 = .ok (.goto 65, 3) := by decide +kernel
theorem dX11_sign_99 : decode cX11_sign 99 = .ok (.iload_n 2, 1) := by decide +kernel
theorem dX11_sign_100 : decode cX11_sign 100 = .ok (.bipush 43, 2) := by decide +kernel
theorem dX11_sign_102 : decode cX11_sign 102 = .ok (.if_icmp .ne 10, 3) := by decide +kernel
theorem dX11_sign_105 : decode cX11_sign 105 = .ok (.bipush 8, 2) := by decide +kernel
theorem dX11_sign_107 : decode cX11_sign 107 = .ok (.istore 5, 2) := by decide +kernel
theorem dX11_sign_109 : decode cX11_sign 109 = .ok (.goto 52, 3) := by decide +kernel
theorem dX11_sign_112 : decode cX11_sign 112 = .ok (.iload_n 2, 1) := by decide +kernel
theorem dX11_sign_113 : decode cX11_sign 113 = .ok (.bipush 45, 2) := by decide +kernel
theorem dX11_sign_115 : decode cX11_sign 115 = .ok (.if_icmp .ne 10, 3) := by decide +kernel
theorem dX11_sign_118 : decode cX11_sign 118 = .ok (.bipush 9, 2) := by decide +kernel
theorem dX11_sign_120 : decode cX11_sign 120 = .ok (.istore 5, 2) := by decide +kernel
theorem dX11_sign_122 : decode cX11_sign 122 = .ok (.goto 39, 3) := by decide +kernel
theorem dX11_sign_125 : decode cX11_sign 125 = .ok (.iload_n 2, 1) := by decide +kernel
theorem dX11_sign_126 : decode cX11_sign 126 = .ok (.bipush 42, 2) := by decide +kernel
theorem dX11_sign_128 : decode cX11_sign 128 = .ok (.if_icmp .ne 10, 3) := by decide +kernel
theorem dX11_sign_131 : decode cX11_sign 131 = .ok (.bipush 10, 2) := by decide +kernel
theorem dX11_sign_133 : decode cX11_sign 133 = .ok (.istore 5, 2) := by decide +kernel
theorem dX11_sign_135 : decode cX11_sign 135 = .ok (.goto 26, 3) := by decide +kernel
theorem dX11_sign_138 : decode cX11_sign 138 = .ok (.iload_n 2, 1) := by decide +kernel
theorem dX11_sign_139 : decode cX11_sign 139 = .ok (.bipush 60, 2) := by decide +kernel
theorem dX11_sign_141 : decode cX11_sign 141 = .ok (.if_icmp .ne 10, 3) := by decide +kernel
theorem dX11_sign_144 : decode cX11_sign 144 = .ok (.bipush 13, 2) := by decide +kernel
theorem dX11_sign_146 : decode cX11_sign 146 = .ok (.istore 5, 2) := by decide +kernel
theorem dX11_sign_148 : decode cX11_sign 148 = .ok (.goto 13, 3) := by decide +kernel
theorem dX11_sign_151 : decode cX11_sign 151 = .ok (.iload_n 2, 1) := by decide +kernel
theorem dX11_sign_152 : decode cX11_sign 152 = .ok (.bipush 61, 2) := by decide +kernel
theorem dX11_sign_154 : decode cX11_sign 154 = .ok (.if_icmp .ne 7, 3) := by decide +kernel
theorem dX11_sign_157 : decode cX11_sign 157 = .ok (.bipush 15, 2) := by decide +kernel
theorem dX11_sign_159 : decode cX11_sign 159 = .ok (.istore 5, 2) := by decide +kernel
theorem dX11_sign_161 : decode cX11_sign 161 = .ok (.aload_n 0, 1) := by decide +kernel
theorem dX11_sign_162 : decode cX11_sign 162 = .ok (.iload 5, 2) := by decide +kernel
theorem dX11_sign_164 : decode cX11_sign 164 = .ok (.iload_n 1, 1) := by decide +kernel
theorem dX11_sign_165 : decode cX11_sign 165 = .ok (.iconst 0, 1) := by decide +kernel
theorem dX11_sign_166 : decode cX11_sign 166 = .ok (.lconst 0, 1) := by decide +kernel
theorem dX11_sign_167 : decode cX11_sign 167 = .ok (.invokevirtual 185, 3) := by decide +kernel
theorem dX11_sign_170 : decode cX11_sign 170 = .ok (.iload 4, 2) := by decide +kernel
theorem dX11_sign_172 : decode cX11_sign 172 = .ok (.ifCond .le 7, 3) := by decide +kernel
theorem dX11_sign_175 : decode cX11_sign 175 = .ok (.iconst 2, 1) := by decide +kernel
theorem dX11_sign_176 : decode cX11_sign 176 = .ok (.goto 4, 3) := by decide +kernel
theorem dX11_sign_179 : decode cX11_sign 179 = .ok (.iconst 1, 1) := by decide +kernel
theorem dX11_sign_180 : decode cX11_sign 180 = .ok (.ireturn, 1) := by decide +kernel
theorem dX11_is_0 : decode cX11_is 0 = .ok (.aload_n 0, 1) := by decide +kernel
theorem dX11_is_1 : decode cX11_is 1 = .ok (.getfield 200, 3) := by decide +kernel
theorem dX11_is_4 : decode cX11_is 4 = .ok (.ifCond .ne 20, 3) := by decide +kernel
theorem dX11_is_7 : decode cX11_is 7 = .ok (.aload_n 0, 1) := by decide +kernel
theorem dX11_is_8 : decode cX11_is 8 = .ok (.getfield 20, 3) := by decide +kernel
theorem dX11_is_11 : decode cX11_is 11 = .ok (.aload_n 0, 1) := by decide +kernel
theorem dX11_is_12 : decode cX11_is 12 = .ok (.getfield 203, 3) := by decide +kernel
theorem dX11_is_15 : decode cX11_is 15 = .ok (.iaload, 1) := by decide +kernel
theorem dX11_is_16 : decode cX11_is 16 = .ok (.iload_n 1, 1) := by decide +kernel
theorem dX11_is_17 : decode cX11_is 17 = .ok (.if_icmp .ne 7, 3) := by decide +kernel
theorem dX11_is_20 : decode cX11_is 20 = .ok (.iconst 1, 1) := by decide +kernel
theorem dX11_is_21 : decode cX11_is 21 = .ok (.goto 4, 3) := by decide +kernel
theorem dX11_is_24 : decode cX11_is 24 = .ok (.iconst 0, 1) := by decide +kernel
theorem dX11_is_25 : decode cX11_is 25 = .ok (.ireturn, 1) := by decide +kernel
theorem dX11_fail_0 : decode cX11_fail 0 = .ok (.aload_n 0, 1) := by decide +kernel
theorem dX11_fail_1 : decode cX11_fail 1 = .ok (.getfield 200, 3) := by decide +kernel
theorem dX11_fail_4 : decode cX11_fail 4 = .ok (.ifCond .le 4, 3) := by decide +kernel
theorem dX11_fail_7 : decode cX11_fail 7 = .ok (.return_, 1) := by decide +kernel
theorem dX11_fail_8 : decode cX11_fail 8 = .ok (.aload_n 0, 1) := by decide +kernel
theorem dX11_fail_9 : decode cX11_fail 9 = .ok (.iload_n 1, 1) := by decide +kernel
theorem dX11_fail_10 : decode cX11_fail 10 = .ok (.putfield 200, 3) := by decide +kernel
theorem dX11_fail_13 : decode cX11_fail 13 = .ok (.aload_n 0, 1) := by decide +kernel
theorem dX11_fail_14 : decode cX11_fail 14 = .ok (.aload_n 0, 1) := by decide +kernel
theorem dX11_fail_15 : decode cX11_fail 15 = .ok (.getfield 24, 3) := by decide +kernel
theorem dX11_fail_18 : decode cX11_fail 18 = .ok (.aload_n 0, 1) := by decide +kernel
theorem dX11_fail_19 : decode cX11_fail 19 = .ok (.getfield 203, 3) := by decide +kernel
theorem dX11_fail_22 : decode cX11_fail 22 = .ok (.iaload, 1) := by decide +kernel
theorem dX11_fail_23 : decode cX11_fail 23 = .ok (.putfield 206, 3) := by decide +kernel
theorem dX11_fail_26 : decode cX11_fail 26 = .ok (.return_, 1) := by decide +kernel
theorem dX11_wrong_0 : decode cX11_wrong 0 = .ok (.aload_n 0, 1) := by decide +kernel
theorem dX11_wrong_1 : decode cX11_wrong 1 = .ok (.getfield 24, 3) := by decide +kernel
theorem dX11_wrong_4 : decode cX11_wrong 4 = .ok (.iload_n 2, 1) := by decide +kernel
theorem dX11_wrong_5 : decode cX11_wrong 5 = .ok (.iaload, 1) := by decide +kernel
theorem dX11_wrong_6 : decode cX11_wrong 6 = .ok (.istore_n 3, 1) := by decide +kernel
theorem dX11_wrong_7 : decode cX11_wrong 7 = .ok (.aload_n 0, 1) := by decide +kernel
theorem dX11_wrong_8 : decode cX11_wrong 8 = .ok (.getfield 200, 3) := by decide +kernel
theorem dX11_wrong_11 : decode cX11_wrong 11 = .ok (.ifCond .gt 34, 3) := by decide +kernel
theorem dX11_wrong_14 : decode cX11_wrong 14 = .ok (.aload_n 0, 1) := by decide +kernel
theorem dX11_wrong_15 : decode cX11_wrong 15 = .ok (.getfield 209, 3) := by decide +kernel
theorem dX11_wrong_18 : decode cX11_wrong 18 = .ok (.ifCond .eq 28, 3) := by decide +kernel
theorem dX11_wrong_21 : decode cX11_wrong 21 = .ok (.iload_n 3, 1) := by decide +kernel
theorem dX11_wrong_22 : decode cX11_wrong 22 = .ok (.aload_n 0, 1) := by decide +kernel
theorem dX11_wrong_23 : decode cX11_wrong 23 = .ok (.getfield 212, 3) := by decide +kernel
theorem dX11_wrong_26 : decode cX11_wrong 26 = .ok (.if_icmp .gt 19, 3) := by decide +kernel
theorem dX11_wrong_29 : decode cX11_wrong 29 = .ok (.iload_n 3, 1) := by decide +kernel
theorem dX11_wrong_30 : decode cX11_wrong 30 = .ok (.aload_n 0, 1) := by decide +kernel
theorem dX11_wrong_31 : decode cX11_wrong 31 = .ok (.getfield 212, 3) := by decide +kernel
theorem dX11_wrong_34 : decode cX11_wrong 34 = .ok (.if_icmp .ne 12, 3) := by decide +kernel
theorem dX11_wrong_37 : decode cX11_wrong 37 = .ok (.iload_n 1, 1) := by decide +kernel
theorem dX11_wrong_38 : decode cX11_wrong 38 = .ok (.aload_n 0, 1) := by decide +kernel
theorem dX11_wrong_39 : decode cX11_wrong 39 = .ok (.getfield 209, 3) := by decide +kernel
theorem dX11_wrong_42 : decode cX11_wrong 42 = .ok (.if_icmp .lt 4, 3) := by decide +kernel
theorem dX11_wrong_45 : decode cX11_wrong 45 = .ok (.return_, 1) := by decide +kernel
theorem dX11_wrong_46 : decode cX11_wrong 46 = .ok (.aload_n 0, 1) := by decide +kernel
theorem dX11_wrong_47 : decode cX11_wrong 47 = .ok (.iload_n 1, 1) := by decide +kernel
theorem dX11_wrong_48 : decode cX11_wrong 48 = .ok (.putfield 209, 3) := by decide +kernel
theorem dX11_wrong_51 : decode cX11_wrong 51 = .ok (.aload_n 0, 1) := by decide +kernel
theorem dX11_wrong_52 : decode cX11_wrong 52 = .ok (.iload_n 3, 1) := by decide +kernel
theorem dX11_wrong_53 : decode cX11_wrong 53 = .ok (.putfield 212, 3) := by decide +kernel
theorem dX11_wrong_56 : decode cX11_wrong 56 = .ok (.return_, 1) := by decide +kernel
theorem dX11_goesOn_0 : decode cX11_goesOn 0 = .ok (.aload_n 0, 1) := by decide +kernel
theorem dX11_goesOn_1 : decode cX11_goesOn 1 = .ok (.getfield 203, 3) := by decide +kernel
theorem dX11_goesOn_4 : decode cX11_goesOn 4 = .ok (.sipush 400, 3) := by decide +kernel
theorem dX11_goesOn_7 : decode cX11_goesOn 7 = .ok (.if_icmp .ne 11, 3) := by decide +kernel
theorem dX11_goesOn_10 : decode cX11_goesOn 10 = .ok (.aload_n 0, 1) := by decide +kernel
theorem dX11_goesOn_11 : decode cX11_goesOn 11 = .ok (.iconst 2, 1) := by decide +kernel
theorem dX11_goesOn_12 : decode cX11_goesOn 12 = .ok (.invokevirtual 215, 3) := by decide +kernel
theorem dX11_goesOn_15 : decode cX11_goesOn 15 = .ok (.goto 13, 3) := by decide +kernel
theorem dX11_goesOn_18 : decode cX11_goesOn 18 = .ok (.aload_n 0, 1) := by decide +kernel
theorem dX11_goesOn_19 : decode cX11_goesOn 19 = .ok (.dup, 1) := by decide +kernel
theorem dX11_goesOn_20 : decode cX11_goesOn 20 = .ok (.getfield 203, 3) := by decide +kernel
theorem dX11_goesOn_23 : decode cX11_goesOn 23 = .ok (.iconst 1, 1) := by decide +kernel
theorem dX11_goesOn_24 : decode cX11_goesOn 24 = .ok (.iadd, 1) := by decide +kernel
theorem dX11_goesOn_25 : decode cX11_goesOn 25 = .ok (.putfield 203, 3) := by decide +kernel
theorem dX11_goesOn_28 : decode cX11_goesOn 28 = .ok (.return_, 1) := by decide +kernel
theorem dX11_must_0 : decode cX11_must 0 = .ok (.aload_n 0, 1) := by decide +kernel
theorem dX11_must_1 : decode cX11_must 1 = .ok (.iload_n 1, 1) := by decide +kernel
theorem dX11_must_2 : decode cX11_must 2 = .ok (.invokevirtual 218, 3) := by decide +kernel
theorem dX11_must_5 : decode cX11_must 5 = .ok (.ifCond .eq 10, 3) := by decide +kernel
theorem dX11_must_8 : decode cX11_must 8 = .ok (.aload_n 0, 1) := by decide +kernel
theorem dX11_must_9 : decode cX11_must 9 = .ok (.invokevirtual 221, 3) := by decide +kernel
theorem dX11_must_12 : decode cX11_must 12 = .ok (.goto 8, 3) := by decide +kernel
theorem dX11_must_15 : decode cX11_must 15 = .ok (.aload_n 0, 1) := by decide +kernel
theorem dX11_must_16 : decode cX11_must 16 = .ok (.iconst 1, 1) := by decide +kernel
theorem dX11_must_17 : decode cX11_must 17 = .ok (.invokevirtual 215, 3) := by decide +kernel
theorem dX11_must_20 : decode cX11_must 20 = .ok (.return_, 1) := by decide +kernel
theorem dX11_read_0 : decode cX11_read 0 = .ok (.aload_n 0, 1) := by decide +kernel
theorem dX11_read_1 : decode cX11_read 1 = .ok (.aload_n 0, 1) := by decide +kernel
theorem dX11_read_2 : decode cX11_read 2 = .ok (.getfield 162, 3) := by decide +kernel
theorem dX11_read_5 : decode cX11_read 5 = .ok (.putfield 169, 3) := by decide +kernel
theorem dX11_read_8 : decode cX11_read 8 = .ok (.iconst 0, 1) := by decide +kernel
theorem dX11_read_9 : decode cX11_read 9 = .ok (.istore_n 1, 1) := by decide +kernel
theorem dX11_read_10 : decode cX11_read 10 = .ok (.iload_n 1, 1) := by decide +kernel
theorem dX11_read_11 : decode cX11_read 11 = .ok (.aload_n 0, 1) := by decide +kernel
theorem dX11_read_12 : decode cX11_read 12 = .ok (.getfield 169, 3) := by decide +kernel
theorem dX11_read_15 : decode cX11_read 15 = .ok (.if_icmp .ge 21, 3) := by decide +kernel
theorem dX11_read_18 : decode cX11_read 18 = .ok (.aload_n 0, 1) := by decide +kernel
theorem dX11_read_19 : decode cX11_read 19 = .ok (.getfield 17, 3) := by decide +kernel
theorem dX11_read_22 : decode cX11_read 22 = .ok (.iload_n 1, 1) := by decide +kernel
theorem dX11_read_23 : decode cX11_read 23 = .ok (.aload_n 0, 1) := by decide +kernel
theorem dX11_read_24 : decode cX11_read 24 = .ok (.getfield 13, 3) := by decide +kernel
theorem dX11_read_27 : decode cX11_read 27 = .ok (.iload_n 1, 1) := by decide +kernel
theorem dX11_read_28 : decode cX11_read 28 = .ok (.baload, 1) := by decide +kernel
theorem dX11_read_29 : decode cX11_read 29 = .ok (.bastore, 1) := by decide +kernel
theorem dX11_read_30 : decode cX11_read 30 = .ok (.iinc 1 1, 3) := by decide +kernel
theorem dX11_read_33 : decode cX11_read 33 = .ok (.goto (-23), 3) := by decide +kernel
theorem dX11_read_36 : decode cX11_read 36 = .ok (.aload_n 0, 1) := by decide +kernel
theorem dX11_read_37 : decode cX11_read 37 = .ok (.iconst 0, 1) := by decide +kernel
theorem dX11_read_38 : decode cX11_read 38 = .ok (.putfield 162, 3) := by decide +kernel
theorem dX11_read_41 : decode cX11_read 41 = .ok (.aload_n 0, 1) := by decide +kernel
theorem dX11_read_42 : decode cX11_read 42 = .ok (.invokevirtual 224, 3) := by decide +kernel
theorem dX11_read_45 : decode cX11_read 45 = .ok (.aload_n 0, 1) := by decide +kernel
theorem dX11_read_46 : decode cX11_read 46 = .ok (.iconst 0, 1) := by decide +kernel
theorem dX11_read_47 : decode cX11_read 47 = .ok (.putfield 203, 3) := by decide +kernel
theorem dX11_read_50 : decode cX11_read 50 = .ok (.aload_n 0, 1) := by decide +kernel
theorem dX11_read_51 : decode cX11_read 51 = .ok (.iconst 0, 1) := by decide +kernel
theorem dX11_read_52 : decode cX11_read 52 = .ok (.putfield 227, 3) := by decide +kernel
theorem dX11_read_55 : decode cX11_read 55 = .ok (.aload_n 0, 1) := by decide +kernel
theorem dX11_read_56 : decode cX11_read 56 = .ok (.iconst 0, 1) := by decide +kernel
theorem dX11_read_57 : decode cX11_read 57 = .ok (.putfield 200, 3) := by decide +kernel
theorem dX11_read_60 : decode cX11_read 60 = .ok (.aload_n 0, 1) := by decide +kernel
theorem dX11_read_61 : decode cX11_read 61 = .ok (.iconst 0, 1) := by decide +kernel
theorem dX11_read_62 : decode cX11_read 62 = .ok (.putfield 209, 3) := by decide +kernel
theorem dX11_read_65 : decode cX11_read 65 = .ok (.aload_n 0, 1) := by decide +kernel
theorem dX11_read_66 : decode cX11_read 66 = .ok (.iconst 1, 1) := by decide +kernel
theorem dX11_read_67 : decode cX11_read 67 = .ok (.aload_n 0, 1) := by decide +kernel
theorem dX11_read_68 : decode cX11_read 68 = .ok (.getfield 230, 3) := by decide +kernel
theorem dX11_read_71 : decode cX11_read 71 = .ok (.isub, 1) := by decide +kernel
theorem dX11_read_72 : decode cX11_read 72 = .ok (.putfield 233, 3) := by decide +kernel
theorem dX11_read_75 : decode cX11_read 75 = .ok (.aload_n 0, 1) := by decide +kernel
theorem dX11_read_76 : decode cX11_read 76 = .ok (.iconst 0, 1) := by decide +kernel
theorem dX11_read_77 : decode cX11_read 77 = .ok (.putfield 236, 3) := by decide +kernel
theorem dX11_read_80 : decode cX11_read 80 = .ok (.aload_n 0, 1) := by decide +kernel
theorem dX11_read_81 : decode cX11_read 81 = .ok (.getfield 49, 3) := by decide +kernel
theorem dX11_read_84 : decode cX11_read 84 = .ok (.aload_n 0, 1) := by decide +kernel
theorem dX11_read_85 : decode cX11_read 85 = .ok (.getfield 233, 3) := by decide +kernel
theorem dX11_read_88 : decode cX11_read 88 = .ok (.iconst 0, 1) := by decide +kernel
theorem dX11_read_89 : decode cX11_read 89 = .ok (.iastore, 1) := by decide +kernel
theorem dX11_read_90 : decode cX11_read 90 = .ok (.aload_n 0, 1) := by decide +kernel
theorem dX11_read_91 : decode cX11_read 91 = .ok (.getfield 52, 3) := by decide +kernel
theorem dX11_read_94 : decode cX11_read 94 = .ok (.aload_n 0, 1) := by decide +kernel
theorem dX11_read_95 : decode cX11_read 95 = .ok (.getfield 233, 3) := by decide +kernel
theorem dX11_read_98 : decode cX11_read 98 = .ok (.iconst 0, 1) := by decide +kernel
theorem dX11_read_99 : decode cX11_read 99 = .ok (.iastore, 1) := by decide +kernel
theorem dX11_read_100 : decode cX11_read 100 = .ok (.aload_n 0, 1) := by decide +kernel
theorem dX11_read_101 : decode cX11_read 101 = .ok (.getfield 55, 3) := by decide +kernel
theorem dX11_read_104 : decode cX11_read 104 = .ok (.aload_n 0, 1) := by decide +kernel
theorem dX11_read_105 : decode cX11_read 105 = .ok (.getfield 233, 3) := by decide +kernel
theorem dX11_read_108 : decode cX11_read 108 = .ok (.iconst 0, 1) := by decide +kernel
theorem dX11_read_109 : decode cX11_read 109 = .ok (.iastore, 1) := by decide +kernel
theorem dX11_read_110 : decode cX11_read 110 = .ok (.aload_n 0, 1) := by decide +kernel
theorem dX11_read_111 : decode cX11_read 111 = .ok (.getfield 58, 3) := by decide +kernel
theorem dX11_read_114 : decode cX11_read 114 = .ok (.aload_n 0, 1) := by decide +kernel
theorem dX11_read_115 : decode cX11_read 115 = .ok (.getfield 233, 3) := by decide +kernel
theorem dX11_read_118 : decode cX11_read 118 = .ok (.iconst 0, 1) := by decide +kernel
theorem dX11_read_119 : decode cX11_read 119 = .ok (.iastore, 1) := by decide +kernel
theorem dX11_read_120 : decode cX11_read 120 = .ok (.aload_n 0, 1) := by decide +kernel
theorem dX11_read_121 : decode cX11_read 121 = .ok (.getfield 64, 3) := by decide +kernel
theorem dX11_read_124 : decode cX11_read 124 = .ok (.aload_n 0, 1) := by decide +kernel
theorem dX11_read_125 : decode cX11_read 125 = .ok (.getfield 233, 3) := by decide +kernel
theorem dX11_read_128 : decode cX11_read 128 = .ok (.iconst 0, 1) := by decide +kernel
theorem dX11_read_129 : decode cX11_read 129 = .ok (.iastore, 1) := by decide +kernel
theorem dX11_read_130 : decode cX11_read 130 = .ok (.aload_n 0, 1) := by decide +kernel
theorem dX11_read_131 : decode cX11_read 131 = .ok (.sipush 150, 3) := by decide +kernel
theorem dX11_read_134 : decode cX11_read 134 = .ok (.aload_n 0, 1) := by decide +kernel
theorem dX11_read_135 : decode cX11_read 135 = .ok (.getfield 233, 3) := by decide +kernel
theorem dX11_read_138 : decode cX11_read 138 = .ok (.imul, 1) := by decide +kernel
theorem dX11_read_139 : decode cX11_read 139 = .ok (.putfield 239, 3) := by decide +kernel
theorem dX11_read_142 : decode cX11_read 142 = .ok (.aload_n 0, 1) := by decide +kernel
theorem dX11_read_143 : decode cX11_read 143 = .ok (.sipush 420, 3) := by decide +kernel
theorem dX11_read_146 : decode cX11_read 146 = .ok (.aload_n 0, 1) := by decide +kernel
theorem dX11_read_147 : decode cX11_read 147 = .ok (.getfield 233, 3) := by decide +kernel
theorem dX11_read_150 : decode cX11_read 150 = .ok (.imul, 1) := by decide +kernel
theorem dX11_read_151 : decode cX11_read 151 = .ok (.putfield 242, 3) := by decide +kernel
theorem dX11_read_154 : decode cX11_read 154 = .ok (.aload_n 0, 1) := by decide +kernel
theorem dX11_read_155 : decode cX11_read 155 = .ok (.getfield 200, 3) := by decide +kernel
theorem dX11_read_158 : decode cX11_read 158 = .ok (.ifCond .ne 18, 3) := by decide +kernel
theorem dX11_read_161 : decode cX11_read 161 = .ok (.aload_n 0, 1) := by decide +kernel
theorem dX11_read_162 : decode cX11_read 162 = .ok (.iconst 0, 1) := by decide +kernel
theorem dX11_read_163 : decode cX11_read 163 = .ok (.invokevirtual 218, 3) := by decide +kernel
theorem dX11_read_166 : decode cX11_read 166 = .ok (.ifCond .ne 10, 3) := by decide +kernel
theorem dX11_read_169 : decode cX11_read 169 = .ok (.aload_n 0, 1) := by decide +kernel
theorem dX11_read_170 : decode cX11_read 170 = .ok (.invokevirtual 245, 3) := by decide +kernel
theorem dX11_read_173 : decode cX11_read 173 = .ok (.goto (-19), 3) := by decide +kernel
theorem dX11_read_176 : decode cX11_read 176 = .ok (.aload_n 0, 1) := by decide +kernel
theorem dX11_read_177 : decode cX11_read 177 = .ok (.aload_n 0, 1) := by decide +kernel
theorem dX11_read_178 : decode cX11_read 178 = .ok (.getfield 200, 3) := by decide +kernel
theorem dX11_read_181 : decode cX11_read 181 = .ok (.ifCond .le 10, 3) := by decide +kernel
theorem dX11_read_184 : decode cX11_read 184 = .ok (.aload_n 0, 1) := by decide +kernel
theorem dX11_read_185 : decode cX11_read 185 = .ok (.getfield 206, 3) := by decide +kernel
theorem dX11_read_188 : decode cX11_read 188 = .ok (.goto 18, 3) := by decide +kernel
theorem dX11_read_191 : decode cX11_read 191 = .ok (.aload_n 0, 1) := by decide +kernel
theorem dX11_read_192 : decode cX11_read 192 = .ok (.getfield 209, 3) := by decide +kernel
theorem dX11_read_195 : decode cX11_read 195 = .ok (.ifCond .le 10, 3) := by decide +kernel
theorem dX11_read_198 : decode cX11_read 198 = .ok (.aload_n 0, 1) := by decide +kernel
theorem dX11_read_199 : decode cX11_read 199 = .ok (.getfield 212, 3) := by decide +kernel
theorem dX11_read_202 : decode cX11_read 202 = .ok (.goto 4, 3) := by decide +kernel
theorem dX11_read_205 : decode cX11_read 205 = .ok (.iconst (-1), 1) := by decide +kernel
theorem dX11_read_206 : decode cX11_read 206 = .ok (.putfield 37, 3) := by decide +kernel
theorem dX11_read_209 : decode cX11_read 209 = .ok (.aload_n 0, 1) := by decide +kernel
theorem dX11_read_210 : decode cX11_read 210 = .ok (.getfield 200, 3) := by decide +kernel
theorem dX11_read_213 : decode cX11_read 213 = .ok (.ifCond .le 8, 3) := by decide +kernel
theorem dX11_read_216 : decode cX11_read 216 = .ok (.aload_n 0, 1) := by decide +kernel
theorem dX11_read_217 : decode cX11_read 217 = .ok (.getfield 200, 3) := by decide +kernel
theorem dX11_read_220 : decode cX11_read 220 = .ok (.ireturn, 1) := by decide +kernel
theorem dX11_read_221 : decode cX11_read 221 = .ok (.aload_n 0, 1) := by decide +kernel
theorem dX11_read_222 : decode cX11_read 222 = .ok (.getfield 209, 3) := by decide +kernel
theorem dX11_read_225 : decode cX11_read 225 = .ok (.ifCond .le 8, 3) := by decide +kernel
theorem dX11_read_228 : decode cX11_read 228 = .ok (.aload_n 0, 1) := by decide +kernel
theorem dX11_read_229 : decode cX11_read 229 = .ok (.getfield 209, 3) := by decide +kernel
theorem dX11_read_232 : decode cX11_read 232 = .ok (.ireturn, 1) := by decide +kernel
theorem dX11_read_233 : decode cX11_read 233 = .ok (.aload_n 0, 1) := by decide +kernel
theorem dX11_read_234 : decode cX11_read 234 = .ok (.aload_n 0, 1) := by decide +kernel
theorem dX11_read_235 : decode cX11_read 235 = .ok (.getfield 233, 3) := by decide +kernel
theorem dX11_read_238 : decode cX11_read 238 = .ok (.putfield 230, 3) := by decide +kernel
theorem dX11_read_241 : decode cX11_read 241 = .ok (.iconst 0, 1) := by decide +kernel
theorem dX11_read_242 : decode cX11_read 242 = .ok (.ireturn, 1) := by decide +kernel
theorem dX11_place_0 : decode cX11_place 0 = .ok (.aload_n 0, 1) := by decide +kernel
theorem dX11_place_1 : decode cX11_place 1 = .ok (.getfield 37, 3) := by decide +kernel
theorem dX11_place_4 : decode cX11_place 4 = .ok (.ireturn, 1) := by decide +kernel
theorem dX11_tell_0 : decode cX11_tell 0 = .ok (.aload_n 0, 1) := by decide +kernel
theorem dX11_tell_1 : decode cX11_tell 1 = .ok (.getfield 20, 3) := by decide +kernel
theorem dX11_tell_4 : decode cX11_tell 4 = .ok (.aload_n 0, 1) := by decide +kernel
theorem dX11_tell_5 : decode cX11_tell 5 = .ok (.getfield 203, 3) := by decide +kernel
theorem dX11_tell_8 : decode cX11_tell 8 = .ok (.iaload, 1) := by decide +kernel
theorem dX11_tell_9 : decode cX11_tell 9 = .ok (.tableswitch 202 20 25 #[39, 202, 72, 105, 137, 170], 39) := by decide +kernel
theorem dX11_tell_48 : decode cX11_tell 48 = .ok (.aload_n 0, 1) := by decide +kernel
theorem dX11_tell_49 : decode cX11_tell 49 = .ok (.getfield 49, 3) := by decide +kernel
theorem dX11_tell_52 : decode cX11_tell 52 = .ok (.aload_n 0, 1) := by decide +kernel
theorem dX11_tell_53 : decode cX11_tell 53 = .ok (.getfield 233, 3) := by decide +kernel
theorem dX11_tell_56 : decode cX11_tell 56 = .ok (.iaload, 1) := by decide +kernel
theorem dX11_tell_57 : decode cX11_tell 57 = .ok (.bipush 6, 2) := by decide +kernel
theorem dX11_tell_59 : decode cX11_tell 59 = .ok (.if_icmp .ne 8, 3) := by decide +kernel
theorem dX11_tell_62 : decode cX11_tell 62 = .ok (.aload_n 0, 1) := by decide +kernel
theorem dX11_tell_63 : decode cX11_tell 63 = .ok (.iconst 2, 1) := by decide +kernel
theorem dX11_tell_64 : decode cX11_tell 64 = .ok (.invokevirtual 215, 3) := by decide +kernel
theorem dX11_tell_67 : decode cX11_tell 67 = .ok (.aload_n 0, 1) := by decide +kernel
theorem dX11_tell_68 : decode cX11_tell 68 = .ok (.getfield 200, 3) := by decide +kernel
theorem dX11_tell_71 : decode cX11_tell 71 = .ok (.ifCond .ne 145, 3) := by decide +kernel
theorem dX11_tell_74 : decode cX11_tell 74 = .ok (.aload_n 0, 1) := by decide +kernel
theorem dX11_tell_75 : decode cX11_tell 75 = .ok (.invokevirtual 248, 3) := by decide +kernel
theorem dX11_tell_78 : decode cX11_tell 78 = .ok (.goto 138, 3) := by decide +kernel
theorem dX11_tell_81 : decode cX11_tell 81 = .ok (.aload_n 0, 1) := by decide +kernel
theorem dX11_tell_82 : decode cX11_tell 82 = .ok (.getfield 52, 3) := by decide +kernel
theorem dX11_tell_85 : decode cX11_tell 85 = .ok (.aload_n 0, 1) := by decide +kernel
theorem dX11_tell_86 : decode cX11_tell 86 = .ok (.getfield 233, 3) := by decide +kernel
theorem dX11_tell_89 : decode cX11_tell 89 = .ok (.iaload, 1) := by decide +kernel
theorem dX11_tell_90 : decode cX11_tell 90 = .ok (.bipush 16, 2) := by decide +kernel
theorem dX11_tell_92 : decode cX11_tell 92 = .ok (.if_icmp .ne 8, 3) := by decide +kernel
theorem dX11_tell_95 : decode cX11_tell 95 = .ok (.aload_n 0, 1) := by decide +kernel
theorem dX11_tell_96 : decode cX11_tell 96 = .ok (.iconst 2, 1) := by decide +kernel
theorem dX11_tell_97 : decode cX11_tell 97 = .ok (.invokevirtual 215, 3) := by decide +kernel
theorem dX11_tell_100 : decode cX11_tell 100 = .ok (.aload_n 0, 1) := by decide +kernel
theorem dX11_tell_101 : decode cX11_tell 101 = .ok (.getfield 200, 3) := by decide +kernel
theorem dX11_tell_104 : decode cX11_tell 104 = .ok (.ifCond .ne 112, 3) := by decide +kernel
theorem dX11_tell_107 : decode cX11_tell 107 = .ok (.aload_n 0, 1) := by decide +kernel
theorem dX11_tell_108 : decode cX11_tell 108 = .ok (.invokevirtual 251, 3) := by decide +kernel
theorem dX11_tell_111 : decode cX11_tell 111 = .ok (.goto 105, 3) := by decide +kernel
theorem dX11_tell_114 : decode cX11_tell 114 = .ok (.aload_n 0, 1) := by decide +kernel
theorem dX11_tell_115 : decode cX11_tell 115 = .ok (.getfield 55, 3) := by decide +kernel
theorem dX11_tell_118 : decode cX11_tell 118 = .ok (.aload_n 0, 1) := by decide +kernel
theorem dX11_tell_119 : decode cX11_tell 119 = .ok (.getfield 233, 3) := by decide +kernel
theorem dX11_tell_122 : decode cX11_tell 122 = .ok (.iaload, 1) := by decide +kernel
theorem dX11_tell_123 : decode cX11_tell 123 = .ok (.iconst 4, 1) := by decide +kernel
theorem dX11_tell_124 : decode cX11_tell 124 = .ok (.if_icmp .ne 8, 3) := by decide +kernel
theorem dX11_tell_127 : decode cX11_tell 127 = .ok (.aload_n 0, 1) := by decide +kernel
theorem dX11_tell_128 : decode cX11_tell 128 = .ok (.iconst 2, 1) := by decide +kernel
theorem dX11_tell_129 : decode cX11_tell 129 = .ok (.invokevirtual 215, 3) := by decide +kernel
theorem dX11_tell_132 : decode cX11_tell 132 = .ok (.aload_n 0, 1) := by decide +kernel
theorem dX11_tell_133 : decode cX11_tell 133 = .ok (.getfield 200, 3) := by decide +kernel
theorem dX11_tell_136 : decode cX11_tell 136 = .ok (.ifCond .ne 80, 3) := by decide +kernel
theorem dX11_tell_139 : decode cX11_tell 139 = .ok (.aload_n 0, 1) := by decide +kernel
theorem dX11_tell_140 : decode cX11_tell 140 = .ok (.invokevirtual 254, 3) := by decide +kernel
theorem dX11_tell_143 : decode cX11_tell 143 = .ok (.goto 73, 3) := by decide +kernel
theorem dX11_tell_146 : decode cX11_tell 146 = .ok (.aload_n 0, 1) := by decide +kernel
theorem dX11_tell_147 : decode cX11_tell 147 = .ok (.getfield 64, 3) := by decide +kernel
theorem dX11_tell_150 : decode cX11_tell 150 = .ok (.aload_n 0, 1) := by decide +kernel
theorem dX11_tell_151 : decode cX11_tell 151 = .ok (.getfield 233, 3) := by decide +kernel
theorem dX11_tell_154 : decode cX11_tell 154 = .ok (.iaload, 1) := by decide +kernel
theorem dX11_tell_155 : decode cX11_tell 155 = .ok (.bipush 40, 2) := by decide +kernel
theorem dX11_tell_157 : decode cX11_tell 157 = .ok (.if_icmp .ne 8, 3) := by decide +kernel
theorem dX11_tell_160 : decode cX11_tell 160 = .ok (.aload_n 0, 1) := by decide +kernel
theorem dX11_tell_161 : decode cX11_tell 161 = .ok (.iconst 2, 1) := by decide +kernel
theorem dX11_tell_162 : decode cX11_tell 162 = .ok (.invokevirtual 215, 3) := by decide +kernel
theorem dX11_tell_165 : decode cX11_tell 165 = .ok (.aload_n 0, 1) := by decide +kernel
theorem dX11_tell_166 : decode cX11_tell 166 = .ok (.getfield 200, 3) := by decide +kernel
theorem dX11_tell_169 : decode cX11_tell 169 = .ok (.ifCond .ne 47, 3) := by decide +kernel
theorem dX11_tell_172 : decode cX11_tell 172 = .ok (.aload_n 0, 1) := by decide +kernel
theorem dX11_tell_173 : decode cX11_tell 173 = .ok (.invokevirtual 257, 3) := by decide +kernel
theorem dX11_tell_176 : decode cX11_tell 176 = .ok (.goto 40, 3) := by decide +kernel
theorem dX11_tell_179 : decode cX11_tell 179 = .ok (.aload_n 0, 1) := by decide +kernel
theorem dX11_tell_180 : decode cX11_tell 180 = .ok (.getfield 58, 3) := by decide +kernel
theorem dX11_tell_183 : decode cX11_tell 183 = .ok (.aload_n 0, 1) := by decide +kernel
theorem dX11_tell_184 : decode cX11_tell 184 = .ok (.getfield 233, 3) := by decide +kernel
theorem dX11_tell_187 : decode cX11_tell 187 = .ok (.iaload, 1) := by decide +kernel
theorem dX11_tell_188 : decode cX11_tell 188 = .ok (.iconst 4, 1) := by decide +kernel
theorem dX11_tell_189 : decode cX11_tell 189 = .ok (.if_icmp .ne 8, 3) := by decide +kernel
theorem dX11_tell_192 : decode cX11_tell 192 = .ok (.aload_n 0, 1) := by decide +kernel
theorem dX11_tell_193 : decode cX11_tell 193 = .ok (.iconst 2, 1) := by decide +kernel
theorem dX11_tell_194 : decode cX11_tell 194 = .ok (.invokevirtual 215, 3) := by decide +kernel
theorem dX11_tell_197 : decode cX11_tell 197 = .ok (.aload_n 0, 1) := by decide +kernel
theorem dX11_tell_198 : decode cX11_tell 198 = .ok (.getfield 200, 3) := by decide +kernel
theorem dX11_tell_201 : decode cX11_tell 201 = .ok (.ifCond .ne 15, 3) := by decide +kernel
theorem dX11_tell_204 : decode cX11_tell 204 = .ok (.aload_n 0, 1) := by decide +kernel
theorem dX11_tell_205 : decode cX11_tell 205 = .ok (.invokevirtual 260, 3) := by decide +kernel
theorem dX11_tell_208 : decode cX11_tell 208 = .ok (.goto 8, 3) := by decide +kernel
theorem dX11_tell_211 : decode cX11_tell 211 = .ok (.aload_n 0, 1) := by decide +kernel
theorem dX11_tell_212 : decode cX11_tell 212 = .ok (.iconst 1, 1) := by decide +kernel
theorem dX11_tell_213 : decode cX11_tell 213 = .ok (.invokevirtual 215, 3) := by decide +kernel
theorem dX11_tell_216 : decode cX11_tell 216 = .ok (.return_, 1) := by decide +kernel
theorem dX11_named_0 : decode cX11_named 0 = .ok (.aload_n 0, 1) := by decide +kernel
theorem dX11_named_1 : decode cX11_named 1 = .ok (.getfield 203, 3) := by decide +kernel
theorem dX11_named_4 : decode cX11_named 4 = .ok (.istore_n 1, 1) := by decide +kernel
theorem dX11_named_5 : decode cX11_named 5 = .ok (.aload_n 0, 1) := by decide +kernel
theorem dX11_named_6 : decode cX11_named 6 = .ok (.iconst 1, 1) := by decide +kernel
theorem dX11_named_7 : decode cX11_named 7 = .ok (.invokevirtual 263, 3) := by decide +kernel
theorem dX11_named_10 : decode cX11_named 10 = .ok (.iconst 0, 1) := by decide +kernel
theorem dX11_named_11 : decode cX11_named 11 = .ok (.istore_n 2, 1) := by decide +kernel
theorem dX11_named_12 : decode cX11_named 12 = .ok (.iload_n 2, 1) := by decide +kernel
theorem dX11_named_13 : decode cX11_named 13 = .ok (.aload_n 0, 1) := by decide +kernel
theorem dX11_named_14 : decode cX11_named 14 = .ok (.getfield 236, 3) := by decide +kernel
theorem dX11_named_17 : decode cX11_named 17 = .ok (.if_icmp .ge 38, 3) := by decide +kernel
theorem dX11_named_20 : decode cX11_named 20 = .ok (.aload_n 0, 1) := by decide +kernel
theorem dX11_named_21 : decode cX11_named 21 = .ok (.getfield 200, 3) := by decide +kernel
theorem dX11_named_24 : decode cX11_named 24 = .ok (.ifCond .ne 31, 3) := by decide +kernel
theorem dX11_named_27 : decode cX11_named 27 = .ok (.aload_n 0, 1) := by decide +kernel
theorem dX11_named_28 : decode cX11_named 28 = .ok (.getfield 40, 3) := by decide +kernel
theorem dX11_named_31 : decode cX11_named 31 = .ok (.iload_n 2, 1) := by decide +kernel
theorem dX11_named_32 : decode cX11_named 32 = .ok (.laload, 1) := by decide +kernel
theorem dX11_named_33 : decode cX11_named 33 = .ok (.aload_n 0, 1) := by decide +kernel
theorem dX11_named_34 : decode cX11_named 34 = .ok (.getfield 30, 3) := by decide +kernel
theorem dX11_named_37 : decode cX11_named 37 = .ok (.iload_n 1, 1) := by decide +kernel
theorem dX11_named_38 : decode cX11_named 38 = .ok (.laload, 1) := by decide +kernel
theorem dX11_named_39 : decode cX11_named 39 = .ok (.lcmp, 1) := by decide +kernel
theorem dX11_named_40 : decode cX11_named 40 = .ok (.ifCond .ne 9, 3) := by decide +kernel
theorem dX11_named_43 : decode cX11_named 43 = .ok (.aload_n 0, 1) := by decide +kernel
theorem dX11_named_44 : decode cX11_named 44 = .ok (.iconst 3, 1) := by decide +kernel
theorem dX11_named_45 : decode cX11_named 45 = .ok (.iload_n 1, 1) := by decide +kernel
theorem dX11_named_46 : decode cX11_named 46 = .ok (.invokevirtual 266, 3) := by decide +kernel
theorem dX11_named_49 : decode cX11_named 49 = .ok (.iinc 2 1, 3) := by decide +kernel
theorem dX11_named_52 : decode cX11_named 52 = .ok (.goto (-40), 3) := by decide +kernel
theorem dX11_named_55 : decode cX11_named 55 = .ok (.iload_n 1, 1) := by decide +kernel
theorem dX11_named_56 : decode cX11_named 56 = .ok (.ireturn, 1) := by decide +kernel
theorem dX11_knows_0 : decode cX11_knows 0 = .ok (.aload_n 0, 1) := by decide +kernel
theorem dX11_knows_1 : decode cX11_knows 1 = .ok (.getfield 40, 3) := by decide +kernel
theorem dX11_knows_4 : decode cX11_knows 4 = .ok (.aload_n 0, 1) := by decide +kernel
theorem dX11_knows_5 : decode cX11_knows 5 = .ok (.getfield 236, 3) := by decide +kernel
theorem dX11_knows_8 : decode cX11_knows 8 = .ok (.aload_n 0, 1) := by decide +kernel
theorem dX11_knows_9 : decode cX11_knows 9 = .ok (.getfield 30, 3) := by decide +kernel
theorem dX11_knows_12 : decode cX11_knows 12 = .ok (.iload_n 1, 1) := by decide +kernel
theorem dX11_knows_13 : decode cX11_knows 13 = .ok (.laload, 1) := by decide +kernel
theorem dX11_knows_14 : decode cX11_knows 14 = .ok (.lastore, 1) := by decide +kernel
theorem dX11_knows_15 : decode cX11_knows 15 = .ok (.aload_n 0, 1) := by decide +kernel
theorem dX11_knows_16 : decode cX11_knows 16 = .ok (.getfield 43, 3) := by decide +kernel
theorem dX11_knows_19 : decode cX11_knows 19 = .ok (.aload_n 0, 1) := by decide +kernel
theorem dX11_knows_20 : decode cX11_knows 20 = .ok (.getfield 236, 3) := by decide +kernel
theorem dX11_knows_23 : decode cX11_knows 23 = .ok (.iload_n 2, 1) := by decide +kernel
theorem dX11_knows_24 : decode cX11_knows 24 = .ok (.iastore, 1) := by decide +kernel
theorem dX11_knows_25 : decode cX11_knows 25 = .ok (.aload_n 0, 1) := by decide +kernel
theorem dX11_knows_26 : decode cX11_knows 26 = .ok (.getfield 46, 3) := by decide +kernel
theorem dX11_knows_29 : decode cX11_knows 29 = .ok (.aload_n 0, 1) := by decide +kernel
theorem dX11_knows_30 : decode cX11_knows 30 = .ok (.getfield 236, 3) := by decide +kernel
theorem dX11_knows_33 : decode cX11_knows 33 = .ok (.iload_n 3, 1) := by decide +kernel
theorem dX11_knows_34 : decode cX11_knows 34 = .ok (.iastore, 1) := by decide +kernel
theorem dX11_knows_35 : decode cX11_knows 35 = .ok (.aload_n 0, 1) := by decide +kernel
theorem dX11_knows_36 : decode cX11_knows 36 = .ok (.dup, 1) := by decide +kernel
theorem dX11_knows_37 : decode cX11_knows 37 = .ok (.getfield 236, 3) := by decide +kernel
theorem dX11_knows_40 : decode cX11_knows 40 = .ok (.iconst 1, 1) := by decide +kernel
theorem dX11_knows_41 : decode cX11_knows 41 = .ok (.iadd, 1) := by decide +kernel
theorem dX11_knows_42 : decode cX11_knows 42 = .ok (.putfield 236, 3) := by decide +kernel
theorem dX11_knows_45 : decode cX11_knows 45 = .ok (.return_, 1) := by decide +kernel
theorem dX11_known_0 : decode cX11_known 0 = .ok (.aload_n 0, 1) := by decide +kernel
theorem dX11_known_1 : decode cX11_known 1 = .ok (.getfield 203, 3) := by decide +kernel
theorem dX11_known_4 : decode cX11_known 4 = .ok (.istore_n 2, 1) := by decide +kernel
theorem dX11_known_5 : decode cX11_known 5 = .ok (.aload_n 0, 1) := by decide +kernel
theorem dX11_known_6 : decode cX11_known 6 = .ok (.iconst 1, 1) := by decide +kernel
theorem dX11_known_7 : decode cX11_known 7 = .ok (.invokevirtual 263, 3) := by decide +kernel
theorem dX11_known_10 : decode cX11_known 10 = .ok (.aload_n 0, 1) := by decide +kernel
theorem dX11_known_11 : decode cX11_known 11 = .ok (.getfield 200, 3) := by decide +kernel
theorem dX11_known_14 : decode cX11_known 14 = .ok (.ifCond .le 5, 3) := by decide +kernel
theorem dX11_known_17 : decode cX11_known 17 = .ok (.iconst (-1), 1) := by decide +kernel
theorem dX11_known_18 : decode cX11_known 18 = .ok (.ireturn, 1) := by decide +kernel
theorem dX11_known_19 : decode cX11_known 19 = .ok (.iconst (-1), 1) := by decide +kernel
theorem dX11_known_20 : decode cX11_known 20 = .ok (.istore_n 3, 1) := by decide +kernel
theorem dX11_known_21 : decode cX11_known 21 = .ok (.iconst 0, 1) := by decide +kernel
theorem dX11_known_22 : decode cX11_known 22 = .ok (.istore 4, 2) := by decide +kernel
theorem dX11_known_24 : decode cX11_known 24 = .ok (.iload 4, 2) := by decide +kernel
theorem dX11_known_26 : decode cX11_known 26 = .ok (.aload_n 0, 1) := by decide +kernel
theorem dX11_known_27 : decode cX11_known 27 = .ok (.getfield 236, 3) := by decide +kernel
theorem dX11_known_30 : decode cX11_known 30 = .ok (.if_icmp .ge 50, 3) := by decide +kernel
theorem dX11_known_33 : decode cX11_known 33 = .ok (.iload_n 3, 1) := by decide +kernel
theorem dX11_known_34 : decode cX11_known 34 = .ok (.iconst (-1), 1) := by decide +kernel
theorem dX11_known_35 : decode cX11_known 35 = .ok (.if_icmp .ne 39, 3) := by decide +kernel
theorem dX11_known_38 : decode cX11_known 38 = .ok (.aload_n 0, 1) := by decide +kernel
theorem dX11_known_39 : decode cX11_known 39 = .ok (.getfield 40, 3) := by decide +kernel
theorem dX11_known_42 : decode cX11_known 42 = .ok (.iload 4, 2) := by decide +kernel
theorem dX11_known_44 : decode cX11_known 44 = .ok (.laload, 1) := by decide +kernel
theorem dX11_known_45 : decode cX11_known 45 = .ok (.aload_n 0, 1) := by decide +kernel
theorem dX11_known_46 : decode cX11_known 46 = .ok (.getfield 30, 3) := by decide +kernel
theorem dX11_known_49 : decode cX11_known 49 = .ok (.iload_n 2, 1) := by decide +kernel
theorem dX11_known_50 : decode cX11_known 50 = .ok (.laload, 1) := by decide +kernel
theorem dX11_known_51 : decode cX11_known 51 = .ok (.lcmp, 1) := by decide +kernel
theorem dX11_known_52 : decode cX11_known 52 = .ok (.ifCond .ne 22, 3) := by decide +kernel
theorem dX11_known_55 : decode cX11_known 55 = .ok (.aload_n 0, 1) := by decide +kernel
theorem dX11_known_56 : decode cX11_known 56 = .ok (.getfield 43, 3) := by decide +kernel
theorem dX11_known_59 : decode cX11_known 59 = .ok (.iload 4, 2) := by decide +kernel
theorem dX11_known_61 : decode cX11_known 61 = .ok (.iaload, 1) := by decide +kernel
theorem dX11_known_62 : decode cX11_known 62 = .ok (.iload_n 1, 1) := by decide +kernel
theorem dX11_known_63 : decode cX11_known 63 = .ok (.if_icmp .ne 11, 3) := by decide +kernel
theorem dX11_known_66 : decode cX11_known 66 = .ok (.aload_n 0, 1) := by decide +kernel
theorem dX11_known_67 : decode cX11_known 67 = .ok (.getfield 46, 3) := by decide +kernel
theorem dX11_known_70 : decode cX11_known 70 = .ok (.iload 4, 2) := by decide +kernel
theorem dX11_known_72 : decode cX11_known 72 = .ok (.iaload, 1) := by decide +kernel
theorem dX11_known_73 : decode cX11_known 73 = .ok (.istore_n 3, 1) := by decide +kernel
theorem dX11_known_74 : decode cX11_known 74 = .ok (.iinc 4 1, 3) := by decide +kernel
theorem dX11_known_77 : decode cX11_known 77 = .ok (.goto (-53), 3) := by decide +kernel
theorem dX11_known_80 : decode cX11_known 80 = .ok (.iload_n 3, 1) := by decide +kernel
theorem dX11_known_81 : decode cX11_known 81 = .ok (.iconst (-1), 1) := by decide +kernel
theorem dX11_known_82 : decode cX11_known 82 = .ok (.if_icmp .ne 9, 3) := by decide +kernel
theorem dX11_known_85 : decode cX11_known 85 = .ok (.aload_n 0, 1) := by decide +kernel
theorem dX11_known_86 : decode cX11_known 86 = .ok (.iconst 4, 1) := by decide +kernel
theorem dX11_known_87 : decode cX11_known 87 = .ok (.iload_n 2, 1) := by decide +kernel
theorem dX11_known_88 : decode cX11_known 88 = .ok (.invokevirtual 266, 3) := by decide +kernel
theorem dX11_known_91 : decode cX11_known 91 = .ok (.iload_n 3, 1) := by decide +kernel
theorem dX11_known_92 : decode cX11_known 92 = .ok (.ireturn, 1) := by decide +kernel
theorem dX11_condition_0 : decode cX11_condition 0 = .ok (.aload_n 0, 1) := by decide +kernel
theorem dX11_condition_1 : decode cX11_condition 1 = .ok (.getfield 76, 3) := by decide +kernel
theorem dX11_condition_4 : decode cX11_condition 4 = .ok (.iload_n 1, 1) := by decide +kernel
theorem dX11_condition_5 : decode cX11_condition 5 = .ok (.aload_n 0, 1) := by decide +kernel
theorem dX11_condition_6 : decode cX11_condition 6 = .ok (.getfield 239, 3) := by decide +kernel
theorem dX11_condition_9 : decode cX11_condition 9 = .ok (.iastore, 1) := by decide +kernel
theorem dX11_condition_10 : decode cX11_condition 10 = .ok (.aload_n 0, 1) := by decide +kernel
theorem dX11_condition_11 : decode cX11_condition 11 = .ok (.bipush 21, 2) := by decide +kernel
theorem dX11_condition_13 : decode cX11_condition 13 = .ok (.invokevirtual 263, 3) := by decide +kernel
theorem dX11_condition_16 : decode cX11_condition 16 = .ok (.iconst 1, 1) := by decide +kernel
theorem dX11_condition_17 : decode cX11_condition 17 = .ok (.istore_n 2, 1) := by decide +kernel
theorem dX11_condition_18 : decode cX11_condition 18 = .ok (.iconst 1, 1) := by decide +kernel
theorem dX11_condition_19 : decode cX11_condition 19 = .ok (.istore_n 3, 1) := by decide +kernel
theorem dX11_condition_20 : decode cX11_condition 20 = .ok (.iload_n 3, 1) := by decide +kernel
theorem dX11_condition_21 : decode cX11_condition 21 = .ok (.ifCond .eq 52, 3) := by decide +kernel
theorem dX11_condition_24 : decode cX11_condition 24 = .ok (.aload_n 0, 1) := by decide +kernel
theorem dX11_condition_25 : decode cX11_condition 25 = .ok (.getfield 200, 3) := by decide +kernel
theorem dX11_condition_28 : decode cX11_condition 28 = .ok (.ifCond .ne 45, 3) := by decide +kernel
theorem dX11_condition_31 : decode cX11_condition 31 = .ok (.aload_n 0, 1) := by decide +kernel
theorem dX11_condition_32 : decode cX11_condition 32 = .ok (.iload_n 2, 1) := by decide +kernel
theorem dX11_condition_33 : decode cX11_condition 33 = .ok (.invokevirtual 270, 3) := by decide +kernel
theorem dX11_condition_36 : decode cX11_condition 36 = .ok (.aload_n 0, 1) := by decide +kernel
theorem dX11_condition_37 : decode cX11_condition 37 = .ok (.bipush 33, 2) := by decide +kernel
theorem dX11_condition_39 : decode cX11_condition 39 = .ok (.invokevirtual 218, 3) := by decide +kernel
theorem dX11_condition_42 : decode cX11_condition 42 = .ok (.istore_n 2, 1) := by decide +kernel
theorem dX11_condition_43 : decode cX11_condition 43 = .ok (.iload_n 2, 1) := by decide +kernel
theorem dX11_condition_44 : decode cX11_condition 44 = .ok (.ifCond .ne 12, 3) := by decide +kernel
theorem dX11_condition_47 : decode cX11_condition 47 = .ok (.aload_n 0, 1) := by decide +kernel
theorem dX11_condition_48 : decode cX11_condition 48 = .ok (.bipush 34, 2) := by decide +kernel
theorem dX11_condition_50 : decode cX11_condition 50 = .ok (.invokevirtual 218, 3) := by decide +kernel
theorem dX11_condition_53 : decode cX11_condition 53 = .ok (.ifCond .eq 7, 3) := by decide +kernel
theorem dX11_condition_56 : decode cX11_condition 56 = .ok (.iconst 1, 1) := by decide +kernel
theorem dX11_condition_57 : decode cX11_condition 57 = .ok (.goto 4, 3) := by decide +kernel
theorem dX11_condition_60 : decode cX11_condition 60 = .ok (.iconst 0, 1) := by decide +kernel
theorem dX11_condition_61 : decode cX11_condition 61 = .ok (.istore_n 3, 1) := by decide +kernel
theorem dX11_condition_62 : decode cX11_condition 62 = .ok (.iload_n 3, 1) := by decide +kernel
theorem dX11_condition_63 : decode cX11_condition 63 = .ok (.ifCond .eq (-43), 3) := by decide +kernel
theorem dX11_condition_66 : decode cX11_condition 66 = .ok (.aload_n 0, 1) := by decide +kernel
theorem dX11_condition_67 : decode cX11_condition 67 = .ok (.invokevirtual 221, 3) := by decide +kernel
theorem dX11_condition_70 : decode cX11_condition 70 = .ok (.goto (-50), 3) := by decide +kernel
theorem dX11_condition_73 : decode cX11_condition 73 = .ok (.aload_n 0, 1) := by decide +kernel
theorem dX11_condition_74 : decode cX11_condition 74 = .ok (.getfield 79, 3) := by decide +kernel
theorem dX11_condition_77 : decode cX11_condition 77 = .ok (.iload_n 1, 1) := by decide +kernel
theorem dX11_condition_78 : decode cX11_condition 78 = .ok (.aload_n 0, 1) := by decide +kernel
theorem dX11_condition_79 : decode cX11_condition 79 = .ok (.getfield 239, 3) := by decide +kernel
theorem dX11_condition_82 : decode cX11_condition 82 = .ok (.iastore, 1) := by decide +kernel
theorem dX11_condition_83 : decode cX11_condition 83 = .ok (.return_, 1) := by decide +kernel
theorem dX11_tellSign_0 : decode cX11_tellSign 0 = .ok (.aload_n 0, 1) := by decide +kernel
theorem dX11_tellSign_1 : decode cX11_tellSign 1 = .ok (.invokevirtual 221, 3) := by decide +kernel
theorem dX11_tellSign_4 : decode cX11_tellSign 4 = .ok (.aload_n 0, 1) := by decide +kernel
theorem dX11_tellSign_5 : decode cX11_tellSign 5 = .ok (.invokevirtual 274, 3) := by decide +kernel
theorem dX11_tellSign_8 : decode cX11_tellSign 8 = .ok (.istore_n 1, 1) := by decide +kernel
theorem dX11_tellSign_9 : decode cX11_tellSign 9 = .ok (.aload_n 0, 1) := by decide +kernel
theorem dX11_tellSign_10 : decode cX11_tellSign 10 = .ok (.bipush 26, 2) := by decide +kernel
theorem dX11_tellSign_12 : decode cX11_tellSign 12 = .ok (.aload_n 0, 1) := by decide +kernel
theorem dX11_tellSign_13 : decode cX11_tellSign 13 = .ok (.getfield 233, 3) := by decide +kernel
theorem dX11_tellSign_16 : decode cX11_tellSign 16 = .ok (.imul, 1) := by decide +kernel
theorem dX11_tellSign_17 : decode cX11_tellSign 17 = .ok (.aload_n 0, 1) := by decide +kernel
theorem dX11_tellSign_18 : decode cX11_tellSign 18 = .ok (.getfield 49, 3) := by decide +kernel
theorem dX11_tellSign_21 : decode cX11_tellSign 21 = .ok (.aload_n 0, 1) := by decide +kernel
theorem dX11_tellSign_22 : decode cX11_tellSign 22 = .ok (.getfield 233, 3) := by decide +kernel
theorem dX11_tellSign_25 : decode cX11_tellSign 25 = .ok (.iaload, 1) := by decide +kernel
theorem dX11_tellSign_26 : decode cX11_tellSign 26 = .ok (.iadd, 1) := by decide +kernel
theorem dX11_tellSign_27 : decode cX11_tellSign 27 = .ok (.invokevirtual 278, 3) := by decide +kernel
theorem dX11_tellSign_30 : decode cX11_tellSign 30 = .ok (.aload_n 0, 1) := by decide +kernel
theorem dX11_tellSign_31 : decode cX11_tellSign 31 = .ok (.iconst 4, 1) := by decide +kernel
theorem dX11_tellSign_32 : decode cX11_tellSign 32 = .ok (.invokevirtual 263, 3) := by decide +kernel
theorem dX11_tellSign_35 : decode cX11_tellSign 35 = .ok (.aload_n 0, 1) := by decide +kernel
theorem dX11_tellSign_36 : decode cX11_tellSign 36 = .ok (.getfield 200, 3) := by decide +kernel
theorem dX11_tellSign_39 : decode cX11_tellSign 39 = .ok (.ifCond .le 4, 3) := by decide +kernel
theorem dX11_tellSign_42 : decode cX11_tellSign 42 = .ok (.return_, 1) := by decide +kernel
theorem dX11_tellSign_43 : decode cX11_tellSign 43 = .ok (.aload_n 0, 1) := by decide +kernel
theorem dX11_tellSign_44 : decode cX11_tellSign 44 = .ok (.iload_n 1, 1) := by decide +kernel
theorem dX11_tellSign_45 : decode cX11_tellSign 45 = .ok (.iconst 0, 1) := by decide +kernel
theorem dX11_tellSign_46 : decode cX11_tellSign 46 = .ok (.aload_n 0, 1) := by decide +kernel
theorem dX11_tellSign_47 : decode cX11_tellSign 47 = .ok (.getfield 49, 3) := by decide +kernel
theorem dX11_tellSign_50 : decode cX11_tellSign 50 = .ok (.aload_n 0, 1) := by decide +kernel
theorem dX11_tellSign_51 : decode cX11_tellSign 51 = .ok (.getfield 233, 3) := by decide +kernel
theorem dX11_tellSign_54 : decode cX11_tellSign 54 = .ok (.iaload, 1) := by decide +kernel
theorem dX11_tellSign_55 : decode cX11_tellSign 55 = .ok (.invokevirtual 281, 3) := by decide +kernel
theorem dX11_tellSign_58 : decode cX11_tellSign 58 = .ok (.aload_n 0, 1) := by decide +kernel
theorem dX11_tellSign_59 : decode cX11_tellSign 59 = .ok (.getfield 49, 3) := by decide +kernel
theorem dX11_tellSign_62 : decode cX11_tellSign 62 = .ok (.aload_n 0, 1) := by decide +kernel
theorem dX11_tellSign_63 : decode cX11_tellSign 63 = .ok (.getfield 233, 3) := by decide +kernel
theorem dX11_tellSign_66 : decode cX11_tellSign 66 = .ok (.dup2, 1) := by decide +kernel
theorem dX11_tellSign_67 : decode cX11_tellSign 67 = .ok (.iaload, 1) := by decide +kernel
theorem dX11_tellSign_68 : decode cX11_tellSign 68 = .ok (.iconst 1, 1) := by decide +kernel
theorem dX11_tellSign_69 : decode cX11_tellSign 69 = .ok (.iadd, 1) := by decide +kernel
theorem dX11_tellSign_70 : decode cX11_tellSign 70 = .ok (.iastore, 1) := by decide +kernel
theorem dX11_tellSign_71 : decode cX11_tellSign 71 = .ok (.return_, 1) := by decide +kernel
theorem dX11_tellSay_0 : decode cX11_tellSay 0 = .ok (.aload_n 0, 1) := by decide +kernel
theorem dX11_tellSay_1 : decode cX11_tellSay 1 = .ok (.invokevirtual 221, 3) := by decide +kernel
theorem dX11_tellSay_4 : decode cX11_tellSay 4 = .ok (.aload_n 0, 1) := by decide +kernel
theorem dX11_tellSay_5 : decode cX11_tellSay 5 = .ok (.invokevirtual 274, 3) := by decide +kernel
theorem dX11_tellSay_8 : decode cX11_tellSay 8 = .ok (.istore_n 1, 1) := by decide +kernel
theorem dX11_tellSay_9 : decode cX11_tellSay 9 = .ok (.aload_n 0, 1) := by decide +kernel
theorem dX11_tellSay_10 : decode cX11_tellSay 10 = .ok (.getfield 200, 3) := by decide +kernel
theorem dX11_tellSay_13 : decode cX11_tellSay 13 = .ok (.ifCond .ne 36, 3) := by decide +kernel
theorem dX11_tellSay_16 : decode cX11_tellSay 16 = .ok (.aload_n 0, 1) := by decide +kernel
theorem dX11_tellSay_17 : decode cX11_tellSay 17 = .ok (.getfield 20, 3) := by decide +kernel
theorem dX11_tellSay_20 : decode cX11_tellSay 20 = .ok (.aload_n 0, 1) := by decide +kernel
theorem dX11_tellSay_21 : decode cX11_tellSay 21 = .ok (.getfield 203, 3) := by decide +kernel
theorem dX11_tellSay_24 : decode cX11_tellSay 24 = .ok (.iaload, 1) := by decide +kernel
theorem dX11_tellSay_25 : decode cX11_tellSay 25 = .ok (.bipush 26, 2) := by decide +kernel
theorem dX11_tellSay_27 : decode cX11_tellSay 27 = .ok (.if_icmp .lt 17, 3) := by decide +kernel
theorem dX11_tellSay_30 : decode cX11_tellSay 30 = .ok (.aload_n 0, 1) := by decide +kernel
theorem dX11_tellSay_31 : decode cX11_tellSay 31 = .ok (.getfield 20, 3) := by decide +kernel
theorem dX11_tellSay_34 : decode cX11_tellSay 34 = .ok (.aload_n 0, 1) := by decide +kernel
theorem dX11_tellSay_35 : decode cX11_tellSay 35 = .ok (.getfield 203, 3) := by decide +kernel
theorem dX11_tellSay_38 : decode cX11_tellSay 38 = .ok (.iaload, 1) := by decide +kernel
theorem dX11_tellSay_39 : decode cX11_tellSay 39 = .ok (.bipush 32, 2) := by decide +kernel
theorem dX11_tellSay_41 : decode cX11_tellSay 41 = .ok (.if_icmp .le 8, 3) := by decide +kernel
theorem dX11_tellSay_44 : decode cX11_tellSay 44 = .ok (.aload_n 0, 1) := by decide +kernel
theorem dX11_tellSay_45 : decode cX11_tellSay 45 = .ok (.iconst 1, 1) := by decide +kernel
theorem dX11_tellSay_46 : decode cX11_tellSay 46 = .ok (.invokevirtual 215, 3) := by decide +kernel
theorem dX11_tellSay_49 : decode cX11_tellSay 49 = .ok (.aload_n 0, 1) := by decide +kernel
theorem dX11_tellSay_50 : decode cX11_tellSay 50 = .ok (.getfield 200, 3) := by decide +kernel
theorem dX11_tellSay_53 : decode cX11_tellSay 53 = .ok (.ifCond .le 4, 3) := by decide +kernel
theorem dX11_tellSay_56 : decode cX11_tellSay 56 = .ok (.return_, 1) := by decide +kernel
theorem dX11_tellSay_57 : decode cX11_tellSay 57 = .ok (.aload_n 0, 1) := by decide +kernel
theorem dX11_tellSay_58 : decode cX11_tellSay 58 = .ok (.getfield 61, 3) := by decide +kernel
theorem dX11_tellSay_61 : decode cX11_tellSay 61 = .ok (.bipush 16, 2) := by decide +kernel
theorem dX11_tellSay_63 : decode cX11_tellSay 63 = .ok (.aload_n 0, 1) := by decide +kernel
theorem dX11_tellSay_64 : decode cX11_tellSay 64 = .ok (.getfield 233, 3) := by decide +kernel
theorem dX11_tellSay_67 : decode cX11_tellSay 67 = .ok (.imul, 1) := by decide +kernel
theorem dX11_tellSay_68 : decode cX11_tellSay 68 = .ok (.aload_n 0, 1) := by decide +kernel
theorem dX11_tellSay_69 : decode cX11_tellSay 69 = .ok (.getfield 52, 3) := by decide +kernel
theorem dX11_tellSay_72 : decode cX11_tellSay 72 = .ok (.aload_n 0, 1) := by decide +kernel
theorem dX11_tellSay_73 : decode cX11_tellSay 73 = .ok (.getfield 233, 3) := by decide +kernel
theorem dX11_tellSay_76 : decode cX11_tellSay 76 = .ok (.iaload, 1) := by decide +kernel
theorem dX11_tellSay_77 : decode cX11_tellSay 77 = .ok (.iadd, 1) := by decide +kernel
theorem dX11_tellSay_78 : decode cX11_tellSay 78 = .ok (.aload_n 0, 1) := by decide +kernel
theorem dX11_tellSay_79 : decode cX11_tellSay 79 = .ok (.getfield 20, 3) := by decide +kernel
theorem dX11_tellSay_82 : decode cX11_tellSay 82 = .ok (.aload_n 0, 1) := by decide +kernel
theorem dX11_tellSay_83 : decode cX11_tellSay 83 = .ok (.getfield 203, 3) := by decide +kernel
theorem dX11_tellSay_86 : decode cX11_tellSay 86 = .ok (.iaload, 1) := by decide +kernel
theorem dX11_tellSay_87 : decode cX11_tellSay 87 = .ok (.bipush 26, 2) := by decide +kernel
theorem dX11_tellSay_89 : decode cX11_tellSay 89 = .ok (.isub, 1) := by decide +kernel
theorem dX11_tellSay_90 : decode cX11_tellSay 90 = .ok (.iastore, 1) := by decide +kernel
theorem dX11_tellSay_91 : decode cX11_tellSay 91 = .ok (.aload_n 0, 1) := by decide +kernel
theorem dX11_tellSay_92 : decode cX11_tellSay 92 = .ok (.invokevirtual 221, 3) := by decide +kernel
theorem dX11_tellSay_95 : decode cX11_tellSay 95 = .ok (.aload_n 0, 1) := by decide +kernel
theorem dX11_tellSay_96 : decode cX11_tellSay 96 = .ok (.bipush 26, 2) := by decide +kernel
theorem dX11_tellSay_98 : decode cX11_tellSay 98 = .ok (.aload_n 0, 1) := by decide +kernel
theorem dX11_tellSay_99 : decode cX11_tellSay 99 = .ok (.getfield 233, 3) := by decide +kernel
theorem dX11_tellSay_102 : decode cX11_tellSay 102 = .ok (.imul, 1) := by decide +kernel
theorem dX11_tellSay_103 : decode cX11_tellSay 103 = .ok (.bipush 6, 2) := by decide +kernel
theorem dX11_tellSay_105 : decode cX11_tellSay 105 = .ok (.iadd, 1) := by decide +kernel
theorem dX11_tellSay_106 : decode cX11_tellSay 106 = .ok (.aload_n 0, 1) := by decide +kernel
theorem dX11_tellSay_107 : decode cX11_tellSay 107 = .ok (.getfield 52, 3) := by decide +kernel
theorem dX11_tellSay_110 : decode cX11_tellSay 110 = .ok (.aload_n 0, 1) := by decide +kernel
theorem dX11_tellSay_111 : decode cX11_tellSay 111 = .ok (.getfield 233, 3) := by decide +kernel
theorem dX11_tellSay_114 : decode cX11_tellSay 114 = .ok (.iaload, 1) := by decide +kernel
theorem dX11_tellSay_115 : decode cX11_tellSay 115 = .ok (.iadd, 1) := by decide +kernel
theorem dX11_tellSay_116 : decode cX11_tellSay 116 = .ok (.invokevirtual 278, 3) := by decide +kernel
theorem dX11_tellSay_119 : decode cX11_tellSay 119 = .ok (.aload_n 0, 1) := by decide +kernel
theorem dX11_tellSay_120 : decode cX11_tellSay 120 = .ok (.iconst 4, 1) := by decide +kernel
theorem dX11_tellSay_121 : decode cX11_tellSay 121 = .ok (.invokevirtual 263, 3) := by decide +kernel
theorem dX11_tellSay_124 : decode cX11_tellSay 124 = .ok (.aload_n 0, 1) := by decide +kernel
theorem dX11_tellSay_125 : decode cX11_tellSay 125 = .ok (.getfield 200, 3) := by decide +kernel
theorem dX11_tellSay_128 : decode cX11_tellSay 128 = .ok (.ifCond .le 4, 3) := by decide +kernel
theorem dX11_tellSay_131 : decode cX11_tellSay 131 = .ok (.return_, 1) := by decide +kernel
theorem dX11_tellSay_132 : decode cX11_tellSay 132 = .ok (.aload_n 0, 1) := by decide +kernel
theorem dX11_tellSay_133 : decode cX11_tellSay 133 = .ok (.iload_n 1, 1) := by decide +kernel
theorem dX11_tellSay_134 : decode cX11_tellSay 134 = .ok (.iconst 1, 1) := by decide +kernel
theorem dX11_tellSay_135 : decode cX11_tellSay 135 = .ok (.aload_n 0, 1) := by decide +kernel
theorem dX11_tellSay_136 : decode cX11_tellSay 136 = .ok (.getfield 52, 3) := by decide +kernel
theorem dX11_tellSay_139 : decode cX11_tellSay 139 = .ok (.aload_n 0, 1) := by decide +kernel
theorem dX11_tellSay_140 : decode cX11_tellSay 140 = .ok (.getfield 233, 3) := by decide +kernel
theorem dX11_tellSay_143 : decode cX11_tellSay 143 = .ok (.iaload, 1) := by decide +kernel
theorem dX11_tellSay_144 : decode cX11_tellSay 144 = .ok (.invokevirtual 281, 3) := by decide +kernel
theorem dX11_tellSay_147 : decode cX11_tellSay 147 = .ok (.aload_n 0, 1) := by decide +kernel
theorem dX11_tellSay_148 : decode cX11_tellSay 148 = .ok (.getfield 52, 3) := by decide +kernel
theorem dX11_tellSay_151 : decode cX11_tellSay 151 = .ok (.aload_n 0, 1) := by decide +kernel
theorem dX11_tellSay_152 : decode cX11_tellSay 152 = .ok (.getfield 233, 3) := by decide +kernel
theorem dX11_tellSay_155 : decode cX11_tellSay 155 = .ok (.dup2, 1) := by decide +kernel
theorem dX11_tellSay_156 : decode cX11_tellSay 156 = .ok (.iaload, 1) := by decide +kernel
theorem dX11_tellSay_157 : decode cX11_tellSay 157 = .ok (.iconst 1, 1) := by decide +kernel
theorem dX11_tellSay_158 : decode cX11_tellSay 158 = .ok (.iadd, 1) := by decide +kernel
theorem dX11_tellSay_159 : decode cX11_tellSay 159 = .ok (.iastore, 1) := by decide +kernel
theorem dX11_tellSay_160 : decode cX11_tellSay 160 = .ok (.return_, 1) := by decide +kernel
theorem dX11_tellBook_0 : decode cX11_tellBook 0 = .ok (.aload_n 0, 1) := by decide +kernel
theorem dX11_tellBook_1 : decode cX11_tellBook 1 = .ok (.invokevirtual 221, 3) := by decide +kernel
theorem dX11_tellBook_4 : decode cX11_tellBook 4 = .ok (.aload_n 0, 1) := by decide +kernel
theorem dX11_tellBook_5 : decode cX11_tellBook 5 = .ok (.invokevirtual 274, 3) := by decide +kernel
theorem dX11_tellBook_8 : decode cX11_tellBook 8 = .ok (.istore_n 1, 1) := by decide +kernel
theorem dX11_tellBook_9 : decode cX11_tellBook 9 = .ok (.aload_n 0, 1) := by decide +kernel
theorem dX11_tellBook_10 : decode cX11_tellBook 10 = .ok (.iconst 4, 1) := by decide +kernel
theorem dX11_tellBook_11 : decode cX11_tellBook 11 = .ok (.invokevirtual 263, 3) := by decide +kernel
theorem dX11_tellBook_14 : decode cX11_tellBook 14 = .ok (.aload_n 0, 1) := by decide +kernel
theorem dX11_tellBook_15 : decode cX11_tellBook 15 = .ok (.getfield 200, 3) := by decide +kernel
theorem dX11_tellBook_18 : decode cX11_tellBook 18 = .ok (.ifCond .le 4, 3) := by decide +kernel
theorem dX11_tellBook_21 : decode cX11_tellBook 21 = .ok (.return_, 1) := by decide +kernel
theorem dX11_tellBook_22 : decode cX11_tellBook 22 = .ok (.aload_n 0, 1) := by decide +kernel
theorem dX11_tellBook_23 : decode cX11_tellBook 23 = .ok (.iload_n 1, 1) := by decide +kernel
theorem dX11_tellBook_24 : decode cX11_tellBook 24 = .ok (.iconst 2, 1) := by decide +kernel
theorem dX11_tellBook_25 : decode cX11_tellBook 25 = .ok (.aload_n 0, 1) := by decide +kernel
theorem dX11_tellBook_26 : decode cX11_tellBook 26 = .ok (.getfield 55, 3) := by decide +kernel
theorem dX11_tellBook_29 : decode cX11_tellBook 29 = .ok (.aload_n 0, 1) := by decide +kernel
theorem dX11_tellBook_30 : decode cX11_tellBook 30 = .ok (.getfield 233, 3) := by decide +kernel
theorem dX11_tellBook_33 : decode cX11_tellBook 33 = .ok (.iaload, 1) := by decide +kernel
theorem dX11_tellBook_34 : decode cX11_tellBook 34 = .ok (.invokevirtual 281, 3) := by decide +kernel
theorem dX11_tellBook_37 : decode cX11_tellBook 37 = .ok (.aload_n 0, 1) := by decide +kernel
theorem dX11_tellBook_38 : decode cX11_tellBook 38 = .ok (.getfield 55, 3) := by decide +kernel
theorem dX11_tellBook_41 : decode cX11_tellBook 41 = .ok (.aload_n 0, 1) := by decide +kernel
theorem dX11_tellBook_42 : decode cX11_tellBook 42 = .ok (.getfield 233, 3) := by decide +kernel
theorem dX11_tellBook_45 : decode cX11_tellBook 45 = .ok (.dup2, 1) := by decide +kernel
theorem dX11_tellBook_46 : decode cX11_tellBook 46 = .ok (.iaload, 1) := by decide +kernel
theorem dX11_tellBook_47 : decode cX11_tellBook 47 = .ok (.iconst 1, 1) := by decide +kernel
theorem dX11_tellBook_48 : decode cX11_tellBook 48 = .ok (.iadd, 1) := by decide +kernel
theorem dX11_tellBook_49 : decode cX11_tellBook 49 = .ok (.iastore, 1) := by decide +kernel
theorem dX11_tellBook_50 : decode cX11_tellBook 50 = .ok (.return_, 1) := by decide +kernel
theorem dX11_tellWhen_0 : decode cX11_tellWhen 0 = .ok (.bipush 40, 2) := by decide +kernel
theorem dX11_tellWhen_2 : decode cX11_tellWhen 2 = .ok (.aload_n 0, 1) := by decide +kernel
theorem dX11_tellWhen_3 : decode cX11_tellWhen 3 = .ok (.getfield 233, 3) := by decide +kernel
theorem dX11_tellWhen_6 : decode cX11_tellWhen 6 = .ok (.imul, 1) := by decide +kernel
theorem dX11_tellWhen_7 : decode cX11_tellWhen 7 = .ok (.aload_n 0, 1) := by decide +kernel
theorem dX11_tellWhen_8 : decode cX11_tellWhen 8 = .ok (.getfield 64, 3) := by decide +kernel
theorem dX11_tellWhen_11 : decode cX11_tellWhen 11 = .ok (.aload_n 0, 1) := by decide +kernel
theorem dX11_tellWhen_12 : decode cX11_tellWhen 12 = .ok (.getfield 233, 3) := by decide +kernel
theorem dX11_tellWhen_15 : decode cX11_tellWhen 15 = .ok (.iaload, 1) := by decide +kernel
theorem dX11_tellWhen_16 : decode cX11_tellWhen 16 = .ok (.iadd, 1) := by decide +kernel
theorem dX11_tellWhen_17 : decode cX11_tellWhen 17 = .ok (.istore_n 1, 1) := by decide +kernel
theorem dX11_tellWhen_18 : decode cX11_tellWhen 18 = .ok (.aload_n 0, 1) := by decide +kernel
theorem dX11_tellWhen_19 : decode cX11_tellWhen 19 = .ok (.getfield 55, 3) := by decide +kernel
theorem dX11_tellWhen_22 : decode cX11_tellWhen 22 = .ok (.aload_n 0, 1) := by decide +kernel
theorem dX11_tellWhen_23 : decode cX11_tellWhen 23 = .ok (.getfield 233, 3) := by decide +kernel
theorem dX11_tellWhen_26 : decode cX11_tellWhen 26 = .ok (.iaload, 1) := by decide +kernel
theorem dX11_tellWhen_27 : decode cX11_tellWhen 27 = .ok (.ifCond .ne 12, 3) := by decide +kernel
theorem dX11_tellWhen_30 : decode cX11_tellWhen 30 = .ok (.aload_n 0, 1) := by decide +kernel
theorem dX11_tellWhen_31 : decode cX11_tellWhen 31 = .ok (.iconst 4, 1) := by decide +kernel
theorem dX11_tellWhen_32 : decode cX11_tellWhen 32 = .ok (.aload_n 0, 1) := by decide +kernel
theorem dX11_tellWhen_33 : decode cX11_tellWhen 33 = .ok (.getfield 203, 3) := by decide +kernel
theorem dX11_tellWhen_36 : decode cX11_tellWhen 36 = .ok (.invokevirtual 266, 3) := by decide +kernel
theorem dX11_tellWhen_39 : decode cX11_tellWhen 39 = .ok (.aload_n 0, 1) := by decide +kernel
theorem dX11_tellWhen_40 : decode cX11_tellWhen 40 = .ok (.invokevirtual 221, 3) := by decide +kernel
theorem dX11_tellWhen_43 : decode cX11_tellWhen 43 = .ok (.aload_n 0, 1) := by decide +kernel
theorem dX11_tellWhen_44 : decode cX11_tellWhen 44 = .ok (.getfield 200, 3) := by decide +kernel
theorem dX11_tellWhen_47 : decode cX11_tellWhen 47 = .ok (.ifCond .le 7, 3) := by decide +kernel
theorem dX11_tellWhen_50 : decode cX11_tellWhen 50 = .ok (.iconst (-1), 1) := by decide +kernel
theorem dX11_tellWhen_51 : decode cX11_tellWhen 51 = .ok (.goto 8, 3) := by decide +kernel
theorem dX11_tellWhen_54 : decode cX11_tellWhen 54 = .ok (.aload_n 0, 1) := by decide +kernel
theorem dX11_tellWhen_55 : decode cX11_tellWhen 55 = .ok (.iconst 0, 1) := by decide +kernel
theorem dX11_tellWhen_56 : decode cX11_tellWhen 56 = .ok (.invokevirtual 285, 3) := by decide +kernel
theorem dX11_tellWhen_59 : decode cX11_tellWhen 59 = .ok (.istore_n 2, 1) := by decide +kernel
theorem dX11_tellWhen_60 : decode cX11_tellWhen 60 = .ok (.aload_n 0, 1) := by decide +kernel
theorem dX11_tellWhen_61 : decode cX11_tellWhen 61 = .ok (.bipush 22, 2) := by decide +kernel
theorem dX11_tellWhen_63 : decode cX11_tellWhen 63 = .ok (.invokevirtual 263, 3) := by decide +kernel
theorem dX11_tellWhen_66 : decode cX11_tellWhen 66 = .ok (.aload_n 0, 1) := by decide +kernel
theorem dX11_tellWhen_67 : decode cX11_tellWhen 67 = .ok (.getfield 203, 3) := by decide +kernel
theorem dX11_tellWhen_70 : decode cX11_tellWhen 70 = .ok (.istore_n 3, 1) := by decide +kernel
theorem dX11_tellWhen_71 : decode cX11_tellWhen 71 = .ok (.aload_n 0, 1) := by decide +kernel
theorem dX11_tellWhen_72 : decode cX11_tellWhen 72 = .ok (.getfield 200, 3) := by decide +kernel
theorem dX11_tellWhen_75 : decode cX11_tellWhen 75 = .ok (.ifCond .le 7, 3) := by decide +kernel
theorem dX11_tellWhen_78 : decode cX11_tellWhen 78 = .ok (.iconst (-1), 1) := by decide +kernel
theorem dX11_tellWhen_79 : decode cX11_tellWhen 79 = .ok (.goto 8, 3) := by decide +kernel
theorem dX11_tellWhen_82 : decode cX11_tellWhen 82 = .ok (.aload_n 0, 1) := by decide +kernel
theorem dX11_tellWhen_83 : decode cX11_tellWhen 83 = .ok (.iconst 1, 1) := by decide +kernel
theorem dX11_tellWhen_84 : decode cX11_tellWhen 84 = .ok (.invokevirtual 285, 3) := by decide +kernel
theorem dX11_tellWhen_87 : decode cX11_tellWhen 87 = .ok (.istore 4, 2) := by decide +kernel
theorem dX11_tellWhen_89 : decode cX11_tellWhen 89 = .ok (.aload_n 0, 1) := by decide +kernel
theorem dX11_tellWhen_90 : decode cX11_tellWhen 90 = .ok (.iconst 4, 1) := by decide +kernel
theorem dX11_tellWhen_91 : decode cX11_tellWhen 91 = .ok (.invokevirtual 263, 3) := by decide +kernel
theorem dX11_tellWhen_94 : decode cX11_tellWhen 94 = .ok (.aload_n 0, 1) := by decide +kernel
theorem dX11_tellWhen_95 : decode cX11_tellWhen 95 = .ok (.getfield 200, 3) := by decide +kernel
theorem dX11_tellWhen_98 : decode cX11_tellWhen 98 = .ok (.ifCond .le 4, 3) := by decide +kernel
theorem dX11_tellWhen_101 : decode cX11_tellWhen 101 = .ok (.return_, 1) := by decide +kernel
theorem dX11_tellWhen_102 : decode cX11_tellWhen 102 = .ok (.aload_n 0, 1) := by decide +kernel
theorem dX11_tellWhen_103 : decode cX11_tellWhen 103 = .ok (.getfield 67, 3) := by decide +kernel
theorem dX11_tellWhen_106 : decode cX11_tellWhen 106 = .ok (.iload_n 1, 1) := by decide +kernel
theorem dX11_tellWhen_107 : decode cX11_tellWhen 107 = .ok (.aload_n 0, 1) := by decide +kernel
theorem dX11_tellWhen_108 : decode cX11_tellWhen 108 = .ok (.getfield 55, 3) := by decide +kernel
theorem dX11_tellWhen_111 : decode cX11_tellWhen 111 = .ok (.aload_n 0, 1) := by decide +kernel
theorem dX11_tellWhen_112 : decode cX11_tellWhen 112 = .ok (.getfield 233, 3) := by decide +kernel
theorem dX11_tellWhen_115 : decode cX11_tellWhen 115 = .ok (.iaload, 1) := by decide +kernel
theorem dX11_tellWhen_116 : decode cX11_tellWhen 116 = .ok (.iconst 1, 1) := by decide +kernel
theorem dX11_tellWhen_117 : decode cX11_tellWhen 117 = .ok (.isub, 1) := by decide +kernel
theorem dX11_tellWhen_118 : decode cX11_tellWhen 118 = .ok (.iastore, 1) := by decide +kernel
theorem dX11_tellWhen_119 : decode cX11_tellWhen 119 = .ok (.aload_n 0, 1) := by decide +kernel
theorem dX11_tellWhen_120 : decode cX11_tellWhen 120 = .ok (.getfield 70, 3) := by decide +kernel
theorem dX11_tellWhen_123 : decode cX11_tellWhen 123 = .ok (.iload_n 1, 1) := by decide +kernel
theorem dX11_tellWhen_124 : decode cX11_tellWhen 124 = .ok (.iload_n 2, 1) := by decide +kernel
theorem dX11_tellWhen_125 : decode cX11_tellWhen 125 = .ok (.iastore, 1) := by decide +kernel
theorem dX11_tellWhen_126 : decode cX11_tellWhen 126 = .ok (.aload_n 0, 1) := by decide +kernel
theorem dX11_tellWhen_127 : decode cX11_tellWhen 127 = .ok (.getfield 73, 3) := by decide +kernel
theorem dX11_tellWhen_130 : decode cX11_tellWhen 130 = .ok (.iload_n 1, 1) := by decide +kernel
theorem dX11_tellWhen_131 : decode cX11_tellWhen 131 = .ok (.iload 4, 2) := by decide +kernel
theorem dX11_tellWhen_133 : decode cX11_tellWhen 133 = .ok (.iastore, 1) := by decide +kernel
theorem dX11_tellWhen_134 : decode cX11_tellWhen 134 = .ok (.bipush 40, 2) := by decide +kernel
theorem dX11_tellWhen_136 : decode cX11_tellWhen 136 = .ok (.aload_n 0, 1) := by decide +kernel
theorem dX11_tellWhen_137 : decode cX11_tellWhen 137 = .ok (.getfield 233, 3) := by decide +kernel
theorem dX11_tellWhen_140 : decode cX11_tellWhen 140 = .ok (.imul, 1) := by decide +kernel
theorem dX11_tellWhen_141 : decode cX11_tellWhen 141 = .ok (.istore 5, 2) := by decide +kernel
theorem dX11_tellWhen_143 : decode cX11_tellWhen 143 = .ok (.iload 5, 2) := by decide +kernel
theorem dX11_tellWhen_145 : decode cX11_tellWhen 145 = .ok (.iload_n 1, 1) := by decide +kernel
theorem dX11_tellWhen_146 : decode cX11_tellWhen 146 = .ok (.if_icmp .ge 65, 3) := by decide +kernel
theorem dX11_tellWhen_149 : decode cX11_tellWhen 149 = .ok (.iload_n 2, 1) := by decide +kernel
theorem dX11_tellWhen_150 : decode cX11_tellWhen 150 = .ok (.iconst (-1), 1) := by decide +kernel
theorem dX11_tellWhen_151 : decode cX11_tellWhen 151 = .ok (.if_icmp .eq 54, 3) := by decide +kernel
theorem dX11_tellWhen_154 : decode cX11_tellWhen 154 = .ok (.iload 4, 2) := by decide +kernel
theorem dX11_tellWhen_156 : decode cX11_tellWhen 156 = .ok (.iconst (-1), 1) := by decide +kernel
theorem dX11_tellWhen_157 : decode cX11_tellWhen 157 = .ok (.if_icmp .eq 48, 3) := by decide +kernel
theorem dX11_tellWhen_160 : decode cX11_tellWhen 160 = .ok (.aload_n 0, 1) := by decide +kernel
theorem dX11_tellWhen_161 : decode cX11_tellWhen 161 = .ok (.getfield 67, 3) := by decide +kernel
theorem dX11_tellWhen_164 : decode cX11_tellWhen 164 = .ok (.iload 5, 2) := by decide +kernel
theorem dX11_tellWhen_166 : decode cX11_tellWhen 166 = .ok (.iaload, 1) := by decide +kernel
theorem dX11_tellWhen_167 : decode cX11_tellWhen 167 = .ok (.aload_n 0, 1) := by decide +kernel
theorem dX11_tellWhen_168 : decode cX11_tellWhen 168 = .ok (.getfield 67, 3) := by decide +kernel
theorem dX11_tellWhen_171 : decode cX11_tellWhen 171 = .ok (.iload_n 1, 1) := by decide +kernel
theorem dX11_tellWhen_172 : decode cX11_tellWhen 172 = .ok (.iaload, 1) := by decide +kernel
theorem dX11_tellWhen_173 : decode cX11_tellWhen 173 = .ok (.if_icmp .ne 32, 3) := by decide +kernel
theorem dX11_tellWhen_176 : decode cX11_tellWhen 176 = .ok (.aload_n 0, 1) := by decide +kernel
theorem dX11_tellWhen_177 : decode cX11_tellWhen 177 = .ok (.getfield 70, 3) := by decide +kernel
theorem dX11_tellWhen_180 : decode cX11_tellWhen 180 = .ok (.iload 5, 2) := by decide +kernel
theorem dX11_tellWhen_182 : decode cX11_tellWhen 182 = .ok (.iaload, 1) := by decide +kernel
theorem dX11_tellWhen_183 : decode cX11_tellWhen 183 = .ok (.iload_n 2, 1) := by decide +kernel
theorem dX11_tellWhen_184 : decode cX11_tellWhen 184 = .ok (.if_icmp .ne 21, 3) := by decide +kernel
theorem dX11_tellWhen_187 : decode cX11_tellWhen 187 = .ok (.aload_n 0, 1) := by decide +kernel
theorem dX11_tellWhen_188 : decode cX11_tellWhen 188 = .ok (.getfield 73, 3) := by decide +kernel
theorem dX11_tellWhen_191 : decode cX11_tellWhen 191 = .ok (.iload 5, 2) := by decide +kernel
theorem dX11_tellWhen_193 : decode cX11_tellWhen 193 = .ok (.iaload, 1) := by decide +kernel
theorem dX11_tellWhen_194 : decode cX11_tellWhen 194 = .ok (.iload 4, 2) := by decide +kernel
theorem dX11_tellWhen_196 : decode cX11_tellWhen 196 = .ok (.if_icmp .ne 9, 3) := by decide +kernel
theorem dX11_tellWhen_199 : decode cX11_tellWhen 199 = .ok (.aload_n 0, 1) := by decide +kernel
theorem dX11_tellWhen_200 : decode cX11_tellWhen 200 = .ok (.iconst 3, 1) := by decide +kernel
theorem dX11_tellWhen_201 : decode cX11_tellWhen 201 = .ok (.iload_n 3, 1) := by decide +kernel
theorem dX11_tellWhen_202 : decode cX11_tellWhen 202 = .ok (.invokevirtual 266, 3) := by decide +kernel
theorem dX11_tellWhen_205 : decode cX11_tellWhen 205 = .ok (.iinc 5 1, 3) := by decide +kernel
theorem dX11_tellWhen_208 : decode cX11_tellWhen 208 = .ok (.goto (-65), 3) := by decide +kernel
theorem dX11_tellWhen_211 : decode cX11_tellWhen 211 = .ok (.aload_n 0, 1) := by decide +kernel
theorem dX11_tellWhen_212 : decode cX11_tellWhen 212 = .ok (.getfield 64, 3) := by decide +kernel
theorem dX11_tellWhen_215 : decode cX11_tellWhen 215 = .ok (.aload_n 0, 1) := by decide +kernel
theorem dX11_tellWhen_216 : decode cX11_tellWhen 216 = .ok (.getfield 233, 3) := by decide +kernel
theorem dX11_tellWhen_219 : decode cX11_tellWhen 219 = .ok (.dup2, 1) := by decide +kernel
theorem dX11_tellWhen_220 : decode cX11_tellWhen 220 = .ok (.iaload, 1) := by decide +kernel
theorem dX11_tellWhen_221 : decode cX11_tellWhen 221 = .ok (.iconst 1, 1) := by decide +kernel
theorem dX11_tellWhen_222 : decode cX11_tellWhen 222 = .ok (.iadd, 1) := by decide +kernel
theorem dX11_tellWhen_223 : decode cX11_tellWhen 223 = .ok (.iastore, 1) := by decide +kernel
theorem dX11_tellWhen_224 : decode cX11_tellWhen 224 = .ok (.return_, 1) := by decide +kernel
theorem dX11_tellLaw_0 : decode cX11_tellLaw 0 = .ok (.bipush 26, 2) := by decide +kernel
theorem dX11_tellLaw_2 : decode cX11_tellLaw 2 = .ok (.aload_n 0, 1) := by decide +kernel
theorem dX11_tellLaw_3 : decode cX11_tellLaw 3 = .ok (.getfield 233, 3) := by decide +kernel
theorem dX11_tellLaw_6 : decode cX11_tellLaw 6 = .ok (.imul, 1) := by decide +kernel
theorem dX11_tellLaw_7 : decode cX11_tellLaw 7 = .ok (.bipush 22, 2) := by decide +kernel
theorem dX11_tellLaw_9 : decode cX11_tellLaw 9 = .ok (.iadd, 1) := by decide +kernel
theorem dX11_tellLaw_10 : decode cX11_tellLaw 10 = .ok (.aload_n 0, 1) := by decide +kernel
theorem dX11_tellLaw_11 : decode cX11_tellLaw 11 = .ok (.getfield 58, 3) := by decide +kernel
theorem dX11_tellLaw_14 : decode cX11_tellLaw 14 = .ok (.aload_n 0, 1) := by decide +kernel
theorem dX11_tellLaw_15 : decode cX11_tellLaw 15 = .ok (.getfield 233, 3) := by decide +kernel
theorem dX11_tellLaw_18 : decode cX11_tellLaw 18 = .ok (.iaload, 1) := by decide +kernel
theorem dX11_tellLaw_19 : decode cX11_tellLaw 19 = .ok (.iadd, 1) := by decide +kernel
theorem dX11_tellLaw_20 : decode cX11_tellLaw 20 = .ok (.istore_n 1, 1) := by decide +kernel
theorem dX11_tellLaw_21 : decode cX11_tellLaw 21 = .ok (.aload_n 0, 1) := by decide +kernel
theorem dX11_tellLaw_22 : decode cX11_tellLaw 22 = .ok (.invokevirtual 221, 3) := by decide +kernel
theorem dX11_tellLaw_25 : decode cX11_tellLaw 25 = .ok (.aload_n 0, 1) := by decide +kernel
theorem dX11_tellLaw_26 : decode cX11_tellLaw 26 = .ok (.invokevirtual 274, 3) := by decide +kernel
theorem dX11_tellLaw_29 : decode cX11_tellLaw 29 = .ok (.istore_n 2, 1) := by decide +kernel
theorem dX11_tellLaw_30 : decode cX11_tellLaw 30 = .ok (.aload_n 0, 1) := by decide +kernel
theorem dX11_tellLaw_31 : decode cX11_tellLaw 31 = .ok (.bipush 15, 2) := by decide +kernel
theorem dX11_tellLaw_33 : decode cX11_tellLaw 33 = .ok (.invokevirtual 263, 3) := by decide +kernel
theorem dX11_tellLaw_36 : decode cX11_tellLaw 36 = .ok (.aload_n 0, 1) := by decide +kernel
theorem dX11_tellLaw_37 : decode cX11_tellLaw 37 = .ok (.getfield 82, 3) := by decide +kernel
theorem dX11_tellLaw_40 : decode cX11_tellLaw 40 = .ok (.iload_n 1, 1) := by decide +kernel
theorem dX11_tellLaw_41 : decode cX11_tellLaw 41 = .ok (.aload_n 0, 1) := by decide +kernel
theorem dX11_tellLaw_42 : decode cX11_tellLaw 42 = .ok (.getfield 242, 3) := by decide +kernel
theorem dX11_tellLaw_45 : decode cX11_tellLaw 45 = .ok (.iastore, 1) := by decide +kernel
theorem dX11_tellLaw_46 : decode cX11_tellLaw 46 = .ok (.aload_n 0, 1) := by decide +kernel
theorem dX11_tellLaw_47 : decode cX11_tellLaw 47 = .ok (.invokevirtual 288, 3) := by decide +kernel
theorem dX11_tellLaw_50 : decode cX11_tellLaw 50 = .ok (.aload_n 0, 1) := by decide +kernel
theorem dX11_tellLaw_51 : decode cX11_tellLaw 51 = .ok (.getfield 85, 3) := by decide +kernel
theorem dX11_tellLaw_54 : decode cX11_tellLaw 54 = .ok (.iload_n 1, 1) := by decide +kernel
theorem dX11_tellLaw_55 : decode cX11_tellLaw 55 = .ok (.aload_n 0, 1) := by decide +kernel
theorem dX11_tellLaw_56 : decode cX11_tellLaw 56 = .ok (.getfield 242, 3) := by decide +kernel
theorem dX11_tellLaw_59 : decode cX11_tellLaw 59 = .ok (.iastore, 1) := by decide +kernel
theorem dX11_tellLaw_60 : decode cX11_tellLaw 60 = .ok (.aload_n 0, 1) := by decide +kernel
theorem dX11_tellLaw_61 : decode cX11_tellLaw 61 = .ok (.iconst 4, 1) := by decide +kernel
theorem dX11_tellLaw_62 : decode cX11_tellLaw 62 = .ok (.invokevirtual 263, 3) := by decide +kernel
theorem dX11_tellLaw_65 : decode cX11_tellLaw 65 = .ok (.aload_n 0, 1) := by decide +kernel
theorem dX11_tellLaw_66 : decode cX11_tellLaw 66 = .ok (.getfield 200, 3) := by decide +kernel
theorem dX11_tellLaw_69 : decode cX11_tellLaw 69 = .ok (.ifCond .le 4, 3) := by decide +kernel
theorem dX11_tellLaw_72 : decode cX11_tellLaw 72 = .ok (.return_, 1) := by decide +kernel
theorem dX11_tellLaw_73 : decode cX11_tellLaw 73 = .ok (.aload_n 0, 1) := by decide +kernel
theorem dX11_tellLaw_74 : decode cX11_tellLaw 74 = .ok (.iload_n 2, 1) := by decide +kernel
theorem dX11_tellLaw_75 : decode cX11_tellLaw 75 = .ok (.iconst 3, 1) := by decide +kernel
theorem dX11_tellLaw_76 : decode cX11_tellLaw 76 = .ok (.aload_n 0, 1) := by decide +kernel
theorem dX11_tellLaw_77 : decode cX11_tellLaw 77 = .ok (.getfield 58, 3) := by decide +kernel
theorem dX11_tellLaw_80 : decode cX11_tellLaw 80 = .ok (.aload_n 0, 1) := by decide +kernel
theorem dX11_tellLaw_81 : decode cX11_tellLaw 81 = .ok (.getfield 233, 3) := by decide +kernel
theorem dX11_tellLaw_84 : decode cX11_tellLaw 84 = .ok (.iaload, 1) := by decide +kernel
theorem dX11_tellLaw_85 : decode cX11_tellLaw 85 = .ok (.invokevirtual 281, 3) := by decide +kernel
theorem dX11_tellLaw_88 : decode cX11_tellLaw 88 = .ok (.aload_n 0, 1) := by decide +kernel
theorem dX11_tellLaw_89 : decode cX11_tellLaw 89 = .ok (.getfield 58, 3) := by decide +kernel
theorem dX11_tellLaw_92 : decode cX11_tellLaw 92 = .ok (.aload_n 0, 1) := by decide +kernel
theorem dX11_tellLaw_93 : decode cX11_tellLaw 93 = .ok (.getfield 233, 3) := by decide +kernel
theorem dX11_tellLaw_96 : decode cX11_tellLaw 96 = .ok (.dup2, 1) := by decide +kernel
theorem dX11_tellLaw_97 : decode cX11_tellLaw 97 = .ok (.iaload, 1) := by decide +kernel
theorem dX11_tellLaw_98 : decode cX11_tellLaw 98 = .ok (.iconst 1, 1) := by decide +kernel
theorem dX11_tellLaw_99 : decode cX11_tellLaw 99 = .ok (.iadd, 1) := by decide +kernel
theorem dX11_tellLaw_100 : decode cX11_tellLaw 100 = .ok (.iastore, 1) := by decide +kernel
theorem dX11_tellLaw_101 : decode cX11_tellLaw 101 = .ok (.return_, 1) := by decide +kernel
theorem dX11_literal_0 : decode cX11_literal 0 = .ok (.iconst 0, 1) := by decide +kernel
theorem dX11_literal_1 : decode cX11_literal 1 = .ok (.istore_n 2, 1) := by decide +kernel
theorem dX11_literal_2 : decode cX11_literal 2 = .ok (.aload_n 0, 1) := by decide +kernel
theorem dX11_literal_3 : decode cX11_literal 3 = .ok (.bipush 35, 2) := by decide +kernel
theorem dX11_literal_5 : decode cX11_literal 5 = .ok (.invokevirtual 218, 3) := by decide +kernel
theorem dX11_literal_8 : decode cX11_literal 8 = .ok (.ifCond .eq 20, 3) := by decide +kernel
theorem dX11_literal_11 : decode cX11_literal 11 = .ok (.iload_n 2, 1) := by decide +kernel
theorem dX11_literal_12 : decode cX11_literal 12 = .ok (.ifCond .ne 7, 3) := by decide +kernel
theorem dX11_literal_15 : decode cX11_literal 15 = .ok (.iconst 1, 1) := by decide +kernel
theorem dX11_literal_16 : decode cX11_literal 16 = .ok (.goto 4, 3) := by decide +kernel
theorem dX11_literal_19 : decode cX11_literal 19 = .ok (.iconst 0, 1) := by decide +kernel
theorem dX11_literal_20 : decode cX11_literal 20 = .ok (.istore_n 2, 1) := by decide +kernel
theorem dX11_literal_21 : decode cX11_literal 21 = .ok (.aload_n 0, 1) := by decide +kernel
theorem dX11_literal_22 : decode cX11_literal 22 = .ok (.invokevirtual 221, 3) := by decide +kernel
theorem dX11_literal_25 : decode cX11_literal 25 = .ok (.goto (-23), 3) := by decide +kernel
theorem dX11_literal_28 : decode cX11_literal 28 = .ok (.aload_n 0, 1) := by decide +kernel
theorem dX11_literal_29 : decode cX11_literal 29 = .ok (.getfield 242, 3) := by decide +kernel
theorem dX11_literal_32 : decode cX11_literal 32 = .ok (.istore_n 3, 1) := by decide +kernel
theorem dX11_literal_33 : decode cX11_literal 33 = .ok (.aload_n 0, 1) := by decide +kernel
theorem dX11_literal_34 : decode cX11_literal 34 = .ok (.invokevirtual 288, 3) := by decide +kernel
theorem dX11_literal_37 : decode cX11_literal 37 = .ok (.aload_n 0, 1) := by decide +kernel
theorem dX11_literal_38 : decode cX11_literal 38 = .ok (.getfield 200, 3) := by decide +kernel
theorem dX11_literal_41 : decode cX11_literal 41 = .ok (.ifCond .le 7, 3) := by decide +kernel
theorem dX11_literal_44 : decode cX11_literal 44 = .ok (.iconst 0, 1) := by decide +kernel
theorem dX11_literal_45 : decode cX11_literal 45 = .ok (.goto 15, 3) := by decide +kernel
theorem dX11_literal_48 : decode cX11_literal 48 = .ok (.aload_n 0, 1) := by decide +kernel
theorem dX11_literal_49 : decode cX11_literal 49 = .ok (.getfield 20, 3) := by decide +kernel
theorem dX11_literal_52 : decode cX11_literal 52 = .ok (.aload_n 0, 1) := by decide +kernel
theorem dX11_literal_53 : decode cX11_literal 53 = .ok (.getfield 203, 3) := by decide +kernel
theorem dX11_literal_56 : decode cX11_literal 56 = .ok (.iaload, 1) := by decide +kernel
theorem dX11_literal_57 : decode cX11_literal 57 = .ok (.bipush 11, 2) := by decide +kernel
theorem dX11_literal_59 : decode cX11_literal 59 = .ok (.isub, 1) := by decide +kernel
theorem dX11_literal_60 : decode cX11_literal 60 = .ok (.istore 4, 2) := by decide +kernel
theorem dX11_literal_62 : decode cX11_literal 62 = .ok (.aload_n 0, 1) := by decide +kernel
theorem dX11_literal_63 : decode cX11_literal 63 = .ok (.getfield 200, 3) := by decide +kernel
theorem dX11_literal_66 : decode cX11_literal 66 = .ok (.ifCond .ne 19, 3) := by decide +kernel
theorem dX11_literal_69 : decode cX11_literal 69 = .ok (.iload 4, 2) := by decide +kernel
theorem dX11_literal_71 : decode cX11_literal 71 = .ok (.ifCond .lt 9, 3) := by decide +kernel
theorem dX11_literal_74 : decode cX11_literal 74 = .ok (.iload 4, 2) := by decide +kernel
theorem dX11_literal_76 : decode cX11_literal 76 = .ok (.iconst 3, 1) := by decide +kernel
theorem dX11_literal_77 : decode cX11_literal 77 = .ok (.if_icmp .le 8, 3) := by decide +kernel
theorem dX11_literal_80 : decode cX11_literal 80 = .ok (.aload_n 0, 1) := by decide +kernel
theorem dX11_literal_81 : decode cX11_literal 81 = .ok (.iconst 1, 1) := by decide +kernel
theorem dX11_literal_82 : decode cX11_literal 82 = .ok (.invokevirtual 215, 3) := by decide +kernel
theorem dX11_literal_85 : decode cX11_literal 85 = .ok (.aload_n 0, 1) := by decide +kernel
theorem dX11_literal_86 : decode cX11_literal 86 = .ok (.invokevirtual 221, 3) := by decide +kernel
theorem dX11_literal_89 : decode cX11_literal 89 = .ok (.aload_n 0, 1) := by decide +kernel
theorem dX11_literal_90 : decode cX11_literal 90 = .ok (.getfield 242, 3) := by decide +kernel
theorem dX11_literal_93 : decode cX11_literal 93 = .ok (.istore 5, 2) := by decide +kernel
theorem dX11_literal_95 : decode cX11_literal 95 = .ok (.aload_n 0, 1) := by decide +kernel
theorem dX11_literal_96 : decode cX11_literal 96 = .ok (.invokevirtual 288, 3) := by decide +kernel
theorem dX11_literal_99 : decode cX11_literal 99 = .ok (.aload_n 0, 1) := by decide +kernel
theorem dX11_literal_100 : decode cX11_literal 100 = .ok (.getfield 200, 3) := by decide +kernel
theorem dX11_literal_103 : decode cX11_literal 103 = .ok (.ifCond .le 4, 3) := by decide +kernel
theorem dX11_literal_106 : decode cX11_literal 106 = .ok (.return_, 1) := by decide +kernel
theorem dX11_literal_107 : decode cX11_literal 107 = .ok (.aload_n 0, 1) := by decide +kernel
theorem dX11_literal_108 : decode cX11_literal 108 = .ok (.getfield 88, 3) := by decide +kernel
theorem dX11_literal_111 : decode cX11_literal 111 = .ok (.aload_n 0, 1) := by decide +kernel
theorem dX11_literal_112 : decode cX11_literal 112 = .ok (.getfield 239, 3) := by decide +kernel
theorem dX11_literal_115 : decode cX11_literal 115 = .ok (.iload 4, 2) := by decide +kernel
theorem dX11_literal_117 : decode cX11_literal 117 = .ok (.iastore, 1) := by decide +kernel
theorem dX11_literal_118 : decode cX11_literal 118 = .ok (.aload_n 0, 1) := by decide +kernel
theorem dX11_literal_119 : decode cX11_literal 119 = .ok (.getfield 91, 3) := by decide +kernel
theorem dX11_literal_122 : decode cX11_literal 122 = .ok (.aload_n 0, 1) := by decide +kernel
theorem dX11_literal_123 : decode cX11_literal 123 = .ok (.getfield 239, 3) := by decide +kernel
theorem dX11_literal_126 : decode cX11_literal 126 = .ok (.iload_n 2, 1) := by decide +kernel
theorem dX11_literal_127 : decode cX11_literal 127 = .ok (.bastore, 1) := by decide +kernel
theorem dX11_literal_128 : decode cX11_literal 128 = .ok (.aload_n 0, 1) := by decide +kernel
theorem dX11_literal_129 : decode cX11_literal 129 = .ok (.getfield 95, 3) := by decide +kernel
theorem dX11_literal_132 : decode cX11_literal 132 = .ok (.aload_n 0, 1) := by decide +kernel
theorem dX11_literal_133 : decode cX11_literal 133 = .ok (.getfield 239, 3) := by decide +kernel
theorem dX11_literal_136 : decode cX11_literal 136 = .ok (.iload_n 1, 1) := by decide +kernel
theorem dX11_literal_137 : decode cX11_literal 137 = .ok (.bastore, 1) := by decide +kernel
theorem dX11_literal_138 : decode cX11_literal 138 = .ok (.aload_n 0, 1) := by decide +kernel
theorem dX11_literal_139 : decode cX11_literal 139 = .ok (.getfield 98, 3) := by decide +kernel
theorem dX11_literal_142 : decode cX11_literal 142 = .ok (.aload_n 0, 1) := by decide +kernel
theorem dX11_literal_143 : decode cX11_literal 143 = .ok (.getfield 239, 3) := by decide +kernel
theorem dX11_literal_146 : decode cX11_literal 146 = .ok (.iload_n 3, 1) := by decide +kernel
theorem dX11_literal_147 : decode cX11_literal 147 = .ok (.iastore, 1) := by decide +kernel
theorem dX11_literal_148 : decode cX11_literal 148 = .ok (.aload_n 0, 1) := by decide +kernel
theorem dX11_literal_149 : decode cX11_literal 149 = .ok (.getfield 101, 3) := by decide +kernel
theorem dX11_literal_152 : decode cX11_literal 152 = .ok (.aload_n 0, 1) := by decide +kernel
theorem dX11_literal_153 : decode cX11_literal 153 = .ok (.getfield 239, 3) := by decide +kernel
theorem dX11_literal_156 : decode cX11_literal 156 = .ok (.iload 5, 2) := by decide +kernel
theorem dX11_literal_158 : decode cX11_literal 158 = .ok (.iastore, 1) := by decide +kernel
theorem dX11_literal_159 : decode cX11_literal 159 = .ok (.aload_n 0, 1) := by decide +kernel
theorem dX11_literal_160 : decode cX11_literal 160 = .ok (.getfield 104, 3) := by decide +kernel
theorem dX11_literal_163 : decode cX11_literal 163 = .ok (.aload_n 0, 1) := by decide +kernel
theorem dX11_literal_164 : decode cX11_literal 164 = .ok (.getfield 239, 3) := by decide +kernel
theorem dX11_literal_167 : decode cX11_literal 167 = .ok (.aload_n 0, 1) := by decide +kernel
theorem dX11_literal_168 : decode cX11_literal 168 = .ok (.getfield 242, 3) := by decide +kernel
theorem dX11_literal_171 : decode cX11_literal 171 = .ok (.iastore, 1) := by decide +kernel
theorem dX11_literal_172 : decode cX11_literal 172 = .ok (.aload_n 0, 1) := by decide +kernel
theorem dX11_literal_173 : decode cX11_literal 173 = .ok (.dup, 1) := by decide +kernel
theorem dX11_literal_174 : decode cX11_literal 174 = .ok (.getfield 239, 3) := by decide +kernel
theorem dX11_literal_177 : decode cX11_literal 177 = .ok (.iconst 1, 1) := by decide +kernel
theorem dX11_literal_178 : decode cX11_literal 178 = .ok (.iadd, 1) := by decide +kernel
theorem dX11_literal_179 : decode cX11_literal 179 = .ok (.putfield 239, 3) := by decide +kernel
theorem dX11_literal_182 : decode cX11_literal 182 = .ok (.return_, 1) := by decide +kernel
theorem dX11_emit_0 : decode cX11_emit 0 = .ok (.aload_n 0, 1) := by decide +kernel
theorem dX11_emit_1 : decode cX11_emit 1 = .ok (.getfield 107, 3) := by decide +kernel
theorem dX11_emit_4 : decode cX11_emit 4 = .ok (.aload_n 0, 1) := by decide +kernel
theorem dX11_emit_5 : decode cX11_emit 5 = .ok (.getfield 242, 3) := by decide +kernel
theorem dX11_emit_8 : decode cX11_emit 8 = .ok (.iload_n 1, 1) := by decide +kernel
theorem dX11_emit_9 : decode cX11_emit 9 = .ok (.iastore, 1) := by decide +kernel
theorem dX11_emit_10 : decode cX11_emit 10 = .ok (.aload_n 0, 1) := by decide +kernel
theorem dX11_emit_11 : decode cX11_emit 11 = .ok (.getfield 110, 3) := by decide +kernel
theorem dX11_emit_14 : decode cX11_emit 14 = .ok (.aload_n 0, 1) := by decide +kernel
theorem dX11_emit_15 : decode cX11_emit 15 = .ok (.getfield 242, 3) := by decide +kernel
theorem dX11_emit_18 : decode cX11_emit 18 = .ok (.iload_n 2, 1) := by decide +kernel
theorem dX11_emit_19 : decode cX11_emit 19 = .ok (.iastore, 1) := by decide +kernel
theorem dX11_emit_20 : decode cX11_emit 20 = .ok (.aload_n 0, 1) := by decide +kernel
theorem dX11_emit_21 : decode cX11_emit 21 = .ok (.dup, 1) := by decide +kernel
theorem dX11_emit_22 : decode cX11_emit 22 = .ok (.getfield 242, 3) := by decide +kernel
theorem dX11_emit_25 : decode cX11_emit 25 = .ok (.iconst 1, 1) := by decide +kernel
theorem dX11_emit_26 : decode cX11_emit 26 = .ok (.iadd, 1) := by decide +kernel
theorem dX11_emit_27 : decode cX11_emit 27 = .ok (.putfield 242, 3) := by decide +kernel
theorem dX11_emit_30 : decode cX11_emit 30 = .ok (.return_, 1) := by decide +kernel
theorem dX11_comesOut_0 : decode cX11_comesOut 0 = .ok (.aload_n 0, 1) := by decide +kernel
theorem dX11_comesOut_1 : decode cX11_comesOut 1 = .ok (.getfield 291, 3) := by decide +kernel
theorem dX11_comesOut_4 : decode cX11_comesOut 4 = .ok (.ifCond .le 77, 3) := by decide +kernel
theorem dX11_comesOut_7 : decode cX11_comesOut 7 = .ok (.aload_n 0, 1) := by decide +kernel
theorem dX11_comesOut_8 : decode cX11_comesOut 8 = .ok (.getfield 113, 3) := by decide +kernel
theorem dX11_comesOut_11 : decode cX11_comesOut 11 = .ok (.aload_n 0, 1) := by decide +kernel
theorem dX11_comesOut_12 : decode cX11_comesOut 12 = .ok (.getfield 291, 3) := by decide +kernel
theorem dX11_comesOut_15 : decode cX11_comesOut 15 = .ok (.iconst 1, 1) := by decide +kernel
theorem dX11_comesOut_16 : decode cX11_comesOut 16 = .ok (.isub, 1) := by decide +kernel
theorem dX11_comesOut_17 : decode cX11_comesOut 17 = .ok (.iaload, 1) := by decide +kernel
theorem dX11_comesOut_18 : decode cX11_comesOut 18 = .ok (.istore_n 2, 1) := by decide +kernel
theorem dX11_comesOut_19 : decode cX11_comesOut 19 = .ok (.iload_n 2, 1) := by decide +kernel
theorem dX11_comesOut_20 : decode cX11_comesOut 20 = .ok (.bipush 6, 2) := by decide +kernel
theorem dX11_comesOut_22 : decode cX11_comesOut 22 = .ok (.if_icmp .eq 19, 3) := by decide +kernel
theorem dX11_comesOut_25 : decode cX11_comesOut 25 = .ok (.iload_n 1, 1) := by decide +kernel
theorem dX11_comesOut_26 : decode cX11_comesOut 26 = .ok (.ifCond .eq 16, 3) := by decide +kernel
theorem dX11_comesOut_29 : decode cX11_comesOut 29 = .ok (.iload_n 2, 1) := by decide +kernel
theorem dX11_comesOut_30 : decode cX11_comesOut 30 = .ok (.bipush 8, 2) := by decide +kernel
theorem dX11_comesOut_32 : decode cX11_comesOut 32 = .ok (.if_icmp .eq 9, 3) := by decide +kernel
theorem dX11_comesOut_35 : decode cX11_comesOut 35 = .ok (.iload_n 2, 1) := by decide +kernel
theorem dX11_comesOut_36 : decode cX11_comesOut 36 = .ok (.bipush 9, 2) := by decide +kernel
theorem dX11_comesOut_38 : decode cX11_comesOut 38 = .ok (.if_icmp .ne 4, 3) := by decide +kernel
theorem dX11_comesOut_41 : decode cX11_comesOut 41 = .ok (.return_, 1) := by decide +kernel
theorem dX11_comesOut_42 : decode cX11_comesOut 42 = .ok (.aload_n 0, 1) := by decide +kernel
theorem dX11_comesOut_43 : decode cX11_comesOut 43 = .ok (.dup, 1) := by decide +kernel
theorem dX11_comesOut_44 : decode cX11_comesOut 44 = .ok (.getfield 291, 3) := by decide +kernel
theorem dX11_comesOut_47 : decode cX11_comesOut 47 = .ok (.iconst 1, 1) := by decide +kernel
theorem dX11_comesOut_48 : decode cX11_comesOut 48 = .ok (.isub, 1) := by decide +kernel
theorem dX11_comesOut_49 : decode cX11_comesOut 49 = .ok (.putfield 291, 3) := by decide +kernel
theorem dX11_comesOut_52 : decode cX11_comesOut 52 = .ok (.aload_n 0, 1) := by decide +kernel
theorem dX11_comesOut_53 : decode cX11_comesOut 53 = .ok (.iload_n 2, 1) := by decide +kernel
theorem dX11_comesOut_54 : decode cX11_comesOut 54 = .ok (.bipush 8, 2) := by decide +kernel
theorem dX11_comesOut_56 : decode cX11_comesOut 56 = .ok (.if_icmp .ne 7, 3) := by decide +kernel
theorem dX11_comesOut_59 : decode cX11_comesOut 59 = .ok (.iconst 2, 1) := by decide +kernel
theorem dX11_comesOut_60 : decode cX11_comesOut 60 = .ok (.goto 14, 3) := by decide +kernel
theorem dX11_comesOut_63 : decode cX11_comesOut 63 = .ok (.iload_n 2, 1) := by decide +kernel
theorem dX11_comesOut_64 : decode cX11_comesOut 64 = .ok (.bipush 9, 2) := by decide +kernel
theorem dX11_comesOut_66 : decode cX11_comesOut 66 = .ok (.if_icmp .ne 7, 3) := by decide +kernel
theorem dX11_comesOut_69 : decode cX11_comesOut 69 = .ok (.iconst 3, 1) := by decide +kernel
theorem dX11_comesOut_70 : decode cX11_comesOut 70 = .ok (.goto 4, 3) := by decide +kernel
theorem dX11_comesOut_73 : decode cX11_comesOut 73 = .ok (.iconst 4, 1) := by decide +kernel
theorem dX11_comesOut_74 : decode cX11_comesOut 74 = .ok (.iconst 0, 1) := by decide +kernel
theorem dX11_comesOut_75 : decode cX11_comesOut 75 = .ok (.invokevirtual 294, 3) := by decide +kernel
theorem dX11_comesOut_78 : decode cX11_comesOut 78 = .ok (.goto (-78), 3) := by decide +kernel
theorem dX11_comesOut_81 : decode cX11_comesOut 81 = .ok (.return_, 1) := by decide +kernel
theorem dX11_expression_0 : decode cX11_expression 0 = .ok (.aload_n 0, 1) := by decide +kernel
theorem dX11_expression_1 : decode cX11_expression 1 = .ok (.iconst 0, 1) := by decide +kernel
theorem dX11_expression_2 : decode cX11_expression 2 = .ok (.putfield 291, 3) := by decide +kernel
theorem dX11_expression_5 : decode cX11_expression 5 = .ok (.aload_n 0, 1) := by decide +kernel
theorem dX11_expression_6 : decode cX11_expression 6 = .ok (.getfield 227, 3) := by decide +kernel
theorem dX11_expression_9 : decode cX11_expression 9 = .ok (.istore_n 1, 1) := by decide +kernel
theorem dX11_expression_10 : decode cX11_expression 10 = .ok (.iconst 1, 1) := by decide +kernel
theorem dX11_expression_11 : decode cX11_expression 11 = .ok (.istore_n 2, 1) := by decide +kernel
theorem dX11_expression_12 : decode cX11_expression 12 = .ok (.iload_n 2, 1) := by decide +kernel
theorem dX11_expression_13 : decode cX11_expression 13 = .ok (.ifCond .eq 233, 3) := by decide +kernel
theorem dX11_expression_16 : decode cX11_expression 16 = .ok (.aload_n 0, 1) := by decide +kernel
theorem dX11_expression_17 : decode cX11_expression 17 = .ok (.getfield 200, 3) := by decide +kernel
theorem dX11_expression_20 : decode cX11_expression 20 = .ok (.ifCond .ne 226, 3) := by decide +kernel
theorem dX11_expression_23 : decode cX11_expression 23 = .ok (.aload_n 0, 1) := by decide +kernel
theorem dX11_expression_24 : decode cX11_expression 24 = .ok (.bipush 6, 2) := by decide +kernel
theorem dX11_expression_26 : decode cX11_expression 26 = .ok (.invokevirtual 218, 3) := by decide +kernel
theorem dX11_expression_29 : decode cX11_expression 29 = .ok (.ifCond .eq 55, 3) := by decide +kernel
theorem dX11_expression_32 : decode cX11_expression 32 = .ok (.aload_n 0, 1) := by decide +kernel
theorem dX11_expression_33 : decode cX11_expression 33 = .ok (.getfield 227, 3) := by decide +kernel
theorem dX11_expression_36 : decode cX11_expression 36 = .ok (.bipush 6, 2) := by decide +kernel
theorem dX11_expression_38 : decode cX11_expression 38 = .ok (.if_icmp .ne 8, 3) := by decide +kernel
theorem dX11_expression_41 : decode cX11_expression 41 = .ok (.aload_n 0, 1) := by decide +kernel
theorem dX11_expression_42 : decode cX11_expression 42 = .ok (.iconst 2, 1) := by decide +kernel
theorem dX11_expression_43 : decode cX11_expression 43 = .ok (.invokevirtual 215, 3) := by decide +kernel
theorem dX11_expression_46 : decode cX11_expression 46 = .ok (.aload_n 0, 1) := by decide +kernel
theorem dX11_expression_47 : decode cX11_expression 47 = .ok (.dup, 1) := by decide +kernel
theorem dX11_expression_48 : decode cX11_expression 48 = .ok (.getfield 227, 3) := by decide +kernel
theorem dX11_expression_51 : decode cX11_expression 51 = .ok (.iconst 1, 1) := by decide +kernel
theorem dX11_expression_52 : decode cX11_expression 52 = .ok (.iadd, 1) := by decide +kernel
theorem dX11_expression_53 : decode cX11_expression 53 = .ok (.putfield 227, 3) := by decide +kernel
theorem dX11_expression_56 : decode cX11_expression 56 = .ok (.aload_n 0, 1) := by decide +kernel
theorem dX11_expression_57 : decode cX11_expression 57 = .ok (.invokevirtual 221, 3) := by decide +kernel
theorem dX11_expression_60 : decode cX11_expression 60 = .ok (.aload_n 0, 1) := by decide +kernel
theorem dX11_expression_61 : decode cX11_expression 61 = .ok (.getfield 113, 3) := by decide +kernel
theorem dX11_expression_64 : decode cX11_expression 64 = .ok (.aload_n 0, 1) := by decide +kernel
theorem dX11_expression_65 : decode cX11_expression 65 = .ok (.getfield 291, 3) := by decide +kernel
theorem dX11_expression_68 : decode cX11_expression 68 = .ok (.bipush 6, 2) := by decide +kernel
theorem dX11_expression_70 : decode cX11_expression 70 = .ok (.iastore, 1) := by decide +kernel
theorem dX11_expression_71 : decode cX11_expression 71 = .ok (.aload_n 0, 1) := by decide +kernel
theorem dX11_expression_72 : decode cX11_expression 72 = .ok (.dup, 1) := by decide +kernel
theorem dX11_expression_73 : decode cX11_expression 73 = .ok (.getfield 291, 3) := by decide +kernel
theorem dX11_expression_76 : decode cX11_expression 76 = .ok (.iconst 1, 1) := by decide +kernel
theorem dX11_expression_77 : decode cX11_expression 77 = .ok (.iadd, 1) := by decide +kernel
theorem dX11_expression_78 : decode cX11_expression 78 = .ok (.putfield 291, 3) := by decide +kernel
theorem dX11_expression_81 : decode cX11_expression 81 = .ok (.goto (-58), 3) := by decide +kernel
theorem dX11_expression_84 : decode cX11_expression 84 = .ok (.aload_n 0, 1) := by decide +kernel
theorem dX11_expression_85 : decode cX11_expression 85 = .ok (.invokevirtual 297, 3) := by decide +kernel
theorem dX11_expression_88 : decode cX11_expression 88 = .ok (.aload_n 0, 1) := by decide +kernel
theorem dX11_expression_89 : decode cX11_expression 89 = .ok (.getfield 200, 3) := by decide +kernel
theorem dX11_expression_92 : decode cX11_expression 92 = .ok (.ifCond .le 4, 3) := by decide +kernel
theorem dX11_expression_95 : decode cX11_expression 95 = .ok (.return_, 1) := by decide +kernel
theorem dX11_expression_96 : decode cX11_expression 96 = .ok (.aload_n 0, 1) := by decide +kernel
theorem dX11_expression_97 : decode cX11_expression 97 = .ok (.bipush 7, 2) := by decide +kernel
theorem dX11_expression_99 : decode cX11_expression 99 = .ok (.invokevirtual 218, 3) := by decide +kernel
theorem dX11_expression_102 : decode cX11_expression 102 = .ok (.ifCond .eq 43, 3) := by decide +kernel
theorem dX11_expression_105 : decode cX11_expression 105 = .ok (.aload_n 0, 1) := by decide +kernel
theorem dX11_expression_106 : decode cX11_expression 106 = .ok (.getfield 227, 3) := by decide +kernel
theorem dX11_expression_109 : decode cX11_expression 109 = .ok (.iload_n 1, 1) := by decide +kernel
theorem dX11_expression_110 : decode cX11_expression 110 = .ok (.if_icmp .le 35, 3) := by decide +kernel
theorem dX11_expression_113 : decode cX11_expression 113 = .ok (.aload_n 0, 1) := by decide +kernel
theorem dX11_expression_114 : decode cX11_expression 114 = .ok (.iconst 0, 1) := by decide +kernel
theorem dX11_expression_115 : decode cX11_expression 115 = .ok (.invokevirtual 300, 3) := by decide +kernel
theorem dX11_expression_118 : decode cX11_expression 118 = .ok (.aload_n 0, 1) := by decide +kernel
theorem dX11_expression_119 : decode cX11_expression 119 = .ok (.dup, 1) := by decide +kernel
theorem dX11_expression_120 : decode cX11_expression 120 = .ok (.getfield 291, 3) := by decide +kernel
theorem dX11_expression_123 : decode cX11_expression 123 = .ok (.iconst 1, 1) := by decide +kernel
theorem dX11_expression_124 : decode cX11_expression 124 = .ok (.isub, 1) := by decide +kernel
theorem dX11_expression_125 : decode cX11_expression 125 = .ok (.putfield 291, 3) := by decide +kernel
theorem dX11_expression_128 : decode cX11_expression 128 = .ok (.aload_n 0, 1) := by decide +kernel
theorem dX11_expression_129 : decode cX11_expression 129 = .ok (.dup, 1) := by decide +kernel
theorem dX11_expression_130 : decode cX11_expression 130 = .ok (.getfield 227, 3) := by decide +kernel
theorem dX11_expression_133 : decode cX11_expression 133 = .ok (.iconst 1, 1) := by decide +kernel
theorem dX11_expression_134 : decode cX11_expression 134 = .ok (.isub, 1) := by decide +kernel
theorem dX11_expression_135 : decode cX11_expression 135 = .ok (.putfield 227, 3) := by decide +kernel
theorem dX11_expression_138 : decode cX11_expression 138 = .ok (.aload_n 0, 1) := by decide +kernel
theorem dX11_expression_139 : decode cX11_expression 139 = .ok (.invokevirtual 221, 3) := by decide +kernel
theorem dX11_expression_142 : decode cX11_expression 142 = .ok (.goto (-46), 3) := by decide +kernel
theorem dX11_expression_145 : decode cX11_expression 145 = .ok (.aload_n 0, 1) := by decide +kernel
theorem dX11_expression_146 : decode cX11_expression 146 = .ok (.bipush 8, 2) := by decide +kernel
theorem dX11_expression_148 : decode cX11_expression 148 = .ok (.invokevirtual 218, 3) := by decide +kernel
theorem dX11_expression_151 : decode cX11_expression 151 = .ok (.ifCond .ne 21, 3) := by decide +kernel
theorem dX11_expression_154 : decode cX11_expression 154 = .ok (.aload_n 0, 1) := by decide +kernel
theorem dX11_expression_155 : decode cX11_expression 155 = .ok (.bipush 9, 2) := by decide +kernel
theorem dX11_expression_157 : decode cX11_expression 157 = .ok (.invokevirtual 218, 3) := by decide +kernel
theorem dX11_expression_160 : decode cX11_expression 160 = .ok (.ifCond .ne 12, 3) := by decide +kernel
theorem dX11_expression_163 : decode cX11_expression 163 = .ok (.aload_n 0, 1) := by decide +kernel
theorem dX11_expression_164 : decode cX11_expression 164 = .ok (.bipush 10, 2) := by decide +kernel
theorem dX11_expression_166 : decode cX11_expression 166 = .ok (.invokevirtual 218, 3) := by decide +kernel
theorem dX11_expression_169 : decode cX11_expression 169 = .ok (.ifCond .eq 7, 3) := by decide +kernel
theorem dX11_expression_172 : decode cX11_expression 172 = .ok (.iconst 1, 1) := by decide +kernel
theorem dX11_expression_173 : decode cX11_expression 173 = .ok (.goto 4, 3) := by decide +kernel
theorem dX11_expression_176 : decode cX11_expression 176 = .ok (.iconst 0, 1) := by decide +kernel
theorem dX11_expression_177 : decode cX11_expression 177 = .ok (.istore_n 2, 1) := by decide +kernel
theorem dX11_expression_178 : decode cX11_expression 178 = .ok (.iload_n 2, 1) := by decide +kernel
theorem dX11_expression_179 : decode cX11_expression 179 = .ok (.ifCond .ne 22, 3) := by decide +kernel
theorem dX11_expression_182 : decode cX11_expression 182 = .ok (.aload_n 0, 1) := by decide +kernel
theorem dX11_expression_183 : decode cX11_expression 183 = .ok (.getfield 227, 3) := by decide +kernel
theorem dX11_expression_186 : decode cX11_expression 186 = .ok (.iload_n 1, 1) := by decide +kernel
theorem dX11_expression_187 : decode cX11_expression 187 = .ok (.if_icmp .le 8, 3) := by decide +kernel
theorem dX11_expression_190 : decode cX11_expression 190 = .ok (.aload_n 0, 1) := by decide +kernel
theorem dX11_expression_191 : decode cX11_expression 191 = .ok (.iconst 1, 1) := by decide +kernel
theorem dX11_expression_192 : decode cX11_expression 192 = .ok (.invokevirtual 215, 3) := by decide +kernel
theorem dX11_expression_195 : decode cX11_expression 195 = .ok (.aload_n 0, 1) := by decide +kernel
theorem dX11_expression_196 : decode cX11_expression 196 = .ok (.iconst 0, 1) := by decide +kernel
theorem dX11_expression_197 : decode cX11_expression 197 = .ok (.invokevirtual 300, 3) := by decide +kernel
theorem dX11_expression_200 : decode cX11_expression 200 = .ok (.return_, 1) := by decide +kernel
theorem dX11_expression_201 : decode cX11_expression 201 = .ok (.aload_n 0, 1) := by decide +kernel
theorem dX11_expression_202 : decode cX11_expression 202 = .ok (.aload_n 0, 1) := by decide +kernel
theorem dX11_expression_203 : decode cX11_expression 203 = .ok (.bipush 10, 2) := by decide +kernel
theorem dX11_expression_205 : decode cX11_expression 205 = .ok (.invokevirtual 218, 3) := by decide +kernel
theorem dX11_expression_208 : decode cX11_expression 208 = .ok (.invokevirtual 300, 3) := by decide +kernel
theorem dX11_expression_211 : decode cX11_expression 211 = .ok (.aload_n 0, 1) := by decide +kernel
theorem dX11_expression_212 : decode cX11_expression 212 = .ok (.getfield 113, 3) := by decide +kernel
theorem dX11_expression_215 : decode cX11_expression 215 = .ok (.aload_n 0, 1) := by decide +kernel
theorem dX11_expression_216 : decode cX11_expression 216 = .ok (.getfield 291, 3) := by decide +kernel
theorem dX11_expression_219 : decode cX11_expression 219 = .ok (.aload_n 0, 1) := by decide +kernel
theorem dX11_expression_220 : decode cX11_expression 220 = .ok (.getfield 20, 3) := by decide +kernel
theorem dX11_expression_223 : decode cX11_expression 223 = .ok (.aload_n 0, 1) := by decide +kernel
theorem dX11_expression_224 : decode cX11_expression 224 = .ok (.getfield 203, 3) := by decide +kernel
theorem dX11_expression_227 : decode cX11_expression 227 = .ok (.iaload, 1) := by decide +kernel
theorem dX11_expression_228 : decode cX11_expression 228 = .ok (.iastore, 1) := by decide +kernel
theorem dX11_expression_229 : decode cX11_expression 229 = .ok (.aload_n 0, 1) := by decide +kernel
theorem dX11_expression_230 : decode cX11_expression 230 = .ok (.dup, 1) := by decide +kernel
theorem dX11_expression_231 : decode cX11_expression 231 = .ok (.getfield 291, 3) := by decide +kernel
theorem dX11_expression_234 : decode cX11_expression 234 = .ok (.iconst 1, 1) := by decide +kernel
theorem dX11_expression_235 : decode cX11_expression 235 = .ok (.iadd, 1) := by decide +kernel
theorem dX11_expression_236 : decode cX11_expression 236 = .ok (.putfield 291, 3) := by decide +kernel
theorem dX11_expression_239 : decode cX11_expression 239 = .ok (.aload_n 0, 1) := by decide +kernel
theorem dX11_expression_240 : decode cX11_expression 240 = .ok (.invokevirtual 221, 3) := by decide +kernel
theorem dX11_expression_243 : decode cX11_expression 243 = .ok (.goto (-231), 3) := by decide +kernel
theorem dX11_expression_246 : decode cX11_expression 246 = .ok (.return_, 1) := by decide +kernel
theorem dX11_unit_0 : decode cX11_unit 0 = .ok (.aload_n 0, 1) := by decide +kernel
theorem dX11_unit_1 : decode cX11_unit 1 = .ok (.iconst 2, 1) := by decide +kernel
theorem dX11_unit_2 : decode cX11_unit 2 = .ok (.invokevirtual 218, 3) := by decide +kernel
theorem dX11_unit_5 : decode cX11_unit 5 = .ok (.ifCond .eq 24, 3) := by decide +kernel
theorem dX11_unit_8 : decode cX11_unit 8 = .ok (.aload_n 0, 1) := by decide +kernel
theorem dX11_unit_9 : decode cX11_unit 9 = .ok (.iconst 0, 1) := by decide +kernel
theorem dX11_unit_10 : decode cX11_unit 10 = .ok (.aload_n 0, 1) := by decide +kernel
theorem dX11_unit_11 : decode cX11_unit 11 = .ok (.getfield 27, 3) := by decide +kernel
theorem dX11_unit_14 : decode cX11_unit 14 = .ok (.aload_n 0, 1) := by decide +kernel
theorem dX11_unit_15 : decode cX11_unit 15 = .ok (.getfield 203, 3) := by decide +kernel
theorem dX11_unit_18 : decode cX11_unit 18 = .ok (.iaload, 1) := by decide +kernel
theorem dX11_unit_19 : decode cX11_unit 19 = .ok (.invokevirtual 294, 3) := by decide +kernel
theorem dX11_unit_22 : decode cX11_unit 22 = .ok (.aload_n 0, 1) := by decide +kernel
theorem dX11_unit_23 : decode cX11_unit 23 = .ok (.invokevirtual 221, 3) := by decide +kernel
theorem dX11_unit_26 : decode cX11_unit 26 = .ok (.goto 224, 3) := by decide +kernel
theorem dX11_unit_29 : decode cX11_unit 29 = .ok (.aload_n 0, 1) := by decide +kernel
theorem dX11_unit_30 : decode cX11_unit 30 = .ok (.bipush 36, 2) := by decide +kernel
theorem dX11_unit_32 : decode cX11_unit 32 = .ok (.invokevirtual 218, 3) := by decide +kernel
theorem dX11_unit_35 : decode cX11_unit 35 = .ok (.ifCond .eq 86, 3) := by decide +kernel
theorem dX11_unit_38 : decode cX11_unit 38 = .ok (.aload_n 0, 1) := by decide +kernel
theorem dX11_unit_39 : decode cX11_unit 39 = .ok (.invokevirtual 221, 3) := by decide +kernel
theorem dX11_unit_42 : decode cX11_unit 42 = .ok (.aload_n 0, 1) := by decide +kernel
theorem dX11_unit_43 : decode cX11_unit 43 = .ok (.iconst 2, 1) := by decide +kernel
theorem dX11_unit_44 : decode cX11_unit 44 = .ok (.invokevirtual 218, 3) := by decide +kernel
theorem dX11_unit_47 : decode cX11_unit 47 = .ok (.ifCond .eq 26, 3) := by decide +kernel
theorem dX11_unit_50 : decode cX11_unit 50 = .ok (.aload_n 0, 1) := by decide +kernel
theorem dX11_unit_51 : decode cX11_unit 51 = .ok (.getfield 27, 3) := by decide +kernel
theorem dX11_unit_54 : decode cX11_unit 54 = .ok (.aload_n 0, 1) := by decide +kernel
theorem dX11_unit_55 : decode cX11_unit 55 = .ok (.getfield 203, 3) := by decide +kernel
theorem dX11_unit_58 : decode cX11_unit 58 = .ok (.iaload, 1) := by decide +kernel
theorem dX11_unit_59 : decode cX11_unit 59 = .ok (.bipush 7, 2) := by decide +kernel
theorem dX11_unit_61 : decode cX11_unit 61 = .ok (.if_icmp .le 12, 3) := by decide +kernel
theorem dX11_unit_64 : decode cX11_unit 64 = .ok (.aload_n 0, 1) := by decide +kernel
theorem dX11_unit_65 : decode cX11_unit 65 = .ok (.iconst 5, 1) := by decide +kernel
theorem dX11_unit_66 : decode cX11_unit 66 = .ok (.aload_n 0, 1) := by decide +kernel
theorem dX11_unit_67 : decode cX11_unit 67 = .ok (.getfield 203, 3) := by decide +kernel
theorem dX11_unit_70 : decode cX11_unit 70 = .ok (.invokevirtual 266, 3) := by decide +kernel
theorem dX11_unit_73 : decode cX11_unit 73 = .ok (.aload_n 0, 1) := by decide +kernel
theorem dX11_unit_74 : decode cX11_unit 74 = .ok (.iconst 1, 1) := by decide +kernel
theorem dX11_unit_75 : decode cX11_unit 75 = .ok (.aload_n 0, 1) := by decide +kernel
theorem dX11_unit_76 : decode cX11_unit 76 = .ok (.iconst 2, 1) := by decide +kernel
theorem dX11_unit_77 : decode cX11_unit 77 = .ok (.invokevirtual 218, 3) := by decide +kernel
theorem dX11_unit_80 : decode cX11_unit 80 = .ok (.ifCond .eq 29, 3) := by decide +kernel
theorem dX11_unit_83 : decode cX11_unit 83 = .ok (.aload_n 0, 1) := by decide +kernel
theorem dX11_unit_84 : decode cX11_unit 84 = .ok (.getfield 27, 3) := by decide +kernel
theorem dX11_unit_87 : decode cX11_unit 87 = .ok (.aload_n 0, 1) := by decide +kernel
theorem dX11_unit_88 : decode cX11_unit 88 = .ok (.getfield 203, 3) := by decide +kernel
theorem dX11_unit_91 : decode cX11_unit 91 = .ok (.iaload, 1) := by decide +kernel
theorem dX11_unit_92 : decode cX11_unit 92 = .ok (.bipush 8, 2) := by decide +kernel
theorem dX11_unit_94 : decode cX11_unit 94 = .ok (.if_icmp .ge 15, 3) := by decide +kernel
theorem dX11_unit_97 : decode cX11_unit 97 = .ok (.aload_n 0, 1) := by decide +kernel
theorem dX11_unit_98 : decode cX11_unit 98 = .ok (.getfield 27, 3) := by decide +kernel
theorem dX11_unit_101 : decode cX11_unit 101 = .ok (.aload_n 0, 1) := by decide +kernel
theorem dX11_unit_102 : decode cX11_unit 102 = .ok (.getfield 203, 3) := by decide +kernel
theorem dX11_unit_105 : decode cX11_unit 105 = .ok (.iaload, 1) := by decide +kernel
theorem dX11_unit_106 : decode cX11_unit 106 = .ok (.goto 4, 3) := by decide +kernel
theorem dX11_unit_109 : decode cX11_unit 109 = .ok (.iconst 0, 1) := by decide +kernel
theorem dX11_unit_110 : decode cX11_unit 110 = .ok (.invokevirtual 294, 3) := by decide +kernel
theorem dX11_unit_113 : decode cX11_unit 113 = .ok (.aload_n 0, 1) := by decide +kernel
theorem dX11_unit_114 : decode cX11_unit 114 = .ok (.iconst 2, 1) := by decide +kernel
theorem dX11_unit_115 : decode cX11_unit 115 = .ok (.invokevirtual 263, 3) := by decide +kernel
theorem dX11_unit_118 : decode cX11_unit 118 = .ok (.goto 132, 3) := by decide +kernel
theorem dX11_unit_121 : decode cX11_unit 121 = .ok (.aload_n 0, 1) := by decide +kernel
theorem dX11_unit_122 : decode cX11_unit 122 = .ok (.getfield 200, 3) := by decide +kernel
theorem dX11_unit_125 : decode cX11_unit 125 = .ok (.ifCond .ne 58, 3) := by decide +kernel
theorem dX11_unit_128 : decode cX11_unit 128 = .ok (.aload_n 0, 1) := by decide +kernel
theorem dX11_unit_129 : decode cX11_unit 129 = .ok (.getfield 20, 3) := by decide +kernel
theorem dX11_unit_132 : decode cX11_unit 132 = .ok (.aload_n 0, 1) := by decide +kernel
theorem dX11_unit_133 : decode cX11_unit 133 = .ok (.getfield 203, 3) := by decide +kernel
theorem dX11_unit_136 : decode cX11_unit 136 = .ok (.iaload, 1) := by decide +kernel
theorem dX11_unit_137 : decode cX11_unit 137 = .ok (.bipush 37, 2) := by decide +kernel
theorem dX11_unit_139 : decode cX11_unit 139 = .ok (.if_icmp .lt 44, 3) := by decide +kernel
theorem dX11_unit_142 : decode cX11_unit 142 = .ok (.aload_n 0, 1) := by decide +kernel
theorem dX11_unit_143 : decode cX11_unit 143 = .ok (.getfield 20, 3) := by decide +kernel
theorem dX11_unit_146 : decode cX11_unit 146 = .ok (.aload_n 0, 1) := by decide +kernel
theorem dX11_unit_147 : decode cX11_unit 147 = .ok (.getfield 203, 3) := by decide +kernel
theorem dX11_unit_150 : decode cX11_unit 150 = .ok (.iaload, 1) := by decide +kernel
theorem dX11_unit_151 : decode cX11_unit 151 = .ok (.bipush 42, 2) := by decide +kernel
theorem dX11_unit_153 : decode cX11_unit 153 = .ok (.if_icmp .gt 30, 3) := by decide +kernel
theorem dX11_unit_156 : decode cX11_unit 156 = .ok (.aload_n 0, 1) := by decide +kernel
theorem dX11_unit_157 : decode cX11_unit 157 = .ok (.iconst 1, 1) := by decide +kernel
theorem dX11_unit_158 : decode cX11_unit 158 = .ok (.bipush 8, 2) := by decide +kernel
theorem dX11_unit_160 : decode cX11_unit 160 = .ok (.aload_n 0, 1) := by decide +kernel
theorem dX11_unit_161 : decode cX11_unit 161 = .ok (.getfield 20, 3) := by decide +kernel
theorem dX11_unit_164 : decode cX11_unit 164 = .ok (.aload_n 0, 1) := by decide +kernel
theorem dX11_unit_165 : decode cX11_unit 165 = .ok (.getfield 203, 3) := by decide +kernel
theorem dX11_unit_168 : decode cX11_unit 168 = .ok (.iaload, 1) := by decide +kernel
theorem dX11_unit_169 : decode cX11_unit 169 = .ok (.iadd, 1) := by decide +kernel
theorem dX11_unit_170 : decode cX11_unit 170 = .ok (.bipush 37, 2) := by decide +kernel
theorem dX11_unit_172 : decode cX11_unit 172 = .ok (.isub, 1) := by decide +kernel
theorem dX11_unit_173 : decode cX11_unit 173 = .ok (.invokevirtual 294, 3) := by decide +kernel
theorem dX11_unit_176 : decode cX11_unit 176 = .ok (.aload_n 0, 1) := by decide +kernel
theorem dX11_unit_177 : decode cX11_unit 177 = .ok (.invokevirtual 221, 3) := by decide +kernel
theorem dX11_unit_180 : decode cX11_unit 180 = .ok (.goto 70, 3) := by decide +kernel
theorem dX11_unit_183 : decode cX11_unit 183 = .ok (.aload_n 0, 1) := by decide +kernel
theorem dX11_unit_184 : decode cX11_unit 184 = .ok (.getfield 200, 3) := by decide +kernel
theorem dX11_unit_187 : decode cX11_unit 187 = .ok (.ifCond .ne 58, 3) := by decide +kernel
theorem dX11_unit_190 : decode cX11_unit 190 = .ok (.aload_n 0, 1) := by decide +kernel
theorem dX11_unit_191 : decode cX11_unit 191 = .ok (.getfield 20, 3) := by decide +kernel
theorem dX11_unit_194 : decode cX11_unit 194 = .ok (.aload_n 0, 1) := by decide +kernel
theorem dX11_unit_195 : decode cX11_unit 195 = .ok (.getfield 203, 3) := by decide +kernel
theorem dX11_unit_198 : decode cX11_unit 198 = .ok (.iaload, 1) := by decide +kernel
theorem dX11_unit_199 : decode cX11_unit 199 = .ok (.bipush 26, 2) := by decide +kernel
theorem dX11_unit_201 : decode cX11_unit 201 = .ok (.if_icmp .lt 44, 3) := by decide +kernel
theorem dX11_unit_204 : decode cX11_unit 204 = .ok (.aload_n 0, 1) := by decide +kernel
theorem dX11_unit_205 : decode cX11_unit 205 = .ok (.getfield 20, 3) := by decide +kernel
theorem dX11_unit_208 : decode cX11_unit 208 = .ok (.aload_n 0, 1) := by decide +kernel
theorem dX11_unit_209 : decode cX11_unit 209 = .ok (.getfield 203, 3) := by decide +kernel
theorem dX11_unit_212 : decode cX11_unit 212 = .ok (.iaload, 1) := by decide +kernel
theorem dX11_unit_213 : decode cX11_unit 213 = .ok (.bipush 32, 2) := by decide +kernel
theorem dX11_unit_215 : decode cX11_unit 215 = .ok (.if_icmp .gt 30, 3) := by decide +kernel
theorem dX11_unit_218 : decode cX11_unit 218 = .ok (.aload_n 0, 1) := by decide +kernel
theorem dX11_unit_219 : decode cX11_unit 219 = .ok (.iconst 1, 1) := by decide +kernel
theorem dX11_unit_220 : decode cX11_unit 220 = .ok (.bipush 14, 2) := by decide +kernel
theorem dX11_unit_222 : decode cX11_unit 222 = .ok (.aload_n 0, 1) := by decide +kernel
theorem dX11_unit_223 : decode cX11_unit 223 = .ok (.getfield 20, 3) := by decide +kernel
theorem dX11_unit_226 : decode cX11_unit 226 = .ok (.aload_n 0, 1) := by decide +kernel
theorem dX11_unit_227 : decode cX11_unit 227 = .ok (.getfield 203, 3) := by decide +kernel
theorem dX11_unit_230 : decode cX11_unit 230 = .ok (.iaload, 1) := by decide +kernel
theorem dX11_unit_231 : decode cX11_unit 231 = .ok (.iadd, 1) := by decide +kernel
theorem dX11_unit_232 : decode cX11_unit 232 = .ok (.bipush 26, 2) := by decide +kernel
theorem dX11_unit_234 : decode cX11_unit 234 = .ok (.isub, 1) := by decide +kernel
theorem dX11_unit_235 : decode cX11_unit 235 = .ok (.invokevirtual 294, 3) := by decide +kernel
theorem dX11_unit_238 : decode cX11_unit 238 = .ok (.aload_n 0, 1) := by decide +kernel
theorem dX11_unit_239 : decode cX11_unit 239 = .ok (.invokevirtual 221, 3) := by decide +kernel
theorem dX11_unit_242 : decode cX11_unit 242 = .ok (.goto 8, 3) := by decide +kernel
theorem dX11_unit_245 : decode cX11_unit 245 = .ok (.aload_n 0, 1) := by decide +kernel
theorem dX11_unit_246 : decode cX11_unit 246 = .ok (.iconst 1, 1) := by decide +kernel
theorem dX11_unit_247 : decode cX11_unit 247 = .ok (.invokevirtual 215, 3) := by decide +kernel
theorem dX11_unit_250 : decode cX11_unit 250 = .ok (.return_, 1) := by decide +kernel
theorem dX11_termOf_0 : decode cX11_termOf 0 = .ok (.iconst 0, 1) := by decide +kernel
theorem dX11_termOf_1 : decode cX11_termOf 1 = .ok (.istore_n 3, 1) := by decide +kernel
theorem dX11_termOf_2 : decode cX11_termOf 2 = .ok (.iload_n 1, 1) := by decide +kernel
theorem dX11_termOf_3 : decode cX11_termOf 3 = .ok (.istore 4, 2) := by decide +kernel
theorem dX11_termOf_5 : decode cX11_termOf 5 = .ok (.iload 4, 2) := by decide +kernel
theorem dX11_termOf_7 : decode cX11_termOf 7 = .ok (.iload_n 2, 1) := by decide +kernel
theorem dX11_termOf_8 : decode cX11_termOf 8 = .ok (.if_icmp .ge 125, 3) := by decide +kernel
theorem dX11_termOf_11 : decode cX11_termOf 11 = .ok (.aload_n 0, 1) := by decide +kernel
theorem dX11_termOf_12 : decode cX11_termOf 12 = .ok (.getfield 107, 3) := by decide +kernel
theorem dX11_termOf_15 : decode cX11_termOf 15 = .ok (.iload 4, 2) := by decide +kernel
theorem dX11_termOf_17 : decode cX11_termOf 17 = .ok (.iaload, 1) := by decide +kernel
theorem dX11_termOf_18 : decode cX11_termOf 18 = .ok (.istore 5, 2) := by decide +kernel
theorem dX11_termOf_20 : decode cX11_termOf 20 = .ok (.iload 5, 2) := by decide +kernel
theorem dX11_termOf_22 : decode cX11_termOf 22 = .ok (.iconst 2, 1) := by decide +kernel
theorem dX11_termOf_23 : decode cX11_termOf 23 = .ok (.if_icmp .ge 42, 3) := by decide +kernel
theorem dX11_termOf_26 : decode cX11_termOf 26 = .ok (.aload_n 0, 1) := by decide +kernel
theorem dX11_termOf_27 : decode cX11_termOf 27 = .ok (.getfield 119, 3) := by decide +kernel
theorem dX11_termOf_30 : decode cX11_termOf 30 = .ok (.iload_n 3, 1) := by decide +kernel
theorem dX11_termOf_31 : decode cX11_termOf 31 = .ok (.iload 5, 2) := by decide +kernel
theorem dX11_termOf_33 : decode cX11_termOf 33 = .ok (.ifCond .ne 13, 3) := by decide +kernel
theorem dX11_termOf_36 : decode cX11_termOf 36 = .ok (.aload_n 0, 1) := by decide +kernel
theorem dX11_termOf_37 : decode cX11_termOf 37 = .ok (.getfield 110, 3) := by decide +kernel
theorem dX11_termOf_40 : decode cX11_termOf 40 = .ok (.iload 4, 2) := by decide +kernel
theorem dX11_termOf_42 : decode cX11_termOf 42 = .ok (.iaload, 1) := by decide +kernel
theorem dX11_termOf_43 : decode cX11_termOf 43 = .ok (.goto 15, 3) := by decide +kernel
theorem dX11_termOf_46 : decode cX11_termOf 46 = .ok (.aload_n 0, 1) := by decide +kernel
theorem dX11_termOf_47 : decode cX11_termOf 47 = .ok (.getfield 116, 3) := by decide +kernel
theorem dX11_termOf_50 : decode cX11_termOf 50 = .ok (.aload_n 0, 1) := by decide +kernel
theorem dX11_termOf_51 : decode cX11_termOf 51 = .ok (.getfield 110, 3) := by decide +kernel
theorem dX11_termOf_54 : decode cX11_termOf 54 = .ok (.iload 4, 2) := by decide +kernel
theorem dX11_termOf_56 : decode cX11_termOf 56 = .ok (.iaload, 1) := by decide +kernel
theorem dX11_termOf_57 : decode cX11_termOf 57 = .ok (.iaload, 1) := by decide +kernel
theorem dX11_termOf_58 : decode cX11_termOf 58 = .ok (.iastore, 1) := by decide +kernel
theorem dX11_termOf_59 : decode cX11_termOf 59 = .ok (.iinc 3 1, 3) := by decide +kernel
theorem dX11_termOf_62 : decode cX11_termOf 62 = .ok (.goto 65, 3) := by decide +kernel
theorem dX11_termOf_65 : decode cX11_termOf 65 = .ok (.iinc 3 (-1), 3) := by decide +kernel
theorem dX11_termOf_68 : decode cX11_termOf 68 = .ok (.aload_n 0, 1) := by decide +kernel
theorem dX11_termOf_69 : decode cX11_termOf 69 = .ok (.getfield 119, 3) := by decide +kernel
theorem dX11_termOf_72 : decode cX11_termOf 72 = .ok (.iload_n 3, 1) := by decide +kernel
theorem dX11_termOf_73 : decode cX11_termOf 73 = .ok (.iconst 1, 1) := by decide +kernel
theorem dX11_termOf_74 : decode cX11_termOf 74 = .ok (.isub, 1) := by decide +kernel
theorem dX11_termOf_75 : decode cX11_termOf 75 = .ok (.iaload, 1) := by decide +kernel
theorem dX11_termOf_76 : decode cX11_termOf 76 = .ok (.istore 6, 2) := by decide +kernel
theorem dX11_termOf_78 : decode cX11_termOf 78 = .ok (.aload_n 0, 1) := by decide +kernel
theorem dX11_termOf_79 : decode cX11_termOf 79 = .ok (.getfield 119, 3) := by decide +kernel
theorem dX11_termOf_82 : decode cX11_termOf 82 = .ok (.iload_n 3, 1) := by decide +kernel
theorem dX11_termOf_83 : decode cX11_termOf 83 = .ok (.iaload, 1) := by decide +kernel
theorem dX11_termOf_84 : decode cX11_termOf 84 = .ok (.istore 7, 2) := by decide +kernel
theorem dX11_termOf_86 : decode cX11_termOf 86 = .ok (.aload_n 0, 1) := by decide +kernel
theorem dX11_termOf_87 : decode cX11_termOf 87 = .ok (.getfield 119, 3) := by decide +kernel
theorem dX11_termOf_90 : decode cX11_termOf 90 = .ok (.iload_n 3, 1) := by decide +kernel
theorem dX11_termOf_91 : decode cX11_termOf 91 = .ok (.iconst 1, 1) := by decide +kernel
theorem dX11_termOf_92 : decode cX11_termOf 92 = .ok (.isub, 1) := by decide +kernel
theorem dX11_termOf_93 : decode cX11_termOf 93 = .ok (.iload 5, 2) := by decide +kernel
theorem dX11_termOf_95 : decode cX11_termOf 95 = .ok (.iconst 2, 1) := by decide +kernel
theorem dX11_termOf_96 : decode cX11_termOf 96 = .ok (.if_icmp .ne 11, 3) := by decide +kernel
theorem dX11_termOf_99 : decode cX11_termOf 99 = .ok (.iload 6, 2) := by decide +kernel
theorem dX11_termOf_101 : decode cX11_termOf 101 = .ok (.iload 7, 2) := by decide +kernel
theorem dX11_termOf_103 : decode cX11_termOf 103 = .ok (.iadd, 1) := by decide +kernel
theorem dX11_termOf_104 : decode cX11_termOf 104 = .ok (.goto 22, 3) := by decide +kernel
theorem dX11_termOf_107 : decode cX11_termOf 107 = .ok (.iload 5, 2) := by decide +kernel
theorem dX11_termOf_109 : decode cX11_termOf 109 = .ok (.iconst 3, 1) := by decide +kernel
theorem dX11_termOf_110 : decode cX11_termOf 110 = .ok (.if_icmp .ne 11, 3) := by decide +kernel
theorem dX11_termOf_113 : decode cX11_termOf 113 = .ok (.iload 6, 2) := by decide +kernel
theorem dX11_termOf_115 : decode cX11_termOf 115 = .ok (.iload 7, 2) := by decide +kernel
theorem dX11_termOf_117 : decode cX11_termOf 117 = .ok (.isub, 1) := by decide +kernel
theorem dX11_termOf_118 : decode cX11_termOf 118 = .ok (.goto 8, 3) := by decide +kernel
theorem dX11_termOf_121 : decode cX11_termOf 121 = .ok (.iload 6, 2) := by decide +kernel
theorem dX11_termOf_123 : decode cX11_termOf 123 = .ok (.iload 7, 2) := by decide +kernel
theorem dX11_termOf_125 : decode cX11_termOf 125 = .ok (.imul, 1) := by decide +kernel
theorem dX11_termOf_126 : decode cX11_termOf 126 = .ok (.iastore, 1) := by decide +kernel
theorem dX11_termOf_127 : decode cX11_termOf 127 = .ok (.iinc 4 1, 3) := by decide +kernel
theorem dX11_termOf_130 : decode cX11_termOf 130 = .ok (.goto (-125), 3) := by decide +kernel
theorem dX11_termOf_133 : decode cX11_termOf 133 = .ok (.aload_n 0, 1) := by decide +kernel
theorem dX11_termOf_134 : decode cX11_termOf 134 = .ok (.getfield 119, 3) := by decide +kernel
theorem dX11_termOf_137 : decode cX11_termOf 137 = .ok (.iconst 0, 1) := by decide +kernel
theorem dX11_termOf_138 : decode cX11_termOf 138 = .ok (.iaload, 1) := by decide +kernel
theorem dX11_termOf_139 : decode cX11_termOf 139 = .ok (.ireturn, 1) := by decide +kernel
theorem dX11_isTrue_0 : decode cX11_isTrue 0 = .ok (.aload_n 0, 1) := by decide +kernel
theorem dX11_isTrue_1 : decode cX11_isTrue 1 = .ok (.aload_n 0, 1) := by decide +kernel
theorem dX11_isTrue_2 : decode cX11_isTrue 2 = .ok (.getfield 98, 3) := by decide +kernel
theorem dX11_isTrue_5 : decode cX11_isTrue 5 = .ok (.iload_n 1, 1) := by decide +kernel
theorem dX11_isTrue_6 : decode cX11_isTrue 6 = .ok (.iaload, 1) := by decide +kernel
theorem dX11_isTrue_7 : decode cX11_isTrue 7 = .ok (.aload_n 0, 1) := by decide +kernel
theorem dX11_isTrue_8 : decode cX11_isTrue 8 = .ok (.getfield 101, 3) := by decide +kernel
theorem dX11_isTrue_11 : decode cX11_isTrue 11 = .ok (.iload_n 1, 1) := by decide +kernel
theorem dX11_isTrue_12 : decode cX11_isTrue 12 = .ok (.iaload, 1) := by decide +kernel
theorem dX11_isTrue_13 : decode cX11_isTrue 13 = .ok (.invokevirtual 303, 3) := by decide +kernel
theorem dX11_isTrue_16 : decode cX11_isTrue 16 = .ok (.istore_n 2, 1) := by decide +kernel
theorem dX11_isTrue_17 : decode cX11_isTrue 17 = .ok (.aload_n 0, 1) := by decide +kernel
theorem dX11_isTrue_18 : decode cX11_isTrue 18 = .ok (.aload_n 0, 1) := by decide +kernel
theorem dX11_isTrue_19 : decode cX11_isTrue 19 = .ok (.getfield 101, 3) := by decide +kernel
theorem dX11_isTrue_22 : decode cX11_isTrue 22 = .ok (.iload_n 1, 1) := by decide +kernel
theorem dX11_isTrue_23 : decode cX11_isTrue 23 = .ok (.iaload, 1) := by decide +kernel
theorem dX11_isTrue_24 : decode cX11_isTrue 24 = .ok (.aload_n 0, 1) := by decide +kernel
theorem dX11_isTrue_25 : decode cX11_isTrue 25 = .ok (.getfield 104, 3) := by decide +kernel
theorem dX11_isTrue_28 : decode cX11_isTrue 28 = .ok (.iload_n 1, 1) := by decide +kernel
theorem dX11_isTrue_29 : decode cX11_isTrue 29 = .ok (.iaload, 1) := by decide +kernel
theorem dX11_isTrue_30 : decode cX11_isTrue 30 = .ok (.invokevirtual 303, 3) := by decide +kernel
theorem dX11_isTrue_33 : decode cX11_isTrue 33 = .ok (.istore_n 3, 1) := by decide +kernel
theorem dX11_isTrue_34 : decode cX11_isTrue 34 = .ok (.aload_n 0, 1) := by decide +kernel
theorem dX11_isTrue_35 : decode cX11_isTrue 35 = .ok (.getfield 88, 3) := by decide +kernel
theorem dX11_isTrue_38 : decode cX11_isTrue 38 = .ok (.iload_n 1, 1) := by decide +kernel
theorem dX11_isTrue_39 : decode cX11_isTrue 39 = .ok (.iaload, 1) := by decide +kernel
theorem dX11_isTrue_40 : decode cX11_isTrue 40 = .ok (.ifCond .ne 16, 3) := by decide +kernel
theorem dX11_isTrue_43 : decode cX11_isTrue 43 = .ok (.iload_n 2, 1) := by decide +kernel
theorem dX11_isTrue_44 : decode cX11_isTrue 44 = .ok (.iload_n 3, 1) := by decide +kernel
theorem dX11_isTrue_45 : decode cX11_isTrue 45 = .ok (.if_icmp .ne 7, 3) := by decide +kernel
theorem dX11_isTrue_48 : decode cX11_isTrue 48 = .ok (.iconst 1, 1) := by decide +kernel
theorem dX11_isTrue_49 : decode cX11_isTrue 49 = .ok (.goto 63, 3) := by decide +kernel
theorem dX11_isTrue_52 : decode cX11_isTrue 52 = .ok (.iconst 0, 1) := by decide +kernel
theorem dX11_isTrue_53 : decode cX11_isTrue 53 = .ok (.goto 59, 3) := by decide +kernel
theorem dX11_isTrue_56 : decode cX11_isTrue 56 = .ok (.aload_n 0, 1) := by decide +kernel
theorem dX11_isTrue_57 : decode cX11_isTrue 57 = .ok (.getfield 88, 3) := by decide +kernel
theorem dX11_isTrue_60 : decode cX11_isTrue 60 = .ok (.iload_n 1, 1) := by decide +kernel
theorem dX11_isTrue_61 : decode cX11_isTrue 61 = .ok (.iaload, 1) := by decide +kernel
theorem dX11_isTrue_62 : decode cX11_isTrue 62 = .ok (.iconst 1, 1) := by decide +kernel
theorem dX11_isTrue_63 : decode cX11_isTrue 63 = .ok (.if_icmp .ne 16, 3) := by decide +kernel
theorem dX11_isTrue_66 : decode cX11_isTrue 66 = .ok (.iload_n 2, 1) := by decide +kernel
theorem dX11_isTrue_67 : decode cX11_isTrue 67 = .ok (.iload_n 3, 1) := by decide +kernel
theorem dX11_isTrue_68 : decode cX11_isTrue 68 = .ok (.if_icmp .eq 7, 3) := by decide +kernel
theorem dX11_isTrue_71 : decode cX11_isTrue 71 = .ok (.iconst 1, 1) := by decide +kernel
theorem dX11_isTrue_72 : decode cX11_isTrue 72 = .ok (.goto 40, 3) := by decide +kernel
theorem dX11_isTrue_75 : decode cX11_isTrue 75 = .ok (.iconst 0, 1) := by decide +kernel
theorem dX11_isTrue_76 : decode cX11_isTrue 76 = .ok (.goto 36, 3) := by decide +kernel
theorem dX11_isTrue_79 : decode cX11_isTrue 79 = .ok (.aload_n 0, 1) := by decide +kernel
theorem dX11_isTrue_80 : decode cX11_isTrue 80 = .ok (.getfield 88, 3) := by decide +kernel
theorem dX11_isTrue_83 : decode cX11_isTrue 83 = .ok (.iload_n 1, 1) := by decide +kernel
theorem dX11_isTrue_84 : decode cX11_isTrue 84 = .ok (.iaload, 1) := by decide +kernel
theorem dX11_isTrue_85 : decode cX11_isTrue 85 = .ok (.iconst 2, 1) := by decide +kernel
theorem dX11_isTrue_86 : decode cX11_isTrue 86 = .ok (.if_icmp .ne 16, 3) := by decide +kernel
theorem dX11_isTrue_89 : decode cX11_isTrue 89 = .ok (.iload_n 2, 1) := by decide +kernel
theorem dX11_isTrue_90 : decode cX11_isTrue 90 = .ok (.iload_n 3, 1) := by decide +kernel
theorem dX11_isTrue_91 : decode cX11_isTrue 91 = .ok (.if_icmp .ge 7, 3) := by decide +kernel
theorem dX11_isTrue_94 : decode cX11_isTrue 94 = .ok (.iconst 1, 1) := by decide +kernel
theorem dX11_isTrue_95 : decode cX11_isTrue 95 = .ok (.goto 17, 3) := by decide +kernel
theorem dX11_isTrue_98 : decode cX11_isTrue 98 = .ok (.iconst 0, 1) := by decide +kernel
theorem dX11_isTrue_99 : decode cX11_isTrue 99 = .ok (.goto 13, 3) := by decide +kernel
theorem dX11_isTrue_102 : decode cX11_isTrue 102 = .ok (.iload_n 2, 1) := by decide +kernel
theorem dX11_isTrue_103 : decode cX11_isTrue 103 = .ok (.iload_n 3, 1) := by decide +kernel
theorem dX11_isTrue_104 : decode cX11_isTrue 104 = .ok (.if_icmp .gt 7, 3) := by decide +kernel
theorem dX11_isTrue_107 : decode cX11_isTrue 107 = .ok (.iconst 1, 1) := by decide +kernel
theorem dX11_isTrue_108 : decode cX11_isTrue 108 = .ok (.goto 4, 3) := by decide +kernel
theorem dX11_isTrue_111 : decode cX11_isTrue 111 = .ok (.iconst 0, 1) := by decide +kernel
theorem dX11_isTrue_112 : decode cX11_isTrue 112 = .ok (.istore 4, 2) := by decide +kernel
theorem dX11_isTrue_114 : decode cX11_isTrue 114 = .ok (.iload 4, 2) := by decide +kernel
theorem dX11_isTrue_116 : decode cX11_isTrue 116 = .ok (.aload_n 0, 1) := by decide +kernel
theorem dX11_isTrue_117 : decode cX11_isTrue 117 = .ok (.getfield 91, 3) := by decide +kernel
theorem dX11_isTrue_120 : decode cX11_isTrue 120 = .ok (.iload_n 1, 1) := by decide +kernel
theorem dX11_isTrue_121 : decode cX11_isTrue 121 = .ok (.baload, 1) := by decide +kernel
theorem dX11_isTrue_122 : decode cX11_isTrue 122 = .ok (.if_icmp .eq 7, 3) := by decide +kernel
theorem dX11_isTrue_125 : decode cX11_isTrue 125 = .ok (.iconst 1, 1) := by decide +kernel
theorem dX11_isTrue_126 : decode cX11_isTrue 126 = .ok (.goto 4, 3) := by decide +kernel
theorem dX11_isTrue_129 : decode cX11_isTrue 129 = .ok (.iconst 0, 1) := by decide +kernel
theorem dX11_isTrue_130 : decode cX11_isTrue 130 = .ok (.ireturn, 1) := by decide +kernel
theorem dX11_holdsRule_0 : decode cX11_holdsRule 0 = .ok (.iconst 0, 1) := by decide +kernel
theorem dX11_holdsRule_1 : decode cX11_holdsRule 1 = .ok (.istore_n 2, 1) := by decide +kernel
theorem dX11_holdsRule_2 : decode cX11_holdsRule 2 = .ok (.aload_n 0, 1) := by decide +kernel
theorem dX11_holdsRule_3 : decode cX11_holdsRule 3 = .ok (.getfield 76, 3) := by decide +kernel
theorem dX11_holdsRule_6 : decode cX11_holdsRule 6 = .ok (.iload_n 1, 1) := by decide +kernel
theorem dX11_holdsRule_7 : decode cX11_holdsRule 7 = .ok (.iaload, 1) := by decide +kernel
theorem dX11_holdsRule_8 : decode cX11_holdsRule 8 = .ok (.istore_n 3, 1) := by decide +kernel
theorem dX11_holdsRule_9 : decode cX11_holdsRule 9 = .ok (.iload_n 3, 1) := by decide +kernel
theorem dX11_holdsRule_10 : decode cX11_holdsRule 10 = .ok (.aload_n 0, 1) := by decide +kernel
theorem dX11_holdsRule_11 : decode cX11_holdsRule 11 = .ok (.getfield 79, 3) := by decide +kernel
theorem dX11_holdsRule_14 : decode cX11_holdsRule 14 = .ok (.iload_n 1, 1) := by decide +kernel
theorem dX11_holdsRule_15 : decode cX11_holdsRule 15 = .ok (.iaload, 1) := by decide +kernel
theorem dX11_holdsRule_16 : decode cX11_holdsRule 16 = .ok (.if_icmp .ge 53, 3) := by decide +kernel
theorem dX11_holdsRule_19 : decode cX11_holdsRule 19 = .ok (.aload_n 0, 1) := by decide +kernel
theorem dX11_holdsRule_20 : decode cX11_holdsRule 20 = .ok (.getfield 95, 3) := by decide +kernel
theorem dX11_holdsRule_23 : decode cX11_holdsRule 23 = .ok (.iload_n 3, 1) := by decide +kernel
theorem dX11_holdsRule_24 : decode cX11_holdsRule 24 = .ok (.baload, 1) := by decide +kernel
theorem dX11_holdsRule_25 : decode cX11_holdsRule 25 = .ok (.ifCond .eq 9, 3) := by decide +kernel
theorem dX11_holdsRule_28 : decode cX11_holdsRule 28 = .ok (.iload_n 2, 1) := by decide +kernel
theorem dX11_holdsRule_29 : decode cX11_holdsRule 29 = .ok (.ifCond .eq 5, 3) := by decide +kernel
theorem dX11_holdsRule_32 : decode cX11_holdsRule 32 = .ok (.iconst 1, 1) := by decide +kernel
theorem dX11_holdsRule_33 : decode cX11_holdsRule 33 = .ok (.ireturn, 1) := by decide +kernel
theorem dX11_holdsRule_34 : decode cX11_holdsRule 34 = .ok (.aload_n 0, 1) := by decide +kernel
theorem dX11_holdsRule_35 : decode cX11_holdsRule 35 = .ok (.getfield 95, 3) := by decide +kernel
theorem dX11_holdsRule_38 : decode cX11_holdsRule 38 = .ok (.iload_n 3, 1) := by decide +kernel
theorem dX11_holdsRule_39 : decode cX11_holdsRule 39 = .ok (.baload, 1) := by decide +kernel
theorem dX11_holdsRule_40 : decode cX11_holdsRule 40 = .ok (.ifCond .eq 5, 3) := by decide +kernel
theorem dX11_holdsRule_43 : decode cX11_holdsRule 43 = .ok (.iconst 1, 1) := by decide +kernel
theorem dX11_holdsRule_44 : decode cX11_holdsRule 44 = .ok (.istore_n 2, 1) := by decide +kernel
theorem dX11_holdsRule_45 : decode cX11_holdsRule 45 = .ok (.iload_n 2, 1) := by decide +kernel
theorem dX11_holdsRule_46 : decode cX11_holdsRule 46 = .ok (.ifCond .eq 15, 3) := by decide +kernel
theorem dX11_holdsRule_49 : decode cX11_holdsRule 49 = .ok (.aload_n 0, 1) := by decide +kernel
theorem dX11_holdsRule_50 : decode cX11_holdsRule 50 = .ok (.iload_n 3, 1) := by decide +kernel
theorem dX11_holdsRule_51 : decode cX11_holdsRule 51 = .ok (.invokevirtual 307, 3) := by decide +kernel
theorem dX11_holdsRule_54 : decode cX11_holdsRule 54 = .ok (.ifCond .eq 7, 3) := by decide +kernel
theorem dX11_holdsRule_57 : decode cX11_holdsRule 57 = .ok (.iconst 1, 1) := by decide +kernel
theorem dX11_holdsRule_58 : decode cX11_holdsRule 58 = .ok (.goto 4, 3) := by decide +kernel
theorem dX11_holdsRule_61 : decode cX11_holdsRule 61 = .ok (.iconst 0, 1) := by decide +kernel
theorem dX11_holdsRule_62 : decode cX11_holdsRule 62 = .ok (.istore_n 2, 1) := by decide +kernel
theorem dX11_holdsRule_63 : decode cX11_holdsRule 63 = .ok (.iinc 3 1, 3) := by decide +kernel
theorem dX11_holdsRule_66 : decode cX11_holdsRule 66 = .ok (.goto (-57), 3) := by decide +kernel
theorem dX11_holdsRule_69 : decode cX11_holdsRule 69 = .ok (.iload_n 2, 1) := by decide +kernel
theorem dX11_holdsRule_70 : decode cX11_holdsRule 70 = .ok (.ireturn, 1) := by decide +kernel
theorem dX11_in_0 : decode cX11_in 0 = .ok (.iload_n 0, 1) := by decide +kernel
theorem dX11_in_1 : decode cX11_in 1 = .ok (.iload_n 1, 1) := by decide +kernel
theorem dX11_in_2 : decode cX11_in 2 = .ok (.if_icmp .lt 12, 3) := by decide +kernel
theorem dX11_in_5 : decode cX11_in 5 = .ok (.iload_n 0, 1) := by decide +kernel
theorem dX11_in_6 : decode cX11_in 6 = .ok (.iload_n 2, 1) := by decide +kernel
theorem dX11_in_7 : decode cX11_in 7 = .ok (.if_icmp .gt 7, 3) := by decide +kernel
theorem dX11_in_10 : decode cX11_in 10 = .ok (.iconst 1, 1) := by decide +kernel
theorem dX11_in_11 : decode cX11_in 11 = .ok (.goto 4, 3) := by decide +kernel
theorem dX11_in_14 : decode cX11_in 14 = .ok (.iconst 0, 1) := by decide +kernel
theorem dX11_in_15 : decode cX11_in 15 = .ok (.ireturn, 1) := by decide +kernel
theorem dX11_isPerson_0 : decode cX11_isPerson 0 = .ok (.iload_n 1, 1) := by decide +kernel
theorem dX11_isPerson_1 : decode cX11_isPerson 1 = .ok (.iconst 0, 1) := by decide +kernel
theorem dX11_isPerson_2 : decode cX11_isPerson 2 = .ok (.aload_n 0, 1) := by decide +kernel
theorem dX11_isPerson_3 : decode cX11_isPerson 3 = .ok (.getfield 310, 3) := by decide +kernel
theorem dX11_isPerson_6 : decode cX11_isPerson 6 = .ok (.iconst 1, 1) := by decide +kernel
theorem dX11_isPerson_7 : decode cX11_isPerson 7 = .ok (.isub, 1) := by decide +kernel
theorem dX11_isPerson_8 : decode cX11_isPerson 8 = .ok (.invokestatic 313, 3) := by decide +kernel
theorem dX11_isPerson_11 : decode cX11_isPerson 11 = .ok (.ireturn, 1) := by decide +kernel
theorem dX11_isSign_0 : decode cX11_isSign 0 = .ok (.iload_n 1, 1) := by decide +kernel
theorem dX11_isSign_1 : decode cX11_isSign 1 = .ok (.iconst 0, 1) := by decide +kernel
theorem dX11_isSign_2 : decode cX11_isSign 2 = .ok (.aload_n 0, 1) := by decide +kernel
theorem dX11_isSign_3 : decode cX11_isSign 3 = .ok (.getfield 49, 3) := by decide +kernel
theorem dX11_isSign_6 : decode cX11_isSign 6 = .ok (.aload_n 0, 1) := by decide +kernel
theorem dX11_isSign_7 : decode cX11_isSign 7 = .ok (.getfield 230, 3) := by decide +kernel
theorem dX11_isSign_10 : decode cX11_isSign 10 = .ok (.iaload, 1) := by decide +kernel
theorem dX11_isSign_11 : decode cX11_isSign 11 = .ok (.iconst 1, 1) := by decide +kernel
theorem dX11_isSign_12 : decode cX11_isSign 12 = .ok (.isub, 1) := by decide +kernel
theorem dX11_isSign_13 : decode cX11_isSign 13 = .ok (.invokestatic 313, 3) := by decide +kernel
theorem dX11_isSign_16 : decode cX11_isSign 16 = .ok (.ireturn, 1) := by decide +kernel
theorem dX11_isSay_0 : decode cX11_isSay 0 = .ok (.iload_n 1, 1) := by decide +kernel
theorem dX11_isSay_1 : decode cX11_isSay 1 = .ok (.iconst 0, 1) := by decide +kernel
theorem dX11_isSay_2 : decode cX11_isSay 2 = .ok (.aload_n 0, 1) := by decide +kernel
theorem dX11_isSay_3 : decode cX11_isSay 3 = .ok (.getfield 52, 3) := by decide +kernel
theorem dX11_isSay_6 : decode cX11_isSay 6 = .ok (.aload_n 0, 1) := by decide +kernel
theorem dX11_isSay_7 : decode cX11_isSay 7 = .ok (.getfield 230, 3) := by decide +kernel
theorem dX11_isSay_10 : decode cX11_isSay 10 = .ok (.iaload, 1) := by decide +kernel
theorem dX11_isSay_11 : decode cX11_isSay 11 = .ok (.iconst 1, 1) := by decide +kernel
theorem dX11_isSay_12 : decode cX11_isSay 12 = .ok (.isub, 1) := by decide +kernel
theorem dX11_isSay_13 : decode cX11_isSay 13 = .ok (.invokestatic 313, 3) := by decide +kernel
theorem dX11_isSay_16 : decode cX11_isSay 16 = .ok (.ireturn, 1) := by decide +kernel
theorem dX11_isBook_0 : decode cX11_isBook 0 = .ok (.iload_n 1, 1) := by decide +kernel
theorem dX11_isBook_1 : decode cX11_isBook 1 = .ok (.iconst 0, 1) := by decide +kernel
theorem dX11_isBook_2 : decode cX11_isBook 2 = .ok (.aload_n 0, 1) := by decide +kernel
theorem dX11_isBook_3 : decode cX11_isBook 3 = .ok (.getfield 55, 3) := by decide +kernel
theorem dX11_isBook_6 : decode cX11_isBook 6 = .ok (.aload_n 0, 1) := by decide +kernel
theorem dX11_isBook_7 : decode cX11_isBook 7 = .ok (.getfield 230, 3) := by decide +kernel
theorem dX11_isBook_10 : decode cX11_isBook 10 = .ok (.iaload, 1) := by decide +kernel
theorem dX11_isBook_11 : decode cX11_isBook 11 = .ok (.iconst 1, 1) := by decide +kernel
theorem dX11_isBook_12 : decode cX11_isBook 12 = .ok (.isub, 1) := by decide +kernel
theorem dX11_isBook_13 : decode cX11_isBook 13 = .ok (.invokestatic 313, 3) := by decide +kernel
theorem dX11_isBook_16 : decode cX11_isBook 16 = .ok (.ireturn, 1) := by decide +kernel
theorem dX11_isLaw_0 : decode cX11_isLaw 0 = .ok (.iload_n 1, 1) := by decide +kernel
theorem dX11_isLaw_1 : decode cX11_isLaw 1 = .ok (.iconst 0, 1) := by decide +kernel
theorem dX11_isLaw_2 : decode cX11_isLaw 2 = .ok (.aload_n 0, 1) := by decide +kernel
theorem dX11_isLaw_3 : decode cX11_isLaw 3 = .ok (.getfield 58, 3) := by decide +kernel
theorem dX11_isLaw_6 : decode cX11_isLaw 6 = .ok (.aload_n 0, 1) := by decide +kernel
theorem dX11_isLaw_7 : decode cX11_isLaw 7 = .ok (.getfield 230, 3) := by decide +kernel
theorem dX11_isLaw_10 : decode cX11_isLaw 10 = .ok (.iaload, 1) := by decide +kernel
theorem dX11_isLaw_11 : decode cX11_isLaw 11 = .ok (.iconst 1, 1) := by decide +kernel
theorem dX11_isLaw_12 : decode cX11_isLaw 12 = .ok (.isub, 1) := by decide +kernel
theorem dX11_isLaw_13 : decode cX11_isLaw 13 = .ok (.invokestatic 313, 3) := by decide +kernel
theorem dX11_isLaw_16 : decode cX11_isLaw 16 = .ok (.ireturn, 1) := by decide +kernel
theorem dX11_person_0 : decode cX11_person 0 = .ok (.aload_n 0, 1) := by decide +kernel
theorem dX11_person_1 : decode cX11_person 1 = .ok (.getfield 310, 3) := by decide +kernel
theorem dX11_person_4 : decode cX11_person 4 = .ok (.bipush 20, 2) := by decide +kernel
theorem dX11_person_6 : decode cX11_person 6 = .ok (.if_icmp .eq 55, 3) := by decide +kernel
theorem dX11_person_9 : decode cX11_person 9 = .ok (.iload_n 1, 1) := by decide +kernel
theorem dX11_person_10 : decode cX11_person 10 = .ok (.iconst 0, 1) := by decide +kernel
theorem dX11_person_11 : decode cX11_person 11 = .ok (.bipush 59, 2) := by decide +kernel
theorem dX11_person_13 : decode cX11_person 13 = .ok (.invokestatic 313, 3) := by decide +kernel
theorem dX11_person_16 : decode cX11_person 16 = .ok (.ifCond .eq 45, 3) := by decide +kernel
theorem dX11_person_19 : decode cX11_person 19 = .ok (.iload_n 2, 1) := by decide +kernel
theorem dX11_person_20 : decode cX11_person 20 = .ok (.iconst 0, 1) := by decide +kernel
theorem dX11_person_21 : decode cX11_person 21 = .ok (.bipush 11, 2) := by decide +kernel
theorem dX11_person_23 : decode cX11_person 23 = .ok (.invokestatic 313, 3) := by decide +kernel
theorem dX11_person_26 : decode cX11_person 26 = .ok (.ifCond .eq 35, 3) := by decide +kernel
theorem dX11_person_29 : decode cX11_person 29 = .ok (.iload_n 3, 1) := by decide +kernel
theorem dX11_person_30 : decode cX11_person 30 = .ok (.iconst 0, 1) := by decide +kernel
theorem dX11_person_31 : decode cX11_person 31 = .ok (.bipush 9, 2) := by decide +kernel
theorem dX11_person_33 : decode cX11_person 33 = .ok (.invokestatic 313, 3) := by decide +kernel
theorem dX11_person_36 : decode cX11_person 36 = .ok (.ifCond .eq 25, 3) := by decide +kernel
theorem dX11_person_39 : decode cX11_person 39 = .ok (.iload 4, 2) := by decide +kernel
theorem dX11_person_41 : decode cX11_person 41 = .ok (.iconst 0, 1) := by decide +kernel
theorem dX11_person_42 : decode cX11_person 42 = .ok (.iconst 3, 1) := by decide +kernel
theorem dX11_person_43 : decode cX11_person 43 = .ok (.invokestatic 313, 3) := by decide +kernel
theorem dX11_person_46 : decode cX11_person 46 = .ok (.ifCond .eq 15, 3) := by decide +kernel
theorem dX11_person_49 : decode cX11_person 49 = .ok (.iload 5, 2) := by decide +kernel
theorem dX11_person_51 : decode cX11_person 51 = .ok (.iconst 0, 1) := by decide +kernel
theorem dX11_person_52 : decode cX11_person 52 = .ok (.ldc_w 317, 3) := by decide +kernel
theorem dX11_person_55 : decode cX11_person 55 = .ok (.invokestatic 313, 3) := by decide +kernel
theorem dX11_person_58 : decode cX11_person 58 = .ok (.ifCond .ne 5, 3) := by decide +kernel
theorem dX11_person_61 : decode cX11_person 61 = .ok (.iconst (-1), 1) := by decide +kernel
theorem dX11_person_62 : decode cX11_person 62 = .ok (.ireturn, 1) := by decide +kernel
theorem dX11_person_63 : decode cX11_person 63 = .ok (.aload_n 0, 1) := by decide +kernel
theorem dX11_person_64 : decode cX11_person 64 = .ok (.getfield 122, 3) := by decide +kernel
theorem dX11_person_67 : decode cX11_person 67 = .ok (.aload_n 0, 1) := by decide +kernel
theorem dX11_person_68 : decode cX11_person 68 = .ok (.getfield 310, 3) := by decide +kernel
theorem dX11_person_71 : decode cX11_person 71 = .ok (.iload_n 1, 1) := by decide +kernel
theorem dX11_person_72 : decode cX11_person 72 = .ok (.iastore, 1) := by decide +kernel
theorem dX11_person_73 : decode cX11_person 73 = .ok (.aload_n 0, 1) := by decide +kernel
theorem dX11_person_74 : decode cX11_person 74 = .ok (.getfield 125, 3) := by decide +kernel
theorem dX11_person_77 : decode cX11_person 77 = .ok (.aload_n 0, 1) := by decide +kernel
theorem dX11_person_78 : decode cX11_person 78 = .ok (.getfield 310, 3) := by decide +kernel
theorem dX11_person_81 : decode cX11_person 81 = .ok (.iload_n 2, 1) := by decide +kernel
theorem dX11_person_82 : decode cX11_person 82 = .ok (.iastore, 1) := by decide +kernel
theorem dX11_person_83 : decode cX11_person 83 = .ok (.aload_n 0, 1) := by decide +kernel
theorem dX11_person_84 : decode cX11_person 84 = .ok (.getfield 128, 3) := by decide +kernel
theorem dX11_person_87 : decode cX11_person 87 = .ok (.aload_n 0, 1) := by decide +kernel
theorem dX11_person_88 : decode cX11_person 88 = .ok (.getfield 310, 3) := by decide +kernel
theorem dX11_person_91 : decode cX11_person 91 = .ok (.iload_n 3, 1) := by decide +kernel
theorem dX11_person_92 : decode cX11_person 92 = .ok (.iastore, 1) := by decide +kernel
theorem dX11_person_93 : decode cX11_person 93 = .ok (.aload_n 0, 1) := by decide +kernel
theorem dX11_person_94 : decode cX11_person 94 = .ok (.getfield 131, 3) := by decide +kernel
theorem dX11_person_97 : decode cX11_person 97 = .ok (.aload_n 0, 1) := by decide +kernel
theorem dX11_person_98 : decode cX11_person 98 = .ok (.getfield 310, 3) := by decide +kernel
theorem dX11_person_101 : decode cX11_person 101 = .ok (.iload 4, 2) := by decide +kernel
theorem dX11_person_103 : decode cX11_person 103 = .ok (.iastore, 1) := by decide +kernel
theorem dX11_person_104 : decode cX11_person 104 = .ok (.iload 5, 2) := by decide +kernel
theorem dX11_person_106 : decode cX11_person 106 = .ok (.istore 6, 2) := by decide +kernel
theorem dX11_person_108 : decode cX11_person 108 = .ok (.iconst 0, 1) := by decide +kernel
theorem dX11_person_109 : decode cX11_person 109 = .ok (.istore 7, 2) := by decide +kernel
theorem dX11_person_111 : decode cX11_person 111 = .ok (.iload 7, 2) := by decide +kernel
theorem dX11_person_113 : decode cX11_person 113 = .ok (.bipush 8, 2) := by decide +kernel
theorem dX11_person_115 : decode cX11_person 115 = .ok (.if_icmp .ge 36, 3) := by decide +kernel
theorem dX11_person_118 : decode cX11_person 118 = .ok (.aload_n 0, 1) := by decide +kernel
theorem dX11_person_119 : decode cX11_person 119 = .ok (.getfield 134, 3) := by decide +kernel
theorem dX11_person_122 : decode cX11_person 122 = .ok (.bipush 8, 2) := by decide +kernel
theorem dX11_person_124 : decode cX11_person 124 = .ok (.aload_n 0, 1) := by decide +kernel
theorem dX11_person_125 : decode cX11_person 125 = .ok (.getfield 310, 3) := by decide +kernel
theorem dX11_person_128 : decode cX11_person 128 = .ok (.imul, 1) := by decide +kernel
theorem dX11_person_129 : decode cX11_person 129 = .ok (.iload 7, 2) := by decide +kernel
theorem dX11_person_131 : decode cX11_person 131 = .ok (.iadd, 1) := by decide +kernel
theorem dX11_person_132 : decode cX11_person 132 = .ok (.iload 6, 2) := by decide +kernel
theorem dX11_person_134 : decode cX11_person 134 = .ok (.bipush 10, 2) := by decide +kernel
theorem dX11_person_136 : decode cX11_person 136 = .ok (.irem, 1) := by decide +kernel
theorem dX11_person_137 : decode cX11_person 137 = .ok (.iastore, 1) := by decide +kernel
theorem dX11_person_138 : decode cX11_person 138 = .ok (.iload 6, 2) := by decide +kernel
theorem dX11_person_140 : decode cX11_person 140 = .ok (.bipush 10, 2) := by decide +kernel
theorem dX11_person_142 : decode cX11_person 142 = .ok (.idiv, 1) := by decide +kernel
theorem dX11_person_143 : decode cX11_person 143 = .ok (.istore 6, 2) := by decide +kernel
theorem dX11_person_145 : decode cX11_person 145 = .ok (.iinc 7 1, 3) := by decide +kernel
theorem dX11_person_148 : decode cX11_person 148 = .ok (.goto (-37), 3) := by decide +kernel
theorem dX11_person_151 : decode cX11_person 151 = .ok (.aload_n 0, 1) := by decide +kernel
theorem dX11_person_152 : decode cX11_person 152 = .ok (.dup, 1) := by decide +kernel
theorem dX11_person_153 : decode cX11_person 153 = .ok (.getfield 310, 3) := by decide +kernel
theorem dX11_person_156 : decode cX11_person 156 = .ok (.iconst 1, 1) := by decide +kernel
theorem dX11_person_157 : decode cX11_person 157 = .ok (.iadd, 1) := by decide +kernel
theorem dX11_person_158 : decode cX11_person 158 = .ok (.putfield 310, 3) := by decide +kernel
theorem dX11_person_161 : decode cX11_person 161 = .ok (.aload_n 0, 1) := by decide +kernel
theorem dX11_person_162 : decode cX11_person 162 = .ok (.getfield 310, 3) := by decide +kernel
theorem dX11_person_165 : decode cX11_person 165 = .ok (.iconst 1, 1) := by decide +kernel
theorem dX11_person_166 : decode cX11_person 166 = .ok (.isub, 1) := by decide +kernel
theorem dX11_person_167 : decode cX11_person 167 = .ok (.ireturn, 1) := by decide +kernel
theorem dX11_mixed_0 : decode cX11_mixed 0 = .ok (.iload_n 0, 1) := by decide +kernel
theorem dX11_mixed_1 : decode cX11_mixed 1 = .ok (.iload_n 1, 1) := by decide +kernel
theorem dX11_mixed_2 : decode cX11_mixed 2 = .ok (.ixor, 1) := by decide +kernel
theorem dX11_mixed_3 : decode cX11_mixed 3 = .ok (.ldc_w 318, 3) := by decide +kernel
theorem dX11_mixed_6 : decode cX11_mixed 6 = .ok (.imul, 1) := by decide +kernel
theorem dX11_mixed_7 : decode cX11_mixed 7 = .ok (.sipush 12345, 3) := by decide +kernel
theorem dX11_mixed_10 : decode cX11_mixed 10 = .ok (.iadd, 1) := by decide +kernel
theorem dX11_mixed_11 : decode cX11_mixed 11 = .ok (.istore_n 2, 1) := by decide +kernel
theorem dX11_mixed_12 : decode cX11_mixed 12 = .ok (.iload_n 2, 1) := by decide +kernel
theorem dX11_mixed_13 : decode cX11_mixed 13 = .ok (.iload_n 2, 1) := by decide +kernel
theorem dX11_mixed_14 : decode cX11_mixed 14 = .ok (.bipush 15, 2) := by decide +kernel
theorem dX11_mixed_16 : decode cX11_mixed 16 = .ok (.iushr, 1) := by decide +kernel
theorem dX11_mixed_17 : decode cX11_mixed 17 = .ok (.ixor, 1) := by decide +kernel
theorem dX11_mixed_18 : decode cX11_mixed 18 = .ok (.ireturn, 1) := by decide +kernel
theorem dX11_lot_0 : decode cX11_lot 0 = .ok (.iload_n 0, 1) := by decide +kernel
theorem dX11_lot_1 : decode cX11_lot 1 = .ok (.bipush 7, 2) := by decide +kernel
theorem dX11_lot_3 : decode cX11_lot 3 = .ok (.invokestatic 319, 3) := by decide +kernel
theorem dX11_lot_6 : decode cX11_lot 6 = .ok (.iload_n 1, 1) := by decide +kernel
theorem dX11_lot_7 : decode cX11_lot 7 = .ok (.invokestatic 319, 3) := by decide +kernel
theorem dX11_lot_10 : decode cX11_lot 10 = .ok (.iconst 1, 1) := by decide +kernel
theorem dX11_lot_11 : decode cX11_lot 11 = .ok (.iushr, 1) := by decide +kernel
theorem dX11_lot_12 : decode cX11_lot 12 = .ok (.iload_n 2, 1) := by decide +kernel
theorem dX11_lot_13 : decode cX11_lot 13 = .ok (.irem, 1) := by decide +kernel
theorem dX11_lot_14 : decode cX11_lot 14 = .ok (.ireturn, 1) := by decide +kernel
theorem dX11_world_0 : decode cX11_world 0 = .ok (.iload_n 2, 1) := by decide +kernel
theorem dX11_world_1 : decode cX11_world 1 = .ok (.iconst 0, 1) := by decide +kernel
theorem dX11_world_2 : decode cX11_world 2 = .ok (.bipush 20, 2) := by decide +kernel
theorem dX11_world_4 : decode cX11_world 4 = .ok (.invokestatic 313, 3) := by decide +kernel
theorem dX11_world_7 : decode cX11_world 7 = .ok (.ifCond .eq 13, 3) := by decide +kernel
theorem dX11_world_10 : decode cX11_world 10 = .ok (.iload_n 3, 1) := by decide +kernel
theorem dX11_world_11 : decode cX11_world 11 = .ok (.iconst 0, 1) := by decide +kernel
theorem dX11_world_12 : decode cX11_world 12 = .ok (.bipush 10, 2) := by decide +kernel
theorem dX11_world_14 : decode cX11_world 14 = .ok (.invokestatic 313, 3) := by decide +kernel
theorem dX11_world_17 : decode cX11_world 17 = .ok (.ifCond .ne 5, 3) := by decide +kernel
theorem dX11_world_20 : decode cX11_world 20 = .ok (.iconst (-1), 1) := by decide +kernel
theorem dX11_world_21 : decode cX11_world 21 = .ok (.ireturn, 1) := by decide +kernel
theorem dX11_world_22 : decode cX11_world 22 = .ok (.aload_n 0, 1) := by decide +kernel
theorem dX11_world_23 : decode cX11_world 23 = .ok (.iload_n 2, 1) := by decide +kernel
theorem dX11_world_24 : decode cX11_world 24 = .ok (.putfield 310, 3) := by decide +kernel
theorem dX11_world_27 : decode cX11_world 27 = .ok (.iconst 0, 1) := by decide +kernel
theorem dX11_world_28 : decode cX11_world 28 = .ok (.istore 4, 2) := by decide +kernel
theorem dX11_world_30 : decode cX11_world 30 = .ok (.iload 4, 2) := by decide +kernel
theorem dX11_world_32 : decode cX11_world 32 = .ok (.iload_n 2, 1) := by decide +kernel
theorem dX11_world_33 : decode cX11_world 33 = .ok (.if_icmp .ge 208, 3) := by decide +kernel
theorem dX11_world_36 : decode cX11_world 36 = .ok (.aload_n 0, 1) := by decide +kernel
theorem dX11_world_37 : decode cX11_world 37 = .ok (.getfield 122, 3) := by decide +kernel
theorem dX11_world_40 : decode cX11_world 40 = .ok (.iload 4, 2) := by decide +kernel
theorem dX11_world_42 : decode cX11_world 42 = .ok (.iload_n 1, 1) := by decide +kernel
theorem dX11_world_43 : decode cX11_world 43 = .ok (.bipush 20, 2) := by decide +kernel
theorem dX11_world_45 : decode cX11_world 45 = .ok (.iload 4, 2) := by decide +kernel
theorem dX11_world_47 : decode cX11_world 47 = .ok (.imul, 1) := by decide +kernel
theorem dX11_world_48 : decode cX11_world 48 = .ok (.bipush 60, 2) := by decide +kernel
theorem dX11_world_50 : decode cX11_world 50 = .ok (.invokestatic 322, 3) := by decide +kernel
theorem dX11_world_53 : decode cX11_world 53 = .ok (.iastore, 1) := by decide +kernel
theorem dX11_world_54 : decode cX11_world 54 = .ok (.aload_n 0, 1) := by decide +kernel
theorem dX11_world_55 : decode cX11_world 55 = .ok (.getfield 125, 3) := by decide +kernel
theorem dX11_world_58 : decode cX11_world 58 = .ok (.iload 4, 2) := by decide +kernel
theorem dX11_world_60 : decode cX11_world 60 = .ok (.iload_n 1, 1) := by decide +kernel
theorem dX11_world_61 : decode cX11_world 61 = .ok (.bipush 20, 2) := by decide +kernel
theorem dX11_world_63 : decode cX11_world 63 = .ok (.iload 4, 2) := by decide +kernel
theorem dX11_world_65 : decode cX11_world 65 = .ok (.imul, 1) := by decide +kernel
theorem dX11_world_66 : decode cX11_world 66 = .ok (.iconst 1, 1) := by decide +kernel
theorem dX11_world_67 : decode cX11_world 67 = .ok (.iadd, 1) := by decide +kernel
theorem dX11_world_68 : decode cX11_world 68 = .ok (.bipush 12, 2) := by decide +kernel
theorem dX11_world_70 : decode cX11_world 70 = .ok (.invokestatic 322, 3) := by decide +kernel
theorem dX11_world_73 : decode cX11_world 73 = .ok (.iastore, 1) := by decide +kernel
theorem dX11_world_74 : decode cX11_world 74 = .ok (.aload_n 0, 1) := by decide +kernel
theorem dX11_world_75 : decode cX11_world 75 = .ok (.getfield 128, 3) := by decide +kernel
theorem dX11_world_78 : decode cX11_world 78 = .ok (.iload 4, 2) := by decide +kernel
theorem dX11_world_80 : decode cX11_world 80 = .ok (.iload_n 1, 1) := by decide +kernel
theorem dX11_world_81 : decode cX11_world 81 = .ok (.bipush 20, 2) := by decide +kernel
theorem dX11_world_83 : decode cX11_world 83 = .ok (.iload 4, 2) := by decide +kernel
theorem dX11_world_85 : decode cX11_world 85 = .ok (.imul, 1) := by decide +kernel
theorem dX11_world_86 : decode cX11_world 86 = .ok (.iconst 2, 1) := by decide +kernel
theorem dX11_world_87 : decode cX11_world 87 = .ok (.iadd, 1) := by decide +kernel
theorem dX11_world_88 : decode cX11_world 88 = .ok (.bipush 10, 2) := by decide +kernel
theorem dX11_world_90 : decode cX11_world 90 = .ok (.invokestatic 322, 3) := by decide +kernel
theorem dX11_world_93 : decode cX11_world 93 = .ok (.iastore, 1) := by decide +kernel
theorem dX11_world_94 : decode cX11_world 94 = .ok (.aload_n 0, 1) := by decide +kernel
theorem dX11_world_95 : decode cX11_world 95 = .ok (.getfield 131, 3) := by decide +kernel
theorem dX11_world_98 : decode cX11_world 98 = .ok (.iload 4, 2) := by decide +kernel
theorem dX11_world_100 : decode cX11_world 100 = .ok (.iload_n 1, 1) := by decide +kernel
theorem dX11_world_101 : decode cX11_world 101 = .ok (.bipush 20, 2) := by decide +kernel
theorem dX11_world_103 : decode cX11_world 103 = .ok (.iload 4, 2) := by decide +kernel
theorem dX11_world_105 : decode cX11_world 105 = .ok (.imul, 1) := by decide +kernel
theorem dX11_world_106 : decode cX11_world 106 = .ok (.iconst 3, 1) := by decide +kernel
theorem dX11_world_107 : decode cX11_world 107 = .ok (.iadd, 1) := by decide +kernel
theorem dX11_world_108 : decode cX11_world 108 = .ok (.iconst 4, 1) := by decide +kernel
theorem dX11_world_109 : decode cX11_world 109 = .ok (.invokestatic 322, 3) := by decide +kernel
theorem dX11_world_112 : decode cX11_world 112 = .ok (.iastore, 1) := by decide +kernel
theorem dX11_world_113 : decode cX11_world 113 = .ok (.iconst 0, 1) := by decide +kernel
theorem dX11_world_114 : decode cX11_world 114 = .ok (.istore 5, 2) := by decide +kernel
theorem dX11_world_116 : decode cX11_world 116 = .ok (.iload 5, 2) := by decide +kernel
theorem dX11_world_118 : decode cX11_world 118 = .ok (.bipush 8, 2) := by decide +kernel
theorem dX11_world_120 : decode cX11_world 120 = .ok (.if_icmp .ge 38, 3) := by decide +kernel
theorem dX11_world_123 : decode cX11_world 123 = .ok (.aload_n 0, 1) := by decide +kernel
theorem dX11_world_124 : decode cX11_world 124 = .ok (.getfield 134, 3) := by decide +kernel
theorem dX11_world_127 : decode cX11_world 127 = .ok (.bipush 8, 2) := by decide +kernel
theorem dX11_world_129 : decode cX11_world 129 = .ok (.iload 4, 2) := by decide +kernel
theorem dX11_world_131 : decode cX11_world 131 = .ok (.imul, 1) := by decide +kernel
theorem dX11_world_132 : decode cX11_world 132 = .ok (.iload 5, 2) := by decide +kernel
theorem dX11_world_134 : decode cX11_world 134 = .ok (.iadd, 1) := by decide +kernel
theorem dX11_world_135 : decode cX11_world 135 = .ok (.iload_n 1, 1) := by decide +kernel
theorem dX11_world_136 : decode cX11_world 136 = .ok (.bipush 20, 2) := by decide +kernel
theorem dX11_world_138 : decode cX11_world 138 = .ok (.iload 4, 2) := by decide +kernel
theorem dX11_world_140 : decode cX11_world 140 = .ok (.imul, 1) := by decide +kernel
theorem dX11_world_141 : decode cX11_world 141 = .ok (.iconst 4, 1) := by decide +kernel
theorem dX11_world_142 : decode cX11_world 142 = .ok (.iadd, 1) := by decide +kernel
theorem dX11_world_143 : decode cX11_world 143 = .ok (.iload 5, 2) := by decide +kernel
theorem dX11_world_145 : decode cX11_world 145 = .ok (.iadd, 1) := by decide +kernel
theorem dX11_world_146 : decode cX11_world 146 = .ok (.bipush 10, 2) := by decide +kernel
theorem dX11_world_148 : decode cX11_world 148 = .ok (.invokestatic 322, 3) := by decide +kernel
theorem dX11_world_151 : decode cX11_world 151 = .ok (.iastore, 1) := by decide +kernel
theorem dX11_world_152 : decode cX11_world 152 = .ok (.iinc 5 1, 3) := by decide +kernel
theorem dX11_world_155 : decode cX11_world 155 = .ok (.goto (-39), 3) := by decide +kernel
theorem dX11_world_158 : decode cX11_world 158 = .ok (.iconst 0, 1) := by decide +kernel
theorem dX11_world_159 : decode cX11_world 159 = .ok (.istore 5, 2) := by decide +kernel
theorem dX11_world_161 : decode cX11_world 161 = .ok (.iload 5, 2) := by decide +kernel
theorem dX11_world_163 : decode cX11_world 163 = .ok (.aload_n 0, 1) := by decide +kernel
theorem dX11_world_164 : decode cX11_world 164 = .ok (.getfield 49, 3) := by decide +kernel
theorem dX11_world_167 : decode cX11_world 167 = .ok (.aload_n 0, 1) := by decide +kernel
theorem dX11_world_168 : decode cX11_world 168 = .ok (.getfield 230, 3) := by decide +kernel
theorem dX11_world_171 : decode cX11_world 171 = .ok (.iaload, 1) := by decide +kernel
theorem dX11_world_172 : decode cX11_world 172 = .ok (.if_icmp .ge 63, 3) := by decide +kernel
theorem dX11_world_175 : decode cX11_world 175 = .ok (.aload_n 0, 1) := by decide +kernel
theorem dX11_world_176 : decode cX11_world 176 = .ok (.iload 5, 2) := by decide +kernel
theorem dX11_world_178 : decode cX11_world 178 = .ok (.iload 4, 2) := by decide +kernel
theorem dX11_world_180 : decode cX11_world 180 = .ok (.aload_n 0, 1) := by decide +kernel
theorem dX11_world_181 : decode cX11_world 181 = .ok (.getfield 122, 3) := by decide +kernel
theorem dX11_world_184 : decode cX11_world 184 = .ok (.iload 4, 2) := by decide +kernel
theorem dX11_world_186 : decode cX11_world 186 = .ok (.iaload, 1) := by decide +kernel
theorem dX11_world_187 : decode cX11_world 187 = .ok (.invokevirtual 325, 3) := by decide +kernel
theorem dX11_world_190 : decode cX11_world 190 = .ok (.ifCond .eq 39, 3) := by decide +kernel
theorem dX11_world_193 : decode cX11_world 193 = .ok (.iload_n 1, 1) := by decide +kernel
theorem dX11_world_194 : decode cX11_world 194 = .ok (.bipush 20, 2) := by decide +kernel
theorem dX11_world_196 : decode cX11_world 196 = .ok (.iload 4, 2) := by decide +kernel
theorem dX11_world_198 : decode cX11_world 198 = .ok (.imul, 1) := by decide +kernel
theorem dX11_world_199 : decode cX11_world 199 = .ok (.bipush 12, 2) := by decide +kernel
theorem dX11_world_201 : decode cX11_world 201 = .ok (.iadd, 1) := by decide +kernel
theorem dX11_world_202 : decode cX11_world 202 = .ok (.iload 5, 2) := by decide +kernel
theorem dX11_world_204 : decode cX11_world 204 = .ok (.iadd, 1) := by decide +kernel
theorem dX11_world_205 : decode cX11_world 205 = .ok (.bipush 10, 2) := by decide +kernel
theorem dX11_world_207 : decode cX11_world 207 = .ok (.invokestatic 322, 3) := by decide +kernel
theorem dX11_world_210 : decode cX11_world 210 = .ok (.iload_n 3, 1) := by decide +kernel
theorem dX11_world_211 : decode cX11_world 211 = .ok (.if_icmp .ge 18, 3) := by decide +kernel
theorem dX11_world_214 : decode cX11_world 214 = .ok (.aload_n 0, 1) := by decide +kernel
theorem dX11_world_215 : decode cX11_world 215 = .ok (.getfield 134, 3) := by decide +kernel
theorem dX11_world_218 : decode cX11_world 218 = .ok (.bipush 8, 2) := by decide +kernel
theorem dX11_world_220 : decode cX11_world 220 = .ok (.iload 4, 2) := by decide +kernel
theorem dX11_world_222 : decode cX11_world 222 = .ok (.imul, 1) := by decide +kernel
theorem dX11_world_223 : decode cX11_world 223 = .ok (.iload 5, 2) := by decide +kernel
theorem dX11_world_225 : decode cX11_world 225 = .ok (.iadd, 1) := by decide +kernel
theorem dX11_world_226 : decode cX11_world 226 = .ok (.bipush 9, 2) := by decide +kernel
theorem dX11_world_228 : decode cX11_world 228 = .ok (.iastore, 1) := by decide +kernel
theorem dX11_world_229 : decode cX11_world 229 = .ok (.iinc 5 1, 3) := by decide +kernel
theorem dX11_world_232 : decode cX11_world 232 = .ok (.goto (-71), 3) := by decide +kernel
theorem dX11_world_235 : decode cX11_world 235 = .ok (.iinc 4 1, 3) := by decide +kernel
theorem dX11_world_238 : decode cX11_world 238 = .ok (.goto (-208), 3) := by decide +kernel
theorem dX11_world_241 : decode cX11_world 241 = .ok (.iload_n 2, 1) := by decide +kernel
theorem dX11_world_242 : decode cX11_world 242 = .ok (.ireturn, 1) := by decide +kernel
theorem dX11_of_0 : decode cX11_of 0 = .ok (.aload_n 0, 1) := by decide +kernel
theorem dX11_of_1 : decode cX11_of 1 = .ok (.iload_n 1, 1) := by decide +kernel
theorem dX11_of_2 : decode cX11_of 2 = .ok (.invokevirtual 328, 3) := by decide +kernel
theorem dX11_of_5 : decode cX11_of 5 = .ok (.ifCond .ne 5, 3) := by decide +kernel
theorem dX11_of_8 : decode cX11_of 8 = .ok (.iconst (-1), 1) := by decide +kernel
theorem dX11_of_9 : decode cX11_of 9 = .ok (.ireturn, 1) := by decide +kernel
theorem dX11_of_10 : decode cX11_of 10 = .ok (.iload_n 2, 1) := by decide +kernel
theorem dX11_of_11 : decode cX11_of 11 = .ok (.tableswitch 57 0 3 #[29, 36, 43, 50], 29) := by decide +kernel
theorem dX11_of_40 : decode cX11_of 40 = .ok (.aload_n 0, 1) := by decide +kernel
theorem dX11_of_41 : decode cX11_of 41 = .ok (.getfield 122, 3) := by decide +kernel
theorem dX11_of_44 : decode cX11_of 44 = .ok (.iload_n 1, 1) := by decide +kernel
theorem dX11_of_45 : decode cX11_of 45 = .ok (.iaload, 1) := by decide +kernel
theorem dX11_of_46 : decode cX11_of 46 = .ok (.ireturn, 1) := by decide +kernel
theorem dX11_of_47 : decode cX11_of 47 = .ok (.aload_n 0, 1) := by decide +kernel
theorem dX11_of_48 : decode cX11_of 48 = .ok (.getfield 125, 3) := by decide +kernel
theorem dX11_of_51 : decode cX11_of 51 = .ok (.iload_n 1, 1) := by decide +kernel
theorem dX11_of_52 : decode cX11_of 52 = .ok (.iaload, 1) := by decide +kernel
theorem dX11_of_53 : decode cX11_of 53 = .ok (.ireturn, 1) := by decide +kernel
theorem dX11_of_54 : decode cX11_of 54 = .ok (.aload_n 0, 1) := by decide +kernel
theorem dX11_of_55 : decode cX11_of 55 = .ok (.getfield 128, 3) := by decide +kernel
theorem dX11_of_58 : decode cX11_of 58 = .ok (.iload_n 1, 1) := by decide +kernel
theorem dX11_of_59 : decode cX11_of 59 = .ok (.iaload, 1) := by decide +kernel
theorem dX11_of_60 : decode cX11_of 60 = .ok (.ireturn, 1) := by decide +kernel
theorem dX11_of_61 : decode cX11_of 61 = .ok (.aload_n 0, 1) := by decide +kernel
theorem dX11_of_62 : decode cX11_of 62 = .ok (.getfield 131, 3) := by decide +kernel
theorem dX11_of_65 : decode cX11_of 65 = .ok (.iload_n 1, 1) := by decide +kernel
theorem dX11_of_66 : decode cX11_of 66 = .ok (.iaload, 1) := by decide +kernel
theorem dX11_of_67 : decode cX11_of 67 = .ok (.ireturn, 1) := by decide +kernel
theorem dX11_of_68 : decode cX11_of 68 = .ok (.iload_n 2, 1) := by decide +kernel
theorem dX11_of_69 : decode cX11_of 69 = .ok (.bipush 10, 2) := by decide +kernel
theorem dX11_of_71 : decode cX11_of 71 = .ok (.bipush 17, 2) := by decide +kernel
theorem dX11_of_73 : decode cX11_of 73 = .ok (.invokestatic 313, 3) := by decide +kernel
theorem dX11_of_76 : decode cX11_of 76 = .ok (.ifCond .eq 20, 3) := by decide +kernel
theorem dX11_of_79 : decode cX11_of 79 = .ok (.aload_n 0, 1) := by decide +kernel
theorem dX11_of_80 : decode cX11_of 80 = .ok (.getfield 134, 3) := by decide +kernel
theorem dX11_of_83 : decode cX11_of 83 = .ok (.bipush 8, 2) := by decide +kernel
theorem dX11_of_85 : decode cX11_of 85 = .ok (.iload_n 1, 1) := by decide +kernel
theorem dX11_of_86 : decode cX11_of 86 = .ok (.imul, 1) := by decide +kernel
theorem dX11_of_87 : decode cX11_of 87 = .ok (.iload_n 2, 1) := by decide +kernel
theorem dX11_of_88 : decode cX11_of 88 = .ok (.iadd, 1) := by decide +kernel
theorem dX11_of_89 : decode cX11_of 89 = .ok (.bipush 10, 2) := by decide +kernel
theorem dX11_of_91 : decode cX11_of 91 = .ok (.isub, 1) := by decide +kernel
theorem dX11_of_92 : decode cX11_of 92 = .ok (.iaload, 1) := by decide +kernel
theorem dX11_of_93 : decode cX11_of 93 = .ok (.goto 4, 3) := by decide +kernel
theorem dX11_of_96 : decode cX11_of 96 = .ok (.iconst (-1), 1) := by decide +kernel
theorem dX11_of_97 : decode cX11_of 97 = .ok (.ireturn, 1) := by decide +kernel
theorem dX11_looksAt_0 : decode cX11_looksAt 0 = .ok (.iconst 0, 1) := by decide +kernel
theorem dX11_looksAt_1 : decode cX11_looksAt 1 = .ok (.istore_n 3, 1) := by decide +kernel
theorem dX11_looksAt_2 : decode cX11_looksAt 2 = .ok (.iload_n 3, 1) := by decide +kernel
theorem dX11_looksAt_3 : decode cX11_looksAt 3 = .ok (.bipush 8, 2) := by decide +kernel
theorem dX11_looksAt_5 : decode cX11_looksAt 5 = .ok (.if_icmp .ge 26, 3) := by decide +kernel
theorem dX11_looksAt_8 : decode cX11_looksAt 8 = .ok (.aload_n 0, 1) := by decide +kernel
theorem dX11_looksAt_9 : decode cX11_looksAt 9 = .ok (.getfield 116, 3) := by decide +kernel
theorem dX11_looksAt_12 : decode cX11_looksAt 12 = .ok (.iload_n 3, 1) := by decide +kernel
theorem dX11_looksAt_13 : decode cX11_looksAt 13 = .ok (.aload_n 0, 1) := by decide +kernel
theorem dX11_looksAt_14 : decode cX11_looksAt 14 = .ok (.getfield 134, 3) := by decide +kernel
theorem dX11_looksAt_17 : decode cX11_looksAt 17 = .ok (.bipush 8, 2) := by decide +kernel
theorem dX11_looksAt_19 : decode cX11_looksAt 19 = .ok (.iload_n 1, 1) := by decide +kernel
theorem dX11_looksAt_20 : decode cX11_looksAt 20 = .ok (.imul, 1) := by decide +kernel
theorem dX11_looksAt_21 : decode cX11_looksAt 21 = .ok (.iload_n 3, 1) := by decide +kernel
theorem dX11_looksAt_22 : decode cX11_looksAt 22 = .ok (.iadd, 1) := by decide +kernel
theorem dX11_looksAt_23 : decode cX11_looksAt 23 = .ok (.iaload, 1) := by decide +kernel
theorem dX11_looksAt_24 : decode cX11_looksAt 24 = .ok (.iastore, 1) := by decide +kernel
theorem dX11_looksAt_25 : decode cX11_looksAt 25 = .ok (.iinc 3 1, 3) := by decide +kernel
theorem dX11_looksAt_28 : decode cX11_looksAt 28 = .ok (.goto (-26), 3) := by decide +kernel
theorem dX11_looksAt_31 : decode cX11_looksAt 31 = .ok (.aload_n 0, 1) := by decide +kernel
theorem dX11_looksAt_32 : decode cX11_looksAt 32 = .ok (.getfield 116, 3) := by decide +kernel
theorem dX11_looksAt_35 : decode cX11_looksAt 35 = .ok (.bipush 8, 2) := by decide +kernel
theorem dX11_looksAt_37 : decode cX11_looksAt 37 = .ok (.iload_n 2, 1) := by decide +kernel
theorem dX11_looksAt_38 : decode cX11_looksAt 38 = .ok (.iastore, 1) := by decide +kernel
theorem dX11_looksAt_39 : decode cX11_looksAt 39 = .ok (.aload_n 0, 1) := by decide +kernel
theorem dX11_looksAt_40 : decode cX11_looksAt 40 = .ok (.getfield 116, 3) := by decide +kernel
theorem dX11_looksAt_43 : decode cX11_looksAt 43 = .ok (.bipush 9, 2) := by decide +kernel
theorem dX11_looksAt_45 : decode cX11_looksAt 45 = .ok (.aload_n 0, 1) := by decide +kernel
theorem dX11_looksAt_46 : decode cX11_looksAt 46 = .ok (.getfield 125, 3) := by decide +kernel
theorem dX11_looksAt_49 : decode cX11_looksAt 49 = .ok (.iload_n 1, 1) := by decide +kernel
theorem dX11_looksAt_50 : decode cX11_looksAt 50 = .ok (.iaload, 1) := by decide +kernel
theorem dX11_looksAt_51 : decode cX11_looksAt 51 = .ok (.iastore, 1) := by decide +kernel
theorem dX11_looksAt_52 : decode cX11_looksAt 52 = .ok (.aload_n 0, 1) := by decide +kernel
theorem dX11_looksAt_53 : decode cX11_looksAt 53 = .ok (.getfield 116, 3) := by decide +kernel
theorem dX11_looksAt_56 : decode cX11_looksAt 56 = .ok (.bipush 10, 2) := by decide +kernel
theorem dX11_looksAt_58 : decode cX11_looksAt 58 = .ok (.aload_n 0, 1) := by decide +kernel
theorem dX11_looksAt_59 : decode cX11_looksAt 59 = .ok (.getfield 128, 3) := by decide +kernel
theorem dX11_looksAt_62 : decode cX11_looksAt 62 = .ok (.iload_n 1, 1) := by decide +kernel
theorem dX11_looksAt_63 : decode cX11_looksAt 63 = .ok (.iaload, 1) := by decide +kernel
theorem dX11_looksAt_64 : decode cX11_looksAt 64 = .ok (.iastore, 1) := by decide +kernel
theorem dX11_looksAt_65 : decode cX11_looksAt 65 = .ok (.aload_n 0, 1) := by decide +kernel
theorem dX11_looksAt_66 : decode cX11_looksAt 66 = .ok (.getfield 116, 3) := by decide +kernel
theorem dX11_looksAt_69 : decode cX11_looksAt 69 = .ok (.bipush 11, 2) := by decide +kernel
theorem dX11_looksAt_71 : decode cX11_looksAt 71 = .ok (.aload_n 0, 1) := by decide +kernel
theorem dX11_looksAt_72 : decode cX11_looksAt 72 = .ok (.getfield 131, 3) := by decide +kernel
theorem dX11_looksAt_75 : decode cX11_looksAt 75 = .ok (.iload_n 1, 1) := by decide +kernel
theorem dX11_looksAt_76 : decode cX11_looksAt 76 = .ok (.iaload, 1) := by decide +kernel
theorem dX11_looksAt_77 : decode cX11_looksAt 77 = .ok (.iastore, 1) := by decide +kernel
theorem dX11_looksAt_78 : decode cX11_looksAt 78 = .ok (.bipush 12, 2) := by decide +kernel
theorem dX11_looksAt_80 : decode cX11_looksAt 80 = .ok (.istore_n 3, 1) := by decide +kernel
theorem dX11_looksAt_81 : decode cX11_looksAt 81 = .ok (.iload_n 3, 1) := by decide +kernel
theorem dX11_looksAt_82 : decode cX11_looksAt 82 = .ok (.bipush 21, 2) := by decide +kernel
theorem dX11_looksAt_84 : decode cX11_looksAt 84 = .ok (.if_icmp .ge 16, 3) := by decide +kernel
theorem dX11_looksAt_87 : decode cX11_looksAt 87 = .ok (.aload_n 0, 1) := by decide +kernel
theorem dX11_looksAt_88 : decode cX11_looksAt 88 = .ok (.getfield 116, 3) := by decide +kernel
theorem dX11_looksAt_91 : decode cX11_looksAt 91 = .ok (.iload_n 3, 1) := by decide +kernel
theorem dX11_looksAt_92 : decode cX11_looksAt 92 = .ok (.iconst 0, 1) := by decide +kernel
theorem dX11_looksAt_93 : decode cX11_looksAt 93 = .ok (.iastore, 1) := by decide +kernel
theorem dX11_looksAt_94 : decode cX11_looksAt 94 = .ok (.iinc 3 1, 3) := by decide +kernel
theorem dX11_looksAt_97 : decode cX11_looksAt 97 = .ok (.goto (-16), 3) := by decide +kernel
theorem dX11_looksAt_100 : decode cX11_looksAt 100 = .ok (.return_, 1) := by decide +kernel
theorem dX11_isUp_0 : decode cX11_isUp 0 = .ok (.aload_n 0, 1) := by decide +kernel
theorem dX11_isUp_1 : decode cX11_isUp 1 = .ok (.iload_n 2, 1) := by decide +kernel
theorem dX11_isUp_2 : decode cX11_isUp 2 = .ok (.iload_n 3, 1) := by decide +kernel
theorem dX11_isUp_3 : decode cX11_isUp 3 = .ok (.invokevirtual 331, 3) := by decide +kernel
theorem dX11_isUp_6 : decode cX11_isUp 6 = .ok (.aload_n 0, 1) := by decide +kernel
theorem dX11_isUp_7 : decode cX11_isUp 7 = .ok (.bipush 26, 2) := by decide +kernel
theorem dX11_isUp_9 : decode cX11_isUp 9 = .ok (.aload_n 0, 1) := by decide +kernel
theorem dX11_isUp_10 : decode cX11_isUp 10 = .ok (.getfield 230, 3) := by decide +kernel
theorem dX11_isUp_13 : decode cX11_isUp 13 = .ok (.imul, 1) := by decide +kernel
theorem dX11_isUp_14 : decode cX11_isUp 14 = .ok (.iload_n 1, 1) := by decide +kernel
theorem dX11_isUp_15 : decode cX11_isUp 15 = .ok (.iadd, 1) := by decide +kernel
theorem dX11_isUp_16 : decode cX11_isUp 16 = .ok (.invokevirtual 334, 3) := by decide +kernel
theorem dX11_isUp_19 : decode cX11_isUp 19 = .ok (.ireturn, 1) := by decide +kernel
theorem dX11_signsOf_0 : decode cX11_signsOf 0 = .ok (.iconst 0, 1) := by decide +kernel
theorem dX11_signsOf_1 : decode cX11_signsOf 1 = .ok (.istore_n 3, 1) := by decide +kernel
theorem dX11_signsOf_2 : decode cX11_signsOf 2 = .ok (.iconst 0, 1) := by decide +kernel
theorem dX11_signsOf_3 : decode cX11_signsOf 3 = .ok (.istore 4, 2) := by decide +kernel
theorem dX11_signsOf_5 : decode cX11_signsOf 5 = .ok (.iload 4, 2) := by decide +kernel
theorem dX11_signsOf_7 : decode cX11_signsOf 7 = .ok (.aload_n 0, 1) := by decide +kernel
theorem dX11_signsOf_8 : decode cX11_signsOf 8 = .ok (.getfield 49, 3) := by decide +kernel
theorem dX11_signsOf_11 : decode cX11_signsOf 11 = .ok (.aload_n 0, 1) := by decide +kernel
theorem dX11_signsOf_12 : decode cX11_signsOf 12 = .ok (.getfield 230, 3) := by decide +kernel
theorem dX11_signsOf_15 : decode cX11_signsOf 15 = .ok (.iaload, 1) := by decide +kernel
theorem dX11_signsOf_16 : decode cX11_signsOf 16 = .ok (.if_icmp .ge 27, 3) := by decide +kernel
theorem dX11_signsOf_19 : decode cX11_signsOf 19 = .ok (.aload_n 0, 1) := by decide +kernel
theorem dX11_signsOf_20 : decode cX11_signsOf 20 = .ok (.iload 4, 2) := by decide +kernel
theorem dX11_signsOf_22 : decode cX11_signsOf 22 = .ok (.iload_n 1, 1) := by decide +kernel
theorem dX11_signsOf_23 : decode cX11_signsOf 23 = .ok (.iload_n 2, 1) := by decide +kernel
theorem dX11_signsOf_24 : decode cX11_signsOf 24 = .ok (.invokevirtual 325, 3) := by decide +kernel
theorem dX11_signsOf_27 : decode cX11_signsOf 27 = .ok (.ifCond .eq 10, 3) := by decide +kernel
theorem dX11_signsOf_30 : decode cX11_signsOf 30 = .ok (.iload_n 3, 1) := by decide +kernel
theorem dX11_signsOf_31 : decode cX11_signsOf 31 = .ok (.iconst 1, 1) := by decide +kernel
theorem dX11_signsOf_32 : decode cX11_signsOf 32 = .ok (.iload 4, 2) := by decide +kernel
theorem dX11_signsOf_34 : decode cX11_signsOf 34 = .ok (.ishl, 1) := by decide +kernel
theorem dX11_signsOf_35 : decode cX11_signsOf 35 = .ok (.ior, 1) := by decide +kernel
theorem dX11_signsOf_36 : decode cX11_signsOf 36 = .ok (.istore_n 3, 1) := by decide +kernel
theorem dX11_signsOf_37 : decode cX11_signsOf 37 = .ok (.iinc 4 1, 3) := by decide +kernel
theorem dX11_signsOf_40 : decode cX11_signsOf 40 = .ok (.goto (-35), 3) := by decide +kernel
theorem dX11_signsOf_43 : decode cX11_signsOf 43 = .ok (.iload_n 3, 1) := by decide +kernel
theorem dX11_signsOf_44 : decode cX11_signsOf 44 = .ok (.ireturn, 1) := by decide +kernel
theorem dX11_signs_0 : decode cX11_signs 0 = .ok (.aload_n 0, 1) := by decide +kernel
theorem dX11_signs_1 : decode cX11_signs 1 = .ok (.iload_n 1, 1) := by decide +kernel
theorem dX11_signs_2 : decode cX11_signs 2 = .ok (.invokevirtual 328, 3) := by decide +kernel
theorem dX11_signs_5 : decode cX11_signs 5 = .ok (.ifCond .eq 18, 3) := by decide +kernel
theorem dX11_signs_8 : decode cX11_signs 8 = .ok (.iload_n 2, 1) := by decide +kernel
theorem dX11_signs_9 : decode cX11_signs 9 = .ok (.iconst (-1), 1) := by decide +kernel
theorem dX11_signs_10 : decode cX11_signs 10 = .ok (.if_icmp .eq 17, 3) := by decide +kernel
theorem dX11_signs_13 : decode cX11_signs 13 = .ok (.iload_n 2, 1) := by decide +kernel
theorem dX11_signs_14 : decode cX11_signs 14 = .ok (.iconst 0, 1) := by decide +kernel
theorem dX11_signs_15 : decode cX11_signs 15 = .ok (.bipush 59, 2) := by decide +kernel
theorem dX11_signs_17 : decode cX11_signs 17 = .ok (.invokestatic 313, 3) := by decide +kernel
theorem dX11_signs_20 : decode cX11_signs 20 = .ok (.ifCond .ne 7, 3) := by decide +kernel
theorem dX11_signs_23 : decode cX11_signs 23 = .ok (.iconst (-1), 1) := by decide +kernel
theorem dX11_signs_24 : decode cX11_signs 24 = .ok (.goto 23, 3) := by decide +kernel
theorem dX11_signs_27 : decode cX11_signs 27 = .ok (.aload_n 0, 1) := by decide +kernel
theorem dX11_signs_28 : decode cX11_signs 28 = .ok (.iload_n 1, 1) := by decide +kernel
theorem dX11_signs_29 : decode cX11_signs 29 = .ok (.iload_n 2, 1) := by decide +kernel
theorem dX11_signs_30 : decode cX11_signs 30 = .ok (.iconst (-1), 1) := by decide +kernel
theorem dX11_signs_31 : decode cX11_signs 31 = .ok (.if_icmp .ne 12, 3) := by decide +kernel
theorem dX11_signs_34 : decode cX11_signs 34 = .ok (.aload_n 0, 1) := by decide +kernel
theorem dX11_signs_35 : decode cX11_signs 35 = .ok (.getfield 122, 3) := by decide +kernel
theorem dX11_signs_38 : decode cX11_signs 38 = .ok (.iload_n 1, 1) := by decide +kernel
theorem dX11_signs_39 : decode cX11_signs 39 = .ok (.iaload, 1) := by decide +kernel
theorem dX11_signs_40 : decode cX11_signs 40 = .ok (.goto 4, 3) := by decide +kernel
theorem dX11_signs_43 : decode cX11_signs 43 = .ok (.iload_n 2, 1) := by decide +kernel
theorem dX11_signs_44 : decode cX11_signs 44 = .ok (.invokevirtual 337, 3) := by decide +kernel
theorem dX11_signs_47 : decode cX11_signs 47 = .ok (.ireturn, 1) := by decide +kernel
theorem dX11_round_0 : decode cX11_round 0 = .ok (.iconst 2, 1) := by decide +kernel
theorem dX11_round_1 : decode cX11_round 1 = .ok (.iload_n 0, 1) := by decide +kernel
theorem dX11_round_2 : decode cX11_round 2 = .ok (.imul, 1) := by decide +kernel
theorem dX11_round_3 : decode cX11_round 3 = .ok (.iload_n 1, 1) := by decide +kernel
theorem dX11_round_4 : decode cX11_round 4 = .ok (.iadd, 1) := by decide +kernel
theorem dX11_round_5 : decode cX11_round 5 = .ok (.iconst 2, 1) := by decide +kernel
theorem dX11_round_6 : decode cX11_round 6 = .ok (.iload_n 1, 1) := by decide +kernel
theorem dX11_round_7 : decode cX11_round 7 = .ok (.imul, 1) := by decide +kernel
theorem dX11_round_8 : decode cX11_round 8 = .ok (.idiv, 1) := by decide +kernel
theorem dX11_round_9 : decode cX11_round 9 = .ok (.iload_n 1, 1) := by decide +kernel
theorem dX11_round_10 : decode cX11_round 10 = .ok (.imul, 1) := by decide +kernel
theorem dX11_round_11 : decode cX11_round 11 = .ok (.bipush 60, 2) := by decide +kernel
theorem dX11_round_13 : decode cX11_round 13 = .ok (.irem, 1) := by decide +kernel
theorem dX11_round_14 : decode cX11_round 14 = .ok (.ireturn, 1) := by decide +kernel
theorem dX11_rounded_0 : decode cX11_rounded 0 = .ok (.aload_n 0, 1) := by decide +kernel
theorem dX11_rounded_1 : decode cX11_rounded 1 = .ok (.iload_n 1, 1) := by decide +kernel
theorem dX11_rounded_2 : decode cX11_rounded 2 = .ok (.invokevirtual 328, 3) := by decide +kernel
theorem dX11_rounded_5 : decode cX11_rounded 5 = .ok (.ifCond .eq 13, 3) := by decide +kernel
theorem dX11_rounded_8 : decode cX11_rounded 8 = .ok (.iload_n 2, 1) := by decide +kernel
theorem dX11_rounded_9 : decode cX11_rounded 9 = .ok (.iconst 2, 1) := by decide +kernel
theorem dX11_rounded_10 : decode cX11_rounded 10 = .ok (.bipush 30, 2) := by decide +kernel
theorem dX11_rounded_12 : decode cX11_rounded 12 = .ok (.invokestatic 313, 3) := by decide +kernel
theorem dX11_rounded_15 : decode cX11_rounded 15 = .ok (.ifCond .ne 7, 3) := by decide +kernel
theorem dX11_rounded_18 : decode cX11_rounded 18 = .ok (.iconst (-1), 1) := by decide +kernel
theorem dX11_rounded_19 : decode cX11_rounded 19 = .ok (.goto 18, 3) := by decide +kernel
theorem dX11_rounded_22 : decode cX11_rounded 22 = .ok (.aload_n 0, 1) := by decide +kernel
theorem dX11_rounded_23 : decode cX11_rounded 23 = .ok (.iload_n 1, 1) := by decide +kernel
theorem dX11_rounded_24 : decode cX11_rounded 24 = .ok (.aload_n 0, 1) := by decide +kernel
theorem dX11_rounded_25 : decode cX11_rounded 25 = .ok (.getfield 122, 3) := by decide +kernel
theorem dX11_rounded_28 : decode cX11_rounded 28 = .ok (.iload_n 1, 1) := by decide +kernel
theorem dX11_rounded_29 : decode cX11_rounded 29 = .ok (.iaload, 1) := by decide +kernel
theorem dX11_rounded_30 : decode cX11_rounded 30 = .ok (.iload_n 2, 1) := by decide +kernel
theorem dX11_rounded_31 : decode cX11_rounded 31 = .ok (.invokestatic 340, 3) := by decide +kernel
theorem dX11_rounded_34 : decode cX11_rounded 34 = .ok (.invokevirtual 337, 3) := by decide +kernel
theorem dX11_rounded_37 : decode cX11_rounded 37 = .ok (.ireturn, 1) := by decide +kernel
theorem dX11_moved_0 : decode cX11_moved 0 = .ok (.aload_n 0, 1) := by decide +kernel
theorem dX11_moved_1 : decode cX11_moved 1 = .ok (.iload_n 1, 1) := by decide +kernel
theorem dX11_moved_2 : decode cX11_moved 2 = .ok (.invokevirtual 328, 3) := by decide +kernel
theorem dX11_moved_5 : decode cX11_moved 5 = .ok (.ifCond .eq 13, 3) := by decide +kernel
theorem dX11_moved_8 : decode cX11_moved 8 = .ok (.iload_n 2, 1) := by decide +kernel
theorem dX11_moved_9 : decode cX11_moved 9 = .ok (.iconst 0, 1) := by decide +kernel
theorem dX11_moved_10 : decode cX11_moved 10 = .ok (.bipush 30, 2) := by decide +kernel
theorem dX11_moved_12 : decode cX11_moved 12 = .ok (.invokestatic 313, 3) := by decide +kernel
theorem dX11_moved_15 : decode cX11_moved 15 = .ok (.ifCond .ne 5, 3) := by decide +kernel
theorem dX11_moved_18 : decode cX11_moved 18 = .ok (.iconst (-1), 1) := by decide +kernel
theorem dX11_moved_19 : decode cX11_moved 19 = .ok (.ireturn, 1) := by decide +kernel
theorem dX11_moved_20 : decode cX11_moved 20 = .ok (.iload_n 3, 1) := by decide +kernel
theorem dX11_moved_21 : decode cX11_moved 21 = .ok (.ifCond .eq 7, 3) := by decide +kernel
theorem dX11_moved_24 : decode cX11_moved 24 = .ok (.iconst 0, 1) := by decide +kernel
theorem dX11_moved_25 : decode cX11_moved 25 = .ok (.goto 16, 3) := by decide +kernel
theorem dX11_moved_28 : decode cX11_moved 28 = .ok (.iconst 1, 1) := by decide +kernel
theorem dX11_moved_29 : decode cX11_moved 29 = .ok (.aload_n 0, 1) := by decide +kernel
theorem dX11_moved_30 : decode cX11_moved 30 = .ok (.getfield 49, 3) := by decide +kernel
theorem dX11_moved_33 : decode cX11_moved 33 = .ok (.aload_n 0, 1) := by decide +kernel
theorem dX11_moved_34 : decode cX11_moved 34 = .ok (.getfield 230, 3) := by decide +kernel
theorem dX11_moved_37 : decode cX11_moved 37 = .ok (.iaload, 1) := by decide +kernel
theorem dX11_moved_38 : decode cX11_moved 38 = .ok (.ishl, 1) := by decide +kernel
theorem dX11_moved_39 : decode cX11_moved 39 = .ok (.iconst 1, 1) := by decide +kernel
theorem dX11_moved_40 : decode cX11_moved 40 = .ok (.isub, 1) := by decide +kernel
theorem dX11_moved_41 : decode cX11_moved 41 = .ok (.istore 4, 2) := by decide +kernel
theorem dX11_moved_43 : decode cX11_moved 43 = .ok (.iload_n 2, 1) := by decide +kernel
theorem dX11_moved_44 : decode cX11_moved 44 = .ok (.ineg, 1) := by decide +kernel
theorem dX11_moved_45 : decode cX11_moved 45 = .ok (.istore 5, 2) := by decide +kernel
theorem dX11_moved_47 : decode cX11_moved 47 = .ok (.iload 5, 2) := by decide +kernel
theorem dX11_moved_49 : decode cX11_moved 49 = .ok (.iload_n 2, 1) := by decide +kernel
theorem dX11_moved_50 : decode cX11_moved 50 = .ok (.if_icmp .gt 50, 3) := by decide +kernel
theorem dX11_moved_53 : decode cX11_moved 53 = .ok (.aload_n 0, 1) := by decide +kernel
theorem dX11_moved_54 : decode cX11_moved 54 = .ok (.iload_n 1, 1) := by decide +kernel
theorem dX11_moved_55 : decode cX11_moved 55 = .ok (.aload_n 0, 1) := by decide +kernel
theorem dX11_moved_56 : decode cX11_moved 56 = .ok (.getfield 122, 3) := by decide +kernel
theorem dX11_moved_59 : decode cX11_moved 59 = .ok (.iload_n 1, 1) := by decide +kernel
theorem dX11_moved_60 : decode cX11_moved 60 = .ok (.iaload, 1) := by decide +kernel
theorem dX11_moved_61 : decode cX11_moved 61 = .ok (.iload 5, 2) := by decide +kernel
theorem dX11_moved_63 : decode cX11_moved 63 = .ok (.iadd, 1) := by decide +kernel
theorem dX11_moved_64 : decode cX11_moved 64 = .ok (.bipush 60, 2) := by decide +kernel
theorem dX11_moved_66 : decode cX11_moved 66 = .ok (.iadd, 1) := by decide +kernel
theorem dX11_moved_67 : decode cX11_moved 67 = .ok (.bipush 60, 2) := by decide +kernel
theorem dX11_moved_69 : decode cX11_moved 69 = .ok (.irem, 1) := by decide +kernel
theorem dX11_moved_70 : decode cX11_moved 70 = .ok (.invokevirtual 337, 3) := by decide +kernel
theorem dX11_moved_73 : decode cX11_moved 73 = .ok (.istore 6, 2) := by decide +kernel
theorem dX11_moved_75 : decode cX11_moved 75 = .ok (.iload_n 3, 1) := by decide +kernel
theorem dX11_moved_76 : decode cX11_moved 76 = .ok (.ifCond .eq 11, 3) := by decide +kernel
theorem dX11_moved_79 : decode cX11_moved 79 = .ok (.iload 4, 2) := by decide +kernel
theorem dX11_moved_81 : decode cX11_moved 81 = .ok (.iload 6, 2) := by decide +kernel
theorem dX11_moved_83 : decode cX11_moved 83 = .ok (.ior, 1) := by decide +kernel
theorem dX11_moved_84 : decode cX11_moved 84 = .ok (.goto 8, 3) := by decide +kernel
theorem dX11_moved_87 : decode cX11_moved 87 = .ok (.iload 4, 2) := by decide +kernel
theorem dX11_moved_89 : decode cX11_moved 89 = .ok (.iload 6, 2) := by decide +kernel
theorem dX11_moved_91 : decode cX11_moved 91 = .ok (.iand, 1) := by decide +kernel
theorem dX11_moved_92 : decode cX11_moved 92 = .ok (.istore 4, 2) := by decide +kernel
theorem dX11_moved_94 : decode cX11_moved 94 = .ok (.iinc 5 1, 3) := by decide +kernel
theorem dX11_moved_97 : decode cX11_moved 97 = .ok (.goto (-50), 3) := by decide +kernel
theorem dX11_moved_100 : decode cX11_moved 100 = .ok (.iload 4, 2) := by decide +kernel
theorem dX11_moved_102 : decode cX11_moved 102 = .ok (.ireturn, 1) := by decide +kernel
theorem dX11_isTrueOf_0 : decode cX11_isTrueOf 0 = .ok (.aload_n 0, 1) := by decide +kernel
theorem dX11_isTrueOf_1 : decode cX11_isTrueOf 1 = .ok (.iload_n 2, 1) := by decide +kernel
theorem dX11_isTrueOf_2 : decode cX11_isTrueOf 2 = .ok (.aload_n 0, 1) := by decide +kernel
theorem dX11_isTrueOf_3 : decode cX11_isTrueOf 3 = .ok (.getfield 122, 3) := by decide +kernel
theorem dX11_isTrueOf_6 : decode cX11_isTrueOf 6 = .ok (.iload_n 2, 1) := by decide +kernel
theorem dX11_isTrueOf_7 : decode cX11_isTrueOf 7 = .ok (.iaload, 1) := by decide +kernel
theorem dX11_isTrueOf_8 : decode cX11_isTrueOf 8 = .ok (.invokevirtual 331, 3) := by decide +kernel
theorem dX11_isTrueOf_11 : decode cX11_isTrueOf 11 = .ok (.aload_n 0, 1) := by decide +kernel
theorem dX11_isTrueOf_12 : decode cX11_isTrueOf 12 = .ok (.bipush 26, 2) := by decide +kernel
theorem dX11_isTrueOf_14 : decode cX11_isTrueOf 14 = .ok (.aload_n 0, 1) := by decide +kernel
theorem dX11_isTrueOf_15 : decode cX11_isTrueOf 15 = .ok (.getfield 230, 3) := by decide +kernel
theorem dX11_isTrueOf_18 : decode cX11_isTrueOf 18 = .ok (.imul, 1) := by decide +kernel
theorem dX11_isTrueOf_19 : decode cX11_isTrueOf 19 = .ok (.bipush 6, 2) := by decide +kernel
theorem dX11_isTrueOf_21 : decode cX11_isTrueOf 21 = .ok (.iadd, 1) := by decide +kernel
theorem dX11_isTrueOf_22 : decode cX11_isTrueOf 22 = .ok (.iload_n 1, 1) := by decide +kernel
theorem dX11_isTrueOf_23 : decode cX11_isTrueOf 23 = .ok (.iadd, 1) := by decide +kernel
theorem dX11_isTrueOf_24 : decode cX11_isTrueOf 24 = .ok (.invokevirtual 334, 3) := by decide +kernel
theorem dX11_isTrueOf_27 : decode cX11_isTrueOf 27 = .ok (.ireturn, 1) := by decide +kernel
theorem dX11_holds_0 : decode cX11_holds 0 = .ok (.aload_n 0, 1) := by decide +kernel
theorem dX11_holds_1 : decode cX11_holds 1 = .ok (.iload_n 1, 1) := by decide +kernel
theorem dX11_holds_2 : decode cX11_holds 2 = .ok (.invokevirtual 343, 3) := by decide +kernel
theorem dX11_holds_5 : decode cX11_holds 5 = .ok (.ifCond .eq 11, 3) := by decide +kernel
theorem dX11_holds_8 : decode cX11_holds 8 = .ok (.aload_n 0, 1) := by decide +kernel
theorem dX11_holds_9 : decode cX11_holds 9 = .ok (.iload_n 2, 1) := by decide +kernel
theorem dX11_holds_10 : decode cX11_holds 10 = .ok (.invokevirtual 328, 3) := by decide +kernel
theorem dX11_holds_13 : decode cX11_holds 13 = .ok (.ifCond .ne 7, 3) := by decide +kernel
theorem dX11_holds_16 : decode cX11_holds 16 = .ok (.iconst (-1), 1) := by decide +kernel
theorem dX11_holds_17 : decode cX11_holds 17 = .ok (.goto 17, 3) := by decide +kernel
theorem dX11_holds_20 : decode cX11_holds 20 = .ok (.aload_n 0, 1) := by decide +kernel
theorem dX11_holds_21 : decode cX11_holds 21 = .ok (.iload_n 1, 1) := by decide +kernel
theorem dX11_holds_22 : decode cX11_holds 22 = .ok (.iload_n 2, 1) := by decide +kernel
theorem dX11_holds_23 : decode cX11_holds 23 = .ok (.invokevirtual 346, 3) := by decide +kernel
theorem dX11_holds_26 : decode cX11_holds 26 = .ok (.ifCond .eq 7, 3) := by decide +kernel
theorem dX11_holds_29 : decode cX11_holds 29 = .ok (.iconst 1, 1) := by decide +kernel
theorem dX11_holds_30 : decode cX11_holds 30 = .ok (.goto 4, 3) := by decide +kernel
theorem dX11_holds_33 : decode cX11_holds 33 = .ok (.iconst 0, 1) := by decide +kernel
theorem dX11_holds_34 : decode cX11_holds 34 = .ok (.ireturn, 1) := by decide +kernel
theorem dX11_sort_0 : decode cX11_sort 0 = .ok (.aload_n 0, 1) := by decide +kernel
theorem dX11_sort_1 : decode cX11_sort 1 = .ok (.iload_n 1, 1) := by decide +kernel
theorem dX11_sort_2 : decode cX11_sort 2 = .ok (.invokevirtual 343, 3) := by decide +kernel
theorem dX11_sort_5 : decode cX11_sort 5 = .ok (.ifCond .eq 20, 3) := by decide +kernel
theorem dX11_sort_8 : decode cX11_sort 8 = .ok (.aload_n 0, 1) := by decide +kernel
theorem dX11_sort_9 : decode cX11_sort 9 = .ok (.getfield 61, 3) := by decide +kernel
theorem dX11_sort_12 : decode cX11_sort 12 = .ok (.bipush 16, 2) := by decide +kernel
theorem dX11_sort_14 : decode cX11_sort 14 = .ok (.aload_n 0, 1) := by decide +kernel
theorem dX11_sort_15 : decode cX11_sort 15 = .ok (.getfield 230, 3) := by decide +kernel
theorem dX11_sort_18 : decode cX11_sort 18 = .ok (.imul, 1) := by decide +kernel
theorem dX11_sort_19 : decode cX11_sort 19 = .ok (.iload_n 1, 1) := by decide +kernel
theorem dX11_sort_20 : decode cX11_sort 20 = .ok (.iadd, 1) := by decide +kernel
theorem dX11_sort_21 : decode cX11_sort 21 = .ok (.iaload, 1) := by decide +kernel
theorem dX11_sort_22 : decode cX11_sort 22 = .ok (.goto 4, 3) := by decide +kernel
theorem dX11_sort_25 : decode cX11_sort 25 = .ok (.iconst (-1), 1) := by decide +kernel
theorem dX11_sort_26 : decode cX11_sort 26 = .ok (.ireturn, 1) := by decide +kernel
theorem dX11_paperBy_0 : decode cX11_paperBy 0 = .ok (.iconst 0, 1) := by decide +kernel
theorem dX11_paperBy_1 : decode cX11_paperBy 1 = .ok (.istore_n 3, 1) := by decide +kernel
theorem dX11_paperBy_2 : decode cX11_paperBy 2 = .ok (.bipush 40, 2) := by decide +kernel
theorem dX11_paperBy_4 : decode cX11_paperBy 4 = .ok (.aload_n 0, 1) := by decide +kernel
theorem dX11_paperBy_5 : decode cX11_paperBy 5 = .ok (.getfield 230, 3) := by decide +kernel
theorem dX11_paperBy_8 : decode cX11_paperBy 8 = .ok (.imul, 1) := by decide +kernel
theorem dX11_paperBy_9 : decode cX11_paperBy 9 = .ok (.istore 4, 2) := by decide +kernel
theorem dX11_paperBy_11 : decode cX11_paperBy 11 = .ok (.iload 4, 2) := by decide +kernel
theorem dX11_paperBy_13 : decode cX11_paperBy 13 = .ok (.bipush 40, 2) := by decide +kernel
theorem dX11_paperBy_15 : decode cX11_paperBy 15 = .ok (.aload_n 0, 1) := by decide +kernel
theorem dX11_paperBy_16 : decode cX11_paperBy 16 = .ok (.getfield 230, 3) := by decide +kernel
theorem dX11_paperBy_19 : decode cX11_paperBy 19 = .ok (.imul, 1) := by decide +kernel
theorem dX11_paperBy_20 : decode cX11_paperBy 20 = .ok (.aload_n 0, 1) := by decide +kernel
theorem dX11_paperBy_21 : decode cX11_paperBy 21 = .ok (.getfield 64, 3) := by decide +kernel
theorem dX11_paperBy_24 : decode cX11_paperBy 24 = .ok (.aload_n 0, 1) := by decide +kernel
theorem dX11_paperBy_25 : decode cX11_paperBy 25 = .ok (.getfield 230, 3) := by decide +kernel
theorem dX11_paperBy_28 : decode cX11_paperBy 28 = .ok (.iaload, 1) := by decide +kernel
theorem dX11_paperBy_29 : decode cX11_paperBy 29 = .ok (.iadd, 1) := by decide +kernel
theorem dX11_paperBy_30 : decode cX11_paperBy 30 = .ok (.if_icmp .ge 47, 3) := by decide +kernel
theorem dX11_paperBy_33 : decode cX11_paperBy 33 = .ok (.aload_n 0, 1) := by decide +kernel
theorem dX11_paperBy_34 : decode cX11_paperBy 34 = .ok (.getfield 67, 3) := by decide +kernel
theorem dX11_paperBy_37 : decode cX11_paperBy 37 = .ok (.iload 4, 2) := by decide +kernel
theorem dX11_paperBy_39 : decode cX11_paperBy 39 = .ok (.iaload, 1) := by decide +kernel
theorem dX11_paperBy_40 : decode cX11_paperBy 40 = .ok (.iload_n 1, 1) := by decide +kernel
theorem dX11_paperBy_41 : decode cX11_paperBy 41 = .ok (.if_icmp .ne 30, 3) := by decide +kernel
theorem dX11_paperBy_44 : decode cX11_paperBy 44 = .ok (.iload_n 2, 1) := by decide +kernel
theorem dX11_paperBy_45 : decode cX11_paperBy 45 = .ok (.aload_n 0, 1) := by decide +kernel
theorem dX11_paperBy_46 : decode cX11_paperBy 46 = .ok (.getfield 70, 3) := by decide +kernel
theorem dX11_paperBy_49 : decode cX11_paperBy 49 = .ok (.iload 4, 2) := by decide +kernel
theorem dX11_paperBy_51 : decode cX11_paperBy 51 = .ok (.iaload, 1) := by decide +kernel
theorem dX11_paperBy_52 : decode cX11_paperBy 52 = .ok (.ishr, 1) := by decide +kernel
theorem dX11_paperBy_53 : decode cX11_paperBy 53 = .ok (.iconst 1, 1) := by decide +kernel
theorem dX11_paperBy_54 : decode cX11_paperBy 54 = .ok (.iand, 1) := by decide +kernel
theorem dX11_paperBy_55 : decode cX11_paperBy 55 = .ok (.iconst 1, 1) := by decide +kernel
theorem dX11_paperBy_56 : decode cX11_paperBy 56 = .ok (.if_icmp .ne 15, 3) := by decide +kernel
theorem dX11_paperBy_59 : decode cX11_paperBy 59 = .ok (.iload_n 3, 1) := by decide +kernel
theorem dX11_paperBy_60 : decode cX11_paperBy 60 = .ok (.iconst 1, 1) := by decide +kernel
theorem dX11_paperBy_61 : decode cX11_paperBy 61 = .ok (.aload_n 0, 1) := by decide +kernel
theorem dX11_paperBy_62 : decode cX11_paperBy 62 = .ok (.getfield 73, 3) := by decide +kernel
theorem dX11_paperBy_65 : decode cX11_paperBy 65 = .ok (.iload 4, 2) := by decide +kernel
theorem dX11_paperBy_67 : decode cX11_paperBy 67 = .ok (.iaload, 1) := by decide +kernel
theorem dX11_paperBy_68 : decode cX11_paperBy 68 = .ok (.ishl, 1) := by decide +kernel
theorem dX11_paperBy_69 : decode cX11_paperBy 69 = .ok (.ior, 1) := by decide +kernel
theorem dX11_paperBy_70 : decode cX11_paperBy 70 = .ok (.istore_n 3, 1) := by decide +kernel
theorem dX11_paperBy_71 : decode cX11_paperBy 71 = .ok (.iinc 4 1, 3) := by decide +kernel
theorem dX11_paperBy_74 : decode cX11_paperBy 74 = .ok (.goto (-63), 3) := by decide +kernel
theorem dX11_paperBy_77 : decode cX11_paperBy 77 = .ok (.iload_n 3, 1) := by decide +kernel
theorem dX11_paperBy_78 : decode cX11_paperBy 78 = .ok (.ireturn, 1) := by decide +kernel
theorem dX11_paperOf_0 : decode cX11_paperOf 0 = .ok (.aload_n 0, 1) := by decide +kernel
theorem dX11_paperOf_1 : decode cX11_paperOf 1 = .ok (.iload_n 1, 1) := by decide +kernel
theorem dX11_paperOf_2 : decode cX11_paperOf 2 = .ok (.aload_n 0, 1) := by decide +kernel
theorem dX11_paperOf_3 : decode cX11_paperOf 3 = .ok (.iload_n 2, 1) := by decide +kernel
theorem dX11_paperOf_4 : decode cX11_paperOf 4 = .ok (.aload_n 0, 1) := by decide +kernel
theorem dX11_paperOf_5 : decode cX11_paperOf 5 = .ok (.getfield 122, 3) := by decide +kernel
theorem dX11_paperOf_8 : decode cX11_paperOf 8 = .ok (.iload_n 2, 1) := by decide +kernel
theorem dX11_paperOf_9 : decode cX11_paperOf 9 = .ok (.iaload, 1) := by decide +kernel
theorem dX11_paperOf_10 : decode cX11_paperOf 10 = .ok (.invokevirtual 337, 3) := by decide +kernel
theorem dX11_paperOf_13 : decode cX11_paperOf 13 = .ok (.invokevirtual 350, 3) := by decide +kernel
theorem dX11_paperOf_16 : decode cX11_paperOf 16 = .ok (.ireturn, 1) := by decide +kernel
theorem dX11_paper_0 : decode cX11_paper 0 = .ok (.aload_n 0, 1) := by decide +kernel
theorem dX11_paper_1 : decode cX11_paper 1 = .ok (.iload_n 1, 1) := by decide +kernel
theorem dX11_paper_2 : decode cX11_paper 2 = .ok (.invokevirtual 353, 3) := by decide +kernel
theorem dX11_paper_5 : decode cX11_paper 5 = .ok (.ifCond .eq 20, 3) := by decide +kernel
theorem dX11_paper_8 : decode cX11_paper 8 = .ok (.aload_n 0, 1) := by decide +kernel
theorem dX11_paper_9 : decode cX11_paper 9 = .ok (.iload_n 2, 1) := by decide +kernel
theorem dX11_paper_10 : decode cX11_paper 10 = .ok (.invokevirtual 328, 3) := by decide +kernel
theorem dX11_paper_13 : decode cX11_paper 13 = .ok (.ifCond .eq 12, 3) := by decide +kernel
theorem dX11_paper_16 : decode cX11_paper 16 = .ok (.aload_n 0, 1) := by decide +kernel
theorem dX11_paper_17 : decode cX11_paper 17 = .ok (.iload_n 1, 1) := by decide +kernel
theorem dX11_paper_18 : decode cX11_paper 18 = .ok (.iload_n 2, 1) := by decide +kernel
theorem dX11_paper_19 : decode cX11_paper 19 = .ok (.invokevirtual 356, 3) := by decide +kernel
theorem dX11_paper_22 : decode cX11_paper 22 = .ok (.goto 4, 3) := by decide +kernel
theorem dX11_paper_25 : decode cX11_paper 25 = .ok (.iconst (-1), 1) := by decide +kernel
theorem dX11_paper_26 : decode cX11_paper 26 = .ok (.ireturn, 1) := by decide +kernel
theorem dX11_altered_0 : decode cX11_altered 0 = .ok (.aload_n 0, 1) := by decide +kernel
theorem dX11_altered_1 : decode cX11_altered 1 = .ok (.iload_n 1, 1) := by decide +kernel
theorem dX11_altered_2 : decode cX11_altered 2 = .ok (.invokevirtual 353, 3) := by decide +kernel
theorem dX11_altered_5 : decode cX11_altered 5 = .ok (.ifCond .eq 13, 3) := by decide +kernel
theorem dX11_altered_8 : decode cX11_altered 8 = .ok (.iload_n 2, 1) := by decide +kernel
theorem dX11_altered_9 : decode cX11_altered 9 = .ok (.iconst 2, 1) := by decide +kernel
theorem dX11_altered_10 : decode cX11_altered 10 = .ok (.bipush 30, 2) := by decide +kernel
theorem dX11_altered_12 : decode cX11_altered 12 = .ok (.invokestatic 313, 3) := by decide +kernel
theorem dX11_altered_15 : decode cX11_altered 15 = .ok (.ifCond .ne 5, 3) := by decide +kernel
theorem dX11_altered_18 : decode cX11_altered 18 = .ok (.iconst (-1), 1) := by decide +kernel
theorem dX11_altered_19 : decode cX11_altered 19 = .ok (.ireturn, 1) := by decide +kernel
theorem dX11_altered_20 : decode cX11_altered 20 = .ok (.iconst 0, 1) := by decide +kernel
theorem dX11_altered_21 : decode cX11_altered 21 = .ok (.istore_n 3, 1) := by decide +kernel
theorem dX11_altered_22 : decode cX11_altered 22 = .ok (.iconst 0, 1) := by decide +kernel
theorem dX11_altered_23 : decode cX11_altered 23 = .ok (.istore 4, 2) := by decide +kernel
theorem dX11_altered_25 : decode cX11_altered 25 = .ok (.iload 4, 2) := by decide +kernel
theorem dX11_altered_27 : decode cX11_altered 27 = .ok (.aload_n 0, 1) := by decide +kernel
theorem dX11_altered_28 : decode cX11_altered 28 = .ok (.getfield 310, 3) := by decide +kernel
theorem dX11_altered_31 : decode cX11_altered 31 = .ok (.if_icmp .ge 44, 3) := by decide +kernel
theorem dX11_altered_34 : decode cX11_altered 34 = .ok (.aload_n 0, 1) := by decide +kernel
theorem dX11_altered_35 : decode cX11_altered 35 = .ok (.iload_n 1, 1) := by decide +kernel
theorem dX11_altered_36 : decode cX11_altered 36 = .ok (.iload 4, 2) := by decide +kernel
theorem dX11_altered_38 : decode cX11_altered 38 = .ok (.invokevirtual 356, 3) := by decide +kernel
theorem dX11_altered_41 : decode cX11_altered 41 = .ok (.aload_n 0, 1) := by decide +kernel
theorem dX11_altered_42 : decode cX11_altered 42 = .ok (.iload_n 1, 1) := by decide +kernel
theorem dX11_altered_43 : decode cX11_altered 43 = .ok (.aload_n 0, 1) := by decide +kernel
theorem dX11_altered_44 : decode cX11_altered 44 = .ok (.iload 4, 2) := by decide +kernel
theorem dX11_altered_46 : decode cX11_altered 46 = .ok (.aload_n 0, 1) := by decide +kernel
theorem dX11_altered_47 : decode cX11_altered 47 = .ok (.getfield 122, 3) := by decide +kernel
theorem dX11_altered_50 : decode cX11_altered 50 = .ok (.iload 4, 2) := by decide +kernel
theorem dX11_altered_52 : decode cX11_altered 52 = .ok (.iaload, 1) := by decide +kernel
theorem dX11_altered_53 : decode cX11_altered 53 = .ok (.iload_n 2, 1) := by decide +kernel
theorem dX11_altered_54 : decode cX11_altered 54 = .ok (.invokestatic 340, 3) := by decide +kernel
theorem dX11_altered_57 : decode cX11_altered 57 = .ok (.invokevirtual 337, 3) := by decide +kernel
theorem dX11_altered_60 : decode cX11_altered 60 = .ok (.invokevirtual 350, 3) := by decide +kernel
theorem dX11_altered_63 : decode cX11_altered 63 = .ok (.if_icmp .eq 6, 3) := by decide +kernel
theorem dX11_altered_66 : decode cX11_altered 66 = .ok (.iinc 3 1, 3) := by decide +kernel
theorem dX11_altered_69 : decode cX11_altered 69 = .ok (.iinc 4 1, 3) := by decide +kernel
theorem dX11_altered_72 : decode cX11_altered 72 = .ok (.goto (-47), 3) := by decide +kernel
theorem dX11_altered_75 : decode cX11_altered 75 = .ok (.iload_n 3, 1) := by decide +kernel
theorem dX11_altered_76 : decode cX11_altered 76 = .ok (.ireturn, 1) := by decide +kernel
theorem dX11_trueOf_0 : decode cX11_trueOf 0 = .ok (.iconst 0, 1) := by decide +kernel
theorem dX11_trueOf_1 : decode cX11_trueOf 1 = .ok (.istore_n 2, 1) := by decide +kernel
theorem dX11_trueOf_2 : decode cX11_trueOf 2 = .ok (.iconst 0, 1) := by decide +kernel
theorem dX11_trueOf_3 : decode cX11_trueOf 3 = .ok (.istore_n 3, 1) := by decide +kernel
theorem dX11_trueOf_4 : decode cX11_trueOf 4 = .ok (.iload_n 3, 1) := by decide +kernel
theorem dX11_trueOf_5 : decode cX11_trueOf 5 = .ok (.aload_n 0, 1) := by decide +kernel
theorem dX11_trueOf_6 : decode cX11_trueOf 6 = .ok (.getfield 310, 3) := by decide +kernel
theorem dX11_trueOf_9 : decode cX11_trueOf 9 = .ok (.if_icmp .ge 21, 3) := by decide +kernel
theorem dX11_trueOf_12 : decode cX11_trueOf 12 = .ok (.aload_n 0, 1) := by decide +kernel
theorem dX11_trueOf_13 : decode cX11_trueOf 13 = .ok (.iload_n 1, 1) := by decide +kernel
theorem dX11_trueOf_14 : decode cX11_trueOf 14 = .ok (.iload_n 3, 1) := by decide +kernel
theorem dX11_trueOf_15 : decode cX11_trueOf 15 = .ok (.invokevirtual 346, 3) := by decide +kernel
theorem dX11_trueOf_18 : decode cX11_trueOf 18 = .ok (.ifCond .eq 6, 3) := by decide +kernel
theorem dX11_trueOf_21 : decode cX11_trueOf 21 = .ok (.iinc 2 1, 3) := by decide +kernel
theorem dX11_trueOf_24 : decode cX11_trueOf 24 = .ok (.iinc 3 1, 3) := by decide +kernel
theorem dX11_trueOf_27 : decode cX11_trueOf 27 = .ok (.goto (-23), 3) := by decide +kernel
theorem dX11_trueOf_30 : decode cX11_trueOf 30 = .ok (.iload_n 2, 1) := by decide +kernel
theorem dX11_trueOf_31 : decode cX11_trueOf 31 = .ok (.ireturn, 1) := by decide +kernel
theorem dX11_truly_0 : decode cX11_truly 0 = .ok (.aload_n 0, 1) := by decide +kernel
theorem dX11_truly_1 : decode cX11_truly 1 = .ok (.iload_n 1, 1) := by decide +kernel
theorem dX11_truly_2 : decode cX11_truly 2 = .ok (.invokevirtual 343, 3) := by decide +kernel
theorem dX11_truly_5 : decode cX11_truly 5 = .ok (.ifCond .eq 20, 3) := by decide +kernel
theorem dX11_truly_8 : decode cX11_truly 8 = .ok (.aload_n 0, 1) := by decide +kernel
theorem dX11_truly_9 : decode cX11_truly 9 = .ok (.iload_n 2, 1) := by decide +kernel
theorem dX11_truly_10 : decode cX11_truly 10 = .ok (.invokevirtual 353, 3) := by decide +kernel
theorem dX11_truly_13 : decode cX11_truly 13 = .ok (.ifCond .eq 12, 3) := by decide +kernel
theorem dX11_truly_16 : decode cX11_truly 16 = .ok (.iload_n 3, 1) := by decide +kernel
theorem dX11_truly_17 : decode cX11_truly 17 = .ok (.iconst 0, 1) := by decide +kernel
theorem dX11_truly_18 : decode cX11_truly 18 = .ok (.iconst 3, 1) := by decide +kernel
theorem dX11_truly_19 : decode cX11_truly 19 = .ok (.invokestatic 313, 3) := by decide +kernel
theorem dX11_truly_22 : decode cX11_truly 22 = .ok (.ifCond .ne 5, 3) := by decide +kernel
theorem dX11_truly_25 : decode cX11_truly 25 = .ok (.iconst (-1), 1) := by decide +kernel
theorem dX11_truly_26 : decode cX11_truly 26 = .ok (.ireturn, 1) := by decide +kernel
theorem dX11_truly_27 : decode cX11_truly 27 = .ok (.iload_n 3, 1) := by decide +kernel
theorem dX11_truly_28 : decode cX11_truly 28 = .ok (.ifCond .ne 9, 3) := by decide +kernel
theorem dX11_truly_31 : decode cX11_truly 31 = .ok (.aload_n 0, 1) := by decide +kernel
theorem dX11_truly_32 : decode cX11_truly 32 = .ok (.iload_n 1, 1) := by decide +kernel
theorem dX11_truly_33 : decode cX11_truly 33 = .ok (.invokevirtual 359, 3) := by decide +kernel
theorem dX11_truly_36 : decode cX11_truly 36 = .ok (.ireturn, 1) := by decide +kernel
theorem dX11_truly_37 : decode cX11_truly 37 = .ok (.iconst 0, 1) := by decide +kernel
theorem dX11_truly_38 : decode cX11_truly 38 = .ok (.istore 4, 2) := by decide +kernel
theorem dX11_truly_40 : decode cX11_truly 40 = .ok (.iconst 0, 1) := by decide +kernel
theorem dX11_truly_41 : decode cX11_truly 41 = .ok (.istore 5, 2) := by decide +kernel
theorem dX11_truly_43 : decode cX11_truly 43 = .ok (.iload 5, 2) := by decide +kernel
theorem dX11_truly_45 : decode cX11_truly 45 = .ok (.aload_n 0, 1) := by decide +kernel
theorem dX11_truly_46 : decode cX11_truly 46 = .ok (.getfield 310, 3) := by decide +kernel
theorem dX11_truly_49 : decode cX11_truly 49 = .ok (.if_icmp .ge 72, 3) := by decide +kernel
theorem dX11_truly_52 : decode cX11_truly 52 = .ok (.aload_n 0, 1) := by decide +kernel
theorem dX11_truly_53 : decode cX11_truly 53 = .ok (.iload_n 2, 1) := by decide +kernel
theorem dX11_truly_54 : decode cX11_truly 54 = .ok (.iload 5, 2) := by decide +kernel
theorem dX11_truly_56 : decode cX11_truly 56 = .ok (.invokevirtual 356, 3) := by decide +kernel
theorem dX11_truly_59 : decode cX11_truly 59 = .ok (.iload_n 1, 1) := by decide +kernel
theorem dX11_truly_60 : decode cX11_truly 60 = .ok (.ishr, 1) := by decide +kernel
theorem dX11_truly_61 : decode cX11_truly 61 = .ok (.iconst 1, 1) := by decide +kernel
theorem dX11_truly_62 : decode cX11_truly 62 = .ok (.iand, 1) := by decide +kernel
theorem dX11_truly_63 : decode cX11_truly 63 = .ok (.iconst 1, 1) := by decide +kernel
theorem dX11_truly_64 : decode cX11_truly 64 = .ok (.if_icmp .ne 7, 3) := by decide +kernel
theorem dX11_truly_67 : decode cX11_truly 67 = .ok (.iconst 1, 1) := by decide +kernel
theorem dX11_truly_68 : decode cX11_truly 68 = .ok (.goto 4, 3) := by decide +kernel
theorem dX11_truly_71 : decode cX11_truly 71 = .ok (.iconst 0, 1) := by decide +kernel
theorem dX11_truly_72 : decode cX11_truly 72 = .ok (.istore 6, 2) := by decide +kernel
theorem dX11_truly_74 : decode cX11_truly 74 = .ok (.iload_n 3, 1) := by decide +kernel
theorem dX11_truly_75 : decode cX11_truly 75 = .ok (.iconst 3, 1) := by decide +kernel
theorem dX11_truly_76 : decode cX11_truly 76 = .ok (.if_icmp .ne 11, 3) := by decide +kernel
theorem dX11_truly_79 : decode cX11_truly 79 = .ok (.iload 6, 2) := by decide +kernel
theorem dX11_truly_81 : decode cX11_truly 81 = .ok (.ifCond .eq 34, 3) := by decide +kernel
theorem dX11_truly_84 : decode cX11_truly 84 = .ok (.goto 28, 3) := by decide +kernel
theorem dX11_truly_87 : decode cX11_truly 87 = .ok (.iload 6, 2) := by decide +kernel
theorem dX11_truly_89 : decode cX11_truly 89 = .ok (.iload_n 3, 1) := by decide +kernel
theorem dX11_truly_90 : decode cX11_truly 90 = .ok (.iconst 1, 1) := by decide +kernel
theorem dX11_truly_91 : decode cX11_truly 91 = .ok (.if_icmp .ne 7, 3) := by decide +kernel
theorem dX11_truly_94 : decode cX11_truly 94 = .ok (.iconst 1, 1) := by decide +kernel
theorem dX11_truly_95 : decode cX11_truly 95 = .ok (.goto 4, 3) := by decide +kernel
theorem dX11_truly_98 : decode cX11_truly 98 = .ok (.iconst 0, 1) := by decide +kernel
theorem dX11_truly_99 : decode cX11_truly 99 = .ok (.if_icmp .ne 16, 3) := by decide +kernel
theorem dX11_truly_102 : decode cX11_truly 102 = .ok (.aload_n 0, 1) := by decide +kernel
theorem dX11_truly_103 : decode cX11_truly 103 = .ok (.iload_n 1, 1) := by decide +kernel
theorem dX11_truly_104 : decode cX11_truly 104 = .ok (.iload 5, 2) := by decide +kernel
theorem dX11_truly_106 : decode cX11_truly 106 = .ok (.invokevirtual 346, 3) := by decide +kernel
theorem dX11_truly_109 : decode cX11_truly 109 = .ok (.ifCond .eq 6, 3) := by decide +kernel
theorem dX11_truly_112 : decode cX11_truly 112 = .ok (.iinc 4 1, 3) := by decide +kernel
theorem dX11_truly_115 : decode cX11_truly 115 = .ok (.iinc 5 1, 3) := by decide +kernel
theorem dX11_truly_118 : decode cX11_truly 118 = .ok (.goto (-75), 3) := by decide +kernel
theorem dX11_truly_121 : decode cX11_truly 121 = .ok (.iload 4, 2) := by decide +kernel
theorem dX11_truly_123 : decode cX11_truly 123 = .ok (.ireturn, 1) := by decide +kernel
theorem dX11_left_0 : decode cX11_left 0 = .ok (.aload_n 0, 1) := by decide +kernel
theorem dX11_left_1 : decode cX11_left 1 = .ok (.iload_n 1, 1) := by decide +kernel
theorem dX11_left_2 : decode cX11_left 2 = .ok (.invokevirtual 353, 3) := by decide +kernel
theorem dX11_left_5 : decode cX11_left 5 = .ok (.ifCond .eq 21, 3) := by decide +kernel
theorem dX11_left_8 : decode cX11_left 8 = .ok (.aload_n 0, 1) := by decide +kernel
theorem dX11_left_9 : decode cX11_left 9 = .ok (.iload_n 2, 1) := by decide +kernel
theorem dX11_left_10 : decode cX11_left 10 = .ok (.invokevirtual 328, 3) := by decide +kernel
theorem dX11_left_13 : decode cX11_left 13 = .ok (.ifCond .eq 13, 3) := by decide +kernel
theorem dX11_left_16 : decode cX11_left 16 = .ok (.iload_n 3, 1) := by decide +kernel
theorem dX11_left_17 : decode cX11_left 17 = .ok (.iconst 0, 1) := by decide +kernel
theorem dX11_left_18 : decode cX11_left 18 = .ok (.bipush 20, 2) := by decide +kernel
theorem dX11_left_20 : decode cX11_left 20 = .ok (.invokestatic 313, 3) := by decide +kernel
theorem dX11_left_23 : decode cX11_left 23 = .ok (.ifCond .ne 5, 3) := by decide +kernel
theorem dX11_left_26 : decode cX11_left 26 = .ok (.iconst (-1), 1) := by decide +kernel
theorem dX11_left_27 : decode cX11_left 27 = .ok (.ireturn, 1) := by decide +kernel
theorem dX11_left_28 : decode cX11_left 28 = .ok (.aload_n 0, 1) := by decide +kernel
theorem dX11_left_29 : decode cX11_left 29 = .ok (.iload_n 1, 1) := by decide +kernel
theorem dX11_left_30 : decode cX11_left 30 = .ok (.iload_n 2, 1) := by decide +kernel
theorem dX11_left_31 : decode cX11_left 31 = .ok (.invokevirtual 356, 3) := by decide +kernel
theorem dX11_left_34 : decode cX11_left 34 = .ok (.istore 4, 2) := by decide +kernel
theorem dX11_left_36 : decode cX11_left 36 = .ok (.iconst 0, 1) := by decide +kernel
theorem dX11_left_37 : decode cX11_left 37 = .ok (.istore 5, 2) := by decide +kernel
theorem dX11_left_39 : decode cX11_left 39 = .ok (.iconst 0, 1) := by decide +kernel
theorem dX11_left_40 : decode cX11_left 40 = .ok (.istore 6, 2) := by decide +kernel
theorem dX11_left_42 : decode cX11_left 42 = .ok (.iload 6, 2) := by decide +kernel
theorem dX11_left_44 : decode cX11_left 44 = .ok (.aload_n 0, 1) := by decide +kernel
theorem dX11_left_45 : decode cX11_left 45 = .ok (.getfield 52, 3) := by decide +kernel
theorem dX11_left_48 : decode cX11_left 48 = .ok (.aload_n 0, 1) := by decide +kernel
theorem dX11_left_49 : decode cX11_left 49 = .ok (.getfield 230, 3) := by decide +kernel
theorem dX11_left_52 : decode cX11_left 52 = .ok (.iaload, 1) := by decide +kernel
theorem dX11_left_53 : decode cX11_left 53 = .ok (.if_icmp .ge 43, 3) := by decide +kernel
theorem dX11_left_56 : decode cX11_left 56 = .ok (.iload 4, 2) := by decide +kernel
theorem dX11_left_58 : decode cX11_left 58 = .ok (.iload 6, 2) := by decide +kernel
theorem dX11_left_60 : decode cX11_left 60 = .ok (.ishr, 1) := by decide +kernel
theorem dX11_left_61 : decode cX11_left 61 = .ok (.iconst 1, 1) := by decide +kernel
theorem dX11_left_62 : decode cX11_left 62 = .ok (.iand, 1) := by decide +kernel
theorem dX11_left_63 : decode cX11_left 63 = .ok (.iconst 1, 1) := by decide +kernel
theorem dX11_left_64 : decode cX11_left 64 = .ok (.if_icmp .ne 26, 3) := by decide +kernel
theorem dX11_left_67 : decode cX11_left 67 = .ok (.aload_n 0, 1) := by decide +kernel
theorem dX11_left_68 : decode cX11_left 68 = .ok (.iload 6, 2) := by decide +kernel
theorem dX11_left_70 : decode cX11_left 70 = .ok (.iload_n 2, 1) := by decide +kernel
theorem dX11_left_71 : decode cX11_left 71 = .ok (.invokevirtual 346, 3) := by decide +kernel
theorem dX11_left_74 : decode cX11_left 74 = .ok (.ifCond .eq 16, 3) := by decide +kernel
theorem dX11_left_77 : decode cX11_left 77 = .ok (.aload_n 0, 1) := by decide +kernel
theorem dX11_left_78 : decode cX11_left 78 = .ok (.iload 6, 2) := by decide +kernel
theorem dX11_left_80 : decode cX11_left 80 = .ok (.invokevirtual 359, 3) := by decide +kernel
theorem dX11_left_83 : decode cX11_left 83 = .ok (.iload_n 3, 1) := by decide +kernel
theorem dX11_left_84 : decode cX11_left 84 = .ok (.if_icmp .gt 6, 3) := by decide +kernel
theorem dX11_left_87 : decode cX11_left 87 = .ok (.iinc 5 1, 3) := by decide +kernel
theorem dX11_left_90 : decode cX11_left 90 = .ok (.iinc 6 1, 3) := by decide +kernel
theorem dX11_left_93 : decode cX11_left 93 = .ok (.goto (-51), 3) := by decide +kernel
theorem dX11_left_96 : decode cX11_left 96 = .ok (.iload 5, 2) := by decide +kernel
theorem dX11_left_98 : decode cX11_left 98 = .ok (.ireturn, 1) := by decide +kernel
theorem dX11_fitOf_0 : decode cX11_fitOf 0 = .ok (.iconst 0, 1) := by decide +kernel
theorem dX11_fitOf_1 : decode cX11_fitOf 1 = .ok (.istore 5, 2) := by decide +kernel
theorem dX11_fitOf_3 : decode cX11_fitOf 3 = .ok (.iload 5, 2) := by decide +kernel
theorem dX11_fitOf_5 : decode cX11_fitOf 5 = .ok (.aload_n 0, 1) := by decide +kernel
theorem dX11_fitOf_6 : decode cX11_fitOf 6 = .ok (.getfield 52, 3) := by decide +kernel
theorem dX11_fitOf_9 : decode cX11_fitOf 9 = .ok (.aload_n 0, 1) := by decide +kernel
theorem dX11_fitOf_10 : decode cX11_fitOf 10 = .ok (.getfield 230, 3) := by decide +kernel
theorem dX11_fitOf_13 : decode cX11_fitOf 13 = .ok (.iaload, 1) := by decide +kernel
theorem dX11_fitOf_14 : decode cX11_fitOf 14 = .ok (.if_icmp .ge 41, 3) := by decide +kernel
theorem dX11_fitOf_17 : decode cX11_fitOf 17 = .ok (.aload_n 0, 1) := by decide +kernel
theorem dX11_fitOf_18 : decode cX11_fitOf 18 = .ok (.getfield 137, 3) := by decide +kernel
theorem dX11_fitOf_21 : decode cX11_fitOf 21 = .ok (.iload 5, 2) := by decide +kernel
theorem dX11_fitOf_23 : decode cX11_fitOf 23 = .ok (.iload_n 3, 1) := by decide +kernel
theorem dX11_fitOf_24 : decode cX11_fitOf 24 = .ok (.iload 5, 2) := by decide +kernel
theorem dX11_fitOf_26 : decode cX11_fitOf 26 = .ok (.ishr, 1) := by decide +kernel
theorem dX11_fitOf_27 : decode cX11_fitOf 27 = .ok (.iconst 1, 1) := by decide +kernel
theorem dX11_fitOf_28 : decode cX11_fitOf 28 = .ok (.iand, 1) := by decide +kernel
theorem dX11_fitOf_29 : decode cX11_fitOf 29 = .ok (.iconst 1, 1) := by decide +kernel
theorem dX11_fitOf_30 : decode cX11_fitOf 30 = .ok (.if_icmp .ne 17, 3) := by decide +kernel
theorem dX11_fitOf_33 : decode cX11_fitOf 33 = .ok (.aload_n 0, 1) := by decide +kernel
theorem dX11_fitOf_34 : decode cX11_fitOf 34 = .ok (.iload 5, 2) := by decide +kernel
theorem dX11_fitOf_36 : decode cX11_fitOf 36 = .ok (.iload_n 2, 1) := by decide +kernel
theorem dX11_fitOf_37 : decode cX11_fitOf 37 = .ok (.invokevirtual 346, 3) := by decide +kernel
theorem dX11_fitOf_40 : decode cX11_fitOf 40 = .ok (.ifCond .eq 7, 3) := by decide +kernel
theorem dX11_fitOf_43 : decode cX11_fitOf 43 = .ok (.iconst 1, 1) := by decide +kernel
theorem dX11_fitOf_44 : decode cX11_fitOf 44 = .ok (.goto 4, 3) := by decide +kernel
theorem dX11_fitOf_47 : decode cX11_fitOf 47 = .ok (.iconst 0, 1) := by decide +kernel
theorem dX11_fitOf_48 : decode cX11_fitOf 48 = .ok (.bastore, 1) := by decide +kernel
theorem dX11_fitOf_49 : decode cX11_fitOf 49 = .ok (.iinc 5 1, 3) := by decide +kernel
theorem dX11_fitOf_52 : decode cX11_fitOf 52 = .ok (.goto (-49), 3) := by decide +kernel
theorem dX11_fitOf_55 : decode cX11_fitOf 55 = .ok (.aload_n 0, 1) := by decide +kernel
theorem dX11_fitOf_56 : decode cX11_fitOf 56 = .ok (.iload_n 2, 1) := by decide +kernel
theorem dX11_fitOf_57 : decode cX11_fitOf 57 = .ok (.aload_n 0, 1) := by decide +kernel
theorem dX11_fitOf_58 : decode cX11_fitOf 58 = .ok (.getfield 122, 3) := by decide +kernel
theorem dX11_fitOf_61 : decode cX11_fitOf 61 = .ok (.iload_n 2, 1) := by decide +kernel
theorem dX11_fitOf_62 : decode cX11_fitOf 62 = .ok (.iaload, 1) := by decide +kernel
theorem dX11_fitOf_63 : decode cX11_fitOf 63 = .ok (.invokevirtual 331, 3) := by decide +kernel
theorem dX11_fitOf_66 : decode cX11_fitOf 66 = .ok (.iconst 0, 1) := by decide +kernel
theorem dX11_fitOf_67 : decode cX11_fitOf 67 = .ok (.istore 5, 2) := by decide +kernel
theorem dX11_fitOf_69 : decode cX11_fitOf 69 = .ok (.iload 5, 2) := by decide +kernel
theorem dX11_fitOf_71 : decode cX11_fitOf 71 = .ok (.aload_n 0, 1) := by decide +kernel
theorem dX11_fitOf_72 : decode cX11_fitOf 72 = .ok (.getfield 52, 3) := by decide +kernel
theorem dX11_fitOf_75 : decode cX11_fitOf 75 = .ok (.aload_n 0, 1) := by decide +kernel
theorem dX11_fitOf_76 : decode cX11_fitOf 76 = .ok (.getfield 230, 3) := by decide +kernel
theorem dX11_fitOf_79 : decode cX11_fitOf 79 = .ok (.iaload, 1) := by decide +kernel
theorem dX11_fitOf_80 : decode cX11_fitOf 80 = .ok (.if_icmp .ge 98, 3) := by decide +kernel
theorem dX11_fitOf_83 : decode cX11_fitOf 83 = .ok (.aload_n 0, 1) := by decide +kernel
theorem dX11_fitOf_84 : decode cX11_fitOf 84 = .ok (.getfield 61, 3) := by decide +kernel
theorem dX11_fitOf_87 : decode cX11_fitOf 87 = .ok (.bipush 16, 2) := by decide +kernel
theorem dX11_fitOf_89 : decode cX11_fitOf 89 = .ok (.aload_n 0, 1) := by decide +kernel
theorem dX11_fitOf_90 : decode cX11_fitOf 90 = .ok (.getfield 230, 3) := by decide +kernel
theorem dX11_fitOf_93 : decode cX11_fitOf 93 = .ok (.imul, 1) := by decide +kernel
theorem dX11_fitOf_94 : decode cX11_fitOf 94 = .ok (.iload 5, 2) := by decide +kernel
theorem dX11_fitOf_96 : decode cX11_fitOf 96 = .ok (.iadd, 1) := by decide +kernel
theorem dX11_fitOf_97 : decode cX11_fitOf 97 = .ok (.iaload, 1) := by decide +kernel
theorem dX11_fitOf_98 : decode cX11_fitOf 98 = .ok (.istore 6, 2) := by decide +kernel
theorem dX11_fitOf_100 : decode cX11_fitOf 100 = .ok (.iload_n 3, 1) := by decide +kernel
theorem dX11_fitOf_101 : decode cX11_fitOf 101 = .ok (.iload 5, 2) := by decide +kernel
theorem dX11_fitOf_103 : decode cX11_fitOf 103 = .ok (.ishr, 1) := by decide +kernel
theorem dX11_fitOf_104 : decode cX11_fitOf 104 = .ok (.iconst 1, 1) := by decide +kernel
theorem dX11_fitOf_105 : decode cX11_fitOf 105 = .ok (.iand, 1) := by decide +kernel
theorem dX11_fitOf_106 : decode cX11_fitOf 106 = .ok (.ifCond .eq 66, 3) := by decide +kernel
theorem dX11_fitOf_109 : decode cX11_fitOf 109 = .ok (.iload 4, 2) := by decide +kernel
theorem dX11_fitOf_111 : decode cX11_fitOf 111 = .ok (.iload 6, 2) := by decide +kernel
theorem dX11_fitOf_113 : decode cX11_fitOf 113 = .ok (.ishr, 1) := by decide +kernel
theorem dX11_fitOf_114 : decode cX11_fitOf 114 = .ok (.iconst 1, 1) := by decide +kernel
theorem dX11_fitOf_115 : decode cX11_fitOf 115 = .ok (.iand, 1) := by decide +kernel
theorem dX11_fitOf_116 : decode cX11_fitOf 116 = .ok (.iconst 1, 1) := by decide +kernel
theorem dX11_fitOf_117 : decode cX11_fitOf 117 = .ok (.if_icmp .ne 6, 3) := by decide +kernel
theorem dX11_fitOf_120 : decode cX11_fitOf 120 = .ok (.goto 52, 3) := by decide +kernel
theorem dX11_fitOf_123 : decode cX11_fitOf 123 = .ok (.aload_n 0, 1) := by decide +kernel
theorem dX11_fitOf_124 : decode cX11_fitOf 124 = .ok (.getfield 137, 3) := by decide +kernel
theorem dX11_fitOf_127 : decode cX11_fitOf 127 = .ok (.iload 5, 2) := by decide +kernel
theorem dX11_fitOf_129 : decode cX11_fitOf 129 = .ok (.baload, 1) := by decide +kernel
theorem dX11_fitOf_130 : decode cX11_fitOf 130 = .ok (.ifCond .eq 31, 3) := by decide +kernel
theorem dX11_fitOf_133 : decode cX11_fitOf 133 = .ok (.aload_n 0, 1) := by decide +kernel
theorem dX11_fitOf_134 : decode cX11_fitOf 134 = .ok (.getfield 116, 3) := by decide +kernel
theorem dX11_fitOf_137 : decode cX11_fitOf 137 = .ok (.bipush 12, 2) := by decide +kernel
theorem dX11_fitOf_139 : decode cX11_fitOf 139 = .ok (.dup2, 1) := by decide +kernel
theorem dX11_fitOf_140 : decode cX11_fitOf 140 = .ok (.iaload, 1) := by decide +kernel
theorem dX11_fitOf_141 : decode cX11_fitOf 141 = .ok (.iconst 1, 1) := by decide +kernel
theorem dX11_fitOf_142 : decode cX11_fitOf 142 = .ok (.iadd, 1) := by decide +kernel
theorem dX11_fitOf_143 : decode cX11_fitOf 143 = .ok (.iastore, 1) := by decide +kernel
theorem dX11_fitOf_144 : decode cX11_fitOf 144 = .ok (.aload_n 0, 1) := by decide +kernel
theorem dX11_fitOf_145 : decode cX11_fitOf 145 = .ok (.getfield 116, 3) := by decide +kernel
theorem dX11_fitOf_148 : decode cX11_fitOf 148 = .ok (.bipush 14, 2) := by decide +kernel
theorem dX11_fitOf_150 : decode cX11_fitOf 150 = .ok (.iload 6, 2) := by decide +kernel
theorem dX11_fitOf_152 : decode cX11_fitOf 152 = .ok (.iadd, 1) := by decide +kernel
theorem dX11_fitOf_153 : decode cX11_fitOf 153 = .ok (.dup2, 1) := by decide +kernel
theorem dX11_fitOf_154 : decode cX11_fitOf 154 = .ok (.iaload, 1) := by decide +kernel
theorem dX11_fitOf_155 : decode cX11_fitOf 155 = .ok (.iconst 1, 1) := by decide +kernel
theorem dX11_fitOf_156 : decode cX11_fitOf 156 = .ok (.iadd, 1) := by decide +kernel
theorem dX11_fitOf_157 : decode cX11_fitOf 157 = .ok (.iastore, 1) := by decide +kernel
theorem dX11_fitOf_158 : decode cX11_fitOf 158 = .ok (.goto 14, 3) := by decide +kernel
theorem dX11_fitOf_161 : decode cX11_fitOf 161 = .ok (.aload_n 0, 1) := by decide +kernel
theorem dX11_fitOf_162 : decode cX11_fitOf 162 = .ok (.getfield 116, 3) := by decide +kernel
theorem dX11_fitOf_165 : decode cX11_fitOf 165 = .ok (.bipush 13, 2) := by decide +kernel
theorem dX11_fitOf_167 : decode cX11_fitOf 167 = .ok (.dup2, 1) := by decide +kernel
theorem dX11_fitOf_168 : decode cX11_fitOf 168 = .ok (.iaload, 1) := by decide +kernel
theorem dX11_fitOf_169 : decode cX11_fitOf 169 = .ok (.iconst 1, 1) := by decide +kernel
theorem dX11_fitOf_170 : decode cX11_fitOf 170 = .ok (.iadd, 1) := by decide +kernel
theorem dX11_fitOf_171 : decode cX11_fitOf 171 = .ok (.iastore, 1) := by decide +kernel
theorem dX11_fitOf_172 : decode cX11_fitOf 172 = .ok (.iinc 5 1, 3) := by decide +kernel
theorem dX11_fitOf_175 : decode cX11_fitOf 175 = .ok (.goto (-106), 3) := by decide +kernel
theorem dX11_fitOf_178 : decode cX11_fitOf 178 = .ok (.bipush 26, 2) := by decide +kernel
theorem dX11_fitOf_180 : decode cX11_fitOf 180 = .ok (.aload_n 0, 1) := by decide +kernel
theorem dX11_fitOf_181 : decode cX11_fitOf 181 = .ok (.getfield 230, 3) := by decide +kernel
theorem dX11_fitOf_184 : decode cX11_fitOf 184 = .ok (.imul, 1) := by decide +kernel
theorem dX11_fitOf_185 : decode cX11_fitOf 185 = .ok (.bipush 22, 2) := by decide +kernel
theorem dX11_fitOf_187 : decode cX11_fitOf 187 = .ok (.iadd, 1) := by decide +kernel
theorem dX11_fitOf_188 : decode cX11_fitOf 188 = .ok (.iload_n 1, 1) := by decide +kernel
theorem dX11_fitOf_189 : decode cX11_fitOf 189 = .ok (.iadd, 1) := by decide +kernel
theorem dX11_fitOf_190 : decode cX11_fitOf 190 = .ok (.istore 5, 2) := by decide +kernel
theorem dX11_fitOf_192 : decode cX11_fitOf 192 = .ok (.aload_n 0, 1) := by decide +kernel
theorem dX11_fitOf_193 : decode cX11_fitOf 193 = .ok (.aload_n 0, 1) := by decide +kernel
theorem dX11_fitOf_194 : decode cX11_fitOf 194 = .ok (.getfield 82, 3) := by decide +kernel
theorem dX11_fitOf_197 : decode cX11_fitOf 197 = .ok (.iload 5, 2) := by decide +kernel
theorem dX11_fitOf_199 : decode cX11_fitOf 199 = .ok (.iaload, 1) := by decide +kernel
theorem dX11_fitOf_200 : decode cX11_fitOf 200 = .ok (.aload_n 0, 1) := by decide +kernel
theorem dX11_fitOf_201 : decode cX11_fitOf 201 = .ok (.getfield 85, 3) := by decide +kernel
theorem dX11_fitOf_204 : decode cX11_fitOf 204 = .ok (.iload 5, 2) := by decide +kernel
theorem dX11_fitOf_206 : decode cX11_fitOf 206 = .ok (.iaload, 1) := by decide +kernel
theorem dX11_fitOf_207 : decode cX11_fitOf 207 = .ok (.invokevirtual 303, 3) := by decide +kernel
theorem dX11_fitOf_210 : decode cX11_fitOf 210 = .ok (.ireturn, 1) := by decide +kernel
theorem dX11_fit_0 : decode cX11_fit 0 = .ok (.aload_n 0, 1) := by decide +kernel
theorem dX11_fit_1 : decode cX11_fit 1 = .ok (.iload_n 1, 1) := by decide +kernel
theorem dX11_fit_2 : decode cX11_fit 2 = .ok (.invokevirtual 362, 3) := by decide +kernel
theorem dX11_fit_5 : decode cX11_fit 5 = .ok (.ifCond .eq 39, 3) := by decide +kernel
theorem dX11_fit_8 : decode cX11_fit 8 = .ok (.aload_n 0, 1) := by decide +kernel
theorem dX11_fit_9 : decode cX11_fit 9 = .ok (.iload_n 2, 1) := by decide +kernel
theorem dX11_fit_10 : decode cX11_fit 10 = .ok (.invokevirtual 353, 3) := by decide +kernel
theorem dX11_fit_13 : decode cX11_fit 13 = .ok (.ifCond .eq 31, 3) := by decide +kernel
theorem dX11_fit_16 : decode cX11_fit 16 = .ok (.aload_n 0, 1) := by decide +kernel
theorem dX11_fit_17 : decode cX11_fit 17 = .ok (.iload_n 3, 1) := by decide +kernel
theorem dX11_fit_18 : decode cX11_fit 18 = .ok (.invokevirtual 328, 3) := by decide +kernel
theorem dX11_fit_21 : decode cX11_fit 21 = .ok (.ifCond .eq 23, 3) := by decide +kernel
theorem dX11_fit_24 : decode cX11_fit 24 = .ok (.aload_n 0, 1) := by decide +kernel
theorem dX11_fit_25 : decode cX11_fit 25 = .ok (.iload 4, 2) := by decide +kernel
theorem dX11_fit_27 : decode cX11_fit 27 = .ok (.invokevirtual 328, 3) := by decide +kernel
theorem dX11_fit_30 : decode cX11_fit 30 = .ok (.ifCond .eq 14, 3) := by decide +kernel
theorem dX11_fit_33 : decode cX11_fit 33 = .ok (.iload 5, 2) := by decide +kernel
theorem dX11_fit_35 : decode cX11_fit 35 = .ok (.iconst 0, 1) := by decide +kernel
theorem dX11_fit_36 : decode cX11_fit 36 = .ok (.bipush 127, 2) := by decide +kernel
theorem dX11_fit_38 : decode cX11_fit 38 = .ok (.invokestatic 313, 3) := by decide +kernel
theorem dX11_fit_41 : decode cX11_fit 41 = .ok (.ifCond .ne 7, 3) := by decide +kernel
theorem dX11_fit_44 : decode cX11_fit 44 = .ok (.ldc_w 365, 3) := by decide +kernel
theorem dX11_fit_47 : decode cX11_fit 47 = .ok (.ireturn, 1) := by decide +kernel
theorem dX11_fit_48 : decode cX11_fit 48 = .ok (.aload_n 0, 1) := by decide +kernel
theorem dX11_fit_49 : decode cX11_fit 49 = .ok (.iload_n 1, 1) := by decide +kernel
theorem dX11_fit_50 : decode cX11_fit 50 = .ok (.iload_n 3, 1) := by decide +kernel
theorem dX11_fit_51 : decode cX11_fit 51 = .ok (.aload_n 0, 1) := by decide +kernel
theorem dX11_fit_52 : decode cX11_fit 52 = .ok (.iload_n 2, 1) := by decide +kernel
theorem dX11_fit_53 : decode cX11_fit 53 = .ok (.iload 4, 2) := by decide +kernel
theorem dX11_fit_55 : decode cX11_fit 55 = .ok (.invokevirtual 356, 3) := by decide +kernel
theorem dX11_fit_58 : decode cX11_fit 58 = .ok (.iload 5, 2) := by decide +kernel
theorem dX11_fit_60 : decode cX11_fit 60 = .ok (.invokevirtual 366, 3) := by decide +kernel
theorem dX11_fit_63 : decode cX11_fit 63 = .ok (.ireturn, 1) := by decide +kernel
theorem dX11_sixths_0 : decode cX11_sixths 0 = .ok (.aload_n 0, 1) := by decide +kernel
theorem dX11_sixths_1 : decode cX11_sixths 1 = .ok (.iload_n 1, 1) := by decide +kernel
theorem dX11_sixths_2 : decode cX11_sixths 2 = .ok (.iload_n 3, 1) := by decide +kernel
theorem dX11_sixths_3 : decode cX11_sixths 3 = .ok (.aload_n 0, 1) := by decide +kernel
theorem dX11_sixths_4 : decode cX11_sixths 4 = .ok (.iload_n 2, 1) := by decide +kernel
theorem dX11_sixths_5 : decode cX11_sixths 5 = .ok (.iload_n 3, 1) := by decide +kernel
theorem dX11_sixths_6 : decode cX11_sixths 6 = .ok (.invokevirtual 356, 3) := by decide +kernel
theorem dX11_sixths_9 : decode cX11_sixths 9 = .ok (.iconst 0, 1) := by decide +kernel
theorem dX11_sixths_10 : decode cX11_sixths 10 = .ok (.invokevirtual 366, 3) := by decide +kernel
theorem dX11_sixths_13 : decode cX11_sixths 13 = .ok (.istore 6, 2) := by decide +kernel
theorem dX11_sixths_15 : decode cX11_sixths 15 = .ok (.aload_n 0, 1) := by decide +kernel
theorem dX11_sixths_16 : decode cX11_sixths 16 = .ok (.iload_n 1, 1) := by decide +kernel
theorem dX11_sixths_17 : decode cX11_sixths 17 = .ok (.iload_n 3, 1) := by decide +kernel
theorem dX11_sixths_18 : decode cX11_sixths 18 = .ok (.aload_n 0, 1) := by decide +kernel
theorem dX11_sixths_19 : decode cX11_sixths 19 = .ok (.iload_n 2, 1) := by decide +kernel
theorem dX11_sixths_20 : decode cX11_sixths 20 = .ok (.iload 4, 2) := by decide +kernel
theorem dX11_sixths_22 : decode cX11_sixths 22 = .ok (.invokevirtual 356, 3) := by decide +kernel
theorem dX11_sixths_25 : decode cX11_sixths 25 = .ok (.iconst 0, 1) := by decide +kernel
theorem dX11_sixths_26 : decode cX11_sixths 26 = .ok (.invokevirtual 366, 3) := by decide +kernel
theorem dX11_sixths_29 : decode cX11_sixths 29 = .ok (.istore 7, 2) := by decide +kernel
theorem dX11_sixths_31 : decode cX11_sixths 31 = .ok (.aload_n 0, 1) := by decide +kernel
theorem dX11_sixths_32 : decode cX11_sixths 32 = .ok (.iload_n 1, 1) := by decide +kernel
theorem dX11_sixths_33 : decode cX11_sixths 33 = .ok (.iload_n 3, 1) := by decide +kernel
theorem dX11_sixths_34 : decode cX11_sixths 34 = .ok (.aload_n 0, 1) := by decide +kernel
theorem dX11_sixths_35 : decode cX11_sixths 35 = .ok (.iload_n 2, 1) := by decide +kernel
theorem dX11_sixths_36 : decode cX11_sixths 36 = .ok (.iload 5, 2) := by decide +kernel
theorem dX11_sixths_38 : decode cX11_sixths 38 = .ok (.invokevirtual 356, 3) := by decide +kernel
theorem dX11_sixths_41 : decode cX11_sixths 41 = .ok (.iconst 0, 1) := by decide +kernel
theorem dX11_sixths_42 : decode cX11_sixths 42 = .ok (.invokevirtual 366, 3) := by decide +kernel
theorem dX11_sixths_45 : decode cX11_sixths 45 = .ok (.istore 8, 2) := by decide +kernel
theorem dX11_sixths_47 : decode cX11_sixths 47 = .ok (.iload 7, 2) := by decide +kernel
theorem dX11_sixths_49 : decode cX11_sixths 49 = .ok (.iload 6, 2) := by decide +kernel
theorem dX11_sixths_51 : decode cX11_sixths 51 = .ok (.if_icmp .gt 10, 3) := by decide +kernel
theorem dX11_sixths_54 : decode cX11_sixths 54 = .ok (.iload 8, 2) := by decide +kernel
theorem dX11_sixths_56 : decode cX11_sixths 56 = .ok (.iload 6, 2) := by decide +kernel
theorem dX11_sixths_58 : decode cX11_sixths 58 = .ok (.if_icmp .le 5, 3) := by decide +kernel
theorem dX11_sixths_61 : decode cX11_sixths 61 = .ok (.iconst 0, 1) := by decide +kernel
theorem dX11_sixths_62 : decode cX11_sixths 62 = .ok (.ireturn, 1) := by decide +kernel
theorem dX11_sixths_63 : decode cX11_sixths 63 = .ok (.iload 7, 2) := by decide +kernel
theorem dX11_sixths_65 : decode cX11_sixths 65 = .ok (.iload 6, 2) := by decide +kernel
theorem dX11_sixths_67 : decode cX11_sixths 67 = .ok (.if_icmp .ne 18, 3) := by decide +kernel
theorem dX11_sixths_70 : decode cX11_sixths 70 = .ok (.iload 8, 2) := by decide +kernel
theorem dX11_sixths_72 : decode cX11_sixths 72 = .ok (.iload 6, 2) := by decide +kernel
theorem dX11_sixths_74 : decode cX11_sixths 74 = .ok (.if_icmp .ne 7, 3) := by decide +kernel
theorem dX11_sixths_77 : decode cX11_sixths 77 = .ok (.iconst 2, 1) := by decide +kernel
theorem dX11_sixths_78 : decode cX11_sixths 78 = .ok (.goto 20, 3) := by decide +kernel
theorem dX11_sixths_81 : decode cX11_sixths 81 = .ok (.iconst 3, 1) := by decide +kernel
theorem dX11_sixths_82 : decode cX11_sixths 82 = .ok (.goto 16, 3) := by decide +kernel
theorem dX11_sixths_85 : decode cX11_sixths 85 = .ok (.iload 8, 2) := by decide +kernel
theorem dX11_sixths_87 : decode cX11_sixths 87 = .ok (.iload 6, 2) := by decide +kernel
theorem dX11_sixths_89 : decode cX11_sixths 89 = .ok (.if_icmp .ne 7, 3) := by decide +kernel
theorem dX11_sixths_92 : decode cX11_sixths 92 = .ok (.iconst 3, 1) := by decide +kernel
theorem dX11_sixths_93 : decode cX11_sixths 93 = .ok (.goto 5, 3) := by decide +kernel
theorem dX11_sixths_96 : decode cX11_sixths 96 = .ok (.bipush 6, 2) := by decide +kernel
theorem dX11_sixths_98 : decode cX11_sixths 98 = .ok (.ireturn, 1) := by decide +kernel
theorem dX11_choose_0 : decode cX11_choose 0 = .ok (.aload_n 0, 1) := by decide +kernel
theorem dX11_choose_1 : decode cX11_choose 1 = .ok (.iload_n 1, 1) := by decide +kernel
theorem dX11_choose_2 : decode cX11_choose 2 = .ok (.invokevirtual 362, 3) := by decide +kernel
theorem dX11_choose_5 : decode cX11_choose 5 = .ok (.ifCond .eq 56, 3) := by decide +kernel
theorem dX11_choose_8 : decode cX11_choose 8 = .ok (.aload_n 0, 1) := by decide +kernel
theorem dX11_choose_9 : decode cX11_choose 9 = .ok (.iload_n 2, 1) := by decide +kernel
theorem dX11_choose_10 : decode cX11_choose 10 = .ok (.invokevirtual 353, 3) := by decide +kernel
theorem dX11_choose_13 : decode cX11_choose 13 = .ok (.ifCond .eq 48, 3) := by decide +kernel
theorem dX11_choose_16 : decode cX11_choose 16 = .ok (.aload_n 0, 1) := by decide +kernel
theorem dX11_choose_17 : decode cX11_choose 17 = .ok (.iload_n 3, 1) := by decide +kernel
theorem dX11_choose_18 : decode cX11_choose 18 = .ok (.invokevirtual 328, 3) := by decide +kernel
theorem dX11_choose_21 : decode cX11_choose 21 = .ok (.ifCond .eq 40, 3) := by decide +kernel
theorem dX11_choose_24 : decode cX11_choose 24 = .ok (.aload_n 0, 1) := by decide +kernel
theorem dX11_choose_25 : decode cX11_choose 25 = .ok (.iload 4, 2) := by decide +kernel
theorem dX11_choose_27 : decode cX11_choose 27 = .ok (.invokevirtual 328, 3) := by decide +kernel
theorem dX11_choose_30 : decode cX11_choose 30 = .ok (.ifCond .eq 31, 3) := by decide +kernel
theorem dX11_choose_33 : decode cX11_choose 33 = .ok (.aload_n 0, 1) := by decide +kernel
theorem dX11_choose_34 : decode cX11_choose 34 = .ok (.iload 5, 2) := by decide +kernel
theorem dX11_choose_36 : decode cX11_choose 36 = .ok (.invokevirtual 328, 3) := by decide +kernel
theorem dX11_choose_39 : decode cX11_choose 39 = .ok (.ifCond .eq 22, 3) := by decide +kernel
theorem dX11_choose_42 : decode cX11_choose 42 = .ok (.iload_n 3, 1) := by decide +kernel
theorem dX11_choose_43 : decode cX11_choose 43 = .ok (.iload 4, 2) := by decide +kernel
theorem dX11_choose_45 : decode cX11_choose 45 = .ok (.if_icmp .eq 16, 3) := by decide +kernel
theorem dX11_choose_48 : decode cX11_choose 48 = .ok (.iload_n 3, 1) := by decide +kernel
theorem dX11_choose_49 : decode cX11_choose 49 = .ok (.iload 5, 2) := by decide +kernel
theorem dX11_choose_51 : decode cX11_choose 51 = .ok (.if_icmp .eq 10, 3) := by decide +kernel
theorem dX11_choose_54 : decode cX11_choose 54 = .ok (.iload 4, 2) := by decide +kernel
theorem dX11_choose_56 : decode cX11_choose 56 = .ok (.iload 5, 2) := by decide +kernel
theorem dX11_choose_58 : decode cX11_choose 58 = .ok (.if_icmp .ne 7, 3) := by decide +kernel
theorem dX11_choose_61 : decode cX11_choose 61 = .ok (.iconst (-1), 1) := by decide +kernel
theorem dX11_choose_62 : decode cX11_choose 62 = .ok (.goto 14, 3) := by decide +kernel
theorem dX11_choose_65 : decode cX11_choose 65 = .ok (.aload_n 0, 1) := by decide +kernel
theorem dX11_choose_66 : decode cX11_choose 66 = .ok (.iload_n 1, 1) := by decide +kernel
theorem dX11_choose_67 : decode cX11_choose 67 = .ok (.iload_n 2, 1) := by decide +kernel
theorem dX11_choose_68 : decode cX11_choose 68 = .ok (.iload_n 3, 1) := by decide +kernel
theorem dX11_choose_69 : decode cX11_choose 69 = .ok (.iload 4, 2) := by decide +kernel
theorem dX11_choose_71 : decode cX11_choose 71 = .ok (.iload 5, 2) := by decide +kernel
theorem dX11_choose_73 : decode cX11_choose 73 = .ok (.invokevirtual 370, 3) := by decide +kernel
theorem dX11_choose_76 : decode cX11_choose 76 = .ok (.ireturn, 1) := by decide +kernel
theorem dX11_other_0 : decode cX11_other 0 = .ok (.iload_n 1, 1) := by decide +kernel
theorem dX11_other_1 : decode cX11_other 1 = .ok (.istore 4, 2) := by decide +kernel
theorem dX11_other_3 : decode cX11_other 3 = .ok (.iconst 0, 1) := by decide +kernel
theorem dX11_other_4 : decode cX11_other 4 = .ok (.istore 5, 2) := by decide +kernel
theorem dX11_other_6 : decode cX11_other 6 = .ok (.iload 5, 2) := by decide +kernel
theorem dX11_other_8 : decode cX11_other 8 = .ok (.aload_n 0, 1) := by decide +kernel
theorem dX11_other_9 : decode cX11_other 9 = .ok (.getfield 310, 3) := by decide +kernel
theorem dX11_other_12 : decode cX11_other 12 = .ok (.if_icmp .ge 35, 3) := by decide +kernel
theorem dX11_other_15 : decode cX11_other 15 = .ok (.iload 5, 2) := by decide +kernel
theorem dX11_other_17 : decode cX11_other 17 = .ok (.iload_n 2, 1) := by decide +kernel
theorem dX11_other_18 : decode cX11_other 18 = .ok (.if_icmp .eq 23, 3) := by decide +kernel
theorem dX11_other_21 : decode cX11_other 21 = .ok (.iload 5, 2) := by decide +kernel
theorem dX11_other_23 : decode cX11_other 23 = .ok (.iload_n 3, 1) := by decide +kernel
theorem dX11_other_24 : decode cX11_other 24 = .ok (.if_icmp .ne 6, 3) := by decide +kernel
theorem dX11_other_27 : decode cX11_other 27 = .ok (.goto 14, 3) := by decide +kernel
theorem dX11_other_30 : decode cX11_other 30 = .ok (.iload 4, 2) := by decide +kernel
theorem dX11_other_32 : decode cX11_other 32 = .ok (.ifCond .ne 6, 3) := by decide +kernel
theorem dX11_other_35 : decode cX11_other 35 = .ok (.iload 5, 2) := by decide +kernel
theorem dX11_other_37 : decode cX11_other 37 = .ok (.ireturn, 1) := by decide +kernel
theorem dX11_other_38 : decode cX11_other 38 = .ok (.iinc 4 (-1), 3) := by decide +kernel
theorem dX11_other_41 : decode cX11_other 41 = .ok (.iinc 5 1, 3) := by decide +kernel
theorem dX11_other_44 : decode cX11_other 44 = .ok (.goto (-38), 3) := by decide +kernel
theorem dX11_other_47 : decode cX11_other 47 = .ok (.iconst (-1), 1) := by decide +kernel
theorem dX11_other_48 : decode cX11_other 48 = .ok (.ireturn, 1) := by decide +kernel
theorem dX11_firstGiven_0 : decode cX11_firstGiven 0 = .ok (.aload_n 0, 1) := by decide +kernel
theorem dX11_firstGiven_1 : decode cX11_firstGiven 1 = .ok (.iload_n 2, 1) := by decide +kernel
theorem dX11_firstGiven_2 : decode cX11_firstGiven 2 = .ok (.iconst 2, 1) := by decide +kernel
theorem dX11_firstGiven_3 : decode cX11_firstGiven 3 = .ok (.iload_n 1, 1) := by decide +kernel
theorem dX11_firstGiven_4 : decode cX11_firstGiven 4 = .ok (.imul, 1) := by decide +kernel
theorem dX11_firstGiven_5 : decode cX11_firstGiven 5 = .ok (.aload_n 0, 1) := by decide +kernel
theorem dX11_firstGiven_6 : decode cX11_firstGiven 6 = .ok (.getfield 310, 3) := by decide +kernel
theorem dX11_firstGiven_9 : decode cX11_firstGiven 9 = .ok (.iconst 1, 1) := by decide +kernel
theorem dX11_firstGiven_10 : decode cX11_firstGiven 10 = .ok (.isub, 1) := by decide +kernel
theorem dX11_firstGiven_11 : decode cX11_firstGiven 11 = .ok (.invokestatic 322, 3) := by decide +kernel
theorem dX11_firstGiven_14 : decode cX11_firstGiven 14 = .ok (.iload_n 1, 1) := by decide +kernel
theorem dX11_firstGiven_15 : decode cX11_firstGiven 15 = .ok (.iconst (-1), 1) := by decide +kernel
theorem dX11_firstGiven_16 : decode cX11_firstGiven 16 = .ok (.invokevirtual 374, 3) := by decide +kernel
theorem dX11_firstGiven_19 : decode cX11_firstGiven 19 = .ok (.ireturn, 1) := by decide +kernel
theorem dX11_secondGiven_0 : decode cX11_secondGiven 0 = .ok (.aload_n 0, 1) := by decide +kernel
theorem dX11_secondGiven_1 : decode cX11_secondGiven 1 = .ok (.iload_n 2, 1) := by decide +kernel
theorem dX11_secondGiven_2 : decode cX11_secondGiven 2 = .ok (.iconst 2, 1) := by decide +kernel
theorem dX11_secondGiven_3 : decode cX11_secondGiven 3 = .ok (.iload_n 1, 1) := by decide +kernel
theorem dX11_secondGiven_4 : decode cX11_secondGiven 4 = .ok (.imul, 1) := by decide +kernel
theorem dX11_secondGiven_5 : decode cX11_secondGiven 5 = .ok (.iconst 1, 1) := by decide +kernel
theorem dX11_secondGiven_6 : decode cX11_secondGiven 6 = .ok (.iadd, 1) := by decide +kernel
theorem dX11_secondGiven_7 : decode cX11_secondGiven 7 = .ok (.aload_n 0, 1) := by decide +kernel
theorem dX11_secondGiven_8 : decode cX11_secondGiven 8 = .ok (.getfield 310, 3) := by decide +kernel
theorem dX11_secondGiven_11 : decode cX11_secondGiven 11 = .ok (.iconst 2, 1) := by decide +kernel
theorem dX11_secondGiven_12 : decode cX11_secondGiven 12 = .ok (.isub, 1) := by decide +kernel
theorem dX11_secondGiven_13 : decode cX11_secondGiven 13 = .ok (.invokestatic 322, 3) := by decide +kernel
theorem dX11_secondGiven_16 : decode cX11_secondGiven 16 = .ok (.iload_n 1, 1) := by decide +kernel
theorem dX11_secondGiven_17 : decode cX11_secondGiven 17 = .ok (.aload_n 0, 1) := by decide +kernel
theorem dX11_secondGiven_18 : decode cX11_secondGiven 18 = .ok (.iload_n 1, 1) := by decide +kernel
theorem dX11_secondGiven_19 : decode cX11_secondGiven 19 = .ok (.iload_n 2, 1) := by decide +kernel
theorem dX11_secondGiven_20 : decode cX11_secondGiven 20 = .ok (.invokevirtual 377, 3) := by decide +kernel
theorem dX11_secondGiven_23 : decode cX11_secondGiven 23 = .ok (.invokevirtual 374, 3) := by decide +kernel
theorem dX11_secondGiven_26 : decode cX11_secondGiven 26 = .ok (.ireturn, 1) := by decide +kernel
theorem dX11_trial_0 : decode cX11_trial 0 = .ok (.aload_n 0, 1) := by decide +kernel
theorem dX11_trial_1 : decode cX11_trial 1 = .ok (.iload_n 1, 1) := by decide +kernel
theorem dX11_trial_2 : decode cX11_trial 2 = .ok (.invokevirtual 362, 3) := by decide +kernel
theorem dX11_trial_5 : decode cX11_trial 5 = .ok (.ifCond .eq 19, 3) := by decide +kernel
theorem dX11_trial_8 : decode cX11_trial 8 = .ok (.aload_n 0, 1) := by decide +kernel
theorem dX11_trial_9 : decode cX11_trial 9 = .ok (.iload_n 2, 1) := by decide +kernel
theorem dX11_trial_10 : decode cX11_trial 10 = .ok (.invokevirtual 353, 3) := by decide +kernel
theorem dX11_trial_13 : decode cX11_trial 13 = .ok (.ifCond .eq 11, 3) := by decide +kernel
theorem dX11_trial_16 : decode cX11_trial 16 = .ok (.aload_n 0, 1) := by decide +kernel
theorem dX11_trial_17 : decode cX11_trial 17 = .ok (.getfield 310, 3) := by decide +kernel
theorem dX11_trial_20 : decode cX11_trial 20 = .ok (.iconst 3, 1) := by decide +kernel
theorem dX11_trial_21 : decode cX11_trial 21 = .ok (.if_icmp .ge 5, 3) := by decide +kernel
theorem dX11_trial_24 : decode cX11_trial 24 = .ok (.iconst (-1), 1) := by decide +kernel
theorem dX11_trial_25 : decode cX11_trial 25 = .ok (.ireturn, 1) := by decide +kernel
theorem dX11_trial_26 : decode cX11_trial 26 = .ok (.iconst 0, 1) := by decide +kernel
theorem dX11_trial_27 : decode cX11_trial 27 = .ok (.istore 4, 2) := by decide +kernel
theorem dX11_trial_29 : decode cX11_trial 29 = .ok (.iconst 0, 1) := by decide +kernel
theorem dX11_trial_30 : decode cX11_trial 30 = .ok (.istore 5, 2) := by decide +kernel
theorem dX11_trial_32 : decode cX11_trial 32 = .ok (.iload 5, 2) := by decide +kernel
theorem dX11_trial_34 : decode cX11_trial 34 = .ok (.aload_n 0, 1) := by decide +kernel
theorem dX11_trial_35 : decode cX11_trial 35 = .ok (.getfield 310, 3) := by decide +kernel
theorem dX11_trial_38 : decode cX11_trial 38 = .ok (.if_icmp .ge 36, 3) := by decide +kernel
theorem dX11_trial_41 : decode cX11_trial 41 = .ok (.iload 4, 2) := by decide +kernel
theorem dX11_trial_43 : decode cX11_trial 43 = .ok (.aload_n 0, 1) := by decide +kernel
theorem dX11_trial_44 : decode cX11_trial 44 = .ok (.iload_n 1, 1) := by decide +kernel
theorem dX11_trial_45 : decode cX11_trial 45 = .ok (.iload_n 2, 1) := by decide +kernel
theorem dX11_trial_46 : decode cX11_trial 46 = .ok (.iload 5, 2) := by decide +kernel
theorem dX11_trial_48 : decode cX11_trial 48 = .ok (.aload_n 0, 1) := by decide +kernel
theorem dX11_trial_49 : decode cX11_trial 49 = .ok (.iload 5, 2) := by decide +kernel
theorem dX11_trial_51 : decode cX11_trial 51 = .ok (.iload_n 3, 1) := by decide +kernel
theorem dX11_trial_52 : decode cX11_trial 52 = .ok (.invokevirtual 377, 3) := by decide +kernel
theorem dX11_trial_55 : decode cX11_trial 55 = .ok (.aload_n 0, 1) := by decide +kernel
theorem dX11_trial_56 : decode cX11_trial 56 = .ok (.iload 5, 2) := by decide +kernel
theorem dX11_trial_58 : decode cX11_trial 58 = .ok (.iload_n 3, 1) := by decide +kernel
theorem dX11_trial_59 : decode cX11_trial 59 = .ok (.invokevirtual 380, 3) := by decide +kernel
theorem dX11_trial_62 : decode cX11_trial 62 = .ok (.invokevirtual 370, 3) := by decide +kernel
theorem dX11_trial_65 : decode cX11_trial 65 = .ok (.iadd, 1) := by decide +kernel
theorem dX11_trial_66 : decode cX11_trial 66 = .ok (.istore 4, 2) := by decide +kernel
theorem dX11_trial_68 : decode cX11_trial 68 = .ok (.iinc 5 1, 3) := by decide +kernel
theorem dX11_trial_71 : decode cX11_trial 71 = .ok (.goto (-39), 3) := by decide +kernel
theorem dX11_trial_74 : decode cX11_trial 74 = .ok (.iload 4, 2) := by decide +kernel
theorem dX11_trial_76 : decode cX11_trial 76 = .ok (.ireturn, 1) := by decide +kernel
theorem dX11_given_0 : decode cX11_given 0 = .ok (.aload_n 0, 1) := by decide +kernel
theorem dX11_given_1 : decode cX11_given 1 = .ok (.iload_n 1, 1) := by decide +kernel
theorem dX11_given_2 : decode cX11_given 2 = .ok (.invokevirtual 328, 3) := by decide +kernel
theorem dX11_given_5 : decode cX11_given 5 = .ok (.ifCond .eq 20, 3) := by decide +kernel
theorem dX11_given_8 : decode cX11_given 8 = .ok (.aload_n 0, 1) := by decide +kernel
theorem dX11_given_9 : decode cX11_given 9 = .ok (.getfield 310, 3) := by decide +kernel
theorem dX11_given_12 : decode cX11_given 12 = .ok (.iconst 3, 1) := by decide +kernel
theorem dX11_given_13 : decode cX11_given 13 = .ok (.if_icmp .lt 12, 3) := by decide +kernel
theorem dX11_given_16 : decode cX11_given 16 = .ok (.iload_n 3, 1) := by decide +kernel
theorem dX11_given_17 : decode cX11_given 17 = .ok (.iconst 0, 1) := by decide +kernel
theorem dX11_given_18 : decode cX11_given 18 = .ok (.iconst 1, 1) := by decide +kernel
theorem dX11_given_19 : decode cX11_given 19 = .ok (.invokestatic 313, 3) := by decide +kernel
theorem dX11_given_22 : decode cX11_given 22 = .ok (.ifCond .ne 5, 3) := by decide +kernel
theorem dX11_given_25 : decode cX11_given 25 = .ok (.iconst (-1), 1) := by decide +kernel
theorem dX11_given_26 : decode cX11_given 26 = .ok (.ireturn, 1) := by decide +kernel
theorem dX11_given_27 : decode cX11_given 27 = .ok (.iload_n 3, 1) := by decide +kernel
theorem dX11_given_28 : decode cX11_given 28 = .ok (.ifCond .ne 12, 3) := by decide +kernel
theorem dX11_given_31 : decode cX11_given 31 = .ok (.aload_n 0, 1) := by decide +kernel
theorem dX11_given_32 : decode cX11_given 32 = .ok (.iload_n 1, 1) := by decide +kernel
theorem dX11_given_33 : decode cX11_given 33 = .ok (.iload_n 2, 1) := by decide +kernel
theorem dX11_given_34 : decode cX11_given 34 = .ok (.invokevirtual 377, 3) := by decide +kernel
theorem dX11_given_37 : decode cX11_given 37 = .ok (.goto 9, 3) := by decide +kernel
theorem dX11_given_40 : decode cX11_given 40 = .ok (.aload_n 0, 1) := by decide +kernel
theorem dX11_given_41 : decode cX11_given 41 = .ok (.iload_n 1, 1) := by decide +kernel
theorem dX11_given_42 : decode cX11_given 42 = .ok (.iload_n 2, 1) := by decide +kernel
theorem dX11_given_43 : decode cX11_given 43 = .ok (.invokevirtual 380, 3) := by decide +kernel
theorem dX11_given_46 : decode cX11_given 46 = .ok (.ireturn, 1) := by decide +kernel
theorem dX11_whole_0 : decode cX11_whole 0 = .ok (.aload_n 0, 1) := by decide +kernel
theorem dX11_whole_1 : decode cX11_whole 1 = .ok (.iload_n 1, 1) := by decide +kernel
theorem dX11_whole_2 : decode cX11_whole 2 = .ok (.invokevirtual 362, 3) := by decide +kernel
theorem dX11_whole_5 : decode cX11_whole 5 = .ok (.ifCond .eq 11, 3) := by decide +kernel
theorem dX11_whole_8 : decode cX11_whole 8 = .ok (.aload_n 0, 1) := by decide +kernel
theorem dX11_whole_9 : decode cX11_whole 9 = .ok (.iload_n 2, 1) := by decide +kernel
theorem dX11_whole_10 : decode cX11_whole 10 = .ok (.invokevirtual 353, 3) := by decide +kernel
theorem dX11_whole_13 : decode cX11_whole 13 = .ok (.ifCond .ne 5, 3) := by decide +kernel
theorem dX11_whole_16 : decode cX11_whole 16 = .ok (.iconst (-1), 1) := by decide +kernel
theorem dX11_whole_17 : decode cX11_whole 17 = .ok (.ireturn, 1) := by decide +kernel
theorem dX11_whole_18 : decode cX11_whole 18 = .ok (.iconst 0, 1) := by decide +kernel
theorem dX11_whole_19 : decode cX11_whole 19 = .ok (.istore_n 3, 1) := by decide +kernel
theorem dX11_whole_20 : decode cX11_whole 20 = .ok (.iconst 0, 1) := by decide +kernel
theorem dX11_whole_21 : decode cX11_whole 21 = .ok (.istore 4, 2) := by decide +kernel
theorem dX11_whole_23 : decode cX11_whole 23 = .ok (.iload 4, 2) := by decide +kernel
theorem dX11_whole_25 : decode cX11_whole 25 = .ok (.aload_n 0, 1) := by decide +kernel
theorem dX11_whole_26 : decode cX11_whole 26 = .ok (.getfield 310, 3) := by decide +kernel
theorem dX11_whole_29 : decode cX11_whole 29 = .ok (.if_icmp .ge 77, 3) := by decide +kernel
theorem dX11_whole_32 : decode cX11_whole 32 = .ok (.iconst 0, 1) := by decide +kernel
theorem dX11_whole_33 : decode cX11_whole 33 = .ok (.istore 5, 2) := by decide +kernel
theorem dX11_whole_35 : decode cX11_whole 35 = .ok (.iload 5, 2) := by decide +kernel
theorem dX11_whole_37 : decode cX11_whole 37 = .ok (.aload_n 0, 1) := by decide +kernel
theorem dX11_whole_38 : decode cX11_whole 38 = .ok (.getfield 310, 3) := by decide +kernel
theorem dX11_whole_41 : decode cX11_whole 41 = .ok (.if_icmp .ge 59, 3) := by decide +kernel
theorem dX11_whole_44 : decode cX11_whole 44 = .ok (.iload 5, 2) := by decide +kernel
theorem dX11_whole_46 : decode cX11_whole 46 = .ok (.iconst 1, 1) := by decide +kernel
theorem dX11_whole_47 : decode cX11_whole 47 = .ok (.iadd, 1) := by decide +kernel
theorem dX11_whole_48 : decode cX11_whole 48 = .ok (.istore 6, 2) := by decide +kernel
theorem dX11_whole_50 : decode cX11_whole 50 = .ok (.iload 6, 2) := by decide +kernel
theorem dX11_whole_52 : decode cX11_whole 52 = .ok (.aload_n 0, 1) := by decide +kernel
theorem dX11_whole_53 : decode cX11_whole 53 = .ok (.getfield 310, 3) := by decide +kernel
theorem dX11_whole_56 : decode cX11_whole 56 = .ok (.if_icmp .ge 38, 3) := by decide +kernel
theorem dX11_whole_59 : decode cX11_whole 59 = .ok (.iload 5, 2) := by decide +kernel
theorem dX11_whole_61 : decode cX11_whole 61 = .ok (.iload 4, 2) := by decide +kernel
theorem dX11_whole_63 : decode cX11_whole 63 = .ok (.if_icmp .eq 25, 3) := by decide +kernel
theorem dX11_whole_66 : decode cX11_whole 66 = .ok (.iload 6, 2) := by decide +kernel
theorem dX11_whole_68 : decode cX11_whole 68 = .ok (.iload 4, 2) := by decide +kernel
theorem dX11_whole_70 : decode cX11_whole 70 = .ok (.if_icmp .eq 18, 3) := by decide +kernel
theorem dX11_whole_73 : decode cX11_whole 73 = .ok (.iload_n 3, 1) := by decide +kernel
theorem dX11_whole_74 : decode cX11_whole 74 = .ok (.aload_n 0, 1) := by decide +kernel
theorem dX11_whole_75 : decode cX11_whole 75 = .ok (.iload_n 1, 1) := by decide +kernel
theorem dX11_whole_76 : decode cX11_whole 76 = .ok (.iload_n 2, 1) := by decide +kernel
theorem dX11_whole_77 : decode cX11_whole 77 = .ok (.iload 4, 2) := by decide +kernel
theorem dX11_whole_79 : decode cX11_whole 79 = .ok (.iload 5, 2) := by decide +kernel
theorem dX11_whole_81 : decode cX11_whole 81 = .ok (.iload 6, 2) := by decide +kernel
theorem dX11_whole_83 : decode cX11_whole 83 = .ok (.invokevirtual 370, 3) := by decide +kernel
theorem dX11_whole_86 : decode cX11_whole 86 = .ok (.iadd, 1) := by decide +kernel
theorem dX11_whole_87 : decode cX11_whole 87 = .ok (.istore_n 3, 1) := by decide +kernel
theorem dX11_whole_88 : decode cX11_whole 88 = .ok (.iinc 6 1, 3) := by decide +kernel
theorem dX11_whole_91 : decode cX11_whole 91 = .ok (.goto (-41), 3) := by decide +kernel
theorem dX11_whole_94 : decode cX11_whole 94 = .ok (.iinc 5 1, 3) := by decide +kernel
theorem dX11_whole_97 : decode cX11_whole 97 = .ok (.goto (-62), 3) := by decide +kernel
theorem dX11_whole_100 : decode cX11_whole 100 = .ok (.iinc 4 1, 3) := by decide +kernel
theorem dX11_whole_103 : decode cX11_whole 103 = .ok (.goto (-80), 3) := by decide +kernel
theorem dX11_whole_106 : decode cX11_whole 106 = .ok (.iload_n 3, 1) := by decide +kernel
theorem dX11_whole_107 : decode cX11_whole 107 = .ok (.ireturn, 1) := by decide +kernel
theorem dX11_pleased_0 : decode cX11_pleased 0 = .ok (.aload_n 0, 1) := by decide +kernel
theorem dX11_pleased_1 : decode cX11_pleased 1 = .ok (.iload_n 1, 1) := by decide +kernel
theorem dX11_pleased_2 : decode cX11_pleased 2 = .ok (.invokevirtual 362, 3) := by decide +kernel
theorem dX11_pleased_5 : decode cX11_pleased 5 = .ok (.ifCond .eq 11, 3) := by decide +kernel
theorem dX11_pleased_8 : decode cX11_pleased 8 = .ok (.aload_n 0, 1) := by decide +kernel
theorem dX11_pleased_9 : decode cX11_pleased 9 = .ok (.iload_n 2, 1) := by decide +kernel
theorem dX11_pleased_10 : decode cX11_pleased 10 = .ok (.invokevirtual 353, 3) := by decide +kernel
theorem dX11_pleased_13 : decode cX11_pleased 13 = .ok (.ifCond .ne 5, 3) := by decide +kernel
theorem dX11_pleased_16 : decode cX11_pleased 16 = .ok (.iconst (-1), 1) := by decide +kernel
theorem dX11_pleased_17 : decode cX11_pleased 17 = .ok (.ireturn, 1) := by decide +kernel
theorem dX11_pleased_18 : decode cX11_pleased 18 = .ok (.iconst 0, 1) := by decide +kernel
theorem dX11_pleased_19 : decode cX11_pleased 19 = .ok (.istore 5, 2) := by decide +kernel
theorem dX11_pleased_21 : decode cX11_pleased 21 = .ok (.iconst 0, 1) := by decide +kernel
theorem dX11_pleased_22 : decode cX11_pleased 22 = .ok (.istore 6, 2) := by decide +kernel
theorem dX11_pleased_24 : decode cX11_pleased 24 = .ok (.iload 6, 2) := by decide +kernel
theorem dX11_pleased_26 : decode cX11_pleased 26 = .ok (.aload_n 0, 1) := by decide +kernel
theorem dX11_pleased_27 : decode cX11_pleased 27 = .ok (.getfield 310, 3) := by decide +kernel
theorem dX11_pleased_30 : decode cX11_pleased 30 = .ok (.if_icmp .ge 66, 3) := by decide +kernel
theorem dX11_pleased_33 : decode cX11_pleased 33 = .ok (.iconst 0, 1) := by decide +kernel
theorem dX11_pleased_34 : decode cX11_pleased 34 = .ok (.istore 7, 2) := by decide +kernel
theorem dX11_pleased_36 : decode cX11_pleased 36 = .ok (.iload 7, 2) := by decide +kernel
theorem dX11_pleased_38 : decode cX11_pleased 38 = .ok (.aload_n 0, 1) := by decide +kernel
theorem dX11_pleased_39 : decode cX11_pleased 39 = .ok (.getfield 310, 3) := by decide +kernel
theorem dX11_pleased_42 : decode cX11_pleased 42 = .ok (.if_icmp .ge 48, 3) := by decide +kernel
theorem dX11_pleased_45 : decode cX11_pleased 45 = .ok (.iload 6, 2) := by decide +kernel
theorem dX11_pleased_47 : decode cX11_pleased 47 = .ok (.iload 7, 2) := by decide +kernel
theorem dX11_pleased_49 : decode cX11_pleased 49 = .ok (.if_icmp .ne 7, 3) := by decide +kernel
theorem dX11_pleased_52 : decode cX11_pleased 52 = .ok (.iconst 1, 1) := by decide +kernel
theorem dX11_pleased_53 : decode cX11_pleased 53 = .ok (.goto 4, 3) := by decide +kernel
theorem dX11_pleased_56 : decode cX11_pleased 56 = .ok (.iconst 0, 1) := by decide +kernel
theorem dX11_pleased_57 : decode cX11_pleased 57 = .ok (.iload 4, 2) := by decide +kernel
theorem dX11_pleased_59 : decode cX11_pleased 59 = .ok (.if_icmp .eq 25, 3) := by decide +kernel
theorem dX11_pleased_62 : decode cX11_pleased 62 = .ok (.aload_n 0, 1) := by decide +kernel
theorem dX11_pleased_63 : decode cX11_pleased 63 = .ok (.iload_n 1, 1) := by decide +kernel
theorem dX11_pleased_64 : decode cX11_pleased 64 = .ok (.iload 6, 2) := by decide +kernel
theorem dX11_pleased_66 : decode cX11_pleased 66 = .ok (.aload_n 0, 1) := by decide +kernel
theorem dX11_pleased_67 : decode cX11_pleased 67 = .ok (.iload_n 2, 1) := by decide +kernel
theorem dX11_pleased_68 : decode cX11_pleased 68 = .ok (.iload 7, 2) := by decide +kernel
theorem dX11_pleased_70 : decode cX11_pleased 70 = .ok (.invokevirtual 356, 3) := by decide +kernel
theorem dX11_pleased_73 : decode cX11_pleased 73 = .ok (.iconst 0, 1) := by decide +kernel
theorem dX11_pleased_74 : decode cX11_pleased 74 = .ok (.invokevirtual 366, 3) := by decide +kernel
theorem dX11_pleased_77 : decode cX11_pleased 77 = .ok (.iload_n 3, 1) := by decide +kernel
theorem dX11_pleased_78 : decode cX11_pleased 78 = .ok (.if_icmp .lt 6, 3) := by decide +kernel
theorem dX11_pleased_81 : decode cX11_pleased 81 = .ok (.iinc 5 1, 3) := by decide +kernel
theorem dX11_pleased_84 : decode cX11_pleased 84 = .ok (.iinc 7 1, 3) := by decide +kernel
theorem dX11_pleased_87 : decode cX11_pleased 87 = .ok (.goto (-51), 3) := by decide +kernel
theorem dX11_pleased_90 : decode cX11_pleased 90 = .ok (.iinc 6 1, 3) := by decide +kernel
theorem dX11_pleased_93 : decode cX11_pleased 93 = .ok (.goto (-69), 3) := by decide +kernel
theorem dX11_pleased_96 : decode cX11_pleased 96 = .ok (.iload 5, 2) := by decide +kernel
theorem dX11_pleased_98 : decode cX11_pleased 98 = .ok (.ireturn, 1) := by decide +kernel
theorem dX11_picks_0 : decode cX11_picks 0 = .ok (.iload_n 1, 1) := by decide +kernel
theorem dX11_picks_1 : decode cX11_picks 1 = .ok (.ifCond .lt 8, 3) := by decide +kernel
theorem dX11_picks_4 : decode cX11_picks 4 = .ok (.iload_n 1, 1) := by decide +kernel
theorem dX11_picks_5 : decode cX11_picks 5 = .ok (.iload_n 0, 1) := by decide +kernel
theorem dX11_picks_6 : decode cX11_picks 6 = .ok (.if_icmp .le 5, 3) := by decide +kernel
theorem dX11_picks_9 : decode cX11_picks 9 = .ok (.lconst 0, 1) := by decide +kernel
theorem dX11_picks_10 : decode cX11_picks 10 = .ok (.lreturn, 1) := by decide +kernel
theorem dX11_picks_11 : decode cX11_picks 11 = .ok (.lconst 1, 1) := by decide +kernel
theorem dX11_picks_12 : decode cX11_picks 12 = .ok (.lstore_n 2, 1) := by decide +kernel
theorem dX11_picks_13 : decode cX11_picks 13 = .ok (.iconst 1, 1) := by decide +kernel
theorem dX11_picks_14 : decode cX11_picks 14 = .ok (.istore 4, 2) := by decide +kernel
theorem dX11_picks_16 : decode cX11_picks 16 = .ok (.iload 4, 2) := by decide +kernel
theorem dX11_picks_18 : decode cX11_picks 18 = .ok (.iload_n 1, 1) := by decide +kernel
theorem dX11_picks_19 : decode cX11_picks 19 = .ok (.if_icmp .gt 23, 3) := by decide +kernel
