theorem dX11_picks_22 : decode cX11_picks 22 = .ok (.lload_n 2, 1) := by decide +kernel
theorem dX11_picks_23 : decode cX11_picks 23 = .ok (.iload_n 0, 1) := by decide +kernel
theorem dX11_picks_24 : decode cX11_picks 24 = .ok (.iload_n 1, 1) := by decide +kernel
theorem dX11_picks_25 : decode cX11_picks 25 = .ok (.isub, 1) := by decide +kernel
theorem dX11_picks_26 : decode cX11_picks 26 = .ok (.iload 4, 2) := by decide +kernel
theorem dX11_picks_28 : decode cX11_picks 28 = .ok (.iadd, 1) := by decide +kernel
theorem dX11_picks_29 : decode cX11_picks 29 = .ok (.i2l, 1) := by decide +kernel
theorem dX11_picks_30 : decode cX11_picks 30 = .ok (.lmul, 1) := by decide +kernel
theorem dX11_picks_31 : decode cX11_picks 31 = .ok (.iload 4, 2) := by decide +kernel
theorem dX11_picks_33 : decode cX11_picks 33 = .ok (.i2l, 1) := by decide +kernel
theorem dX11_picks_34 : decode cX11_picks 34 = .ok (.ldiv, 1) := by decide +kernel
theorem dX11_picks_35 : decode cX11_picks 35 = .ok (.lstore_n 2, 1) := by decide +kernel
theorem dX11_picks_36 : decode cX11_picks 36 = .ok (.iinc 4 1, 3) := by decide +kernel
theorem dX11_picks_39 : decode cX11_picks 39 = .ok (.goto (-23), 3) := by decide +kernel
theorem dX11_picks_42 : decode cX11_picks 42 = .ok (.lload_n 2, 1) := by decide +kernel
theorem dX11_picks_43 : decode cX11_picks 43 = .ok (.lreturn, 1) := by decide +kernel
theorem dX11_power_0 : decode cX11_power 0 = .ok (.lconst 1, 1) := by decide +kernel
theorem dX11_power_1 : decode cX11_power 1 = .ok (.lstore_n 3, 1) := by decide +kernel
theorem dX11_power_2 : decode cX11_power 2 = .ok (.iconst 0, 1) := by decide +kernel
theorem dX11_power_3 : decode cX11_power 3 = .ok (.istore 5, 2) := by decide +kernel
theorem dX11_power_5 : decode cX11_power 5 = .ok (.iload 5, 2) := by decide +kernel
theorem dX11_power_7 : decode cX11_power 7 = .ok (.iload_n 2, 1) := by decide +kernel
theorem dX11_power_8 : decode cX11_power 8 = .ok (.if_icmp .ge 13, 3) := by decide +kernel
theorem dX11_power_11 : decode cX11_power 11 = .ok (.lload_n 3, 1) := by decide +kernel
theorem dX11_power_12 : decode cX11_power 12 = .ok (.lload_n 0, 1) := by decide +kernel
theorem dX11_power_13 : decode cX11_power 13 = .ok (.lmul, 1) := by decide +kernel
theorem dX11_power_14 : decode cX11_power 14 = .ok (.lstore_n 3, 1) := by decide +kernel
theorem dX11_power_15 : decode cX11_power 15 = .ok (.iinc 5 1, 3) := by decide +kernel
theorem dX11_power_18 : decode cX11_power 18 = .ok (.goto (-13), 3) := by decide +kernel
theorem dX11_power_21 : decode cX11_power 21 = .ok (.lload_n 3, 1) := by decide +kernel
theorem dX11_power_22 : decode cX11_power 22 = .ok (.lreturn, 1) := by decide +kernel
theorem dX11_tailOf_0 : decode cX11_tailOf 0 = .ok (.lconst 0, 1) := by decide +kernel
theorem dX11_tailOf_1 : decode cX11_tailOf 1 = .ok (.lstore 4, 2) := by decide +kernel
theorem dX11_tailOf_3 : decode cX11_tailOf 3 = .ok (.iload_n 1, 1) := by decide +kernel
theorem dX11_tailOf_4 : decode cX11_tailOf 4 = .ok (.istore 6, 2) := by decide +kernel
theorem dX11_tailOf_6 : decode cX11_tailOf 6 = .ok (.iload 6, 2) := by decide +kernel
theorem dX11_tailOf_8 : decode cX11_tailOf 8 = .ok (.iload_n 0, 1) := by decide +kernel
theorem dX11_tailOf_9 : decode cX11_tailOf 9 = .ok (.if_icmp .gt 40, 3) := by decide +kernel
theorem dX11_tailOf_12 : decode cX11_tailOf 12 = .ok (.lload 4, 2) := by decide +kernel
theorem dX11_tailOf_14 : decode cX11_tailOf 14 = .ok (.iload_n 0, 1) := by decide +kernel
theorem dX11_tailOf_15 : decode cX11_tailOf 15 = .ok (.iload 6, 2) := by decide +kernel
theorem dX11_tailOf_17 : decode cX11_tailOf 17 = .ok (.invokestatic 383, 3) := by decide +kernel
theorem dX11_tailOf_20 : decode cX11_tailOf 20 = .ok (.iload_n 2, 1) := by decide +kernel
theorem dX11_tailOf_21 : decode cX11_tailOf 21 = .ok (.i2l, 1) := by decide +kernel
theorem dX11_tailOf_22 : decode cX11_tailOf 22 = .ok (.iload 6, 2) := by decide +kernel
theorem dX11_tailOf_24 : decode cX11_tailOf 24 = .ok (.invokestatic 387, 3) := by decide +kernel
theorem dX11_tailOf_27 : decode cX11_tailOf 27 = .ok (.lmul, 1) := by decide +kernel
theorem dX11_tailOf_28 : decode cX11_tailOf 28 = .ok (.iload_n 3, 1) := by decide +kernel
theorem dX11_tailOf_29 : decode cX11_tailOf 29 = .ok (.iload_n 2, 1) := by decide +kernel
theorem dX11_tailOf_30 : decode cX11_tailOf 30 = .ok (.isub, 1) := by decide +kernel
theorem dX11_tailOf_31 : decode cX11_tailOf 31 = .ok (.i2l, 1) := by decide +kernel
theorem dX11_tailOf_32 : decode cX11_tailOf 32 = .ok (.iload_n 0, 1) := by decide +kernel
theorem dX11_tailOf_33 : decode cX11_tailOf 33 = .ok (.iload 6, 2) := by decide +kernel
theorem dX11_tailOf_35 : decode cX11_tailOf 35 = .ok (.isub, 1) := by decide +kernel
theorem dX11_tailOf_36 : decode cX11_tailOf 36 = .ok (.invokestatic 387, 3) := by decide +kernel
theorem dX11_tailOf_39 : decode cX11_tailOf 39 = .ok (.lmul, 1) := by decide +kernel
theorem dX11_tailOf_40 : decode cX11_tailOf 40 = .ok (.ladd, 1) := by decide +kernel
theorem dX11_tailOf_41 : decode cX11_tailOf 41 = .ok (.lstore 4, 2) := by decide +kernel
theorem dX11_tailOf_43 : decode cX11_tailOf 43 = .ok (.iinc 6 1, 3) := by decide +kernel
theorem dX11_tailOf_46 : decode cX11_tailOf 46 = .ok (.goto (-40), 3) := by decide +kernel
theorem dX11_tailOf_49 : decode cX11_tailOf 49 = .ok (.lload 4, 2) := by decide +kernel
theorem dX11_tailOf_51 : decode cX11_tailOf 51 = .ok (.lreturn, 1) := by decide +kernel
theorem dX11_tail_0 : decode cX11_tail 0 = .ok (.iload_n 1, 1) := by decide +kernel
theorem dX11_tail_1 : decode cX11_tail 1 = .ok (.iconst 0, 1) := by decide +kernel
theorem dX11_tail_2 : decode cX11_tail 2 = .ok (.bipush 30, 2) := by decide +kernel
theorem dX11_tail_4 : decode cX11_tail 4 = .ok (.invokestatic 313, 3) := by decide +kernel
theorem dX11_tail_7 : decode cX11_tail 7 = .ok (.ifCond .eq 33, 3) := by decide +kernel
theorem dX11_tail_10 : decode cX11_tail 10 = .ok (.iload_n 2, 1) := by decide +kernel
theorem dX11_tail_11 : decode cX11_tail 11 = .ok (.iconst 0, 1) := by decide +kernel
theorem dX11_tail_12 : decode cX11_tail 12 = .ok (.bipush 31, 2) := by decide +kernel
theorem dX11_tail_14 : decode cX11_tail 14 = .ok (.invokestatic 313, 3) := by decide +kernel
theorem dX11_tail_17 : decode cX11_tail 17 = .ok (.ifCond .eq 23, 3) := by decide +kernel
theorem dX11_tail_20 : decode cX11_tail 20 = .ok (.iload 4, 2) := by decide +kernel
theorem dX11_tail_22 : decode cX11_tail 22 = .ok (.iconst 1, 1) := by decide +kernel
theorem dX11_tail_23 : decode cX11_tail 23 = .ok (.iconst 4, 1) := by decide +kernel
theorem dX11_tail_24 : decode cX11_tail 24 = .ok (.invokestatic 313, 3) := by decide +kernel
theorem dX11_tail_27 : decode cX11_tail 27 = .ok (.ifCond .eq 13, 3) := by decide +kernel
theorem dX11_tail_30 : decode cX11_tail 30 = .ok (.iload_n 3, 1) := by decide +kernel
theorem dX11_tail_31 : decode cX11_tail 31 = .ok (.iconst 0, 1) := by decide +kernel
theorem dX11_tail_32 : decode cX11_tail 32 = .ok (.iload 4, 2) := by decide +kernel
theorem dX11_tail_34 : decode cX11_tail 34 = .ok (.invokestatic 313, 3) := by decide +kernel
theorem dX11_tail_37 : decode cX11_tail 37 = .ok (.ifCond .ne 9, 3) := by decide +kernel
theorem dX11_tail_40 : decode cX11_tail 40 = .ok (.ldc2_w 390, 3) := by decide +kernel
theorem dX11_tail_43 : decode cX11_tail 43 = .ok (.goto 11, 3) := by decide +kernel
theorem dX11_tail_46 : decode cX11_tail 46 = .ok (.iload_n 1, 1) := by decide +kernel
theorem dX11_tail_47 : decode cX11_tail 47 = .ok (.iload_n 2, 1) := by decide +kernel
theorem dX11_tail_48 : decode cX11_tail 48 = .ok (.iload_n 3, 1) := by decide +kernel
theorem dX11_tail_49 : decode cX11_tail 49 = .ok (.iload 4, 2) := by decide +kernel
theorem dX11_tail_51 : decode cX11_tail 51 = .ok (.invokestatic 392, 3) := by decide +kernel
theorem dX11_tail_54 : decode cX11_tail 54 = .ok (.lreturn, 1) := by decide +kernel
theorem dX11_agree_0 : decode cX11_agree 0 = .ok (.iload_n 1, 1) := by decide +kernel
theorem dX11_agree_1 : decode cX11_agree 1 = .ok (.iconst 2, 1) := by decide +kernel
theorem dX11_agree_2 : decode cX11_agree 2 = .ok (.sipush 1000, 3) := by decide +kernel
theorem dX11_agree_5 : decode cX11_agree 5 = .ok (.invokestatic 313, 3) := by decide +kernel
theorem dX11_agree_8 : decode cX11_agree 8 = .ok (.ifCond .eq 23, 3) := by decide +kernel
theorem dX11_agree_11 : decode cX11_agree 11 = .ok (.iload_n 2, 1) := by decide +kernel
theorem dX11_agree_12 : decode cX11_agree 12 = .ok (.iconst 2, 1) := by decide +kernel
theorem dX11_agree_13 : decode cX11_agree 13 = .ok (.sipush 1000, 3) := by decide +kernel
theorem dX11_agree_16 : decode cX11_agree 16 = .ok (.invokestatic 313, 3) := by decide +kernel
theorem dX11_agree_19 : decode cX11_agree 19 = .ok (.ifCond .eq 12, 3) := by decide +kernel
theorem dX11_agree_22 : decode cX11_agree 22 = .ok (.iload_n 3, 1) := by decide +kernel
theorem dX11_agree_23 : decode cX11_agree 23 = .ok (.iconst 0, 1) := by decide +kernel
theorem dX11_agree_24 : decode cX11_agree 24 = .ok (.iconst 1, 1) := by decide +kernel
theorem dX11_agree_25 : decode cX11_agree 25 = .ok (.invokestatic 313, 3) := by decide +kernel
theorem dX11_agree_28 : decode cX11_agree 28 = .ok (.ifCond .ne 5, 3) := by decide +kernel
theorem dX11_agree_31 : decode cX11_agree 31 = .ok (.iconst (-1), 1) := by decide +kernel
theorem dX11_agree_32 : decode cX11_agree 32 = .ok (.ireturn, 1) := by decide +kernel
theorem dX11_agree_33 : decode cX11_agree 33 = .ok (.iconst 1, 1) := by decide +kernel
theorem dX11_agree_34 : decode cX11_agree 34 = .ok (.istore 4, 2) := by decide +kernel
theorem dX11_agree_36 : decode cX11_agree 36 = .ok (.iload 4, 2) := by decide +kernel
theorem dX11_agree_38 : decode cX11_agree 38 = .ok (.bipush 30, 2) := by decide +kernel
theorem dX11_agree_40 : decode cX11_agree 40 = .ok (.if_icmp .gt 97, 3) := by decide +kernel
theorem dX11_agree_43 : decode cX11_agree 43 = .ok (.iconst 0, 1) := by decide +kernel
theorem dX11_agree_44 : decode cX11_agree 44 = .ok (.istore 5, 2) := by decide +kernel
theorem dX11_agree_46 : decode cX11_agree 46 = .ok (.iload 5, 2) := by decide +kernel
theorem dX11_agree_48 : decode cX11_agree 48 = .ok (.iload 4, 2) := by decide +kernel
theorem dX11_agree_50 : decode cX11_agree 50 = .ok (.if_icmp .gt 81, 3) := by decide +kernel
theorem dX11_agree_53 : decode cX11_agree 53 = .ok (.iload_n 1, 1) := by decide +kernel
theorem dX11_agree_54 : decode cX11_agree 54 = .ok (.i2l, 1) := by decide +kernel
theorem dX11_agree_55 : decode cX11_agree 55 = .ok (.iload 4, 2) := by decide +kernel
theorem dX11_agree_57 : decode cX11_agree 57 = .ok (.iload 5, 2) := by decide +kernel
theorem dX11_agree_59 : decode cX11_agree 59 = .ok (.iconst 1, 1) := by decide +kernel
theorem dX11_agree_60 : decode cX11_agree 60 = .ok (.iconst 3, 1) := by decide +kernel
theorem dX11_agree_61 : decode cX11_agree 61 = .ok (.invokestatic 392, 3) := by decide +kernel
theorem dX11_agree_64 : decode cX11_agree 64 = .ok (.lmul, 1) := by decide +kernel
theorem dX11_agree_65 : decode cX11_agree 65 = .ok (.ldc2_w 396, 3) := by decide +kernel
theorem dX11_agree_68 : decode cX11_agree 68 = .ok (.iload 4, 2) := by decide +kernel
theorem dX11_agree_70 : decode cX11_agree 70 = .ok (.invokestatic 387, 3) := by decide +kernel
theorem dX11_agree_73 : decode cX11_agree 73 = .ok (.lcmp, 1) := by decide +kernel
theorem dX11_agree_74 : decode cX11_agree 74 = .ok (.ifCond .gt 51, 3) := by decide +kernel
theorem dX11_agree_77 : decode cX11_agree 77 = .ok (.iload_n 2, 1) := by decide +kernel
theorem dX11_agree_78 : decode cX11_agree 78 = .ok (.i2l, 1) := by decide +kernel
theorem dX11_agree_79 : decode cX11_agree 79 = .ok (.ldc2_w 398, 3) := by decide +kernel
theorem dX11_agree_82 : decode cX11_agree 82 = .ok (.iload 4, 2) := by decide +kernel
theorem dX11_agree_84 : decode cX11_agree 84 = .ok (.invokestatic 387, 3) := by decide +kernel
theorem dX11_agree_87 : decode cX11_agree 87 = .ok (.iload 4, 2) := by decide +kernel
theorem dX11_agree_89 : decode cX11_agree 89 = .ok (.iload 5, 2) := by decide +kernel
theorem dX11_agree_91 : decode cX11_agree 91 = .ok (.iconst 1, 1) := by decide +kernel
theorem dX11_agree_92 : decode cX11_agree 92 = .ok (.iconst 2, 1) := by decide +kernel
theorem dX11_agree_93 : decode cX11_agree 93 = .ok (.invokestatic 392, 3) := by decide +kernel
theorem dX11_agree_96 : decode cX11_agree 96 = .ok (.lsub, 1) := by decide +kernel
theorem dX11_agree_97 : decode cX11_agree 97 = .ok (.lmul, 1) := by decide +kernel
theorem dX11_agree_98 : decode cX11_agree 98 = .ok (.ldc2_w 398, 3) := by decide +kernel
theorem dX11_agree_101 : decode cX11_agree 101 = .ok (.iload 4, 2) := by decide +kernel
theorem dX11_agree_103 : decode cX11_agree 103 = .ok (.invokestatic 387, 3) := by decide +kernel
theorem dX11_agree_106 : decode cX11_agree 106 = .ok (.lcmp, 1) := by decide +kernel
theorem dX11_agree_107 : decode cX11_agree 107 = .ok (.ifCond .le 6, 3) := by decide +kernel
theorem dX11_agree_110 : decode cX11_agree 110 = .ok (.goto 15, 3) := by decide +kernel
theorem dX11_agree_113 : decode cX11_agree 113 = .ok (.iload_n 3, 1) := by decide +kernel
theorem dX11_agree_114 : decode cX11_agree 114 = .ok (.ifCond .ne 8, 3) := by decide +kernel
theorem dX11_agree_117 : decode cX11_agree 117 = .ok (.iload 4, 2) := by decide +kernel
theorem dX11_agree_119 : decode cX11_agree 119 = .ok (.goto 5, 3) := by decide +kernel
theorem dX11_agree_122 : decode cX11_agree 122 = .ok (.iload 5, 2) := by decide +kernel
theorem dX11_agree_124 : decode cX11_agree 124 = .ok (.ireturn, 1) := by decide +kernel
theorem dX11_agree_125 : decode cX11_agree 125 = .ok (.iinc 5 1, 3) := by decide +kernel
theorem dX11_agree_128 : decode cX11_agree 128 = .ok (.goto (-82), 3) := by decide +kernel
theorem dX11_agree_131 : decode cX11_agree 131 = .ok (.iinc 4 1, 3) := by decide +kernel
theorem dX11_agree_134 : decode cX11_agree 134 = .ok (.goto (-98), 3) := by decide +kernel
theorem dX11_agree_137 : decode cX11_agree 137 = .ok (.bipush (-2), 2) := by decide +kernel
theorem dX11_agree_139 : decode cX11_agree 139 = .ok (.ireturn, 1) := by decide +kernel
theorem dX11_upSet_0 : decode cX11_upSet 0 = .ok (.iconst 0, 1) := by decide +kernel
theorem dX11_upSet_1 : decode cX11_upSet 1 = .ok (.istore_n 2, 1) := by decide +kernel
theorem dX11_upSet_2 : decode cX11_upSet 2 = .ok (.iconst 0, 1) := by decide +kernel
theorem dX11_upSet_3 : decode cX11_upSet 3 = .ok (.istore_n 3, 1) := by decide +kernel
theorem dX11_upSet_4 : decode cX11_upSet 4 = .ok (.iload_n 3, 1) := by decide +kernel
theorem dX11_upSet_5 : decode cX11_upSet 5 = .ok (.aload_n 0, 1) := by decide +kernel
theorem dX11_upSet_6 : decode cX11_upSet 6 = .ok (.getfield 310, 3) := by decide +kernel
theorem dX11_upSet_9 : decode cX11_upSet 9 = .ok (.if_icmp .ge 30, 3) := by decide +kernel
theorem dX11_upSet_12 : decode cX11_upSet 12 = .ok (.aload_n 0, 1) := by decide +kernel
theorem dX11_upSet_13 : decode cX11_upSet 13 = .ok (.iload_n 1, 1) := by decide +kernel
theorem dX11_upSet_14 : decode cX11_upSet 14 = .ok (.iload_n 3, 1) := by decide +kernel
theorem dX11_upSet_15 : decode cX11_upSet 15 = .ok (.aload_n 0, 1) := by decide +kernel
theorem dX11_upSet_16 : decode cX11_upSet 16 = .ok (.getfield 122, 3) := by decide +kernel
theorem dX11_upSet_19 : decode cX11_upSet 19 = .ok (.iload_n 3, 1) := by decide +kernel
theorem dX11_upSet_20 : decode cX11_upSet 20 = .ok (.iaload, 1) := by decide +kernel
theorem dX11_upSet_21 : decode cX11_upSet 21 = .ok (.invokevirtual 325, 3) := by decide +kernel
theorem dX11_upSet_24 : decode cX11_upSet 24 = .ok (.ifCond .eq 9, 3) := by decide +kernel
theorem dX11_upSet_27 : decode cX11_upSet 27 = .ok (.iload_n 2, 1) := by decide +kernel
theorem dX11_upSet_28 : decode cX11_upSet 28 = .ok (.iconst 1, 1) := by decide +kernel
theorem dX11_upSet_29 : decode cX11_upSet 29 = .ok (.iload_n 3, 1) := by decide +kernel
theorem dX11_upSet_30 : decode cX11_upSet 30 = .ok (.ishl, 1) := by decide +kernel
theorem dX11_upSet_31 : decode cX11_upSet 31 = .ok (.ior, 1) := by decide +kernel
theorem dX11_upSet_32 : decode cX11_upSet 32 = .ok (.istore_n 2, 1) := by decide +kernel
theorem dX11_upSet_33 : decode cX11_upSet 33 = .ok (.iinc 3 1, 3) := by decide +kernel
theorem dX11_upSet_36 : decode cX11_upSet 36 = .ok (.goto (-32), 3) := by decide +kernel
theorem dX11_upSet_39 : decode cX11_upSet 39 = .ok (.iload_n 2, 1) := by decide +kernel
theorem dX11_upSet_40 : decode cX11_upSet 40 = .ok (.ireturn, 1) := by decide +kernel
theorem dX11_trueSet_0 : decode cX11_trueSet 0 = .ok (.iconst 0, 1) := by decide +kernel
theorem dX11_trueSet_1 : decode cX11_trueSet 1 = .ok (.istore_n 2, 1) := by decide +kernel
theorem dX11_trueSet_2 : decode cX11_trueSet 2 = .ok (.iconst 0, 1) := by decide +kernel
theorem dX11_trueSet_3 : decode cX11_trueSet 3 = .ok (.istore_n 3, 1) := by decide +kernel
theorem dX11_trueSet_4 : decode cX11_trueSet 4 = .ok (.iload_n 3, 1) := by decide +kernel
theorem dX11_trueSet_5 : decode cX11_trueSet 5 = .ok (.aload_n 0, 1) := by decide +kernel
theorem dX11_trueSet_6 : decode cX11_trueSet 6 = .ok (.getfield 310, 3) := by decide +kernel
theorem dX11_trueSet_9 : decode cX11_trueSet 9 = .ok (.if_icmp .ge 24, 3) := by decide +kernel
theorem dX11_trueSet_12 : decode cX11_trueSet 12 = .ok (.aload_n 0, 1) := by decide +kernel
theorem dX11_trueSet_13 : decode cX11_trueSet 13 = .ok (.iload_n 1, 1) := by decide +kernel
theorem dX11_trueSet_14 : decode cX11_trueSet 14 = .ok (.iload_n 3, 1) := by decide +kernel
theorem dX11_trueSet_15 : decode cX11_trueSet 15 = .ok (.invokevirtual 346, 3) := by decide +kernel
theorem dX11_trueSet_18 : decode cX11_trueSet 18 = .ok (.ifCond .eq 9, 3) := by decide +kernel
theorem dX11_trueSet_21 : decode cX11_trueSet 21 = .ok (.iload_n 2, 1) := by decide +kernel
theorem dX11_trueSet_22 : decode cX11_trueSet 22 = .ok (.iconst 1, 1) := by decide +kernel
theorem dX11_trueSet_23 : decode cX11_trueSet 23 = .ok (.iload_n 3, 1) := by decide +kernel
theorem dX11_trueSet_24 : decode cX11_trueSet 24 = .ok (.ishl, 1) := by decide +kernel
theorem dX11_trueSet_25 : decode cX11_trueSet 25 = .ok (.ior, 1) := by decide +kernel
theorem dX11_trueSet_26 : decode cX11_trueSet 26 = .ok (.istore_n 2, 1) := by decide +kernel
theorem dX11_trueSet_27 : decode cX11_trueSet 27 = .ok (.iinc 3 1, 3) := by decide +kernel
theorem dX11_trueSet_30 : decode cX11_trueSet 30 = .ok (.goto (-26), 3) := by decide +kernel
theorem dX11_trueSet_33 : decode cX11_trueSet 33 = .ok (.iload_n 2, 1) := by decide +kernel
theorem dX11_trueSet_34 : decode cX11_trueSet 34 = .ok (.ireturn, 1) := by decide +kernel
theorem dX11_bits_0 : decode cX11_bits 0 = .ok (.iconst 0, 1) := by decide +kernel
theorem dX11_bits_1 : decode cX11_bits 1 = .ok (.istore_n 1, 1) := by decide +kernel
theorem dX11_bits_2 : decode cX11_bits 2 = .ok (.iconst 0, 1) := by decide +kernel
theorem dX11_bits_3 : decode cX11_bits 3 = .ok (.istore_n 2, 1) := by decide +kernel
theorem dX11_bits_4 : decode cX11_bits 4 = .ok (.iload_n 2, 1) := by decide +kernel
theorem dX11_bits_5 : decode cX11_bits 5 = .ok (.bipush 20, 2) := by decide +kernel
theorem dX11_bits_7 : decode cX11_bits 7 = .ok (.if_icmp .ge 17, 3) := by decide +kernel
theorem dX11_bits_10 : decode cX11_bits 10 = .ok (.iload_n 1, 1) := by decide +kernel
theorem dX11_bits_11 : decode cX11_bits 11 = .ok (.iload_n 0, 1) := by decide +kernel
theorem dX11_bits_12 : decode cX11_bits 12 = .ok (.iload_n 2, 1) := by decide +kernel
theorem dX11_bits_13 : decode cX11_bits 13 = .ok (.ishr, 1) := by decide +kernel
theorem dX11_bits_14 : decode cX11_bits 14 = .ok (.iconst 1, 1) := by decide +kernel
theorem dX11_bits_15 : decode cX11_bits 15 = .ok (.iand, 1) := by decide +kernel
theorem dX11_bits_16 : decode cX11_bits 16 = .ok (.iadd, 1) := by decide +kernel
theorem dX11_bits_17 : decode cX11_bits 17 = .ok (.istore_n 1, 1) := by decide +kernel
theorem dX11_bits_18 : decode cX11_bits 18 = .ok (.iinc 2 1, 3) := by decide +kernel
theorem dX11_bits_21 : decode cX11_bits 21 = .ok (.goto (-17), 3) := by decide +kernel
theorem dX11_bits_24 : decode cX11_bits 24 = .ok (.iload_n 1, 1) := by decide +kernel
theorem dX11_bits_25 : decode cX11_bits 25 = .ok (.ireturn, 1) := by decide +kernel
theorem dX11_table_0 : decode cX11_table 0 = .ok (.aload_n 0, 1) := by decide +kernel
theorem dX11_table_1 : decode cX11_table 1 = .ok (.iload_n 1, 1) := by decide +kernel
theorem dX11_table_2 : decode cX11_table 2 = .ok (.invokevirtual 400, 3) := by decide +kernel
theorem dX11_table_5 : decode cX11_table 5 = .ok (.ifCond .eq 20, 3) := by decide +kernel
theorem dX11_table_8 : decode cX11_table 8 = .ok (.aload_n 0, 1) := by decide +kernel
theorem dX11_table_9 : decode cX11_table 9 = .ok (.iload_n 2, 1) := by decide +kernel
theorem dX11_table_10 : decode cX11_table 10 = .ok (.invokevirtual 343, 3) := by decide +kernel
theorem dX11_table_13 : decode cX11_table 13 = .ok (.ifCond .eq 12, 3) := by decide +kernel
theorem dX11_table_16 : decode cX11_table 16 = .ok (.iload_n 3, 1) := by decide +kernel
theorem dX11_table_17 : decode cX11_table 17 = .ok (.iconst 0, 1) := by decide +kernel
theorem dX11_table_18 : decode cX11_table 18 = .ok (.iconst 3, 1) := by decide +kernel
theorem dX11_table_19 : decode cX11_table 19 = .ok (.invokestatic 313, 3) := by decide +kernel
theorem dX11_table_22 : decode cX11_table 22 = .ok (.ifCond .ne 5, 3) := by decide +kernel
theorem dX11_table_25 : decode cX11_table 25 = .ok (.iconst (-1), 1) := by decide +kernel
theorem dX11_table_26 : decode cX11_table 26 = .ok (.ireturn, 1) := by decide +kernel
theorem dX11_table_27 : decode cX11_table 27 = .ok (.iload_n 3, 1) := by decide +kernel
theorem dX11_table_28 : decode cX11_table 28 = .ok (.ifCond .ne 10, 3) := by decide +kernel
theorem dX11_table_31 : decode cX11_table 31 = .ok (.aload_n 0, 1) := by decide +kernel
theorem dX11_table_32 : decode cX11_table 32 = .ok (.getfield 310, 3) := by decide +kernel
theorem dX11_table_35 : decode cX11_table 35 = .ok (.goto 49, 3) := by decide +kernel
theorem dX11_table_38 : decode cX11_table 38 = .ok (.iload_n 3, 1) := by decide +kernel
theorem dX11_table_39 : decode cX11_table 39 = .ok (.iconst 1, 1) := by decide +kernel
theorem dX11_table_40 : decode cX11_table 40 = .ok (.if_icmp .ne 14, 3) := by decide +kernel
theorem dX11_table_43 : decode cX11_table 43 = .ok (.aload_n 0, 1) := by decide +kernel
theorem dX11_table_44 : decode cX11_table 44 = .ok (.iload_n 1, 1) := by decide +kernel
theorem dX11_table_45 : decode cX11_table 45 = .ok (.invokevirtual 403, 3) := by decide +kernel
theorem dX11_table_48 : decode cX11_table 48 = .ok (.invokestatic 406, 3) := by decide +kernel
theorem dX11_table_51 : decode cX11_table 51 = .ok (.goto 33, 3) := by decide +kernel
theorem dX11_table_54 : decode cX11_table 54 = .ok (.iload_n 3, 1) := by decide +kernel
theorem dX11_table_55 : decode cX11_table 55 = .ok (.iconst 2, 1) := by decide +kernel
theorem dX11_table_56 : decode cX11_table 56 = .ok (.if_icmp .ne 14, 3) := by decide +kernel
theorem dX11_table_59 : decode cX11_table 59 = .ok (.aload_n 0, 1) := by decide +kernel
theorem dX11_table_60 : decode cX11_table 60 = .ok (.iload_n 2, 1) := by decide +kernel
theorem dX11_table_61 : decode cX11_table 61 = .ok (.invokevirtual 409, 3) := by decide +kernel
theorem dX11_table_64 : decode cX11_table 64 = .ok (.invokestatic 406, 3) := by decide +kernel
theorem dX11_table_67 : decode cX11_table 67 = .ok (.goto 17, 3) := by decide +kernel
theorem dX11_table_70 : decode cX11_table 70 = .ok (.aload_n 0, 1) := by decide +kernel
theorem dX11_table_71 : decode cX11_table 71 = .ok (.iload_n 1, 1) := by decide +kernel
theorem dX11_table_72 : decode cX11_table 72 = .ok (.invokevirtual 403, 3) := by decide +kernel
theorem dX11_table_75 : decode cX11_table 75 = .ok (.aload_n 0, 1) := by decide +kernel
theorem dX11_table_76 : decode cX11_table 76 = .ok (.iload_n 2, 1) := by decide +kernel
theorem dX11_table_77 : decode cX11_table 77 = .ok (.invokevirtual 409, 3) := by decide +kernel
theorem dX11_table_80 : decode cX11_table 80 = .ok (.iand, 1) := by decide +kernel
theorem dX11_table_81 : decode cX11_table 81 = .ok (.invokestatic 406, 3) := by decide +kernel
theorem dX11_table_84 : decode cX11_table 84 = .ok (.ireturn, 1) := by decide +kernel
theorem dX11_moreOf_0 : decode cX11_moreOf 0 = .ok (.lconst 0, 1) := by decide +kernel
theorem dX11_moreOf_1 : decode cX11_moreOf 1 = .ok (.lstore 4, 2) := by decide +kernel
theorem dX11_moreOf_3 : decode cX11_moreOf 3 = .ok (.iload_n 3, 1) := by decide +kernel
theorem dX11_moreOf_4 : decode cX11_moreOf 4 = .ok (.istore 6, 2) := by decide +kernel
theorem dX11_moreOf_6 : decode cX11_moreOf 6 = .ok (.iload 6, 2) := by decide +kernel
theorem dX11_moreOf_8 : decode cX11_moreOf 8 = .ok (.iload_n 2, 1) := by decide +kernel
theorem dX11_moreOf_9 : decode cX11_moreOf 9 = .ok (.if_icmp .gt 31, 3) := by decide +kernel
theorem dX11_moreOf_12 : decode cX11_moreOf 12 = .ok (.lload 4, 2) := by decide +kernel
theorem dX11_moreOf_14 : decode cX11_moreOf 14 = .ok (.iload_n 2, 1) := by decide +kernel
theorem dX11_moreOf_15 : decode cX11_moreOf 15 = .ok (.iload 6, 2) := by decide +kernel
theorem dX11_moreOf_17 : decode cX11_moreOf 17 = .ok (.invokestatic 383, 3) := by decide +kernel
theorem dX11_moreOf_20 : decode cX11_moreOf 20 = .ok (.iload_n 0, 1) := by decide +kernel
theorem dX11_moreOf_21 : decode cX11_moreOf 21 = .ok (.iload_n 2, 1) := by decide +kernel
theorem dX11_moreOf_22 : decode cX11_moreOf 22 = .ok (.isub, 1) := by decide +kernel
theorem dX11_moreOf_23 : decode cX11_moreOf 23 = .ok (.iload_n 1, 1) := by decide +kernel
theorem dX11_moreOf_24 : decode cX11_moreOf 24 = .ok (.iload 6, 2) := by decide +kernel
theorem dX11_moreOf_26 : decode cX11_moreOf 26 = .ok (.isub, 1) := by decide +kernel
theorem dX11_moreOf_27 : decode cX11_moreOf 27 = .ok (.invokestatic 383, 3) := by decide +kernel
theorem dX11_moreOf_30 : decode cX11_moreOf 30 = .ok (.lmul, 1) := by decide +kernel
theorem dX11_moreOf_31 : decode cX11_moreOf 31 = .ok (.ladd, 1) := by decide +kernel
theorem dX11_moreOf_32 : decode cX11_moreOf 32 = .ok (.lstore 4, 2) := by decide +kernel
theorem dX11_moreOf_34 : decode cX11_moreOf 34 = .ok (.iinc 6 1, 3) := by decide +kernel
theorem dX11_moreOf_37 : decode cX11_moreOf 37 = .ok (.goto (-31), 3) := by decide +kernel
theorem dX11_moreOf_40 : decode cX11_moreOf 40 = .ok (.lload 4, 2) := by decide +kernel
theorem dX11_moreOf_42 : decode cX11_moreOf 42 = .ok (.lreturn, 1) := by decide +kernel
theorem dX11_moreIn_0 : decode cX11_moreIn 0 = .ok (.aload_n 0, 1) := by decide +kernel
theorem dX11_moreIn_1 : decode cX11_moreIn 1 = .ok (.getfield 310, 3) := by decide +kernel
theorem dX11_moreIn_4 : decode cX11_moreIn 4 = .ok (.iload_n 1, 1) := by decide +kernel
theorem dX11_moreIn_5 : decode cX11_moreIn 5 = .ok (.invokestatic 406, 3) := by decide +kernel
theorem dX11_moreIn_8 : decode cX11_moreIn 8 = .ok (.iload_n 2, 1) := by decide +kernel
theorem dX11_moreIn_9 : decode cX11_moreIn 9 = .ok (.invokestatic 406, 3) := by decide +kernel
theorem dX11_moreIn_12 : decode cX11_moreIn 12 = .ok (.iload_n 1, 1) := by decide +kernel
theorem dX11_moreIn_13 : decode cX11_moreIn 13 = .ok (.iload_n 2, 1) := by decide +kernel
theorem dX11_moreIn_14 : decode cX11_moreIn 14 = .ok (.iand, 1) := by decide +kernel
theorem dX11_moreIn_15 : decode cX11_moreIn 15 = .ok (.invokestatic 406, 3) := by decide +kernel
theorem dX11_moreIn_18 : decode cX11_moreIn 18 = .ok (.invokestatic 412, 3) := by decide +kernel
theorem dX11_moreIn_21 : decode cX11_moreIn 21 = .ok (.lreturn, 1) := by decide +kernel
theorem dX11_allIn_0 : decode cX11_allIn 0 = .ok (.aload_n 0, 1) := by decide +kernel
theorem dX11_allIn_1 : decode cX11_allIn 1 = .ok (.getfield 310, 3) := by decide +kernel
theorem dX11_allIn_4 : decode cX11_allIn 4 = .ok (.iload_n 1, 1) := by decide +kernel
theorem dX11_allIn_5 : decode cX11_allIn 5 = .ok (.invokestatic 406, 3) := by decide +kernel
theorem dX11_allIn_8 : decode cX11_allIn 8 = .ok (.invokestatic 383, 3) := by decide +kernel
theorem dX11_allIn_11 : decode cX11_allIn 11 = .ok (.lreturn, 1) := by decide +kernel
theorem dX11_chances_0 : decode cX11_chances 0 = .ok (.aload_n 0, 1) := by decide +kernel
theorem dX11_chances_1 : decode cX11_chances 1 = .ok (.iload_n 1, 1) := by decide +kernel
theorem dX11_chances_2 : decode cX11_chances 2 = .ok (.invokevirtual 400, 3) := by decide +kernel
theorem dX11_chances_5 : decode cX11_chances 5 = .ok (.ifCond .eq 11, 3) := by decide +kernel
theorem dX11_chances_8 : decode cX11_chances 8 = .ok (.aload_n 0, 1) := by decide +kernel
theorem dX11_chances_9 : decode cX11_chances 9 = .ok (.iload_n 2, 1) := by decide +kernel
theorem dX11_chances_10 : decode cX11_chances 10 = .ok (.invokevirtual 343, 3) := by decide +kernel
theorem dX11_chances_13 : decode cX11_chances 13 = .ok (.ifCond .ne 7, 3) := by decide +kernel
theorem dX11_chances_16 : decode cX11_chances 16 = .ok (.ldc2_w 390, 3) := by decide +kernel
theorem dX11_chances_19 : decode cX11_chances 19 = .ok (.lreturn, 1) := by decide +kernel
theorem dX11_chances_20 : decode cX11_chances 20 = .ok (.iload_n 3, 1) := by decide +kernel
theorem dX11_chances_21 : decode cX11_chances 21 = .ok (.ifCond .eq 20, 3) := by decide +kernel
theorem dX11_chances_24 : decode cX11_chances 24 = .ok (.aload_n 0, 1) := by decide +kernel
theorem dX11_chances_25 : decode cX11_chances 25 = .ok (.aload_n 0, 1) := by decide +kernel
theorem dX11_chances_26 : decode cX11_chances 26 = .ok (.iload_n 1, 1) := by decide +kernel
theorem dX11_chances_27 : decode cX11_chances 27 = .ok (.invokevirtual 403, 3) := by decide +kernel
theorem dX11_chances_30 : decode cX11_chances 30 = .ok (.aload_n 0, 1) := by decide +kernel
theorem dX11_chances_31 : decode cX11_chances 31 = .ok (.iload_n 2, 1) := by decide +kernel
theorem dX11_chances_32 : decode cX11_chances 32 = .ok (.invokevirtual 409, 3) := by decide +kernel
theorem dX11_chances_35 : decode cX11_chances 35 = .ok (.invokevirtual 415, 3) := by decide +kernel
theorem dX11_chances_38 : decode cX11_chances 38 = .ok (.goto 12, 3) := by decide +kernel
theorem dX11_chances_41 : decode cX11_chances 41 = .ok (.aload_n 0, 1) := by decide +kernel
theorem dX11_chances_42 : decode cX11_chances 42 = .ok (.aload_n 0, 1) := by decide +kernel
theorem dX11_chances_43 : decode cX11_chances 43 = .ok (.iload_n 1, 1) := by decide +kernel
theorem dX11_chances_44 : decode cX11_chances 44 = .ok (.invokevirtual 403, 3) := by decide +kernel
theorem dX11_chances_47 : decode cX11_chances 47 = .ok (.invokevirtual 418, 3) := by decide +kernel
theorem dX11_chances_50 : decode cX11_chances 50 = .ok (.lreturn, 1) := by decide +kernel
theorem dX11_classOf_0 : decode cX11_classOf 0 = .ok (.iload_n 2, 1) := by decide +kernel
theorem dX11_classOf_1 : decode cX11_classOf 1 = .ok (.ifCond .ne 14, 3) := by decide +kernel
theorem dX11_classOf_4 : decode cX11_classOf 4 = .ok (.aload_n 0, 1) := by decide +kernel
theorem dX11_classOf_5 : decode cX11_classOf 5 = .ok (.getfield 125, 3) := by decide +kernel
theorem dX11_classOf_8 : decode cX11_classOf 8 = .ok (.iload_n 1, 1) := by decide +kernel
theorem dX11_classOf_9 : decode cX11_classOf 9 = .ok (.iaload, 1) := by decide +kernel
theorem dX11_classOf_10 : decode cX11_classOf 10 = .ok (.iconst 3, 1) := by decide +kernel
theorem dX11_classOf_11 : decode cX11_classOf 11 = .ok (.idiv, 1) := by decide +kernel
theorem dX11_classOf_12 : decode cX11_classOf 12 = .ok (.goto 23, 3) := by decide +kernel
theorem dX11_classOf_15 : decode cX11_classOf 15 = .ok (.iload_n 2, 1) := by decide +kernel
theorem dX11_classOf_16 : decode cX11_classOf 16 = .ok (.iconst 1, 1) := by decide +kernel
theorem dX11_classOf_17 : decode cX11_classOf 17 = .ok (.if_icmp .ne 12, 3) := by decide +kernel
theorem dX11_classOf_20 : decode cX11_classOf 20 = .ok (.aload_n 0, 1) := by decide +kernel
theorem dX11_classOf_21 : decode cX11_classOf 21 = .ok (.getfield 128, 3) := by decide +kernel
theorem dX11_classOf_24 : decode cX11_classOf 24 = .ok (.iload_n 1, 1) := by decide +kernel
theorem dX11_classOf_25 : decode cX11_classOf 25 = .ok (.iaload, 1) := by decide +kernel
theorem dX11_classOf_26 : decode cX11_classOf 26 = .ok (.goto 9, 3) := by decide +kernel
theorem dX11_classOf_29 : decode cX11_classOf 29 = .ok (.aload_n 0, 1) := by decide +kernel
theorem dX11_classOf_30 : decode cX11_classOf 30 = .ok (.getfield 131, 3) := by decide +kernel
theorem dX11_classOf_33 : decode cX11_classOf 33 = .ok (.iload_n 1, 1) := by decide +kernel
theorem dX11_classOf_34 : decode cX11_classOf 34 = .ok (.iaload, 1) := by decide +kernel
theorem dX11_classOf_35 : decode cX11_classOf 35 = .ok (.ireturn, 1) := by decide +kernel
theorem dX11_within_0 : decode cX11_within 0 = .ok (.aload_n 0, 1) := by decide +kernel
theorem dX11_within_1 : decode cX11_within 1 = .ok (.iload_n 1, 1) := by decide +kernel
theorem dX11_within_2 : decode cX11_within 2 = .ok (.invokevirtual 400, 3) := by decide +kernel
theorem dX11_within_5 : decode cX11_within 5 = .ok (.ifCond .eq 20, 3) := by decide +kernel
theorem dX11_within_8 : decode cX11_within 8 = .ok (.aload_n 0, 1) := by decide +kernel
theorem dX11_within_9 : decode cX11_within 9 = .ok (.iload_n 2, 1) := by decide +kernel
theorem dX11_within_10 : decode cX11_within 10 = .ok (.invokevirtual 343, 3) := by decide +kernel
theorem dX11_within_13 : decode cX11_within 13 = .ok (.ifCond .eq 12, 3) := by decide +kernel
theorem dX11_within_16 : decode cX11_within 16 = .ok (.iload_n 3, 1) := by decide +kernel
theorem dX11_within_17 : decode cX11_within 17 = .ok (.iconst 0, 1) := by decide +kernel
theorem dX11_within_18 : decode cX11_within 18 = .ok (.iconst 2, 1) := by decide +kernel
theorem dX11_within_19 : decode cX11_within 19 = .ok (.invokestatic 313, 3) := by decide +kernel
theorem dX11_within_22 : decode cX11_within 22 = .ok (.ifCond .ne 7, 3) := by decide +kernel
theorem dX11_within_25 : decode cX11_within 25 = .ok (.ldc2_w 390, 3) := by decide +kernel
theorem dX11_within_28 : decode cX11_within 28 = .ok (.lreturn, 1) := by decide +kernel
theorem dX11_within_29 : decode cX11_within 29 = .ok (.aload_n 0, 1) := by decide +kernel
theorem dX11_within_30 : decode cX11_within 30 = .ok (.iload_n 1, 1) := by decide +kernel
theorem dX11_within_31 : decode cX11_within 31 = .ok (.invokevirtual 403, 3) := by decide +kernel
theorem dX11_within_34 : decode cX11_within 34 = .ok (.istore 5, 2) := by decide +kernel
theorem dX11_within_36 : decode cX11_within 36 = .ok (.aload_n 0, 1) := by decide +kernel
theorem dX11_within_37 : decode cX11_within 37 = .ok (.iload_n 2, 1) := by decide +kernel
theorem dX11_within_38 : decode cX11_within 38 = .ok (.invokevirtual 409, 3) := by decide +kernel
theorem dX11_within_41 : decode cX11_within 41 = .ok (.istore 6, 2) := by decide +kernel
theorem dX11_within_43 : decode cX11_within 43 = .ok (.iconst 0, 1) := by decide +kernel
theorem dX11_within_44 : decode cX11_within 44 = .ok (.istore 7, 2) := by decide +kernel
theorem dX11_within_46 : decode cX11_within 46 = .ok (.iload 7, 2) := by decide +kernel
theorem dX11_within_48 : decode cX11_within 48 = .ok (.bipush 21, 2) := by decide +kernel
theorem dX11_within_50 : decode cX11_within 50 = .ok (.if_icmp .ge 26, 3) := by decide +kernel
theorem dX11_within_53 : decode cX11_within 53 = .ok (.aload_n 0, 1) := by decide +kernel
theorem dX11_within_54 : decode cX11_within 54 = .ok (.getfield 140, 3) := by decide +kernel
theorem dX11_within_57 : decode cX11_within 57 = .ok (.iload 7, 2) := by decide +kernel
theorem dX11_within_59 : decode cX11_within 59 = .ok (.iload 7, 2) := by decide +kernel
theorem dX11_within_61 : decode cX11_within 61 = .ok (.ifCond .ne 7, 3) := by decide +kernel
theorem dX11_within_64 : decode cX11_within 64 = .ok (.lconst 1, 1) := by decide +kernel
theorem dX11_within_65 : decode cX11_within 65 = .ok (.goto 4, 3) := by decide +kernel
theorem dX11_within_68 : decode cX11_within 68 = .ok (.lconst 0, 1) := by decide +kernel
theorem dX11_within_69 : decode cX11_within 69 = .ok (.lastore, 1) := by decide +kernel
theorem dX11_within_70 : decode cX11_within 70 = .ok (.iinc 7 1, 3) := by decide +kernel
theorem dX11_within_73 : decode cX11_within 73 = .ok (.goto (-27), 3) := by decide +kernel
theorem dX11_within_76 : decode cX11_within 76 = .ok (.iconst 0, 1) := by decide +kernel
theorem dX11_within_77 : decode cX11_within 77 = .ok (.istore 7, 2) := by decide +kernel
theorem dX11_within_79 : decode cX11_within 79 = .ok (.iload 7, 2) := by decide +kernel
theorem dX11_within_81 : decode cX11_within 81 = .ok (.bipush 10, 2) := by decide +kernel
theorem dX11_within_83 : decode cX11_within 83 = .ok (.if_icmp .ge 216, 3) := by decide +kernel
theorem dX11_within_86 : decode cX11_within 86 = .ok (.iconst 0, 1) := by decide +kernel
theorem dX11_within_87 : decode cX11_within 87 = .ok (.istore 8, 2) := by decide +kernel
theorem dX11_within_89 : decode cX11_within 89 = .ok (.iconst 0, 1) := by decide +kernel
theorem dX11_within_90 : decode cX11_within 90 = .ok (.istore 9, 2) := by decide +kernel
theorem dX11_within_92 : decode cX11_within 92 = .ok (.iload 9, 2) := by decide +kernel
theorem dX11_within_94 : decode cX11_within 94 = .ok (.aload_n 0, 1) := by decide +kernel
theorem dX11_within_95 : decode cX11_within 95 = .ok (.getfield 310, 3) := by decide +kernel
theorem dX11_within_98 : decode cX11_within 98 = .ok (.if_icmp .ge 30, 3) := by decide +kernel
theorem dX11_within_101 : decode cX11_within 101 = .ok (.aload_n 0, 1) := by decide +kernel
theorem dX11_within_102 : decode cX11_within 102 = .ok (.iload 9, 2) := by decide +kernel
theorem dX11_within_104 : decode cX11_within 104 = .ok (.iload_n 3, 1) := by decide +kernel
theorem dX11_within_105 : decode cX11_within 105 = .ok (.invokevirtual 422, 3) := by decide +kernel
theorem dX11_within_108 : decode cX11_within 108 = .ok (.iload 7, 2) := by decide +kernel
theorem dX11_within_110 : decode cX11_within 110 = .ok (.if_icmp .ne 12, 3) := by decide +kernel
theorem dX11_within_113 : decode cX11_within 113 = .ok (.iload 8, 2) := by decide +kernel
theorem dX11_within_115 : decode cX11_within 115 = .ok (.iconst 1, 1) := by decide +kernel
theorem dX11_within_116 : decode cX11_within 116 = .ok (.iload 9, 2) := by decide +kernel
theorem dX11_within_118 : decode cX11_within 118 = .ok (.ishl, 1) := by decide +kernel
theorem dX11_within_119 : decode cX11_within 119 = .ok (.ior, 1) := by decide +kernel
theorem dX11_within_120 : decode cX11_within 120 = .ok (.istore 8, 2) := by decide +kernel
theorem dX11_within_122 : decode cX11_within 122 = .ok (.iinc 9 1, 3) := by decide +kernel
theorem dX11_within_125 : decode cX11_within 125 = .ok (.goto (-33), 3) := by decide +kernel
theorem dX11_within_128 : decode cX11_within 128 = .ok (.iload 8, 2) := by decide +kernel
theorem dX11_within_130 : decode cX11_within 130 = .ok (.invokestatic 406, 3) := by decide +kernel
theorem dX11_within_133 : decode cX11_within 133 = .ok (.istore 9, 2) := by decide +kernel
theorem dX11_within_135 : decode cX11_within 135 = .ok (.iload 8, 2) := by decide +kernel
theorem dX11_within_137 : decode cX11_within 137 = .ok (.iload 5, 2) := by decide +kernel
theorem dX11_within_139 : decode cX11_within 139 = .ok (.iand, 1) := by decide +kernel
theorem dX11_within_140 : decode cX11_within 140 = .ok (.invokestatic 406, 3) := by decide +kernel
theorem dX11_within_143 : decode cX11_within 143 = .ok (.istore 10, 2) := by decide +kernel
theorem dX11_within_145 : decode cX11_within 145 = .ok (.iload 8, 2) := by decide +kernel
theorem dX11_within_147 : decode cX11_within 147 = .ok (.iload 6, 2) := by decide +kernel
theorem dX11_within_149 : decode cX11_within 149 = .ok (.iand, 1) := by decide +kernel
theorem dX11_within_150 : decode cX11_within 150 = .ok (.invokestatic 406, 3) := by decide +kernel
theorem dX11_within_153 : decode cX11_within 153 = .ok (.istore 11, 2) := by decide +kernel
theorem dX11_within_155 : decode cX11_within 155 = .ok (.iconst 0, 1) := by decide +kernel
theorem dX11_within_156 : decode cX11_within 156 = .ok (.istore 12, 2) := by decide +kernel
theorem dX11_within_158 : decode cX11_within 158 = .ok (.iload 12, 2) := by decide +kernel
theorem dX11_within_160 : decode cX11_within 160 = .ok (.bipush 21, 2) := by decide +kernel
theorem dX11_within_162 : decode cX11_within 162 = .ok (.if_icmp .ge 17, 3) := by decide +kernel
theorem dX11_within_165 : decode cX11_within 165 = .ok (.aload_n 0, 1) := by decide +kernel
theorem dX11_within_166 : decode cX11_within 166 = .ok (.getfield 143, 3) := by decide +kernel
theorem dX11_within_169 : decode cX11_within 169 = .ok (.iload 12, 2) := by decide +kernel
theorem dX11_within_171 : decode cX11_within 171 = .ok (.lconst 0, 1) := by decide +kernel
theorem dX11_within_172 : decode cX11_within 172 = .ok (.lastore, 1) := by decide +kernel
theorem dX11_within_173 : decode cX11_within 173 = .ok (.iinc 12 1, 3) := by decide +kernel
theorem dX11_within_176 : decode cX11_within 176 = .ok (.goto (-18), 3) := by decide +kernel
theorem dX11_within_179 : decode cX11_within 179 = .ok (.iconst 0, 1) := by decide +kernel
theorem dX11_within_180 : decode cX11_within 180 = .ok (.istore 12, 2) := by decide +kernel
theorem dX11_within_182 : decode cX11_within 182 = .ok (.iload 12, 2) := by decide +kernel
theorem dX11_within_184 : decode cX11_within 184 = .ok (.bipush 21, 2) := by decide +kernel
theorem dX11_within_186 : decode cX11_within 186 = .ok (.if_icmp .ge 77, 3) := by decide +kernel
theorem dX11_within_189 : decode cX11_within 189 = .ok (.iconst 0, 1) := by decide +kernel
theorem dX11_within_190 : decode cX11_within 190 = .ok (.istore 13, 2) := by decide +kernel
theorem dX11_within_192 : decode cX11_within 192 = .ok (.iload 13, 2) := by decide +kernel
theorem dX11_within_194 : decode cX11_within 194 = .ok (.iload 11, 2) := by decide +kernel
theorem dX11_within_196 : decode cX11_within 196 = .ok (.if_icmp .gt 61, 3) := by decide +kernel
theorem dX11_within_199 : decode cX11_within 199 = .ok (.iload 12, 2) := by decide +kernel
theorem dX11_within_201 : decode cX11_within 201 = .ok (.iload 13, 2) := by decide +kernel
theorem dX11_within_203 : decode cX11_within 203 = .ok (.iadd, 1) := by decide +kernel
theorem dX11_within_204 : decode cX11_within 204 = .ok (.bipush 21, 2) := by decide +kernel
theorem dX11_within_206 : decode cX11_within 206 = .ok (.if_icmp .ge 51, 3) := by decide +kernel
theorem dX11_within_209 : decode cX11_within 209 = .ok (.aload_n 0, 1) := by decide +kernel
theorem dX11_within_210 : decode cX11_within 210 = .ok (.getfield 143, 3) := by decide +kernel
theorem dX11_within_213 : decode cX11_within 213 = .ok (.iload 12, 2) := by decide +kernel
theorem dX11_within_215 : decode cX11_within 215 = .ok (.iload 13, 2) := by decide +kernel
theorem dX11_within_217 : decode cX11_within 217 = .ok (.iadd, 1) := by decide +kernel
theorem dX11_within_218 : decode cX11_within 218 = .ok (.dup2, 1) := by decide +kernel
theorem dX11_within_219 : decode cX11_within 219 = .ok (.laload, 1) := by decide +kernel
theorem dX11_within_220 : decode cX11_within 220 = .ok (.aload_n 0, 1) := by decide +kernel
theorem dX11_within_221 : decode cX11_within 221 = .ok (.getfield 140, 3) := by decide +kernel
theorem dX11_within_224 : decode cX11_within 224 = .ok (.iload 12, 2) := by decide +kernel
theorem dX11_within_226 : decode cX11_within 226 = .ok (.laload, 1) := by decide +kernel
theorem dX11_within_227 : decode cX11_within 227 = .ok (.iload 11, 2) := by decide +kernel
theorem dX11_within_229 : decode cX11_within 229 = .ok (.iload 13, 2) := by decide +kernel
theorem dX11_within_231 : decode cX11_within 231 = .ok (.invokestatic 383, 3) := by decide +kernel
theorem dX11_within_234 : decode cX11_within 234 = .ok (.lmul, 1) := by decide +kernel
theorem dX11_within_235 : decode cX11_within 235 = .ok (.iload 9, 2) := by decide +kernel
theorem dX11_within_237 : decode cX11_within 237 = .ok (.iload 11, 2) := by decide +kernel
theorem dX11_within_239 : decode cX11_within 239 = .ok (.isub, 1) := by decide +kernel
theorem dX11_within_240 : decode cX11_within 240 = .ok (.iload 10, 2) := by decide +kernel
theorem dX11_within_242 : decode cX11_within 242 = .ok (.iload 13, 2) := by decide +kernel
theorem dX11_within_244 : decode cX11_within 244 = .ok (.isub, 1) := by decide +kernel
theorem dX11_within_245 : decode cX11_within 245 = .ok (.invokestatic 383, 3) := by decide +kernel
theorem dX11_within_248 : decode cX11_within 248 = .ok (.lmul, 1) := by decide +kernel
theorem dX11_within_249 : decode cX11_within 249 = .ok (.ladd, 1) := by decide +kernel
theorem dX11_within_250 : decode cX11_within 250 = .ok (.lastore, 1) := by decide +kernel
theorem dX11_within_251 : decode cX11_within 251 = .ok (.iinc 13 1, 3) := by decide +kernel
theorem dX11_within_254 : decode cX11_within 254 = .ok (.goto (-62), 3) := by decide +kernel
theorem dX11_within_257 : decode cX11_within 257 = .ok (.iinc 12 1, 3) := by decide +kernel
theorem dX11_within_260 : decode cX11_within 260 = .ok (.goto (-78), 3) := by decide +kernel
theorem dX11_within_263 : decode cX11_within 263 = .ok (.iconst 0, 1) := by decide +kernel
theorem dX11_within_264 : decode cX11_within 264 = .ok (.istore 12, 2) := by decide +kernel
theorem dX11_within_266 : decode cX11_within 266 = .ok (.iload 12, 2) := by decide +kernel
theorem dX11_within_268 : decode cX11_within 268 = .ok (.bipush 21, 2) := by decide +kernel
theorem dX11_within_270 : decode cX11_within 270 = .ok (.if_icmp .ge 23, 3) := by decide +kernel
theorem dX11_within_273 : decode cX11_within 273 = .ok (.aload_n 0, 1) := by decide +kernel
theorem dX11_within_274 : decode cX11_within 274 = .ok (.getfield 140, 3) := by decide +kernel
theorem dX11_within_277 : decode cX11_within 277 = .ok (.iload 12, 2) := by decide +kernel
theorem dX11_within_279 : decode cX11_within 279 = .ok (.aload_n 0, 1) := by decide +kernel
theorem dX11_within_280 : decode cX11_within 280 = .ok (.getfield 143, 3) := by decide +kernel
theorem dX11_within_283 : decode cX11_within 283 = .ok (.iload 12, 2) := by decide +kernel
theorem dX11_within_285 : decode cX11_within 285 = .ok (.laload, 1) := by decide +kernel
theorem dX11_within_286 : decode cX11_within 286 = .ok (.lastore, 1) := by decide +kernel
theorem dX11_within_287 : decode cX11_within 287 = .ok (.iinc 12 1, 3) := by decide +kernel
theorem dX11_within_290 : decode cX11_within 290 = .ok (.goto (-24), 3) := by decide +kernel
theorem dX11_within_293 : decode cX11_within 293 = .ok (.iinc 7 1, 3) := by decide +kernel
theorem dX11_within_296 : decode cX11_within 296 = .ok (.goto (-217), 3) := by decide +kernel
theorem dX11_within_299 : decode cX11_within 299 = .ok (.lconst 0, 1) := by decide +kernel
theorem dX11_within_300 : decode cX11_within 300 = .ok (.lstore 7, 2) := by decide +kernel
theorem dX11_within_302 : decode cX11_within 302 = .ok (.iload 4, 2) := by decide +kernel
theorem dX11_within_304 : decode cX11_within 304 = .ok (.ifCond .eq 14, 3) := by decide +kernel
theorem dX11_within_307 : decode cX11_within 307 = .ok (.iload 5, 2) := by decide +kernel
theorem dX11_within_309 : decode cX11_within 309 = .ok (.iload 6, 2) := by decide +kernel
theorem dX11_within_311 : decode cX11_within 311 = .ok (.iand, 1) := by decide +kernel
theorem dX11_within_312 : decode cX11_within 312 = .ok (.invokestatic 406, 3) := by decide +kernel
theorem dX11_within_315 : decode cX11_within 315 = .ok (.goto 4, 3) := by decide +kernel
theorem dX11_within_318 : decode cX11_within 318 = .ok (.iconst 0, 1) := by decide +kernel
theorem dX11_within_319 : decode cX11_within 319 = .ok (.istore 9, 2) := by decide +kernel
theorem dX11_within_321 : decode cX11_within 321 = .ok (.iload 9, 2) := by decide +kernel
theorem dX11_within_323 : decode cX11_within 323 = .ok (.bipush 21, 2) := by decide +kernel
theorem dX11_within_325 : decode cX11_within 325 = .ok (.if_icmp .ge 21, 3) := by decide +kernel
theorem dX11_within_328 : decode cX11_within 328 = .ok (.lload 7, 2) := by decide +kernel
theorem dX11_within_330 : decode cX11_within 330 = .ok (.aload_n 0, 1) := by decide +kernel
theorem dX11_within_331 : decode cX11_within 331 = .ok (.getfield 140, 3) := by decide +kernel
theorem dX11_within_334 : decode cX11_within 334 = .ok (.iload 9, 2) := by decide +kernel
theorem dX11_within_336 : decode cX11_within 336 = .ok (.laload, 1) := by decide +kernel
theorem dX11_within_337 : decode cX11_within 337 = .ok (.ladd, 1) := by decide +kernel
theorem dX11_within_338 : decode cX11_within 338 = .ok (.lstore 7, 2) := by decide +kernel
theorem dX11_within_340 : decode cX11_within 340 = .ok (.iinc 9 1, 3) := by decide +kernel
theorem dX11_within_343 : decode cX11_within 343 = .ok (.goto (-22), 3) := by decide +kernel
theorem dX11_within_346 : decode cX11_within 346 = .ok (.lload 7, 2) := by decide +kernel
theorem dX11_within_348 : decode cX11_within 348 = .ok (.lreturn, 1) := by decide +kernel
theorem dX11_striking_0 : decode cX11_striking 0 = .ok (.iconst (-1), 1) := by decide +kernel
theorem dX11_striking_1 : decode cX11_striking 1 = .ok (.istore_n 1, 1) := by decide +kernel
theorem dX11_striking_2 : decode cX11_striking 2 = .ok (.lconst 0, 1) := by decide +kernel
theorem dX11_striking_3 : decode cX11_striking 3 = .ok (.lstore_n 2, 1) := by decide +kernel
theorem dX11_striking_4 : decode cX11_striking 4 = .ok (.lconst 1, 1) := by decide +kernel
theorem dX11_striking_5 : decode cX11_striking 5 = .ok (.lstore 4, 2) := by decide +kernel
theorem dX11_striking_7 : decode cX11_striking 7 = .ok (.iconst 0, 1) := by decide +kernel
theorem dX11_striking_8 : decode cX11_striking 8 = .ok (.istore 6, 2) := by decide +kernel
theorem dX11_striking_10 : decode cX11_striking 10 = .ok (.iload 6, 2) := by decide +kernel
theorem dX11_striking_12 : decode cX11_striking 12 = .ok (.aload_n 0, 1) := by decide +kernel
theorem dX11_striking_13 : decode cX11_striking 13 = .ok (.getfield 49, 3) := by decide +kernel
theorem dX11_striking_16 : decode cX11_striking 16 = .ok (.aload_n 0, 1) := by decide +kernel
theorem dX11_striking_17 : decode cX11_striking 17 = .ok (.getfield 230, 3) := by decide +kernel
theorem dX11_striking_20 : decode cX11_striking 20 = .ok (.iaload, 1) := by decide +kernel
theorem dX11_striking_21 : decode cX11_striking 21 = .ok (.if_icmp .ge 99, 3) := by decide +kernel
theorem dX11_striking_24 : decode cX11_striking 24 = .ok (.iconst 0, 1) := by decide +kernel
theorem dX11_striking_25 : decode cX11_striking 25 = .ok (.istore 7, 2) := by decide +kernel
theorem dX11_striking_27 : decode cX11_striking 27 = .ok (.iload 7, 2) := by decide +kernel
theorem dX11_striking_29 : decode cX11_striking 29 = .ok (.aload_n 0, 1) := by decide +kernel
theorem dX11_striking_30 : decode cX11_striking 30 = .ok (.getfield 52, 3) := by decide +kernel
theorem dX11_striking_33 : decode cX11_striking 33 = .ok (.aload_n 0, 1) := by decide +kernel
theorem dX11_striking_34 : decode cX11_striking 34 = .ok (.getfield 230, 3) := by decide +kernel
theorem dX11_striking_37 : decode cX11_striking 37 = .ok (.iaload, 1) := by decide +kernel
theorem dX11_striking_38 : decode cX11_striking 38 = .ok (.if_icmp .ge 76, 3) := by decide +kernel
theorem dX11_striking_41 : decode cX11_striking 41 = .ok (.aload_n 0, 1) := by decide +kernel
theorem dX11_striking_42 : decode cX11_striking 42 = .ok (.aload_n 0, 1) := by decide +kernel
theorem dX11_striking_43 : decode cX11_striking 43 = .ok (.iload 6, 2) := by decide +kernel
theorem dX11_striking_45 : decode cX11_striking 45 = .ok (.invokevirtual 403, 3) := by decide +kernel
theorem dX11_striking_48 : decode cX11_striking 48 = .ok (.aload_n 0, 1) := by decide +kernel
theorem dX11_striking_49 : decode cX11_striking 49 = .ok (.iload 7, 2) := by decide +kernel
theorem dX11_striking_51 : decode cX11_striking 51 = .ok (.invokevirtual 409, 3) := by decide +kernel
theorem dX11_striking_54 : decode cX11_striking 54 = .ok (.invokevirtual 415, 3) := by decide +kernel
theorem dX11_striking_57 : decode cX11_striking 57 = .ok (.lstore 8, 2) := by decide +kernel
theorem dX11_striking_59 : decode cX11_striking 59 = .ok (.aload_n 0, 1) := by decide +kernel
theorem dX11_striking_60 : decode cX11_striking 60 = .ok (.aload_n 0, 1) := by decide +kernel
theorem dX11_striking_61 : decode cX11_striking 61 = .ok (.iload 6, 2) := by decide +kernel
theorem dX11_striking_63 : decode cX11_striking 63 = .ok (.invokevirtual 403, 3) := by decide +kernel
theorem dX11_striking_66 : decode cX11_striking 66 = .ok (.invokevirtual 418, 3) := by decide +kernel
theorem dX11_striking_69 : decode cX11_striking 69 = .ok (.lstore 10, 2) := by decide +kernel
theorem dX11_striking_71 : decode cX11_striking 71 = .ok (.iload_n 1, 1) := by decide +kernel
theorem dX11_striking_72 : decode cX11_striking 72 = .ok (.iconst (-1), 1) := by decide +kernel
theorem dX11_striking_73 : decode cX11_striking 73 = .ok (.if_icmp .eq 19, 3) := by decide +kernel
theorem dX11_striking_76 : decode cX11_striking 76 = .ok (.lload 8, 2) := by decide +kernel
theorem dX11_striking_78 : decode cX11_striking 78 = .ok (.lload 4, 2) := by decide +kernel
theorem dX11_striking_80 : decode cX11_striking 80 = .ok (.lmul, 1) := by decide +kernel
theorem dX11_striking_81 : decode cX11_striking 81 = .ok (.lload_n 2, 1) := by decide +kernel
theorem dX11_striking_82 : decode cX11_striking 82 = .ok (.lload 10, 2) := by decide +kernel
theorem dX11_striking_84 : decode cX11_striking 84 = .ok (.lmul, 1) := by decide +kernel
theorem dX11_striking_85 : decode cX11_striking 85 = .ok (.lcmp, 1) := by decide +kernel
theorem dX11_striking_86 : decode cX11_striking 86 = .ok (.ifCond .lt 6, 3) := by decide +kernel
theorem dX11_striking_89 : decode cX11_striking 89 = .ok (.goto 19, 3) := by decide +kernel
theorem dX11_striking_92 : decode cX11_striking 92 = .ok (.bipush 100, 2) := by decide +kernel
theorem dX11_striking_94 : decode cX11_striking 94 = .ok (.iload 6, 2) := by decide +kernel
theorem dX11_striking_96 : decode cX11_striking 96 = .ok (.imul, 1) := by decide +kernel
theorem dX11_striking_97 : decode cX11_striking 97 = .ok (.iload 7, 2) := by decide +kernel
theorem dX11_striking_99 : decode cX11_striking 99 = .ok (.iadd, 1) := by decide +kernel
theorem dX11_striking_100 : decode cX11_striking 100 = .ok (.istore_n 1, 1) := by decide +kernel
theorem dX11_striking_101 : decode cX11_striking 101 = .ok (.lload 8, 2) := by decide +kernel
theorem dX11_striking_103 : decode cX11_striking 103 = .ok (.lstore_n 2, 1) := by decide +kernel
theorem dX11_striking_104 : decode cX11_striking 104 = .ok (.lload 10, 2) := by decide +kernel
theorem dX11_striking_106 : decode cX11_striking 106 = .ok (.lstore 4, 2) := by decide +kernel
theorem dX11_striking_108 : decode cX11_striking 108 = .ok (.iinc 7 1, 3) := by decide +kernel
theorem dX11_striking_111 : decode cX11_striking 111 = .ok (.goto (-84), 3) := by decide +kernel
theorem dX11_striking_114 : decode cX11_striking 114 = .ok (.iinc 6 1, 3) := by decide +kernel
theorem dX11_striking_117 : decode cX11_striking 117 = .ok (.goto (-107), 3) := by decide +kernel
theorem dX11_striking_120 : decode cX11_striking 120 = .ok (.iload_n 1, 1) := by decide +kernel
theorem dX11_striking_121 : decode cX11_striking 121 = .ok (.ireturn, 1) := by decide +kernel
theorem dX11_bound_0 : decode cX11_bound 0 = .ok (.iload_n 1, 1) := by decide +kernel
theorem dX11_bound_1 : decode cX11_bound 1 = .ok (.iconst 1, 1) := by decide +kernel
theorem dX11_bound_2 : decode cX11_bound 2 = .ok (.sipush 10000, 3) := by decide +kernel
theorem dX11_bound_5 : decode cX11_bound 5 = .ok (.invokestatic 313, 3) := by decide +kernel
theorem dX11_bound_8 : decode cX11_bound 8 = .ok (.ifCond .ne 5, 3) := by decide +kernel
theorem dX11_bound_11 : decode cX11_bound 11 = .ok (.iconst (-1), 1) := by decide +kernel
theorem dX11_bound_12 : decode cX11_bound 12 = .ok (.ireturn, 1) := by decide +kernel
theorem dX11_bound_13 : decode cX11_bound 13 = .ok (.iconst 0, 1) := by decide +kernel
theorem dX11_bound_14 : decode cX11_bound 14 = .ok (.istore_n 2, 1) := by decide +kernel
theorem dX11_bound_15 : decode cX11_bound 15 = .ok (.iconst 0, 1) := by decide +kernel
theorem dX11_bound_16 : decode cX11_bound 16 = .ok (.istore_n 3, 1) := by decide +kernel
theorem dX11_bound_17 : decode cX11_bound 17 = .ok (.iload_n 3, 1) := by decide +kernel
theorem dX11_bound_18 : decode cX11_bound 18 = .ok (.aload_n 0, 1) := by decide +kernel
theorem dX11_bound_19 : decode cX11_bound 19 = .ok (.getfield 49, 3) := by decide +kernel
theorem dX11_bound_22 : decode cX11_bound 22 = .ok (.aload_n 0, 1) := by decide +kernel
theorem dX11_bound_23 : decode cX11_bound 23 = .ok (.getfield 230, 3) := by decide +kernel
theorem dX11_bound_26 : decode cX11_bound 26 = .ok (.iaload, 1) := by decide +kernel
theorem dX11_bound_27 : decode cX11_bound 27 = .ok (.if_icmp .ge 66, 3) := by decide +kernel
theorem dX11_bound_30 : decode cX11_bound 30 = .ok (.iconst 0, 1) := by decide +kernel
theorem dX11_bound_31 : decode cX11_bound 31 = .ok (.istore 4, 2) := by decide +kernel
theorem dX11_bound_33 : decode cX11_bound 33 = .ok (.iload 4, 2) := by decide +kernel
theorem dX11_bound_35 : decode cX11_bound 35 = .ok (.aload_n 0, 1) := by decide +kernel
theorem dX11_bound_36 : decode cX11_bound 36 = .ok (.getfield 52, 3) := by decide +kernel
theorem dX11_bound_39 : decode cX11_bound 39 = .ok (.aload_n 0, 1) := by decide +kernel
theorem dX11_bound_40 : decode cX11_bound 40 = .ok (.getfield 230, 3) := by decide +kernel
theorem dX11_bound_43 : decode cX11_bound 43 = .ok (.iaload, 1) := by decide +kernel
theorem dX11_bound_44 : decode cX11_bound 44 = .ok (.if_icmp .ge 43, 3) := by decide +kernel
theorem dX11_bound_47 : decode cX11_bound 47 = .ok (.aload_n 0, 1) := by decide +kernel
theorem dX11_bound_48 : decode cX11_bound 48 = .ok (.aload_n 0, 1) := by decide +kernel
theorem dX11_bound_49 : decode cX11_bound 49 = .ok (.iload_n 3, 1) := by decide +kernel
theorem dX11_bound_50 : decode cX11_bound 50 = .ok (.invokevirtual 403, 3) := by decide +kernel
theorem dX11_bound_53 : decode cX11_bound 53 = .ok (.aload_n 0, 1) := by decide +kernel
theorem dX11_bound_54 : decode cX11_bound 54 = .ok (.iload 4, 2) := by decide +kernel
theorem dX11_bound_56 : decode cX11_bound 56 = .ok (.invokevirtual 409, 3) := by decide +kernel
theorem dX11_bound_59 : decode cX11_bound 59 = .ok (.invokevirtual 415, 3) := by decide +kernel
theorem dX11_bound_62 : decode cX11_bound 62 = .ok (.iload_n 1, 1) := by decide +kernel
theorem dX11_bound_63 : decode cX11_bound 63 = .ok (.i2l, 1) := by decide +kernel
theorem dX11_bound_64 : decode cX11_bound 64 = .ok (.lmul, 1) := by decide +kernel
theorem dX11_bound_65 : decode cX11_bound 65 = .ok (.aload_n 0, 1) := by decide +kernel
theorem dX11_bound_66 : decode cX11_bound 66 = .ok (.aload_n 0, 1) := by decide +kernel
theorem dX11_bound_67 : decode cX11_bound 67 = .ok (.iload_n 3, 1) := by decide +kernel
theorem dX11_bound_68 : decode cX11_bound 68 = .ok (.invokevirtual 403, 3) := by decide +kernel
theorem dX11_bound_71 : decode cX11_bound 71 = .ok (.invokevirtual 418, 3) := by decide +kernel
theorem dX11_bound_74 : decode cX11_bound 74 = .ok (.lcmp, 1) := by decide +kernel
theorem dX11_bound_75 : decode cX11_bound 75 = .ok (.ifCond .gt 6, 3) := by decide +kernel
theorem dX11_bound_78 : decode cX11_bound 78 = .ok (.iinc 2 1, 3) := by decide +kernel
theorem dX11_bound_81 : decode cX11_bound 81 = .ok (.iinc 4 1, 3) := by decide +kernel
theorem dX11_bound_84 : decode cX11_bound 84 = .ok (.goto (-51), 3) := by decide +kernel
theorem dX11_bound_87 : decode cX11_bound 87 = .ok (.iinc 3 1, 3) := by decide +kernel
theorem dX11_bound_90 : decode cX11_bound 90 = .ok (.goto (-73), 3) := by decide +kernel
theorem dX11_bound_93 : decode cX11_bound 93 = .ok (.iload_n 2, 1) := by decide +kernel
theorem dX11_bound_94 : decode cX11_bound 94 = .ok (.ireturn, 1) := by decide +kernel
theorem dX11_fact_0 : decode cX11_fact 0 = .ok (.aload_n 0, 1) := by decide +kernel
theorem dX11_fact_1 : decode cX11_fact 1 = .ok (.getfield 146, 3) := by decide +kernel
theorem dX11_fact_4 : decode cX11_fact 4 = .ok (.aload_n 0, 1) := by decide +kernel
theorem dX11_fact_5 : decode cX11_fact 5 = .ok (.getfield 425, 3) := by decide +kernel
theorem dX11_fact_8 : decode cX11_fact 8 = .ok (.iload_n 1, 1) := by decide +kernel
theorem dX11_fact_9 : decode cX11_fact 9 = .ok (.iastore, 1) := by decide +kernel
theorem dX11_fact_10 : decode cX11_fact 10 = .ok (.aload_n 0, 1) := by decide +kernel
theorem dX11_fact_11 : decode cX11_fact 11 = .ok (.getfield 149, 3) := by decide +kernel
theorem dX11_fact_14 : decode cX11_fact 14 = .ok (.aload_n 0, 1) := by decide +kernel
theorem dX11_fact_15 : decode cX11_fact 15 = .ok (.getfield 425, 3) := by decide +kernel
theorem dX11_fact_18 : decode cX11_fact 18 = .ok (.iload_n 2, 1) := by decide +kernel
theorem dX11_fact_19 : decode cX11_fact 19 = .ok (.iastore, 1) := by decide +kernel
theorem dX11_fact_20 : decode cX11_fact 20 = .ok (.aload_n 0, 1) := by decide +kernel
theorem dX11_fact_21 : decode cX11_fact 21 = .ok (.getfield 152, 3) := by decide +kernel
theorem dX11_fact_24 : decode cX11_fact 24 = .ok (.aload_n 0, 1) := by decide +kernel
theorem dX11_fact_25 : decode cX11_fact 25 = .ok (.getfield 425, 3) := by decide +kernel
theorem dX11_fact_28 : decode cX11_fact 28 = .ok (.iload_n 3, 1) := by decide +kernel
theorem dX11_fact_29 : decode cX11_fact 29 = .ok (.iastore, 1) := by decide +kernel
theorem dX11_fact_30 : decode cX11_fact 30 = .ok (.aload_n 0, 1) := by decide +kernel
theorem dX11_fact_31 : decode cX11_fact 31 = .ok (.getfield 155, 3) := by decide +kernel
theorem dX11_fact_34 : decode cX11_fact 34 = .ok (.aload_n 0, 1) := by decide +kernel
theorem dX11_fact_35 : decode cX11_fact 35 = .ok (.getfield 425, 3) := by decide +kernel
theorem dX11_fact_38 : decode cX11_fact 38 = .ok (.iload 4, 2) := by decide +kernel
theorem dX11_fact_40 : decode cX11_fact 40 = .ok (.bastore, 1) := by decide +kernel
theorem dX11_fact_41 : decode cX11_fact 41 = .ok (.aload_n 0, 1) := by decide +kernel
theorem dX11_fact_42 : decode cX11_fact 42 = .ok (.dup, 1) := by decide +kernel
theorem dX11_fact_43 : decode cX11_fact 43 = .ok (.getfield 425, 3) := by decide +kernel
theorem dX11_fact_46 : decode cX11_fact 46 = .ok (.iconst 1, 1) := by decide +kernel
theorem dX11_fact_47 : decode cX11_fact 47 = .ok (.iadd, 1) := by decide +kernel
theorem dX11_fact_48 : decode cX11_fact 48 = .ok (.putfield 425, 3) := by decide +kernel
theorem dX11_fact_51 : decode cX11_fact 51 = .ok (.aload_n 0, 1) := by decide +kernel
theorem dX11_fact_52 : decode cX11_fact 52 = .ok (.getfield 425, 3) := by decide +kernel
theorem dX11_fact_55 : decode cX11_fact 55 = .ok (.iconst 1, 1) := by decide +kernel
theorem dX11_fact_56 : decode cX11_fact 56 = .ok (.isub, 1) := by decide +kernel
theorem dX11_fact_57 : decode cX11_fact 57 = .ok (.ireturn, 1) := by decide +kernel
theorem dX11_choice_0 : decode cX11_choice 0 = .ok (.aload_n 0, 1) := by decide +kernel
theorem dX11_choice_1 : decode cX11_choice 1 = .ok (.getfield 425, 3) := by decide +kernel
theorem dX11_choice_4 : decode cX11_choice 4 = .ok (.bipush 60, 2) := by decide +kernel
theorem dX11_choice_6 : decode cX11_choice 6 = .ok (.if_icmp .eq 20, 3) := by decide +kernel
theorem dX11_choice_9 : decode cX11_choice 9 = .ok (.aload_n 0, 1) := by decide +kernel
theorem dX11_choice_10 : decode cX11_choice 10 = .ok (.iload_n 1, 1) := by decide +kernel
theorem dX11_choice_11 : decode cX11_choice 11 = .ok (.invokevirtual 328, 3) := by decide +kernel
theorem dX11_choice_14 : decode cX11_choice 14 = .ok (.ifCond .eq 12, 3) := by decide +kernel
theorem dX11_choice_17 : decode cX11_choice 17 = .ok (.iload_n 3, 1) := by decide +kernel
theorem dX11_choice_18 : decode cX11_choice 18 = .ok (.iconst 1, 1) := by decide +kernel
theorem dX11_choice_19 : decode cX11_choice 19 = .ok (.iconst 5, 1) := by decide +kernel
theorem dX11_choice_20 : decode cX11_choice 20 = .ok (.invokestatic 313, 3) := by decide +kernel
theorem dX11_choice_23 : decode cX11_choice 23 = .ok (.ifCond .ne 7, 3) := by decide +kernel
theorem dX11_choice_26 : decode cX11_choice 26 = .ok (.iconst (-1), 1) := by decide +kernel
theorem dX11_choice_27 : decode cX11_choice 27 = .ok (.goto 11, 3) := by decide +kernel
theorem dX11_choice_30 : decode cX11_choice 30 = .ok (.aload_n 0, 1) := by decide +kernel
theorem dX11_choice_31 : decode cX11_choice 31 = .ok (.iconst 0, 1) := by decide +kernel
theorem dX11_choice_32 : decode cX11_choice 32 = .ok (.iload_n 1, 1) := by decide +kernel
theorem dX11_choice_33 : decode cX11_choice 33 = .ok (.iload_n 3, 1) := by decide +kernel
theorem dX11_choice_34 : decode cX11_choice 34 = .ok (.iload_n 2, 1) := by decide +kernel
theorem dX11_choice_35 : decode cX11_choice 35 = .ok (.invokevirtual 428, 3) := by decide +kernel
theorem dX11_choice_38 : decode cX11_choice 38 = .ok (.ireturn, 1) := by decide +kernel
theorem dX11_list_0 : decode cX11_list 0 = .ok (.aload_n 0, 1) := by decide +kernel
theorem dX11_list_1 : decode cX11_list 1 = .ok (.getfield 425, 3) := by decide +kernel
theorem dX11_list_4 : decode cX11_list 4 = .ok (.bipush 60, 2) := by decide +kernel
theorem dX11_list_6 : decode cX11_list 6 = .ok (.if_icmp .eq 11, 3) := by decide +kernel
theorem dX11_list_9 : decode cX11_list 9 = .ok (.aload_n 0, 1) := by decide +kernel
theorem dX11_list_10 : decode cX11_list 10 = .ok (.iload_n 1, 1) := by decide +kernel
theorem dX11_list_11 : decode cX11_list 11 = .ok (.invokevirtual 328, 3) := by decide +kernel
theorem dX11_list_14 : decode cX11_list 14 = .ok (.ifCond .ne 7, 3) := by decide +kernel
theorem dX11_list_17 : decode cX11_list 17 = .ok (.iconst (-1), 1) := by decide +kernel
theorem dX11_list_18 : decode cX11_list 18 = .ok (.goto 19, 3) := by decide +kernel
theorem dX11_list_21 : decode cX11_list 21 = .ok (.aload_n 0, 1) := by decide +kernel
theorem dX11_list_22 : decode cX11_list 22 = .ok (.iload_n 2, 1) := by decide +kernel
theorem dX11_list_23 : decode cX11_list 23 = .ok (.ifCond .eq 7, 3) := by decide +kernel
theorem dX11_list_26 : decode cX11_list 26 = .ok (.iconst 1, 1) := by decide +kernel
theorem dX11_list_27 : decode cX11_list 27 = .ok (.goto 4, 3) := by decide +kernel
theorem dX11_list_30 : decode cX11_list 30 = .ok (.iconst 2, 1) := by decide +kernel
theorem dX11_list_31 : decode cX11_list 31 = .ok (.iload_n 1, 1) := by decide +kernel
theorem dX11_list_32 : decode cX11_list 32 = .ok (.iconst 0, 1) := by decide +kernel
theorem dX11_list_33 : decode cX11_list 33 = .ok (.iconst 0, 1) := by decide +kernel
theorem dX11_list_34 : decode cX11_list 34 = .ok (.invokevirtual 428, 3) := by decide +kernel
theorem dX11_list_37 : decode cX11_list 37 = .ok (.ireturn, 1) := by decide +kernel
theorem dX11_tried_0 : decode cX11_tried 0 = .ok (.aload_n 0, 1) := by decide +kernel
theorem dX11_tried_1 : decode cX11_tried 1 = .ok (.getfield 425, 3) := by decide +kernel
theorem dX11_tried_4 : decode cX11_tried 4 = .ok (.bipush 60, 2) := by decide +kernel
theorem dX11_tried_6 : decode cX11_tried 6 = .ok (.if_icmp .eq 21, 3) := by decide +kernel
theorem dX11_tried_9 : decode cX11_tried 9 = .ok (.aload_n 0, 1) := by decide +kernel
theorem dX11_tried_10 : decode cX11_tried 10 = .ok (.iload_n 1, 1) := by decide +kernel
theorem dX11_tried_11 : decode cX11_tried 11 = .ok (.invokevirtual 400, 3) := by decide +kernel
theorem dX11_tried_14 : decode cX11_tried 14 = .ok (.ifCond .eq 13, 3) := by decide +kernel
theorem dX11_tried_17 : decode cX11_tried 17 = .ok (.iload_n 2, 1) := by decide +kernel
theorem dX11_tried_18 : decode cX11_tried 18 = .ok (.iconst 0, 1) := by decide +kernel
theorem dX11_tried_19 : decode cX11_tried 19 = .ok (.bipush 9, 2) := by decide +kernel
theorem dX11_tried_21 : decode cX11_tried 21 = .ok (.invokestatic 313, 3) := by decide +kernel
theorem dX11_tried_24 : decode cX11_tried 24 = .ok (.ifCond .ne 7, 3) := by decide +kernel
theorem dX11_tried_27 : decode cX11_tried 27 = .ok (.iconst (-1), 1) := by decide +kernel
theorem dX11_tried_28 : decode cX11_tried 28 = .ok (.goto 11, 3) := by decide +kernel
theorem dX11_tried_31 : decode cX11_tried 31 = .ok (.aload_n 0, 1) := by decide +kernel
theorem dX11_tried_32 : decode cX11_tried 32 = .ok (.iconst 3, 1) := by decide +kernel
theorem dX11_tried_33 : decode cX11_tried 33 = .ok (.iload_n 1, 1) := by decide +kernel
theorem dX11_tried_34 : decode cX11_tried 34 = .ok (.iload_n 2, 1) := by decide +kernel
theorem dX11_tried_35 : decode cX11_tried 35 = .ok (.iconst 0, 1) := by decide +kernel
theorem dX11_tried_36 : decode cX11_tried 36 = .ok (.invokevirtual 428, 3) := by decide +kernel
theorem dX11_tried_39 : decode cX11_tried 39 = .ok (.ireturn, 1) := by decide +kernel
theorem dX11_annul_0 : decode cX11_annul 0 = .ok (.aload_n 0, 1) := by decide +kernel
theorem dX11_annul_1 : decode cX11_annul 1 = .ok (.getfield 425, 3) := by decide +kernel
theorem dX11_annul_4 : decode cX11_annul 4 = .ok (.bipush 60, 2) := by decide +kernel
theorem dX11_annul_6 : decode cX11_annul 6 = .ok (.if_icmp .eq 27, 3) := by decide +kernel
theorem dX11_annul_9 : decode cX11_annul 9 = .ok (.iload_n 1, 1) := by decide +kernel
theorem dX11_annul_10 : decode cX11_annul 10 = .ok (.iconst 0, 1) := by decide +kernel
theorem dX11_annul_11 : decode cX11_annul 11 = .ok (.aload_n 0, 1) := by decide +kernel
theorem dX11_annul_12 : decode cX11_annul 12 = .ok (.getfield 425, 3) := by decide +kernel
theorem dX11_annul_15 : decode cX11_annul 15 = .ok (.iconst 1, 1) := by decide +kernel
theorem dX11_annul_16 : decode cX11_annul 16 = .ok (.isub, 1) := by decide +kernel
theorem dX11_annul_17 : decode cX11_annul 17 = .ok (.invokestatic 313, 3) := by decide +kernel
theorem dX11_annul_20 : decode cX11_annul 20 = .ok (.ifCond .eq 13, 3) := by decide +kernel
theorem dX11_annul_23 : decode cX11_annul 23 = .ok (.aload_n 0, 1) := by decide +kernel
theorem dX11_annul_24 : decode cX11_annul 24 = .ok (.getfield 146, 3) := by decide +kernel
theorem dX11_annul_27 : decode cX11_annul 27 = .ok (.iload_n 1, 1) := by decide +kernel
theorem dX11_annul_28 : decode cX11_annul 28 = .ok (.iaload, 1) := by decide +kernel
theorem dX11_annul_29 : decode cX11_annul 29 = .ok (.iconst 4, 1) := by decide +kernel
theorem dX11_annul_30 : decode cX11_annul 30 = .ok (.if_icmp .ne 7, 3) := by decide +kernel
theorem dX11_annul_33 : decode cX11_annul 33 = .ok (.iconst (-1), 1) := by decide +kernel
theorem dX11_annul_34 : decode cX11_annul 34 = .ok (.goto 11, 3) := by decide +kernel
theorem dX11_annul_37 : decode cX11_annul 37 = .ok (.aload_n 0, 1) := by decide +kernel
theorem dX11_annul_38 : decode cX11_annul 38 = .ok (.iconst 4, 1) := by decide +kernel
theorem dX11_annul_39 : decode cX11_annul 39 = .ok (.iload_n 1, 1) := by decide +kernel
theorem dX11_annul_40 : decode cX11_annul 40 = .ok (.iconst 0, 1) := by decide +kernel
theorem dX11_annul_41 : decode cX11_annul 41 = .ok (.iconst 0, 1) := by decide +kernel
theorem dX11_annul_42 : decode cX11_annul 42 = .ok (.invokevirtual 428, 3) := by decide +kernel
theorem dX11_annul_45 : decode cX11_annul 45 = .ok (.ireturn, 1) := by decide +kernel
theorem dX11_isKnown_0 : decode cX11_isKnown 0 = .ok (.iload_n 1, 1) := by decide +kernel
theorem dX11_isKnown_1 : decode cX11_isKnown 1 = .ok (.iconst 0, 1) := by decide +kernel
theorem dX11_isKnown_2 : decode cX11_isKnown 2 = .ok (.aload_n 0, 1) := by decide +kernel
theorem dX11_isKnown_3 : decode cX11_isKnown 3 = .ok (.getfield 425, 3) := by decide +kernel
theorem dX11_isKnown_6 : decode cX11_isKnown 6 = .ok (.invokestatic 313, 3) := by decide +kernel
theorem dX11_isKnown_9 : decode cX11_isKnown 9 = .ok (.ireturn, 1) := by decide +kernel
theorem dX11_isFact_0 : decode cX11_isFact 0 = .ok (.aload_n 0, 1) := by decide +kernel
theorem dX11_isFact_1 : decode cX11_isFact 1 = .ok (.getfield 146, 3) := by decide +kernel
theorem dX11_isFact_4 : decode cX11_isFact 4 = .ok (.iload_n 1, 1) := by decide +kernel
theorem dX11_isFact_5 : decode cX11_isFact 5 = .ok (.iaload, 1) := by decide +kernel
theorem dX11_isFact_6 : decode cX11_isFact 6 = .ok (.iload_n 2, 1) := by decide +kernel
theorem dX11_isFact_7 : decode cX11_isFact 7 = .ok (.if_icmp .eq 5, 3) := by decide +kernel
theorem dX11_isFact_10 : decode cX11_isFact 10 = .ok (.iconst 0, 1) := by decide +kernel
theorem dX11_isFact_11 : decode cX11_isFact 11 = .ok (.ireturn, 1) := by decide +kernel
theorem dX11_isFact_12 : decode cX11_isFact 12 = .ok (.iload_n 1, 1) := by decide +kernel
theorem dX11_isFact_13 : decode cX11_isFact 13 = .ok (.iconst 1, 1) := by decide +kernel
theorem dX11_isFact_14 : decode cX11_isFact 14 = .ok (.iadd, 1) := by decide +kernel
theorem dX11_isFact_15 : decode cX11_isFact 15 = .ok (.istore 4, 2) := by decide +kernel
theorem dX11_isFact_17 : decode cX11_isFact 17 = .ok (.iload 4, 2) := by decide +kernel
theorem dX11_isFact_19 : decode cX11_isFact 19 = .ok (.iload_n 3, 1) := by decide +kernel
theorem dX11_isFact_20 : decode cX11_isFact 20 = .ok (.if_icmp .ge 33, 3) := by decide +kernel
theorem dX11_isFact_23 : decode cX11_isFact 23 = .ok (.aload_n 0, 1) := by decide +kernel
theorem dX11_isFact_24 : decode cX11_isFact 24 = .ok (.getfield 146, 3) := by decide +kernel
theorem dX11_isFact_27 : decode cX11_isFact 27 = .ok (.iload 4, 2) := by decide +kernel
theorem dX11_isFact_29 : decode cX11_isFact 29 = .ok (.iaload, 1) := by decide +kernel
theorem dX11_isFact_30 : decode cX11_isFact 30 = .ok (.iconst 4, 1) := by decide +kernel
theorem dX11_isFact_31 : decode cX11_isFact 31 = .ok (.if_icmp .ne 16, 3) := by decide +kernel
theorem dX11_isFact_34 : decode cX11_isFact 34 = .ok (.aload_n 0, 1) := by decide +kernel
theorem dX11_isFact_35 : decode cX11_isFact 35 = .ok (.getfield 149, 3) := by decide +kernel
theorem dX11_isFact_38 : decode cX11_isFact 38 = .ok (.iload 4, 2) := by decide +kernel
theorem dX11_isFact_40 : decode cX11_isFact 40 = .ok (.iaload, 1) := by decide +kernel
theorem dX11_isFact_41 : decode cX11_isFact 41 = .ok (.iload_n 1, 1) := by decide +kernel
theorem dX11_isFact_42 : decode cX11_isFact 42 = .ok (.if_icmp .ne 5, 3) := by decide +kernel
theorem dX11_isFact_45 : decode cX11_isFact 45 = .ok (.iconst 0, 1) := by decide +kernel
theorem dX11_isFact_46 : decode cX11_isFact 46 = .ok (.ireturn, 1) := by decide +kernel
theorem dX11_isFact_47 : decode cX11_isFact 47 = .ok (.iinc 4 1, 3) := by decide +kernel
theorem dX11_isFact_50 : decode cX11_isFact 50 = .ok (.goto (-33), 3) := by decide +kernel
theorem dX11_isFact_53 : decode cX11_isFact 53 = .ok (.iconst 1, 1) := by decide +kernel
theorem dX11_isFact_54 : decode cX11_isFact 54 = .ok (.ireturn, 1) := by decide +kernel
theorem dX11_choices_0 : decode cX11_choices 0 = .ok (.aload_n 0, 1) := by decide +kernel
theorem dX11_choices_1 : decode cX11_choices 1 = .ok (.iload_n 1, 1) := by decide +kernel
theorem dX11_choices_2 : decode cX11_choices 2 = .ok (.invokevirtual 432, 3) := by decide +kernel
theorem dX11_choices_5 : decode cX11_choices 5 = .ok (.ifCond .eq 12, 3) := by decide +kernel
theorem dX11_choices_8 : decode cX11_choices 8 = .ok (.iload_n 2, 1) := by decide +kernel
theorem dX11_choices_9 : decode cX11_choices 9 = .ok (.iconst 0, 1) := by decide +kernel
theorem dX11_choices_10 : decode cX11_choices 10 = .ok (.iconst 3, 1) := by decide +kernel
theorem dX11_choices_11 : decode cX11_choices 11 = .ok (.invokestatic 313, 3) := by decide +kernel
theorem dX11_choices_14 : decode cX11_choices 14 = .ok (.ifCond .ne 5, 3) := by decide +kernel
theorem dX11_choices_17 : decode cX11_choices 17 = .ok (.iconst (-1), 1) := by decide +kernel
theorem dX11_choices_18 : decode cX11_choices 18 = .ok (.ireturn, 1) := by decide +kernel
theorem dX11_choices_19 : decode cX11_choices 19 = .ok (.iconst 0, 1) := by decide +kernel
theorem dX11_choices_20 : decode cX11_choices 20 = .ok (.istore_n 3, 1) := by decide +kernel
theorem dX11_choices_21 : decode cX11_choices 21 = .ok (.iconst 0, 1) := by decide +kernel
theorem dX11_choices_22 : decode cX11_choices 22 = .ok (.istore 4, 2) := by decide +kernel
theorem dX11_choices_24 : decode cX11_choices 24 = .ok (.iload 4, 2) := by decide +kernel
theorem dX11_choices_26 : decode cX11_choices 26 = .ok (.iload_n 1, 1) := by decide +kernel
theorem dX11_choices_27 : decode cX11_choices 27 = .ok (.if_icmp .ge 85, 3) := by decide +kernel
theorem dX11_choices_30 : decode cX11_choices 30 = .ok (.aload_n 0, 1) := by decide +kernel
theorem dX11_choices_31 : decode cX11_choices 31 = .ok (.iload 4, 2) := by decide +kernel
theorem dX11_choices_33 : decode cX11_choices 33 = .ok (.iconst 0, 1) := by decide +kernel
theorem dX11_choices_34 : decode cX11_choices 34 = .ok (.iload_n 1, 1) := by decide +kernel
theorem dX11_choices_35 : decode cX11_choices 35 = .ok (.invokevirtual 435, 3) := by decide +kernel
theorem dX11_choices_38 : decode cX11_choices 38 = .ok (.ifCond .ne 6, 3) := by decide +kernel
theorem dX11_choices_41 : decode cX11_choices 41 = .ok (.goto 65, 3) := by decide +kernel
theorem dX11_choices_44 : decode cX11_choices 44 = .ok (.iload_n 2, 1) := by decide +kernel
theorem dX11_choices_45 : decode cX11_choices 45 = .ok (.ifCond .eq 18, 3) := by decide +kernel
theorem dX11_choices_48 : decode cX11_choices 48 = .ok (.iload_n 2, 1) := by decide +kernel
theorem dX11_choices_49 : decode cX11_choices 49 = .ok (.iconst 1, 1) := by decide +kernel
theorem dX11_choices_50 : decode cX11_choices 50 = .ok (.if_icmp .ne 16, 3) := by decide +kernel
theorem dX11_choices_53 : decode cX11_choices 53 = .ok (.aload_n 0, 1) := by decide +kernel
theorem dX11_choices_54 : decode cX11_choices 54 = .ok (.getfield 155, 3) := by decide +kernel
theorem dX11_choices_57 : decode cX11_choices 57 = .ok (.iload 4, 2) := by decide +kernel
theorem dX11_choices_59 : decode cX11_choices 59 = .ok (.baload, 1) := by decide +kernel
theorem dX11_choices_60 : decode cX11_choices 60 = .ok (.ifCond .eq 6, 3) := by decide +kernel
theorem dX11_choices_63 : decode cX11_choices 63 = .ok (.iinc 3 1, 3) := by decide +kernel
theorem dX11_choices_66 : decode cX11_choices 66 = .ok (.iload_n 2, 1) := by decide +kernel
theorem dX11_choices_67 : decode cX11_choices 67 = .ok (.iconst 2, 1) := by decide +kernel
theorem dX11_choices_68 : decode cX11_choices 68 = .ok (.if_icmp .ne 13, 3) := by decide +kernel
theorem dX11_choices_71 : decode cX11_choices 71 = .ok (.aload_n 0, 1) := by decide +kernel
theorem dX11_choices_72 : decode cX11_choices 72 = .ok (.getfield 155, 3) := by decide +kernel
theorem dX11_choices_75 : decode cX11_choices 75 = .ok (.iload 4, 2) := by decide +kernel
theorem dX11_choices_77 : decode cX11_choices 77 = .ok (.baload, 1) := by decide +kernel
theorem dX11_choices_78 : decode cX11_choices 78 = .ok (.ifCond .ne 18, 3) := by decide +kernel
theorem dX11_choices_81 : decode cX11_choices 81 = .ok (.iload_n 2, 1) := by decide +kernel
theorem dX11_choices_82 : decode cX11_choices 82 = .ok (.iconst 3, 1) := by decide +kernel
theorem dX11_choices_83 : decode cX11_choices 83 = .ok (.if_icmp .ne 23, 3) := by decide +kernel
theorem dX11_choices_86 : decode cX11_choices 86 = .ok (.aload_n 0, 1) := by decide +kernel
theorem dX11_choices_87 : decode cX11_choices 87 = .ok (.getfield 155, 3) := by decide +kernel
theorem dX11_choices_90 : decode cX11_choices 90 = .ok (.iload 4, 2) := by decide +kernel
theorem dX11_choices_92 : decode cX11_choices 92 = .ok (.baload, 1) := by decide +kernel
theorem dX11_choices_93 : decode cX11_choices 93 = .ok (.ifCond .ne 13, 3) := by decide +kernel
theorem dX11_choices_96 : decode cX11_choices 96 = .ok (.iload_n 3, 1) := by decide +kernel
theorem dX11_choices_97 : decode cX11_choices 97 = .ok (.aload_n 0, 1) := by decide +kernel
theorem dX11_choices_98 : decode cX11_choices 98 = .ok (.getfield 152, 3) := by decide +kernel
theorem dX11_choices_101 : decode cX11_choices 101 = .ok (.iload 4, 2) := by decide +kernel
theorem dX11_choices_103 : decode cX11_choices 103 = .ok (.iaload, 1) := by decide +kernel
theorem dX11_choices_104 : decode cX11_choices 104 = .ok (.iadd, 1) := by decide +kernel
theorem dX11_choices_105 : decode cX11_choices 105 = .ok (.istore_n 3, 1) := by decide +kernel
theorem dX11_choices_106 : decode cX11_choices 106 = .ok (.iinc 4 1, 3) := by decide +kernel
theorem dX11_choices_109 : decode cX11_choices 109 = .ok (.goto (-85), 3) := by decide +kernel
theorem dX11_choices_112 : decode cX11_choices 112 = .ok (.iload_n 3, 1) := by decide +kernel
theorem dX11_choices_113 : decode cX11_choices 113 = .ok (.ireturn, 1) := by decide +kernel
theorem dX11_sure_0 : decode cX11_sure 0 = .ok (.aload_n 0, 1) := by decide +kernel
theorem dX11_sure_1 : decode cX11_sure 1 = .ok (.iload_n 1, 1) := by decide +kernel
theorem dX11_sure_2 : decode cX11_sure 2 = .ok (.invokevirtual 432, 3) := by decide +kernel
theorem dX11_sure_5 : decode cX11_sure 5 = .ok (.ifCond .eq 21, 3) := by decide +kernel
theorem dX11_sure_8 : decode cX11_sure 8 = .ok (.iload_n 2, 1) := by decide +kernel
theorem dX11_sure_9 : decode cX11_sure 9 = .ok (.iconst 1, 1) := by decide +kernel
theorem dX11_sure_10 : decode cX11_sure 10 = .ok (.iconst 5, 1) := by decide +kernel
theorem dX11_sure_11 : decode cX11_sure 11 = .ok (.invokestatic 313, 3) := by decide +kernel
theorem dX11_sure_14 : decode cX11_sure 14 = .ok (.ifCond .eq 12, 3) := by decide +kernel
theorem dX11_sure_17 : decode cX11_sure 17 = .ok (.iload_n 3, 1) := by decide +kernel
theorem dX11_sure_18 : decode cX11_sure 18 = .ok (.iconst 0, 1) := by decide +kernel
theorem dX11_sure_19 : decode cX11_sure 19 = .ok (.iconst 1, 1) := by decide +kernel
theorem dX11_sure_20 : decode cX11_sure 20 = .ok (.invokestatic 313, 3) := by decide +kernel
theorem dX11_sure_23 : decode cX11_sure 23 = .ok (.ifCond .ne 5, 3) := by decide +kernel
theorem dX11_sure_26 : decode cX11_sure 26 = .ok (.iconst (-1), 1) := by decide +kernel
theorem dX11_sure_27 : decode cX11_sure 27 = .ok (.ireturn, 1) := by decide +kernel
theorem dX11_sure_28 : decode cX11_sure 28 = .ok (.iconst 0, 1) := by decide +kernel
theorem dX11_sure_29 : decode cX11_sure 29 = .ok (.istore 4, 2) := by decide +kernel
theorem dX11_sure_31 : decode cX11_sure 31 = .ok (.iconst 0, 1) := by decide +kernel
theorem dX11_sure_32 : decode cX11_sure 32 = .ok (.istore 5, 2) := by decide +kernel
theorem dX11_sure_34 : decode cX11_sure 34 = .ok (.iload 5, 2) := by decide +kernel
theorem dX11_sure_36 : decode cX11_sure 36 = .ok (.iload_n 1, 1) := by decide +kernel
theorem dX11_sure_37 : decode cX11_sure 37 = .ok (.if_icmp .ge 48, 3) := by decide +kernel
theorem dX11_sure_40 : decode cX11_sure 40 = .ok (.aload_n 0, 1) := by decide +kernel
theorem dX11_sure_41 : decode cX11_sure 41 = .ok (.iload 5, 2) := by decide +kernel
theorem dX11_sure_43 : decode cX11_sure 43 = .ok (.iconst 0, 1) := by decide +kernel
theorem dX11_sure_44 : decode cX11_sure 44 = .ok (.iload_n 1, 1) := by decide +kernel
theorem dX11_sure_45 : decode cX11_sure 45 = .ok (.invokevirtual 435, 3) := by decide +kernel
theorem dX11_sure_48 : decode cX11_sure 48 = .ok (.ifCond .eq 31, 3) := by decide +kernel
theorem dX11_sure_51 : decode cX11_sure 51 = .ok (.aload_n 0, 1) := by decide +kernel
theorem dX11_sure_52 : decode cX11_sure 52 = .ok (.getfield 152, 3) := by decide +kernel
theorem dX11_sure_55 : decode cX11_sure 55 = .ok (.iload 5, 2) := by decide +kernel
theorem dX11_sure_57 : decode cX11_sure 57 = .ok (.iaload, 1) := by decide +kernel
theorem dX11_sure_58 : decode cX11_sure 58 = .ok (.iload_n 2, 1) := by decide +kernel
theorem dX11_sure_59 : decode cX11_sure 59 = .ok (.if_icmp .ne 20, 3) := by decide +kernel
theorem dX11_sure_62 : decode cX11_sure 62 = .ok (.iload_n 3, 1) := by decide +kernel
theorem dX11_sure_63 : decode cX11_sure 63 = .ok (.ifCond .eq 13, 3) := by decide +kernel
theorem dX11_sure_66 : decode cX11_sure 66 = .ok (.aload_n 0, 1) := by decide +kernel
theorem dX11_sure_67 : decode cX11_sure 67 = .ok (.getfield 155, 3) := by decide +kernel
theorem dX11_sure_70 : decode cX11_sure 70 = .ok (.iload 5, 2) := by decide +kernel
theorem dX11_sure_72 : decode cX11_sure 72 = .ok (.baload, 1) := by decide +kernel
theorem dX11_sure_73 : decode cX11_sure 73 = .ok (.ifCond .eq 6, 3) := by decide +kernel
theorem dX11_sure_76 : decode cX11_sure 76 = .ok (.iinc 4 1, 3) := by decide +kernel
theorem dX11_sure_79 : decode cX11_sure 79 = .ok (.iinc 5 1, 3) := by decide +kernel
theorem dX11_sure_82 : decode cX11_sure 82 = .ok (.goto (-48), 3) := by decide +kernel
theorem dX11_sure_85 : decode cX11_sure 85 = .ok (.iload 4, 2) := by decide +kernel
theorem dX11_sure_87 : decode cX11_sure 87 = .ok (.ireturn, 1) := by decide +kernel
theorem dX11_surer_0 : decode cX11_surer 0 = .ok (.aload_n 0, 1) := by decide +kernel
theorem dX11_surer_1 : decode cX11_surer 1 = .ok (.iload_n 1, 1) := by decide +kernel
theorem dX11_surer_2 : decode cX11_surer 2 = .ok (.invokevirtual 432, 3) := by decide +kernel
theorem dX11_surer_5 : decode cX11_surer 5 = .ok (.ifCond .eq 12, 3) := by decide +kernel
theorem dX11_surer_8 : decode cX11_surer 8 = .ok (.iload_n 2, 1) := by decide +kernel
theorem dX11_surer_9 : decode cX11_surer 9 = .ok (.iconst 0, 1) := by decide +kernel
theorem dX11_surer_10 : decode cX11_surer 10 = .ok (.iconst 2, 1) := by decide +kernel
theorem dX11_surer_11 : decode cX11_surer 11 = .ok (.invokestatic 313, 3) := by decide +kernel
theorem dX11_surer_14 : decode cX11_surer 14 = .ok (.ifCond .ne 5, 3) := by decide +kernel
theorem dX11_surer_17 : decode cX11_surer 17 = .ok (.iconst (-1), 1) := by decide +kernel
theorem dX11_surer_18 : decode cX11_surer 18 = .ok (.ireturn, 1) := by decide +kernel
theorem dX11_surer_19 : decode cX11_surer 19 = .ok (.iconst 0, 1) := by decide +kernel
theorem dX11_surer_20 : decode cX11_surer 20 = .ok (.istore_n 3, 1) := by decide +kernel
theorem dX11_surer_21 : decode cX11_surer 21 = .ok (.iconst 0, 1) := by decide +kernel
theorem dX11_surer_22 : decode cX11_surer 22 = .ok (.istore 4, 2) := by decide +kernel
theorem dX11_surer_24 : decode cX11_surer 24 = .ok (.iload 4, 2) := by decide +kernel
theorem dX11_surer_26 : decode cX11_surer 26 = .ok (.iload_n 1, 1) := by decide +kernel
theorem dX11_surer_27 : decode cX11_surer 27 = .ok (.if_icmp .ge 126, 3) := by decide +kernel
theorem dX11_surer_30 : decode cX11_surer 30 = .ok (.aload_n 0, 1) := by decide +kernel
theorem dX11_surer_31 : decode cX11_surer 31 = .ok (.iload 4, 2) := by decide +kernel
theorem dX11_surer_33 : decode cX11_surer 33 = .ok (.iconst 0, 1) := by decide +kernel
theorem dX11_surer_34 : decode cX11_surer 34 = .ok (.iload_n 1, 1) := by decide +kernel
theorem dX11_surer_35 : decode cX11_surer 35 = .ok (.invokevirtual 435, 3) := by decide +kernel
theorem dX11_surer_38 : decode cX11_surer 38 = .ok (.ifCond .eq 109, 3) := by decide +kernel
theorem dX11_surer_41 : decode cX11_surer 41 = .ok (.aload_n 0, 1) := by decide +kernel
theorem dX11_surer_42 : decode cX11_surer 42 = .ok (.getfield 155, 3) := by decide +kernel
theorem dX11_surer_45 : decode cX11_surer 45 = .ok (.iload 4, 2) := by decide +kernel
theorem dX11_surer_47 : decode cX11_surer 47 = .ok (.baload, 1) := by decide +kernel
theorem dX11_surer_48 : decode cX11_surer 48 = .ok (.ifCond .ne 6, 3) := by decide +kernel
theorem dX11_surer_51 : decode cX11_surer 51 = .ok (.goto 96, 3) := by decide +kernel
theorem dX11_surer_54 : decode cX11_surer 54 = .ok (.iconst 0, 1) := by decide +kernel
theorem dX11_surer_55 : decode cX11_surer 55 = .ok (.istore 5, 2) := by decide +kernel
theorem dX11_surer_57 : decode cX11_surer 57 = .ok (.iload 5, 2) := by decide +kernel
theorem dX11_surer_59 : decode cX11_surer 59 = .ok (.iload_n 1, 1) := by decide +kernel
theorem dX11_surer_60 : decode cX11_surer 60 = .ok (.if_icmp .ge 87, 3) := by decide +kernel
theorem dX11_surer_63 : decode cX11_surer 63 = .ok (.aload_n 0, 1) := by decide +kernel
theorem dX11_surer_64 : decode cX11_surer 64 = .ok (.iload 5, 2) := by decide +kernel
theorem dX11_surer_66 : decode cX11_surer 66 = .ok (.iconst 0, 1) := by decide +kernel
theorem dX11_surer_67 : decode cX11_surer 67 = .ok (.iload_n 1, 1) := by decide +kernel
theorem dX11_surer_68 : decode cX11_surer 68 = .ok (.invokevirtual 435, 3) := by decide +kernel
theorem dX11_surer_71 : decode cX11_surer 71 = .ok (.ifCond .eq 70, 3) := by decide +kernel
theorem dX11_surer_74 : decode cX11_surer 74 = .ok (.aload_n 0, 1) := by decide +kernel
theorem dX11_surer_75 : decode cX11_surer 75 = .ok (.getfield 155, 3) := by decide +kernel
theorem dX11_surer_78 : decode cX11_surer 78 = .ok (.iload 5, 2) := by decide +kernel
theorem dX11_surer_80 : decode cX11_surer 80 = .ok (.baload, 1) := by decide +kernel
theorem dX11_surer_81 : decode cX11_surer 81 = .ok (.ifCond .eq 6, 3) := by decide +kernel
theorem dX11_surer_84 : decode cX11_surer 84 = .ok (.goto 57, 3) := by decide +kernel
theorem dX11_surer_87 : decode cX11_surer 87 = .ok (.aload_n 0, 1) := by decide +kernel
theorem dX11_surer_88 : decode cX11_surer 88 = .ok (.getfield 152, 3) := by decide +kernel
theorem dX11_surer_91 : decode cX11_surer 91 = .ok (.iload 4, 2) := by decide +kernel
theorem dX11_surer_93 : decode cX11_surer 93 = .ok (.iaload, 1) := by decide +kernel
theorem dX11_surer_94 : decode cX11_surer 94 = .ok (.aload_n 0, 1) := by decide +kernel
theorem dX11_surer_95 : decode cX11_surer 95 = .ok (.getfield 152, 3) := by decide +kernel
theorem dX11_surer_98 : decode cX11_surer 98 = .ok (.iload 5, 2) := by decide +kernel
theorem dX11_surer_100 : decode cX11_surer 100 = .ok (.iaload, 1) := by decide +kernel
theorem dX11_surer_101 : decode cX11_surer 101 = .ok (.if_icmp .le 7, 3) := by decide +kernel
theorem dX11_surer_104 : decode cX11_surer 104 = .ok (.iconst 0, 1) := by decide +kernel
theorem dX11_surer_105 : decode cX11_surer 105 = .ok (.goto 25, 3) := by decide +kernel
theorem dX11_surer_108 : decode cX11_surer 108 = .ok (.aload_n 0, 1) := by decide +kernel
theorem dX11_surer_109 : decode cX11_surer 109 = .ok (.getfield 152, 3) := by decide +kernel
theorem dX11_surer_112 : decode cX11_surer 112 = .ok (.iload 4, 2) := by decide +kernel
theorem dX11_surer_114 : decode cX11_surer 114 = .ok (.iaload, 1) := by decide +kernel
theorem dX11_surer_115 : decode cX11_surer 115 = .ok (.aload_n 0, 1) := by decide +kernel
theorem dX11_surer_116 : decode cX11_surer 116 = .ok (.getfield 152, 3) := by decide +kernel
theorem dX11_surer_119 : decode cX11_surer 119 = .ok (.iload 5, 2) := by decide +kernel
theorem dX11_surer_121 : decode cX11_surer 121 = .ok (.iaload, 1) := by decide +kernel
theorem dX11_surer_122 : decode cX11_surer 122 = .ok (.if_icmp .ne 7, 3) := by decide +kernel
theorem dX11_surer_125 : decode cX11_surer 125 = .ok (.iconst 1, 1) := by decide +kernel
theorem dX11_surer_126 : decode cX11_surer 126 = .ok (.goto 4, 3) := by decide +kernel
theorem dX11_surer_129 : decode cX11_surer 129 = .ok (.iconst 2, 1) := by decide +kernel
theorem dX11_surer_130 : decode cX11_surer 130 = .ok (.istore 6, 2) := by decide +kernel
theorem dX11_surer_132 : decode cX11_surer 132 = .ok (.iload 6, 2) := by decide +kernel
theorem dX11_surer_134 : decode cX11_surer 134 = .ok (.iload_n 2, 1) := by decide +kernel
theorem dX11_surer_135 : decode cX11_surer 135 = .ok (.if_icmp .ne 6, 3) := by decide +kernel
theorem dX11_surer_138 : decode cX11_surer 138 = .ok (.iinc 3 1, 3) := by decide +kernel
theorem dX11_surer_141 : decode cX11_surer 141 = .ok (.iinc 5 1, 3) := by decide +kernel
theorem dX11_surer_144 : decode cX11_surer 144 = .ok (.goto (-87), 3) := by decide +kernel
theorem dX11_surer_147 : decode cX11_surer 147 = .ok (.iinc 4 1, 3) := by decide +kernel
theorem dX11_surer_150 : decode cX11_surer 150 = .ok (.goto (-126), 3) := by decide +kernel
theorem dX11_surer_153 : decode cX11_surer 153 = .ok (.iload_n 3, 1) := by decide +kernel
theorem dX11_surer_154 : decode cX11_surer 154 = .ok (.ireturn, 1) := by decide +kernel
theorem dX11_isOn_0 : decode cX11_isOn 0 = .ok (.iconst 0, 1) := by decide +kernel
theorem dX11_isOn_1 : decode cX11_isOn 1 = .ok (.istore_n 3, 1) := by decide +kernel
theorem dX11_isOn_2 : decode cX11_isOn 2 = .ok (.iconst 0, 1) := by decide +kernel
theorem dX11_isOn_3 : decode cX11_isOn 3 = .ok (.istore 4, 2) := by decide +kernel
theorem dX11_isOn_5 : decode cX11_isOn 5 = .ok (.iload 4, 2) := by decide +kernel
theorem dX11_isOn_7 : decode cX11_isOn 7 = .ok (.iload_n 2, 1) := by decide +kernel
theorem dX11_isOn_8 : decode cX11_isOn 8 = .ok (.if_icmp .ge 49, 3) := by decide +kernel
theorem dX11_isOn_11 : decode cX11_isOn 11 = .ok (.aload_n 0, 1) := by decide +kernel
theorem dX11_isOn_12 : decode cX11_isOn 12 = .ok (.getfield 149, 3) := by decide +kernel
theorem dX11_isOn_15 : decode cX11_isOn 15 = .ok (.iload 4, 2) := by decide +kernel
theorem dX11_isOn_17 : decode cX11_isOn 17 = .ok (.iaload, 1) := by decide +kernel
theorem dX11_isOn_18 : decode cX11_isOn 18 = .ok (.iload_n 1, 1) := by decide +kernel
theorem dX11_isOn_19 : decode cX11_isOn 19 = .ok (.if_icmp .eq 6, 3) := by decide +kernel
theorem dX11_isOn_22 : decode cX11_isOn 22 = .ok (.goto 29, 3) := by decide +kernel
theorem dX11_isOn_25 : decode cX11_isOn 25 = .ok (.aload_n 0, 1) := by decide +kernel
theorem dX11_isOn_26 : decode cX11_isOn 26 = .ok (.iload 4, 2) := by decide +kernel
theorem dX11_isOn_28 : decode cX11_isOn 28 = .ok (.iconst 1, 1) := by decide +kernel
theorem dX11_isOn_29 : decode cX11_isOn 29 = .ok (.iload_n 2, 1) := by decide +kernel
theorem dX11_isOn_30 : decode cX11_isOn 30 = .ok (.invokevirtual 435, 3) := by decide +kernel
theorem dX11_isOn_33 : decode cX11_isOn 33 = .ok (.ifCond .eq 5, 3) := by decide +kernel
theorem dX11_isOn_36 : decode cX11_isOn 36 = .ok (.iconst 1, 1) := by decide +kernel
theorem dX11_isOn_37 : decode cX11_isOn 37 = .ok (.istore_n 3, 1) := by decide +kernel
theorem dX11_isOn_38 : decode cX11_isOn 38 = .ok (.aload_n 0, 1) := by decide +kernel
theorem dX11_isOn_39 : decode cX11_isOn 39 = .ok (.iload 4, 2) := by decide +kernel
theorem dX11_isOn_41 : decode cX11_isOn 41 = .ok (.iconst 2, 1) := by decide +kernel
theorem dX11_isOn_42 : decode cX11_isOn 42 = .ok (.iload_n 2, 1) := by decide +kernel
theorem dX11_isOn_43 : decode cX11_isOn 43 = .ok (.invokevirtual 435, 3) := by decide +kernel
theorem dX11_isOn_46 : decode cX11_isOn 46 = .ok (.ifCond .eq 5, 3) := by decide +kernel
theorem dX11_isOn_49 : decode cX11_isOn 49 = .ok (.iconst 0, 1) := by decide +kernel
theorem dX11_isOn_50 : decode cX11_isOn 50 = .ok (.istore_n 3, 1) := by decide +kernel
theorem dX11_isOn_51 : decode cX11_isOn 51 = .ok (.iinc 4 1, 3) := by decide +kernel
theorem dX11_isOn_54 : decode cX11_isOn 54 = .ok (.goto (-49), 3) := by decide +kernel
theorem dX11_isOn_57 : decode cX11_isOn 57 = .ok (.iload_n 3, 1) := by decide +kernel
theorem dX11_isOn_58 : decode cX11_isOn 58 = .ok (.ireturn, 1) := by decide +kernel
theorem dX11_on_0 : decode cX11_on 0 = .ok (.aload_n 0, 1) := by decide +kernel
theorem dX11_on_1 : decode cX11_on 1 = .ok (.iload_n 1, 1) := by decide +kernel
theorem dX11_on_2 : decode cX11_on 2 = .ok (.invokevirtual 328, 3) := by decide +kernel
theorem dX11_on_5 : decode cX11_on 5 = .ok (.ifCond .eq 11, 3) := by decide +kernel
theorem dX11_on_8 : decode cX11_on 8 = .ok (.aload_n 0, 1) := by decide +kernel
theorem dX11_on_9 : decode cX11_on 9 = .ok (.iload_n 2, 1) := by decide +kernel
theorem dX11_on_10 : decode cX11_on 10 = .ok (.invokevirtual 432, 3) := by decide +kernel
theorem dX11_on_13 : decode cX11_on 13 = .ok (.ifCond .ne 7, 3) := by decide +kernel
theorem dX11_on_16 : decode cX11_on 16 = .ok (.iconst (-1), 1) := by decide +kernel
theorem dX11_on_17 : decode cX11_on 17 = .ok (.goto 17, 3) := by decide +kernel
theorem dX11_on_20 : decode cX11_on 20 = .ok (.aload_n 0, 1) := by decide +kernel
theorem dX11_on_21 : decode cX11_on 21 = .ok (.iload_n 1, 1) := by decide +kernel
theorem dX11_on_22 : decode cX11_on 22 = .ok (.iload_n 2, 1) := by decide +kernel
theorem dX11_on_23 : decode cX11_on 23 = .ok (.invokevirtual 438, 3) := by decide +kernel
theorem dX11_on_26 : decode cX11_on 26 = .ok (.ifCond .eq 7, 3) := by decide +kernel
theorem dX11_on_29 : decode cX11_on 29 = .ok (.iconst 1, 1) := by decide +kernel
theorem dX11_on_30 : decode cX11_on 30 = .ok (.goto 4, 3) := by decide +kernel
theorem dX11_on_33 : decode cX11_on 33 = .ok (.iconst 0, 1) := by decide +kernel
theorem dX11_on_34 : decode cX11_on 34 = .ok (.ireturn, 1) := by decide +kernel
theorem dX11_listSet_0 : decode cX11_listSet 0 = .ok (.iconst 0, 1) := by decide +kernel
theorem dX11_listSet_1 : decode cX11_listSet 1 = .ok (.istore_n 2, 1) := by decide +kernel
theorem dX11_listSet_2 : decode cX11_listSet 2 = .ok (.iconst 0, 1) := by decide +kernel
theorem dX11_listSet_3 : decode cX11_listSet 3 = .ok (.istore_n 3, 1) := by decide +kernel
theorem dX11_listSet_4 : decode cX11_listSet 4 = .ok (.iload_n 3, 1) := by decide +kernel
theorem dX11_listSet_5 : decode cX11_listSet 5 = .ok (.aload_n 0, 1) := by decide +kernel
theorem dX11_listSet_6 : decode cX11_listSet 6 = .ok (.getfield 310, 3) := by decide +kernel
theorem dX11_listSet_9 : decode cX11_listSet 9 = .ok (.if_icmp .ge 24, 3) := by decide +kernel
theorem dX11_listSet_12 : decode cX11_listSet 12 = .ok (.aload_n 0, 1) := by decide +kernel
theorem dX11_listSet_13 : decode cX11_listSet 13 = .ok (.iload_n 3, 1) := by decide +kernel
theorem dX11_listSet_14 : decode cX11_listSet 14 = .ok (.iload_n 1, 1) := by decide +kernel
theorem dX11_listSet_15 : decode cX11_listSet 15 = .ok (.invokevirtual 438, 3) := by decide +kernel
theorem dX11_listSet_18 : decode cX11_listSet 18 = .ok (.ifCond .eq 9, 3) := by decide +kernel
theorem dX11_listSet_21 : decode cX11_listSet 21 = .ok (.iload_n 2, 1) := by decide +kernel
theorem dX11_listSet_22 : decode cX11_listSet 22 = .ok (.iconst 1, 1) := by decide +kernel
theorem dX11_listSet_23 : decode cX11_listSet 23 = .ok (.iload_n 3, 1) := by decide +kernel
theorem dX11_listSet_24 : decode cX11_listSet 24 = .ok (.ishl, 1) := by decide +kernel
theorem dX11_listSet_25 : decode cX11_listSet 25 = .ok (.ior, 1) := by decide +kernel
theorem dX11_listSet_26 : decode cX11_listSet 26 = .ok (.istore_n 2, 1) := by decide +kernel
theorem dX11_listSet_27 : decode cX11_listSet 27 = .ok (.iinc 3 1, 3) := by decide +kernel
theorem dX11_listSet_30 : decode cX11_listSet 30 = .ok (.goto (-26), 3) := by decide +kernel
theorem dX11_listSet_33 : decode cX11_listSet 33 = .ok (.iload_n 2, 1) := by decide +kernel
theorem dX11_listSet_34 : decode cX11_listSet 34 = .ok (.ireturn, 1) := by decide +kernel
theorem dX11_tries_0 : decode cX11_tries 0 = .ok (.iconst 0, 1) := by decide +kernel
theorem dX11_tries_1 : decode cX11_tries 1 = .ok (.istore_n 2, 1) := by decide +kernel
theorem dX11_tries_2 : decode cX11_tries 2 = .ok (.iconst 0, 1) := by decide +kernel
theorem dX11_tries_3 : decode cX11_tries 3 = .ok (.istore_n 3, 1) := by decide +kernel
theorem dX11_tries_4 : decode cX11_tries 4 = .ok (.iload_n 3, 1) := by decide +kernel
theorem dX11_tries_5 : decode cX11_tries 5 = .ok (.iload_n 1, 1) := by decide +kernel
theorem dX11_tries_6 : decode cX11_tries 6 = .ok (.if_icmp .ge 94, 3) := by decide +kernel
theorem dX11_tries_9 : decode cX11_tries 9 = .ok (.aload_n 0, 1) := by decide +kernel
theorem dX11_tries_10 : decode cX11_tries 10 = .ok (.iload_n 3, 1) := by decide +kernel
theorem dX11_tries_11 : decode cX11_tries 11 = .ok (.iconst 3, 1) := by decide +kernel
theorem dX11_tries_12 : decode cX11_tries 12 = .ok (.iload_n 1, 1) := by decide +kernel
theorem dX11_tries_13 : decode cX11_tries 13 = .ok (.invokevirtual 435, 3) := by decide +kernel
theorem dX11_tries_16 : decode cX11_tries 16 = .ok (.ifCond .ne 6, 3) := by decide +kernel
theorem dX11_tries_19 : decode cX11_tries 19 = .ok (.goto 75, 3) := by decide +kernel
theorem dX11_tries_22 : decode cX11_tries 22 = .ok (.iconst 1, 1) := by decide +kernel
theorem dX11_tries_23 : decode cX11_tries 23 = .ok (.istore 4, 2) := by decide +kernel
theorem dX11_tries_25 : decode cX11_tries 25 = .ok (.iconst 0, 1) := by decide +kernel
theorem dX11_tries_26 : decode cX11_tries 26 = .ok (.istore 5, 2) := by decide +kernel
theorem dX11_tries_28 : decode cX11_tries 28 = .ok (.iload 5, 2) := by decide +kernel
theorem dX11_tries_30 : decode cX11_tries 30 = .ok (.iload_n 3, 1) := by decide +kernel
theorem dX11_tries_31 : decode cX11_tries 31 = .ok (.if_icmp .ge 55, 3) := by decide +kernel
theorem dX11_tries_34 : decode cX11_tries 34 = .ok (.aload_n 0, 1) := by decide +kernel
theorem dX11_tries_35 : decode cX11_tries 35 = .ok (.iload 5, 2) := by decide +kernel
theorem dX11_tries_37 : decode cX11_tries 37 = .ok (.iconst 3, 1) := by decide +kernel
theorem dX11_tries_38 : decode cX11_tries 38 = .ok (.iload_n 1, 1) := by decide +kernel
theorem dX11_tries_39 : decode cX11_tries 39 = .ok (.invokevirtual 435, 3) := by decide +kernel
theorem dX11_tries_42 : decode cX11_tries 42 = .ok (.ifCond .eq 38, 3) := by decide +kernel
theorem dX11_tries_45 : decode cX11_tries 45 = .ok (.aload_n 0, 1) := by decide +kernel
theorem dX11_tries_46 : decode cX11_tries 46 = .ok (.getfield 149, 3) := by decide +kernel
theorem dX11_tries_49 : decode cX11_tries 49 = .ok (.iload 5, 2) := by decide +kernel
theorem dX11_tries_51 : decode cX11_tries 51 = .ok (.iaload, 1) := by decide +kernel
theorem dX11_tries_52 : decode cX11_tries 52 = .ok (.aload_n 0, 1) := by decide +kernel
theorem dX11_tries_53 : decode cX11_tries 53 = .ok (.getfield 149, 3) := by decide +kernel
theorem dX11_tries_56 : decode cX11_tries 56 = .ok (.iload_n 3, 1) := by decide +kernel
theorem dX11_tries_57 : decode cX11_tries 57 = .ok (.iaload, 1) := by decide +kernel
theorem dX11_tries_58 : decode cX11_tries 58 = .ok (.if_icmp .ne 22, 3) := by decide +kernel
theorem dX11_tries_61 : decode cX11_tries 61 = .ok (.aload_n 0, 1) := by decide +kernel
theorem dX11_tries_62 : decode cX11_tries 62 = .ok (.getfield 152, 3) := by decide +kernel
theorem dX11_tries_65 : decode cX11_tries 65 = .ok (.iload 5, 2) := by decide +kernel
theorem dX11_tries_67 : decode cX11_tries 67 = .ok (.iaload, 1) := by decide +kernel
theorem dX11_tries_68 : decode cX11_tries 68 = .ok (.aload_n 0, 1) := by decide +kernel
theorem dX11_tries_69 : decode cX11_tries 69 = .ok (.getfield 152, 3) := by decide +kernel
theorem dX11_tries_72 : decode cX11_tries 72 = .ok (.iload_n 3, 1) := by decide +kernel
theorem dX11_tries_73 : decode cX11_tries 73 = .ok (.iaload, 1) := by decide +kernel
theorem dX11_tries_74 : decode cX11_tries 74 = .ok (.if_icmp .ne 6, 3) := by decide +kernel
theorem dX11_tries_77 : decode cX11_tries 77 = .ok (.iconst 0, 1) := by decide +kernel
theorem dX11_tries_78 : decode cX11_tries 78 = .ok (.istore 4, 2) := by decide +kernel
theorem dX11_tries_80 : decode cX11_tries 80 = .ok (.iinc 5 1, 3) := by decide +kernel
theorem dX11_tries_83 : decode cX11_tries 83 = .ok (.goto (-55), 3) := by decide +kernel
theorem dX11_tries_86 : decode cX11_tries 86 = .ok (.iload 4, 2) := by decide +kernel
theorem dX11_tries_88 : decode cX11_tries 88 = .ok (.ifCond .eq 6, 3) := by decide +kernel
theorem dX11_tries_91 : decode cX11_tries 91 = .ok (.iinc 2 1, 3) := by decide +kernel
theorem dX11_tries_94 : decode cX11_tries 94 = .ok (.iinc 3 1, 3) := by decide +kernel
theorem dX11_tries_97 : decode cX11_tries 97 = .ok (.goto (-93), 3) := by decide +kernel
theorem dX11_tries_100 : decode cX11_tries 100 = .ok (.iload_n 2, 1) := by decide +kernel
theorem dX11_tries_101 : decode cX11_tries 101 = .ok (.ireturn, 1) := by decide +kernel
theorem dX11_stands_0 : decode cX11_stands 0 = .ok (.aload_n 0, 1) := by decide +kernel
theorem dX11_stands_1 : decode cX11_stands 1 = .ok (.iload_n 1, 1) := by decide +kernel
theorem dX11_stands_2 : decode cX11_stands 2 = .ok (.invokevirtual 403, 3) := by decide +kernel
theorem dX11_stands_5 : decode cX11_stands 5 = .ok (.istore_n 3, 1) := by decide +kernel
theorem dX11_stands_6 : decode cX11_stands 6 = .ok (.aload_n 0, 1) := by decide +kernel
theorem dX11_stands_7 : decode cX11_stands 7 = .ok (.iload_n 2, 1) := by decide +kernel
theorem dX11_stands_8 : decode cX11_stands 8 = .ok (.invokevirtual 441, 3) := by decide +kernel
theorem dX11_stands_11 : decode cX11_stands 11 = .ok (.istore 4, 2) := by decide +kernel
theorem dX11_stands_13 : decode cX11_stands 13 = .ok (.aload_n 0, 1) := by decide +kernel
theorem dX11_stands_14 : decode cX11_stands 14 = .ok (.iload_n 3, 1) := by decide +kernel
theorem dX11_stands_15 : decode cX11_stands 15 = .ok (.aload_n 0, 1) := by decide +kernel
theorem dX11_stands_16 : decode cX11_stands 16 = .ok (.iload_n 2, 1) := by decide +kernel
theorem dX11_stands_17 : decode cX11_stands 17 = .ok (.invokevirtual 444, 3) := by decide +kernel
theorem dX11_stands_20 : decode cX11_stands 20 = .ok (.invokevirtual 415, 3) := by decide +kernel
theorem dX11_stands_23 : decode cX11_stands 23 = .ok (.iload 4, 2) := by decide +kernel
theorem dX11_stands_25 : decode cX11_stands 25 = .ok (.iconst 1, 1) := by decide +kernel
theorem dX11_stands_26 : decode cX11_stands 26 = .ok (.if_icmp .ge 7, 3) := by decide +kernel
theorem dX11_stands_29 : decode cX11_stands 29 = .ok (.iconst 1, 1) := by decide +kernel
theorem dX11_stands_30 : decode cX11_stands 30 = .ok (.goto 5, 3) := by decide +kernel
theorem dX11_stands_33 : decode cX11_stands 33 = .ok (.iload 4, 2) := by decide +kernel
theorem dX11_stands_35 : decode cX11_stands 35 = .ok (.i2l, 1) := by decide +kernel
theorem dX11_stands_36 : decode cX11_stands 36 = .ok (.lmul, 1) := by decide +kernel
theorem dX11_stands_37 : decode cX11_stands 37 = .ok (.ldc2_w 447, 3) := by decide +kernel
theorem dX11_stands_40 : decode cX11_stands 40 = .ok (.lmul, 1) := by decide +kernel
theorem dX11_stands_41 : decode cX11_stands 41 = .ok (.aload_n 0, 1) := by decide +kernel
theorem dX11_stands_42 : decode cX11_stands 42 = .ok (.iload_n 3, 1) := by decide +kernel
theorem dX11_stands_43 : decode cX11_stands 43 = .ok (.invokevirtual 418, 3) := by decide +kernel
theorem dX11_stands_46 : decode cX11_stands 46 = .ok (.lcmp, 1) := by decide +kernel
theorem dX11_stands_47 : decode cX11_stands 47 = .ok (.ifCond .gt 7, 3) := by decide +kernel
theorem dX11_stands_50 : decode cX11_stands 50 = .ok (.iconst 1, 1) := by decide +kernel
theorem dX11_stands_51 : decode cX11_stands 51 = .ok (.goto 4, 3) := by decide +kernel
theorem dX11_stands_54 : decode cX11_stands 54 = .ok (.iconst 0, 1) := by decide +kernel
theorem dX11_stands_55 : decode cX11_stands 55 = .ok (.ireturn, 1) := by decide +kernel
theorem dX11_red_0 : decode cX11_red 0 = .ok (.aload_n 0, 1) := by decide +kernel
theorem dX11_red_1 : decode cX11_red 1 = .ok (.iload_n 1, 1) := by decide +kernel
theorem dX11_red_2 : decode cX11_red 2 = .ok (.invokevirtual 400, 3) := by decide +kernel
theorem dX11_red_5 : decode cX11_red 5 = .ok (.ifCond .eq 11, 3) := by decide +kernel
theorem dX11_red_8 : decode cX11_red 8 = .ok (.aload_n 0, 1) := by decide +kernel
theorem dX11_red_9 : decode cX11_red 9 = .ok (.iload_n 2, 1) := by decide +kernel
theorem dX11_red_10 : decode cX11_red 10 = .ok (.invokevirtual 432, 3) := by decide +kernel
theorem dX11_red_13 : decode cX11_red 13 = .ok (.ifCond .ne 5, 3) := by decide +kernel
theorem dX11_red_16 : decode cX11_red 16 = .ok (.iconst (-1), 1) := by decide +kernel
theorem dX11_red_17 : decode cX11_red 17 = .ok (.ireturn, 1) := by decide +kernel
theorem dX11_red_18 : decode cX11_red 18 = .ok (.iload_n 3, 1) := by decide +kernel
theorem dX11_red_19 : decode cX11_red 19 = .ok (.tableswitch 87 0 4 #[33, 42, 57, 66, 72], 33) := by decide +kernel
theorem dX11_red_52 : decode cX11_red 52 = .ok (.aload_n 0, 1) := by decide +kernel
theorem dX11_red_53 : decode cX11_red 53 = .ok (.iload_n 2, 1) := by decide +kernel
theorem dX11_red_54 : decode cX11_red 54 = .ok (.invokevirtual 444, 3) := by decide +kernel
theorem dX11_red_57 : decode cX11_red 57 = .ok (.invokestatic 406, 3) := by decide +kernel
theorem dX11_red_60 : decode cX11_red 60 = .ok (.ireturn, 1) := by decide +kernel
theorem dX11_red_61 : decode cX11_red 61 = .ok (.aload_n 0, 1) := by decide +kernel
theorem dX11_red_62 : decode cX11_red 62 = .ok (.iload_n 2, 1) := by decide +kernel
theorem dX11_red_63 : decode cX11_red 63 = .ok (.invokevirtual 444, 3) := by decide +kernel
theorem dX11_red_66 : decode cX11_red 66 = .ok (.aload_n 0, 1) := by decide +kernel
theorem dX11_red_67 : decode cX11_red 67 = .ok (.iload_n 1, 1) := by decide +kernel
theorem dX11_red_68 : decode cX11_red 68 = .ok (.invokevirtual 403, 3) := by decide +kernel
theorem dX11_red_71 : decode cX11_red 71 = .ok (.iand, 1) := by decide +kernel
theorem dX11_red_72 : decode cX11_red 72 = .ok (.invokestatic 406, 3) := by decide +kernel
theorem dX11_red_75 : decode cX11_red 75 = .ok (.ireturn, 1) := by decide +kernel
theorem dX11_red_76 : decode cX11_red 76 = .ok (.aload_n 0, 1) := by decide +kernel
theorem dX11_red_77 : decode cX11_red 77 = .ok (.iload_n 1, 1) := by decide +kernel
theorem dX11_red_78 : decode cX11_red 78 = .ok (.invokevirtual 403, 3) := by decide +kernel
theorem dX11_red_81 : decode cX11_red 81 = .ok (.invokestatic 406, 3) := by decide +kernel
theorem dX11_red_84 : decode cX11_red 84 = .ok (.ireturn, 1) := by decide +kernel
theorem dX11_red_85 : decode cX11_red 85 = .ok (.aload_n 0, 1) := by decide +kernel
theorem dX11_red_86 : decode cX11_red 86 = .ok (.iload_n 2, 1) := by decide +kernel
theorem dX11_red_87 : decode cX11_red 87 = .ok (.invokevirtual 441, 3) := by decide +kernel
theorem dX11_red_90 : decode cX11_red 90 = .ok (.ireturn, 1) := by decide +kernel
theorem dX11_red_91 : decode cX11_red 91 = .ok (.aload_n 0, 1) := by decide +kernel
theorem dX11_red_92 : decode cX11_red 92 = .ok (.iload_n 1, 1) := by decide +kernel
theorem dX11_red_93 : decode cX11_red 93 = .ok (.iload_n 2, 1) := by decide +kernel
theorem dX11_red_94 : decode cX11_red 94 = .ok (.invokevirtual 449, 3) := by decide +kernel
theorem dX11_red_97 : decode cX11_red 97 = .ok (.ifCond .eq 7, 3) := by decide +kernel
theorem dX11_red_100 : decode cX11_red 100 = .ok (.iconst 1, 1) := by decide +kernel
theorem dX11_red_101 : decode cX11_red 101 = .ok (.goto 4, 3) := by decide +kernel
theorem dX11_red_104 : decode cX11_red 104 = .ok (.iconst 0, 1) := by decide +kernel
theorem dX11_red_105 : decode cX11_red 105 = .ok (.ireturn, 1) := by decide +kernel
theorem dX11_red_106 : decode cX11_red 106 = .ok (.iconst (-1), 1) := by decide +kernel
theorem dX11_red_107 : decode cX11_red 107 = .ok (.ireturn, 1) := by decide +kernel
theorem dX11_odds_0 : decode cX11_odds 0 = .ok (.aload_n 0, 1) := by decide +kernel
theorem dX11_odds_1 : decode cX11_odds 1 = .ok (.iload_n 1, 1) := by decide +kernel
theorem dX11_odds_2 : decode cX11_odds 2 = .ok (.invokevirtual 400, 3) := by decide +kernel
theorem dX11_odds_5 : decode cX11_odds 5 = .ok (.ifCond .eq 11, 3) := by decide +kernel
theorem dX11_odds_8 : decode cX11_odds 8 = .ok (.aload_n 0, 1) := by decide +kernel
theorem dX11_odds_9 : decode cX11_odds 9 = .ok (.iload_n 2, 1) := by decide +kernel
theorem dX11_odds_10 : decode cX11_odds 10 = .ok (.invokevirtual 432, 3) := by decide +kernel
theorem dX11_odds_13 : decode cX11_odds 13 = .ok (.ifCond .ne 7, 3) := by decide +kernel
theorem dX11_odds_16 : decode cX11_odds 16 = .ok (.ldc2_w 390, 3) := by decide +kernel
theorem dX11_odds_19 : decode cX11_odds 19 = .ok (.lreturn, 1) := by decide +kernel
theorem dX11_odds_20 : decode cX11_odds 20 = .ok (.iload_n 3, 1) := by decide +kernel
theorem dX11_odds_21 : decode cX11_odds 21 = .ok (.ifCond .eq 20, 3) := by decide +kernel
theorem dX11_odds_24 : decode cX11_odds 24 = .ok (.aload_n 0, 1) := by decide +kernel
theorem dX11_odds_25 : decode cX11_odds 25 = .ok (.aload_n 0, 1) := by decide +kernel
theorem dX11_odds_26 : decode cX11_odds 26 = .ok (.iload_n 1, 1) := by decide +kernel
theorem dX11_odds_27 : decode cX11_odds 27 = .ok (.invokevirtual 403, 3) := by decide +kernel
theorem dX11_odds_30 : decode cX11_odds 30 = .ok (.aload_n 0, 1) := by decide +kernel
theorem dX11_odds_31 : decode cX11_odds 31 = .ok (.iload_n 2, 1) := by decide +kernel
theorem dX11_odds_32 : decode cX11_odds 32 = .ok (.invokevirtual 444, 3) := by decide +kernel
theorem dX11_odds_35 : decode cX11_odds 35 = .ok (.invokevirtual 415, 3) := by decide +kernel
theorem dX11_odds_38 : decode cX11_odds 38 = .ok (.goto 12, 3) := by decide +kernel
theorem dX11_odds_41 : decode cX11_odds 41 = .ok (.aload_n 0, 1) := by decide +kernel
theorem dX11_odds_42 : decode cX11_odds 42 = .ok (.aload_n 0, 1) := by decide +kernel
theorem dX11_odds_43 : decode cX11_odds 43 = .ok (.iload_n 1, 1) := by decide +kernel
theorem dX11_odds_44 : decode cX11_odds 44 = .ok (.invokevirtual 403, 3) := by decide +kernel
theorem dX11_odds_47 : decode cX11_odds 47 = .ok (.invokevirtual 418, 3) := by decide +kernel
theorem dX11_odds_50 : decode cX11_odds 50 = .ok (.lreturn, 1) := by decide +kernel
theorem dX11_turned_0 : decode cX11_turned 0 = .ok (.aload_n 0, 1) := by decide +kernel
theorem dX11_turned_1 : decode cX11_turned 1 = .ok (.iload_n 1, 1) := by decide +kernel
theorem dX11_turned_2 : decode cX11_turned 2 = .ok (.invokevirtual 400, 3) := by decide +kernel
theorem dX11_turned_5 : decode cX11_turned 5 = .ok (.ifCond .eq 17, 3) := by decide +kernel
theorem dX11_turned_8 : decode cX11_turned 8 = .ok (.iload_n 2, 1) := by decide +kernel
theorem dX11_turned_9 : decode cX11_turned 9 = .ok (.iconst 0, 1) := by decide +kernel
theorem dX11_turned_10 : decode cX11_turned 10 = .ok (.aload_n 0, 1) := by decide +kernel
theorem dX11_turned_11 : decode cX11_turned 11 = .ok (.getfield 425, 3) := by decide +kernel
theorem dX11_turned_14 : decode cX11_turned 14 = .ok (.iconst 1, 1) := by decide +kernel
theorem dX11_turned_15 : decode cX11_turned 15 = .ok (.isub, 1) := by decide +kernel
theorem dX11_turned_16 : decode cX11_turned 16 = .ok (.invokestatic 313, 3) := by decide +kernel
theorem dX11_turned_19 : decode cX11_turned 19 = .ok (.ifCond .ne 5, 3) := by decide +kernel
theorem dX11_turned_22 : decode cX11_turned 22 = .ok (.iconst (-1), 1) := by decide +kernel
theorem dX11_turned_23 : decode cX11_turned 23 = .ok (.ireturn, 1) := by decide +kernel
theorem dX11_turned_24 : decode cX11_turned 24 = .ok (.iload_n 2, 1) := by decide +kernel
theorem dX11_turned_25 : decode cX11_turned 25 = .ok (.istore_n 3, 1) := by decide +kernel
theorem dX11_turned_26 : decode cX11_turned 26 = .ok (.iload_n 3, 1) := by decide +kernel
theorem dX11_turned_27 : decode cX11_turned 27 = .ok (.aload_n 0, 1) := by decide +kernel
theorem dX11_turned_28 : decode cX11_turned 28 = .ok (.getfield 425, 3) := by decide +kernel
theorem dX11_turned_31 : decode cX11_turned 31 = .ok (.if_icmp .ge 28, 3) := by decide +kernel
theorem dX11_turned_34 : decode cX11_turned 34 = .ok (.aload_n 0, 1) := by decide +kernel
theorem dX11_turned_35 : decode cX11_turned 35 = .ok (.iload_n 1, 1) := by decide +kernel
theorem dX11_turned_36 : decode cX11_turned 36 = .ok (.iload_n 3, 1) := by decide +kernel
theorem dX11_turned_37 : decode cX11_turned 37 = .ok (.invokevirtual 449, 3) := by decide +kernel
theorem dX11_turned_40 : decode cX11_turned 40 = .ok (.aload_n 0, 1) := by decide +kernel
theorem dX11_turned_41 : decode cX11_turned 41 = .ok (.iload_n 1, 1) := by decide +kernel
theorem dX11_turned_42 : decode cX11_turned 42 = .ok (.iload_n 3, 1) := by decide +kernel
theorem dX11_turned_43 : decode cX11_turned 43 = .ok (.iconst 1, 1) := by decide +kernel
theorem dX11_turned_44 : decode cX11_turned 44 = .ok (.iadd, 1) := by decide +kernel
theorem dX11_turned_45 : decode cX11_turned 45 = .ok (.invokevirtual 449, 3) := by decide +kernel
theorem dX11_turned_48 : decode cX11_turned 48 = .ok (.if_icmp .eq 5, 3) := by decide +kernel
theorem dX11_turned_51 : decode cX11_turned 51 = .ok (.iload_n 3, 1) := by decide +kernel
theorem dX11_turned_52 : decode cX11_turned 52 = .ok (.ireturn, 1) := by decide +kernel
theorem dX11_turned_53 : decode cX11_turned 53 = .ok (.iinc 3 1, 3) := by decide +kernel
theorem dX11_turned_56 : decode cX11_turned 56 = .ok (.goto (-30), 3) := by decide +kernel
theorem dX11_turned_59 : decode cX11_turned 59 = .ok (.iconst (-1), 1) := by decide +kernel
theorem dX11_turned_60 : decode cX11_turned 60 = .ok (.ireturn, 1) := by decide +kernel
theorem dX11_count_0 : decode cX11_count 0 = .ok (.iload_n 1, 1) := by decide +kernel
theorem dX11_count_1 : decode cX11_count 1 = .ok (.tableswitch 112 0 7 #[47, 52, 62, 72, 82, 92, 102, 107], 47) := by decide +kernel
theorem dX11_count_48 : decode cX11_count 48 = .ok (.aload_n 0, 1) := by decide +kernel
theorem dX11_count_49 : decode cX11_count 49 = .ok (.getfield 310, 3) := by decide +kernel
theorem dX11_count_52 : decode cX11_count 52 = .ok (.ireturn, 1) := by decide +kernel
theorem dX11_count_53 : decode cX11_count 53 = .ok (.aload_n 0, 1) := by decide +kernel
theorem dX11_count_54 : decode cX11_count 54 = .ok (.getfield 49, 3) := by decide +kernel
theorem dX11_count_57 : decode cX11_count 57 = .ok (.aload_n 0, 1) := by decide +kernel
theorem dX11_count_58 : decode cX11_count 58 = .ok (.getfield 230, 3) := by decide +kernel
theorem dX11_count_61 : decode cX11_count 61 = .ok (.iaload, 1) := by decide +kernel
theorem dX11_count_62 : decode cX11_count 62 = .ok (.ireturn, 1) := by decide +kernel
theorem dX11_count_63 : decode cX11_count 63 = .ok (.aload_n 0, 1) := by decide +kernel
theorem dX11_count_64 : decode cX11_count 64 = .ok (.getfield 52, 3) := by decide +kernel
theorem dX11_count_67 : decode cX11_count 67 = .ok (.aload_n 0, 1) := by decide +kernel
theorem dX11_count_68 : decode cX11_count 68 = .ok (.getfield 230, 3) := by decide +kernel
theorem dX11_count_71 : decode cX11_count 71 = .ok (.iaload, 1) := by decide +kernel
theorem dX11_count_72 : decode cX11_count 72 = .ok (.ireturn, 1) := by decide +kernel
theorem dX11_count_73 : decode cX11_count 73 = .ok (.aload_n 0, 1) := by decide +kernel
theorem dX11_count_74 : decode cX11_count 74 = .ok (.getfield 55, 3) := by decide +kernel
theorem dX11_count_77 : decode cX11_count 77 = .ok (.aload_n 0, 1) := by decide +kernel
theorem dX11_count_78 : decode cX11_count 78 = .ok (.getfield 230, 3) := by decide +kernel
theorem dX11_count_81 : decode cX11_count 81 = .ok (.iaload, 1) := by decide +kernel
theorem dX11_count_82 : decode cX11_count 82 = .ok (.ireturn, 1) := by decide +kernel
theorem dX11_count_83 : decode cX11_count 83 = .ok (.aload_n 0, 1) := by decide +kernel
theorem dX11_count_84 : decode cX11_count 84 = .ok (.getfield 58, 3) := by decide +kernel
theorem dX11_count_87 : decode cX11_count 87 = .ok (.aload_n 0, 1) := by decide +kernel
theorem dX11_count_88 : decode cX11_count 88 = .ok (.getfield 230, 3) := by decide +kernel
theorem dX11_count_91 : decode cX11_count 91 = .ok (.iaload, 1) := by decide +kernel
theorem dX11_count_92 : decode cX11_count 92 = .ok (.ireturn, 1) := by decide +kernel
theorem dX11_count_93 : decode cX11_count 93 = .ok (.aload_n 0, 1) := by decide +kernel
theorem dX11_count_94 : decode cX11_count 94 = .ok (.getfield 64, 3) := by decide +kernel
theorem dX11_count_97 : decode cX11_count 97 = .ok (.aload_n 0, 1) := by decide +kernel
theorem dX11_count_98 : decode cX11_count 98 = .ok (.getfield 230, 3) := by decide +kernel
theorem dX11_count_101 : decode cX11_count 101 = .ok (.iaload, 1) := by decide +kernel
theorem dX11_count_102 : decode cX11_count 102 = .ok (.ireturn, 1) := by decide +kernel
theorem dX11_count_103 : decode cX11_count 103 = .ok (.aload_n 0, 1) := by decide +kernel
theorem dX11_count_104 : decode cX11_count 104 = .ok (.getfield 425, 3) := by decide +kernel
theorem dX11_count_107 : decode cX11_count 107 = .ok (.ireturn, 1) := by decide +kernel
theorem dX11_count_108 : decode cX11_count 108 = .ok (.aload_n 0, 1) := by decide +kernel
theorem dX11_count_109 : decode cX11_count 109 = .ok (.getfield 162, 3) := by decide +kernel
theorem dX11_count_112 : decode cX11_count 112 = .ok (.ireturn, 1) := by decide +kernel
theorem dX11_count_113 : decode cX11_count 113 = .ok (.iconst (-1), 1) := by decide +kernel
theorem dX11_count_114 : decode cX11_count 114 = .ok (.ireturn, 1) := by decide +kernel
theorem dJ6_compare_7cf53_0 : decode cJ6_compare_7cf53 0 = .ok (.iload_n 0, 1) := by decide +kernel
theorem dJ6_compare_7cf53_1 : decode cJ6_compare_7cf53 1 = .ok (.iload_n 1, 1) := by decide +kernel
theorem dJ6_compare_7cf53_2 : decode cJ6_compare_7cf53 2 = .ok (.if_icmp .ge 7, 3) := by decide +kernel
theorem dJ6_compare_7cf53_5 : decode cJ6_compare_7cf53 5 = .ok (.iconst (-1), 1) := by decide +kernel
theorem dJ6_compare_7cf53_6 : decode cJ6_compare_7cf53 6 = .ok (.goto 13, 3) := by decide +kernel
theorem dJ6_compare_7cf53_9 : decode cJ6_compare_7cf53 9 = .ok (.iload_n 0, 1) := by decide +kernel
theorem dJ6_compare_7cf53_10 : decode cJ6_compare_7cf53 10 = .ok (.iload_n 1, 1) := by decide +kernel
theorem dJ6_compare_7cf53_11 : decode cJ6_compare_7cf53 11 = .ok (.if_icmp .ne 7, 3) := by decide +kernel
theorem dJ6_compare_7cf53_14 : decode cJ6_compare_7cf53 14 = .ok (.iconst 0, 1) := by decide +kernel
theorem dJ6_compare_7cf53_15 : decode cJ6_compare_7cf53 15 = .ok (.goto 4, 3) := by decide +kernel
theorem dJ6_compare_7cf53_18 : decode cJ6_compare_7cf53 18 = .ok (.iconst 1, 1) := by decide +kernel
theorem dJ6_compare_7cf53_19 : decode cJ6_compare_7cf53 19 = .ok (.ireturn, 1) := by decide +kernel
theorem dJ13_bitCount_95d88_0 : decode cJ13_bitCount_95d88 0 = .ok (.lload_n 0, 1) := by decide +kernel
theorem dJ13_bitCount_95d88_1 : decode cJ13_bitCount_95d88 1 = .ok (.lload_n 0, 1) := by decide +kernel
theorem dJ13_bitCount_95d88_2 : decode cJ13_bitCount_95d88 2 = .ok (.iconst 1, 1) := by decide +kernel
theorem dJ13_bitCount_95d88_3 : decode cJ13_bitCount_95d88 3 = .ok (.lushr, 1) := by decide +kernel
theorem dJ13_bitCount_95d88_4 : decode cJ13_bitCount_95d88 4 = .ok (.ldc2_w 314, 3) := by decide +kernel
theorem dJ13_bitCount_95d88_7 : decode cJ13_bitCount_95d88 7 = .ok (.land, 1) := by decide +kernel
theorem dJ13_bitCount_95d88_8 : decode cJ13_bitCount_95d88 8 = .ok (.lsub, 1) := by decide +kernel
theorem dJ13_bitCount_95d88_9 : decode cJ13_bitCount_95d88 9 = .ok (.lstore_n 0, 1) := by decide +kernel
theorem dJ13_bitCount_95d88_10 : decode cJ13_bitCount_95d88 10 = .ok (.lload_n 0, 1) := by decide +kernel
theorem dJ13_bitCount_95d88_11 : decode cJ13_bitCount_95d88 11 = .ok (.ldc2_w 316, 3) := by decide +kernel
theorem dJ13_bitCount_95d88_14 : decode cJ13_bitCount_95d88 14 = .ok (.land, 1) := by decide +kernel
theorem dJ13_bitCount_95d88_15 : decode cJ13_bitCount_95d88 15 = .ok (.lload_n 0, 1) := by decide +kernel
theorem dJ13_bitCount_95d88_16 : decode cJ13_bitCount_95d88 16 = .ok (.iconst 2, 1) := by decide +kernel
theorem dJ13_bitCount_95d88_17 : decode cJ13_bitCount_95d88 17 = .ok (.lushr, 1) := by decide +kernel
theorem dJ13_bitCount_95d88_18 : decode cJ13_bitCount_95d88 18 = .ok (.ldc2_w 316, 3) := by decide +kernel
theorem dJ13_bitCount_95d88_21 : decode cJ13_bitCount_95d88 21 = .ok (.land, 1) := by decide +kernel
theorem dJ13_bitCount_95d88_22 : decode cJ13_bitCount_95d88 22 = .ok (.ladd, 1) := by decide +kernel
theorem dJ13_bitCount_95d88_23 : decode cJ13_bitCount_95d88 23 = .ok (.lstore_n 0, 1) := by decide +kernel
theorem dJ13_bitCount_95d88_24 : decode cJ13_bitCount_95d88 24 = .ok (.lload_n 0, 1) := by decide +kernel
theorem dJ13_bitCount_95d88_25 : decode cJ13_bitCount_95d88 25 = .ok (.lload_n 0, 1) := by decide +kernel
theorem dJ13_bitCount_95d88_26 : decode cJ13_bitCount_95d88 26 = .ok (.iconst 4, 1) := by decide +kernel
theorem dJ13_bitCount_95d88_27 : decode cJ13_bitCount_95d88 27 = .ok (.lushr, 1) := by decide +kernel
theorem dJ13_bitCount_95d88_28 : decode cJ13_bitCount_95d88 28 = .ok (.ladd, 1) := by decide +kernel
theorem dJ13_bitCount_95d88_29 : decode cJ13_bitCount_95d88 29 = .ok (.ldc2_w 318, 3) := by decide +kernel
theorem dJ13_bitCount_95d88_32 : decode cJ13_bitCount_95d88 32 = .ok (.land, 1) := by decide +kernel
theorem dJ13_bitCount_95d88_33 : decode cJ13_bitCount_95d88 33 = .ok (.lstore_n 0, 1) := by decide +kernel
theorem dJ13_bitCount_95d88_34 : decode cJ13_bitCount_95d88 34 = .ok (.lload_n 0, 1) := by decide +kernel
theorem dJ13_bitCount_95d88_35 : decode cJ13_bitCount_95d88 35 = .ok (.lload_n 0, 1) := by decide +kernel
theorem dJ13_bitCount_95d88_36 : decode cJ13_bitCount_95d88 36 = .ok (.bipush 8, 2) := by decide +kernel
theorem dJ13_bitCount_95d88_38 : decode cJ13_bitCount_95d88 38 = .ok (.lushr, 1) := by decide +kernel
theorem dJ13_bitCount_95d88_39 : decode cJ13_bitCount_95d88 39 = .ok (.ladd, 1) := by decide +kernel
theorem dJ13_bitCount_95d88_40 : decode cJ13_bitCount_95d88 40 = .ok (.lstore_n 0, 1) := by decide +kernel
theorem dJ13_bitCount_95d88_41 : decode cJ13_bitCount_95d88 41 = .ok (.lload_n 0, 1) := by decide +kernel
theorem dJ13_bitCount_95d88_42 : decode cJ13_bitCount_95d88 42 = .ok (.lload_n 0, 1) := by decide +kernel
theorem dJ13_bitCount_95d88_43 : decode cJ13_bitCount_95d88 43 = .ok (.bipush 16, 2) := by decide +kernel
theorem dJ13_bitCount_95d88_45 : decode cJ13_bitCount_95d88 45 = .ok (.lushr, 1) := by decide +kernel
theorem dJ13_bitCount_95d88_46 : decode cJ13_bitCount_95d88 46 = .ok (.ladd, 1) := by decide +kernel
theorem dJ13_bitCount_95d88_47 : decode cJ13_bitCount_95d88 47 = .ok (.lstore_n 0, 1) := by decide +kernel
theorem dJ13_bitCount_95d88_48 : decode cJ13_bitCount_95d88 48 = .ok (.lload_n 0, 1) := by decide +kernel
theorem dJ13_bitCount_95d88_49 : decode cJ13_bitCount_95d88 49 = .ok (.lload_n 0, 1) := by decide +kernel
theorem dJ13_bitCount_95d88_50 : decode cJ13_bitCount_95d88 50 = .ok (.bipush 32, 2) := by decide +kernel
theorem dJ13_bitCount_95d88_52 : decode cJ13_bitCount_95d88 52 = .ok (.lushr, 1) := by decide +kernel
theorem dJ13_bitCount_95d88_53 : decode cJ13_bitCount_95d88 53 = .ok (.ladd, 1) := by decide +kernel
theorem dJ13_bitCount_95d88_54 : decode cJ13_bitCount_95d88 54 = .ok (.lstore_n 0, 1) := by decide +kernel
theorem dJ13_bitCount_95d88_55 : decode cJ13_bitCount_95d88 55 = .ok (.lload_n 0, 1) := by decide +kernel
theorem dJ13_bitCount_95d88_56 : decode cJ13_bitCount_95d88 56 = .ok (.l2i, 1) := by decide +kernel
theorem dJ13_bitCount_95d88_57 : decode cJ13_bitCount_95d88 57 = .ok (.bipush 127, 2) := by decide +kernel
theorem dJ13_bitCount_95d88_59 : decode cJ13_bitCount_95d88 59 = .ok (.iand, 1) := by decide +kernel
theorem dJ13_bitCount_95d88_60 : decode cJ13_bitCount_95d88 60 = .ok (.ireturn, 1) := by decide +kernel
theorem dJ9_floorMod_7cf53_0 : decode cJ9_floorMod_7cf53 0 = .ok (.iload_n 0, 1) := by decide +kernel
theorem dJ9_floorMod_7cf53_1 : decode cJ9_floorMod_7cf53 1 = .ok (.iload_n 1, 1) := by decide +kernel
theorem dJ9_floorMod_7cf53_2 : decode cJ9_floorMod_7cf53 2 = .ok (.irem, 1) := by decide +kernel
theorem dJ9_floorMod_7cf53_3 : decode cJ9_floorMod_7cf53 3 = .ok (.istore_n 2, 1) := by decide +kernel
theorem dJ9_floorMod_7cf53_4 : decode cJ9_floorMod_7cf53 4 = .ok (.iload_n 0, 1) := by decide +kernel
theorem dJ9_floorMod_7cf53_5 : decode cJ9_floorMod_7cf53 5 = .ok (.iload_n 1, 1) := by decide +kernel
theorem dJ9_floorMod_7cf53_6 : decode cJ9_floorMod_7cf53 6 = .ok (.ixor, 1) := by decide +kernel
theorem dJ9_floorMod_7cf53_7 : decode cJ9_floorMod_7cf53 7 = .ok (.ifCond .ge 11, 3) := by decide +kernel
theorem dJ9_floorMod_7cf53_10 : decode cJ9_floorMod_7cf53 10 = .ok (.iload_n 2, 1) := by decide +kernel
theorem dJ9_floorMod_7cf53_11 : decode cJ9_floorMod_7cf53 11 = .ok (.ifCond .eq 7, 3) := by decide +kernel
theorem dJ9_floorMod_7cf53_14 : decode cJ9_floorMod_7cf53 14 = .ok (.iload_n 2, 1) := by decide +kernel
theorem dJ9_floorMod_7cf53_15 : decode cJ9_floorMod_7cf53 15 = .ok (.iload_n 1, 1) := by decide +kernel
theorem dJ9_floorMod_7cf53_16 : decode cJ9_floorMod_7cf53 16 = .ok (.iadd, 1) := by decide +kernel
theorem dJ9_floorMod_7cf53_17 : decode cJ9_floorMod_7cf53 17 = .ok (.ireturn, 1) := by decide +kernel
theorem dJ9_floorMod_7cf53_18 : decode cJ9_floorMod_7cf53 18 = .ok (.iload_n 2, 1) := by decide +kernel
theorem dJ9_floorMod_7cf53_19 : decode cJ9_floorMod_7cf53 19 = .ok (.ireturn, 1) := by decide +kernel
theorem dJ9_max_7cf53_0 : decode cJ9_max_7cf53 0 = .ok (.iload_n 0, 1) := by decide +kernel
theorem dJ9_max_7cf53_1 : decode cJ9_max_7cf53 1 = .ok (.iload_n 1, 1) := by decide +kernel
theorem dJ9_max_7cf53_2 : decode cJ9_max_7cf53 2 = .ok (.if_icmp .lt 7, 3) := by decide +kernel
theorem dJ9_max_7cf53_5 : decode cJ9_max_7cf53 5 = .ok (.iload_n 0, 1) := by decide +kernel
theorem dJ9_max_7cf53_6 : decode cJ9_max_7cf53 6 = .ok (.goto 4, 3) := by decide +kernel
theorem dJ9_max_7cf53_9 : decode cJ9_max_7cf53 9 = .ok (.iload_n 1, 1) := by decide +kernel
theorem dJ9_max_7cf53_10 : decode cJ9_max_7cf53 10 = .ok (.ireturn, 1) := by decide +kernel
theorem dJ9_min_7cf53_0 : decode cJ9_min_7cf53 0 = .ok (.iload_n 0, 1) := by decide +kernel
theorem dJ9_min_7cf53_1 : decode cJ9_min_7cf53 1 = .ok (.iload_n 1, 1) := by decide +kernel
theorem dJ9_min_7cf53_2 : decode cJ9_min_7cf53 2 = .ok (.if_icmp .gt 7, 3) := by decide +kernel
theorem dJ9_min_7cf53_5 : decode cJ9_min_7cf53 5 = .ok (.iload_n 0, 1) := by decide +kernel
theorem dJ9_min_7cf53_6 : decode cJ9_min_7cf53 6 = .ok (.goto 4, 3) := by decide +kernel
theorem dJ9_min_7cf53_9 : decode cJ9_min_7cf53 9 = .ok (.iload_n 1, 1) := by decide +kernel
theorem dJ9_min_7cf53_10 : decode cJ9_min_7cf53 10 = .ok (.ireturn, 1) := by decide +kernel
theorem dJ0_length_8abf5_0 : decode cJ0_length_8abf5 0 = .ok (.aload_n 0, 1) := by decide +kernel
theorem dJ0_length_8abf5_1 : decode cJ0_length_8abf5 1 = .ok (.getfield 9, 3) := by decide +kernel
theorem dJ0_length_8abf5_4 : decode cJ0_length_8abf5 4 = .ok (.arraylength, 1) := by decide +kernel
theorem dJ0_length_8abf5_5 : decode cJ0_length_8abf5 5 = .ok (.aload_n 0, 1) := by decide +kernel
theorem dJ0_length_8abf5_6 : decode cJ0_length_8abf5 6 = .ok (.invokevirtual 335, 3) := by decide +kernel
theorem dJ0_length_8abf5_9 : decode cJ0_length_8abf5 9 = .ok (.ishr, 1) := by decide +kernel
theorem dJ0_length_8abf5_10 : decode cJ0_length_8abf5 10 = .ok (.ireturn, 1) := by decide +kernel
theorem dJ0_charAt_5068e_0 : decode cJ0_charAt_5068e 0 = .ok (.aload_n 0, 1) := by decide +kernel
theorem dJ0_charAt_5068e_1 : decode cJ0_charAt_5068e 1 = .ok (.invokevirtual 492, 3) := by decide +kernel
theorem dJ0_charAt_5068e_4 : decode cJ0_charAt_5068e 4 = .ok (.ifCond .eq 12, 3) := by decide +kernel
theorem dJ0_charAt_5068e_7 : decode cJ0_charAt_5068e 7 = .ok (.aload_n 0, 1) := by decide +kernel
theorem dJ0_charAt_5068e_8 : decode cJ0_charAt_5068e 8 = .ok (.getfield 9, 3) := by decide +kernel
theorem dJ0_charAt_5068e_11 : decode cJ0_charAt_5068e 11 = .ok (.iload_n 1, 1) := by decide +kernel
theorem dJ0_charAt_5068e_12 : decode cJ0_charAt_5068e 12 = .ok (.invokestatic 495, 3) := by decide +kernel
theorem dJ0_charAt_5068e_15 : decode cJ0_charAt_5068e 15 = .ok (.ireturn, 1) := by decide +kernel
theorem dJ0_charAt_5068e_16 : decode cJ0_charAt_5068e 16 = .ok (.aload_n 0, 1) := by decide +kernel
theorem dJ0_charAt_5068e_17 : decode cJ0_charAt_5068e 17 = .ok (.getfield 9, 3) := by decide +kernel
theorem dJ0_charAt_5068e_20 : decode cJ0_charAt_5068e 20 = .ok (.iload_n 1, 1) := by decide +kernel
theorem dJ0_charAt_5068e_21 : decode cJ0_charAt_5068e 21 = .ok (.invokestatic 498, 3) := by decide +kernel
theorem dJ0_charAt_5068e_24 : decode cJ0_charAt_5068e 24 = .ok (.ireturn, 1) := by decide +kernel
theorem dJ0_coder_7d493_0 : decode cJ0_coder_7d493 0 = .ok (.getstatic 38, 3) := by decide +kernel
theorem dJ0_coder_7d493_3 : decode cJ0_coder_7d493 3 = .ok (.ifCond .eq 10, 3) := by decide +kernel
theorem dJ0_coder_7d493_6 : decode cJ0_coder_7d493 6 = .ok (.aload_n 0, 1) := by decide +kernel
theorem dJ0_coder_7d493_7 : decode cJ0_coder_7d493 7 = .ok (.getfield 15, 3) := by decide +kernel
theorem dJ0_coder_7d493_10 : decode cJ0_coder_7d493 10 = .ok (.goto 4, 3) := by decide +kernel
theorem dJ0_coder_7d493_13 : decode cJ0_coder_7d493 13 = .ok (.iconst 1, 1) := by decide +kernel
theorem dJ0_coder_7d493_14 : decode cJ0_coder_7d493 14 = .ok (.ireturn, 1) := by decide +kernel
theorem dJ0_isLatin1_aae02_0 : decode cJ0_isLatin1_aae02 0 = .ok (.getstatic 38, 3) := by decide +kernel
theorem dJ0_isLatin1_aae02_3 : decode cJ0_isLatin1_aae02 3 = .ok (.ifCond .eq 14, 3) := by decide +kernel
theorem dJ0_isLatin1_aae02_6 : decode cJ0_isLatin1_aae02 6 = .ok (.aload_n 0, 1) := by decide +kernel
theorem dJ0_isLatin1_aae02_7 : decode cJ0_isLatin1_aae02 7 = .ok (.getfield 15, 3) := by decide +kernel
theorem dJ0_isLatin1_aae02_10 : decode cJ0_isLatin1_aae02 10 = .ok (.ifCond .ne 7, 3) := by decide +kernel
theorem dJ0_isLatin1_aae02_13 : decode cJ0_isLatin1_aae02 13 = .ok (.iconst 1, 1) := by decide +kernel
theorem dJ0_isLatin1_aae02_14 : decode cJ0_isLatin1_aae02 14 = .ok (.goto 4, 3) := by decide +kernel
theorem dJ0_isLatin1_aae02_17 : decode cJ0_isLatin1_aae02 17 = .ok (.iconst 0, 1) := by decide +kernel
theorem dJ0_isLatin1_aae02_18 : decode cJ0_isLatin1_aae02 18 = .ok (.ireturn, 1) := by decide +kernel
theorem dJ0_checkIndex_df160_0 : decode cJ0_checkIndex_df160 0 = .ok (.iload_n 0, 1) := by decide +kernel
theorem dJ0_checkIndex_df160_1 : decode cJ0_checkIndex_df160 1 = .ok (.iload_n 1, 1) := by decide +kernel
theorem dJ0_checkIndex_df160_2 : decode cJ0_checkIndex_df160 2 = .ok (.getstatic 1053, 3) := by decide +kernel
theorem dJ0_checkIndex_df160_5 : decode cJ0_checkIndex_df160 5 = .ok (.invokestatic 1059, 3) := by decide +kernel
theorem dJ0_checkIndex_df160_8 : decode cJ0_checkIndex_df160 8 = .ok (.pop, 1) := by decide +kernel
theorem dJ0_checkIndex_df160_9 : decode cJ0_checkIndex_df160 9 = .ok (.return_, 1) := by decide +kernel
theorem dJ1_charAt_3b067_0 : decode cJ1_charAt_3b067 0 = .ok (.iload_n 1, 1) := by decide +kernel
theorem dJ1_charAt_3b067_1 : decode cJ1_charAt_3b067 1 = .ok (.aload_n 0, 1) := by decide +kernel
theorem dJ1_charAt_3b067_2 : decode cJ1_charAt_3b067 2 = .ok (.arraylength, 1) := by decide +kernel
theorem dJ1_charAt_3b067_3 : decode cJ1_charAt_3b067 3 = .ok (.invokestatic 9, 3) := by decide +kernel
theorem dJ1_charAt_3b067_6 : decode cJ1_charAt_3b067 6 = .ok (.aload_n 0, 1) := by decide +kernel
theorem dJ1_charAt_3b067_7 : decode cJ1_charAt_3b067 7 = .ok (.iload_n 1, 1) := by decide +kernel
theorem dJ1_charAt_3b067_8 : decode cJ1_charAt_3b067 8 = .ok (.baload, 1) := by decide +kernel
theorem dJ1_charAt_3b067_9 : decode cJ1_charAt_3b067 9 = .ok (.sipush 255, 3) := by decide +kernel
theorem dJ1_charAt_3b067_12 : decode cJ1_charAt_3b067 12 = .ok (.iand, 1) := by decide +kernel
theorem dJ1_charAt_3b067_13 : decode cJ1_charAt_3b067 13 = .ok (.i2c, 1) := by decide +kernel
theorem dJ1_charAt_3b067_14 : decode cJ1_charAt_3b067 14 = .ok (.ireturn, 1) := by decide +kernel
theorem dJ2_getChar_3b067_0 : decode cJ2_getChar_3b067 0 = .ok (.getstatic 44, 3) := by decide +kernel
theorem dJ2_getChar_3b067_3 : decode cJ2_getChar_3b067 3 = .ok (.ifCond .ne 25, 3) := by decide +kernel
theorem dJ2_getChar_3b067_6 : decode cJ2_getChar_3b067 6 = .ok (.iload_n 1, 1) := by decide +kernel
theorem dJ2_getChar_3b067_7 : decode cJ2_getChar_3b067 7 = .ok (.ifCond .lt 11, 3) := by decide +kernel
theorem dJ2_getChar_3b067_10 : decode cJ2_getChar_3b067 10 = .ok (.iload_n 1, 1) := by decide +kernel
theorem dJ2_getChar_3b067_11 : decode cJ2_getChar_3b067 11 = .ok (.aload_n 0, 1) := by decide +kernel
theorem dJ2_getChar_3b067_12 : decode cJ2_getChar_3b067 12 = .ok (.invokestatic 48, 3) := by decide +kernel
theorem dJ2_getChar_3b067_15 : decode cJ2_getChar_3b067 15 = .ok (.if_icmp .lt 13, 3) := by decide +kernel
theorem dJ2_getChar_3b067_18 : decode cJ2_getChar_3b067 18 = .ok (.new 52, 3) := by decide +kernel
theorem dJ2_getChar_3b067_21 : decode cJ2_getChar_3b067 21 = .ok (.dup, 1) := by decide +kernel
theorem dJ2_getChar_3b067_22 : decode cJ2_getChar_3b067 22 = .ok (.ldc 54, 2) := by decide +kernel
theorem dJ2_getChar_3b067_24 : decode cJ2_getChar_3b067 24 = .ok (.invokespecial 56, 3) := by decide +kernel
theorem dJ2_getChar_3b067_27 : decode cJ2_getChar_3b067 27 = .ok (.athrow, 1) := by decide +kernel
theorem dJ2_getChar_3b067_28 : decode cJ2_getChar_3b067 28 = .ok (.iload_n 1, 1) := by decide +kernel
theorem dJ2_getChar_3b067_29 : decode cJ2_getChar_3b067 29 = .ok (.iconst 1, 1) := by decide +kernel
theorem dJ2_getChar_3b067_30 : decode cJ2_getChar_3b067 30 = .ok (.ishl, 1) := by decide +kernel
theorem dJ2_getChar_3b067_31 : decode cJ2_getChar_3b067 31 = .ok (.istore_n 1, 1) := by decide +kernel
theorem dJ2_getChar_3b067_32 : decode cJ2_getChar_3b067 32 = .ok (.aload_n 0, 1) := by decide +kernel
theorem dJ2_getChar_3b067_33 : decode cJ2_getChar_3b067 33 = .ok (.iload_n 1, 1) := by decide +kernel
theorem dJ2_getChar_3b067_34 : decode cJ2_getChar_3b067 34 = .ok (.iinc 1 1, 3) := by decide +kernel
theorem dJ2_getChar_3b067_37 : decode cJ2_getChar_3b067 37 = .ok (.baload, 1) := by decide +kernel
theorem dJ2_getChar_3b067_38 : decode cJ2_getChar_3b067 38 = .ok (.sipush 255, 3) := by decide +kernel
theorem dJ2_getChar_3b067_41 : decode cJ2_getChar_3b067 41 = .ok (.iand, 1) := by decide +kernel
theorem dJ2_getChar_3b067_42 : decode cJ2_getChar_3b067 42 = .ok (.getstatic 59, 3) := by decide +kernel
theorem dJ2_getChar_3b067_45 : decode cJ2_getChar_3b067 45 = .ok (.ishl, 1) := by decide +kernel
theorem dJ2_getChar_3b067_46 : decode cJ2_getChar_3b067 46 = .ok (.aload_n 0, 1) := by decide +kernel
theorem dJ2_getChar_3b067_47 : decode cJ2_getChar_3b067 47 = .ok (.iload_n 1, 1) := by decide +kernel
theorem dJ2_getChar_3b067_48 : decode cJ2_getChar_3b067 48 = .ok (.baload, 1) := by decide +kernel
theorem dJ2_getChar_3b067_49 : decode cJ2_getChar_3b067 49 = .ok (.sipush 255, 3) := by decide +kernel
theorem dJ2_getChar_3b067_52 : decode cJ2_getChar_3b067 52 = .ok (.iand, 1) := by decide +kernel
theorem dJ2_getChar_3b067_53 : decode cJ2_getChar_3b067 53 = .ok (.getstatic 63, 3) := by decide +kernel
theorem dJ2_getChar_3b067_56 : decode cJ2_getChar_3b067 56 = .ok (.ishl, 1) := by decide +kernel
theorem dJ2_getChar_3b067_57 : decode cJ2_getChar_3b067 57 = .ok (.ior, 1) := by decide +kernel
theorem dJ2_getChar_3b067_58 : decode cJ2_getChar_3b067 58 = .ok (.i2c, 1) := by decide +kernel
theorem dJ2_getChar_3b067_59 : decode cJ2_getChar_3b067 59 = .ok (.ireturn, 1) := by decide +kernel
theorem dJ2_length_9d52b_0 : decode cJ2_length_9d52b 0 = .ok (.aload_n 0, 1) := by decide +kernel
theorem dJ2_length_9d52b_1 : decode cJ2_length_9d52b 1 = .ok (.arraylength, 1) := by decide +kernel
theorem dJ2_length_9d52b_2 : decode cJ2_length_9d52b 2 = .ok (.iconst 1, 1) := by decide +kernel
theorem dJ2_length_9d52b_3 : decode cJ2_length_9d52b 3 = .ok (.ishr, 1) := by decide +kernel
theorem dJ2_length_9d52b_4 : decode cJ2_length_9d52b 4 = .ok (.ireturn, 1) := by decide +kernel
theorem dJ2_charAt_3b067_0 : decode cJ2_charAt_3b067 0 = .ok (.iload_n 1, 1) := by decide +kernel
theorem dJ2_charAt_3b067_1 : decode cJ2_charAt_3b067 1 = .ok (.aload_n 0, 1) := by decide +kernel
theorem dJ2_charAt_3b067_2 : decode cJ2_charAt_3b067 2 = .ok (.invokestatic 67, 3) := by decide +kernel
theorem dJ2_charAt_3b067_5 : decode cJ2_charAt_3b067 5 = .ok (.aload_n 0, 1) := by decide +kernel
theorem dJ2_charAt_3b067_6 : decode cJ2_charAt_3b067 6 = .ok (.iload_n 1, 1) := by decide +kernel
theorem dJ2_charAt_3b067_7 : decode cJ2_charAt_3b067 7 = .ok (.invokestatic 71, 3) := by decide +kernel
theorem dJ2_charAt_3b067_10 : decode cJ2_charAt_3b067 10 = .ok (.ireturn, 1) := by decide +kernel
theorem dJ2_checkIndex_2214a_0 : decode cJ2_checkIndex_2214a 0 = .ok (.iload_n 0, 1) := by decide +kernel
theorem dJ2_checkIndex_2214a_1 : decode cJ2_checkIndex_2214a 1 = .ok (.aload_n 1, 1) := by decide +kernel
theorem dJ2_checkIndex_2214a_2 : decode cJ2_checkIndex_2214a 2 = .ok (.invokestatic 48, 3) := by decide +kernel
theorem dJ2_checkIndex_2214a_5 : decode cJ2_checkIndex_2214a 5 = .ok (.invokestatic 414, 3) := by decide +kernel
theorem dJ2_checkIndex_2214a_8 : decode cJ2_checkIndex_2214a 8 = .ok (.return_, 1) := by decide +kernel
theorem dJ3_checkIndex_8e157_0 : decode cJ3_checkIndex_8e157 0 = .ok (.iload_n 0, 1) := by decide +kernel
theorem dJ3_checkIndex_8e157_1 : decode cJ3_checkIndex_8e157 1 = .ok (.ifCond .lt 8, 3) := by decide +kernel
theorem dJ3_checkIndex_8e157_4 : decode cJ3_checkIndex_8e157 4 = .ok (.iload_n 0, 1) := by decide +kernel
theorem dJ3_checkIndex_8e157_5 : decode cJ3_checkIndex_8e157 5 = .ok (.iload_n 1, 1) := by decide +kernel
theorem dJ3_checkIndex_8e157_6 : decode cJ3_checkIndex_8e157 6 = .ok (.if_icmp .lt 10, 3) := by decide +kernel
theorem dJ3_checkIndex_8e157_9 : decode cJ3_checkIndex_8e157 9 = .ok (.aload_n 2, 1) := by decide +kernel
theorem dJ3_checkIndex_8e157_10 : decode cJ3_checkIndex_8e157 10 = .ok (.iload_n 0, 1) := by decide +kernel
theorem dJ3_checkIndex_8e157_11 : decode cJ3_checkIndex_8e157 11 = .ok (.iload_n 1, 1) := by decide +kernel
theorem dJ3_checkIndex_8e157_12 : decode cJ3_checkIndex_8e157 12 = .ok (.invokestatic 95, 3) := by decide +kernel
theorem dJ3_checkIndex_8e157_15 : decode cJ3_checkIndex_8e157 15 = .ok (.athrow, 1) := by decide +kernel
theorem dJ3_checkIndex_8e157_16 : decode cJ3_checkIndex_8e157 16 = .ok (.iload_n 0, 1) := by decide +kernel
theorem dJ3_checkIndex_8e157_17 : decode cJ3_checkIndex_8e157 17 = .ok (.ireturn, 1) := by decide +kernel
