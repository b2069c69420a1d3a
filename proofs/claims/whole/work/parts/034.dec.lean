theorem dX10_termOf_85 : decode cX10_termOf 85 = .ok (.lconst 0, 1) := by decide +kernel
theorem dX10_termOf_86 : decode cX10_termOf 86 = .ok (.lcmp, 1) := by decide +kernel
theorem dX10_termOf_87 : decode cX10_termOf 87 = .ok (.ifCond .ne 26, 3) := by decide +kernel
theorem dX10_termOf_90 : decode cX10_termOf 90 = .ok (.aload_n 0, 1) := by decide +kernel
theorem dX10_termOf_91 : decode cX10_termOf 91 = .ok (.aload_n 0, 1) := by decide +kernel
theorem dX10_termOf_92 : decode cX10_termOf 92 = .ok (.getfield 199, 3) := by decide +kernel
theorem dX10_termOf_95 : decode cX10_termOf 95 = .ok (.ifCond .ne 7, 3) := by decide +kernel
theorem dX10_termOf_98 : decode cX10_termOf 98 = .ok (.iload_n 1, 1) := by decide +kernel
theorem dX10_termOf_99 : decode cX10_termOf 99 = .ok (.ifCond .eq 7, 3) := by decide +kernel
theorem dX10_termOf_102 : decode cX10_termOf 102 = .ok (.iconst 1, 1) := by decide +kernel
theorem dX10_termOf_103 : decode cX10_termOf 103 = .ok (.goto 4, 3) := by decide +kernel
theorem dX10_termOf_106 : decode cX10_termOf 106 = .ok (.iconst 0, 1) := by decide +kernel
theorem dX10_termOf_107 : decode cX10_termOf 107 = .ok (.putfield 199, 3) := by decide +kernel
theorem dX10_termOf_110 : decode cX10_termOf 110 = .ok (.lconst 1, 1) := by decide +kernel
theorem dX10_termOf_111 : decode cX10_termOf 111 = .ok (.lstore 5, 2) := by decide +kernel
theorem dX10_termOf_113 : decode cX10_termOf 113 = .ok (.aload_n 0, 1) := by decide +kernel
theorem dX10_termOf_114 : decode cX10_termOf 114 = .ok (.iload 4, 2) := by decide +kernel
theorem dX10_termOf_116 : decode cX10_termOf 116 = .ok (.ifCond .eq 10, 3) := by decide +kernel
theorem dX10_termOf_119 : decode cX10_termOf 119 = .ok (.lload_n 2, 1) := by decide +kernel
theorem dX10_termOf_120 : decode cX10_termOf 120 = .ok (.lload 5, 2) := by decide +kernel
theorem dX10_termOf_122 : decode cX10_termOf 122 = .ok (.lmul, 1) := by decide +kernel
theorem dX10_termOf_123 : decode cX10_termOf 123 = .ok (.goto 7, 3) := by decide +kernel
theorem dX10_termOf_126 : decode cX10_termOf 126 = .ok (.lload_n 2, 1) := by decide +kernel
theorem dX10_termOf_127 : decode cX10_termOf 127 = .ok (.lload 5, 2) := by decide +kernel
theorem dX10_termOf_129 : decode cX10_termOf 129 = .ok (.ldiv, 1) := by decide +kernel
theorem dX10_termOf_130 : decode cX10_termOf 130 = .ok (.iload_n 1, 1) := by decide +kernel
theorem dX10_termOf_131 : decode cX10_termOf 131 = .ok (.invokevirtual 207, 3) := by decide +kernel
theorem dX10_termOf_134 : decode cX10_termOf 134 = .ok (.lstore_n 2, 1) := by decide +kernel
theorem dX10_termOf_135 : decode cX10_termOf 135 = .ok (.goto (-129), 3) := by decide +kernel
theorem dX10_termOf_138 : decode cX10_termOf 138 = .ok (.lload_n 2, 1) := by decide +kernel
theorem dX10_termOf_139 : decode cX10_termOf 139 = .ok (.lreturn, 1) := by decide +kernel
theorem dX10_partOf_0 : decode cX10_partOf 0 = .ok (.aload_n 0, 1) := by decide +kernel
theorem dX10_partOf_1 : decode cX10_partOf 1 = .ok (.bipush 91, 2) := by decide +kernel
theorem dX10_partOf_3 : decode cX10_partOf 3 = .ok (.invokestatic 164, 3) := by decide +kernel
theorem dX10_partOf_6 : decode cX10_partOf 6 = .ok (.invokevirtual 214, 3) := by decide +kernel
theorem dX10_partOf_9 : decode cX10_partOf 9 = .ok (.ifCond .eq 21, 3) := by decide +kernel
theorem dX10_partOf_12 : decode cX10_partOf 12 = .ok (.aload_n 0, 1) := by decide +kernel
theorem dX10_partOf_13 : decode cX10_partOf 13 = .ok (.iload_n 1, 1) := by decide +kernel
theorem dX10_partOf_14 : decode cX10_partOf 14 = .ok (.invokevirtual 217, 3) := by decide +kernel
theorem dX10_partOf_17 : decode cX10_partOf 17 = .ok (.lstore_n 2, 1) := by decide +kernel
theorem dX10_partOf_18 : decode cX10_partOf 18 = .ok (.aload_n 0, 1) := by decide +kernel
theorem dX10_partOf_19 : decode cX10_partOf 19 = .ok (.dup, 1) := by decide +kernel
theorem dX10_partOf_20 : decode cX10_partOf 20 = .ok (.getfield 189, 3) := by decide +kernel
theorem dX10_partOf_23 : decode cX10_partOf 23 = .ok (.iconst 1, 1) := by decide +kernel
theorem dX10_partOf_24 : decode cX10_partOf 24 = .ok (.iadd, 1) := by decide +kernel
theorem dX10_partOf_25 : decode cX10_partOf 25 = .ok (.putfield 189, 3) := by decide +kernel
theorem dX10_partOf_28 : decode cX10_partOf 28 = .ok (.lload_n 2, 1) := by decide +kernel
theorem dX10_partOf_29 : decode cX10_partOf 29 = .ok (.lreturn, 1) := by decide +kernel
theorem dX10_partOf_30 : decode cX10_partOf 30 = .ok (.aload_n 0, 1) := by decide +kernel
theorem dX10_partOf_31 : decode cX10_partOf 31 = .ok (.aload_n 0, 1) := by decide +kernel
theorem dX10_partOf_32 : decode cX10_partOf 32 = .ok (.getfield 189, 3) := by decide +kernel
theorem dX10_partOf_35 : decode cX10_partOf 35 = .ok (.invokevirtual 192, 3) := by decide +kernel
theorem dX10_partOf_38 : decode cX10_partOf 38 = .ok (.istore_n 2, 1) := by decide +kernel
theorem dX10_partOf_39 : decode cX10_partOf 39 = .ok (.aload_n 0, 1) := by decide +kernel
theorem dX10_partOf_40 : decode cX10_partOf 40 = .ok (.dup, 1) := by decide +kernel
theorem dX10_partOf_41 : decode cX10_partOf 41 = .ok (.getfield 189, 3) := by decide +kernel
theorem dX10_partOf_44 : decode cX10_partOf 44 = .ok (.iconst 1, 1) := by decide +kernel
theorem dX10_partOf_45 : decode cX10_partOf 45 = .ok (.iadd, 1) := by decide +kernel
theorem dX10_partOf_46 : decode cX10_partOf 46 = .ok (.putfield 189, 3) := by decide +kernel
theorem dX10_partOf_49 : decode cX10_partOf 49 = .ok (.iload_n 1, 1) := by decide +kernel
theorem dX10_partOf_50 : decode cX10_partOf 50 = .ok (.ifCond .eq 10, 3) := by decide +kernel
theorem dX10_partOf_53 : decode cX10_partOf 53 = .ok (.aload_n 0, 1) := by decide +kernel
theorem dX10_partOf_54 : decode cX10_partOf 54 = .ok (.getfield 199, 3) := by decide +kernel
theorem dX10_partOf_57 : decode cX10_partOf 57 = .ok (.ifCond .eq 5, 3) := by decide +kernel
theorem dX10_partOf_60 : decode cX10_partOf 60 = .ok (.lconst 0, 1) := by decide +kernel
theorem dX10_partOf_61 : decode cX10_partOf 61 = .ok (.lreturn, 1) := by decide +kernel
theorem dX10_partOf_62 : decode cX10_partOf 62 = .ok (.iload_n 2, 1) := by decide +kernel
theorem dX10_partOf_63 : decode cX10_partOf 63 = .ok (.bipush 50, 2) := by decide +kernel
theorem dX10_partOf_65 : decode cX10_partOf 65 = .ok (.if_icmp .ne 22, 3) := by decide +kernel
theorem dX10_partOf_68 : decode cX10_partOf 68 = .ok (.aload_n 0, 1) := by decide +kernel
theorem dX10_partOf_69 : decode cX10_partOf 69 = .ok (.getfield 17, 3) := by decide +kernel
theorem dX10_partOf_72 : decode cX10_partOf 72 = .ok (.sipush 2587, 3) := by decide +kernel
theorem dX10_partOf_75 : decode cX10_partOf 75 = .ok (.aload_n 0, 1) := by decide +kernel
theorem dX10_partOf_76 : decode cX10_partOf 76 = .ok (.getfield 189, 3) := by decide +kernel
theorem dX10_partOf_79 : decode cX10_partOf 79 = .ok (.iadd, 1) := by decide +kernel
theorem dX10_partOf_80 : decode cX10_partOf 80 = .ok (.iconst 1, 1) := by decide +kernel
theorem dX10_partOf_81 : decode cX10_partOf 81 = .ok (.isub, 1) := by decide +kernel
theorem dX10_partOf_82 : decode cX10_partOf 82 = .ok (.iaload, 1) := by decide +kernel
theorem dX10_partOf_83 : decode cX10_partOf 83 = .ok (.i2l, 1) := by decide +kernel
theorem dX10_partOf_84 : decode cX10_partOf 84 = .ok (.goto 13, 3) := by decide +kernel
theorem dX10_partOf_87 : decode cX10_partOf 87 = .ok (.aload_n 0, 1) := by decide +kernel
theorem dX10_partOf_88 : decode cX10_partOf 88 = .ok (.getfield 49, 3) := by decide +kernel
theorem dX10_partOf_91 : decode cX10_partOf 91 = .ok (.iload_n 2, 1) := by decide +kernel
theorem dX10_partOf_92 : decode cX10_partOf 92 = .ok (.bipush 6, 2) := by decide +kernel
theorem dX10_partOf_94 : decode cX10_partOf 94 = .ok (.isub, 1) := by decide +kernel
theorem dX10_partOf_95 : decode cX10_partOf 95 = .ok (.iaload, 1) := by decide +kernel
theorem dX10_partOf_96 : decode cX10_partOf 96 = .ok (.i2l, 1) := by decide +kernel
theorem dX10_partOf_97 : decode cX10_partOf 97 = .ok (.lreturn, 1) := by decide +kernel
theorem dX10_testOf_0 : decode cX10_testOf 0 = .ok (.aload_n 0, 1) := by decide +kernel
theorem dX10_testOf_1 : decode cX10_testOf 1 = .ok (.iload_n 1, 1) := by decide +kernel
theorem dX10_testOf_2 : decode cX10_testOf 2 = .ok (.invokevirtual 220, 3) := by decide +kernel
theorem dX10_testOf_5 : decode cX10_testOf 5 = .ok (.istore_n 2, 1) := by decide +kernel
theorem dX10_testOf_6 : decode cX10_testOf 6 = .ok (.aload_n 0, 1) := by decide +kernel
theorem dX10_testOf_7 : decode cX10_testOf 7 = .ok (.iconst 3, 1) := by decide +kernel
theorem dX10_testOf_8 : decode cX10_testOf 8 = .ok (.invokevirtual 214, 3) := by decide +kernel
theorem dX10_testOf_11 : decode cX10_testOf 11 = .ok (.ifCond .eq 38, 3) := by decide +kernel
theorem dX10_testOf_14 : decode cX10_testOf 14 = .ok (.aload_n 0, 1) := by decide +kernel
theorem dX10_testOf_15 : decode cX10_testOf 15 = .ok (.iload_n 1, 1) := by decide +kernel
theorem dX10_testOf_16 : decode cX10_testOf 16 = .ok (.ifCond .eq 11, 3) := by decide +kernel
theorem dX10_testOf_19 : decode cX10_testOf 19 = .ok (.iload_n 2, 1) := by decide +kernel
theorem dX10_testOf_20 : decode cX10_testOf 20 = .ok (.ifCond .ne 7, 3) := by decide +kernel
theorem dX10_testOf_23 : decode cX10_testOf 23 = .ok (.iconst 1, 1) := by decide +kernel
theorem dX10_testOf_24 : decode cX10_testOf 24 = .ok (.goto 4, 3) := by decide +kernel
theorem dX10_testOf_27 : decode cX10_testOf 27 = .ok (.iconst 0, 1) := by decide +kernel
theorem dX10_testOf_28 : decode cX10_testOf 28 = .ok (.invokevirtual 220, 3) := by decide +kernel
theorem dX10_testOf_31 : decode cX10_testOf 31 = .ok (.istore_n 3, 1) := by decide +kernel
theorem dX10_testOf_32 : decode cX10_testOf 32 = .ok (.iload_n 2, 1) := by decide +kernel
theorem dX10_testOf_33 : decode cX10_testOf 33 = .ok (.ifCond .ne 7, 3) := by decide +kernel
theorem dX10_testOf_36 : decode cX10_testOf 36 = .ok (.iload_n 3, 1) := by decide +kernel
theorem dX10_testOf_37 : decode cX10_testOf 37 = .ok (.ifCond .eq 7, 3) := by decide +kernel
theorem dX10_testOf_40 : decode cX10_testOf 40 = .ok (.iconst 1, 1) := by decide +kernel
theorem dX10_testOf_41 : decode cX10_testOf 41 = .ok (.goto 4, 3) := by decide +kernel
theorem dX10_testOf_44 : decode cX10_testOf 44 = .ok (.iconst 0, 1) := by decide +kernel
theorem dX10_testOf_45 : decode cX10_testOf 45 = .ok (.istore_n 2, 1) := by decide +kernel
theorem dX10_testOf_46 : decode cX10_testOf 46 = .ok (.goto (-40), 3) := by decide +kernel
theorem dX10_testOf_49 : decode cX10_testOf 49 = .ok (.iload_n 2, 1) := by decide +kernel
theorem dX10_testOf_50 : decode cX10_testOf 50 = .ok (.ireturn, 1) := by decide +kernel
theorem dX10_bothOf_0 : decode cX10_bothOf 0 = .ok (.aload_n 0, 1) := by decide +kernel
theorem dX10_bothOf_1 : decode cX10_bothOf 1 = .ok (.iload_n 1, 1) := by decide +kernel
theorem dX10_bothOf_2 : decode cX10_bothOf 2 = .ok (.invokevirtual 224, 3) := by decide +kernel
theorem dX10_bothOf_5 : decode cX10_bothOf 5 = .ok (.istore_n 2, 1) := by decide +kernel
theorem dX10_bothOf_6 : decode cX10_bothOf 6 = .ok (.aload_n 0, 1) := by decide +kernel
theorem dX10_bothOf_7 : decode cX10_bothOf 7 = .ok (.iconst 4, 1) := by decide +kernel
theorem dX10_bothOf_8 : decode cX10_bothOf 8 = .ok (.invokevirtual 214, 3) := by decide +kernel
theorem dX10_bothOf_11 : decode cX10_bothOf 11 = .ok (.ifCond .eq 38, 3) := by decide +kernel
theorem dX10_bothOf_14 : decode cX10_bothOf 14 = .ok (.aload_n 0, 1) := by decide +kernel
theorem dX10_bothOf_15 : decode cX10_bothOf 15 = .ok (.iload_n 1, 1) := by decide +kernel
theorem dX10_bothOf_16 : decode cX10_bothOf 16 = .ok (.ifCond .eq 11, 3) := by decide +kernel
theorem dX10_bothOf_19 : decode cX10_bothOf 19 = .ok (.iload_n 2, 1) := by decide +kernel
theorem dX10_bothOf_20 : decode cX10_bothOf 20 = .ok (.ifCond .eq 7, 3) := by decide +kernel
theorem dX10_bothOf_23 : decode cX10_bothOf 23 = .ok (.iconst 1, 1) := by decide +kernel
theorem dX10_bothOf_24 : decode cX10_bothOf 24 = .ok (.goto 4, 3) := by decide +kernel
theorem dX10_bothOf_27 : decode cX10_bothOf 27 = .ok (.iconst 0, 1) := by decide +kernel
theorem dX10_bothOf_28 : decode cX10_bothOf 28 = .ok (.invokevirtual 224, 3) := by decide +kernel
theorem dX10_bothOf_31 : decode cX10_bothOf 31 = .ok (.istore_n 3, 1) := by decide +kernel
theorem dX10_bothOf_32 : decode cX10_bothOf 32 = .ok (.iload_n 2, 1) := by decide +kernel
theorem dX10_bothOf_33 : decode cX10_bothOf 33 = .ok (.ifCond .eq 11, 3) := by decide +kernel
theorem dX10_bothOf_36 : decode cX10_bothOf 36 = .ok (.iload_n 3, 1) := by decide +kernel
theorem dX10_bothOf_37 : decode cX10_bothOf 37 = .ok (.ifCond .eq 7, 3) := by decide +kernel
theorem dX10_bothOf_40 : decode cX10_bothOf 40 = .ok (.iconst 1, 1) := by decide +kernel
theorem dX10_bothOf_41 : decode cX10_bothOf 41 = .ok (.goto 4, 3) := by decide +kernel
theorem dX10_bothOf_44 : decode cX10_bothOf 44 = .ok (.iconst 0, 1) := by decide +kernel
theorem dX10_bothOf_45 : decode cX10_bothOf 45 = .ok (.istore_n 2, 1) := by decide +kernel
theorem dX10_bothOf_46 : decode cX10_bothOf 46 = .ok (.goto (-40), 3) := by decide +kernel
theorem dX10_bothOf_49 : decode cX10_bothOf 49 = .ok (.iload_n 2, 1) := by decide +kernel
theorem dX10_bothOf_50 : decode cX10_bothOf 50 = .ok (.ireturn, 1) := by decide +kernel
theorem dX10_plainOf_0 : decode cX10_plainOf 0 = .ok (.iconst 0, 1) := by decide +kernel
theorem dX10_plainOf_1 : decode cX10_plainOf 1 = .ok (.istore_n 2, 1) := by decide +kernel
theorem dX10_plainOf_2 : decode cX10_plainOf 2 = .ok (.aload_n 0, 1) := by decide +kernel
theorem dX10_plainOf_3 : decode cX10_plainOf 3 = .ok (.iconst 5, 1) := by decide +kernel
theorem dX10_plainOf_4 : decode cX10_plainOf 4 = .ok (.invokevirtual 214, 3) := by decide +kernel
theorem dX10_plainOf_7 : decode cX10_plainOf 7 = .ok (.ifCond .eq 16, 3) := by decide +kernel
theorem dX10_plainOf_10 : decode cX10_plainOf 10 = .ok (.iload_n 2, 1) := by decide +kernel
theorem dX10_plainOf_11 : decode cX10_plainOf 11 = .ok (.ifCond .ne 7, 3) := by decide +kernel
theorem dX10_plainOf_14 : decode cX10_plainOf 14 = .ok (.iconst 1, 1) := by decide +kernel
theorem dX10_plainOf_15 : decode cX10_plainOf 15 = .ok (.goto 4, 3) := by decide +kernel
theorem dX10_plainOf_18 : decode cX10_plainOf 18 = .ok (.iconst 0, 1) := by decide +kernel
theorem dX10_plainOf_19 : decode cX10_plainOf 19 = .ok (.istore_n 2, 1) := by decide +kernel
theorem dX10_plainOf_20 : decode cX10_plainOf 20 = .ok (.goto (-18), 3) := by decide +kernel
theorem dX10_plainOf_23 : decode cX10_plainOf 23 = .ok (.aload_n 0, 1) := by decide +kernel
theorem dX10_plainOf_24 : decode cX10_plainOf 24 = .ok (.iload_n 1, 1) := by decide +kernel
theorem dX10_plainOf_25 : decode cX10_plainOf 25 = .ok (.invokevirtual 227, 3) := by decide +kernel
theorem dX10_plainOf_28 : decode cX10_plainOf 28 = .ok (.iload_n 2, 1) := by decide +kernel
theorem dX10_plainOf_29 : decode cX10_plainOf 29 = .ok (.if_icmp .eq 7, 3) := by decide +kernel
theorem dX10_plainOf_32 : decode cX10_plainOf 32 = .ok (.iconst 1, 1) := by decide +kernel
theorem dX10_plainOf_33 : decode cX10_plainOf 33 = .ok (.goto 4, 3) := by decide +kernel
theorem dX10_plainOf_36 : decode cX10_plainOf 36 = .ok (.iconst 0, 1) := by decide +kernel
theorem dX10_plainOf_37 : decode cX10_plainOf 37 = .ok (.ireturn, 1) := by decide +kernel
theorem dX10_positiveOf_0 : decode cX10_positiveOf 0 = .ok (.aload_n 0, 1) := by decide +kernel
theorem dX10_positiveOf_1 : decode cX10_positiveOf 1 = .ok (.bipush 40, 2) := by decide +kernel
theorem dX10_positiveOf_3 : decode cX10_positiveOf 3 = .ok (.invokestatic 164, 3) := by decide +kernel
theorem dX10_positiveOf_6 : decode cX10_positiveOf 6 = .ok (.invokevirtual 214, 3) := by decide +kernel
theorem dX10_positiveOf_9 : decode cX10_positiveOf 9 = .ok (.ifCond .eq 21, 3) := by decide +kernel
theorem dX10_positiveOf_12 : decode cX10_positiveOf 12 = .ok (.aload_n 0, 1) := by decide +kernel
theorem dX10_positiveOf_13 : decode cX10_positiveOf 13 = .ok (.iload_n 1, 1) := by decide +kernel
theorem dX10_positiveOf_14 : decode cX10_positiveOf 14 = .ok (.invokevirtual 230, 3) := by decide +kernel
theorem dX10_positiveOf_17 : decode cX10_positiveOf 17 = .ok (.istore_n 2, 1) := by decide +kernel
theorem dX10_positiveOf_18 : decode cX10_positiveOf 18 = .ok (.aload_n 0, 1) := by decide +kernel
theorem dX10_positiveOf_19 : decode cX10_positiveOf 19 = .ok (.dup, 1) := by decide +kernel
theorem dX10_positiveOf_20 : decode cX10_positiveOf 20 = .ok (.getfield 189, 3) := by decide +kernel
theorem dX10_positiveOf_23 : decode cX10_positiveOf 23 = .ok (.iconst 1, 1) := by decide +kernel
theorem dX10_positiveOf_24 : decode cX10_positiveOf 24 = .ok (.iadd, 1) := by decide +kernel
theorem dX10_positiveOf_25 : decode cX10_positiveOf 25 = .ok (.putfield 189, 3) := by decide +kernel
theorem dX10_positiveOf_28 : decode cX10_positiveOf 28 = .ok (.iload_n 2, 1) := by decide +kernel
theorem dX10_positiveOf_29 : decode cX10_positiveOf 29 = .ok (.ireturn, 1) := by decide +kernel
theorem dX10_positiveOf_30 : decode cX10_positiveOf 30 = .ok (.aload_n 0, 1) := by decide +kernel
theorem dX10_positiveOf_31 : decode cX10_positiveOf 31 = .ok (.iload_n 1, 1) := by decide +kernel
theorem dX10_positiveOf_32 : decode cX10_positiveOf 32 = .ok (.invokevirtual 217, 3) := by decide +kernel
theorem dX10_positiveOf_35 : decode cX10_positiveOf 35 = .ok (.lstore_n 2, 1) := by decide +kernel
theorem dX10_positiveOf_36 : decode cX10_positiveOf 36 = .ok (.aload_n 0, 1) := by decide +kernel
theorem dX10_positiveOf_37 : decode cX10_positiveOf 37 = .ok (.aload_n 0, 1) := by decide +kernel
theorem dX10_positiveOf_38 : decode cX10_positiveOf 38 = .ok (.getfield 189, 3) := by decide +kernel
theorem dX10_positiveOf_41 : decode cX10_positiveOf 41 = .ok (.invokevirtual 192, 3) := by decide +kernel
theorem dX10_positiveOf_44 : decode cX10_positiveOf 44 = .ok (.istore 4, 2) := by decide +kernel
theorem dX10_positiveOf_46 : decode cX10_positiveOf 46 = .ok (.aload_n 0, 1) := by decide +kernel
theorem dX10_positiveOf_47 : decode cX10_positiveOf 47 = .ok (.dup, 1) := by decide +kernel
theorem dX10_positiveOf_48 : decode cX10_positiveOf 48 = .ok (.getfield 189, 3) := by decide +kernel
theorem dX10_positiveOf_51 : decode cX10_positiveOf 51 = .ok (.iconst 1, 1) := by decide +kernel
theorem dX10_positiveOf_52 : decode cX10_positiveOf 52 = .ok (.iadd, 1) := by decide +kernel
theorem dX10_positiveOf_53 : decode cX10_positiveOf 53 = .ok (.putfield 189, 3) := by decide +kernel
theorem dX10_positiveOf_56 : decode cX10_positiveOf 56 = .ok (.aload_n 0, 1) := by decide +kernel
theorem dX10_positiveOf_57 : decode cX10_positiveOf 57 = .ok (.iload_n 1, 1) := by decide +kernel
theorem dX10_positiveOf_58 : decode cX10_positiveOf 58 = .ok (.invokevirtual 217, 3) := by decide +kernel
theorem dX10_positiveOf_61 : decode cX10_positiveOf 61 = .ok (.lstore 5, 2) := by decide +kernel
theorem dX10_positiveOf_63 : decode cX10_positiveOf 63 = .ok (.iload_n 1, 1) := by decide +kernel
theorem dX10_positiveOf_64 : decode cX10_positiveOf 64 = .ok (.ifCond .eq 61, 3) := by decide +kernel
theorem dX10_positiveOf_67 : decode cX10_positiveOf 67 = .ok (.aload_n 0, 1) := by decide +kernel
theorem dX10_positiveOf_68 : decode cX10_positiveOf 68 = .ok (.getfield 199, 3) := by decide +kernel
theorem dX10_positiveOf_71 : decode cX10_positiveOf 71 = .ok (.ifCond .ne 54, 3) := by decide +kernel
theorem dX10_positiveOf_74 : decode cX10_positiveOf 74 = .ok (.iload 4, 2) := by decide +kernel
theorem dX10_positiveOf_76 : decode cX10_positiveOf 76 = .ok (.bipush 60, 2) := by decide +kernel
theorem dX10_positiveOf_78 : decode cX10_positiveOf 78 = .ok (.invokestatic 164, 3) := by decide +kernel
theorem dX10_positiveOf_81 : decode cX10_positiveOf 81 = .ok (.if_icmp .ne 13, 3) := by decide +kernel
theorem dX10_positiveOf_84 : decode cX10_positiveOf 84 = .ok (.lload_n 2, 1) := by decide +kernel
theorem dX10_positiveOf_85 : decode cX10_positiveOf 85 = .ok (.lload 5, 2) := by decide +kernel
theorem dX10_positiveOf_87 : decode cX10_positiveOf 87 = .ok (.lcmp, 1) := by decide +kernel
theorem dX10_positiveOf_88 : decode cX10_positiveOf 88 = .ok (.ifCond .ge 37, 3) := by decide +kernel
theorem dX10_positiveOf_91 : decode cX10_positiveOf 91 = .ok (.goto 30, 3) := by decide +kernel
theorem dX10_positiveOf_94 : decode cX10_positiveOf 94 = .ok (.iload 4, 2) := by decide +kernel
theorem dX10_positiveOf_96 : decode cX10_positiveOf 96 = .ok (.bipush 62, 2) := by decide +kernel
theorem dX10_positiveOf_98 : decode cX10_positiveOf 98 = .ok (.invokestatic 164, 3) := by decide +kernel
theorem dX10_positiveOf_101 : decode cX10_positiveOf 101 = .ok (.if_icmp .ne 13, 3) := by decide +kernel
theorem dX10_positiveOf_104 : decode cX10_positiveOf 104 = .ok (.lload_n 2, 1) := by decide +kernel
theorem dX10_positiveOf_105 : decode cX10_positiveOf 105 = .ok (.lload 5, 2) := by decide +kernel
theorem dX10_positiveOf_107 : decode cX10_positiveOf 107 = .ok (.lcmp, 1) := by decide +kernel
theorem dX10_positiveOf_108 : decode cX10_positiveOf 108 = .ok (.ifCond .le 17, 3) := by decide +kernel
theorem dX10_positiveOf_111 : decode cX10_positiveOf 111 = .ok (.goto 10, 3) := by decide +kernel
theorem dX10_positiveOf_114 : decode cX10_positiveOf 114 = .ok (.lload_n 2, 1) := by decide +kernel
theorem dX10_positiveOf_115 : decode cX10_positiveOf 115 = .ok (.lload 5, 2) := by decide +kernel
theorem dX10_positiveOf_117 : decode cX10_positiveOf 117 = .ok (.lcmp, 1) := by decide +kernel
theorem dX10_positiveOf_118 : decode cX10_positiveOf 118 = .ok (.ifCond .ne 7, 3) := by decide +kernel
theorem dX10_positiveOf_121 : decode cX10_positiveOf 121 = .ok (.iconst 1, 1) := by decide +kernel
theorem dX10_positiveOf_122 : decode cX10_positiveOf 122 = .ok (.goto 4, 3) := by decide +kernel
theorem dX10_positiveOf_125 : decode cX10_positiveOf 125 = .ok (.iconst 0, 1) := by decide +kernel
theorem dX10_positiveOf_126 : decode cX10_positiveOf 126 = .ok (.ireturn, 1) := by decide +kernel
theorem dX10_wishOf_0 : decode cX10_wishOf 0 = .ok (.lload_n 1, 1) := by decide +kernel
theorem dX10_wishOf_1 : decode cX10_wishOf 1 = .ok (.lstore_n 3, 1) := by decide +kernel
theorem dX10_wishOf_2 : decode cX10_wishOf 2 = .ok (.aload_n 0, 1) := by decide +kernel
theorem dX10_wishOf_3 : decode cX10_wishOf 3 = .ok (.getfield 17, 3) := by decide +kernel
theorem dX10_wishOf_6 : decode cX10_wishOf 6 = .ok (.sipush 180, 3) := by decide +kernel
theorem dX10_wishOf_9 : decode cX10_wishOf 9 = .ok (.iaload, 1) := by decide +kernel
theorem dX10_wishOf_10 : decode cX10_wishOf 10 = .ok (.iconst (-1), 1) := by decide +kernel
theorem dX10_wishOf_11 : decode cX10_wishOf 11 = .ok (.if_icmp .ne 5, 3) := by decide +kernel
theorem dX10_wishOf_14 : decode cX10_wishOf 14 = .ok (.lload_n 3, 1) := by decide +kernel
theorem dX10_wishOf_15 : decode cX10_wishOf 15 = .ok (.lreturn, 1) := by decide +kernel
theorem dX10_wishOf_16 : decode cX10_wishOf 16 = .ok (.aload_n 0, 1) := by decide +kernel
theorem dX10_wishOf_17 : decode cX10_wishOf 17 = .ok (.sipush 400, 3) := by decide +kernel
theorem dX10_wishOf_20 : decode cX10_wishOf 20 = .ok (.aload_n 0, 1) := by decide +kernel
theorem dX10_wishOf_21 : decode cX10_wishOf 21 = .ok (.getfield 17, 3) := by decide +kernel
theorem dX10_wishOf_24 : decode cX10_wishOf 24 = .ok (.sipush 180, 3) := by decide +kernel
theorem dX10_wishOf_27 : decode cX10_wishOf 27 = .ok (.iaload, 1) := by decide +kernel
theorem dX10_wishOf_28 : decode cX10_wishOf 28 = .ok (.imul, 1) := by decide +kernel
theorem dX10_wishOf_29 : decode cX10_wishOf 29 = .ok (.putfield 189, 3) := by decide +kernel
theorem dX10_wishOf_32 : decode cX10_wishOf 32 = .ok (.aload_n 0, 1) := by decide +kernel
theorem dX10_wishOf_33 : decode cX10_wishOf 33 = .ok (.aload_n 0, 1) := by decide +kernel
theorem dX10_wishOf_34 : decode cX10_wishOf 34 = .ok (.getfield 189, 3) := by decide +kernel
theorem dX10_wishOf_37 : decode cX10_wishOf 37 = .ok (.aload_n 0, 1) := by decide +kernel
theorem dX10_wishOf_38 : decode cX10_wishOf 38 = .ok (.getfield 17, 3) := by decide +kernel
theorem dX10_wishOf_41 : decode cX10_wishOf 41 = .ok (.sipush 181, 3) := by decide +kernel
theorem dX10_wishOf_44 : decode cX10_wishOf 44 = .ok (.aload_n 0, 1) := by decide +kernel
theorem dX10_wishOf_45 : decode cX10_wishOf 45 = .ok (.getfield 17, 3) := by decide +kernel
theorem dX10_wishOf_48 : decode cX10_wishOf 48 = .ok (.sipush 180, 3) := by decide +kernel
theorem dX10_wishOf_51 : decode cX10_wishOf 51 = .ok (.iaload, 1) := by decide +kernel
theorem dX10_wishOf_52 : decode cX10_wishOf 52 = .ok (.iadd, 1) := by decide +kernel
theorem dX10_wishOf_53 : decode cX10_wishOf 53 = .ok (.iaload, 1) := by decide +kernel
theorem dX10_wishOf_54 : decode cX10_wishOf 54 = .ok (.iadd, 1) := by decide +kernel
theorem dX10_wishOf_55 : decode cX10_wishOf 55 = .ok (.putfield 186, 3) := by decide +kernel
theorem dX10_wishOf_58 : decode cX10_wishOf 58 = .ok (.aload_n 0, 1) := by decide +kernel
theorem dX10_wishOf_59 : decode cX10_wishOf 59 = .ok (.getfield 189, 3) := by decide +kernel
theorem dX10_wishOf_62 : decode cX10_wishOf 62 = .ok (.aload_n 0, 1) := by decide +kernel
theorem dX10_wishOf_63 : decode cX10_wishOf 63 = .ok (.getfield 186, 3) := by decide +kernel
theorem dX10_wishOf_66 : decode cX10_wishOf 66 = .ok (.if_icmp .ge 92, 3) := by decide +kernel
theorem dX10_wishOf_69 : decode cX10_wishOf 69 = .ok (.aload_n 0, 1) := by decide +kernel
theorem dX10_wishOf_70 : decode cX10_wishOf 70 = .ok (.iconst 0, 1) := by decide +kernel
theorem dX10_wishOf_71 : decode cX10_wishOf 71 = .ok (.putfield 199, 3) := by decide +kernel
theorem dX10_wishOf_74 : decode cX10_wishOf 74 = .ok (.aload_n 0, 1) := by decide +kernel
theorem dX10_wishOf_75 : decode cX10_wishOf 75 = .ok (.dup, 1) := by decide +kernel
theorem dX10_wishOf_76 : decode cX10_wishOf 76 = .ok (.getfield 189, 3) := by decide +kernel
theorem dX10_wishOf_79 : decode cX10_wishOf 79 = .ok (.iconst 1, 1) := by decide +kernel
theorem dX10_wishOf_80 : decode cX10_wishOf 80 = .ok (.iadd, 1) := by decide +kernel
theorem dX10_wishOf_81 : decode cX10_wishOf 81 = .ok (.putfield 189, 3) := by decide +kernel
theorem dX10_wishOf_84 : decode cX10_wishOf 84 = .ok (.aload_n 0, 1) := by decide +kernel
theorem dX10_wishOf_85 : decode cX10_wishOf 85 = .ok (.iconst 1, 1) := by decide +kernel
theorem dX10_wishOf_86 : decode cX10_wishOf 86 = .ok (.invokevirtual 217, 3) := by decide +kernel
theorem dX10_wishOf_89 : decode cX10_wishOf 89 = .ok (.lstore 5, 2) := by decide +kernel
theorem dX10_wishOf_91 : decode cX10_wishOf 91 = .ok (.aload_n 0, 1) := by decide +kernel
theorem dX10_wishOf_92 : decode cX10_wishOf 92 = .ok (.getfield 199, 3) := by decide +kernel
theorem dX10_wishOf_95 : decode cX10_wishOf 95 = .ok (.istore 7, 2) := by decide +kernel
theorem dX10_wishOf_97 : decode cX10_wishOf 97 = .ok (.aload_n 0, 1) := by decide +kernel
theorem dX10_wishOf_98 : decode cX10_wishOf 98 = .ok (.iconst 0, 1) := by decide +kernel
theorem dX10_wishOf_99 : decode cX10_wishOf 99 = .ok (.putfield 199, 3) := by decide +kernel
theorem dX10_wishOf_102 : decode cX10_wishOf 102 = .ok (.aload_n 0, 1) := by decide +kernel
theorem dX10_wishOf_103 : decode cX10_wishOf 103 = .ok (.iconst 2, 1) := by decide +kernel
theorem dX10_wishOf_104 : decode cX10_wishOf 104 = .ok (.invokevirtual 214, 3) := by decide +kernel
theorem dX10_wishOf_107 : decode cX10_wishOf 107 = .ok (.ifCond .eq 11, 3) := by decide +kernel
theorem dX10_wishOf_110 : decode cX10_wishOf 110 = .ok (.aload_n 0, 1) := by decide +kernel
theorem dX10_wishOf_111 : decode cX10_wishOf 111 = .ok (.iconst 1, 1) := by decide +kernel
theorem dX10_wishOf_112 : decode cX10_wishOf 112 = .ok (.invokevirtual 230, 3) := by decide +kernel
theorem dX10_wishOf_115 : decode cX10_wishOf 115 = .ok (.ifCond .eq 7, 3) := by decide +kernel
theorem dX10_wishOf_118 : decode cX10_wishOf 118 = .ok (.iconst 1, 1) := by decide +kernel
theorem dX10_wishOf_119 : decode cX10_wishOf 119 = .ok (.goto 4, 3) := by decide +kernel
theorem dX10_wishOf_122 : decode cX10_wishOf 122 = .ok (.iconst 0, 1) := by decide +kernel
theorem dX10_wishOf_123 : decode cX10_wishOf 123 = .ok (.istore 8, 2) := by decide +kernel
theorem dX10_wishOf_125 : decode cX10_wishOf 125 = .ok (.iload 8, 2) := by decide +kernel
theorem dX10_wishOf_127 : decode cX10_wishOf 127 = .ok (.ifCond .eq 18, 3) := by decide +kernel
theorem dX10_wishOf_130 : decode cX10_wishOf 130 = .ok (.aload_n 0, 1) := by decide +kernel
theorem dX10_wishOf_131 : decode cX10_wishOf 131 = .ok (.getfield 199, 3) := by decide +kernel
theorem dX10_wishOf_134 : decode cX10_wishOf 134 = .ok (.ifCond .ne 11, 3) := by decide +kernel
theorem dX10_wishOf_137 : decode cX10_wishOf 137 = .ok (.iload 7, 2) := by decide +kernel
theorem dX10_wishOf_139 : decode cX10_wishOf 139 = .ok (.ifCond .ne 6, 3) := by decide +kernel
theorem dX10_wishOf_142 : decode cX10_wishOf 142 = .ok (.lload 5, 2) := by decide +kernel
theorem dX10_wishOf_144 : decode cX10_wishOf 144 = .ok (.lstore_n 3, 1) := by decide +kernel
theorem dX10_wishOf_145 : decode cX10_wishOf 145 = .ok (.aload_n 0, 1) := by decide +kernel
theorem dX10_wishOf_146 : decode cX10_wishOf 146 = .ok (.dup, 1) := by decide +kernel
theorem dX10_wishOf_147 : decode cX10_wishOf 147 = .ok (.getfield 189, 3) := by decide +kernel
theorem dX10_wishOf_150 : decode cX10_wishOf 150 = .ok (.iconst 1, 1) := by decide +kernel
theorem dX10_wishOf_151 : decode cX10_wishOf 151 = .ok (.iadd, 1) := by decide +kernel
theorem dX10_wishOf_152 : decode cX10_wishOf 152 = .ok (.putfield 189, 3) := by decide +kernel
theorem dX10_wishOf_155 : decode cX10_wishOf 155 = .ok (.goto (-97), 3) := by decide +kernel
theorem dX10_wishOf_158 : decode cX10_wishOf 158 = .ok (.lload_n 3, 1) := by decide +kernel
theorem dX10_wishOf_159 : decode cX10_wishOf 159 = .ok (.lreturn, 1) := by decide +kernel
theorem dX10_nearest_0 : decode cX10_nearest 0 = .ok (.iconst (-1), 1) := by decide +kernel
theorem dX10_nearest_1 : decode cX10_nearest 1 = .ok (.istore_n 3, 1) := by decide +kernel
theorem dX10_nearest_2 : decode cX10_nearest 2 = .ok (.lconst 0, 1) := by decide +kernel
theorem dX10_nearest_3 : decode cX10_nearest 3 = .ok (.lstore 4, 2) := by decide +kernel
theorem dX10_nearest_5 : decode cX10_nearest 5 = .ok (.iconst 0, 1) := by decide +kernel
theorem dX10_nearest_6 : decode cX10_nearest 6 = .ok (.istore 6, 2) := by decide +kernel
theorem dX10_nearest_8 : decode cX10_nearest 8 = .ok (.iload 6, 2) := by decide +kernel
theorem dX10_nearest_10 : decode cX10_nearest 10 = .ok (.bipush 8, 2) := by decide +kernel
theorem dX10_nearest_12 : decode cX10_nearest 12 = .ok (.if_icmp .ge 64, 3) := by decide +kernel
theorem dX10_nearest_15 : decode cX10_nearest 15 = .ok (.lload_n 1, 1) := by decide +kernel
theorem dX10_nearest_16 : decode cX10_nearest 16 = .ok (.iload 6, 2) := by decide +kernel
theorem dX10_nearest_18 : decode cX10_nearest 18 = .ok (.i2l, 1) := by decide +kernel
theorem dX10_nearest_19 : decode cX10_nearest 19 = .ok (.lcmp, 1) := by decide +kernel
theorem dX10_nearest_20 : decode cX10_nearest 20 = .ok (.ifCond .le 11, 3) := by decide +kernel
theorem dX10_nearest_23 : decode cX10_nearest 23 = .ok (.lload_n 1, 1) := by decide +kernel
theorem dX10_nearest_24 : decode cX10_nearest 24 = .ok (.iload 6, 2) := by decide +kernel
theorem dX10_nearest_26 : decode cX10_nearest 26 = .ok (.i2l, 1) := by decide +kernel
theorem dX10_nearest_27 : decode cX10_nearest 27 = .ok (.lsub, 1) := by decide +kernel
theorem dX10_nearest_28 : decode cX10_nearest 28 = .ok (.goto 8, 3) := by decide +kernel
theorem dX10_nearest_31 : decode cX10_nearest 31 = .ok (.iload 6, 2) := by decide +kernel
theorem dX10_nearest_33 : decode cX10_nearest 33 = .ok (.i2l, 1) := by decide +kernel
theorem dX10_nearest_34 : decode cX10_nearest 34 = .ok (.lload_n 1, 1) := by decide +kernel
theorem dX10_nearest_35 : decode cX10_nearest 35 = .ok (.lsub, 1) := by decide +kernel
theorem dX10_nearest_36 : decode cX10_nearest 36 = .ok (.lstore 7, 2) := by decide +kernel
theorem dX10_nearest_38 : decode cX10_nearest 38 = .ok (.iload_n 0, 1) := by decide +kernel
theorem dX10_nearest_39 : decode cX10_nearest 39 = .ok (.iload 6, 2) := by decide +kernel
theorem dX10_nearest_41 : decode cX10_nearest 41 = .ok (.ishr, 1) := by decide +kernel
theorem dX10_nearest_42 : decode cX10_nearest 42 = .ok (.iconst 1, 1) := by decide +kernel
theorem dX10_nearest_43 : decode cX10_nearest 43 = .ok (.iand, 1) := by decide +kernel
theorem dX10_nearest_44 : decode cX10_nearest 44 = .ok (.ifCond .eq 26, 3) := by decide +kernel
theorem dX10_nearest_47 : decode cX10_nearest 47 = .ok (.iload_n 3, 1) := by decide +kernel
theorem dX10_nearest_48 : decode cX10_nearest 48 = .ok (.iconst (-1), 1) := by decide +kernel
theorem dX10_nearest_49 : decode cX10_nearest 49 = .ok (.if_icmp .eq 14, 3) := by decide +kernel
theorem dX10_nearest_52 : decode cX10_nearest 52 = .ok (.lload 7, 2) := by decide +kernel
theorem dX10_nearest_54 : decode cX10_nearest 54 = .ok (.lload 4, 2) := by decide +kernel
theorem dX10_nearest_56 : decode cX10_nearest 56 = .ok (.lcmp, 1) := by decide +kernel
theorem dX10_nearest_57 : decode cX10_nearest 57 = .ok (.ifCond .lt 6, 3) := by decide +kernel
theorem dX10_nearest_60 : decode cX10_nearest 60 = .ok (.goto 10, 3) := by decide +kernel
theorem dX10_nearest_63 : decode cX10_nearest 63 = .ok (.iload 6, 2) := by decide +kernel
theorem dX10_nearest_65 : decode cX10_nearest 65 = .ok (.istore_n 3, 1) := by decide +kernel
theorem dX10_nearest_66 : decode cX10_nearest 66 = .ok (.lload 7, 2) := by decide +kernel
theorem dX10_nearest_68 : decode cX10_nearest 68 = .ok (.lstore 4, 2) := by decide +kernel
theorem dX10_nearest_70 : decode cX10_nearest 70 = .ok (.iinc 6 1, 3) := by decide +kernel
theorem dX10_nearest_73 : decode cX10_nearest 73 = .ok (.goto (-65), 3) := by decide +kernel
theorem dX10_nearest_76 : decode cX10_nearest 76 = .ok (.iload_n 3, 1) := by decide +kernel
theorem dX10_nearest_77 : decode cX10_nearest 77 = .ok (.ireturn, 1) := by decide +kernel
theorem dX10_plain_0 : decode cX10_plain 0 = .ok (.aload_n 0, 1) := by decide +kernel
theorem dX10_plain_1 : decode cX10_plain 1 = .ok (.iconst 0, 1) := by decide +kernel
theorem dX10_plain_2 : decode cX10_plain 2 = .ok (.putfield 233, 3) := by decide +kernel
theorem dX10_plain_5 : decode cX10_plain 5 = .ok (.aload_n 0, 1) := by decide +kernel
theorem dX10_plain_6 : decode cX10_plain 6 = .ok (.iconst (-1), 1) := by decide +kernel
theorem dX10_plain_7 : decode cX10_plain 7 = .ok (.putfield 236, 3) := by decide +kernel
theorem dX10_plain_10 : decode cX10_plain 10 = .ok (.aload_n 0, 1) := by decide +kernel
theorem dX10_plain_11 : decode cX10_plain 11 = .ok (.iconst 0, 1) := by decide +kernel
theorem dX10_plain_12 : decode cX10_plain 12 = .ok (.putfield 239, 3) := by decide +kernel
theorem dX10_plain_15 : decode cX10_plain 15 = .ok (.aload_n 0, 1) := by decide +kernel
theorem dX10_plain_16 : decode cX10_plain 16 = .ok (.iconst (-1), 1) := by decide +kernel
theorem dX10_plain_17 : decode cX10_plain 17 = .ok (.putfield 242, 3) := by decide +kernel
theorem dX10_plain_20 : decode cX10_plain 20 = .ok (.aload_n 0, 1) := by decide +kernel
theorem dX10_plain_21 : decode cX10_plain 21 = .ok (.iconst 0, 1) := by decide +kernel
theorem dX10_plain_22 : decode cX10_plain 22 = .ok (.putfield 245, 3) := by decide +kernel
theorem dX10_plain_25 : decode cX10_plain 25 = .ok (.aload_n 0, 1) := by decide +kernel
theorem dX10_plain_26 : decode cX10_plain 26 = .ok (.iconst 0, 1) := by decide +kernel
theorem dX10_plain_27 : decode cX10_plain 27 = .ok (.putfield 248, 3) := by decide +kernel
theorem dX10_plain_30 : decode cX10_plain 30 = .ok (.return_, 1) := by decide +kernel
theorem dX10_isSeen_0 : decode cX10_isSeen 0 = .ok (.aload_n 0, 1) := by decide +kernel
theorem dX10_isSeen_1 : decode cX10_isSeen 1 = .ok (.getfield 233, 3) := by decide +kernel
theorem dX10_isSeen_4 : decode cX10_isSeen 4 = .ok (.iload_n 1, 1) := by decide +kernel
theorem dX10_isSeen_5 : decode cX10_isSeen 5 = .ok (.ishr, 1) := by decide +kernel
theorem dX10_isSeen_6 : decode cX10_isSeen 6 = .ok (.iconst 1, 1) := by decide +kernel
theorem dX10_isSeen_7 : decode cX10_isSeen 7 = .ok (.iand, 1) := by decide +kernel
theorem dX10_isSeen_8 : decode cX10_isSeen 8 = .ok (.iconst 1, 1) := by decide +kernel
theorem dX10_isSeen_9 : decode cX10_isSeen 9 = .ok (.if_icmp .ne 5, 3) := by decide +kernel
theorem dX10_isSeen_12 : decode cX10_isSeen 12 = .ok (.iconst 1, 1) := by decide +kernel
theorem dX10_isSeen_13 : decode cX10_isSeen 13 = .ok (.ireturn, 1) := by decide +kernel
theorem dX10_isSeen_14 : decode cX10_isSeen 14 = .ok (.iload_n 2, 1) := by decide +kernel
theorem dX10_isSeen_15 : decode cX10_isSeen 15 = .ok (.bipush 6, 2) := by decide +kernel
theorem dX10_isSeen_17 : decode cX10_isSeen 17 = .ok (.irem, 1) := by decide +kernel
theorem dX10_isSeen_18 : decode cX10_isSeen 18 = .ok (.aload_n 0, 1) := by decide +kernel
theorem dX10_isSeen_19 : decode cX10_isSeen 19 = .ok (.iload_n 1, 1) := by decide +kernel
theorem dX10_isSeen_20 : decode cX10_isSeen 20 = .ok (.iconst 0, 1) := by decide +kernel
theorem dX10_isSeen_21 : decode cX10_isSeen 21 = .ok (.invokevirtual 100, 3) := by decide +kernel
theorem dX10_isSeen_24 : decode cX10_isSeen 24 = .ok (.aload_n 0, 1) := by decide +kernel
theorem dX10_isSeen_25 : decode cX10_isSeen 25 = .ok (.iload_n 1, 1) := by decide +kernel
theorem dX10_isSeen_26 : decode cX10_isSeen 26 = .ok (.iconst 0, 1) := by decide +kernel
theorem dX10_isSeen_27 : decode cX10_isSeen 27 = .ok (.invokevirtual 100, 3) := by decide +kernel
theorem dX10_isSeen_30 : decode cX10_isSeen 30 = .ok (.aload_n 0, 1) := by decide +kernel
theorem dX10_isSeen_31 : decode cX10_isSeen 31 = .ok (.iload_n 1, 1) := by decide +kernel
theorem dX10_isSeen_32 : decode cX10_isSeen 32 = .ok (.iconst 2, 1) := by decide +kernel
theorem dX10_isSeen_33 : decode cX10_isSeen 33 = .ok (.invokevirtual 100, 3) := by decide +kernel
theorem dX10_isSeen_36 : decode cX10_isSeen 36 = .ok (.iadd, 1) := by decide +kernel
theorem dX10_isSeen_37 : decode cX10_isSeen 37 = .ok (.iconst 1, 1) := by decide +kernel
theorem dX10_isSeen_38 : decode cX10_isSeen 38 = .ok (.isub, 1) := by decide +kernel
theorem dX10_isSeen_39 : decode cX10_isSeen 39 = .ok (.invokestatic 73, 3) := by decide +kernel
theorem dX10_isSeen_42 : decode cX10_isSeen 42 = .ok (.ifCond .eq 38, 3) := by decide +kernel
theorem dX10_isSeen_45 : decode cX10_isSeen 45 = .ok (.iload_n 2, 1) := by decide +kernel
theorem dX10_isSeen_46 : decode cX10_isSeen 46 = .ok (.bipush 6, 2) := by decide +kernel
theorem dX10_isSeen_48 : decode cX10_isSeen 48 = .ok (.idiv, 1) := by decide +kernel
theorem dX10_isSeen_49 : decode cX10_isSeen 49 = .ok (.aload_n 0, 1) := by decide +kernel
theorem dX10_isSeen_50 : decode cX10_isSeen 50 = .ok (.iload_n 1, 1) := by decide +kernel
theorem dX10_isSeen_51 : decode cX10_isSeen 51 = .ok (.iconst 1, 1) := by decide +kernel
theorem dX10_isSeen_52 : decode cX10_isSeen 52 = .ok (.invokevirtual 100, 3) := by decide +kernel
theorem dX10_isSeen_55 : decode cX10_isSeen 55 = .ok (.aload_n 0, 1) := by decide +kernel
theorem dX10_isSeen_56 : decode cX10_isSeen 56 = .ok (.iload_n 1, 1) := by decide +kernel
theorem dX10_isSeen_57 : decode cX10_isSeen 57 = .ok (.iconst 1, 1) := by decide +kernel
theorem dX10_isSeen_58 : decode cX10_isSeen 58 = .ok (.invokevirtual 100, 3) := by decide +kernel
theorem dX10_isSeen_61 : decode cX10_isSeen 61 = .ok (.aload_n 0, 1) := by decide +kernel
theorem dX10_isSeen_62 : decode cX10_isSeen 62 = .ok (.iload_n 1, 1) := by decide +kernel
theorem dX10_isSeen_63 : decode cX10_isSeen 63 = .ok (.iconst 3, 1) := by decide +kernel
theorem dX10_isSeen_64 : decode cX10_isSeen 64 = .ok (.invokevirtual 100, 3) := by decide +kernel
theorem dX10_isSeen_67 : decode cX10_isSeen 67 = .ok (.iadd, 1) := by decide +kernel
theorem dX10_isSeen_68 : decode cX10_isSeen 68 = .ok (.iconst 1, 1) := by decide +kernel
theorem dX10_isSeen_69 : decode cX10_isSeen 69 = .ok (.isub, 1) := by decide +kernel
theorem dX10_isSeen_70 : decode cX10_isSeen 70 = .ok (.invokestatic 73, 3) := by decide +kernel
theorem dX10_isSeen_73 : decode cX10_isSeen 73 = .ok (.ifCond .eq 7, 3) := by decide +kernel
theorem dX10_isSeen_76 : decode cX10_isSeen 76 = .ok (.iconst 1, 1) := by decide +kernel
theorem dX10_isSeen_77 : decode cX10_isSeen 77 = .ok (.goto 4, 3) := by decide +kernel
theorem dX10_isSeen_80 : decode cX10_isSeen 80 = .ok (.iconst 0, 1) := by decide +kernel
theorem dX10_isSeen_81 : decode cX10_isSeen 81 = .ok (.ireturn, 1) := by decide +kernel
theorem dX10_weaves_0 : decode cX10_weaves 0 = .ok (.aload_n 0, 1) := by decide +kernel
theorem dX10_weaves_1 : decode cX10_weaves 1 = .ok (.iload_n 1, 1) := by decide +kernel
theorem dX10_weaves_2 : decode cX10_weaves 2 = .ok (.iconst 5, 1) := by decide +kernel
theorem dX10_weaves_3 : decode cX10_weaves 3 = .ok (.invokevirtual 100, 3) := by decide +kernel
theorem dX10_weaves_6 : decode cX10_weaves 6 = .ok (.iload_n 1, 1) := by decide +kernel
theorem dX10_weaves_7 : decode cX10_weaves 7 = .ok (.aload_n 0, 1) := by decide +kernel
theorem dX10_weaves_8 : decode cX10_weaves 8 = .ok (.getfield 236, 3) := by decide +kernel
theorem dX10_weaves_11 : decode cX10_weaves 11 = .ok (.if_icmp .ne 12, 3) := by decide +kernel
theorem dX10_weaves_14 : decode cX10_weaves 14 = .ok (.iconst 1, 1) := by decide +kernel
theorem dX10_weaves_15 : decode cX10_weaves 15 = .ok (.aload_n 0, 1) := by decide +kernel
theorem dX10_weaves_16 : decode cX10_weaves 16 = .ok (.getfield 239, 3) := by decide +kernel
theorem dX10_weaves_19 : decode cX10_weaves 19 = .ok (.ishl, 1) := by decide +kernel
theorem dX10_weaves_20 : decode cX10_weaves 20 = .ok (.goto 4, 3) := by decide +kernel
theorem dX10_weaves_23 : decode cX10_weaves 23 = .ok (.iconst 0, 1) := by decide +kernel
theorem dX10_weaves_24 : decode cX10_weaves 24 = .ok (.ior, 1) := by decide +kernel
theorem dX10_weaves_25 : decode cX10_weaves 25 = .ok (.istore 5, 2) := by decide +kernel
theorem dX10_weaves_27 : decode cX10_weaves 27 = .ok (.iconst 0, 1) := by decide +kernel
theorem dX10_weaves_28 : decode cX10_weaves 28 = .ok (.istore 6, 2) := by decide +kernel
theorem dX10_weaves_30 : decode cX10_weaves 30 = .ok (.iload 6, 2) := by decide +kernel
theorem dX10_weaves_32 : decode cX10_weaves 32 = .ok (.bipush 36, 2) := by decide +kernel
theorem dX10_weaves_34 : decode cX10_weaves 34 = .ok (.if_icmp .ge 273, 3) := by decide +kernel
theorem dX10_weaves_37 : decode cX10_weaves 37 = .ok (.aload_n 0, 1) := by decide +kernel
theorem dX10_weaves_38 : decode cX10_weaves 38 = .ok (.iload_n 1, 1) := by decide +kernel
theorem dX10_weaves_39 : decode cX10_weaves 39 = .ok (.iload 6, 2) := by decide +kernel
theorem dX10_weaves_41 : decode cX10_weaves 41 = .ok (.invokevirtual 251, 3) := by decide +kernel
theorem dX10_weaves_44 : decode cX10_weaves 44 = .ok (.istore 7, 2) := by decide +kernel
theorem dX10_weaves_46 : decode cX10_weaves 46 = .ok (.aload_n 0, 1) := by decide +kernel
theorem dX10_weaves_47 : decode cX10_weaves 47 = .ok (.getfield 49, 3) := by decide +kernel
theorem dX10_weaves_50 : decode cX10_weaves 50 = .ok (.iconst 0, 1) := by decide +kernel
theorem dX10_weaves_51 : decode cX10_weaves 51 = .ok (.iload 6, 2) := by decide +kernel
theorem dX10_weaves_53 : decode cX10_weaves 53 = .ok (.bipush 6, 2) := by decide +kernel
theorem dX10_weaves_55 : decode cX10_weaves 55 = .ok (.irem, 1) := by decide +kernel
theorem dX10_weaves_56 : decode cX10_weaves 56 = .ok (.iastore, 1) := by decide +kernel
theorem dX10_weaves_57 : decode cX10_weaves 57 = .ok (.aload_n 0, 1) := by decide +kernel
theorem dX10_weaves_58 : decode cX10_weaves 58 = .ok (.getfield 49, 3) := by decide +kernel
theorem dX10_weaves_61 : decode cX10_weaves 61 = .ok (.iconst 1, 1) := by decide +kernel
theorem dX10_weaves_62 : decode cX10_weaves 62 = .ok (.iload 6, 2) := by decide +kernel
theorem dX10_weaves_64 : decode cX10_weaves 64 = .ok (.bipush 6, 2) := by decide +kernel
theorem dX10_weaves_66 : decode cX10_weaves 66 = .ok (.idiv, 1) := by decide +kernel
theorem dX10_weaves_67 : decode cX10_weaves 67 = .ok (.iastore, 1) := by decide +kernel
theorem dX10_weaves_68 : decode cX10_weaves 68 = .ok (.aload_n 0, 1) := by decide +kernel
theorem dX10_weaves_69 : decode cX10_weaves 69 = .ok (.getfield 49, 3) := by decide +kernel
theorem dX10_weaves_72 : decode cX10_weaves 72 = .ok (.iconst 2, 1) := by decide +kernel
theorem dX10_weaves_73 : decode cX10_weaves 73 = .ok (.iload_n 1, 1) := by decide +kernel
theorem dX10_weaves_74 : decode cX10_weaves 74 = .ok (.iastore, 1) := by decide +kernel
theorem dX10_weaves_75 : decode cX10_weaves 75 = .ok (.aload_n 0, 1) := by decide +kernel
theorem dX10_weaves_76 : decode cX10_weaves 76 = .ok (.getfield 49, 3) := by decide +kernel
theorem dX10_weaves_79 : decode cX10_weaves 79 = .ok (.iconst 3, 1) := by decide +kernel
theorem dX10_weaves_80 : decode cX10_weaves 80 = .ok (.iload 7, 2) := by decide +kernel
theorem dX10_weaves_82 : decode cX10_weaves 82 = .ok (.ifCond .eq 7, 3) := by decide +kernel
theorem dX10_weaves_85 : decode cX10_weaves 85 = .ok (.iconst 1, 1) := by decide +kernel
theorem dX10_weaves_86 : decode cX10_weaves 86 = .ok (.goto 4, 3) := by decide +kernel
theorem dX10_weaves_89 : decode cX10_weaves 89 = .ok (.iconst 0, 1) := by decide +kernel
theorem dX10_weaves_90 : decode cX10_weaves 90 = .ok (.iastore, 1) := by decide +kernel
theorem dX10_weaves_91 : decode cX10_weaves 91 = .ok (.aload_n 0, 1) := by decide +kernel
theorem dX10_weaves_92 : decode cX10_weaves 92 = .ok (.getfield 49, 3) := by decide +kernel
theorem dX10_weaves_95 : decode cX10_weaves 95 = .ok (.iconst 4, 1) := by decide +kernel
theorem dX10_weaves_96 : decode cX10_weaves 96 = .ok (.iload 7, 2) := by decide +kernel
theorem dX10_weaves_98 : decode cX10_weaves 98 = .ok (.ifCond .eq 12, 3) := by decide +kernel
theorem dX10_weaves_101 : decode cX10_weaves 101 = .ok (.aload_n 2, 1) := by decide +kernel
theorem dX10_weaves_102 : decode cX10_weaves 102 = .ok (.iload_n 3, 1) := by decide +kernel
theorem dX10_weaves_103 : decode cX10_weaves 103 = .ok (.iload 6, 2) := by decide +kernel
theorem dX10_weaves_105 : decode cX10_weaves 105 = .ok (.iadd, 1) := by decide +kernel
theorem dX10_weaves_106 : decode cX10_weaves 106 = .ok (.iaload, 1) := by decide +kernel
theorem dX10_weaves_107 : decode cX10_weaves 107 = .ok (.goto 4, 3) := by decide +kernel
theorem dX10_weaves_110 : decode cX10_weaves 110 = .ok (.iconst (-1), 1) := by decide +kernel
theorem dX10_weaves_111 : decode cX10_weaves 111 = .ok (.iastore, 1) := by decide +kernel
theorem dX10_weaves_112 : decode cX10_weaves 112 = .ok (.aload_n 0, 1) := by decide +kernel
theorem dX10_weaves_113 : decode cX10_weaves 113 = .ok (.getfield 49, 3) := by decide +kernel
theorem dX10_weaves_116 : decode cX10_weaves 116 = .ok (.iconst 5, 1) := by decide +kernel
theorem dX10_weaves_117 : decode cX10_weaves 117 = .ok (.iload 6, 2) := by decide +kernel
theorem dX10_weaves_119 : decode cX10_weaves 119 = .ok (.bipush 6, 2) := by decide +kernel
theorem dX10_weaves_121 : decode cX10_weaves 121 = .ok (.irem, 1) := by decide +kernel
theorem dX10_weaves_122 : decode cX10_weaves 122 = .ok (.ifCond .ne 7, 3) := by decide +kernel
theorem dX10_weaves_125 : decode cX10_weaves 125 = .ok (.iconst (-1), 1) := by decide +kernel
theorem dX10_weaves_126 : decode cX10_weaves 126 = .ok (.goto 12, 3) := by decide +kernel
theorem dX10_weaves_129 : decode cX10_weaves 129 = .ok (.aload_n 2, 1) := by decide +kernel
theorem dX10_weaves_130 : decode cX10_weaves 130 = .ok (.iload 4, 2) := by decide +kernel
theorem dX10_weaves_132 : decode cX10_weaves 132 = .ok (.iload 6, 2) := by decide +kernel
theorem dX10_weaves_134 : decode cX10_weaves 134 = .ok (.iadd, 1) := by decide +kernel
theorem dX10_weaves_135 : decode cX10_weaves 135 = .ok (.iconst 1, 1) := by decide +kernel
theorem dX10_weaves_136 : decode cX10_weaves 136 = .ok (.isub, 1) := by decide +kernel
theorem dX10_weaves_137 : decode cX10_weaves 137 = .ok (.iaload, 1) := by decide +kernel
theorem dX10_weaves_138 : decode cX10_weaves 138 = .ok (.iastore, 1) := by decide +kernel
theorem dX10_weaves_139 : decode cX10_weaves 139 = .ok (.aload_n 0, 1) := by decide +kernel
theorem dX10_weaves_140 : decode cX10_weaves 140 = .ok (.getfield 49, 3) := by decide +kernel
theorem dX10_weaves_143 : decode cX10_weaves 143 = .ok (.bipush 6, 2) := by decide +kernel
theorem dX10_weaves_145 : decode cX10_weaves 145 = .ok (.iload 6, 2) := by decide +kernel
theorem dX10_weaves_147 : decode cX10_weaves 147 = .ok (.bipush 6, 2) := by decide +kernel
theorem dX10_weaves_149 : decode cX10_weaves 149 = .ok (.if_icmp .ge 7, 3) := by decide +kernel
theorem dX10_weaves_152 : decode cX10_weaves 152 = .ok (.iconst (-1), 1) := by decide +kernel
theorem dX10_weaves_153 : decode cX10_weaves 153 = .ok (.goto 13, 3) := by decide +kernel
theorem dX10_weaves_156 : decode cX10_weaves 156 = .ok (.aload_n 2, 1) := by decide +kernel
theorem dX10_weaves_157 : decode cX10_weaves 157 = .ok (.iload 4, 2) := by decide +kernel
theorem dX10_weaves_159 : decode cX10_weaves 159 = .ok (.iload 6, 2) := by decide +kernel
theorem dX10_weaves_161 : decode cX10_weaves 161 = .ok (.iadd, 1) := by decide +kernel
theorem dX10_weaves_162 : decode cX10_weaves 162 = .ok (.bipush 6, 2) := by decide +kernel
theorem dX10_weaves_164 : decode cX10_weaves 164 = .ok (.isub, 1) := by decide +kernel
theorem dX10_weaves_165 : decode cX10_weaves 165 = .ok (.iaload, 1) := by decide +kernel
theorem dX10_weaves_166 : decode cX10_weaves 166 = .ok (.iastore, 1) := by decide +kernel
theorem dX10_weaves_167 : decode cX10_weaves 167 = .ok (.aload_n 0, 1) := by decide +kernel
theorem dX10_weaves_168 : decode cX10_weaves 168 = .ok (.getfield 49, 3) := by decide +kernel
theorem dX10_weaves_171 : decode cX10_weaves 171 = .ok (.bipush 7, 2) := by decide +kernel
theorem dX10_weaves_173 : decode cX10_weaves 173 = .ok (.aload_n 0, 1) := by decide +kernel
theorem dX10_weaves_174 : decode cX10_weaves 174 = .ok (.iload_n 1, 1) := by decide +kernel
theorem dX10_weaves_175 : decode cX10_weaves 175 = .ok (.iconst 4, 1) := by decide +kernel
theorem dX10_weaves_176 : decode cX10_weaves 176 = .ok (.invokevirtual 100, 3) := by decide +kernel
theorem dX10_weaves_179 : decode cX10_weaves 179 = .ok (.iastore, 1) := by decide +kernel
theorem dX10_weaves_180 : decode cX10_weaves 180 = .ok (.aload_n 0, 1) := by decide +kernel
theorem dX10_weaves_181 : decode cX10_weaves 181 = .ok (.getfield 49, 3) := by decide +kernel
theorem dX10_weaves_184 : decode cX10_weaves 184 = .ok (.bipush 8, 2) := by decide +kernel
theorem dX10_weaves_186 : decode cX10_weaves 186 = .ok (.aload_n 0, 1) := by decide +kernel
theorem dX10_weaves_187 : decode cX10_weaves 187 = .ok (.getfield 17, 3) := by decide +kernel
theorem dX10_weaves_190 : decode cX10_weaves 190 = .ok (.sipush 177, 3) := by decide +kernel
theorem dX10_weaves_193 : decode cX10_weaves 193 = .ok (.iaload, 1) := by decide +kernel
theorem dX10_weaves_194 : decode cX10_weaves 194 = .ok (.iastore, 1) := by decide +kernel
theorem dX10_weaves_195 : decode cX10_weaves 195 = .ok (.aload_n 0, 1) := by decide +kernel
theorem dX10_weaves_196 : decode cX10_weaves 196 = .ok (.iload 7, 2) := by decide +kernel
theorem dX10_weaves_198 : decode cX10_weaves 198 = .ok (.ifCond .eq 13, 3) := by decide +kernel
theorem dX10_weaves_201 : decode cX10_weaves 201 = .ok (.aload_n 2, 1) := by decide +kernel
theorem dX10_weaves_202 : decode cX10_weaves 202 = .ok (.iload_n 3, 1) := by decide +kernel
theorem dX10_weaves_203 : decode cX10_weaves 203 = .ok (.iload 6, 2) := by decide +kernel
theorem dX10_weaves_205 : decode cX10_weaves 205 = .ok (.iadd, 1) := by decide +kernel
theorem dX10_weaves_206 : decode cX10_weaves 206 = .ok (.iaload, 1) := by decide +kernel
theorem dX10_weaves_207 : decode cX10_weaves 207 = .ok (.i2l, 1) := by decide +kernel
theorem dX10_weaves_208 : decode cX10_weaves 208 = .ok (.goto 10, 3) := by decide +kernel
theorem dX10_weaves_211 : decode cX10_weaves 211 = .ok (.aload_n 0, 1) := by decide +kernel
theorem dX10_weaves_212 : decode cX10_weaves 212 = .ok (.iload_n 1, 1) := by decide +kernel
theorem dX10_weaves_213 : decode cX10_weaves 213 = .ok (.iconst 4, 1) := by decide +kernel
theorem dX10_weaves_214 : decode cX10_weaves 214 = .ok (.invokevirtual 100, 3) := by decide +kernel
theorem dX10_weaves_217 : decode cX10_weaves 217 = .ok (.i2l, 1) := by decide +kernel
theorem dX10_weaves_218 : decode cX10_weaves 218 = .ok (.invokevirtual 255, 3) := by decide +kernel
theorem dX10_weaves_221 : decode cX10_weaves 221 = .ok (.lstore 8, 2) := by decide +kernel
theorem dX10_weaves_223 : decode cX10_weaves 223 = .ok (.aload_n 0, 1) := by decide +kernel
theorem dX10_weaves_224 : decode cX10_weaves 224 = .ok (.getfield 248, 3) := by decide +kernel
theorem dX10_weaves_227 : decode cX10_weaves 227 = .ok (.ifCond .eq 39, 3) := by decide +kernel
theorem dX10_weaves_230 : decode cX10_weaves 230 = .ok (.aload_n 0, 1) := by decide +kernel
theorem dX10_weaves_231 : decode cX10_weaves 231 = .ok (.bipush 100, 2) := by decide +kernel
theorem dX10_weaves_233 : decode cX10_weaves 233 = .ok (.invokevirtual 259, 3) := by decide +kernel
theorem dX10_weaves_236 : decode cX10_weaves 236 = .ok (.aload_n 0, 1) := by decide +kernel
theorem dX10_weaves_237 : decode cX10_weaves 237 = .ok (.getfield 17, 3) := by decide +kernel
theorem dX10_weaves_240 : decode cX10_weaves 240 = .ok (.sipush 176, 3) := by decide +kernel
theorem dX10_weaves_243 : decode cX10_weaves 243 = .ok (.iaload, 1) := by decide +kernel
theorem dX10_weaves_244 : decode cX10_weaves 244 = .ok (.if_icmp .ge 22, 3) := by decide +kernel
theorem dX10_weaves_247 : decode cX10_weaves 247 = .ok (.aload_n 0, 1) := by decide +kernel
theorem dX10_weaves_248 : decode cX10_weaves 248 = .ok (.bipush 8, 2) := by decide +kernel
theorem dX10_weaves_250 : decode cX10_weaves 250 = .ok (.invokevirtual 259, 3) := by decide +kernel
theorem dX10_weaves_253 : decode cX10_weaves 253 = .ok (.i2l, 1) := by decide +kernel
theorem dX10_weaves_254 : decode cX10_weaves 254 = .ok (.lstore 8, 2) := by decide +kernel
theorem dX10_weaves_256 : decode cX10_weaves 256 = .ok (.aload_n 0, 1) := by decide +kernel
theorem dX10_weaves_257 : decode cX10_weaves 257 = .ok (.getfield 64, 3) := by decide +kernel
theorem dX10_weaves_260 : decode cX10_weaves 260 = .ok (.iload_n 1, 1) := by decide +kernel
theorem dX10_weaves_261 : decode cX10_weaves 261 = .ok (.dup2, 1) := by decide +kernel
theorem dX10_weaves_262 : decode cX10_weaves 262 = .ok (.iaload, 1) := by decide +kernel
theorem dX10_weaves_263 : decode cX10_weaves 263 = .ok (.iconst 1, 1) := by decide +kernel
theorem dX10_weaves_264 : decode cX10_weaves 264 = .ok (.iadd, 1) := by decide +kernel
theorem dX10_weaves_265 : decode cX10_weaves 265 = .ok (.iastore, 1) := by decide +kernel
theorem dX10_weaves_266 : decode cX10_weaves 266 = .ok (.aload_n 2, 1) := by decide +kernel
theorem dX10_weaves_267 : decode cX10_weaves 267 = .ok (.iload 4, 2) := by decide +kernel
theorem dX10_weaves_269 : decode cX10_weaves 269 = .ok (.iload 6, 2) := by decide +kernel
theorem dX10_weaves_271 : decode cX10_weaves 271 = .ok (.iadd, 1) := by decide +kernel
theorem dX10_weaves_272 : decode cX10_weaves 272 = .ok (.aload_n 0, 1) := by decide +kernel
theorem dX10_weaves_273 : decode cX10_weaves 273 = .ok (.getfield 242, 3) := by decide +kernel
theorem dX10_weaves_276 : decode cX10_weaves 276 = .ok (.bipush 36, 2) := by decide +kernel
theorem dX10_weaves_278 : decode cX10_weaves 278 = .ok (.iload_n 1, 1) := by decide +kernel
theorem dX10_weaves_279 : decode cX10_weaves 279 = .ok (.imul, 1) := by decide +kernel
theorem dX10_weaves_280 : decode cX10_weaves 280 = .ok (.iload 6, 2) := by decide +kernel
theorem dX10_weaves_282 : decode cX10_weaves 282 = .ok (.iadd, 1) := by decide +kernel
theorem dX10_weaves_283 : decode cX10_weaves 283 = .ok (.if_icmp .ne 10, 3) := by decide +kernel
theorem dX10_weaves_286 : decode cX10_weaves 286 = .ok (.aload_n 0, 1) := by decide +kernel
theorem dX10_weaves_287 : decode cX10_weaves 287 = .ok (.getfield 245, 3) := by decide +kernel
theorem dX10_weaves_290 : decode cX10_weaves 290 = .ok (.goto 10, 3) := by decide +kernel
theorem dX10_weaves_293 : decode cX10_weaves 293 = .ok (.iload 5, 2) := by decide +kernel
theorem dX10_weaves_295 : decode cX10_weaves 295 = .ok (.lload 8, 2) := by decide +kernel
theorem dX10_weaves_297 : decode cX10_weaves 297 = .ok (.invokestatic 262, 3) := by decide +kernel
theorem dX10_weaves_300 : decode cX10_weaves 300 = .ok (.iastore, 1) := by decide +kernel
theorem dX10_weaves_301 : decode cX10_weaves 301 = .ok (.iinc 6 1, 3) := by decide +kernel
theorem dX10_weaves_304 : decode cX10_weaves 304 = .ok (.goto (-274), 3) := by decide +kernel
theorem dX10_weaves_307 : decode cX10_weaves 307 = .ok (.return_, 1) := by decide +kernel
theorem dX10_goes_0 : decode cX10_goes 0 = .ok (.iload_n 2, 1) := by decide +kernel
theorem dX10_goes_1 : decode cX10_goes 1 = .ok (.istore_n 3, 1) := by decide +kernel
theorem dX10_goes_2 : decode cX10_goes 2 = .ok (.iload_n 3, 1) := by decide +kernel
theorem dX10_goes_3 : decode cX10_goes 3 = .ok (.aload_n 0, 1) := by decide +kernel
theorem dX10_goes_4 : decode cX10_goes 4 = .ok (.invokevirtual 84, 3) := by decide +kernel
theorem dX10_goes_7 : decode cX10_goes 7 = .ok (.if_icmp .ge 25, 3) := by decide +kernel
theorem dX10_goes_10 : decode cX10_goes 10 = .ok (.aload_n 0, 1) := by decide +kernel
theorem dX10_goes_11 : decode cX10_goes 11 = .ok (.iload_n 3, 1) := by decide +kernel
theorem dX10_goes_12 : decode cX10_goes 12 = .ok (.aload_n 1, 1) := by decide +kernel
theorem dX10_goes_13 : decode cX10_goes 13 = .ok (.bipush 36, 2) := by decide +kernel
theorem dX10_goes_15 : decode cX10_goes 15 = .ok (.iload_n 3, 1) := by decide +kernel
theorem dX10_goes_16 : decode cX10_goes 16 = .ok (.imul, 1) := by decide +kernel
theorem dX10_goes_17 : decode cX10_goes 17 = .ok (.bipush 36, 2) := by decide +kernel
theorem dX10_goes_19 : decode cX10_goes 19 = .ok (.iload_n 3, 1) := by decide +kernel
theorem dX10_goes_20 : decode cX10_goes 20 = .ok (.iconst 1, 1) := by decide +kernel
theorem dX10_goes_21 : decode cX10_goes 21 = .ok (.iadd, 1) := by decide +kernel
theorem dX10_goes_22 : decode cX10_goes 22 = .ok (.imul, 1) := by decide +kernel
theorem dX10_goes_23 : decode cX10_goes 23 = .ok (.invokevirtual 266, 3) := by decide +kernel
theorem dX10_goes_26 : decode cX10_goes 26 = .ok (.iinc 3 1, 3) := by decide +kernel
theorem dX10_goes_29 : decode cX10_goes 29 = .ok (.goto (-27), 3) := by decide +kernel
theorem dX10_goes_32 : decode cX10_goes 32 = .ok (.return_, 1) := by decide +kernel
theorem dX10_looks_0 : decode cX10_looks 0 = .ok (.aload_n 0, 1) := by decide +kernel
theorem dX10_looks_1 : decode cX10_looks 1 = .ok (.invokevirtual 270, 3) := by decide +kernel
theorem dX10_looks_4 : decode cX10_looks 4 = .ok (.iconst 0, 1) := by decide +kernel
theorem dX10_looks_5 : decode cX10_looks 5 = .ok (.istore_n 1, 1) := by decide +kernel
theorem dX10_looks_6 : decode cX10_looks 6 = .ok (.iload_n 1, 1) := by decide +kernel
theorem dX10_looks_7 : decode cX10_looks 7 = .ok (.bipush 36, 2) := by decide +kernel
theorem dX10_looks_9 : decode cX10_looks 9 = .ok (.if_icmp .ge 24, 3) := by decide +kernel
theorem dX10_looks_12 : decode cX10_looks 12 = .ok (.aload_n 0, 1) := by decide +kernel
theorem dX10_looks_13 : decode cX10_looks 13 = .ok (.getfield 52, 3) := by decide +kernel
theorem dX10_looks_16 : decode cX10_looks 16 = .ok (.iload_n 1, 1) := by decide +kernel
theorem dX10_looks_17 : decode cX10_looks 17 = .ok (.aload_n 0, 1) := by decide +kernel
theorem dX10_looks_18 : decode cX10_looks 18 = .ok (.getfield 17, 3) := by decide +kernel
theorem dX10_looks_21 : decode cX10_looks 21 = .ok (.bipush 60, 2) := by decide +kernel
theorem dX10_looks_23 : decode cX10_looks 23 = .ok (.iload_n 1, 1) := by decide +kernel
theorem dX10_looks_24 : decode cX10_looks 24 = .ok (.iadd, 1) := by decide +kernel
theorem dX10_looks_25 : decode cX10_looks 25 = .ok (.iaload, 1) := by decide +kernel
theorem dX10_looks_26 : decode cX10_looks 26 = .ok (.iastore, 1) := by decide +kernel
theorem dX10_looks_27 : decode cX10_looks 27 = .ok (.iinc 1 1, 3) := by decide +kernel
theorem dX10_looks_30 : decode cX10_looks 30 = .ok (.goto (-24), 3) := by decide +kernel
theorem dX10_looks_33 : decode cX10_looks 33 = .ok (.aload_n 0, 1) := by decide +kernel
theorem dX10_looks_34 : decode cX10_looks 34 = .ok (.aload_n 0, 1) := by decide +kernel
theorem dX10_looks_35 : decode cX10_looks 35 = .ok (.getfield 52, 3) := by decide +kernel
theorem dX10_looks_38 : decode cX10_looks 38 = .ok (.iconst 0, 1) := by decide +kernel
theorem dX10_looks_39 : decode cX10_looks 39 = .ok (.invokevirtual 273, 3) := by decide +kernel
theorem dX10_looks_42 : decode cX10_looks 42 = .ok (.return_, 1) := by decide +kernel
theorem dX10_looksBack_0 : decode cX10_looksBack 0 = .ok (.aload_n 0, 1) := by decide +kernel
theorem dX10_looksBack_1 : decode cX10_looksBack 1 = .ok (.invokevirtual 270, 3) := by decide +kernel
theorem dX10_looksBack_4 : decode cX10_looksBack 4 = .ok (.aload_n 0, 1) := by decide +kernel
theorem dX10_looksBack_5 : decode cX10_looksBack 5 = .ok (.invokevirtual 84, 3) := by decide +kernel
theorem dX10_looksBack_8 : decode cX10_looksBack 8 = .ok (.istore_n 1, 1) := by decide +kernel
theorem dX10_looksBack_9 : decode cX10_looksBack 9 = .ok (.iconst 0, 1) := by decide +kernel
theorem dX10_looksBack_10 : decode cX10_looksBack 10 = .ok (.istore_n 2, 1) := by decide +kernel
theorem dX10_looksBack_11 : decode cX10_looksBack 11 = .ok (.iload_n 2, 1) := by decide +kernel
theorem dX10_looksBack_12 : decode cX10_looksBack 12 = .ok (.bipush 36, 2) := by decide +kernel
theorem dX10_looksBack_14 : decode cX10_looksBack 14 = .ok (.if_icmp .ge 29, 3) := by decide +kernel
theorem dX10_looksBack_17 : decode cX10_looksBack 17 = .ok (.aload_n 0, 1) := by decide +kernel
theorem dX10_looksBack_18 : decode cX10_looksBack 18 = .ok (.getfield 55, 3) := by decide +kernel
theorem dX10_looksBack_21 : decode cX10_looksBack 21 = .ok (.bipush 36, 2) := by decide +kernel
theorem dX10_looksBack_23 : decode cX10_looksBack 23 = .ok (.iload_n 1, 1) := by decide +kernel
theorem dX10_looksBack_24 : decode cX10_looksBack 24 = .ok (.imul, 1) := by decide +kernel
theorem dX10_looksBack_25 : decode cX10_looksBack 25 = .ok (.iload_n 2, 1) := by decide +kernel
theorem dX10_looksBack_26 : decode cX10_looksBack 26 = .ok (.iadd, 1) := by decide +kernel
theorem dX10_looksBack_27 : decode cX10_looksBack 27 = .ok (.aload_n 0, 1) := by decide +kernel
theorem dX10_looksBack_28 : decode cX10_looksBack 28 = .ok (.getfield 17, 3) := by decide +kernel
theorem dX10_looksBack_31 : decode cX10_looksBack 31 = .ok (.bipush 96, 2) := by decide +kernel
theorem dX10_looksBack_33 : decode cX10_looksBack 33 = .ok (.iload_n 2, 1) := by decide +kernel
theorem dX10_looksBack_34 : decode cX10_looksBack 34 = .ok (.iadd, 1) := by decide +kernel
theorem dX10_looksBack_35 : decode cX10_looksBack 35 = .ok (.iaload, 1) := by decide +kernel
theorem dX10_looksBack_36 : decode cX10_looksBack 36 = .ok (.iastore, 1) := by decide +kernel
theorem dX10_looksBack_37 : decode cX10_looksBack 37 = .ok (.iinc 2 1, 3) := by decide +kernel
theorem dX10_looksBack_40 : decode cX10_looksBack 40 = .ok (.goto (-29), 3) := by decide +kernel
theorem dX10_looksBack_43 : decode cX10_looksBack 43 = .ok (.iload_n 1, 1) := by decide +kernel
theorem dX10_looksBack_44 : decode cX10_looksBack 44 = .ok (.iconst 1, 1) := by decide +kernel
theorem dX10_looksBack_45 : decode cX10_looksBack 45 = .ok (.isub, 1) := by decide +kernel
theorem dX10_looksBack_46 : decode cX10_looksBack 46 = .ok (.istore_n 2, 1) := by decide +kernel
theorem dX10_looksBack_47 : decode cX10_looksBack 47 = .ok (.iload_n 2, 1) := by decide +kernel
theorem dX10_looksBack_48 : decode cX10_looksBack 48 = .ok (.ifCond .lt 28, 3) := by decide +kernel
theorem dX10_looksBack_51 : decode cX10_looksBack 51 = .ok (.aload_n 0, 1) := by decide +kernel
theorem dX10_looksBack_52 : decode cX10_looksBack 52 = .ok (.iload_n 2, 1) := by decide +kernel
theorem dX10_looksBack_53 : decode cX10_looksBack 53 = .ok (.aload_n 0, 1) := by decide +kernel
theorem dX10_looksBack_54 : decode cX10_looksBack 54 = .ok (.getfield 55, 3) := by decide +kernel
theorem dX10_looksBack_57 : decode cX10_looksBack 57 = .ok (.bipush 36, 2) := by decide +kernel
theorem dX10_looksBack_59 : decode cX10_looksBack 59 = .ok (.iload_n 2, 1) := by decide +kernel
theorem dX10_looksBack_60 : decode cX10_looksBack 60 = .ok (.iconst 1, 1) := by decide +kernel
theorem dX10_looksBack_61 : decode cX10_looksBack 61 = .ok (.iadd, 1) := by decide +kernel
theorem dX10_looksBack_62 : decode cX10_looksBack 62 = .ok (.imul, 1) := by decide +kernel
theorem dX10_looksBack_63 : decode cX10_looksBack 63 = .ok (.bipush 36, 2) := by decide +kernel
theorem dX10_looksBack_65 : decode cX10_looksBack 65 = .ok (.iload_n 2, 1) := by decide +kernel
theorem dX10_looksBack_66 : decode cX10_looksBack 66 = .ok (.imul, 1) := by decide +kernel
theorem dX10_looksBack_67 : decode cX10_looksBack 67 = .ok (.invokevirtual 266, 3) := by decide +kernel
theorem dX10_looksBack_70 : decode cX10_looksBack 70 = .ok (.iinc 2 (-1), 3) := by decide +kernel
theorem dX10_looksBack_73 : decode cX10_looksBack 73 = .ok (.goto (-26), 3) := by decide +kernel
theorem dX10_looksBack_76 : decode cX10_looksBack 76 = .ok (.return_, 1) := by decide +kernel
theorem dX10_endOf_0 : decode cX10_endOf 0 = .ok (.bipush 36, 2) := by decide +kernel
theorem dX10_endOf_2 : decode cX10_endOf 2 = .ok (.aload_n 0, 1) := by decide +kernel
theorem dX10_endOf_3 : decode cX10_endOf 3 = .ok (.invokevirtual 84, 3) := by decide +kernel
theorem dX10_endOf_6 : decode cX10_endOf 6 = .ok (.imul, 1) := by decide +kernel
theorem dX10_endOf_7 : decode cX10_endOf 7 = .ok (.ireturn, 1) := by decide +kernel
theorem dX10_likeness_0 : decode cX10_likeness 0 = .ok (.iconst 0, 1) := by decide +kernel
theorem dX10_likeness_1 : decode cX10_likeness 1 = .ok (.istore 4, 2) := by decide +kernel
theorem dX10_likeness_3 : decode cX10_likeness 3 = .ok (.iconst 0, 1) := by decide +kernel
theorem dX10_likeness_4 : decode cX10_likeness 4 = .ok (.istore 5, 2) := by decide +kernel
theorem dX10_likeness_6 : decode cX10_likeness 6 = .ok (.iload 5, 2) := by decide +kernel
theorem dX10_likeness_8 : decode cX10_likeness 8 = .ok (.bipush 36, 2) := by decide +kernel
theorem dX10_likeness_10 : decode cX10_likeness 10 = .ok (.if_icmp .ge 34, 3) := by decide +kernel
theorem dX10_likeness_13 : decode cX10_likeness 13 = .ok (.iload 4, 2) := by decide +kernel
theorem dX10_likeness_15 : decode cX10_likeness 15 = .ok (.aload_n 0, 1) := by decide +kernel
theorem dX10_likeness_16 : decode cX10_likeness 16 = .ok (.iload_n 1, 1) := by decide +kernel
theorem dX10_likeness_17 : decode cX10_likeness 17 = .ok (.iload 5, 2) := by decide +kernel
theorem dX10_likeness_19 : decode cX10_likeness 19 = .ok (.iadd, 1) := by decide +kernel
theorem dX10_likeness_20 : decode cX10_likeness 20 = .ok (.iaload, 1) := by decide +kernel
theorem dX10_likeness_21 : decode cX10_likeness 21 = .ok (.aload_n 2, 1) := by decide +kernel
theorem dX10_likeness_22 : decode cX10_likeness 22 = .ok (.iload_n 3, 1) := by decide +kernel
theorem dX10_likeness_23 : decode cX10_likeness 23 = .ok (.iload 5, 2) := by decide +kernel
theorem dX10_likeness_25 : decode cX10_likeness 25 = .ok (.iadd, 1) := by decide +kernel
theorem dX10_likeness_26 : decode cX10_likeness 26 = .ok (.iaload, 1) := by decide +kernel
theorem dX10_likeness_27 : decode cX10_likeness 27 = .ok (.if_icmp .ne 7, 3) := by decide +kernel
theorem dX10_likeness_30 : decode cX10_likeness 30 = .ok (.iconst 1, 1) := by decide +kernel
theorem dX10_likeness_31 : decode cX10_likeness 31 = .ok (.goto 4, 3) := by decide +kernel
theorem dX10_likeness_34 : decode cX10_likeness 34 = .ok (.iconst 0, 1) := by decide +kernel
theorem dX10_likeness_35 : decode cX10_likeness 35 = .ok (.iadd, 1) := by decide +kernel
theorem dX10_likeness_36 : decode cX10_likeness 36 = .ok (.istore 4, 2) := by decide +kernel
theorem dX10_likeness_38 : decode cX10_likeness 38 = .ok (.iinc 5 1, 3) := by decide +kernel
theorem dX10_likeness_41 : decode cX10_likeness 41 = .ok (.goto (-35), 3) := by decide +kernel
theorem dX10_likeness_44 : decode cX10_likeness 44 = .ok (.iload 4, 2) := by decide +kernel
theorem dX10_likeness_46 : decode cX10_likeness 46 = .ok (.ireturn, 1) := by decide +kernel
theorem dX10_isWay_0 : decode cX10_isWay 0 = .ok (.aload_n 0, 1) := by decide +kernel
theorem dX10_isWay_1 : decode cX10_isWay 1 = .ok (.iload_n 1, 1) := by decide +kernel
theorem dX10_isWay_2 : decode cX10_isWay 2 = .ok (.invokevirtual 96, 3) := by decide +kernel
theorem dX10_isWay_5 : decode cX10_isWay 5 = .ok (.ifCond .eq 14, 3) := by decide +kernel
theorem dX10_isWay_8 : decode cX10_isWay 8 = .ok (.iload_n 2, 1) := by decide +kernel
theorem dX10_isWay_9 : decode cX10_isWay 9 = .ok (.invokestatic 104, 3) := by decide +kernel
theorem dX10_isWay_12 : decode cX10_isWay 12 = .ok (.ifCond .eq 7, 3) := by decide +kernel
theorem dX10_isWay_15 : decode cX10_isWay 15 = .ok (.iconst 1, 1) := by decide +kernel
theorem dX10_isWay_16 : decode cX10_isWay 16 = .ok (.goto 4, 3) := by decide +kernel
theorem dX10_isWay_19 : decode cX10_isWay 19 = .ok (.iconst 0, 1) := by decide +kernel
theorem dX10_isWay_20 : decode cX10_isWay 20 = .ok (.ireturn, 1) := by decide +kernel
theorem dX10_woven_0 : decode cX10_woven 0 = .ok (.aload_n 0, 1) := by decide +kernel
theorem dX10_woven_1 : decode cX10_woven 1 = .ok (.iload_n 1, 1) := by decide +kernel
theorem dX10_woven_2 : decode cX10_woven 2 = .ok (.iload_n 2, 1) := by decide +kernel
theorem dX10_woven_3 : decode cX10_woven 3 = .ok (.invokevirtual 277, 3) := by decide +kernel
theorem dX10_woven_6 : decode cX10_woven 6 = .ok (.ifCond .eq 12, 3) := by decide +kernel
theorem dX10_woven_9 : decode cX10_woven 9 = .ok (.iload_n 3, 1) := by decide +kernel
theorem dX10_woven_10 : decode cX10_woven 10 = .ok (.iconst 0, 1) := by decide +kernel
theorem dX10_woven_11 : decode cX10_woven 11 = .ok (.iconst 1, 1) := by decide +kernel
theorem dX10_woven_12 : decode cX10_woven 12 = .ok (.invokestatic 73, 3) := by decide +kernel
theorem dX10_woven_15 : decode cX10_woven 15 = .ok (.ifCond .ne 5, 3) := by decide +kernel
theorem dX10_woven_18 : decode cX10_woven 18 = .ok (.iconst (-1), 1) := by decide +kernel
theorem dX10_woven_19 : decode cX10_woven 19 = .ok (.ireturn, 1) := by decide +kernel
theorem dX10_woven_20 : decode cX10_woven 20 = .ok (.iload_n 3, 1) := by decide +kernel
theorem dX10_woven_21 : decode cX10_woven 21 = .ok (.ifCond .ne 10, 3) := by decide +kernel
theorem dX10_woven_24 : decode cX10_woven 24 = .ok (.aload_n 0, 1) := by decide +kernel
theorem dX10_woven_25 : decode cX10_woven 25 = .ok (.invokevirtual 280, 3) := by decide +kernel
theorem dX10_woven_28 : decode cX10_woven 28 = .ok (.goto 7, 3) := by decide +kernel
theorem dX10_woven_31 : decode cX10_woven 31 = .ok (.aload_n 0, 1) := by decide +kernel
theorem dX10_woven_32 : decode cX10_woven 32 = .ok (.invokevirtual 283, 3) := by decide +kernel
theorem dX10_woven_35 : decode cX10_woven 35 = .ok (.iload_n 3, 1) := by decide +kernel
theorem dX10_woven_36 : decode cX10_woven 36 = .ok (.ifCond .ne 19, 3) := by decide +kernel
theorem dX10_woven_39 : decode cX10_woven 39 = .ok (.aload_n 0, 1) := by decide +kernel
theorem dX10_woven_40 : decode cX10_woven 40 = .ok (.getfield 52, 3) := by decide +kernel
theorem dX10_woven_43 : decode cX10_woven 43 = .ok (.bipush 36, 2) := by decide +kernel
theorem dX10_woven_45 : decode cX10_woven 45 = .ok (.iload_n 1, 1) := by decide +kernel
theorem dX10_woven_46 : decode cX10_woven 46 = .ok (.iconst 1, 1) := by decide +kernel
theorem dX10_woven_47 : decode cX10_woven 47 = .ok (.iadd, 1) := by decide +kernel
theorem dX10_woven_48 : decode cX10_woven 48 = .ok (.imul, 1) := by decide +kernel
theorem dX10_woven_49 : decode cX10_woven 49 = .ok (.iload_n 2, 1) := by decide +kernel
theorem dX10_woven_50 : decode cX10_woven 50 = .ok (.iadd, 1) := by decide +kernel
theorem dX10_woven_51 : decode cX10_woven 51 = .ok (.iaload, 1) := by decide +kernel
theorem dX10_woven_52 : decode cX10_woven 52 = .ok (.goto 14, 3) := by decide +kernel
theorem dX10_woven_55 : decode cX10_woven 55 = .ok (.aload_n 0, 1) := by decide +kernel
theorem dX10_woven_56 : decode cX10_woven 56 = .ok (.getfield 55, 3) := by decide +kernel
theorem dX10_woven_59 : decode cX10_woven 59 = .ok (.bipush 36, 2) := by decide +kernel
theorem dX10_woven_61 : decode cX10_woven 61 = .ok (.iload_n 1, 1) := by decide +kernel
theorem dX10_woven_62 : decode cX10_woven 62 = .ok (.imul, 1) := by decide +kernel
theorem dX10_woven_63 : decode cX10_woven 63 = .ok (.iload_n 2, 1) := by decide +kernel
theorem dX10_woven_64 : decode cX10_woven 64 = .ok (.iadd, 1) := by decide +kernel
theorem dX10_woven_65 : decode cX10_woven 65 = .ok (.iaload, 1) := by decide +kernel
theorem dX10_woven_66 : decode cX10_woven 66 = .ok (.ireturn, 1) := by decide +kernel
theorem dX10_isOrFirst_0 : decode cX10_isOrFirst 0 = .ok (.iload_n 1, 1) := by decide +kernel
theorem dX10_isOrFirst_1 : decode cX10_isOrFirst 1 = .ok (.iconst (-1), 1) := by decide +kernel
theorem dX10_isOrFirst_2 : decode cX10_isOrFirst 2 = .ok (.if_icmp .eq 11, 3) := by decide +kernel
theorem dX10_isOrFirst_5 : decode cX10_isOrFirst 5 = .ok (.aload_n 0, 1) := by decide +kernel
theorem dX10_isOrFirst_6 : decode cX10_isOrFirst 6 = .ok (.iload_n 1, 1) := by decide +kernel
theorem dX10_isOrFirst_7 : decode cX10_isOrFirst 7 = .ok (.invokevirtual 96, 3) := by decide +kernel
theorem dX10_isOrFirst_10 : decode cX10_isOrFirst 10 = .ok (.ifCond .eq 7, 3) := by decide +kernel
theorem dX10_isOrFirst_13 : decode cX10_isOrFirst 13 = .ok (.iconst 1, 1) := by decide +kernel
theorem dX10_isOrFirst_14 : decode cX10_isOrFirst 14 = .ok (.goto 4, 3) := by decide +kernel
theorem dX10_isOrFirst_17 : decode cX10_isOrFirst 17 = .ok (.iconst 0, 1) := by decide +kernel
theorem dX10_isOrFirst_18 : decode cX10_isOrFirst 18 = .ok (.ireturn, 1) := by decide +kernel
theorem dX10_like_0 : decode cX10_like 0 = .ok (.aload_n 0, 1) := by decide +kernel
theorem dX10_like_1 : decode cX10_like 1 = .ok (.iload_n 1, 1) := by decide +kernel
theorem dX10_like_2 : decode cX10_like 2 = .ok (.invokevirtual 286, 3) := by decide +kernel
theorem dX10_like_5 : decode cX10_like 5 = .ok (.ifCond .eq 11, 3) := by decide +kernel
theorem dX10_like_8 : decode cX10_like 8 = .ok (.aload_n 0, 1) := by decide +kernel
theorem dX10_like_9 : decode cX10_like 9 = .ok (.iload_n 2, 1) := by decide +kernel
theorem dX10_like_10 : decode cX10_like 10 = .ok (.invokevirtual 286, 3) := by decide +kernel
theorem dX10_like_13 : decode cX10_like 13 = .ok (.ifCond .ne 5, 3) := by decide +kernel
theorem dX10_like_16 : decode cX10_like 16 = .ok (.iconst (-1), 1) := by decide +kernel
theorem dX10_like_17 : decode cX10_like 17 = .ok (.ireturn, 1) := by decide +kernel
theorem dX10_like_18 : decode cX10_like 18 = .ok (.aload_n 0, 1) := by decide +kernel
theorem dX10_like_19 : decode cX10_like 19 = .ok (.invokevirtual 280, 3) := by decide +kernel
theorem dX10_like_22 : decode cX10_like 22 = .ok (.aload_n 0, 1) := by decide +kernel
theorem dX10_like_23 : decode cX10_like 23 = .ok (.getfield 52, 3) := by decide +kernel
theorem dX10_like_26 : decode cX10_like 26 = .ok (.bipush 36, 2) := by decide +kernel
theorem dX10_like_28 : decode cX10_like 28 = .ok (.iload_n 1, 1) := by decide +kernel
theorem dX10_like_29 : decode cX10_like 29 = .ok (.iconst 1, 1) := by decide +kernel
theorem dX10_like_30 : decode cX10_like 30 = .ok (.iadd, 1) := by decide +kernel
theorem dX10_like_31 : decode cX10_like 31 = .ok (.imul, 1) := by decide +kernel
theorem dX10_like_32 : decode cX10_like 32 = .ok (.aload_n 0, 1) := by decide +kernel
theorem dX10_like_33 : decode cX10_like 33 = .ok (.getfield 52, 3) := by decide +kernel
theorem dX10_like_36 : decode cX10_like 36 = .ok (.bipush 36, 2) := by decide +kernel
theorem dX10_like_38 : decode cX10_like 38 = .ok (.iload_n 2, 1) := by decide +kernel
theorem dX10_like_39 : decode cX10_like 39 = .ok (.iconst 1, 1) := by decide +kernel
theorem dX10_like_40 : decode cX10_like 40 = .ok (.iadd, 1) := by decide +kernel
theorem dX10_like_41 : decode cX10_like 41 = .ok (.imul, 1) := by decide +kernel
theorem dX10_like_42 : decode cX10_like 42 = .ok (.invokestatic 289, 3) := by decide +kernel
theorem dX10_like_45 : decode cX10_like 45 = .ok (.ireturn, 1) := by decide +kernel
theorem dX10_costs_0 : decode cX10_costs 0 = .ok (.aload_n 0, 1) := by decide +kernel
theorem dX10_costs_1 : decode cX10_costs 1 = .ok (.iload_n 1, 1) := by decide +kernel
theorem dX10_costs_2 : decode cX10_costs 2 = .ok (.invokevirtual 286, 3) := by decide +kernel
theorem dX10_costs_5 : decode cX10_costs 5 = .ok (.ifCond .ne 5, 3) := by decide +kernel
theorem dX10_costs_8 : decode cX10_costs 8 = .ok (.iconst (-1), 1) := by decide +kernel
theorem dX10_costs_9 : decode cX10_costs 9 = .ok (.ireturn, 1) := by decide +kernel
theorem dX10_costs_10 : decode cX10_costs 10 = .ok (.aload_n 0, 1) := by decide +kernel
theorem dX10_costs_11 : decode cX10_costs 11 = .ok (.invokevirtual 280, 3) := by decide +kernel
theorem dX10_costs_14 : decode cX10_costs 14 = .ok (.iload_n 1, 1) := by decide +kernel
theorem dX10_costs_15 : decode cX10_costs 15 = .ok (.iconst (-1), 1) := by decide +kernel
theorem dX10_costs_16 : decode cX10_costs 16 = .ok (.if_icmp .ne 10, 3) := by decide +kernel
theorem dX10_costs_19 : decode cX10_costs 19 = .ok (.aload_n 0, 1) := by decide +kernel
theorem dX10_costs_20 : decode cX10_costs 20 = .ok (.invokevirtual 293, 3) := by decide +kernel
theorem dX10_costs_23 : decode cX10_costs 23 = .ok (.goto 9, 3) := by decide +kernel
theorem dX10_costs_26 : decode cX10_costs 26 = .ok (.bipush 36, 2) := by decide +kernel
theorem dX10_costs_28 : decode cX10_costs 28 = .ok (.iload_n 1, 1) := by decide +kernel
theorem dX10_costs_29 : decode cX10_costs 29 = .ok (.iconst 1, 1) := by decide +kernel
theorem dX10_costs_30 : decode cX10_costs 30 = .ok (.iadd, 1) := by decide +kernel
theorem dX10_costs_31 : decode cX10_costs 31 = .ok (.imul, 1) := by decide +kernel
theorem dX10_costs_32 : decode cX10_costs 32 = .ok (.istore_n 2, 1) := by decide +kernel
theorem dX10_costs_33 : decode cX10_costs 33 = .ok (.iconst 0, 1) := by decide +kernel
theorem dX10_costs_34 : decode cX10_costs 34 = .ok (.istore_n 3, 1) := by decide +kernel
theorem dX10_costs_35 : decode cX10_costs 35 = .ok (.iconst 0, 1) := by decide +kernel
theorem dX10_costs_36 : decode cX10_costs 36 = .ok (.istore 4, 2) := by decide +kernel
theorem dX10_costs_38 : decode cX10_costs 38 = .ok (.iload 4, 2) := by decide +kernel
theorem dX10_costs_40 : decode cX10_costs 40 = .ok (.bipush 36, 2) := by decide +kernel
theorem dX10_costs_42 : decode cX10_costs 42 = .ok (.if_icmp .ge 30, 3) := by decide +kernel
theorem dX10_costs_45 : decode cX10_costs 45 = .ok (.iload_n 3, 1) := by decide +kernel
theorem dX10_costs_46 : decode cX10_costs 46 = .ok (.aload_n 0, 1) := by decide +kernel
theorem dX10_costs_47 : decode cX10_costs 47 = .ok (.getfield 17, 3) := by decide +kernel
theorem dX10_costs_50 : decode cX10_costs 50 = .ok (.sipush 168, 3) := by decide +kernel
theorem dX10_costs_53 : decode cX10_costs 53 = .ok (.aload_n 0, 1) := by decide +kernel
theorem dX10_costs_54 : decode cX10_costs 54 = .ok (.getfield 52, 3) := by decide +kernel
theorem dX10_costs_57 : decode cX10_costs 57 = .ok (.iload_n 2, 1) := by decide +kernel
theorem dX10_costs_58 : decode cX10_costs 58 = .ok (.iload 4, 2) := by decide +kernel
theorem dX10_costs_60 : decode cX10_costs 60 = .ok (.iadd, 1) := by decide +kernel
theorem dX10_costs_61 : decode cX10_costs 61 = .ok (.iaload, 1) := by decide +kernel
theorem dX10_costs_62 : decode cX10_costs 62 = .ok (.iadd, 1) := by decide +kernel
theorem dX10_costs_63 : decode cX10_costs 63 = .ok (.iaload, 1) := by decide +kernel
theorem dX10_costs_64 : decode cX10_costs 64 = .ok (.iadd, 1) := by decide +kernel
theorem dX10_costs_65 : decode cX10_costs 65 = .ok (.istore_n 3, 1) := by decide +kernel
theorem dX10_costs_66 : decode cX10_costs 66 = .ok (.iinc 4 1, 3) := by decide +kernel
theorem dX10_costs_69 : decode cX10_costs 69 = .ok (.goto (-31), 3) := by decide +kernel
theorem dX10_costs_72 : decode cX10_costs 72 = .ok (.iload_n 3, 1) := by decide +kernel
theorem dX10_costs_73 : decode cX10_costs 73 = .ok (.ireturn, 1) := by decide +kernel
theorem dX10_turned_0 : decode cX10_turned 0 = .ok (.iload_n 1, 1) := by decide +kernel
theorem dX10_turned_1 : decode cX10_turned 1 = .ok (.iconst 0, 1) := by decide +kernel
theorem dX10_turned_2 : decode cX10_turned 2 = .ok (.iconst 1, 1) := by decide +kernel
theorem dX10_turned_3 : decode cX10_turned 3 = .ok (.invokestatic 73, 3) := by decide +kernel
theorem dX10_turned_6 : decode cX10_turned 6 = .ok (.ifCond .ne 5, 3) := by decide +kernel
theorem dX10_turned_9 : decode cX10_turned 9 = .ok (.iconst (-1), 1) := by decide +kernel
theorem dX10_turned_10 : decode cX10_turned 10 = .ok (.ireturn, 1) := by decide +kernel
theorem dX10_turned_11 : decode cX10_turned 11 = .ok (.aload_n 0, 1) := by decide +kernel
theorem dX10_turned_12 : decode cX10_turned 12 = .ok (.invokevirtual 280, 3) := by decide +kernel
theorem dX10_turned_15 : decode cX10_turned 15 = .ok (.iconst (-1), 1) := by decide +kernel
theorem dX10_turned_16 : decode cX10_turned 16 = .ok (.istore_n 2, 1) := by decide +kernel
theorem dX10_turned_17 : decode cX10_turned 17 = .ok (.iconst 0, 1) := by decide +kernel
theorem dX10_turned_18 : decode cX10_turned 18 = .ok (.istore_n 3, 1) := by decide +kernel
theorem dX10_turned_19 : decode cX10_turned 19 = .ok (.iconst 0, 1) := by decide +kernel
theorem dX10_turned_20 : decode cX10_turned 20 = .ok (.istore 4, 2) := by decide +kernel
theorem dX10_turned_22 : decode cX10_turned 22 = .ok (.iload 4, 2) := by decide +kernel
theorem dX10_turned_24 : decode cX10_turned 24 = .ok (.aload_n 0, 1) := by decide +kernel
theorem dX10_turned_25 : decode cX10_turned 25 = .ok (.invokevirtual 84, 3) := by decide +kernel
theorem dX10_turned_28 : decode cX10_turned 28 = .ok (.if_icmp .ge 65, 3) := by decide +kernel
theorem dX10_turned_31 : decode cX10_turned 31 = .ok (.aload_n 0, 1) := by decide +kernel
theorem dX10_turned_32 : decode cX10_turned 32 = .ok (.getfield 52, 3) := by decide +kernel
theorem dX10_turned_35 : decode cX10_turned 35 = .ok (.bipush 36, 2) := by decide +kernel
theorem dX10_turned_37 : decode cX10_turned 37 = .ok (.iload 4, 2) := by decide +kernel
theorem dX10_turned_39 : decode cX10_turned 39 = .ok (.imul, 1) := by decide +kernel
theorem dX10_turned_40 : decode cX10_turned 40 = .ok (.aload_n 0, 1) := by decide +kernel
theorem dX10_turned_41 : decode cX10_turned 41 = .ok (.getfield 17, 3) := by decide +kernel
theorem dX10_turned_44 : decode cX10_turned 44 = .ok (.bipush 60, 2) := by decide +kernel
theorem dX10_turned_46 : decode cX10_turned 46 = .ok (.invokestatic 289, 3) := by decide +kernel
theorem dX10_turned_49 : decode cX10_turned 49 = .ok (.aload_n 0, 1) := by decide +kernel
theorem dX10_turned_50 : decode cX10_turned 50 = .ok (.getfield 52, 3) := by decide +kernel
theorem dX10_turned_53 : decode cX10_turned 53 = .ok (.bipush 36, 2) := by decide +kernel
theorem dX10_turned_55 : decode cX10_turned 55 = .ok (.iload 4, 2) := by decide +kernel
theorem dX10_turned_57 : decode cX10_turned 57 = .ok (.iconst 1, 1) := by decide +kernel
theorem dX10_turned_58 : decode cX10_turned 58 = .ok (.iadd, 1) := by decide +kernel
theorem dX10_turned_59 : decode cX10_turned 59 = .ok (.imul, 1) := by decide +kernel
theorem dX10_turned_60 : decode cX10_turned 60 = .ok (.aload_n 0, 1) := by decide +kernel
theorem dX10_turned_61 : decode cX10_turned 61 = .ok (.getfield 17, 3) := by decide +kernel
theorem dX10_turned_64 : decode cX10_turned 64 = .ok (.bipush 60, 2) := by decide +kernel
theorem dX10_turned_66 : decode cX10_turned 66 = .ok (.invokestatic 289, 3) := by decide +kernel
theorem dX10_turned_69 : decode cX10_turned 69 = .ok (.isub, 1) := by decide +kernel
theorem dX10_turned_70 : decode cX10_turned 70 = .ok (.istore 5, 2) := by decide +kernel
theorem dX10_turned_72 : decode cX10_turned 72 = .ok (.iload 5, 2) := by decide +kernel
theorem dX10_turned_74 : decode cX10_turned 74 = .ok (.iload_n 3, 1) := by decide +kernel
theorem dX10_turned_75 : decode cX10_turned 75 = .ok (.if_icmp .gt 6, 3) := by decide +kernel
theorem dX10_turned_78 : decode cX10_turned 78 = .ok (.goto 9, 3) := by decide +kernel
theorem dX10_turned_81 : decode cX10_turned 81 = .ok (.iload 5, 2) := by decide +kernel
theorem dX10_turned_83 : decode cX10_turned 83 = .ok (.istore_n 3, 1) := by decide +kernel
theorem dX10_turned_84 : decode cX10_turned 84 = .ok (.iload 4, 2) := by decide +kernel
theorem dX10_turned_86 : decode cX10_turned 86 = .ok (.istore_n 2, 1) := by decide +kernel
theorem dX10_turned_87 : decode cX10_turned 87 = .ok (.iinc 4 1, 3) := by decide +kernel
theorem dX10_turned_90 : decode cX10_turned 90 = .ok (.goto (-68), 3) := by decide +kernel
theorem dX10_turned_93 : decode cX10_turned 93 = .ok (.iload_n 2, 1) := by decide +kernel
theorem dX10_turned_94 : decode cX10_turned 94 = .ok (.iconst (-1), 1) := by decide +kernel
theorem dX10_turned_95 : decode cX10_turned 95 = .ok (.if_icmp .eq 7, 3) := by decide +kernel
theorem dX10_turned_98 : decode cX10_turned 98 = .ok (.iload_n 1, 1) := by decide +kernel
theorem dX10_turned_99 : decode cX10_turned 99 = .ok (.ifCond .ne 7, 3) := by decide +kernel
theorem dX10_turned_102 : decode cX10_turned 102 = .ok (.iload_n 2, 1) := by decide +kernel
theorem dX10_turned_103 : decode cX10_turned 103 = .ok (.goto 4, 3) := by decide +kernel
theorem dX10_turned_106 : decode cX10_turned 106 = .ok (.iload_n 3, 1) := by decide +kernel
theorem dX10_turned_107 : decode cX10_turned 107 = .ok (.ireturn, 1) := by decide +kernel
theorem dX10_tries_0 : decode cX10_tries 0 = .ok (.iconst 0, 1) := by decide +kernel
theorem dX10_tries_1 : decode cX10_tries 1 = .ok (.istore_n 3, 1) := by decide +kernel
theorem dX10_tries_2 : decode cX10_tries 2 = .ok (.iload_n 3, 1) := by decide +kernel
theorem dX10_tries_3 : decode cX10_tries 3 = .ok (.bipush 36, 2) := by decide +kernel
theorem dX10_tries_5 : decode cX10_tries 5 = .ok (.if_icmp .ge 33, 3) := by decide +kernel
theorem dX10_tries_8 : decode cX10_tries 8 = .ok (.aload_n 0, 1) := by decide +kernel
theorem dX10_tries_9 : decode cX10_tries 9 = .ok (.getfield 58, 3) := by decide +kernel
theorem dX10_tries_12 : decode cX10_tries 12 = .ok (.iload_n 3, 1) := by decide +kernel
theorem dX10_tries_13 : decode cX10_tries 13 = .ok (.iload_n 3, 1) := by decide +kernel
theorem dX10_tries_14 : decode cX10_tries 14 = .ok (.iload_n 1, 1) := by decide +kernel
theorem dX10_tries_15 : decode cX10_tries 15 = .ok (.if_icmp .ne 7, 3) := by decide +kernel
theorem dX10_tries_18 : decode cX10_tries 18 = .ok (.iload_n 2, 1) := by decide +kernel
theorem dX10_tries_19 : decode cX10_tries 19 = .ok (.goto 12, 3) := by decide +kernel
theorem dX10_tries_22 : decode cX10_tries 22 = .ok (.aload_n 0, 1) := by decide +kernel
theorem dX10_tries_23 : decode cX10_tries 23 = .ok (.getfield 17, 3) := by decide +kernel
theorem dX10_tries_26 : decode cX10_tries 26 = .ok (.bipush 60, 2) := by decide +kernel
theorem dX10_tries_28 : decode cX10_tries 28 = .ok (.iload_n 3, 1) := by decide +kernel
theorem dX10_tries_29 : decode cX10_tries 29 = .ok (.iadd, 1) := by decide +kernel
theorem dX10_tries_30 : decode cX10_tries 30 = .ok (.iaload, 1) := by decide +kernel
theorem dX10_tries_31 : decode cX10_tries 31 = .ok (.iastore, 1) := by decide +kernel
theorem dX10_tries_32 : decode cX10_tries 32 = .ok (.iinc 3 1, 3) := by decide +kernel
theorem dX10_tries_35 : decode cX10_tries 35 = .ok (.goto (-33), 3) := by decide +kernel
theorem dX10_tries_38 : decode cX10_tries 38 = .ok (.aload_n 0, 1) := by decide +kernel
theorem dX10_tries_39 : decode cX10_tries 39 = .ok (.aload_n 0, 1) := by decide +kernel
theorem dX10_tries_40 : decode cX10_tries 40 = .ok (.getfield 58, 3) := by decide +kernel
theorem dX10_tries_43 : decode cX10_tries 43 = .ok (.iconst 0, 1) := by decide +kernel
theorem dX10_tries_44 : decode cX10_tries 44 = .ok (.invokevirtual 273, 3) := by decide +kernel
theorem dX10_tries_47 : decode cX10_tries 47 = .ok (.return_, 1) := by decide +kernel
theorem dX10_lost_0 : decode cX10_lost 0 = .ok (.iload_n 1, 1) := by decide +kernel
theorem dX10_lost_1 : decode cX10_lost 1 = .ok (.invokestatic 104, 3) := by decide +kernel
theorem dX10_lost_4 : decode cX10_lost 4 = .ok (.ifCond .ne 5, 3) := by decide +kernel
theorem dX10_lost_7 : decode cX10_lost 7 = .ok (.iconst (-1), 1) := by decide +kernel
theorem dX10_lost_8 : decode cX10_lost 8 = .ok (.ireturn, 1) := by decide +kernel
theorem dX10_lost_9 : decode cX10_lost 9 = .ok (.aload_n 0, 1) := by decide +kernel
theorem dX10_lost_10 : decode cX10_lost 10 = .ok (.invokevirtual 280, 3) := by decide +kernel
theorem dX10_lost_13 : decode cX10_lost 13 = .ok (.iconst 0, 1) := by decide +kernel
theorem dX10_lost_14 : decode cX10_lost 14 = .ok (.istore_n 2, 1) := by decide +kernel
theorem dX10_lost_15 : decode cX10_lost 15 = .ok (.iconst 0, 1) := by decide +kernel
theorem dX10_lost_16 : decode cX10_lost 16 = .ok (.istore_n 3, 1) := by decide +kernel
theorem dX10_lost_17 : decode cX10_lost 17 = .ok (.iload_n 3, 1) := by decide +kernel
theorem dX10_lost_18 : decode cX10_lost 18 = .ok (.bipush 8, 2) := by decide +kernel
theorem dX10_lost_20 : decode cX10_lost 20 = .ok (.if_icmp .ge 63, 3) := by decide +kernel
theorem dX10_lost_23 : decode cX10_lost 23 = .ok (.iload_n 3, 1) := by decide +kernel
theorem dX10_lost_24 : decode cX10_lost 24 = .ok (.aload_n 0, 1) := by decide +kernel
theorem dX10_lost_25 : decode cX10_lost 25 = .ok (.getfield 17, 3) := by decide +kernel
theorem dX10_lost_28 : decode cX10_lost 28 = .ok (.bipush 60, 2) := by decide +kernel
theorem dX10_lost_30 : decode cX10_lost 30 = .ok (.iload_n 1, 1) := by decide +kernel
theorem dX10_lost_31 : decode cX10_lost 31 = .ok (.iadd, 1) := by decide +kernel
theorem dX10_lost_32 : decode cX10_lost 32 = .ok (.iaload, 1) := by decide +kernel
theorem dX10_lost_33 : decode cX10_lost 33 = .ok (.if_icmp .ne 6, 3) := by decide +kernel
theorem dX10_lost_36 : decode cX10_lost 36 = .ok (.goto 41, 3) := by decide +kernel
theorem dX10_lost_39 : decode cX10_lost 39 = .ok (.aload_n 0, 1) := by decide +kernel
theorem dX10_lost_40 : decode cX10_lost 40 = .ok (.iload_n 1, 1) := by decide +kernel
theorem dX10_lost_41 : decode cX10_lost 41 = .ok (.iload_n 3, 1) := by decide +kernel
theorem dX10_lost_42 : decode cX10_lost 42 = .ok (.invokevirtual 296, 3) := by decide +kernel
theorem dX10_lost_45 : decode cX10_lost 45 = .ok (.iload_n 2, 1) := by decide +kernel
theorem dX10_lost_46 : decode cX10_lost 46 = .ok (.aload_n 0, 1) := by decide +kernel
theorem dX10_lost_47 : decode cX10_lost 47 = .ok (.getfield 58, 3) := by decide +kernel
theorem dX10_lost_50 : decode cX10_lost 50 = .ok (.aload_n 0, 1) := by decide +kernel
theorem dX10_lost_51 : decode cX10_lost 51 = .ok (.invokevirtual 293, 3) := by decide +kernel
theorem dX10_lost_54 : decode cX10_lost 54 = .ok (.aload_n 0, 1) := by decide +kernel
theorem dX10_lost_55 : decode cX10_lost 55 = .ok (.getfield 52, 3) := by decide +kernel
theorem dX10_lost_58 : decode cX10_lost 58 = .ok (.aload_n 0, 1) := by decide +kernel
theorem dX10_lost_59 : decode cX10_lost 59 = .ok (.invokevirtual 293, 3) := by decide +kernel
theorem dX10_lost_62 : decode cX10_lost 62 = .ok (.invokestatic 289, 3) := by decide +kernel
theorem dX10_lost_65 : decode cX10_lost 65 = .ok (.bipush 36, 2) := by decide +kernel
theorem dX10_lost_67 : decode cX10_lost 67 = .ok (.if_icmp .ne 7, 3) := by decide +kernel
theorem dX10_lost_70 : decode cX10_lost 70 = .ok (.iconst 1, 1) := by decide +kernel
theorem dX10_lost_71 : decode cX10_lost 71 = .ok (.goto 4, 3) := by decide +kernel
theorem dX10_lost_74 : decode cX10_lost 74 = .ok (.iconst 0, 1) := by decide +kernel
theorem dX10_lost_75 : decode cX10_lost 75 = .ok (.iadd, 1) := by decide +kernel
theorem dX10_lost_76 : decode cX10_lost 76 = .ok (.istore_n 2, 1) := by decide +kernel
theorem dX10_lost_77 : decode cX10_lost 77 = .ok (.iinc 3 1, 3) := by decide +kernel
theorem dX10_lost_80 : decode cX10_lost 80 = .ok (.goto (-63), 3) := by decide +kernel
theorem dX10_lost_83 : decode cX10_lost 83 = .ok (.iload_n 2, 1) := by decide +kernel
theorem dX10_lost_84 : decode cX10_lost 84 = .ok (.ireturn, 1) := by decide +kernel
theorem dX10_could_0 : decode cX10_could 0 = .ok (.iload_n 1, 1) := by decide +kernel
theorem dX10_could_1 : decode cX10_could 1 = .ok (.invokestatic 104, 3) := by decide +kernel
theorem dX10_could_4 : decode cX10_could 4 = .ok (.ifCond .ne 5, 3) := by decide +kernel
theorem dX10_could_7 : decode cX10_could 7 = .ok (.iconst (-1), 1) := by decide +kernel
theorem dX10_could_8 : decode cX10_could 8 = .ok (.ireturn, 1) := by decide +kernel
theorem dX10_could_9 : decode cX10_could 9 = .ok (.aload_n 0, 1) := by decide +kernel
theorem dX10_could_10 : decode cX10_could 10 = .ok (.invokevirtual 270, 3) := by decide +kernel
theorem dX10_could_13 : decode cX10_could 13 = .ok (.iconst 0, 1) := by decide +kernel
theorem dX10_could_14 : decode cX10_could 14 = .ok (.istore_n 2, 1) := by decide +kernel
theorem dX10_could_15 : decode cX10_could 15 = .ok (.iconst 0, 1) := by decide +kernel
theorem dX10_could_16 : decode cX10_could 16 = .ok (.istore_n 3, 1) := by decide +kernel
theorem dX10_could_17 : decode cX10_could 17 = .ok (.iload_n 3, 1) := by decide +kernel
theorem dX10_could_18 : decode cX10_could 18 = .ok (.bipush 8, 2) := by decide +kernel
theorem dX10_could_20 : decode cX10_could 20 = .ok (.if_icmp .ge 48, 3) := by decide +kernel
theorem dX10_could_23 : decode cX10_could 23 = .ok (.aload_n 0, 1) := by decide +kernel
theorem dX10_could_24 : decode cX10_could 24 = .ok (.iload_n 1, 1) := by decide +kernel
theorem dX10_could_25 : decode cX10_could 25 = .ok (.iload_n 3, 1) := by decide +kernel
theorem dX10_could_26 : decode cX10_could 26 = .ok (.invokevirtual 296, 3) := by decide +kernel
theorem dX10_could_29 : decode cX10_could 29 = .ok (.iload_n 2, 1) := by decide +kernel
theorem dX10_could_30 : decode cX10_could 30 = .ok (.aload_n 0, 1) := by decide +kernel
theorem dX10_could_31 : decode cX10_could 31 = .ok (.getfield 58, 3) := by decide +kernel
theorem dX10_could_34 : decode cX10_could 34 = .ok (.aload_n 0, 1) := by decide +kernel
theorem dX10_could_35 : decode cX10_could 35 = .ok (.invokevirtual 293, 3) := by decide +kernel
theorem dX10_could_38 : decode cX10_could 38 = .ok (.aload_n 0, 1) := by decide +kernel
theorem dX10_could_39 : decode cX10_could 39 = .ok (.getfield 17, 3) := by decide +kernel
theorem dX10_could_42 : decode cX10_could 42 = .ok (.sipush 132, 3) := by decide +kernel
theorem dX10_could_45 : decode cX10_could 45 = .ok (.invokestatic 289, 3) := by decide +kernel
theorem dX10_could_48 : decode cX10_could 48 = .ok (.bipush 36, 2) := by decide +kernel
theorem dX10_could_50 : decode cX10_could 50 = .ok (.if_icmp .ne 9, 3) := by decide +kernel
theorem dX10_could_53 : decode cX10_could 53 = .ok (.iconst 1, 1) := by decide +kernel
theorem dX10_could_54 : decode cX10_could 54 = .ok (.iload_n 3, 1) := by decide +kernel
theorem dX10_could_55 : decode cX10_could 55 = .ok (.ishl, 1) := by decide +kernel
theorem dX10_could_56 : decode cX10_could 56 = .ok (.goto 4, 3) := by decide +kernel
theorem dX10_could_59 : decode cX10_could 59 = .ok (.iconst 0, 1) := by decide +kernel
theorem dX10_could_60 : decode cX10_could 60 = .ok (.ior, 1) := by decide +kernel
theorem dX10_could_61 : decode cX10_could 61 = .ok (.istore_n 2, 1) := by decide +kernel
theorem dX10_could_62 : decode cX10_could 62 = .ok (.iinc 3 1, 3) := by decide +kernel
theorem dX10_could_65 : decode cX10_could 65 = .ok (.goto (-48), 3) := by decide +kernel
theorem dX10_could_68 : decode cX10_could 68 = .ok (.iload_n 2, 1) := by decide +kernel
theorem dX10_could_69 : decode cX10_could 69 = .ok (.ireturn, 1) := by decide +kernel
theorem dX10_look_0 : decode cX10_look 0 = .ok (.iload_n 1, 1) := by decide +kernel
theorem dX10_look_1 : decode cX10_look 1 = .ok (.iconst 0, 1) := by decide +kernel
theorem dX10_look_2 : decode cX10_look 2 = .ok (.iconst 3, 1) := by decide +kernel
theorem dX10_look_3 : decode cX10_look 3 = .ok (.invokestatic 73, 3) := by decide +kernel
theorem dX10_look_6 : decode cX10_look 6 = .ok (.ifCond .eq 12, 3) := by decide +kernel
theorem dX10_look_9 : decode cX10_look 9 = .ok (.iload_n 2, 1) := by decide +kernel
theorem dX10_look_10 : decode cX10_look 10 = .ok (.iconst 0, 1) := by decide +kernel
theorem dX10_look_11 : decode cX10_look 11 = .ok (.iconst 2, 1) := by decide +kernel
theorem dX10_look_12 : decode cX10_look 12 = .ok (.invokestatic 73, 3) := by decide +kernel
theorem dX10_look_15 : decode cX10_look 15 = .ok (.ifCond .ne 5, 3) := by decide +kernel
theorem dX10_look_18 : decode cX10_look 18 = .ok (.iconst (-1), 1) := by decide +kernel
theorem dX10_look_19 : decode cX10_look 19 = .ok (.ireturn, 1) := by decide +kernel
theorem dX10_look_20 : decode cX10_look 20 = .ok (.aload_n 0, 1) := by decide +kernel
theorem dX10_look_21 : decode cX10_look 21 = .ok (.invokevirtual 270, 3) := by decide +kernel
theorem dX10_look_24 : decode cX10_look 24 = .ok (.iconst (-1), 1) := by decide +kernel
theorem dX10_look_25 : decode cX10_look 25 = .ok (.istore_n 3, 1) := by decide +kernel
theorem dX10_look_26 : decode cX10_look 26 = .ok (.iconst (-1), 1) := by decide +kernel
theorem dX10_look_27 : decode cX10_look 27 = .ok (.istore 4, 2) := by decide +kernel
theorem dX10_look_29 : decode cX10_look 29 = .ok (.iconst 0, 1) := by decide +kernel
theorem dX10_look_30 : decode cX10_look 30 = .ok (.istore 5, 2) := by decide +kernel
theorem dX10_look_32 : decode cX10_look 32 = .ok (.iconst 0, 1) := by decide +kernel
theorem dX10_look_33 : decode cX10_look 33 = .ok (.istore 6, 2) := by decide +kernel
theorem dX10_look_35 : decode cX10_look 35 = .ok (.iload 6, 2) := by decide +kernel
theorem dX10_look_37 : decode cX10_look 37 = .ok (.iconst 1, 1) := by decide +kernel
theorem dX10_look_38 : decode cX10_look 38 = .ok (.aload_n 0, 1) := by decide +kernel
theorem dX10_look_39 : decode cX10_look 39 = .ok (.invokevirtual 84, 3) := by decide +kernel
theorem dX10_look_42 : decode cX10_look 42 = .ok (.ishl, 1) := by decide +kernel
theorem dX10_look_43 : decode cX10_look 43 = .ok (.if_icmp .ge 123, 3) := by decide +kernel
theorem dX10_look_46 : decode cX10_look 46 = .ok (.iload 6, 2) := by decide +kernel
theorem dX10_look_48 : decode cX10_look 48 = .ok (.invokestatic 300, 3) := by decide +kernel
theorem dX10_look_51 : decode cX10_look 51 = .ok (.iload_n 1, 1) := by decide +kernel
theorem dX10_look_52 : decode cX10_look 52 = .ok (.if_icmp .le 6, 3) := by decide +kernel
theorem dX10_look_55 : decode cX10_look 55 = .ok (.goto 105, 3) := by decide +kernel
theorem dX10_look_58 : decode cX10_look 58 = .ok (.aload_n 0, 1) := by decide +kernel
theorem dX10_look_59 : decode cX10_look 59 = .ok (.iload 6, 2) := by decide +kernel
theorem dX10_look_61 : decode cX10_look 61 = .ok (.putfield 233, 3) := by decide +kernel
theorem dX10_look_64 : decode cX10_look 64 = .ok (.aload_n 0, 1) := by decide +kernel
theorem dX10_look_65 : decode cX10_look 65 = .ok (.iconst (-1), 1) := by decide +kernel
theorem dX10_look_66 : decode cX10_look 66 = .ok (.iconst 0, 1) := by decide +kernel
theorem dX10_look_67 : decode cX10_look 67 = .ok (.invokevirtual 296, 3) := by decide +kernel
theorem dX10_look_70 : decode cX10_look 70 = .ok (.aload_n 0, 1) := by decide +kernel
theorem dX10_look_71 : decode cX10_look 71 = .ok (.getfield 58, 3) := by decide +kernel
theorem dX10_look_74 : decode cX10_look 74 = .ok (.aload_n 0, 1) := by decide +kernel
theorem dX10_look_75 : decode cX10_look 75 = .ok (.invokevirtual 293, 3) := by decide +kernel
theorem dX10_look_78 : decode cX10_look 78 = .ok (.aload_n 0, 1) := by decide +kernel
theorem dX10_look_79 : decode cX10_look 79 = .ok (.getfield 17, 3) := by decide +kernel
theorem dX10_look_82 : decode cX10_look 82 = .ok (.bipush 60, 2) := by decide +kernel
theorem dX10_look_84 : decode cX10_look 84 = .ok (.invokestatic 289, 3) := by decide +kernel
theorem dX10_look_87 : decode cX10_look 87 = .ok (.istore 7, 2) := by decide +kernel
theorem dX10_look_89 : decode cX10_look 89 = .ok (.iload_n 3, 1) := by decide +kernel
theorem dX10_look_90 : decode cX10_look 90 = .ok (.iconst (-1), 1) := by decide +kernel
theorem dX10_look_91 : decode cX10_look 91 = .ok (.if_icmp .eq 32, 3) := by decide +kernel
theorem dX10_look_94 : decode cX10_look 94 = .ok (.iload 7, 2) := by decide +kernel
theorem dX10_look_96 : decode cX10_look 96 = .ok (.iload 4, 2) := by decide +kernel
theorem dX10_look_98 : decode cX10_look 98 = .ok (.if_icmp .lt 62, 3) := by decide +kernel
theorem dX10_look_101 : decode cX10_look 101 = .ok (.iload 7, 2) := by decide +kernel
theorem dX10_look_103 : decode cX10_look 103 = .ok (.iload 4, 2) := by decide +kernel
theorem dX10_look_105 : decode cX10_look 105 = .ok (.if_icmp .ne 18, 3) := by decide +kernel
theorem dX10_look_108 : decode cX10_look 108 = .ok (.iload 6, 2) := by decide +kernel
theorem dX10_look_110 : decode cX10_look 110 = .ok (.invokestatic 300, 3) := by decide +kernel
theorem dX10_look_113 : decode cX10_look 113 = .ok (.iload_n 3, 1) := by decide +kernel
theorem dX10_look_114 : decode cX10_look 114 = .ok (.invokestatic 300, 3) := by decide +kernel
theorem dX10_look_117 : decode cX10_look 117 = .ok (.if_icmp .le 6, 3) := by decide +kernel
theorem dX10_look_120 : decode cX10_look 120 = .ok (.goto 40, 3) := by decide +kernel
theorem dX10_look_123 : decode cX10_look 123 = .ok (.iload_n 3, 1) := by decide +kernel
theorem dX10_look_124 : decode cX10_look 124 = .ok (.iconst (-1), 1) := by decide +kernel
theorem dX10_look_125 : decode cX10_look 125 = .ok (.if_icmp .eq 22, 3) := by decide +kernel
theorem dX10_look_128 : decode cX10_look 128 = .ok (.iload 7, 2) := by decide +kernel
theorem dX10_look_130 : decode cX10_look 130 = .ok (.iload 4, 2) := by decide +kernel
theorem dX10_look_132 : decode cX10_look 132 = .ok (.if_icmp .gt 15, 3) := by decide +kernel
theorem dX10_look_135 : decode cX10_look 135 = .ok (.iload 6, 2) := by decide +kernel
theorem dX10_look_137 : decode cX10_look 137 = .ok (.invokestatic 300, 3) := by decide +kernel
theorem dX10_look_140 : decode cX10_look 140 = .ok (.iload_n 3, 1) := by decide +kernel
theorem dX10_look_141 : decode cX10_look 141 = .ok (.invokestatic 300, 3) := by decide +kernel
theorem dX10_look_144 : decode cX10_look 144 = .ok (.if_icmp .ge 13, 3) := by decide +kernel
theorem dX10_look_147 : decode cX10_look 147 = .ok (.iload 6, 2) := by decide +kernel
theorem dX10_look_149 : decode cX10_look 149 = .ok (.istore_n 3, 1) := by decide +kernel
theorem dX10_look_150 : decode cX10_look 150 = .ok (.iload 7, 2) := by decide +kernel
theorem dX10_look_152 : decode cX10_look 152 = .ok (.istore 4, 2) := by decide +kernel
theorem dX10_look_154 : decode cX10_look 154 = .ok (.iconst 0, 1) := by decide +kernel
theorem dX10_look_155 : decode cX10_look 155 = .ok (.istore 5, 2) := by decide +kernel
theorem dX10_look_157 : decode cX10_look 157 = .ok (.iinc 5 1, 3) := by decide +kernel
theorem dX10_look_160 : decode cX10_look 160 = .ok (.iinc 6 1, 3) := by decide +kernel
theorem dX10_look_163 : decode cX10_look 163 = .ok (.goto (-128), 3) := by decide +kernel
theorem dX10_look_166 : decode cX10_look 166 = .ok (.iload_n 2, 1) := by decide +kernel
theorem dX10_look_167 : decode cX10_look 167 = .ok (.ifCond .ne 8, 3) := by decide +kernel
theorem dX10_look_170 : decode cX10_look 170 = .ok (.iload 4, 2) := by decide +kernel
theorem dX10_look_172 : decode cX10_look 172 = .ok (.goto 14, 3) := by decide +kernel
theorem dX10_look_175 : decode cX10_look 175 = .ok (.iload_n 2, 1) := by decide +kernel
theorem dX10_look_176 : decode cX10_look 176 = .ok (.iconst 1, 1) := by decide +kernel
theorem dX10_look_177 : decode cX10_look 177 = .ok (.if_icmp .ne 7, 3) := by decide +kernel
theorem dX10_look_180 : decode cX10_look 180 = .ok (.iload_n 3, 1) := by decide +kernel
theorem dX10_look_181 : decode cX10_look 181 = .ok (.goto 5, 3) := by decide +kernel
theorem dX10_look_184 : decode cX10_look 184 = .ok (.iload 5, 2) := by decide +kernel
theorem dX10_look_186 : decode cX10_look 186 = .ok (.ireturn, 1) := by decide +kernel
theorem dX10_gift_0 : decode cX10_gift 0 = .ok (.iload_n 1, 1) := by decide +kernel
theorem dX10_gift_1 : decode cX10_gift 1 = .ok (.iconst 0, 1) := by decide +kernel
theorem dX10_gift_2 : decode cX10_gift 2 = .ok (.iconst 2, 1) := by decide +kernel
theorem dX10_gift_3 : decode cX10_gift 3 = .ok (.invokestatic 73, 3) := by decide +kernel
theorem dX10_gift_6 : decode cX10_gift 6 = .ok (.ifCond .ne 5, 3) := by decide +kernel
theorem dX10_gift_9 : decode cX10_gift 9 = .ok (.iconst (-1), 1) := by decide +kernel
theorem dX10_gift_10 : decode cX10_gift 10 = .ok (.ireturn, 1) := by decide +kernel
theorem dX10_gift_11 : decode cX10_gift 11 = .ok (.aload_n 0, 1) := by decide +kernel
theorem dX10_gift_12 : decode cX10_gift 12 = .ok (.invokevirtual 270, 3) := by decide +kernel
theorem dX10_gift_15 : decode cX10_gift 15 = .ok (.iconst (-1), 1) := by decide +kernel
theorem dX10_gift_16 : decode cX10_gift 16 = .ok (.istore_n 2, 1) := by decide +kernel
theorem dX10_gift_17 : decode cX10_gift 17 = .ok (.iconst (-1), 1) := by decide +kernel
theorem dX10_gift_18 : decode cX10_gift 18 = .ok (.istore_n 3, 1) := by decide +kernel
theorem dX10_gift_19 : decode cX10_gift 19 = .ok (.iconst 0, 1) := by decide +kernel
theorem dX10_gift_20 : decode cX10_gift 20 = .ok (.istore 4, 2) := by decide +kernel
theorem dX10_gift_22 : decode cX10_gift 22 = .ok (.iload 4, 2) := by decide +kernel
theorem dX10_gift_24 : decode cX10_gift 24 = .ok (.bipush 8, 2) := by decide +kernel
theorem dX10_gift_26 : decode cX10_gift 26 = .ok (.aload_n 0, 1) := by decide +kernel
theorem dX10_gift_27 : decode cX10_gift 27 = .ok (.invokevirtual 84, 3) := by decide +kernel
theorem dX10_gift_30 : decode cX10_gift 30 = .ok (.imul, 1) := by decide +kernel
theorem dX10_gift_31 : decode cX10_gift 31 = .ok (.if_icmp .ge 90, 3) := by decide +kernel
theorem dX10_gift_34 : decode cX10_gift 34 = .ok (.aload_n 0, 1) := by decide +kernel
theorem dX10_gift_35 : decode cX10_gift 35 = .ok (.iload 4, 2) := by decide +kernel
theorem dX10_gift_37 : decode cX10_gift 37 = .ok (.bipush 8, 2) := by decide +kernel
theorem dX10_gift_39 : decode cX10_gift 39 = .ok (.idiv, 1) := by decide +kernel
theorem dX10_gift_40 : decode cX10_gift 40 = .ok (.putfield 236, 3) := by decide +kernel
theorem dX10_gift_43 : decode cX10_gift 43 = .ok (.aload_n 0, 1) := by decide +kernel
theorem dX10_gift_44 : decode cX10_gift 44 = .ok (.iload 4, 2) := by decide +kernel
theorem dX10_gift_46 : decode cX10_gift 46 = .ok (.bipush 8, 2) := by decide +kernel
theorem dX10_gift_48 : decode cX10_gift 48 = .ok (.irem, 1) := by decide +kernel
theorem dX10_gift_49 : decode cX10_gift 49 = .ok (.putfield 239, 3) := by decide +kernel
theorem dX10_gift_52 : decode cX10_gift 52 = .ok (.aload_n 0, 1) := by decide +kernel
theorem dX10_gift_53 : decode cX10_gift 53 = .ok (.aload_n 0, 1) := by decide +kernel
theorem dX10_gift_54 : decode cX10_gift 54 = .ok (.getfield 236, 3) := by decide +kernel
theorem dX10_gift_57 : decode cX10_gift 57 = .ok (.iconst 5, 1) := by decide +kernel
theorem dX10_gift_58 : decode cX10_gift 58 = .ok (.invokevirtual 100, 3) := by decide +kernel
theorem dX10_gift_61 : decode cX10_gift 61 = .ok (.aload_n 0, 1) := by decide +kernel
theorem dX10_gift_62 : decode cX10_gift 62 = .ok (.getfield 239, 3) := by decide +kernel
theorem dX10_gift_65 : decode cX10_gift 65 = .ok (.ishr, 1) := by decide +kernel
theorem dX10_gift_66 : decode cX10_gift 66 = .ok (.iconst 1, 1) := by decide +kernel
theorem dX10_gift_67 : decode cX10_gift 67 = .ok (.iand, 1) := by decide +kernel
theorem dX10_gift_68 : decode cX10_gift 68 = .ok (.iconst 1, 1) := by decide +kernel
theorem dX10_gift_69 : decode cX10_gift 69 = .ok (.if_icmp .ne 6, 3) := by decide +kernel
theorem dX10_gift_72 : decode cX10_gift 72 = .ok (.goto 43, 3) := by decide +kernel
theorem dX10_gift_75 : decode cX10_gift 75 = .ok (.aload_n 0, 1) := by decide +kernel
theorem dX10_gift_76 : decode cX10_gift 76 = .ok (.iconst (-1), 1) := by decide +kernel
theorem dX10_gift_77 : decode cX10_gift 77 = .ok (.iconst 0, 1) := by decide +kernel
theorem dX10_gift_78 : decode cX10_gift 78 = .ok (.invokevirtual 296, 3) := by decide +kernel
theorem dX10_gift_81 : decode cX10_gift 81 = .ok (.aload_n 0, 1) := by decide +kernel
theorem dX10_gift_82 : decode cX10_gift 82 = .ok (.getfield 58, 3) := by decide +kernel
theorem dX10_gift_85 : decode cX10_gift 85 = .ok (.aload_n 0, 1) := by decide +kernel
theorem dX10_gift_86 : decode cX10_gift 86 = .ok (.invokevirtual 293, 3) := by decide +kernel
theorem dX10_gift_89 : decode cX10_gift 89 = .ok (.aload_n 0, 1) := by decide +kernel
theorem dX10_gift_90 : decode cX10_gift 90 = .ok (.getfield 17, 3) := by decide +kernel
theorem dX10_gift_93 : decode cX10_gift 93 = .ok (.bipush 60, 2) := by decide +kernel
theorem dX10_gift_95 : decode cX10_gift 95 = .ok (.invokestatic 289, 3) := by decide +kernel
theorem dX10_gift_98 : decode cX10_gift 98 = .ok (.istore 5, 2) := by decide +kernel
theorem dX10_gift_100 : decode cX10_gift 100 = .ok (.iload 5, 2) := by decide +kernel
theorem dX10_gift_102 : decode cX10_gift 102 = .ok (.iload_n 3, 1) := by decide +kernel
theorem dX10_gift_103 : decode cX10_gift 103 = .ok (.if_icmp .gt 6, 3) := by decide +kernel
theorem dX10_gift_106 : decode cX10_gift 106 = .ok (.goto 9, 3) := by decide +kernel
theorem dX10_gift_109 : decode cX10_gift 109 = .ok (.iload 5, 2) := by decide +kernel
theorem dX10_gift_111 : decode cX10_gift 111 = .ok (.istore_n 3, 1) := by decide +kernel
theorem dX10_gift_112 : decode cX10_gift 112 = .ok (.iload 4, 2) := by decide +kernel
theorem dX10_gift_114 : decode cX10_gift 114 = .ok (.istore_n 2, 1) := by decide +kernel
theorem dX10_gift_115 : decode cX10_gift 115 = .ok (.iinc 4 1, 3) := by decide +kernel
theorem dX10_gift_118 : decode cX10_gift 118 = .ok (.goto (-96), 3) := by decide +kernel
theorem dX10_gift_121 : decode cX10_gift 121 = .ok (.iload_n 2, 1) := by decide +kernel
theorem dX10_gift_122 : decode cX10_gift 122 = .ok (.iconst (-1), 1) := by decide +kernel
theorem dX10_gift_123 : decode cX10_gift 123 = .ok (.if_icmp .ne 7, 3) := by decide +kernel
theorem dX10_gift_126 : decode cX10_gift 126 = .ok (.iconst (-1), 1) := by decide +kernel
theorem dX10_gift_127 : decode cX10_gift 127 = .ok (.goto 27, 3) := by decide +kernel
theorem dX10_gift_130 : decode cX10_gift 130 = .ok (.iload_n 1, 1) := by decide +kernel
theorem dX10_gift_131 : decode cX10_gift 131 = .ok (.ifCond .ne 7, 3) := by decide +kernel
theorem dX10_gift_134 : decode cX10_gift 134 = .ok (.iload_n 3, 1) := by decide +kernel
theorem dX10_gift_135 : decode cX10_gift 135 = .ok (.goto 19, 3) := by decide +kernel
theorem dX10_gift_138 : decode cX10_gift 138 = .ok (.iload_n 1, 1) := by decide +kernel
theorem dX10_gift_139 : decode cX10_gift 139 = .ok (.iconst 1, 1) := by decide +kernel
theorem dX10_gift_140 : decode cX10_gift 140 = .ok (.if_icmp .ne 10, 3) := by decide +kernel
theorem dX10_gift_143 : decode cX10_gift 143 = .ok (.iload_n 2, 1) := by decide +kernel
theorem dX10_gift_144 : decode cX10_gift 144 = .ok (.bipush 8, 2) := by decide +kernel
theorem dX10_gift_146 : decode cX10_gift 146 = .ok (.idiv, 1) := by decide +kernel
theorem dX10_gift_147 : decode cX10_gift 147 = .ok (.goto 7, 3) := by decide +kernel
theorem dX10_gift_150 : decode cX10_gift 150 = .ok (.iload_n 2, 1) := by decide +kernel
theorem dX10_gift_151 : decode cX10_gift 151 = .ok (.bipush 8, 2) := by decide +kernel
theorem dX10_gift_153 : decode cX10_gift 153 = .ok (.irem, 1) := by decide +kernel
theorem dX10_gift_154 : decode cX10_gift 154 = .ok (.ireturn, 1) := by decide +kernel
theorem dX10_slips_0 : decode cX10_slips 0 = .ok (.iload_n 1, 1) := by decide +kernel
theorem dX10_slips_1 : decode cX10_slips 1 = .ok (.iconst (-1), 1) := by decide +kernel
theorem dX10_slips_2 : decode cX10_slips 2 = .ok (.if_icmp .ge 5, 3) := by decide +kernel
theorem dX10_slips_5 : decode cX10_slips 5 = .ok (.iconst (-1), 1) := by decide +kernel
theorem dX10_slips_6 : decode cX10_slips 6 = .ok (.ireturn, 1) := by decide +kernel
theorem dX10_slips_7 : decode cX10_slips 7 = .ok (.aload_n 0, 1) := by decide +kernel
theorem dX10_slips_8 : decode cX10_slips 8 = .ok (.invokevirtual 280, 3) := by decide +kernel
theorem dX10_slips_11 : decode cX10_slips 11 = .ok (.iconst 0, 1) := by decide +kernel
theorem dX10_slips_12 : decode cX10_slips 12 = .ok (.istore_n 2, 1) := by decide +kernel
theorem dX10_slips_13 : decode cX10_slips 13 = .ok (.iconst 0, 1) := by decide +kernel
theorem dX10_slips_14 : decode cX10_slips 14 = .ok (.istore_n 3, 1) := by decide +kernel
theorem dX10_slips_15 : decode cX10_slips 15 = .ok (.iload_n 3, 1) := by decide +kernel
theorem dX10_slips_16 : decode cX10_slips 16 = .ok (.bipush 36, 2) := by decide +kernel
theorem dX10_slips_18 : decode cX10_slips 18 = .ok (.aload_n 0, 1) := by decide +kernel
theorem dX10_slips_19 : decode cX10_slips 19 = .ok (.invokevirtual 84, 3) := by decide +kernel
theorem dX10_slips_22 : decode cX10_slips 22 = .ok (.iconst 1, 1) := by decide +kernel
theorem dX10_slips_23 : decode cX10_slips 23 = .ok (.iadd, 1) := by decide +kernel
theorem dX10_slips_24 : decode cX10_slips 24 = .ok (.imul, 1) := by decide +kernel
theorem dX10_slips_25 : decode cX10_slips 25 = .ok (.if_icmp .ge 21, 3) := by decide +kernel
theorem dX10_slips_28 : decode cX10_slips 28 = .ok (.aload_n 0, 1) := by decide +kernel
theorem dX10_slips_29 : decode cX10_slips 29 = .ok (.getfield 58, 3) := by decide +kernel
theorem dX10_slips_32 : decode cX10_slips 32 = .ok (.iload_n 3, 1) := by decide +kernel
theorem dX10_slips_33 : decode cX10_slips 33 = .ok (.aload_n 0, 1) := by decide +kernel
theorem dX10_slips_34 : decode cX10_slips 34 = .ok (.getfield 52, 3) := by decide +kernel
theorem dX10_slips_37 : decode cX10_slips 37 = .ok (.iload_n 3, 1) := by decide +kernel
theorem dX10_slips_38 : decode cX10_slips 38 = .ok (.iaload, 1) := by decide +kernel
theorem dX10_slips_39 : decode cX10_slips 39 = .ok (.iastore, 1) := by decide +kernel
theorem dX10_slips_40 : decode cX10_slips 40 = .ok (.iinc 3 1, 3) := by decide +kernel
theorem dX10_slips_43 : decode cX10_slips 43 = .ok (.goto (-28), 3) := by decide +kernel
theorem dX10_slips_46 : decode cX10_slips 46 = .ok (.iconst 0, 1) := by decide +kernel
theorem dX10_slips_47 : decode cX10_slips 47 = .ok (.istore_n 3, 1) := by decide +kernel
theorem dX10_slips_48 : decode cX10_slips 48 = .ok (.iload_n 3, 1) := by decide +kernel
theorem dX10_slips_49 : decode cX10_slips 49 = .ok (.aload_n 0, 1) := by decide +kernel
theorem dX10_slips_50 : decode cX10_slips 50 = .ok (.invokevirtual 84, 3) := by decide +kernel
theorem dX10_slips_53 : decode cX10_slips 53 = .ok (.if_icmp .ge 172, 3) := by decide +kernel
theorem dX10_slips_56 : decode cX10_slips 56 = .ok (.iconst 0, 1) := by decide +kernel
theorem dX10_slips_57 : decode cX10_slips 57 = .ok (.istore 4, 2) := by decide +kernel
theorem dX10_slips_59 : decode cX10_slips 59 = .ok (.iload 4, 2) := by decide +kernel
theorem dX10_slips_61 : decode cX10_slips 61 = .ok (.sipush 288, 3) := by decide +kernel
theorem dX10_slips_64 : decode cX10_slips 64 = .ok (.if_icmp .ge 111, 3) := by decide +kernel
theorem dX10_slips_67 : decode cX10_slips 67 = .ok (.aload_n 0, 1) := by decide +kernel
theorem dX10_slips_68 : decode cX10_slips 68 = .ok (.bipush 36, 2) := by decide +kernel
theorem dX10_slips_70 : decode cX10_slips 70 = .ok (.iload_n 3, 1) := by decide +kernel
theorem dX10_slips_71 : decode cX10_slips 71 = .ok (.imul, 1) := by decide +kernel
theorem dX10_slips_72 : decode cX10_slips 72 = .ok (.iload 4, 2) := by decide +kernel
theorem dX10_slips_74 : decode cX10_slips 74 = .ok (.bipush 8, 2) := by decide +kernel
theorem dX10_slips_76 : decode cX10_slips 76 = .ok (.idiv, 1) := by decide +kernel
theorem dX10_slips_77 : decode cX10_slips 77 = .ok (.iadd, 1) := by decide +kernel
theorem dX10_slips_78 : decode cX10_slips 78 = .ok (.putfield 242, 3) := by decide +kernel
theorem dX10_slips_81 : decode cX10_slips 81 = .ok (.aload_n 0, 1) := by decide +kernel
theorem dX10_slips_82 : decode cX10_slips 82 = .ok (.iload 4, 2) := by decide +kernel
theorem dX10_slips_84 : decode cX10_slips 84 = .ok (.bipush 8, 2) := by decide +kernel
theorem dX10_slips_86 : decode cX10_slips 86 = .ok (.irem, 1) := by decide +kernel
theorem dX10_slips_87 : decode cX10_slips 87 = .ok (.putfield 245, 3) := by decide +kernel
theorem dX10_slips_90 : decode cX10_slips 90 = .ok (.aload_n 0, 1) := by decide +kernel
theorem dX10_slips_91 : decode cX10_slips 91 = .ok (.getfield 52, 3) := by decide +kernel
theorem dX10_slips_94 : decode cX10_slips 94 = .ok (.bipush 36, 2) := by decide +kernel
theorem dX10_slips_96 : decode cX10_slips 96 = .ok (.iload_n 3, 1) := by decide +kernel
theorem dX10_slips_97 : decode cX10_slips 97 = .ok (.iconst 1, 1) := by decide +kernel
theorem dX10_slips_98 : decode cX10_slips 98 = .ok (.iadd, 1) := by decide +kernel
theorem dX10_slips_99 : decode cX10_slips 99 = .ok (.imul, 1) := by decide +kernel
theorem dX10_slips_100 : decode cX10_slips 100 = .ok (.iload 4, 2) := by decide +kernel
theorem dX10_slips_102 : decode cX10_slips 102 = .ok (.bipush 8, 2) := by decide +kernel
theorem dX10_slips_104 : decode cX10_slips 104 = .ok (.idiv, 1) := by decide +kernel
theorem dX10_slips_105 : decode cX10_slips 105 = .ok (.iadd, 1) := by decide +kernel
theorem dX10_slips_106 : decode cX10_slips 106 = .ok (.iaload, 1) := by decide +kernel
theorem dX10_slips_107 : decode cX10_slips 107 = .ok (.aload_n 0, 1) := by decide +kernel
theorem dX10_slips_108 : decode cX10_slips 108 = .ok (.getfield 245, 3) := by decide +kernel
theorem dX10_slips_111 : decode cX10_slips 111 = .ok (.if_icmp .ne 6, 3) := by decide +kernel
theorem dX10_slips_114 : decode cX10_slips 114 = .ok (.goto 55, 3) := by decide +kernel
theorem dX10_slips_117 : decode cX10_slips 117 = .ok (.aload_n 0, 1) := by decide +kernel
theorem dX10_slips_118 : decode cX10_slips 118 = .ok (.aload_n 0, 1) := by decide +kernel
theorem dX10_slips_119 : decode cX10_slips 119 = .ok (.getfield 58, 3) := by decide +kernel
theorem dX10_slips_122 : decode cX10_slips 122 = .ok (.iload_n 3, 1) := by decide +kernel
theorem dX10_slips_123 : decode cX10_slips 123 = .ok (.invokevirtual 273, 3) := by decide +kernel
theorem dX10_slips_126 : decode cX10_slips 126 = .ok (.aload_n 0, 1) := by decide +kernel
theorem dX10_slips_127 : decode cX10_slips 127 = .ok (.getfield 58, 3) := by decide +kernel
theorem dX10_slips_130 : decode cX10_slips 130 = .ok (.aload_n 0, 1) := by decide +kernel
theorem dX10_slips_131 : decode cX10_slips 131 = .ok (.invokevirtual 293, 3) := by decide +kernel
theorem dX10_slips_134 : decode cX10_slips 134 = .ok (.aload_n 0, 1) := by decide +kernel
theorem dX10_slips_135 : decode cX10_slips 135 = .ok (.getfield 17, 3) := by decide +kernel
theorem dX10_slips_138 : decode cX10_slips 138 = .ok (.sipush 132, 3) := by decide +kernel
theorem dX10_slips_141 : decode cX10_slips 141 = .ok (.invokestatic 289, 3) := by decide +kernel
theorem dX10_slips_144 : decode cX10_slips 144 = .ok (.bipush 36, 2) := by decide +kernel
theorem dX10_slips_146 : decode cX10_slips 146 = .ok (.if_icmp .ge 6, 3) := by decide +kernel
theorem dX10_slips_149 : decode cX10_slips 149 = .ok (.goto 20, 3) := by decide +kernel
theorem dX10_slips_152 : decode cX10_slips 152 = .ok (.iload_n 2, 1) := by decide +kernel
theorem dX10_slips_153 : decode cX10_slips 153 = .ok (.iload_n 1, 1) := by decide +kernel
theorem dX10_slips_154 : decode cX10_slips 154 = .ok (.if_icmp .ne 12, 3) := by decide +kernel
theorem dX10_slips_157 : decode cX10_slips 157 = .ok (.sipush 288, 3) := by decide +kernel
theorem dX10_slips_160 : decode cX10_slips 160 = .ok (.iload_n 3, 1) := by decide +kernel
theorem dX10_slips_161 : decode cX10_slips 161 = .ok (.imul, 1) := by decide +kernel
theorem dX10_slips_162 : decode cX10_slips 162 = .ok (.iload 4, 2) := by decide +kernel
theorem dX10_slips_164 : decode cX10_slips 164 = .ok (.iadd, 1) := by decide +kernel
theorem dX10_slips_165 : decode cX10_slips 165 = .ok (.ireturn, 1) := by decide +kernel
theorem dX10_slips_166 : decode cX10_slips 166 = .ok (.iinc 2 1, 3) := by decide +kernel
theorem dX10_slips_169 : decode cX10_slips 169 = .ok (.iinc 4 1, 3) := by decide +kernel
theorem dX10_slips_172 : decode cX10_slips 172 = .ok (.goto (-113), 3) := by decide +kernel
theorem dX10_slips_175 : decode cX10_slips 175 = .ok (.iconst 0, 1) := by decide +kernel
theorem dX10_slips_176 : decode cX10_slips 176 = .ok (.istore 4, 2) := by decide +kernel
theorem dX10_slips_178 : decode cX10_slips 178 = .ok (.iload 4, 2) := by decide +kernel
theorem dX10_slips_180 : decode cX10_slips 180 = .ok (.bipush 36, 2) := by decide +kernel
theorem dX10_slips_182 : decode cX10_slips 182 = .ok (.if_icmp .ge 37, 3) := by decide +kernel
theorem dX10_slips_185 : decode cX10_slips 185 = .ok (.aload_n 0, 1) := by decide +kernel
theorem dX10_slips_186 : decode cX10_slips 186 = .ok (.getfield 58, 3) := by decide +kernel
theorem dX10_slips_189 : decode cX10_slips 189 = .ok (.bipush 36, 2) := by decide +kernel
theorem dX10_slips_191 : decode cX10_slips 191 = .ok (.iload_n 3, 1) := by decide +kernel
theorem dX10_slips_192 : decode cX10_slips 192 = .ok (.iconst 1, 1) := by decide +kernel
theorem dX10_slips_193 : decode cX10_slips 193 = .ok (.iadd, 1) := by decide +kernel
theorem dX10_slips_194 : decode cX10_slips 194 = .ok (.imul, 1) := by decide +kernel
theorem dX10_slips_195 : decode cX10_slips 195 = .ok (.iload 4, 2) := by decide +kernel
theorem dX10_slips_197 : decode cX10_slips 197 = .ok (.iadd, 1) := by decide +kernel
theorem dX10_slips_198 : decode cX10_slips 198 = .ok (.aload_n 0, 1) := by decide +kernel
theorem dX10_slips_199 : decode cX10_slips 199 = .ok (.getfield 52, 3) := by decide +kernel
theorem dX10_slips_202 : decode cX10_slips 202 = .ok (.bipush 36, 2) := by decide +kernel
theorem dX10_slips_204 : decode cX10_slips 204 = .ok (.iload_n 3, 1) := by decide +kernel
theorem dX10_slips_205 : decode cX10_slips 205 = .ok (.iconst 1, 1) := by decide +kernel
theorem dX10_slips_206 : decode cX10_slips 206 = .ok (.iadd, 1) := by decide +kernel
theorem dX10_slips_207 : decode cX10_slips 207 = .ok (.imul, 1) := by decide +kernel
theorem dX10_slips_208 : decode cX10_slips 208 = .ok (.iload 4, 2) := by decide +kernel
theorem dX10_slips_210 : decode cX10_slips 210 = .ok (.iadd, 1) := by decide +kernel
theorem dX10_slips_211 : decode cX10_slips 211 = .ok (.iaload, 1) := by decide +kernel
theorem dX10_slips_212 : decode cX10_slips 212 = .ok (.iastore, 1) := by decide +kernel
theorem dX10_slips_213 : decode cX10_slips 213 = .ok (.iinc 4 1, 3) := by decide +kernel
theorem dX10_slips_216 : decode cX10_slips 216 = .ok (.goto (-38), 3) := by decide +kernel
theorem dX10_slips_219 : decode cX10_slips 219 = .ok (.iinc 3 1, 3) := by decide +kernel
theorem dX10_slips_222 : decode cX10_slips 222 = .ok (.goto (-174), 3) := by decide +kernel
theorem dX10_slips_225 : decode cX10_slips 225 = .ok (.iload_n 1, 1) := by decide +kernel
theorem dX10_slips_226 : decode cX10_slips 226 = .ok (.iconst (-1), 1) := by decide +kernel
theorem dX10_slips_227 : decode cX10_slips 227 = .ok (.if_icmp .ne 7, 3) := by decide +kernel
theorem dX10_slips_230 : decode cX10_slips 230 = .ok (.iload_n 2, 1) := by decide +kernel
theorem dX10_slips_231 : decode cX10_slips 231 = .ok (.goto 4, 3) := by decide +kernel
theorem dX10_slips_234 : decode cX10_slips 234 = .ok (.iconst (-1), 1) := by decide +kernel
theorem dX10_slips_235 : decode cX10_slips 235 = .ok (.ireturn, 1) := by decide +kernel
theorem dX10_meeting_0 : decode cX10_meeting 0 = .ok (.iload_n 1, 1) := by decide +kernel
theorem dX10_meeting_1 : decode cX10_meeting 1 = .ok (.iconst 0, 1) := by decide +kernel
theorem dX10_meeting_2 : decode cX10_meeting 2 = .ok (.iconst 1, 1) := by decide +kernel
theorem dX10_meeting_3 : decode cX10_meeting 3 = .ok (.invokestatic 73, 3) := by decide +kernel
theorem dX10_meeting_6 : decode cX10_meeting 6 = .ok (.ifCond .ne 5, 3) := by decide +kernel
theorem dX10_meeting_9 : decode cX10_meeting 9 = .ok (.iconst (-1), 1) := by decide +kernel
theorem dX10_meeting_10 : decode cX10_meeting 10 = .ok (.ireturn, 1) := by decide +kernel
theorem dX10_meeting_11 : decode cX10_meeting 11 = .ok (.aload_n 0, 1) := by decide +kernel
theorem dX10_meeting_12 : decode cX10_meeting 12 = .ok (.invokevirtual 280, 3) := by decide +kernel
theorem dX10_meeting_15 : decode cX10_meeting 15 = .ok (.aload_n 0, 1) := by decide +kernel
theorem dX10_meeting_16 : decode cX10_meeting 16 = .ok (.invokevirtual 283, 3) := by decide +kernel
theorem dX10_meeting_19 : decode cX10_meeting 19 = .ok (.iconst (-1), 1) := by decide +kernel
theorem dX10_meeting_20 : decode cX10_meeting 20 = .ok (.istore_n 2, 1) := by decide +kernel
theorem dX10_meeting_21 : decode cX10_meeting 21 = .ok (.iconst (-1), 1) := by decide +kernel
theorem dX10_meeting_22 : decode cX10_meeting 22 = .ok (.istore_n 3, 1) := by decide +kernel
theorem dX10_meeting_23 : decode cX10_meeting 23 = .ok (.iconst 0, 1) := by decide +kernel
theorem dX10_meeting_24 : decode cX10_meeting 24 = .ok (.istore 4, 2) := by decide +kernel
theorem dX10_meeting_26 : decode cX10_meeting 26 = .ok (.iload 4, 2) := by decide +kernel
theorem dX10_meeting_28 : decode cX10_meeting 28 = .ok (.iconst 1, 1) := by decide +kernel
theorem dX10_meeting_29 : decode cX10_meeting 29 = .ok (.iadd, 1) := by decide +kernel
theorem dX10_meeting_30 : decode cX10_meeting 30 = .ok (.aload_n 0, 1) := by decide +kernel
theorem dX10_meeting_31 : decode cX10_meeting 31 = .ok (.invokevirtual 84, 3) := by decide +kernel
theorem dX10_meeting_34 : decode cX10_meeting 34 = .ok (.if_icmp .ge 51, 3) := by decide +kernel
theorem dX10_meeting_37 : decode cX10_meeting 37 = .ok (.aload_n 0, 1) := by decide +kernel
theorem dX10_meeting_38 : decode cX10_meeting 38 = .ok (.getfield 52, 3) := by decide +kernel
theorem dX10_meeting_41 : decode cX10_meeting 41 = .ok (.bipush 36, 2) := by decide +kernel
theorem dX10_meeting_43 : decode cX10_meeting 43 = .ok (.iload 4, 2) := by decide +kernel
theorem dX10_meeting_45 : decode cX10_meeting 45 = .ok (.iconst 1, 1) := by decide +kernel
theorem dX10_meeting_46 : decode cX10_meeting 46 = .ok (.iadd, 1) := by decide +kernel
theorem dX10_meeting_47 : decode cX10_meeting 47 = .ok (.imul, 1) := by decide +kernel
theorem dX10_meeting_48 : decode cX10_meeting 48 = .ok (.aload_n 0, 1) := by decide +kernel
theorem dX10_meeting_49 : decode cX10_meeting 49 = .ok (.getfield 55, 3) := by decide +kernel
theorem dX10_meeting_52 : decode cX10_meeting 52 = .ok (.bipush 36, 2) := by decide +kernel
theorem dX10_meeting_54 : decode cX10_meeting 54 = .ok (.iload 4, 2) := by decide +kernel
theorem dX10_meeting_56 : decode cX10_meeting 56 = .ok (.iconst 1, 1) := by decide +kernel
theorem dX10_meeting_57 : decode cX10_meeting 57 = .ok (.iadd, 1) := by decide +kernel
theorem dX10_meeting_58 : decode cX10_meeting 58 = .ok (.imul, 1) := by decide +kernel
theorem dX10_meeting_59 : decode cX10_meeting 59 = .ok (.invokestatic 289, 3) := by decide +kernel
theorem dX10_meeting_62 : decode cX10_meeting 62 = .ok (.istore 5, 2) := by decide +kernel
theorem dX10_meeting_64 : decode cX10_meeting 64 = .ok (.iload 5, 2) := by decide +kernel
theorem dX10_meeting_66 : decode cX10_meeting 66 = .ok (.iload_n 3, 1) := by decide +kernel
theorem dX10_meeting_67 : decode cX10_meeting 67 = .ok (.if_icmp .gt 6, 3) := by decide +kernel
theorem dX10_meeting_70 : decode cX10_meeting 70 = .ok (.goto 9, 3) := by decide +kernel
theorem dX10_meeting_73 : decode cX10_meeting 73 = .ok (.iload 5, 2) := by decide +kernel
theorem dX10_meeting_75 : decode cX10_meeting 75 = .ok (.istore_n 3, 1) := by decide +kernel
theorem dX10_meeting_76 : decode cX10_meeting 76 = .ok (.iload 4, 2) := by decide +kernel
theorem dX10_meeting_78 : decode cX10_meeting 78 = .ok (.istore_n 2, 1) := by decide +kernel
theorem dX10_meeting_79 : decode cX10_meeting 79 = .ok (.iinc 4 1, 3) := by decide +kernel
theorem dX10_meeting_82 : decode cX10_meeting 82 = .ok (.goto (-56), 3) := by decide +kernel
theorem dX10_meeting_85 : decode cX10_meeting 85 = .ok (.iload_n 2, 1) := by decide +kernel
theorem dX10_meeting_86 : decode cX10_meeting 86 = .ok (.iconst (-1), 1) := by decide +kernel
theorem dX10_meeting_87 : decode cX10_meeting 87 = .ok (.if_icmp .eq 7, 3) := by decide +kernel
theorem dX10_meeting_90 : decode cX10_meeting 90 = .ok (.iload_n 1, 1) := by decide +kernel
theorem dX10_meeting_91 : decode cX10_meeting 91 = .ok (.ifCond .ne 7, 3) := by decide +kernel
theorem dX10_meeting_94 : decode cX10_meeting 94 = .ok (.iload_n 2, 1) := by decide +kernel
theorem dX10_meeting_95 : decode cX10_meeting 95 = .ok (.goto 4, 3) := by decide +kernel
theorem dX10_meeting_98 : decode cX10_meeting 98 = .ok (.iload_n 3, 1) := by decide +kernel
theorem dX10_meeting_99 : decode cX10_meeting 99 = .ok (.ireturn, 1) := by decide +kernel
theorem dX10_seamsOf_0 : decode cX10_seamsOf 0 = .ok (.iconst 0, 1) := by decide +kernel
theorem dX10_seamsOf_1 : decode cX10_seamsOf 1 = .ok (.istore_n 2, 1) := by decide +kernel
theorem dX10_seamsOf_2 : decode cX10_seamsOf 2 = .ok (.iconst 0, 1) := by decide +kernel
theorem dX10_seamsOf_3 : decode cX10_seamsOf 3 = .ok (.istore_n 3, 1) := by decide +kernel
theorem dX10_seamsOf_4 : decode cX10_seamsOf 4 = .ok (.iload_n 3, 1) := by decide +kernel
theorem dX10_seamsOf_5 : decode cX10_seamsOf 5 = .ok (.bipush 36, 2) := by decide +kernel
theorem dX10_seamsOf_7 : decode cX10_seamsOf 7 = .ok (.if_icmp .ge 70, 3) := by decide +kernel
theorem dX10_seamsOf_10 : decode cX10_seamsOf 10 = .ok (.iload_n 2, 1) := by decide +kernel
theorem dX10_seamsOf_11 : decode cX10_seamsOf 11 = .ok (.iload_n 3, 1) := by decide +kernel
theorem dX10_seamsOf_12 : decode cX10_seamsOf 12 = .ok (.bipush 6, 2) := by decide +kernel
theorem dX10_seamsOf_14 : decode cX10_seamsOf 14 = .ok (.irem, 1) := by decide +kernel
theorem dX10_seamsOf_15 : decode cX10_seamsOf 15 = .ok (.iconst 5, 1) := by decide +kernel
theorem dX10_seamsOf_16 : decode cX10_seamsOf 16 = .ok (.if_icmp .ge 22, 3) := by decide +kernel
theorem dX10_seamsOf_19 : decode cX10_seamsOf 19 = .ok (.aload_n 0, 1) := by decide +kernel
theorem dX10_seamsOf_20 : decode cX10_seamsOf 20 = .ok (.iload_n 1, 1) := by decide +kernel
theorem dX10_seamsOf_21 : decode cX10_seamsOf 21 = .ok (.iload_n 3, 1) := by decide +kernel
theorem dX10_seamsOf_22 : decode cX10_seamsOf 22 = .ok (.iadd, 1) := by decide +kernel
theorem dX10_seamsOf_23 : decode cX10_seamsOf 23 = .ok (.iaload, 1) := by decide +kernel
theorem dX10_seamsOf_24 : decode cX10_seamsOf 24 = .ok (.aload_n 0, 1) := by decide +kernel
theorem dX10_seamsOf_25 : decode cX10_seamsOf 25 = .ok (.iload_n 1, 1) := by decide +kernel
theorem dX10_seamsOf_26 : decode cX10_seamsOf 26 = .ok (.iload_n 3, 1) := by decide +kernel
theorem dX10_seamsOf_27 : decode cX10_seamsOf 27 = .ok (.iadd, 1) := by decide +kernel
theorem dX10_seamsOf_28 : decode cX10_seamsOf 28 = .ok (.iconst 1, 1) := by decide +kernel
theorem dX10_seamsOf_29 : decode cX10_seamsOf 29 = .ok (.iadd, 1) := by decide +kernel
theorem dX10_seamsOf_30 : decode cX10_seamsOf 30 = .ok (.iaload, 1) := by decide +kernel
theorem dX10_seamsOf_31 : decode cX10_seamsOf 31 = .ok (.if_icmp .eq 7, 3) := by decide +kernel
theorem dX10_seamsOf_34 : decode cX10_seamsOf 34 = .ok (.iconst 1, 1) := by decide +kernel
theorem dX10_seamsOf_35 : decode cX10_seamsOf 35 = .ok (.goto 4, 3) := by decide +kernel
theorem dX10_seamsOf_38 : decode cX10_seamsOf 38 = .ok (.iconst 0, 1) := by decide +kernel
theorem dX10_seamsOf_39 : decode cX10_seamsOf 39 = .ok (.iadd, 1) := by decide +kernel
theorem dX10_seamsOf_40 : decode cX10_seamsOf 40 = .ok (.istore_n 2, 1) := by decide +kernel
theorem dX10_seamsOf_41 : decode cX10_seamsOf 41 = .ok (.iload_n 2, 1) := by decide +kernel
theorem dX10_seamsOf_42 : decode cX10_seamsOf 42 = .ok (.iload_n 3, 1) := by decide +kernel
theorem dX10_seamsOf_43 : decode cX10_seamsOf 43 = .ok (.bipush 30, 2) := by decide +kernel
theorem dX10_seamsOf_45 : decode cX10_seamsOf 45 = .ok (.if_icmp .ge 23, 3) := by decide +kernel
theorem dX10_seamsOf_48 : decode cX10_seamsOf 48 = .ok (.aload_n 0, 1) := by decide +kernel
theorem dX10_seamsOf_49 : decode cX10_seamsOf 49 = .ok (.iload_n 1, 1) := by decide +kernel
theorem dX10_seamsOf_50 : decode cX10_seamsOf 50 = .ok (.iload_n 3, 1) := by decide +kernel
theorem dX10_seamsOf_51 : decode cX10_seamsOf 51 = .ok (.iadd, 1) := by decide +kernel
theorem dX10_seamsOf_52 : decode cX10_seamsOf 52 = .ok (.iaload, 1) := by decide +kernel
theorem dX10_seamsOf_53 : decode cX10_seamsOf 53 = .ok (.aload_n 0, 1) := by decide +kernel
theorem dX10_seamsOf_54 : decode cX10_seamsOf 54 = .ok (.iload_n 1, 1) := by decide +kernel
theorem dX10_seamsOf_55 : decode cX10_seamsOf 55 = .ok (.iload_n 3, 1) := by decide +kernel
theorem dX10_seamsOf_56 : decode cX10_seamsOf 56 = .ok (.iadd, 1) := by decide +kernel
theorem dX10_seamsOf_57 : decode cX10_seamsOf 57 = .ok (.bipush 6, 2) := by decide +kernel
theorem dX10_seamsOf_59 : decode cX10_seamsOf 59 = .ok (.iadd, 1) := by decide +kernel
theorem dX10_seamsOf_60 : decode cX10_seamsOf 60 = .ok (.iaload, 1) := by decide +kernel
theorem dX10_seamsOf_61 : decode cX10_seamsOf 61 = .ok (.if_icmp .eq 7, 3) := by decide +kernel
theorem dX10_seamsOf_64 : decode cX10_seamsOf 64 = .ok (.iconst 1, 1) := by decide +kernel
theorem dX10_seamsOf_65 : decode cX10_seamsOf 65 = .ok (.goto 4, 3) := by decide +kernel
theorem dX10_seamsOf_68 : decode cX10_seamsOf 68 = .ok (.iconst 0, 1) := by decide +kernel
theorem dX10_seamsOf_69 : decode cX10_seamsOf 69 = .ok (.iadd, 1) := by decide +kernel
theorem dX10_seamsOf_70 : decode cX10_seamsOf 70 = .ok (.istore_n 2, 1) := by decide +kernel
theorem dX10_seamsOf_71 : decode cX10_seamsOf 71 = .ok (.iinc 3 1, 3) := by decide +kernel
theorem dX10_seamsOf_74 : decode cX10_seamsOf 74 = .ok (.goto (-70), 3) := by decide +kernel
theorem dX10_seamsOf_77 : decode cX10_seamsOf 77 = .ok (.iload_n 2, 1) := by decide +kernel
theorem dX10_seamsOf_78 : decode cX10_seamsOf 78 = .ok (.ireturn, 1) := by decide +kernel
theorem dX10_seams_0 : decode cX10_seams 0 = .ok (.aload_n 0, 1) := by decide +kernel
theorem dX10_seams_1 : decode cX10_seams 1 = .ok (.iload_n 1, 1) := by decide +kernel
theorem dX10_seams_2 : decode cX10_seams 2 = .ok (.invokevirtual 286, 3) := by decide +kernel
theorem dX10_seams_5 : decode cX10_seams 5 = .ok (.ifCond .ne 5, 3) := by decide +kernel
theorem dX10_seams_8 : decode cX10_seams 8 = .ok (.iconst (-1), 1) := by decide +kernel
theorem dX10_seams_9 : decode cX10_seams 9 = .ok (.ireturn, 1) := by decide +kernel
theorem dX10_seams_10 : decode cX10_seams 10 = .ok (.aload_n 0, 1) := by decide +kernel
theorem dX10_seams_11 : decode cX10_seams 11 = .ok (.invokevirtual 280, 3) := by decide +kernel
theorem dX10_seams_14 : decode cX10_seams 14 = .ok (.aload_n 0, 1) := by decide +kernel
theorem dX10_seams_15 : decode cX10_seams 15 = .ok (.getfield 52, 3) := by decide +kernel
theorem dX10_seams_18 : decode cX10_seams 18 = .ok (.bipush 36, 2) := by decide +kernel
