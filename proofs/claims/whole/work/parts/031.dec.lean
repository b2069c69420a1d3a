theorem dX3_mendFrom_99 : decode cX3_mendFrom 99 = .ok (.iastore, 1) := by decide +kernel
theorem dX3_mendFrom_100 : decode cX3_mendFrom 100 = .ok (.return_, 1) := by decide +kernel
theorem dX3_seamsAround_0 : decode cX3_seamsAround 0 = .ok (.aload_n 0, 1) := by decide +kernel
theorem dX3_seamsAround_1 : decode cX3_seamsAround 1 = .ok (.getfield 24, 3) := by decide +kernel
theorem dX3_seamsAround_4 : decode cX3_seamsAround 4 = .ok (.iload_n 1, 1) := by decide +kernel
theorem dX3_seamsAround_5 : decode cX3_seamsAround 5 = .ok (.iaload, 1) := by decide +kernel
theorem dX3_seamsAround_6 : decode cX3_seamsAround 6 = .ok (.istore_n 2, 1) := by decide +kernel
theorem dX3_seamsAround_7 : decode cX3_seamsAround 7 = .ok (.iconst 0, 1) := by decide +kernel
theorem dX3_seamsAround_8 : decode cX3_seamsAround 8 = .ok (.istore_n 3, 1) := by decide +kernel
theorem dX3_seamsAround_9 : decode cX3_seamsAround 9 = .ok (.iload_n 1, 1) := by decide +kernel
theorem dX3_seamsAround_10 : decode cX3_seamsAround 10 = .ok (.bipush 6, 2) := by decide +kernel
theorem dX3_seamsAround_12 : decode cX3_seamsAround 12 = .ok (.irem, 1) := by decide +kernel
theorem dX3_seamsAround_13 : decode cX3_seamsAround 13 = .ok (.ifCond .le 18, 3) := by decide +kernel
theorem dX3_seamsAround_16 : decode cX3_seamsAround 16 = .ok (.iload_n 3, 1) := by decide +kernel
theorem dX3_seamsAround_17 : decode cX3_seamsAround 17 = .ok (.iload_n 2, 1) := by decide +kernel
theorem dX3_seamsAround_18 : decode cX3_seamsAround 18 = .ok (.aload_n 0, 1) := by decide +kernel
theorem dX3_seamsAround_19 : decode cX3_seamsAround 19 = .ok (.getfield 24, 3) := by decide +kernel
theorem dX3_seamsAround_22 : decode cX3_seamsAround 22 = .ok (.iload_n 1, 1) := by decide +kernel
theorem dX3_seamsAround_23 : decode cX3_seamsAround 23 = .ok (.iconst 1, 1) := by decide +kernel
theorem dX3_seamsAround_24 : decode cX3_seamsAround 24 = .ok (.isub, 1) := by decide +kernel
theorem dX3_seamsAround_25 : decode cX3_seamsAround 25 = .ok (.iaload, 1) := by decide +kernel
theorem dX3_seamsAround_26 : decode cX3_seamsAround 26 = .ok (.invokestatic 59, 3) := by decide +kernel
theorem dX3_seamsAround_29 : decode cX3_seamsAround 29 = .ok (.iadd, 1) := by decide +kernel
theorem dX3_seamsAround_30 : decode cX3_seamsAround 30 = .ok (.istore_n 3, 1) := by decide +kernel
theorem dX3_seamsAround_31 : decode cX3_seamsAround 31 = .ok (.iload_n 1, 1) := by decide +kernel
theorem dX3_seamsAround_32 : decode cX3_seamsAround 32 = .ok (.bipush 6, 2) := by decide +kernel
theorem dX3_seamsAround_34 : decode cX3_seamsAround 34 = .ok (.irem, 1) := by decide +kernel
theorem dX3_seamsAround_35 : decode cX3_seamsAround 35 = .ok (.iconst 5, 1) := by decide +kernel
theorem dX3_seamsAround_36 : decode cX3_seamsAround 36 = .ok (.if_icmp .ge 18, 3) := by decide +kernel
theorem dX3_seamsAround_39 : decode cX3_seamsAround 39 = .ok (.iload_n 3, 1) := by decide +kernel
theorem dX3_seamsAround_40 : decode cX3_seamsAround 40 = .ok (.iload_n 2, 1) := by decide +kernel
theorem dX3_seamsAround_41 : decode cX3_seamsAround 41 = .ok (.aload_n 0, 1) := by decide +kernel
theorem dX3_seamsAround_42 : decode cX3_seamsAround 42 = .ok (.getfield 24, 3) := by decide +kernel
theorem dX3_seamsAround_45 : decode cX3_seamsAround 45 = .ok (.iload_n 1, 1) := by decide +kernel
theorem dX3_seamsAround_46 : decode cX3_seamsAround 46 = .ok (.iconst 1, 1) := by decide +kernel
theorem dX3_seamsAround_47 : decode cX3_seamsAround 47 = .ok (.iadd, 1) := by decide +kernel
theorem dX3_seamsAround_48 : decode cX3_seamsAround 48 = .ok (.iaload, 1) := by decide +kernel
theorem dX3_seamsAround_49 : decode cX3_seamsAround 49 = .ok (.invokestatic 59, 3) := by decide +kernel
theorem dX3_seamsAround_52 : decode cX3_seamsAround 52 = .ok (.iadd, 1) := by decide +kernel
theorem dX3_seamsAround_53 : decode cX3_seamsAround 53 = .ok (.istore_n 3, 1) := by decide +kernel
theorem dX3_seamsAround_54 : decode cX3_seamsAround 54 = .ok (.iload_n 1, 1) := by decide +kernel
theorem dX3_seamsAround_55 : decode cX3_seamsAround 55 = .ok (.bipush 6, 2) := by decide +kernel
theorem dX3_seamsAround_57 : decode cX3_seamsAround 57 = .ok (.if_icmp .lt 19, 3) := by decide +kernel
theorem dX3_seamsAround_60 : decode cX3_seamsAround 60 = .ok (.iload_n 3, 1) := by decide +kernel
theorem dX3_seamsAround_61 : decode cX3_seamsAround 61 = .ok (.iload_n 2, 1) := by decide +kernel
theorem dX3_seamsAround_62 : decode cX3_seamsAround 62 = .ok (.aload_n 0, 1) := by decide +kernel
theorem dX3_seamsAround_63 : decode cX3_seamsAround 63 = .ok (.getfield 24, 3) := by decide +kernel
theorem dX3_seamsAround_66 : decode cX3_seamsAround 66 = .ok (.iload_n 1, 1) := by decide +kernel
theorem dX3_seamsAround_67 : decode cX3_seamsAround 67 = .ok (.bipush 6, 2) := by decide +kernel
theorem dX3_seamsAround_69 : decode cX3_seamsAround 69 = .ok (.isub, 1) := by decide +kernel
theorem dX3_seamsAround_70 : decode cX3_seamsAround 70 = .ok (.iaload, 1) := by decide +kernel
theorem dX3_seamsAround_71 : decode cX3_seamsAround 71 = .ok (.invokestatic 59, 3) := by decide +kernel
theorem dX3_seamsAround_74 : decode cX3_seamsAround 74 = .ok (.iadd, 1) := by decide +kernel
theorem dX3_seamsAround_75 : decode cX3_seamsAround 75 = .ok (.istore_n 3, 1) := by decide +kernel
theorem dX3_seamsAround_76 : decode cX3_seamsAround 76 = .ok (.iload_n 1, 1) := by decide +kernel
theorem dX3_seamsAround_77 : decode cX3_seamsAround 77 = .ok (.bipush 6, 2) := by decide +kernel
theorem dX3_seamsAround_79 : decode cX3_seamsAround 79 = .ok (.iadd, 1) := by decide +kernel
theorem dX3_seamsAround_80 : decode cX3_seamsAround 80 = .ok (.bipush 36, 2) := by decide +kernel
theorem dX3_seamsAround_82 : decode cX3_seamsAround 82 = .ok (.if_icmp .ge 19, 3) := by decide +kernel
theorem dX3_seamsAround_85 : decode cX3_seamsAround 85 = .ok (.iload_n 3, 1) := by decide +kernel
theorem dX3_seamsAround_86 : decode cX3_seamsAround 86 = .ok (.iload_n 2, 1) := by decide +kernel
theorem dX3_seamsAround_87 : decode cX3_seamsAround 87 = .ok (.aload_n 0, 1) := by decide +kernel
theorem dX3_seamsAround_88 : decode cX3_seamsAround 88 = .ok (.getfield 24, 3) := by decide +kernel
theorem dX3_seamsAround_91 : decode cX3_seamsAround 91 = .ok (.iload_n 1, 1) := by decide +kernel
theorem dX3_seamsAround_92 : decode cX3_seamsAround 92 = .ok (.bipush 6, 2) := by decide +kernel
theorem dX3_seamsAround_94 : decode cX3_seamsAround 94 = .ok (.iadd, 1) := by decide +kernel
theorem dX3_seamsAround_95 : decode cX3_seamsAround 95 = .ok (.iaload, 1) := by decide +kernel
theorem dX3_seamsAround_96 : decode cX3_seamsAround 96 = .ok (.invokestatic 59, 3) := by decide +kernel
theorem dX3_seamsAround_99 : decode cX3_seamsAround 99 = .ok (.iadd, 1) := by decide +kernel
theorem dX3_seamsAround_100 : decode cX3_seamsAround 100 = .ok (.istore_n 3, 1) := by decide +kernel
theorem dX3_seamsAround_101 : decode cX3_seamsAround 101 = .ok (.iload_n 3, 1) := by decide +kernel
theorem dX3_seamsAround_102 : decode cX3_seamsAround 102 = .ok (.ireturn, 1) := by decide +kernel
theorem dX4_init_0 : decode cX4_init 0 = .ok (.aload_n 0, 1) := by decide +kernel
theorem dX4_init_1 : decode cX4_init 1 = .ok (.invokespecial 3, 3) := by decide +kernel
theorem dX4_init_4 : decode cX4_init 4 = .ok (.aload_n 0, 1) := by decide +kernel
theorem dX4_init_5 : decode cX4_init 5 = .ok (.sipush 400, 3) := by decide +kernel
theorem dX4_init_8 : decode cX4_init 8 = .ok (.newarray .int, 2) := by decide +kernel
theorem dX4_init_10 : decode cX4_init 10 = .ok (.putfield 9, 3) := by decide +kernel
theorem dX4_init_13 : decode cX4_init 13 = .ok (.aload_n 0, 1) := by decide +kernel
theorem dX4_init_14 : decode cX4_init 14 = .ok (.bipush 13, 2) := by decide +kernel
theorem dX4_init_16 : decode cX4_init 16 = .ok (.newarray .int, 2) := by decide +kernel
theorem dX4_init_18 : decode cX4_init 18 = .ok (.putfield 15, 3) := by decide +kernel
theorem dX4_init_21 : decode cX4_init 21 = .ok (.aload_n 0, 1) := by decide +kernel
theorem dX4_init_22 : decode cX4_init 22 = .ok (.aload_n 0, 1) := by decide +kernel
theorem dX4_init_23 : decode cX4_init 23 = .ok (.getfield 9, 3) := by decide +kernel
theorem dX4_init_26 : decode cX4_init 26 = .ok (.putfield 18, 3) := by decide +kernel
theorem dX4_init_29 : decode cX4_init 29 = .ok (.aload_n 0, 1) := by decide +kernel
theorem dX4_init_30 : decode cX4_init 30 = .ok (.iconst 0, 1) := by decide +kernel
theorem dX4_init_31 : decode cX4_init 31 = .ok (.putfield 21, 3) := by decide +kernel
theorem dX4_init_34 : decode cX4_init 34 = .ok (.aload_n 0, 1) := by decide +kernel
theorem dX4_init_35 : decode cX4_init 35 = .ok (.iconst 0, 1) := by decide +kernel
theorem dX4_init_36 : decode cX4_init 36 = .ok (.putfield 25, 3) := by decide +kernel
theorem dX4_init_39 : decode cX4_init 39 = .ok (.aload_n 0, 1) := by decide +kernel
theorem dX4_init_40 : decode cX4_init 40 = .ok (.iconst 0, 1) := by decide +kernel
theorem dX4_init_41 : decode cX4_init 41 = .ok (.putfield 28, 3) := by decide +kernel
theorem dX4_init_44 : decode cX4_init 44 = .ok (.aload_n 0, 1) := by decide +kernel
theorem dX4_init_45 : decode cX4_init 45 = .ok (.sipush 259, 3) := by decide +kernel
theorem dX4_init_48 : decode cX4_init 48 = .ok (.putfield 31, 3) := by decide +kernel
theorem dX4_init_51 : decode cX4_init 51 = .ok (.aload_n 0, 1) := by decide +kernel
theorem dX4_init_52 : decode cX4_init 52 = .ok (.iconst 0, 1) := by decide +kernel
theorem dX4_init_53 : decode cX4_init 53 = .ok (.putfield 34, 3) := by decide +kernel
theorem dX4_init_56 : decode cX4_init 56 = .ok (.aload_n 0, 1) := by decide +kernel
theorem dX4_init_57 : decode cX4_init 57 = .ok (.iconst 0, 1) := by decide +kernel
theorem dX4_init_58 : decode cX4_init 58 = .ok (.putfield 37, 3) := by decide +kernel
theorem dX4_init_61 : decode cX4_init 61 = .ok (.aload_n 0, 1) := by decide +kernel
theorem dX4_init_62 : decode cX4_init 62 = .ok (.iconst (-1), 1) := by decide +kernel
theorem dX4_init_63 : decode cX4_init 63 = .ok (.putfield 40, 3) := by decide +kernel
theorem dX4_init_66 : decode cX4_init 66 = .ok (.return_, 1) := by decide +kernel
theorem dX4_readLaw_0 : decode cX4_readLaw 0 = .ok (.aload_n 0, 1) := by decide +kernel
theorem dX4_readLaw_1 : decode cX4_readLaw 1 = .ok (.aload_n 1, 1) := by decide +kernel
theorem dX4_readLaw_2 : decode cX4_readLaw 2 = .ok (.putfield 18, 3) := by decide +kernel
theorem dX4_readLaw_5 : decode cX4_readLaw 5 = .ok (.aload_n 0, 1) := by decide +kernel
theorem dX4_readLaw_6 : decode cX4_readLaw 6 = .ok (.iload_n 2, 1) := by decide +kernel
theorem dX4_readLaw_7 : decode cX4_readLaw 7 = .ok (.aload_n 1, 1) := by decide +kernel
theorem dX4_readLaw_8 : decode cX4_readLaw 8 = .ok (.arraylength, 1) := by decide +kernel
theorem dX4_readLaw_9 : decode cX4_readLaw 9 = .ok (.invokestatic 43, 3) := by decide +kernel
theorem dX4_readLaw_12 : decode cX4_readLaw 12 = .ok (.putfield 21, 3) := by decide +kernel
theorem dX4_readLaw_15 : decode cX4_readLaw 15 = .ok (.aload_n 0, 1) := by decide +kernel
theorem dX4_readLaw_16 : decode cX4_readLaw 16 = .ok (.iconst 0, 1) := by decide +kernel
theorem dX4_readLaw_17 : decode cX4_readLaw 17 = .ok (.putfield 28, 3) := by decide +kernel
theorem dX4_readLaw_20 : decode cX4_readLaw 20 = .ok (.aload_n 0, 1) := by decide +kernel
theorem dX4_readLaw_21 : decode cX4_readLaw 21 = .ok (.iconst 0, 1) := by decide +kernel
theorem dX4_readLaw_22 : decode cX4_readLaw 22 = .ok (.putfield 34, 3) := by decide +kernel
theorem dX4_readLaw_25 : decode cX4_readLaw 25 = .ok (.aload_n 0, 1) := by decide +kernel
theorem dX4_readLaw_26 : decode cX4_readLaw 26 = .ok (.iconst 0, 1) := by decide +kernel
theorem dX4_readLaw_27 : decode cX4_readLaw 27 = .ok (.putfield 37, 3) := by decide +kernel
theorem dX4_readLaw_30 : decode cX4_readLaw 30 = .ok (.aload_n 0, 1) := by decide +kernel
theorem dX4_readLaw_31 : decode cX4_readLaw 31 = .ok (.iconst (-1), 1) := by decide +kernel
theorem dX4_readLaw_32 : decode cX4_readLaw 32 = .ok (.putfield 40, 3) := by decide +kernel
theorem dX4_readLaw_35 : decode cX4_readLaw 35 = .ok (.aload_n 0, 1) := by decide +kernel
theorem dX4_readLaw_36 : decode cX4_readLaw 36 = .ok (.invokevirtual 49, 3) := by decide +kernel
theorem dX4_readLaw_39 : decode cX4_readLaw 39 = .ok (.iconst 0, 1) := by decide +kernel
theorem dX4_readLaw_40 : decode cX4_readLaw 40 = .ok (.istore_n 3, 1) := by decide +kernel
theorem dX4_readLaw_41 : decode cX4_readLaw 41 = .ok (.iload_n 3, 1) := by decide +kernel
theorem dX4_readLaw_42 : decode cX4_readLaw 42 = .ok (.bipush 12, 2) := by decide +kernel
theorem dX4_readLaw_44 : decode cX4_readLaw 44 = .ok (.if_icmp .ge 121, 3) := by decide +kernel
theorem dX4_readLaw_47 : decode cX4_readLaw 47 = .ok (.aload_n 0, 1) := by decide +kernel
theorem dX4_readLaw_48 : decode cX4_readLaw 48 = .ok (.getfield 15, 3) := by decide +kernel
theorem dX4_readLaw_51 : decode cX4_readLaw 51 = .ok (.iload_n 3, 1) := by decide +kernel
theorem dX4_readLaw_52 : decode cX4_readLaw 52 = .ok (.aload_n 0, 1) := by decide +kernel
theorem dX4_readLaw_53 : decode cX4_readLaw 53 = .ok (.getfield 34, 3) := by decide +kernel
theorem dX4_readLaw_56 : decode cX4_readLaw 56 = .ok (.iastore, 1) := by decide +kernel
theorem dX4_readLaw_57 : decode cX4_readLaw 57 = .ok (.aload_n 0, 1) := by decide +kernel
theorem dX4_readLaw_58 : decode cX4_readLaw 58 = .ok (.ldc 52, 2) := by decide +kernel
theorem dX4_readLaw_60 : decode cX4_readLaw 60 = .ok (.invokevirtual 54, 3) := by decide +kernel
theorem dX4_readLaw_63 : decode cX4_readLaw 63 = .ok (.ifCond .ne 7, 3) := by decide +kernel
theorem dX4_readLaw_66 : decode cX4_readLaw 66 = .ok (.aload_n 0, 1) := by decide +kernel
theorem dX4_readLaw_67 : decode cX4_readLaw 67 = .ok (.invokevirtual 58, 3) := by decide +kernel
theorem dX4_readLaw_70 : decode cX4_readLaw 70 = .ok (.aload_n 0, 1) := by decide +kernel
theorem dX4_readLaw_71 : decode cX4_readLaw 71 = .ok (.iconst 0, 1) := by decide +kernel
theorem dX4_readLaw_72 : decode cX4_readLaw 72 = .ok (.invokevirtual 61, 3) := by decide +kernel
theorem dX4_readLaw_75 : decode cX4_readLaw 75 = .ok (.aload_n 0, 1) := by decide +kernel
theorem dX4_readLaw_76 : decode cX4_readLaw 76 = .ok (.ldc 65, 2) := by decide +kernel
theorem dX4_readLaw_78 : decode cX4_readLaw 78 = .ok (.invokevirtual 54, 3) := by decide +kernel
theorem dX4_readLaw_81 : decode cX4_readLaw 81 = .ok (.ifCond .eq 8, 3) := by decide +kernel
theorem dX4_readLaw_84 : decode cX4_readLaw 84 = .ok (.aload_n 0, 1) := by decide +kernel
theorem dX4_readLaw_85 : decode cX4_readLaw 85 = .ok (.iconst 0, 1) := by decide +kernel
theorem dX4_readLaw_86 : decode cX4_readLaw 86 = .ok (.invokevirtual 67, 3) := by decide +kernel
theorem dX4_readLaw_89 : decode cX4_readLaw 89 = .ok (.aload_n 0, 1) := by decide +kernel
theorem dX4_readLaw_90 : decode cX4_readLaw 90 = .ok (.getfield 15, 3) := by decide +kernel
theorem dX4_readLaw_93 : decode cX4_readLaw 93 = .ok (.iload_n 3, 1) := by decide +kernel
theorem dX4_readLaw_94 : decode cX4_readLaw 94 = .ok (.iconst 1, 1) := by decide +kernel
theorem dX4_readLaw_95 : decode cX4_readLaw 95 = .ok (.iadd, 1) := by decide +kernel
theorem dX4_readLaw_96 : decode cX4_readLaw 96 = .ok (.aload_n 0, 1) := by decide +kernel
theorem dX4_readLaw_97 : decode cX4_readLaw 97 = .ok (.getfield 34, 3) := by decide +kernel
theorem dX4_readLaw_100 : decode cX4_readLaw 100 = .ok (.iastore, 1) := by decide +kernel
theorem dX4_readLaw_101 : decode cX4_readLaw 101 = .ok (.aload_n 0, 1) := by decide +kernel
theorem dX4_readLaw_102 : decode cX4_readLaw 102 = .ok (.getfield 31, 3) := by decide +kernel
theorem dX4_readLaw_105 : decode cX4_readLaw 105 = .ok (.sipush 258, 3) := by decide +kernel
theorem dX4_readLaw_108 : decode cX4_readLaw 108 = .ok (.if_icmp .ne 35, 3) := by decide +kernel
theorem dX4_readLaw_111 : decode cX4_readLaw 111 = .ok (.new 70, 3) := by decide +kernel
theorem dX4_readLaw_114 : decode cX4_readLaw 114 = .ok (.dup, 1) := by decide +kernel
theorem dX4_readLaw_115 : decode cX4_readLaw 115 = .ok (.iload_n 3, 1) := by decide +kernel
theorem dX4_readLaw_116 : decode cX4_readLaw 116 = .ok (.iconst 1, 1) := by decide +kernel
theorem dX4_readLaw_117 : decode cX4_readLaw 117 = .ok (.iadd, 1) := by decide +kernel
theorem dX4_readLaw_118 : decode cX4_readLaw 118 = .ok (.aload_n 0, 1) := by decide +kernel
theorem dX4_readLaw_119 : decode cX4_readLaw 119 = .ok (.getfield 15, 3) := by decide +kernel
theorem dX4_readLaw_122 : decode cX4_readLaw 122 = .ok (.iload_n 3, 1) := by decide +kernel
theorem dX4_readLaw_123 : decode cX4_readLaw 123 = .ok (.iconst 2, 1) := by decide +kernel
theorem dX4_readLaw_124 : decode cX4_readLaw 124 = .ok (.iadd, 1) := by decide +kernel
theorem dX4_readLaw_125 : decode cX4_readLaw 125 = .ok (.invokestatic 72, 3) := by decide +kernel
theorem dX4_readLaw_128 : decode cX4_readLaw 128 = .ok (.aload_n 0, 1) := by decide +kernel
theorem dX4_readLaw_129 : decode cX4_readLaw 129 = .ok (.getfield 9, 3) := by decide +kernel
theorem dX4_readLaw_132 : decode cX4_readLaw 132 = .ok (.aload_n 0, 1) := by decide +kernel
theorem dX4_readLaw_133 : decode cX4_readLaw 133 = .ok (.getfield 34, 3) := by decide +kernel
theorem dX4_readLaw_136 : decode cX4_readLaw 136 = .ok (.invokestatic 72, 3) := by decide +kernel
theorem dX4_readLaw_139 : decode cX4_readLaw 139 = .ok (.invokespecial 78, 3) := by decide +kernel
theorem dX4_readLaw_142 : decode cX4_readLaw 142 = .ok (.areturn, 1) := by decide +kernel
theorem dX4_readLaw_143 : decode cX4_readLaw 143 = .ok (.aload_n 0, 1) := by decide +kernel
theorem dX4_readLaw_144 : decode cX4_readLaw 144 = .ok (.bipush 59, 2) := by decide +kernel
theorem dX4_readLaw_146 : decode cX4_readLaw 146 = .ok (.invokevirtual 81, 3) := by decide +kernel
theorem dX4_readLaw_149 : decode cX4_readLaw 149 = .ok (.aload_n 0, 1) := by decide +kernel
theorem dX4_readLaw_150 : decode cX4_readLaw 150 = .ok (.getfield 40, 3) := by decide +kernel
theorem dX4_readLaw_153 : decode cX4_readLaw 153 = .ok (.iconst (-1), 1) := by decide +kernel
theorem dX4_readLaw_154 : decode cX4_readLaw 154 = .ok (.if_icmp .eq 5, 3) := by decide +kernel
theorem dX4_readLaw_157 : decode cX4_readLaw 157 = .ok (.aconst_null, 1) := by decide +kernel
theorem dX4_readLaw_158 : decode cX4_readLaw 158 = .ok (.areturn, 1) := by decide +kernel
theorem dX4_readLaw_159 : decode cX4_readLaw 159 = .ok (.iinc 3 1, 3) := by decide +kernel
theorem dX4_readLaw_162 : decode cX4_readLaw 162 = .ok (.goto (-121), 3) := by decide +kernel
theorem dX4_readLaw_165 : decode cX4_readLaw 165 = .ok (.aload_n 0, 1) := by decide +kernel
theorem dX4_readLaw_166 : decode cX4_readLaw 166 = .ok (.invokevirtual 58, 3) := by decide +kernel
theorem dX4_readLaw_169 : decode cX4_readLaw 169 = .ok (.aconst_null, 1) := by decide +kernel
theorem dX4_readLaw_170 : decode cX4_readLaw 170 = .ok (.areturn, 1) := by decide +kernel
theorem dX4_readTest_0 : decode cX4_readTest 0 = .ok (.iconst (-1), 1) := by decide +kernel
theorem dX4_readTest_1 : decode cX4_readTest 1 = .ok (.istore_n 2, 1) := by decide +kernel
theorem dX4_readTest_2 : decode cX4_readTest 2 = .ok (.aload_n 0, 1) := by decide +kernel
theorem dX4_readTest_3 : decode cX4_readTest 3 = .ok (.iload_n 1, 1) := by decide +kernel
theorem dX4_readTest_4 : decode cX4_readTest 4 = .ok (.invokevirtual 84, 3) := by decide +kernel
theorem dX4_readTest_7 : decode cX4_readTest 7 = .ok (.iconst 0, 1) := by decide +kernel
theorem dX4_readTest_8 : decode cX4_readTest 8 = .ok (.istore_n 3, 1) := by decide +kernel
theorem dX4_readTest_9 : decode cX4_readTest 9 = .ok (.iload_n 3, 1) := by decide +kernel
theorem dX4_readTest_10 : decode cX4_readTest 10 = .ok (.sipush 400, 3) := by decide +kernel
theorem dX4_readTest_13 : decode cX4_readTest 13 = .ok (.if_icmp .ge 80, 3) := by decide +kernel
theorem dX4_readTest_16 : decode cX4_readTest 16 = .ok (.aload_n 0, 1) := by decide +kernel
theorem dX4_readTest_17 : decode cX4_readTest 17 = .ok (.ldc 87, 2) := by decide +kernel
theorem dX4_readTest_19 : decode cX4_readTest 19 = .ok (.invokevirtual 54, 3) := by decide +kernel
theorem dX4_readTest_22 : decode cX4_readTest 22 = .ok (.ifCond .eq 30, 3) := by decide +kernel
theorem dX4_readTest_25 : decode cX4_readTest 25 = .ok (.aload_n 0, 1) := by decide +kernel
theorem dX4_readTest_26 : decode cX4_readTest 26 = .ok (.getfield 34, 3) := by decide +kernel
theorem dX4_readTest_29 : decode cX4_readTest 29 = .ok (.istore 4, 2) := by decide +kernel
theorem dX4_readTest_31 : decode cX4_readTest 31 = .ok (.aload_n 0, 1) := by decide +kernel
theorem dX4_readTest_32 : decode cX4_readTest 32 = .ok (.bipush 10, 2) := by decide +kernel
theorem dX4_readTest_34 : decode cX4_readTest 34 = .ok (.iconst 0, 1) := by decide +kernel
theorem dX4_readTest_35 : decode cX4_readTest 35 = .ok (.invokevirtual 89, 3) := by decide +kernel
theorem dX4_readTest_38 : decode cX4_readTest 38 = .ok (.aload_n 0, 1) := by decide +kernel
theorem dX4_readTest_39 : decode cX4_readTest 39 = .ok (.iload_n 1, 1) := by decide +kernel
theorem dX4_readTest_40 : decode cX4_readTest 40 = .ok (.invokevirtual 84, 3) := by decide +kernel
theorem dX4_readTest_43 : decode cX4_readTest 43 = .ok (.aload_n 0, 1) := by decide +kernel
theorem dX4_readTest_44 : decode cX4_readTest 44 = .ok (.iload 4, 2) := by decide +kernel
theorem dX4_readTest_46 : decode cX4_readTest 46 = .ok (.invokevirtual 93, 3) := by decide +kernel
theorem dX4_readTest_49 : decode cX4_readTest 49 = .ok (.goto 38, 3) := by decide +kernel
theorem dX4_readTest_52 : decode cX4_readTest 52 = .ok (.aload_n 0, 1) := by decide +kernel
theorem dX4_readTest_53 : decode cX4_readTest 53 = .ok (.ldc 96, 2) := by decide +kernel
theorem dX4_readTest_55 : decode cX4_readTest 55 = .ok (.invokevirtual 98, 3) := by decide +kernel
theorem dX4_readTest_58 : decode cX4_readTest 58 = .ok (.ifCond .eq 35, 3) := by decide +kernel
theorem dX4_readTest_61 : decode cX4_readTest 61 = .ok (.aload_n 0, 1) := by decide +kernel
theorem dX4_readTest_62 : decode cX4_readTest 62 = .ok (.invokevirtual 49, 3) := by decide +kernel
theorem dX4_readTest_65 : decode cX4_readTest 65 = .ok (.aload_n 0, 1) := by decide +kernel
theorem dX4_readTest_66 : decode cX4_readTest 66 = .ok (.iload_n 2, 1) := by decide +kernel
theorem dX4_readTest_67 : decode cX4_readTest 67 = .ok (.invokevirtual 93, 3) := by decide +kernel
theorem dX4_readTest_70 : decode cX4_readTest 70 = .ok (.aload_n 0, 1) := by decide +kernel
theorem dX4_readTest_71 : decode cX4_readTest 71 = .ok (.getfield 34, 3) := by decide +kernel
theorem dX4_readTest_74 : decode cX4_readTest 74 = .ok (.istore_n 2, 1) := by decide +kernel
theorem dX4_readTest_75 : decode cX4_readTest 75 = .ok (.aload_n 0, 1) := by decide +kernel
theorem dX4_readTest_76 : decode cX4_readTest 76 = .ok (.bipush 11, 2) := by decide +kernel
theorem dX4_readTest_78 : decode cX4_readTest 78 = .ok (.iconst 0, 1) := by decide +kernel
theorem dX4_readTest_79 : decode cX4_readTest 79 = .ok (.invokevirtual 89, 3) := by decide +kernel
theorem dX4_readTest_82 : decode cX4_readTest 82 = .ok (.aload_n 0, 1) := by decide +kernel
theorem dX4_readTest_83 : decode cX4_readTest 83 = .ok (.iload_n 1, 1) := by decide +kernel
theorem dX4_readTest_84 : decode cX4_readTest 84 = .ok (.invokevirtual 84, 3) := by decide +kernel
theorem dX4_readTest_87 : decode cX4_readTest 87 = .ok (.iinc 3 1, 3) := by decide +kernel
theorem dX4_readTest_90 : decode cX4_readTest 90 = .ok (.goto (-81), 3) := by decide +kernel
theorem dX4_readTest_93 : decode cX4_readTest 93 = .ok (.aload_n 0, 1) := by decide +kernel
theorem dX4_readTest_94 : decode cX4_readTest 94 = .ok (.iload_n 2, 1) := by decide +kernel
theorem dX4_readTest_95 : decode cX4_readTest 95 = .ok (.invokevirtual 93, 3) := by decide +kernel
theorem dX4_readTest_98 : decode cX4_readTest 98 = .ok (.return_, 1) := by decide +kernel
theorem dX4_readPlain_0 : decode cX4_readPlain 0 = .ok (.iconst 0, 1) := by decide +kernel
theorem dX4_readPlain_1 : decode cX4_readPlain 1 = .ok (.istore_n 2, 1) := by decide +kernel
theorem dX4_readPlain_2 : decode cX4_readPlain 2 = .ok (.iconst 0, 1) := by decide +kernel
theorem dX4_readPlain_3 : decode cX4_readPlain 3 = .ok (.istore_n 3, 1) := by decide +kernel
theorem dX4_readPlain_4 : decode cX4_readPlain 4 = .ok (.iload_n 3, 1) := by decide +kernel
theorem dX4_readPlain_5 : decode cX4_readPlain 5 = .ok (.sipush 400, 3) := by decide +kernel
theorem dX4_readPlain_8 : decode cX4_readPlain 8 = .ok (.if_icmp .ge 28, 3) := by decide +kernel
theorem dX4_readPlain_11 : decode cX4_readPlain 11 = .ok (.aload_n 0, 1) := by decide +kernel
theorem dX4_readPlain_12 : decode cX4_readPlain 12 = .ok (.ldc 101, 2) := by decide +kernel
theorem dX4_readPlain_14 : decode cX4_readPlain 14 = .ok (.invokevirtual 54, 3) := by decide +kernel
theorem dX4_readPlain_17 : decode cX4_readPlain 17 = .ok (.ifCond .eq 19, 3) := by decide +kernel
theorem dX4_readPlain_20 : decode cX4_readPlain 20 = .ok (.iload_n 2, 1) := by decide +kernel
theorem dX4_readPlain_21 : decode cX4_readPlain 21 = .ok (.ifCond .ne 7, 3) := by decide +kernel
theorem dX4_readPlain_24 : decode cX4_readPlain 24 = .ok (.iconst 1, 1) := by decide +kernel
theorem dX4_readPlain_25 : decode cX4_readPlain 25 = .ok (.goto 4, 3) := by decide +kernel
theorem dX4_readPlain_28 : decode cX4_readPlain 28 = .ok (.iconst 0, 1) := by decide +kernel
theorem dX4_readPlain_29 : decode cX4_readPlain 29 = .ok (.istore_n 2, 1) := by decide +kernel
theorem dX4_readPlain_30 : decode cX4_readPlain 30 = .ok (.iinc 3 1, 3) := by decide +kernel
theorem dX4_readPlain_33 : decode cX4_readPlain 33 = .ok (.goto (-29), 3) := by decide +kernel
theorem dX4_readPlain_36 : decode cX4_readPlain 36 = .ok (.aload_n 0, 1) := by decide +kernel
theorem dX4_readPlain_37 : decode cX4_readPlain 37 = .ok (.getfield 31, 3) := by decide +kernel
theorem dX4_readPlain_40 : decode cX4_readPlain 40 = .ok (.bipush 40, 2) := by decide +kernel
theorem dX4_readPlain_42 : decode cX4_readPlain 42 = .ok (.if_icmp .ne 29, 3) := by decide +kernel
theorem dX4_readPlain_45 : decode cX4_readPlain 45 = .ok (.iload_n 1, 1) := by decide +kernel
theorem dX4_readPlain_46 : decode cX4_readPlain 46 = .ok (.bipush 8, 2) := by decide +kernel
theorem dX4_readPlain_48 : decode cX4_readPlain 48 = .ok (.if_icmp .ge 23, 3) := by decide +kernel
theorem dX4_readPlain_51 : decode cX4_readPlain 51 = .ok (.aload_n 0, 1) := by decide +kernel
theorem dX4_readPlain_52 : decode cX4_readPlain 52 = .ok (.invokevirtual 49, 3) := by decide +kernel
theorem dX4_readPlain_55 : decode cX4_readPlain 55 = .ok (.aload_n 0, 1) := by decide +kernel
theorem dX4_readPlain_56 : decode cX4_readPlain 56 = .ok (.iload_n 1, 1) := by decide +kernel
theorem dX4_readPlain_57 : decode cX4_readPlain 57 = .ok (.iconst 1, 1) := by decide +kernel
theorem dX4_readPlain_58 : decode cX4_readPlain 58 = .ok (.iadd, 1) := by decide +kernel
theorem dX4_readPlain_59 : decode cX4_readPlain 59 = .ok (.invokevirtual 67, 3) := by decide +kernel
theorem dX4_readPlain_62 : decode cX4_readPlain 62 = .ok (.aload_n 0, 1) := by decide +kernel
theorem dX4_readPlain_63 : decode cX4_readPlain 63 = .ok (.bipush 41, 2) := by decide +kernel
theorem dX4_readPlain_65 : decode cX4_readPlain 65 = .ok (.invokevirtual 81, 3) := by decide +kernel
theorem dX4_readPlain_68 : decode cX4_readPlain 68 = .ok (.goto 40, 3) := by decide +kernel
theorem dX4_readPlain_71 : decode cX4_readPlain 71 = .ok (.aload_n 0, 1) := by decide +kernel
theorem dX4_readPlain_72 : decode cX4_readPlain 72 = .ok (.iload_n 1, 1) := by decide +kernel
theorem dX4_readPlain_73 : decode cX4_readPlain 73 = .ok (.invokevirtual 61, 3) := by decide +kernel
theorem dX4_readPlain_76 : decode cX4_readPlain 76 = .ok (.aload_n 0, 1) := by decide +kernel
theorem dX4_readPlain_77 : decode cX4_readPlain 77 = .ok (.invokevirtual 103, 3) := by decide +kernel
theorem dX4_readPlain_80 : decode cX4_readPlain 80 = .ok (.istore_n 3, 1) := by decide +kernel
theorem dX4_readPlain_81 : decode cX4_readPlain 81 = .ok (.iload_n 3, 1) := by decide +kernel
theorem dX4_readPlain_82 : decode cX4_readPlain 82 = .ok (.iconst (-1), 1) := by decide +kernel
theorem dX4_readPlain_83 : decode cX4_readPlain 83 = .ok (.if_icmp .ne 10, 3) := by decide +kernel
theorem dX4_readPlain_86 : decode cX4_readPlain 86 = .ok (.aload_n 0, 1) := by decide +kernel
theorem dX4_readPlain_87 : decode cX4_readPlain 87 = .ok (.invokevirtual 58, 3) := by decide +kernel
theorem dX4_readPlain_90 : decode cX4_readPlain 90 = .ok (.goto 7, 3) := by decide +kernel
theorem dX4_readPlain_93 : decode cX4_readPlain 93 = .ok (.aload_n 0, 1) := by decide +kernel
theorem dX4_readPlain_94 : decode cX4_readPlain 94 = .ok (.invokevirtual 49, 3) := by decide +kernel
theorem dX4_readPlain_97 : decode cX4_readPlain 97 = .ok (.aload_n 0, 1) := by decide +kernel
theorem dX4_readPlain_98 : decode cX4_readPlain 98 = .ok (.iload_n 1, 1) := by decide +kernel
theorem dX4_readPlain_99 : decode cX4_readPlain 99 = .ok (.invokevirtual 61, 3) := by decide +kernel
theorem dX4_readPlain_102 : decode cX4_readPlain 102 = .ok (.aload_n 0, 1) := by decide +kernel
theorem dX4_readPlain_103 : decode cX4_readPlain 103 = .ok (.iload_n 3, 1) := by decide +kernel
theorem dX4_readPlain_104 : decode cX4_readPlain 104 = .ok (.iconst 0, 1) := by decide +kernel
theorem dX4_readPlain_105 : decode cX4_readPlain 105 = .ok (.invokevirtual 89, 3) := by decide +kernel
theorem dX4_readPlain_108 : decode cX4_readPlain 108 = .ok (.iload_n 2, 1) := by decide +kernel
theorem dX4_readPlain_109 : decode cX4_readPlain 109 = .ok (.ifCond .eq 10, 3) := by decide +kernel
theorem dX4_readPlain_112 : decode cX4_readPlain 112 = .ok (.aload_n 0, 1) := by decide +kernel
theorem dX4_readPlain_113 : decode cX4_readPlain 113 = .ok (.bipush 9, 2) := by decide +kernel
theorem dX4_readPlain_115 : decode cX4_readPlain 115 = .ok (.iconst 0, 1) := by decide +kernel
theorem dX4_readPlain_116 : decode cX4_readPlain 116 = .ok (.invokevirtual 89, 3) := by decide +kernel
theorem dX4_readPlain_119 : decode cX4_readPlain 119 = .ok (.return_, 1) := by decide +kernel
theorem dX4_readSum_0 : decode cX4_readSum 0 = .ok (.iconst (-1), 1) := by decide +kernel
theorem dX4_readSum_1 : decode cX4_readSum 1 = .ok (.istore_n 2, 1) := by decide +kernel
theorem dX4_readSum_2 : decode cX4_readSum 2 = .ok (.aload_n 0, 1) := by decide +kernel
theorem dX4_readSum_3 : decode cX4_readSum 3 = .ok (.iload_n 1, 1) := by decide +kernel
theorem dX4_readSum_4 : decode cX4_readSum 4 = .ok (.invokevirtual 107, 3) := by decide +kernel
theorem dX4_readSum_7 : decode cX4_readSum 7 = .ok (.iconst 0, 1) := by decide +kernel
theorem dX4_readSum_8 : decode cX4_readSum 8 = .ok (.istore_n 3, 1) := by decide +kernel
theorem dX4_readSum_9 : decode cX4_readSum 9 = .ok (.iload_n 3, 1) := by decide +kernel
theorem dX4_readSum_10 : decode cX4_readSum 10 = .ok (.sipush 400, 3) := by decide +kernel
theorem dX4_readSum_13 : decode cX4_readSum 13 = .ok (.if_icmp .ge 74, 3) := by decide +kernel
theorem dX4_readSum_16 : decode cX4_readSum 16 = .ok (.aload_n 0, 1) := by decide +kernel
theorem dX4_readSum_17 : decode cX4_readSum 17 = .ok (.invokevirtual 110, 3) := by decide +kernel
theorem dX4_readSum_20 : decode cX4_readSum 20 = .ok (.istore 4, 2) := by decide +kernel
theorem dX4_readSum_22 : decode cX4_readSum 22 = .ok (.iload 4, 2) := by decide +kernel
theorem dX4_readSum_24 : decode cX4_readSum 24 = .ok (.iconst (-1), 1) := by decide +kernel
theorem dX4_readSum_25 : decode cX4_readSum 25 = .ok (.if_icmp .ne 6, 3) := by decide +kernel
theorem dX4_readSum_28 : decode cX4_readSum 28 = .ok (.goto 59, 3) := by decide +kernel
theorem dX4_readSum_31 : decode cX4_readSum 31 = .ok (.aload_n 0, 1) := by decide +kernel
theorem dX4_readSum_32 : decode cX4_readSum 32 = .ok (.invokevirtual 49, 3) := by decide +kernel
theorem dX4_readSum_35 : decode cX4_readSum 35 = .ok (.iload 4, 2) := by decide +kernel
theorem dX4_readSum_37 : decode cX4_readSum 37 = .ok (.iconst 2, 1) := by decide +kernel
theorem dX4_readSum_38 : decode cX4_readSum 38 = .ok (.if_icmp .eq 9, 3) := by decide +kernel
theorem dX4_readSum_41 : decode cX4_readSum 41 = .ok (.iload 4, 2) := by decide +kernel
theorem dX4_readSum_43 : decode cX4_readSum 43 = .ok (.iconst 3, 1) := by decide +kernel
theorem dX4_readSum_44 : decode cX4_readSum 44 = .ok (.if_icmp .ne 25, 3) := by decide +kernel
theorem dX4_readSum_47 : decode cX4_readSum 47 = .ok (.iload_n 2, 1) := by decide +kernel
theorem dX4_readSum_48 : decode cX4_readSum 48 = .ok (.iconst (-1), 1) := by decide +kernel
theorem dX4_readSum_49 : decode cX4_readSum 49 = .ok (.if_icmp .eq 9, 3) := by decide +kernel
theorem dX4_readSum_52 : decode cX4_readSum 52 = .ok (.aload_n 0, 1) := by decide +kernel
theorem dX4_readSum_53 : decode cX4_readSum 53 = .ok (.iload_n 2, 1) := by decide +kernel
theorem dX4_readSum_54 : decode cX4_readSum 54 = .ok (.iconst 0, 1) := by decide +kernel
theorem dX4_readSum_55 : decode cX4_readSum 55 = .ok (.invokevirtual 89, 3) := by decide +kernel
theorem dX4_readSum_58 : decode cX4_readSum 58 = .ok (.iload 4, 2) := by decide +kernel
theorem dX4_readSum_60 : decode cX4_readSum 60 = .ok (.istore_n 2, 1) := by decide +kernel
theorem dX4_readSum_61 : decode cX4_readSum 61 = .ok (.aload_n 0, 1) := by decide +kernel
theorem dX4_readSum_62 : decode cX4_readSum 62 = .ok (.iload_n 1, 1) := by decide +kernel
theorem dX4_readSum_63 : decode cX4_readSum 63 = .ok (.invokevirtual 107, 3) := by decide +kernel
theorem dX4_readSum_66 : decode cX4_readSum 66 = .ok (.goto 15, 3) := by decide +kernel
theorem dX4_readSum_69 : decode cX4_readSum 69 = .ok (.aload_n 0, 1) := by decide +kernel
theorem dX4_readSum_70 : decode cX4_readSum 70 = .ok (.iload_n 1, 1) := by decide +kernel
theorem dX4_readSum_71 : decode cX4_readSum 71 = .ok (.invokevirtual 107, 3) := by decide +kernel
theorem dX4_readSum_74 : decode cX4_readSum 74 = .ok (.aload_n 0, 1) := by decide +kernel
theorem dX4_readSum_75 : decode cX4_readSum 75 = .ok (.iload 4, 2) := by decide +kernel
theorem dX4_readSum_77 : decode cX4_readSum 77 = .ok (.iconst 0, 1) := by decide +kernel
theorem dX4_readSum_78 : decode cX4_readSum 78 = .ok (.invokevirtual 89, 3) := by decide +kernel
theorem dX4_readSum_81 : decode cX4_readSum 81 = .ok (.iinc 3 1, 3) := by decide +kernel
theorem dX4_readSum_84 : decode cX4_readSum 84 = .ok (.goto (-75), 3) := by decide +kernel
theorem dX4_readSum_87 : decode cX4_readSum 87 = .ok (.iload_n 2, 1) := by decide +kernel
theorem dX4_readSum_88 : decode cX4_readSum 88 = .ok (.iconst (-1), 1) := by decide +kernel
theorem dX4_readSum_89 : decode cX4_readSum 89 = .ok (.if_icmp .eq 9, 3) := by decide +kernel
theorem dX4_readSum_92 : decode cX4_readSum 92 = .ok (.aload_n 0, 1) := by decide +kernel
theorem dX4_readSum_93 : decode cX4_readSum 93 = .ok (.iload_n 2, 1) := by decide +kernel
theorem dX4_readSum_94 : decode cX4_readSum 94 = .ok (.iconst 0, 1) := by decide +kernel
theorem dX4_readSum_95 : decode cX4_readSum 95 = .ok (.invokevirtual 89, 3) := by decide +kernel
theorem dX4_readSum_98 : decode cX4_readSum 98 = .ok (.return_, 1) := by decide +kernel
theorem dX4_readPart_0 : decode cX4_readPart 0 = .ok (.aload_n 0, 1) := by decide +kernel
theorem dX4_readPart_1 : decode cX4_readPart 1 = .ok (.getfield 31, 3) := by decide +kernel
theorem dX4_readPart_4 : decode cX4_readPart 4 = .ok (.bipush 91, 2) := by decide +kernel
theorem dX4_readPart_6 : decode cX4_readPart 6 = .ok (.if_icmp .ne 27, 3) := by decide +kernel
theorem dX4_readPart_9 : decode cX4_readPart 9 = .ok (.iload_n 1, 1) := by decide +kernel
theorem dX4_readPart_10 : decode cX4_readPart 10 = .ok (.bipush 8, 2) := by decide +kernel
theorem dX4_readPart_12 : decode cX4_readPart 12 = .ok (.if_icmp .ge 21, 3) := by decide +kernel
theorem dX4_readPart_15 : decode cX4_readPart 15 = .ok (.aload_n 0, 1) := by decide +kernel
theorem dX4_readPart_16 : decode cX4_readPart 16 = .ok (.invokevirtual 49, 3) := by decide +kernel
theorem dX4_readPart_19 : decode cX4_readPart 19 = .ok (.aload_n 0, 1) := by decide +kernel
theorem dX4_readPart_20 : decode cX4_readPart 20 = .ok (.iload_n 1, 1) := by decide +kernel
theorem dX4_readPart_21 : decode cX4_readPart 21 = .ok (.iconst 1, 1) := by decide +kernel
theorem dX4_readPart_22 : decode cX4_readPart 22 = .ok (.iadd, 1) := by decide +kernel
theorem dX4_readPart_23 : decode cX4_readPart 23 = .ok (.invokevirtual 61, 3) := by decide +kernel
theorem dX4_readPart_26 : decode cX4_readPart 26 = .ok (.aload_n 0, 1) := by decide +kernel
theorem dX4_readPart_27 : decode cX4_readPart 27 = .ok (.bipush 93, 2) := by decide +kernel
theorem dX4_readPart_29 : decode cX4_readPart 29 = .ok (.invokevirtual 81, 3) := by decide +kernel
theorem dX4_readPart_32 : decode cX4_readPart 32 = .ok (.return_, 1) := by decide +kernel
theorem dX4_readPart_33 : decode cX4_readPart 33 = .ok (.aload_n 0, 1) := by decide +kernel
theorem dX4_readPart_34 : decode cX4_readPart 34 = .ok (.getfield 31, 3) := by decide +kernel
theorem dX4_readPart_37 : decode cX4_readPart 37 = .ok (.sipush 257, 3) := by decide +kernel
theorem dX4_readPart_40 : decode cX4_readPart 40 = .ok (.if_icmp .ne 10, 3) := by decide +kernel
theorem dX4_readPart_43 : decode cX4_readPart 43 = .ok (.aload_n 0, 1) := by decide +kernel
theorem dX4_readPart_44 : decode cX4_readPart 44 = .ok (.invokevirtual 113, 3) := by decide +kernel
theorem dX4_readPart_47 : decode cX4_readPart 47 = .ok (.goto 7, 3) := by decide +kernel
theorem dX4_readPart_50 : decode cX4_readPart 50 = .ok (.aload_n 0, 1) := by decide +kernel
theorem dX4_readPart_51 : decode cX4_readPart 51 = .ok (.invokevirtual 116, 3) := by decide +kernel
theorem dX4_readPart_54 : decode cX4_readPart 54 = .ok (.istore_n 2, 1) := by decide +kernel
theorem dX4_readPart_55 : decode cX4_readPart 55 = .ok (.iload_n 2, 1) := by decide +kernel
theorem dX4_readPart_56 : decode cX4_readPart 56 = .ok (.iconst (-1), 1) := by decide +kernel
theorem dX4_readPart_57 : decode cX4_readPart 57 = .ok (.if_icmp .eq 12, 3) := by decide +kernel
theorem dX4_readPart_60 : decode cX4_readPart 60 = .ok (.aload_n 0, 1) := by decide +kernel
theorem dX4_readPart_61 : decode cX4_readPart 61 = .ok (.getfield 37, 3) := by decide +kernel
theorem dX4_readPart_64 : decode cX4_readPart 64 = .ok (.bipush 50, 2) := by decide +kernel
theorem dX4_readPart_66 : decode cX4_readPart 66 = .ok (.if_icmp .lt 8, 3) := by decide +kernel
theorem dX4_readPart_69 : decode cX4_readPart 69 = .ok (.aload_n 0, 1) := by decide +kernel
theorem dX4_readPart_70 : decode cX4_readPart 70 = .ok (.invokevirtual 58, 3) := by decide +kernel
theorem dX4_readPart_73 : decode cX4_readPart 73 = .ok (.return_, 1) := by decide +kernel
theorem dX4_readPart_74 : decode cX4_readPart 74 = .ok (.aload_n 0, 1) := by decide +kernel
theorem dX4_readPart_75 : decode cX4_readPart 75 = .ok (.dup, 1) := by decide +kernel
theorem dX4_readPart_76 : decode cX4_readPart 76 = .ok (.getfield 37, 3) := by decide +kernel
theorem dX4_readPart_79 : decode cX4_readPart 79 = .ok (.iconst 1, 1) := by decide +kernel
theorem dX4_readPart_80 : decode cX4_readPart 80 = .ok (.iadd, 1) := by decide +kernel
theorem dX4_readPart_81 : decode cX4_readPart 81 = .ok (.putfield 37, 3) := by decide +kernel
theorem dX4_readPart_84 : decode cX4_readPart 84 = .ok (.aload_n 0, 1) := by decide +kernel
theorem dX4_readPart_85 : decode cX4_readPart 85 = .ok (.aload_n 0, 1) := by decide +kernel
theorem dX4_readPart_86 : decode cX4_readPart 86 = .ok (.getfield 31, 3) := by decide +kernel
theorem dX4_readPart_89 : decode cX4_readPart 89 = .ok (.sipush 257, 3) := by decide +kernel
theorem dX4_readPart_92 : decode cX4_readPart 92 = .ok (.if_icmp .ne 7, 3) := by decide +kernel
theorem dX4_readPart_95 : decode cX4_readPart 95 = .ok (.iconst 0, 1) := by decide +kernel
theorem dX4_readPart_96 : decode cX4_readPart 96 = .ok (.goto 4, 3) := by decide +kernel
theorem dX4_readPart_99 : decode cX4_readPart 99 = .ok (.iconst 1, 1) := by decide +kernel
theorem dX4_readPart_100 : decode cX4_readPart 100 = .ok (.iload_n 2, 1) := by decide +kernel
theorem dX4_readPart_101 : decode cX4_readPart 101 = .ok (.invokevirtual 89, 3) := by decide +kernel
theorem dX4_readPart_104 : decode cX4_readPart 104 = .ok (.aload_n 0, 1) := by decide +kernel
theorem dX4_readPart_105 : decode cX4_readPart 105 = .ok (.invokevirtual 49, 3) := by decide +kernel
theorem dX4_readPart_108 : decode cX4_readPart 108 = .ok (.return_, 1) := by decide +kernel
theorem dX4_number_0 : decode cX4_number 0 = .ok (.iconst 0, 1) := by decide +kernel
theorem dX4_number_1 : decode cX4_number 1 = .ok (.istore_n 1, 1) := by decide +kernel
theorem dX4_number_2 : decode cX4_number 2 = .ok (.aload_n 0, 1) := by decide +kernel
theorem dX4_number_3 : decode cX4_number 3 = .ok (.getfield 25, 3) := by decide +kernel
theorem dX4_number_6 : decode cX4_number 6 = .ok (.istore_n 2, 1) := by decide +kernel
theorem dX4_number_7 : decode cX4_number 7 = .ok (.iload_n 2, 1) := by decide +kernel
theorem dX4_number_8 : decode cX4_number 8 = .ok (.aload_n 0, 1) := by decide +kernel
theorem dX4_number_9 : decode cX4_number 9 = .ok (.getfield 28, 3) := by decide +kernel
theorem dX4_number_12 : decode cX4_number 12 = .ok (.if_icmp .ge 33, 3) := by decide +kernel
theorem dX4_number_15 : decode cX4_number 15 = .ok (.iload_n 1, 1) := by decide +kernel
theorem dX4_number_16 : decode cX4_number 16 = .ok (.bipush 10, 2) := by decide +kernel
theorem dX4_number_18 : decode cX4_number 18 = .ok (.imul, 1) := by decide +kernel
theorem dX4_number_19 : decode cX4_number 19 = .ok (.aload_n 0, 1) := by decide +kernel
theorem dX4_number_20 : decode cX4_number 20 = .ok (.getfield 18, 3) := by decide +kernel
theorem dX4_number_23 : decode cX4_number 23 = .ok (.iload_n 2, 1) := by decide +kernel
theorem dX4_number_24 : decode cX4_number 24 = .ok (.iaload, 1) := by decide +kernel
theorem dX4_number_25 : decode cX4_number 25 = .ok (.iadd, 1) := by decide +kernel
theorem dX4_number_26 : decode cX4_number 26 = .ok (.bipush 48, 2) := by decide +kernel
theorem dX4_number_28 : decode cX4_number 28 = .ok (.isub, 1) := by decide +kernel
theorem dX4_number_29 : decode cX4_number 29 = .ok (.istore_n 1, 1) := by decide +kernel
theorem dX4_number_30 : decode cX4_number 30 = .ok (.iload_n 1, 1) := by decide +kernel
theorem dX4_number_31 : decode cX4_number 31 = .ok (.sipush 1000, 3) := by decide +kernel
theorem dX4_number_34 : decode cX4_number 34 = .ok (.if_icmp .le 5, 3) := by decide +kernel
theorem dX4_number_37 : decode cX4_number 37 = .ok (.iconst (-1), 1) := by decide +kernel
theorem dX4_number_38 : decode cX4_number 38 = .ok (.ireturn, 1) := by decide +kernel
theorem dX4_number_39 : decode cX4_number 39 = .ok (.iinc 2 1, 3) := by decide +kernel
theorem dX4_number_42 : decode cX4_number 42 = .ok (.goto (-35), 3) := by decide +kernel
theorem dX4_number_45 : decode cX4_number 45 = .ok (.iload_n 1, 1) := by decide +kernel
theorem dX4_number_46 : decode cX4_number 46 = .ok (.ireturn, 1) := by decide +kernel
theorem dX4_word_0 : decode cX4_word 0 = .ok (.aload_n 0, 1) := by decide +kernel
theorem dX4_word_1 : decode cX4_word 1 = .ok (.ldc 119, 2) := by decide +kernel
theorem dX4_word_3 : decode cX4_word 3 = .ok (.invokevirtual 98, 3) := by decide +kernel
theorem dX4_word_6 : decode cX4_word 6 = .ok (.ifCond .eq 5, 3) := by decide +kernel
theorem dX4_word_9 : decode cX4_word 9 = .ok (.iconst 0, 1) := by decide +kernel
theorem dX4_word_10 : decode cX4_word 10 = .ok (.ireturn, 1) := by decide +kernel
theorem dX4_word_11 : decode cX4_word 11 = .ok (.aload_n 0, 1) := by decide +kernel
theorem dX4_word_12 : decode cX4_word 12 = .ok (.ldc 121, 2) := by decide +kernel
theorem dX4_word_14 : decode cX4_word 14 = .ok (.invokevirtual 98, 3) := by decide +kernel
theorem dX4_word_17 : decode cX4_word 17 = .ok (.ifCond .eq 5, 3) := by decide +kernel
theorem dX4_word_20 : decode cX4_word 20 = .ok (.iconst 1, 1) := by decide +kernel
theorem dX4_word_21 : decode cX4_word 21 = .ok (.ireturn, 1) := by decide +kernel
theorem dX4_word_22 : decode cX4_word 22 = .ok (.aload_n 0, 1) := by decide +kernel
theorem dX4_word_23 : decode cX4_word 23 = .ok (.ldc 123, 2) := by decide +kernel
theorem dX4_word_25 : decode cX4_word 25 = .ok (.invokevirtual 98, 3) := by decide +kernel
theorem dX4_word_28 : decode cX4_word 28 = .ok (.ifCond .eq 5, 3) := by decide +kernel
theorem dX4_word_31 : decode cX4_word 31 = .ok (.iconst 2, 1) := by decide +kernel
theorem dX4_word_32 : decode cX4_word 32 = .ok (.ireturn, 1) := by decide +kernel
theorem dX4_word_33 : decode cX4_word 33 = .ok (.aload_n 0, 1) := by decide +kernel
theorem dX4_word_34 : decode cX4_word 34 = .ok (.ldc 125, 2) := by decide +kernel
theorem dX4_word_36 : decode cX4_word 36 = .ok (.invokevirtual 98, 3) := by decide +kernel
theorem dX4_word_39 : decode cX4_word 39 = .ok (.ifCond .eq 5, 3) := by decide +kernel
theorem dX4_word_42 : decode cX4_word 42 = .ok (.iconst 3, 1) := by decide +kernel
theorem dX4_word_43 : decode cX4_word 43 = .ok (.ireturn, 1) := by decide +kernel
theorem dX4_word_44 : decode cX4_word 44 = .ok (.aload_n 0, 1) := by decide +kernel
theorem dX4_word_45 : decode cX4_word 45 = .ok (.ldc 127, 2) := by decide +kernel
theorem dX4_word_47 : decode cX4_word 47 = .ok (.invokevirtual 98, 3) := by decide +kernel
theorem dX4_word_50 : decode cX4_word 50 = .ok (.ifCond .eq 5, 3) := by decide +kernel
theorem dX4_word_53 : decode cX4_word 53 = .ok (.iconst 4, 1) := by decide +kernel
theorem dX4_word_54 : decode cX4_word 54 = .ok (.ireturn, 1) := by decide +kernel
theorem dX4_word_55 : decode cX4_word 55 = .ok (.aload_n 0, 1) := by decide +kernel
theorem dX4_word_56 : decode cX4_word 56 = .ok (.ldc 129, 2) := by decide +kernel
theorem dX4_word_58 : decode cX4_word 58 = .ok (.invokevirtual 98, 3) := by decide +kernel
theorem dX4_word_61 : decode cX4_word 61 = .ok (.ifCond .eq 5, 3) := by decide +kernel
theorem dX4_word_64 : decode cX4_word 64 = .ok (.iconst 5, 1) := by decide +kernel
theorem dX4_word_65 : decode cX4_word 65 = .ok (.ireturn, 1) := by decide +kernel
theorem dX4_word_66 : decode cX4_word 66 = .ok (.aload_n 0, 1) := by decide +kernel
theorem dX4_word_67 : decode cX4_word 67 = .ok (.ldc 131, 2) := by decide +kernel
theorem dX4_word_69 : decode cX4_word 69 = .ok (.invokevirtual 98, 3) := by decide +kernel
theorem dX4_word_72 : decode cX4_word 72 = .ok (.ifCond .eq 6, 3) := by decide +kernel
theorem dX4_word_75 : decode cX4_word 75 = .ok (.bipush 6, 2) := by decide +kernel
theorem dX4_word_77 : decode cX4_word 77 = .ok (.ireturn, 1) := by decide +kernel
theorem dX4_word_78 : decode cX4_word 78 = .ok (.aload_n 0, 1) := by decide +kernel
theorem dX4_word_79 : decode cX4_word 79 = .ok (.ldc 133, 2) := by decide +kernel
theorem dX4_word_81 : decode cX4_word 81 = .ok (.invokevirtual 98, 3) := by decide +kernel
theorem dX4_word_84 : decode cX4_word 84 = .ok (.ifCond .eq 6, 3) := by decide +kernel
theorem dX4_word_87 : decode cX4_word 87 = .ok (.bipush 7, 2) := by decide +kernel
theorem dX4_word_89 : decode cX4_word 89 = .ok (.ireturn, 1) := by decide +kernel
theorem dX4_word_90 : decode cX4_word 90 = .ok (.aload_n 0, 1) := by decide +kernel
theorem dX4_word_91 : decode cX4_word 91 = .ok (.ldc 135, 2) := by decide +kernel
theorem dX4_word_93 : decode cX4_word 93 = .ok (.invokevirtual 98, 3) := by decide +kernel
theorem dX4_word_96 : decode cX4_word 96 = .ok (.ifCond .eq 6, 3) := by decide +kernel
theorem dX4_word_99 : decode cX4_word 99 = .ok (.bipush 8, 2) := by decide +kernel
theorem dX4_word_101 : decode cX4_word 101 = .ok (.ireturn, 1) := by decide +kernel
theorem dX4_word_102 : decode cX4_word 102 = .ok (.iconst (-1), 1) := by decide +kernel
theorem dX4_word_103 : decode cX4_word 103 = .ok (.ireturn, 1) := by decide +kernel
theorem dX4_comparison_0 : decode cX4_comparison 0 = .ok (.aload_n 0, 1) := by decide +kernel
theorem dX4_comparison_1 : decode cX4_comparison 1 = .ok (.getfield 31, 3) := by decide +kernel
theorem dX4_comparison_4 : decode cX4_comparison 4 = .ok (.bipush 60, 2) := by decide +kernel
theorem dX4_comparison_6 : decode cX4_comparison 6 = .ok (.if_icmp .ne 6, 3) := by decide +kernel
theorem dX4_comparison_9 : decode cX4_comparison 9 = .ok (.bipush 6, 2) := by decide +kernel
theorem dX4_comparison_11 : decode cX4_comparison 11 = .ok (.ireturn, 1) := by decide +kernel
theorem dX4_comparison_12 : decode cX4_comparison 12 = .ok (.aload_n 0, 1) := by decide +kernel
theorem dX4_comparison_13 : decode cX4_comparison 13 = .ok (.getfield 31, 3) := by decide +kernel
theorem dX4_comparison_16 : decode cX4_comparison 16 = .ok (.bipush 62, 2) := by decide +kernel
theorem dX4_comparison_18 : decode cX4_comparison 18 = .ok (.if_icmp .ne 6, 3) := by decide +kernel
theorem dX4_comparison_21 : decode cX4_comparison 21 = .ok (.bipush 7, 2) := by decide +kernel
theorem dX4_comparison_23 : decode cX4_comparison 23 = .ok (.ireturn, 1) := by decide +kernel
theorem dX4_comparison_24 : decode cX4_comparison 24 = .ok (.aload_n 0, 1) := by decide +kernel
theorem dX4_comparison_25 : decode cX4_comparison 25 = .ok (.getfield 31, 3) := by decide +kernel
theorem dX4_comparison_28 : decode cX4_comparison 28 = .ok (.bipush 61, 2) := by decide +kernel
theorem dX4_comparison_30 : decode cX4_comparison 30 = .ok (.if_icmp .ne 8, 3) := by decide +kernel
theorem dX4_comparison_33 : decode cX4_comparison 33 = .ok (.bipush 8, 2) := by decide +kernel
theorem dX4_comparison_35 : decode cX4_comparison 35 = .ok (.goto 4, 3) := by decide +kernel
theorem dX4_comparison_38 : decode cX4_comparison 38 = .ok (.iconst (-1), 1) := by decide +kernel
theorem dX4_comparison_39 : decode cX4_comparison 39 = .ok (.ireturn, 1) := by decide +kernel
theorem dX4_calculation_0 : decode cX4_calculation 0 = .ok (.aload_n 0, 1) := by decide +kernel
theorem dX4_calculation_1 : decode cX4_calculation 1 = .ok (.getfield 31, 3) := by decide +kernel
theorem dX4_calculation_4 : decode cX4_calculation 4 = .ok (.bipush 43, 2) := by decide +kernel
theorem dX4_calculation_6 : decode cX4_calculation 6 = .ok (.if_icmp .ne 5, 3) := by decide +kernel
theorem dX4_calculation_9 : decode cX4_calculation 9 = .ok (.iconst 2, 1) := by decide +kernel
theorem dX4_calculation_10 : decode cX4_calculation 10 = .ok (.ireturn, 1) := by decide +kernel
theorem dX4_calculation_11 : decode cX4_calculation 11 = .ok (.aload_n 0, 1) := by decide +kernel
theorem dX4_calculation_12 : decode cX4_calculation 12 = .ok (.getfield 31, 3) := by decide +kernel
theorem dX4_calculation_15 : decode cX4_calculation 15 = .ok (.bipush 45, 2) := by decide +kernel
theorem dX4_calculation_17 : decode cX4_calculation 17 = .ok (.if_icmp .ne 5, 3) := by decide +kernel
theorem dX4_calculation_20 : decode cX4_calculation 20 = .ok (.iconst 3, 1) := by decide +kernel
theorem dX4_calculation_21 : decode cX4_calculation 21 = .ok (.ireturn, 1) := by decide +kernel
theorem dX4_calculation_22 : decode cX4_calculation 22 = .ok (.aload_n 0, 1) := by decide +kernel
theorem dX4_calculation_23 : decode cX4_calculation 23 = .ok (.getfield 31, 3) := by decide +kernel
theorem dX4_calculation_26 : decode cX4_calculation 26 = .ok (.bipush 42, 2) := by decide +kernel
theorem dX4_calculation_28 : decode cX4_calculation 28 = .ok (.if_icmp .ne 5, 3) := by decide +kernel
theorem dX4_calculation_31 : decode cX4_calculation 31 = .ok (.iconst 4, 1) := by decide +kernel
theorem dX4_calculation_32 : decode cX4_calculation 32 = .ok (.ireturn, 1) := by decide +kernel
theorem dX4_calculation_33 : decode cX4_calculation 33 = .ok (.aload_n 0, 1) := by decide +kernel
theorem dX4_calculation_34 : decode cX4_calculation 34 = .ok (.getfield 31, 3) := by decide +kernel
theorem dX4_calculation_37 : decode cX4_calculation 37 = .ok (.bipush 47, 2) := by decide +kernel
theorem dX4_calculation_39 : decode cX4_calculation 39 = .ok (.if_icmp .ne 7, 3) := by decide +kernel
theorem dX4_calculation_42 : decode cX4_calculation 42 = .ok (.iconst 5, 1) := by decide +kernel
theorem dX4_calculation_43 : decode cX4_calculation 43 = .ok (.goto 4, 3) := by decide +kernel
theorem dX4_calculation_46 : decode cX4_calculation 46 = .ok (.iconst (-1), 1) := by decide +kernel
theorem dX4_calculation_47 : decode cX4_calculation 47 = .ok (.ireturn, 1) := by decide +kernel
theorem dX4_isWord_0 : decode cX4_isWord 0 = .ok (.aload_n 0, 1) := by decide +kernel
theorem dX4_isWord_1 : decode cX4_isWord 1 = .ok (.getfield 31, 3) := by decide +kernel
theorem dX4_isWord_4 : decode cX4_isWord 4 = .ok (.sipush 256, 3) := by decide +kernel
theorem dX4_isWord_7 : decode cX4_isWord 7 = .ok (.if_icmp .ne 19, 3) := by decide +kernel
theorem dX4_isWord_10 : decode cX4_isWord 10 = .ok (.aload_n 0, 1) := by decide +kernel
theorem dX4_isWord_11 : decode cX4_isWord 11 = .ok (.getfield 28, 3) := by decide +kernel
theorem dX4_isWord_14 : decode cX4_isWord 14 = .ok (.aload_n 0, 1) := by decide +kernel
theorem dX4_isWord_15 : decode cX4_isWord 15 = .ok (.getfield 25, 3) := by decide +kernel
theorem dX4_isWord_18 : decode cX4_isWord 18 = .ok (.isub, 1) := by decide +kernel
theorem dX4_isWord_19 : decode cX4_isWord 19 = .ok (.aload_n 1, 1) := by decide +kernel
theorem dX4_isWord_20 : decode cX4_isWord 20 = .ok (.invokevirtual 137, 3) := by decide +kernel
theorem dX4_isWord_23 : decode cX4_isWord 23 = .ok (.if_icmp .eq 5, 3) := by decide +kernel
theorem dX4_isWord_26 : decode cX4_isWord 26 = .ok (.iconst 0, 1) := by decide +kernel
theorem dX4_isWord_27 : decode cX4_isWord 27 = .ok (.ireturn, 1) := by decide +kernel
theorem dX4_isWord_28 : decode cX4_isWord 28 = .ok (.iconst 0, 1) := by decide +kernel
theorem dX4_isWord_29 : decode cX4_isWord 29 = .ok (.istore_n 2, 1) := by decide +kernel
theorem dX4_isWord_30 : decode cX4_isWord 30 = .ok (.iload_n 2, 1) := by decide +kernel
theorem dX4_isWord_31 : decode cX4_isWord 31 = .ok (.aload_n 1, 1) := by decide +kernel
theorem dX4_isWord_32 : decode cX4_isWord 32 = .ok (.invokevirtual 137, 3) := by decide +kernel
theorem dX4_isWord_35 : decode cX4_isWord 35 = .ok (.if_icmp .ge 30, 3) := by decide +kernel
theorem dX4_isWord_38 : decode cX4_isWord 38 = .ok (.aload_n 0, 1) := by decide +kernel
theorem dX4_isWord_39 : decode cX4_isWord 39 = .ok (.getfield 18, 3) := by decide +kernel
theorem dX4_isWord_42 : decode cX4_isWord 42 = .ok (.aload_n 0, 1) := by decide +kernel
theorem dX4_isWord_43 : decode cX4_isWord 43 = .ok (.getfield 25, 3) := by decide +kernel
theorem dX4_isWord_46 : decode cX4_isWord 46 = .ok (.iload_n 2, 1) := by decide +kernel
theorem dX4_isWord_47 : decode cX4_isWord 47 = .ok (.iadd, 1) := by decide +kernel
theorem dX4_isWord_48 : decode cX4_isWord 48 = .ok (.iaload, 1) := by decide +kernel
theorem dX4_isWord_49 : decode cX4_isWord 49 = .ok (.aload_n 1, 1) := by decide +kernel
theorem dX4_isWord_50 : decode cX4_isWord 50 = .ok (.iload_n 2, 1) := by decide +kernel
theorem dX4_isWord_51 : decode cX4_isWord 51 = .ok (.invokevirtual 141, 3) := by decide +kernel
theorem dX4_isWord_54 : decode cX4_isWord 54 = .ok (.if_icmp .eq 5, 3) := by decide +kernel
theorem dX4_isWord_57 : decode cX4_isWord 57 = .ok (.iconst 0, 1) := by decide +kernel
theorem dX4_isWord_58 : decode cX4_isWord 58 = .ok (.ireturn, 1) := by decide +kernel
theorem dX4_isWord_59 : decode cX4_isWord 59 = .ok (.iinc 2 1, 3) := by decide +kernel
theorem dX4_isWord_62 : decode cX4_isWord 62 = .ok (.goto (-32), 3) := by decide +kernel
theorem dX4_isWord_65 : decode cX4_isWord 65 = .ok (.iconst 1, 1) := by decide +kernel
theorem dX4_isWord_66 : decode cX4_isWord 66 = .ok (.ireturn, 1) := by decide +kernel
theorem dX4_takeWord_0 : decode cX4_takeWord 0 = .ok (.aload_n 0, 1) := by decide +kernel
theorem dX4_takeWord_1 : decode cX4_takeWord 1 = .ok (.aload_n 1, 1) := by decide +kernel
theorem dX4_takeWord_2 : decode cX4_takeWord 2 = .ok (.invokevirtual 98, 3) := by decide +kernel
theorem dX4_takeWord_5 : decode cX4_takeWord 5 = .ok (.ifCond .ne 5, 3) := by decide +kernel
theorem dX4_takeWord_8 : decode cX4_takeWord 8 = .ok (.iconst 0, 1) := by decide +kernel
theorem dX4_takeWord_9 : decode cX4_takeWord 9 = .ok (.ireturn, 1) := by decide +kernel
theorem dX4_takeWord_10 : decode cX4_takeWord 10 = .ok (.aload_n 0, 1) := by decide +kernel
theorem dX4_takeWord_11 : decode cX4_takeWord 11 = .ok (.invokevirtual 49, 3) := by decide +kernel
theorem dX4_takeWord_14 : decode cX4_takeWord 14 = .ok (.iconst 1, 1) := by decide +kernel
theorem dX4_takeWord_15 : decode cX4_takeWord 15 = .ok (.ireturn, 1) := by decide +kernel
theorem dX4_takeSign_0 : decode cX4_takeSign 0 = .ok (.aload_n 0, 1) := by decide +kernel
theorem dX4_takeSign_1 : decode cX4_takeSign 1 = .ok (.getfield 31, 3) := by decide +kernel
theorem dX4_takeSign_4 : decode cX4_takeSign 4 = .ok (.iload_n 1, 1) := by decide +kernel
theorem dX4_takeSign_5 : decode cX4_takeSign 5 = .ok (.if_icmp .ne 10, 3) := by decide +kernel
theorem dX4_takeSign_8 : decode cX4_takeSign 8 = .ok (.aload_n 0, 1) := by decide +kernel
theorem dX4_takeSign_9 : decode cX4_takeSign 9 = .ok (.invokevirtual 49, 3) := by decide +kernel
theorem dX4_takeSign_12 : decode cX4_takeSign 12 = .ok (.goto 7, 3) := by decide +kernel
theorem dX4_takeSign_15 : decode cX4_takeSign 15 = .ok (.aload_n 0, 1) := by decide +kernel
theorem dX4_takeSign_16 : decode cX4_takeSign 16 = .ok (.invokevirtual 58, 3) := by decide +kernel
theorem dX4_takeSign_19 : decode cX4_takeSign 19 = .ok (.return_, 1) := by decide +kernel
theorem dX4_stick_0 : decode cX4_stick 0 = .ok (.aload_n 0, 1) := by decide +kernel
theorem dX4_stick_1 : decode cX4_stick 1 = .ok (.getfield 40, 3) := by decide +kernel
theorem dX4_stick_4 : decode cX4_stick 4 = .ok (.iconst (-1), 1) := by decide +kernel
theorem dX4_stick_5 : decode cX4_stick 5 = .ok (.if_icmp .ne 11, 3) := by decide +kernel
theorem dX4_stick_8 : decode cX4_stick 8 = .ok (.aload_n 0, 1) := by decide +kernel
theorem dX4_stick_9 : decode cX4_stick 9 = .ok (.aload_n 0, 1) := by decide +kernel
theorem dX4_stick_10 : decode cX4_stick 10 = .ok (.getfield 25, 3) := by decide +kernel
theorem dX4_stick_13 : decode cX4_stick 13 = .ok (.putfield 40, 3) := by decide +kernel
theorem dX4_stick_16 : decode cX4_stick 16 = .ok (.aload_n 0, 1) := by decide +kernel
theorem dX4_stick_17 : decode cX4_stick 17 = .ok (.sipush 259, 3) := by decide +kernel
theorem dX4_stick_20 : decode cX4_stick 20 = .ok (.putfield 31, 3) := by decide +kernel
theorem dX4_stick_23 : decode cX4_stick 23 = .ok (.return_, 1) := by decide +kernel
theorem dX4_step_0 : decode cX4_step 0 = .ok (.aload_n 0, 1) := by decide +kernel
theorem dX4_step_1 : decode cX4_step 1 = .ok (.aload_n 0, 1) := by decide +kernel
theorem dX4_step_2 : decode cX4_step 2 = .ok (.getfield 28, 3) := by decide +kernel
theorem dX4_step_5 : decode cX4_step 5 = .ok (.putfield 25, 3) := by decide +kernel
theorem dX4_step_8 : decode cX4_step 8 = .ok (.aload_n 0, 1) := by decide +kernel
theorem dX4_step_9 : decode cX4_step 9 = .ok (.getfield 25, 3) := by decide +kernel
theorem dX4_step_12 : decode cX4_step 12 = .ok (.aload_n 0, 1) := by decide +kernel
theorem dX4_step_13 : decode cX4_step 13 = .ok (.getfield 21, 3) := by decide +kernel
theorem dX4_step_16 : decode cX4_step 16 = .ok (.if_icmp .ge 30, 3) := by decide +kernel
theorem dX4_step_19 : decode cX4_step 19 = .ok (.aload_n 0, 1) := by decide +kernel
theorem dX4_step_20 : decode cX4_step 20 = .ok (.getfield 18, 3) := by decide +kernel
theorem dX4_step_23 : decode cX4_step 23 = .ok (.aload_n 0, 1) := by decide +kernel
theorem dX4_step_24 : decode cX4_step 24 = .ok (.getfield 25, 3) := by decide +kernel
theorem dX4_step_27 : decode cX4_step 27 = .ok (.iaload, 1) := by decide +kernel
theorem dX4_step_28 : decode cX4_step 28 = .ok (.bipush 32, 2) := by decide +kernel
theorem dX4_step_30 : decode cX4_step 30 = .ok (.if_icmp .ne 16, 3) := by decide +kernel
theorem dX4_step_33 : decode cX4_step 33 = .ok (.aload_n 0, 1) := by decide +kernel
theorem dX4_step_34 : decode cX4_step 34 = .ok (.dup, 1) := by decide +kernel
theorem dX4_step_35 : decode cX4_step 35 = .ok (.getfield 25, 3) := by decide +kernel
theorem dX4_step_38 : decode cX4_step 38 = .ok (.iconst 1, 1) := by decide +kernel
theorem dX4_step_39 : decode cX4_step 39 = .ok (.iadd, 1) := by decide +kernel
theorem dX4_step_40 : decode cX4_step 40 = .ok (.putfield 25, 3) := by decide +kernel
theorem dX4_step_43 : decode cX4_step 43 = .ok (.goto (-35), 3) := by decide +kernel
theorem dX4_step_46 : decode cX4_step 46 = .ok (.aload_n 0, 1) := by decide +kernel
theorem dX4_step_47 : decode cX4_step 47 = .ok (.aload_n 0, 1) := by decide +kernel
theorem dX4_step_48 : decode cX4_step 48 = .ok (.getfield 25, 3) := by decide +kernel
theorem dX4_step_51 : decode cX4_step 51 = .ok (.putfield 28, 3) := by decide +kernel
theorem dX4_step_54 : decode cX4_step 54 = .ok (.aload_n 0, 1) := by decide +kernel
theorem dX4_step_55 : decode cX4_step 55 = .ok (.getfield 25, 3) := by decide +kernel
theorem dX4_step_58 : decode cX4_step 58 = .ok (.aload_n 0, 1) := by decide +kernel
theorem dX4_step_59 : decode cX4_step 59 = .ok (.getfield 21, 3) := by decide +kernel
theorem dX4_step_62 : decode cX4_step 62 = .ok (.if_icmp .lt 11, 3) := by decide +kernel
theorem dX4_step_65 : decode cX4_step 65 = .ok (.aload_n 0, 1) := by decide +kernel
theorem dX4_step_66 : decode cX4_step 66 = .ok (.sipush 258, 3) := by decide +kernel
theorem dX4_step_69 : decode cX4_step 69 = .ok (.putfield 31, 3) := by decide +kernel
theorem dX4_step_72 : decode cX4_step 72 = .ok (.return_, 1) := by decide +kernel
theorem dX4_step_73 : decode cX4_step 73 = .ok (.aload_n 0, 1) := by decide +kernel
theorem dX4_step_74 : decode cX4_step 74 = .ok (.aload_n 0, 1) := by decide +kernel
theorem dX4_step_75 : decode cX4_step 75 = .ok (.getfield 18, 3) := by decide +kernel
theorem dX4_step_78 : decode cX4_step 78 = .ok (.aload_n 0, 1) := by decide +kernel
theorem dX4_step_79 : decode cX4_step 79 = .ok (.getfield 25, 3) := by decide +kernel
theorem dX4_step_82 : decode cX4_step 82 = .ok (.iaload, 1) := by decide +kernel
theorem dX4_step_83 : decode cX4_step 83 = .ok (.putfield 31, 3) := by decide +kernel
theorem dX4_step_86 : decode cX4_step 86 = .ok (.aload_n 0, 1) := by decide +kernel
theorem dX4_step_87 : decode cX4_step 87 = .ok (.dup, 1) := by decide +kernel
theorem dX4_step_88 : decode cX4_step 88 = .ok (.getfield 28, 3) := by decide +kernel
theorem dX4_step_91 : decode cX4_step 91 = .ok (.iconst 1, 1) := by decide +kernel
theorem dX4_step_92 : decode cX4_step 92 = .ok (.iadd, 1) := by decide +kernel
theorem dX4_step_93 : decode cX4_step 93 = .ok (.putfield 28, 3) := by decide +kernel
theorem dX4_step_96 : decode cX4_step 96 = .ok (.aload_n 0, 1) := by decide +kernel
theorem dX4_step_97 : decode cX4_step 97 = .ok (.getfield 31, 3) := by decide +kernel
theorem dX4_step_100 : decode cX4_step 100 = .ok (.bipush 97, 2) := by decide +kernel
theorem dX4_step_102 : decode cX4_step 102 = .ok (.if_icmp .lt 71, 3) := by decide +kernel
theorem dX4_step_105 : decode cX4_step 105 = .ok (.aload_n 0, 1) := by decide +kernel
theorem dX4_step_106 : decode cX4_step 106 = .ok (.getfield 31, 3) := by decide +kernel
theorem dX4_step_109 : decode cX4_step 109 = .ok (.bipush 122, 2) := by decide +kernel
theorem dX4_step_111 : decode cX4_step 111 = .ok (.if_icmp .gt 62, 3) := by decide +kernel
theorem dX4_step_114 : decode cX4_step 114 = .ok (.aload_n 0, 1) := by decide +kernel
theorem dX4_step_115 : decode cX4_step 115 = .ok (.sipush 256, 3) := by decide +kernel
theorem dX4_step_118 : decode cX4_step 118 = .ok (.putfield 31, 3) := by decide +kernel
theorem dX4_step_121 : decode cX4_step 121 = .ok (.aload_n 0, 1) := by decide +kernel
theorem dX4_step_122 : decode cX4_step 122 = .ok (.getfield 28, 3) := by decide +kernel
theorem dX4_step_125 : decode cX4_step 125 = .ok (.aload_n 0, 1) := by decide +kernel
theorem dX4_step_126 : decode cX4_step 126 = .ok (.getfield 21, 3) := by decide +kernel
theorem dX4_step_129 : decode cX4_step 129 = .ok (.if_icmp .ge 121, 3) := by decide +kernel
theorem dX4_step_132 : decode cX4_step 132 = .ok (.aload_n 0, 1) := by decide +kernel
theorem dX4_step_133 : decode cX4_step 133 = .ok (.getfield 18, 3) := by decide +kernel
theorem dX4_step_136 : decode cX4_step 136 = .ok (.aload_n 0, 1) := by decide +kernel
theorem dX4_step_137 : decode cX4_step 137 = .ok (.getfield 28, 3) := by decide +kernel
theorem dX4_step_140 : decode cX4_step 140 = .ok (.iaload, 1) := by decide +kernel
theorem dX4_step_141 : decode cX4_step 141 = .ok (.bipush 97, 2) := by decide +kernel
theorem dX4_step_143 : decode cX4_step 143 = .ok (.if_icmp .lt 107, 3) := by decide +kernel
theorem dX4_step_146 : decode cX4_step 146 = .ok (.aload_n 0, 1) := by decide +kernel
theorem dX4_step_147 : decode cX4_step 147 = .ok (.getfield 18, 3) := by decide +kernel
theorem dX4_step_150 : decode cX4_step 150 = .ok (.aload_n 0, 1) := by decide +kernel
theorem dX4_step_151 : decode cX4_step 151 = .ok (.getfield 28, 3) := by decide +kernel
theorem dX4_step_154 : decode cX4_step 154 = .ok (.iaload, 1) := by decide +kernel
theorem dX4_step_155 : decode cX4_step 155 = .ok (.bipush 122, 2) := by decide +kernel
theorem dX4_step_157 : decode cX4_step 157 = .ok (.if_icmp .gt 93, 3) := by decide +kernel
theorem dX4_step_160 : decode cX4_step 160 = .ok (.aload_n 0, 1) := by decide +kernel
theorem dX4_step_161 : decode cX4_step 161 = .ok (.dup, 1) := by decide +kernel
theorem dX4_step_162 : decode cX4_step 162 = .ok (.getfield 28, 3) := by decide +kernel
theorem dX4_step_165 : decode cX4_step 165 = .ok (.iconst 1, 1) := by decide +kernel
theorem dX4_step_166 : decode cX4_step 166 = .ok (.iadd, 1) := by decide +kernel
theorem dX4_step_167 : decode cX4_step 167 = .ok (.putfield 28, 3) := by decide +kernel
theorem dX4_step_170 : decode cX4_step 170 = .ok (.goto (-49), 3) := by decide +kernel
theorem dX4_step_173 : decode cX4_step 173 = .ok (.aload_n 0, 1) := by decide +kernel
theorem dX4_step_174 : decode cX4_step 174 = .ok (.getfield 31, 3) := by decide +kernel
theorem dX4_step_177 : decode cX4_step 177 = .ok (.bipush 48, 2) := by decide +kernel
theorem dX4_step_179 : decode cX4_step 179 = .ok (.if_icmp .lt 71, 3) := by decide +kernel
theorem dX4_step_182 : decode cX4_step 182 = .ok (.aload_n 0, 1) := by decide +kernel
theorem dX4_step_183 : decode cX4_step 183 = .ok (.getfield 31, 3) := by decide +kernel
theorem dX4_step_186 : decode cX4_step 186 = .ok (.bipush 57, 2) := by decide +kernel
theorem dX4_step_188 : decode cX4_step 188 = .ok (.if_icmp .gt 62, 3) := by decide +kernel
theorem dX4_step_191 : decode cX4_step 191 = .ok (.aload_n 0, 1) := by decide +kernel
theorem dX4_step_192 : decode cX4_step 192 = .ok (.sipush 257, 3) := by decide +kernel
theorem dX4_step_195 : decode cX4_step 195 = .ok (.putfield 31, 3) := by decide +kernel
theorem dX4_step_198 : decode cX4_step 198 = .ok (.aload_n 0, 1) := by decide +kernel
theorem dX4_step_199 : decode cX4_step 199 = .ok (.getfield 28, 3) := by decide +kernel
theorem dX4_step_202 : decode cX4_step 202 = .ok (.aload_n 0, 1) := by decide +kernel
theorem dX4_step_203 : decode cX4_step 203 = .ok (.getfield 21, 3) := by decide +kernel
theorem dX4_step_206 : decode cX4_step 206 = .ok (.if_icmp .ge 44, 3) := by decide +kernel
theorem dX4_step_209 : decode cX4_step 209 = .ok (.aload_n 0, 1) := by decide +kernel
theorem dX4_step_210 : decode cX4_step 210 = .ok (.getfield 18, 3) := by decide +kernel
theorem dX4_step_213 : decode cX4_step 213 = .ok (.aload_n 0, 1) := by decide +kernel
theorem dX4_step_214 : decode cX4_step 214 = .ok (.getfield 28, 3) := by decide +kernel
theorem dX4_step_217 : decode cX4_step 217 = .ok (.iaload, 1) := by decide +kernel
theorem dX4_step_218 : decode cX4_step 218 = .ok (.bipush 48, 2) := by decide +kernel
theorem dX4_step_220 : decode cX4_step 220 = .ok (.if_icmp .lt 30, 3) := by decide +kernel
theorem dX4_step_223 : decode cX4_step 223 = .ok (.aload_n 0, 1) := by decide +kernel
theorem dX4_step_224 : decode cX4_step 224 = .ok (.getfield 18, 3) := by decide +kernel
theorem dX4_step_227 : decode cX4_step 227 = .ok (.aload_n 0, 1) := by decide +kernel
theorem dX4_step_228 : decode cX4_step 228 = .ok (.getfield 28, 3) := by decide +kernel
theorem dX4_step_231 : decode cX4_step 231 = .ok (.iaload, 1) := by decide +kernel
theorem dX4_step_232 : decode cX4_step 232 = .ok (.bipush 57, 2) := by decide +kernel
theorem dX4_step_234 : decode cX4_step 234 = .ok (.if_icmp .gt 16, 3) := by decide +kernel
theorem dX4_step_237 : decode cX4_step 237 = .ok (.aload_n 0, 1) := by decide +kernel
theorem dX4_step_238 : decode cX4_step 238 = .ok (.dup, 1) := by decide +kernel
theorem dX4_step_239 : decode cX4_step 239 = .ok (.getfield 28, 3) := by decide +kernel
theorem dX4_step_242 : decode cX4_step 242 = .ok (.iconst 1, 1) := by decide +kernel
theorem dX4_step_243 : decode cX4_step 243 = .ok (.iadd, 1) := by decide +kernel
theorem dX4_step_244 : decode cX4_step 244 = .ok (.putfield 28, 3) := by decide +kernel
theorem dX4_step_247 : decode cX4_step 247 = .ok (.goto (-49), 3) := by decide +kernel
theorem dX4_step_250 : decode cX4_step 250 = .ok (.return_, 1) := by decide +kernel
theorem dX4_emit_0 : decode cX4_emit 0 = .ok (.aload_n 0, 1) := by decide +kernel
theorem dX4_emit_1 : decode cX4_emit 1 = .ok (.getfield 40, 3) := by decide +kernel
theorem dX4_emit_4 : decode cX4_emit 4 = .ok (.iconst (-1), 1) := by decide +kernel
theorem dX4_emit_5 : decode cX4_emit 5 = .ok (.if_icmp .ne 13, 3) := by decide +kernel
theorem dX4_emit_8 : decode cX4_emit 8 = .ok (.aload_n 0, 1) := by decide +kernel
theorem dX4_emit_9 : decode cX4_emit 9 = .ok (.getfield 34, 3) := by decide +kernel
theorem dX4_emit_12 : decode cX4_emit 12 = .ok (.sipush 400, 3) := by decide +kernel
theorem dX4_emit_15 : decode cX4_emit 15 = .ok (.if_icmp .lt 4, 3) := by decide +kernel
theorem dX4_emit_18 : decode cX4_emit 18 = .ok (.return_, 1) := by decide +kernel
theorem dX4_emit_19 : decode cX4_emit 19 = .ok (.aload_n 0, 1) := by decide +kernel
theorem dX4_emit_20 : decode cX4_emit 20 = .ok (.getfield 9, 3) := by decide +kernel
theorem dX4_emit_23 : decode cX4_emit 23 = .ok (.aload_n 0, 1) := by decide +kernel
theorem dX4_emit_24 : decode cX4_emit 24 = .ok (.getfield 34, 3) := by decide +kernel
theorem dX4_emit_27 : decode cX4_emit 27 = .ok (.iload_n 2, 1) := by decide +kernel
theorem dX4_emit_28 : decode cX4_emit 28 = .ok (.iconst 4, 1) := by decide +kernel
theorem dX4_emit_29 : decode cX4_emit 29 = .ok (.ishl, 1) := by decide +kernel
theorem dX4_emit_30 : decode cX4_emit 30 = .ok (.iload_n 1, 1) := by decide +kernel
theorem dX4_emit_31 : decode cX4_emit 31 = .ok (.ior, 1) := by decide +kernel
theorem dX4_emit_32 : decode cX4_emit 32 = .ok (.iastore, 1) := by decide +kernel
theorem dX4_emit_33 : decode cX4_emit 33 = .ok (.aload_n 0, 1) := by decide +kernel
theorem dX4_emit_34 : decode cX4_emit 34 = .ok (.dup, 1) := by decide +kernel
theorem dX4_emit_35 : decode cX4_emit 35 = .ok (.getfield 34, 3) := by decide +kernel
theorem dX4_emit_38 : decode cX4_emit 38 = .ok (.iconst 1, 1) := by decide +kernel
theorem dX4_emit_39 : decode cX4_emit 39 = .ok (.iadd, 1) := by decide +kernel
theorem dX4_emit_40 : decode cX4_emit 40 = .ok (.putfield 34, 3) := by decide +kernel
theorem dX4_emit_43 : decode cX4_emit 43 = .ok (.return_, 1) := by decide +kernel
theorem dX4_skipToHere_0 : decode cX4_skipToHere 0 = .ok (.iload_n 1, 1) := by decide +kernel
theorem dX4_skipToHere_1 : decode cX4_skipToHere 1 = .ok (.ifCond .lt 11, 3) := by decide +kernel
theorem dX4_skipToHere_4 : decode cX4_skipToHere 4 = .ok (.iload_n 1, 1) := by decide +kernel
theorem dX4_skipToHere_5 : decode cX4_skipToHere 5 = .ok (.aload_n 0, 1) := by decide +kernel
theorem dX4_skipToHere_6 : decode cX4_skipToHere 6 = .ok (.getfield 34, 3) := by decide +kernel
theorem dX4_skipToHere_9 : decode cX4_skipToHere 9 = .ok (.if_icmp .lt 4, 3) := by decide +kernel
theorem dX4_skipToHere_12 : decode cX4_skipToHere 12 = .ok (.return_, 1) := by decide +kernel
theorem dX4_skipToHere_13 : decode cX4_skipToHere 13 = .ok (.aload_n 0, 1) := by decide +kernel
theorem dX4_skipToHere_14 : decode cX4_skipToHere 14 = .ok (.getfield 9, 3) := by decide +kernel
theorem dX4_skipToHere_17 : decode cX4_skipToHere 17 = .ok (.iload_n 1, 1) := by decide +kernel
theorem dX4_skipToHere_18 : decode cX4_skipToHere 18 = .ok (.aload_n 0, 1) := by decide +kernel
theorem dX4_skipToHere_19 : decode cX4_skipToHere 19 = .ok (.getfield 34, 3) := by decide +kernel
theorem dX4_skipToHere_22 : decode cX4_skipToHere 22 = .ok (.iconst 4, 1) := by decide +kernel
theorem dX4_skipToHere_23 : decode cX4_skipToHere 23 = .ok (.ishl, 1) := by decide +kernel
theorem dX4_skipToHere_24 : decode cX4_skipToHere 24 = .ok (.aload_n 0, 1) := by decide +kernel
theorem dX4_skipToHere_25 : decode cX4_skipToHere 25 = .ok (.getfield 9, 3) := by decide +kernel
theorem dX4_skipToHere_28 : decode cX4_skipToHere 28 = .ok (.iload_n 1, 1) := by decide +kernel
theorem dX4_skipToHere_29 : decode cX4_skipToHere 29 = .ok (.iaload, 1) := by decide +kernel
theorem dX4_skipToHere_30 : decode cX4_skipToHere 30 = .ok (.bipush 15, 2) := by decide +kernel
theorem dX4_skipToHere_32 : decode cX4_skipToHere 32 = .ok (.iand, 1) := by decide +kernel
theorem dX4_skipToHere_33 : decode cX4_skipToHere 33 = .ok (.ior, 1) := by decide +kernel
theorem dX4_skipToHere_34 : decode cX4_skipToHere 34 = .ok (.iastore, 1) := by decide +kernel
theorem dX4_skipToHere_35 : decode cX4_skipToHere 35 = .ok (.return_, 1) := by decide +kernel
theorem dX5_init_0 : decode cX5_init 0 = .ok (.aload_n 0, 1) := by decide +kernel
theorem dX5_init_1 : decode cX5_init 1 = .ok (.invokespecial 3, 3) := by decide +kernel
theorem dX5_init_4 : decode cX5_init 4 = .ok (.aload_n 0, 1) := by decide +kernel
theorem dX5_init_5 : decode cX5_init 5 = .ok (.new 9, 3) := by decide +kernel
theorem dX5_init_8 : decode cX5_init 8 = .ok (.dup, 1) := by decide +kernel
theorem dX5_init_9 : decode cX5_init 9 = .ok (.invokespecial 11, 3) := by decide +kernel
theorem dX5_init_12 : decode cX5_init 12 = .ok (.putfield 12, 3) := by decide +kernel
theorem dX5_init_15 : decode cX5_init 15 = .ok (.aload_n 0, 1) := by decide +kernel
theorem dX5_init_16 : decode cX5_init 16 = .ok (.bipush 10, 2) := by decide +kernel
theorem dX5_init_18 : decode cX5_init 18 = .ok (.bipush 36, 2) := by decide +kernel
theorem dX5_init_20 : decode cX5_init 20 = .ok (.multianewarray 18 2, 4) := by decide +kernel
theorem dX5_init_24 : decode cX5_init 24 = .ok (.putfield 20, 3) := by decide +kernel
theorem dX5_init_27 : decode cX5_init 27 = .ok (.aload_n 0, 1) := by decide +kernel
theorem dX5_init_28 : decode cX5_init 28 = .ok (.bipush 10, 2) := by decide +kernel
theorem dX5_init_30 : decode cX5_init 30 = .ok (.bipush 36, 2) := by decide +kernel
theorem dX5_init_32 : decode cX5_init 32 = .ok (.multianewarray 18 2, 4) := by decide +kernel
theorem dX5_init_36 : decode cX5_init 36 = .ok (.putfield 23, 3) := by decide +kernel
theorem dX5_init_39 : decode cX5_init 39 = .ok (.aload_n 0, 1) := by decide +kernel
theorem dX5_init_40 : decode cX5_init 40 = .ok (.aload_n 0, 1) := by decide +kernel
theorem dX5_init_41 : decode cX5_init 41 = .ok (.getfield 20, 3) := by decide +kernel
theorem dX5_init_44 : decode cX5_init 44 = .ok (.putfield 26, 3) := by decide +kernel
theorem dX5_init_47 : decode cX5_init 47 = .ok (.aload_n 0, 1) := by decide +kernel
theorem dX5_init_48 : decode cX5_init 48 = .ok (.iconst 0, 1) := by decide +kernel
theorem dX5_init_49 : decode cX5_init 49 = .ok (.putfield 29, 3) := by decide +kernel
theorem dX5_init_52 : decode cX5_init 52 = .ok (.return_, 1) := by decide +kernel
theorem dX5_weaveAll_0 : decode cX5_weaveAll 0 = .ok (.aload_n 0, 1) := by decide +kernel
theorem dX5_weaveAll_1 : decode cX5_weaveAll 1 = .ok (.aload_n 1, 1) := by decide +kernel
theorem dX5_weaveAll_2 : decode cX5_weaveAll 2 = .ok (.getfield 33, 3) := by decide +kernel
theorem dX5_weaveAll_5 : decode cX5_weaveAll 5 = .ok (.putfield 26, 3) := by decide +kernel
theorem dX5_weaveAll_8 : decode cX5_weaveAll 8 = .ok (.aload_n 0, 1) := by decide +kernel
theorem dX5_weaveAll_9 : decode cX5_weaveAll 9 = .ok (.iconst 0, 1) := by decide +kernel
theorem dX5_weaveAll_10 : decode cX5_weaveAll 10 = .ok (.putfield 29, 3) := by decide +kernel
theorem dX5_weaveAll_13 : decode cX5_weaveAll 13 = .ok (.aload_n 0, 1) := by decide +kernel
theorem dX5_weaveAll_14 : decode cX5_weaveAll 14 = .ok (.getfield 12, 3) := by decide +kernel
theorem dX5_weaveAll_17 : decode cX5_weaveAll 17 = .ok (.aload_n 1, 1) := by decide +kernel
theorem dX5_weaveAll_18 : decode cX5_weaveAll 18 = .ok (.invokevirtual 38, 3) := by decide +kernel
theorem dX5_weaveAll_21 : decode cX5_weaveAll 21 = .ok (.aload_n 0, 1) := by decide +kernel
theorem dX5_weaveAll_22 : decode cX5_weaveAll 22 = .ok (.getfield 26, 3) := by decide +kernel
theorem dX5_weaveAll_25 : decode cX5_weaveAll 25 = .ok (.iconst 0, 1) := by decide +kernel
theorem dX5_weaveAll_26 : decode cX5_weaveAll 26 = .ok (.aaload, 1) := by decide +kernel
theorem dX5_weaveAll_27 : decode cX5_weaveAll 27 = .ok (.astore_n 2, 1) := by decide +kernel
theorem dX5_weaveAll_28 : decode cX5_weaveAll 28 = .ok (.iconst 0, 1) := by decide +kernel
theorem dX5_weaveAll_29 : decode cX5_weaveAll 29 = .ok (.istore_n 3, 1) := by decide +kernel
theorem dX5_weaveAll_30 : decode cX5_weaveAll 30 = .ok (.iload_n 3, 1) := by decide +kernel
theorem dX5_weaveAll_31 : decode cX5_weaveAll 31 = .ok (.aload_n 0, 1) := by decide +kernel
theorem dX5_weaveAll_32 : decode cX5_weaveAll 32 = .ok (.getfield 12, 3) := by decide +kernel
theorem dX5_weaveAll_35 : decode cX5_weaveAll 35 = .ok (.getfield 42, 3) := by decide +kernel
theorem dX5_weaveAll_38 : decode cX5_weaveAll 38 = .ok (.if_icmp .ge 31, 3) := by decide +kernel
theorem dX5_weaveAll_41 : decode cX5_weaveAll 41 = .ok (.aload_n 0, 1) := by decide +kernel
theorem dX5_weaveAll_42 : decode cX5_weaveAll 42 = .ok (.getfield 12, 3) := by decide +kernel
theorem dX5_weaveAll_45 : decode cX5_weaveAll 45 = .ok (.iload_n 3, 1) := by decide +kernel
theorem dX5_weaveAll_46 : decode cX5_weaveAll 46 = .ok (.aload_n 2, 1) := by decide +kernel
theorem dX5_weaveAll_47 : decode cX5_weaveAll 47 = .ok (.aload_n 0, 1) := by decide +kernel
theorem dX5_weaveAll_48 : decode cX5_weaveAll 48 = .ok (.getfield 20, 3) := by decide +kernel
theorem dX5_weaveAll_51 : decode cX5_weaveAll 51 = .ok (.iload_n 3, 1) := by decide +kernel
theorem dX5_weaveAll_52 : decode cX5_weaveAll 52 = .ok (.aaload, 1) := by decide +kernel
theorem dX5_weaveAll_53 : decode cX5_weaveAll 53 = .ok (.invokevirtual 46, 3) := by decide +kernel
theorem dX5_weaveAll_56 : decode cX5_weaveAll 56 = .ok (.aload_n 0, 1) := by decide +kernel
theorem dX5_weaveAll_57 : decode cX5_weaveAll 57 = .ok (.getfield 20, 3) := by decide +kernel
theorem dX5_weaveAll_60 : decode cX5_weaveAll 60 = .ok (.iload_n 3, 1) := by decide +kernel
theorem dX5_weaveAll_61 : decode cX5_weaveAll 61 = .ok (.aaload, 1) := by decide +kernel
theorem dX5_weaveAll_62 : decode cX5_weaveAll 62 = .ok (.astore_n 2, 1) := by decide +kernel
theorem dX5_weaveAll_63 : decode cX5_weaveAll 63 = .ok (.iinc 3 1, 3) := by decide +kernel
theorem dX5_weaveAll_66 : decode cX5_weaveAll 66 = .ok (.goto (-36), 3) := by decide +kernel
theorem dX5_weaveAll_69 : decode cX5_weaveAll 69 = .ok (.return_, 1) := by decide +kernel
theorem dX5_backward_0 : decode cX5_backward 0 = .ok (.aload_n 0, 1) := by decide +kernel
theorem dX5_backward_1 : decode cX5_backward 1 = .ok (.getfield 29, 3) := by decide +kernel
theorem dX5_backward_4 : decode cX5_backward 4 = .ok (.ifCond .ne 57, 3) := by decide +kernel
theorem dX5_backward_7 : decode cX5_backward 7 = .ok (.aload_n 0, 1) := by decide +kernel
theorem dX5_backward_8 : decode cX5_backward 8 = .ok (.getfield 26, 3) := by decide +kernel
theorem dX5_backward_11 : decode cX5_backward 11 = .ok (.iconst 1, 1) := by decide +kernel
theorem dX5_backward_12 : decode cX5_backward 12 = .ok (.aaload, 1) := by decide +kernel
theorem dX5_backward_13 : decode cX5_backward 13 = .ok (.astore_n 1, 1) := by decide +kernel
theorem dX5_backward_14 : decode cX5_backward 14 = .ok (.aload_n 0, 1) := by decide +kernel
theorem dX5_backward_15 : decode cX5_backward 15 = .ok (.getfield 12, 3) := by decide +kernel
theorem dX5_backward_18 : decode cX5_backward 18 = .ok (.getfield 42, 3) := by decide +kernel
theorem dX5_backward_21 : decode cX5_backward 21 = .ok (.iconst 1, 1) := by decide +kernel
theorem dX5_backward_22 : decode cX5_backward 22 = .ok (.isub, 1) := by decide +kernel
theorem dX5_backward_23 : decode cX5_backward 23 = .ok (.istore_n 2, 1) := by decide +kernel
theorem dX5_backward_24 : decode cX5_backward 24 = .ok (.iload_n 2, 1) := by decide +kernel
theorem dX5_backward_25 : decode cX5_backward 25 = .ok (.ifCond .lt 31, 3) := by decide +kernel
theorem dX5_backward_28 : decode cX5_backward 28 = .ok (.aload_n 0, 1) := by decide +kernel
theorem dX5_backward_29 : decode cX5_backward 29 = .ok (.getfield 12, 3) := by decide +kernel
theorem dX5_backward_32 : decode cX5_backward 32 = .ok (.iload_n 2, 1) := by decide +kernel
theorem dX5_backward_33 : decode cX5_backward 33 = .ok (.aload_n 1, 1) := by decide +kernel
theorem dX5_backward_34 : decode cX5_backward 34 = .ok (.aload_n 0, 1) := by decide +kernel
theorem dX5_backward_35 : decode cX5_backward 35 = .ok (.getfield 23, 3) := by decide +kernel
theorem dX5_backward_38 : decode cX5_backward 38 = .ok (.iload_n 2, 1) := by decide +kernel
theorem dX5_backward_39 : decode cX5_backward 39 = .ok (.aaload, 1) := by decide +kernel
theorem dX5_backward_40 : decode cX5_backward 40 = .ok (.invokevirtual 46, 3) := by decide +kernel
theorem dX5_backward_43 : decode cX5_backward 43 = .ok (.aload_n 0, 1) := by decide +kernel
theorem dX5_backward_44 : decode cX5_backward 44 = .ok (.getfield 23, 3) := by decide +kernel
theorem dX5_backward_47 : decode cX5_backward 47 = .ok (.iload_n 2, 1) := by decide +kernel
theorem dX5_backward_48 : decode cX5_backward 48 = .ok (.aaload, 1) := by decide +kernel
theorem dX5_backward_49 : decode cX5_backward 49 = .ok (.astore_n 1, 1) := by decide +kernel
theorem dX5_backward_50 : decode cX5_backward 50 = .ok (.iinc 2 (-1), 3) := by decide +kernel
theorem dX5_backward_53 : decode cX5_backward 53 = .ok (.goto (-29), 3) := by decide +kernel
theorem dX5_backward_56 : decode cX5_backward 56 = .ok (.aload_n 0, 1) := by decide +kernel
theorem dX5_backward_57 : decode cX5_backward 57 = .ok (.iconst 1, 1) := by decide +kernel
theorem dX5_backward_58 : decode cX5_backward 58 = .ok (.putfield 29, 3) := by decide +kernel
theorem dX5_backward_61 : decode cX5_backward 61 = .ok (.aload_n 0, 1) := by decide +kernel
theorem dX5_backward_62 : decode cX5_backward 62 = .ok (.getfield 23, 3) := by decide +kernel
theorem dX5_backward_65 : decode cX5_backward 65 = .ok (.areturn, 1) := by decide +kernel
theorem dX5_picture_0 : decode cX5_picture 0 = .ok (.iload_n 1, 1) := by decide +kernel
theorem dX5_picture_1 : decode cX5_picture 1 = .ok (.ifCond .lt 23, 3) := by decide +kernel
theorem dX5_picture_4 : decode cX5_picture 4 = .ok (.iload_n 1, 1) := by decide +kernel
theorem dX5_picture_5 : decode cX5_picture 5 = .ok (.aload_n 0, 1) := by decide +kernel
theorem dX5_picture_6 : decode cX5_picture 6 = .ok (.getfield 12, 3) := by decide +kernel
theorem dX5_picture_9 : decode cX5_picture 9 = .ok (.getfield 42, 3) := by decide +kernel
theorem dX5_picture_12 : decode cX5_picture 12 = .ok (.if_icmp .ge 12, 3) := by decide +kernel
theorem dX5_picture_15 : decode cX5_picture 15 = .ok (.aload_n 0, 1) := by decide +kernel
theorem dX5_picture_16 : decode cX5_picture 16 = .ok (.getfield 20, 3) := by decide +kernel
theorem dX5_picture_19 : decode cX5_picture 19 = .ok (.iload_n 1, 1) := by decide +kernel
theorem dX5_picture_20 : decode cX5_picture 20 = .ok (.aaload, 1) := by decide +kernel
theorem dX5_picture_21 : decode cX5_picture 21 = .ok (.goto 9, 3) := by decide +kernel
theorem dX5_picture_24 : decode cX5_picture 24 = .ok (.aload_n 0, 1) := by decide +kernel
theorem dX5_picture_25 : decode cX5_picture 25 = .ok (.getfield 26, 3) := by decide +kernel
theorem dX5_picture_28 : decode cX5_picture 28 = .ok (.iconst 0, 1) := by decide +kernel
theorem dX5_picture_29 : decode cX5_picture 29 = .ok (.aaload, 1) := by decide +kernel
theorem dX5_picture_30 : decode cX5_picture 30 = .ok (.areturn, 1) := by decide +kernel
theorem dX5_last_0 : decode cX5_last 0 = .ok (.aload_n 0, 1) := by decide +kernel
theorem dX5_last_1 : decode cX5_last 1 = .ok (.aload_n 0, 1) := by decide +kernel
theorem dX5_last_2 : decode cX5_last 2 = .ok (.getfield 12, 3) := by decide +kernel
theorem dX5_last_5 : decode cX5_last 5 = .ok (.getfield 42, 3) := by decide +kernel
theorem dX5_last_8 : decode cX5_last 8 = .ok (.iconst 1, 1) := by decide +kernel
theorem dX5_last_9 : decode cX5_last 9 = .ok (.isub, 1) := by decide +kernel
theorem dX5_last_10 : decode cX5_last 10 = .ok (.invokevirtual 50, 3) := by decide +kernel
theorem dX5_last_13 : decode cX5_last 13 = .ok (.areturn, 1) := by decide +kernel
theorem dX6_init_0 : decode cX6_init 0 = .ok (.aload_n 0, 1) := by decide +kernel
theorem dX6_init_1 : decode cX6_init 1 = .ok (.invokespecial 3, 3) := by decide +kernel
theorem dX6_init_4 : decode cX6_init 4 = .ok (.aload_n 0, 1) := by decide +kernel
theorem dX6_init_5 : decode cX6_init 5 = .ok (.bipush 6, 2) := by decide +kernel
theorem dX6_init_7 : decode cX6_init 7 = .ok (.bipush 10, 2) := by decide +kernel
theorem dX6_init_9 : decode cX6_init 9 = .ok (.multianewarray 9 2, 4) := by decide +kernel
theorem dX6_init_13 : decode cX6_init 13 = .ok (.putfield 11, 3) := by decide +kernel
theorem dX6_init_16 : decode cX6_init 16 = .ok (.aload_n 0, 1) := by decide +kernel
theorem dX6_init_17 : decode cX6_init 17 = .ok (.iconst 3, 1) := by decide +kernel
theorem dX6_init_18 : decode cX6_init 18 = .ok (.bipush 36, 2) := by decide +kernel
theorem dX6_init_20 : decode cX6_init 20 = .ok (.multianewarray 9 2, 4) := by decide +kernel
theorem dX6_init_24 : decode cX6_init 24 = .ok (.putfield 16, 3) := by decide +kernel
theorem dX6_init_27 : decode cX6_init 27 = .ok (.aload_n 0, 1) := by decide +kernel
theorem dX6_init_28 : decode cX6_init 28 = .ok (.bipush 8, 2) := by decide +kernel
theorem dX6_init_30 : decode cX6_init 30 = .ok (.newarray .int, 2) := by decide +kernel
theorem dX6_init_32 : decode cX6_init 32 = .ok (.putfield 19, 3) := by decide +kernel
theorem dX6_init_35 : decode cX6_init 35 = .ok (.aload_n 0, 1) := by decide +kernel
theorem dX6_init_36 : decode cX6_init 36 = .ok (.iconst 2, 1) := by decide +kernel
theorem dX6_init_37 : decode cX6_init 37 = .ok (.newarray .int, 2) := by decide +kernel
theorem dX6_init_39 : decode cX6_init 39 = .ok (.putfield 23, 3) := by decide +kernel
theorem dX6_init_42 : decode cX6_init 42 = .ok (.aload_n 0, 1) := by decide +kernel
theorem dX6_init_43 : decode cX6_init 43 = .ok (.bipush 6, 2) := by decide +kernel
theorem dX6_init_45 : decode cX6_init 45 = .ok (.anewarray 26, 3) := by decide +kernel
theorem dX6_init_48 : decode cX6_init 48 = .ok (.putfield 28, 3) := by decide +kernel
theorem dX6_init_51 : decode cX6_init 51 = .ok (.aload_n 0, 1) := by decide +kernel
theorem dX6_init_52 : decode cX6_init 52 = .ok (.iconst 0, 1) := by decide +kernel
theorem dX6_init_53 : decode cX6_init 53 = .ok (.putfield 32, 3) := by decide +kernel
theorem dX6_init_56 : decode cX6_init 56 = .ok (.aload_n 0, 1) := by decide +kernel
theorem dX6_init_57 : decode cX6_init 57 = .ok (.iconst 0, 1) := by decide +kernel
theorem dX6_init_58 : decode cX6_init 58 = .ok (.putfield 36, 3) := by decide +kernel
theorem dX6_init_61 : decode cX6_init 61 = .ok (.aload_n 0, 1) := by decide +kernel
theorem dX6_init_62 : decode cX6_init 62 = .ok (.iconst (-1), 1) := by decide +kernel
theorem dX6_init_63 : decode cX6_init 63 = .ok (.putfield 39, 3) := by decide +kernel
theorem dX6_init_66 : decode cX6_init 66 = .ok (.aload_n 0, 1) := by decide +kernel
theorem dX6_init_67 : decode cX6_init 67 = .ok (.getfield 19, 3) := by decide +kernel
theorem dX6_init_70 : decode cX6_init 70 = .ok (.iconst 1, 1) := by decide +kernel
theorem dX6_init_71 : decode cX6_init 71 = .ok (.invokestatic 42, 3) := by decide +kernel
theorem dX6_init_74 : decode cX6_init 74 = .ok (.aload_n 0, 1) := by decide +kernel
theorem dX6_init_75 : decode cX6_init 75 = .ok (.getfield 23, 3) := by decide +kernel
theorem dX6_init_78 : decode cX6_init 78 = .ok (.iconst 0, 1) := by decide +kernel
theorem dX6_init_79 : decode cX6_init 79 = .ok (.bipush 10, 2) := by decide +kernel
theorem dX6_init_81 : decode cX6_init 81 = .ok (.iastore, 1) := by decide +kernel
theorem dX6_init_82 : decode cX6_init 82 = .ok (.return_, 1) := by decide +kernel
theorem dX6_setKeyhole_0 : decode cX6_setKeyhole 0 = .ok (.aload_n 0, 1) := by decide +kernel
theorem dX6_setKeyhole_1 : decode cX6_setKeyhole 1 = .ok (.getfield 11, 3) := by decide +kernel
theorem dX6_setKeyhole_4 : decode cX6_setKeyhole 4 = .ok (.iconst 0, 1) := by decide +kernel
theorem dX6_setKeyhole_5 : decode cX6_setKeyhole 5 = .ok (.aaload, 1) := by decide +kernel
theorem dX6_setKeyhole_6 : decode cX6_setKeyhole 6 = .ok (.iload_n 1, 1) := by decide +kernel
theorem dX6_setKeyhole_7 : decode cX6_setKeyhole 7 = .ok (.iload_n 2, 1) := by decide +kernel
theorem dX6_setKeyhole_8 : decode cX6_setKeyhole 8 = .ok (.iastore, 1) := by decide +kernel
theorem dX6_setKeyhole_9 : decode cX6_setKeyhole 9 = .ok (.aload_n 0, 1) := by decide +kernel
theorem dX6_setKeyhole_10 : decode cX6_setKeyhole 10 = .ok (.getfield 11, 3) := by decide +kernel
theorem dX6_setKeyhole_13 : decode cX6_setKeyhole 13 = .ok (.iconst 1, 1) := by decide +kernel
theorem dX6_setKeyhole_14 : decode cX6_setKeyhole 14 = .ok (.aaload, 1) := by decide +kernel
theorem dX6_setKeyhole_15 : decode cX6_setKeyhole 15 = .ok (.iload_n 1, 1) := by decide +kernel
theorem dX6_setKeyhole_16 : decode cX6_setKeyhole 16 = .ok (.iload_n 3, 1) := by decide +kernel
theorem dX6_setKeyhole_17 : decode cX6_setKeyhole 17 = .ok (.iastore, 1) := by decide +kernel
theorem dX6_setKeyhole_18 : decode cX6_setKeyhole 18 = .ok (.aload_n 0, 1) := by decide +kernel
theorem dX6_setKeyhole_19 : decode cX6_setKeyhole 19 = .ok (.getfield 11, 3) := by decide +kernel
theorem dX6_setKeyhole_22 : decode cX6_setKeyhole 22 = .ok (.iconst 2, 1) := by decide +kernel
theorem dX6_setKeyhole_23 : decode cX6_setKeyhole 23 = .ok (.aaload, 1) := by decide +kernel
theorem dX6_setKeyhole_24 : decode cX6_setKeyhole 24 = .ok (.iload_n 1, 1) := by decide +kernel
theorem dX6_setKeyhole_25 : decode cX6_setKeyhole 25 = .ok (.iload 4, 2) := by decide +kernel
theorem dX6_setKeyhole_27 : decode cX6_setKeyhole 27 = .ok (.iastore, 1) := by decide +kernel
theorem dX6_setKeyhole_28 : decode cX6_setKeyhole 28 = .ok (.aload_n 0, 1) := by decide +kernel
theorem dX6_setKeyhole_29 : decode cX6_setKeyhole 29 = .ok (.getfield 11, 3) := by decide +kernel
theorem dX6_setKeyhole_32 : decode cX6_setKeyhole 32 = .ok (.iconst 3, 1) := by decide +kernel
theorem dX6_setKeyhole_33 : decode cX6_setKeyhole 33 = .ok (.aaload, 1) := by decide +kernel
theorem dX6_setKeyhole_34 : decode cX6_setKeyhole 34 = .ok (.iload_n 1, 1) := by decide +kernel
theorem dX6_setKeyhole_35 : decode cX6_setKeyhole 35 = .ok (.iload 5, 2) := by decide +kernel
theorem dX6_setKeyhole_37 : decode cX6_setKeyhole 37 = .ok (.iastore, 1) := by decide +kernel
theorem dX6_setKeyhole_38 : decode cX6_setKeyhole 38 = .ok (.return_, 1) := by decide +kernel
theorem dX6_copyFrom_0 : decode cX6_copyFrom 0 = .ok (.iconst 0, 1) := by decide +kernel
theorem dX6_copyFrom_1 : decode cX6_copyFrom 1 = .ok (.istore_n 2, 1) := by decide +kernel
theorem dX6_copyFrom_2 : decode cX6_copyFrom 2 = .ok (.iload_n 2, 1) := by decide +kernel
theorem dX6_copyFrom_3 : decode cX6_copyFrom 3 = .ok (.bipush 6, 2) := by decide +kernel
theorem dX6_copyFrom_5 : decode cX6_copyFrom 5 = .ok (.if_icmp .ge 28, 3) := by decide +kernel
theorem dX6_copyFrom_8 : decode cX6_copyFrom 8 = .ok (.aload_n 1, 1) := by decide +kernel
theorem dX6_copyFrom_9 : decode cX6_copyFrom 9 = .ok (.getfield 11, 3) := by decide +kernel
theorem dX6_copyFrom_12 : decode cX6_copyFrom 12 = .ok (.iload_n 2, 1) := by decide +kernel
theorem dX6_copyFrom_13 : decode cX6_copyFrom 13 = .ok (.aaload, 1) := by decide +kernel
theorem dX6_copyFrom_14 : decode cX6_copyFrom 14 = .ok (.iconst 0, 1) := by decide +kernel
theorem dX6_copyFrom_15 : decode cX6_copyFrom 15 = .ok (.aload_n 0, 1) := by decide +kernel
theorem dX6_copyFrom_16 : decode cX6_copyFrom 16 = .ok (.getfield 11, 3) := by decide +kernel
theorem dX6_copyFrom_19 : decode cX6_copyFrom 19 = .ok (.iload_n 2, 1) := by decide +kernel
theorem dX6_copyFrom_20 : decode cX6_copyFrom 20 = .ok (.aaload, 1) := by decide +kernel
theorem dX6_copyFrom_21 : decode cX6_copyFrom 21 = .ok (.iconst 0, 1) := by decide +kernel
theorem dX6_copyFrom_22 : decode cX6_copyFrom 22 = .ok (.bipush 10, 2) := by decide +kernel
theorem dX6_copyFrom_24 : decode cX6_copyFrom 24 = .ok (.invokestatic 48, 3) := by decide +kernel
theorem dX6_copyFrom_27 : decode cX6_copyFrom 27 = .ok (.iinc 2 1, 3) := by decide +kernel
theorem dX6_copyFrom_30 : decode cX6_copyFrom 30 = .ok (.goto (-28), 3) := by decide +kernel
theorem dX6_copyFrom_33 : decode cX6_copyFrom 33 = .ok (.iconst 0, 1) := by decide +kernel
theorem dX6_copyFrom_34 : decode cX6_copyFrom 34 = .ok (.istore_n 2, 1) := by decide +kernel
theorem dX6_copyFrom_35 : decode cX6_copyFrom 35 = .ok (.iload_n 2, 1) := by decide +kernel
theorem dX6_copyFrom_36 : decode cX6_copyFrom 36 = .ok (.iconst 3, 1) := by decide +kernel
theorem dX6_copyFrom_37 : decode cX6_copyFrom 37 = .ok (.if_icmp .ge 28, 3) := by decide +kernel
theorem dX6_copyFrom_40 : decode cX6_copyFrom 40 = .ok (.aload_n 1, 1) := by decide +kernel
theorem dX6_copyFrom_41 : decode cX6_copyFrom 41 = .ok (.getfield 16, 3) := by decide +kernel
theorem dX6_copyFrom_44 : decode cX6_copyFrom 44 = .ok (.iload_n 2, 1) := by decide +kernel
theorem dX6_copyFrom_45 : decode cX6_copyFrom 45 = .ok (.aaload, 1) := by decide +kernel
theorem dX6_copyFrom_46 : decode cX6_copyFrom 46 = .ok (.iconst 0, 1) := by decide +kernel
theorem dX6_copyFrom_47 : decode cX6_copyFrom 47 = .ok (.aload_n 0, 1) := by decide +kernel
theorem dX6_copyFrom_48 : decode cX6_copyFrom 48 = .ok (.getfield 16, 3) := by decide +kernel
theorem dX6_copyFrom_51 : decode cX6_copyFrom 51 = .ok (.iload_n 2, 1) := by decide +kernel
theorem dX6_copyFrom_52 : decode cX6_copyFrom 52 = .ok (.aaload, 1) := by decide +kernel
theorem dX6_copyFrom_53 : decode cX6_copyFrom 53 = .ok (.iconst 0, 1) := by decide +kernel
theorem dX6_copyFrom_54 : decode cX6_copyFrom 54 = .ok (.bipush 36, 2) := by decide +kernel
theorem dX6_copyFrom_56 : decode cX6_copyFrom 56 = .ok (.invokestatic 48, 3) := by decide +kernel
theorem dX6_copyFrom_59 : decode cX6_copyFrom 59 = .ok (.iinc 2 1, 3) := by decide +kernel
theorem dX6_copyFrom_62 : decode cX6_copyFrom 62 = .ok (.goto (-27), 3) := by decide +kernel
theorem dX6_copyFrom_65 : decode cX6_copyFrom 65 = .ok (.aload_n 1, 1) := by decide +kernel
theorem dX6_copyFrom_66 : decode cX6_copyFrom 66 = .ok (.getfield 19, 3) := by decide +kernel
theorem dX6_copyFrom_69 : decode cX6_copyFrom 69 = .ok (.iconst 0, 1) := by decide +kernel
theorem dX6_copyFrom_70 : decode cX6_copyFrom 70 = .ok (.aload_n 0, 1) := by decide +kernel
theorem dX6_copyFrom_71 : decode cX6_copyFrom 71 = .ok (.getfield 19, 3) := by decide +kernel
theorem dX6_copyFrom_74 : decode cX6_copyFrom 74 = .ok (.iconst 0, 1) := by decide +kernel
theorem dX6_copyFrom_75 : decode cX6_copyFrom 75 = .ok (.bipush 8, 2) := by decide +kernel
theorem dX6_copyFrom_77 : decode cX6_copyFrom 77 = .ok (.invokestatic 48, 3) := by decide +kernel
theorem dX6_copyFrom_80 : decode cX6_copyFrom 80 = .ok (.aload_n 1, 1) := by decide +kernel
theorem dX6_copyFrom_81 : decode cX6_copyFrom 81 = .ok (.getfield 23, 3) := by decide +kernel
theorem dX6_copyFrom_84 : decode cX6_copyFrom 84 = .ok (.iconst 0, 1) := by decide +kernel
theorem dX6_copyFrom_85 : decode cX6_copyFrom 85 = .ok (.aload_n 0, 1) := by decide +kernel
theorem dX6_copyFrom_86 : decode cX6_copyFrom 86 = .ok (.getfield 23, 3) := by decide +kernel
theorem dX6_copyFrom_89 : decode cX6_copyFrom 89 = .ok (.iconst 0, 1) := by decide +kernel
theorem dX6_copyFrom_90 : decode cX6_copyFrom 90 = .ok (.iconst 2, 1) := by decide +kernel
theorem dX6_copyFrom_91 : decode cX6_copyFrom 91 = .ok (.invokestatic 48, 3) := by decide +kernel
theorem dX6_copyFrom_94 : decode cX6_copyFrom 94 = .ok (.iconst 0, 1) := by decide +kernel
theorem dX6_copyFrom_95 : decode cX6_copyFrom 95 = .ok (.istore_n 2, 1) := by decide +kernel
theorem dX6_copyFrom_96 : decode cX6_copyFrom 96 = .ok (.iload_n 2, 1) := by decide +kernel
theorem dX6_copyFrom_97 : decode cX6_copyFrom 97 = .ok (.bipush 6, 2) := by decide +kernel
theorem dX6_copyFrom_99 : decode cX6_copyFrom 99 = .ok (.if_icmp .ge 21, 3) := by decide +kernel
theorem dX6_copyFrom_102 : decode cX6_copyFrom 102 = .ok (.aload_n 0, 1) := by decide +kernel
theorem dX6_copyFrom_103 : decode cX6_copyFrom 103 = .ok (.getfield 28, 3) := by decide +kernel
theorem dX6_copyFrom_106 : decode cX6_copyFrom 106 = .ok (.iload_n 2, 1) := by decide +kernel
theorem dX6_copyFrom_107 : decode cX6_copyFrom 107 = .ok (.aload_n 1, 1) := by decide +kernel
theorem dX6_copyFrom_108 : decode cX6_copyFrom 108 = .ok (.getfield 28, 3) := by decide +kernel
theorem dX6_copyFrom_111 : decode cX6_copyFrom 111 = .ok (.iload_n 2, 1) := by decide +kernel
theorem dX6_copyFrom_112 : decode cX6_copyFrom 112 = .ok (.aaload, 1) := by decide +kernel
theorem dX6_copyFrom_113 : decode cX6_copyFrom 113 = .ok (.aastore, 1) := by decide +kernel
theorem dX6_copyFrom_114 : decode cX6_copyFrom 114 = .ok (.iinc 2 1, 3) := by decide +kernel
theorem dX6_copyFrom_117 : decode cX6_copyFrom 117 = .ok (.goto (-21), 3) := by decide +kernel
theorem dX6_copyFrom_120 : decode cX6_copyFrom 120 = .ok (.aload_n 0, 1) := by decide +kernel
theorem dX6_copyFrom_121 : decode cX6_copyFrom 121 = .ok (.aload_n 1, 1) := by decide +kernel
theorem dX6_copyFrom_122 : decode cX6_copyFrom 122 = .ok (.getfield 32, 3) := by decide +kernel
theorem dX6_copyFrom_125 : decode cX6_copyFrom 125 = .ok (.putfield 32, 3) := by decide +kernel
theorem dX6_copyFrom_128 : decode cX6_copyFrom 128 = .ok (.aload_n 0, 1) := by decide +kernel
theorem dX6_copyFrom_129 : decode cX6_copyFrom 129 = .ok (.aload_n 1, 1) := by decide +kernel
theorem dX6_copyFrom_130 : decode cX6_copyFrom 130 = .ok (.getfield 36, 3) := by decide +kernel
theorem dX6_copyFrom_133 : decode cX6_copyFrom 133 = .ok (.putfield 36, 3) := by decide +kernel
theorem dX6_copyFrom_136 : decode cX6_copyFrom 136 = .ok (.aload_n 0, 1) := by decide +kernel
theorem dX6_copyFrom_137 : decode cX6_copyFrom 137 = .ok (.aload_n 1, 1) := by decide +kernel
theorem dX6_copyFrom_138 : decode cX6_copyFrom 138 = .ok (.getfield 39, 3) := by decide +kernel
theorem dX6_copyFrom_141 : decode cX6_copyFrom 141 = .ok (.putfield 39, 3) := by decide +kernel
theorem dX6_copyFrom_144 : decode cX6_copyFrom 144 = .ok (.return_, 1) := by decide +kernel
theorem dX6_lawInForce_0 : decode cX6_lawInForce 0 = .ok (.aload_n 0, 1) := by decide +kernel
theorem dX6_lawInForce_1 : decode cX6_lawInForce 1 = .ok (.getfield 39, 3) := by decide +kernel
theorem dX6_lawInForce_4 : decode cX6_lawInForce 4 = .ok (.ifCond .lt 26, 3) := by decide +kernel
theorem dX6_lawInForce_7 : decode cX6_lawInForce 7 = .ok (.aload_n 0, 1) := by decide +kernel
theorem dX6_lawInForce_8 : decode cX6_lawInForce 8 = .ok (.getfield 39, 3) := by decide +kernel
theorem dX6_lawInForce_11 : decode cX6_lawInForce 11 = .ok (.aload_n 0, 1) := by decide +kernel
theorem dX6_lawInForce_12 : decode cX6_lawInForce 12 = .ok (.getfield 36, 3) := by decide +kernel
theorem dX6_lawInForce_15 : decode cX6_lawInForce 15 = .ok (.if_icmp .ge 15, 3) := by decide +kernel
theorem dX6_lawInForce_18 : decode cX6_lawInForce 18 = .ok (.aload_n 0, 1) := by decide +kernel
theorem dX6_lawInForce_19 : decode cX6_lawInForce 19 = .ok (.getfield 28, 3) := by decide +kernel
theorem dX6_lawInForce_22 : decode cX6_lawInForce 22 = .ok (.aload_n 0, 1) := by decide +kernel
theorem dX6_lawInForce_23 : decode cX6_lawInForce 23 = .ok (.getfield 39, 3) := by decide +kernel
theorem dX6_lawInForce_26 : decode cX6_lawInForce 26 = .ok (.aaload, 1) := by decide +kernel
theorem dX6_lawInForce_27 : decode cX6_lawInForce 27 = .ok (.goto 4, 3) := by decide +kernel
theorem dX6_lawInForce_30 : decode cX6_lawInForce 30 = .ok (.aconst_null, 1) := by decide +kernel
theorem dX6_lawInForce_31 : decode cX6_lawInForce 31 = .ok (.areturn, 1) := by decide +kernel
theorem dX7_init_0 : decode cX7_init 0 = .ok (.aload_n 0, 1) := by decide +kernel
theorem dX7_init_1 : decode cX7_init 1 = .ok (.invokespecial 3, 3) := by decide +kernel
theorem dX7_init_4 : decode cX7_init 4 = .ok (.aload_n 0, 1) := by decide +kernel
theorem dX7_init_5 : decode cX7_init 5 = .ok (.sipush 400, 3) := by decide +kernel
theorem dX7_init_8 : decode cX7_init 8 = .ok (.newarray .int, 2) := by decide +kernel
theorem dX7_init_10 : decode cX7_init 10 = .ok (.putfield 9, 3) := by decide +kernel
theorem dX7_init_13 : decode cX7_init 13 = .ok (.aload_n 0, 1) := by decide +kernel
theorem dX7_init_14 : decode cX7_init 14 = .ok (.iconst 0, 1) := by decide +kernel
theorem dX7_init_15 : decode cX7_init 15 = .ok (.putfield 15, 3) := by decide +kernel
theorem dX7_init_18 : decode cX7_init 18 = .ok (.return_, 1) := by decide +kernel
theorem dX7_add_0 : decode cX7_add 0 = .ok (.bipush 24, 2) := by decide +kernel
theorem dX7_add_2 : decode cX7_add 2 = .ok (.istore_n 2, 1) := by decide +kernel
theorem dX7_add_3 : decode cX7_add 3 = .ok (.iload_n 2, 1) := by decide +kernel
theorem dX7_add_4 : decode cX7_add 4 = .ok (.ifCond .lt 45, 3) := by decide +kernel
theorem dX7_add_7 : decode cX7_add 7 = .ok (.aload_n 0, 1) := by decide +kernel
theorem dX7_add_8 : decode cX7_add 8 = .ok (.getfield 15, 3) := by decide +kernel
theorem dX7_add_11 : decode cX7_add 11 = .ok (.sipush 400, 3) := by decide +kernel
theorem dX7_add_14 : decode cX7_add 14 = .ok (.if_icmp .ge 35, 3) := by decide +kernel
theorem dX7_add_17 : decode cX7_add 17 = .ok (.aload_n 0, 1) := by decide +kernel
theorem dX7_add_18 : decode cX7_add 18 = .ok (.getfield 9, 3) := by decide +kernel
theorem dX7_add_21 : decode cX7_add 21 = .ok (.aload_n 0, 1) := by decide +kernel
theorem dX7_add_22 : decode cX7_add 22 = .ok (.getfield 15, 3) := by decide +kernel
theorem dX7_add_25 : decode cX7_add 25 = .ok (.iload_n 1, 1) := by decide +kernel
theorem dX7_add_26 : decode cX7_add 26 = .ok (.iload_n 2, 1) := by decide +kernel
theorem dX7_add_27 : decode cX7_add 27 = .ok (.ishr, 1) := by decide +kernel
theorem dX7_add_28 : decode cX7_add 28 = .ok (.sipush 255, 3) := by decide +kernel
theorem dX7_add_31 : decode cX7_add 31 = .ok (.iand, 1) := by decide +kernel
theorem dX7_add_32 : decode cX7_add 32 = .ok (.iastore, 1) := by decide +kernel
theorem dX7_add_33 : decode cX7_add 33 = .ok (.aload_n 0, 1) := by decide +kernel
theorem dX7_add_34 : decode cX7_add 34 = .ok (.dup, 1) := by decide +kernel
theorem dX7_add_35 : decode cX7_add 35 = .ok (.getfield 15, 3) := by decide +kernel
theorem dX7_add_38 : decode cX7_add 38 = .ok (.iconst 1, 1) := by decide +kernel
theorem dX7_add_39 : decode cX7_add 39 = .ok (.iadd, 1) := by decide +kernel
theorem dX7_add_40 : decode cX7_add 40 = .ok (.putfield 15, 3) := by decide +kernel
theorem dX7_add_43 : decode cX7_add 43 = .ok (.iinc 2 (-8), 3) := by decide +kernel
theorem dX7_add_46 : decode cX7_add 46 = .ok (.goto (-43), 3) := by decide +kernel
theorem dX7_add_49 : decode cX7_add 49 = .ok (.return_, 1) := by decide +kernel
theorem dX8_init_0 : decode cX8_init 0 = .ok (.aload_n 0, 1) := by decide +kernel
theorem dX8_init_1 : decode cX8_init 1 = .ok (.invokespecial 3, 3) := by decide +kernel
theorem dX8_init_4 : decode cX8_init 4 = .ok (.aload_n 0, 1) := by decide +kernel
theorem dX8_init_5 : decode cX8_init 5 = .ok (.bipush 10, 2) := by decide +kernel
theorem dX8_init_7 : decode cX8_init 7 = .ok (.bipush 36, 2) := by decide +kernel
theorem dX8_init_9 : decode cX8_init 9 = .ok (.multianewarray 9 2, 4) := by decide +kernel
theorem dX8_init_13 : decode cX8_init 13 = .ok (.putfield 11, 3) := by decide +kernel
theorem dX8_init_16 : decode cX8_init 16 = .ok (.aload_n 0, 1) := by decide +kernel
theorem dX8_init_17 : decode cX8_init 17 = .ok (.bipush 10, 2) := by decide +kernel
theorem dX8_init_19 : decode cX8_init 19 = .ok (.newarray .int, 2) := by decide +kernel
theorem dX8_init_21 : decode cX8_init 21 = .ok (.putfield 16, 3) := by decide +kernel
theorem dX8_init_24 : decode cX8_init 24 = .ok (.aload_n 0, 1) := by decide +kernel
theorem dX8_init_25 : decode cX8_init 25 = .ok (.iconst 0, 1) := by decide +kernel
theorem dX8_init_26 : decode cX8_init 26 = .ok (.putfield 20, 3) := by decide +kernel
theorem dX8_init_29 : decode cX8_init 29 = .ok (.aload_n 0, 1) := by decide +kernel
theorem dX8_init_30 : decode cX8_init 30 = .ok (.iconst 0, 1) := by decide +kernel
theorem dX8_init_31 : decode cX8_init 31 = .ok (.putfield 24, 3) := by decide +kernel
theorem dX8_init_34 : decode cX8_init 34 = .ok (.return_, 1) := by decide +kernel
theorem dX8_weaveAll_0 : decode cX8_weaveAll 0 = .ok (.aload_n 0, 1) := by decide +kernel
theorem dX8_weaveAll_1 : decode cX8_weaveAll 1 = .ok (.iload_n 3, 1) := by decide +kernel
theorem dX8_weaveAll_2 : decode cX8_weaveAll 2 = .ok (.putfield 24, 3) := by decide +kernel
theorem dX8_weaveAll_5 : decode cX8_weaveAll 5 = .ok (.aload_n 0, 1) := by decide +kernel
theorem dX8_weaveAll_6 : decode cX8_weaveAll 6 = .ok (.aload_n 2, 1) := by decide +kernel
theorem dX8_weaveAll_7 : decode cX8_weaveAll 7 = .ok (.getfield 27, 3) := by decide +kernel
theorem dX8_weaveAll_10 : decode cX8_weaveAll 10 = .ok (.putfield 20, 3) := by decide +kernel
theorem dX8_weaveAll_13 : decode cX8_weaveAll 13 = .ok (.aload_n 2, 1) := by decide +kernel
theorem dX8_weaveAll_14 : decode cX8_weaveAll 14 = .ok (.getfield 30, 3) := by decide +kernel
theorem dX8_weaveAll_17 : decode cX8_weaveAll 17 = .ok (.iconst 0, 1) := by decide +kernel
theorem dX8_weaveAll_18 : decode cX8_weaveAll 18 = .ok (.aaload, 1) := by decide +kernel
theorem dX8_weaveAll_19 : decode cX8_weaveAll 19 = .ok (.astore 4, 2) := by decide +kernel
theorem dX8_weaveAll_21 : decode cX8_weaveAll 21 = .ok (.iconst 0, 1) := by decide +kernel
theorem dX8_weaveAll_22 : decode cX8_weaveAll 22 = .ok (.istore 5, 2) := by decide +kernel
theorem dX8_weaveAll_24 : decode cX8_weaveAll 24 = .ok (.iload 5, 2) := by decide +kernel
theorem dX8_weaveAll_26 : decode cX8_weaveAll 26 = .ok (.aload_n 0, 1) := by decide +kernel
theorem dX8_weaveAll_27 : decode cX8_weaveAll 27 = .ok (.getfield 20, 3) := by decide +kernel
theorem dX8_weaveAll_30 : decode cX8_weaveAll 30 = .ok (.if_icmp .ge 115, 3) := by decide +kernel
theorem dX8_weaveAll_33 : decode cX8_weaveAll 33 = .ok (.aload_n 0, 1) := by decide +kernel
theorem dX8_weaveAll_34 : decode cX8_weaveAll 34 = .ok (.getfield 11, 3) := by decide +kernel
theorem dX8_weaveAll_37 : decode cX8_weaveAll 37 = .ok (.iload 5, 2) := by decide +kernel
theorem dX8_weaveAll_39 : decode cX8_weaveAll 39 = .ok (.aaload, 1) := by decide +kernel
theorem dX8_weaveAll_40 : decode cX8_weaveAll 40 = .ok (.astore 6, 2) := by decide +kernel
theorem dX8_weaveAll_42 : decode cX8_weaveAll 42 = .ok (.aload_n 0, 1) := by decide +kernel
theorem dX8_weaveAll_43 : decode cX8_weaveAll 43 = .ok (.getfield 16, 3) := by decide +kernel
theorem dX8_weaveAll_46 : decode cX8_weaveAll 46 = .ok (.iload 5, 2) := by decide +kernel
theorem dX8_weaveAll_48 : decode cX8_weaveAll 48 = .ok (.iconst 0, 1) := by decide +kernel
theorem dX8_weaveAll_49 : decode cX8_weaveAll 49 = .ok (.iastore, 1) := by decide +kernel
theorem dX8_weaveAll_50 : decode cX8_weaveAll 50 = .ok (.iconst 0, 1) := by decide +kernel
theorem dX8_weaveAll_51 : decode cX8_weaveAll 51 = .ok (.istore 7, 2) := by decide +kernel
theorem dX8_weaveAll_53 : decode cX8_weaveAll 53 = .ok (.iload 7, 2) := by decide +kernel
theorem dX8_weaveAll_55 : decode cX8_weaveAll 55 = .ok (.bipush 36, 2) := by decide +kernel
theorem dX8_weaveAll_57 : decode cX8_weaveAll 57 = .ok (.if_icmp .ge 78, 3) := by decide +kernel
theorem dX8_weaveAll_60 : decode cX8_weaveAll 60 = .ok (.aload_n 0, 1) := by decide +kernel
theorem dX8_weaveAll_61 : decode cX8_weaveAll 61 = .ok (.bipush 100, 2) := by decide +kernel
theorem dX8_weaveAll_63 : decode cX8_weaveAll 63 = .ok (.invokevirtual 31, 3) := by decide +kernel
theorem dX8_weaveAll_66 : decode cX8_weaveAll 66 = .ok (.aload_n 2, 1) := by decide +kernel
theorem dX8_weaveAll_67 : decode cX8_weaveAll 67 = .ok (.getfield 35, 3) := by decide +kernel
theorem dX8_weaveAll_70 : decode cX8_weaveAll 70 = .ok (.iconst 0, 1) := by decide +kernel
theorem dX8_weaveAll_71 : decode cX8_weaveAll 71 = .ok (.iaload, 1) := by decide +kernel
theorem dX8_weaveAll_72 : decode cX8_weaveAll 72 = .ok (.if_icmp .ge 40, 3) := by decide +kernel
theorem dX8_weaveAll_75 : decode cX8_weaveAll 75 = .ok (.aload_n 0, 1) := by decide +kernel
theorem dX8_weaveAll_76 : decode cX8_weaveAll 76 = .ok (.getfield 16, 3) := by decide +kernel
theorem dX8_weaveAll_79 : decode cX8_weaveAll 79 = .ok (.iload 5, 2) := by decide +kernel
theorem dX8_weaveAll_81 : decode cX8_weaveAll 81 = .ok (.dup2, 1) := by decide +kernel
theorem dX8_weaveAll_82 : decode cX8_weaveAll 82 = .ok (.iaload, 1) := by decide +kernel
theorem dX8_weaveAll_83 : decode cX8_weaveAll 83 = .ok (.iconst 1, 1) := by decide +kernel
theorem dX8_weaveAll_84 : decode cX8_weaveAll 84 = .ok (.iadd, 1) := by decide +kernel
theorem dX8_weaveAll_85 : decode cX8_weaveAll 85 = .ok (.iastore, 1) := by decide +kernel
theorem dX8_weaveAll_86 : decode cX8_weaveAll 86 = .ok (.aload 6, 2) := by decide +kernel
theorem dX8_weaveAll_88 : decode cX8_weaveAll 88 = .ok (.iload 7, 2) := by decide +kernel
theorem dX8_weaveAll_90 : decode cX8_weaveAll 90 = .ok (.aload_n 1, 1) := by decide +kernel
theorem dX8_weaveAll_91 : decode cX8_weaveAll 91 = .ok (.aload_n 1, 1) := by decide +kernel
theorem dX8_weaveAll_92 : decode cX8_weaveAll 92 = .ok (.getfield 38, 3) := by decide +kernel
theorem dX8_weaveAll_95 : decode cX8_weaveAll 95 = .ok (.iload 5, 2) := by decide +kernel
theorem dX8_weaveAll_97 : decode cX8_weaveAll 97 = .ok (.iaload, 1) := by decide +kernel
theorem dX8_weaveAll_98 : decode cX8_weaveAll 98 = .ok (.aload_n 0, 1) := by decide +kernel
theorem dX8_weaveAll_99 : decode cX8_weaveAll 99 = .ok (.bipush 8, 2) := by decide +kernel
theorem dX8_weaveAll_101 : decode cX8_weaveAll 101 = .ok (.invokevirtual 31, 3) := by decide +kernel
theorem dX8_weaveAll_104 : decode cX8_weaveAll 104 = .ok (.i2l, 1) := by decide +kernel
theorem dX8_weaveAll_105 : decode cX8_weaveAll 105 = .ok (.invokevirtual 43, 3) := by decide +kernel
theorem dX8_weaveAll_108 : decode cX8_weaveAll 108 = .ok (.iastore, 1) := by decide +kernel
theorem dX8_weaveAll_109 : decode cX8_weaveAll 109 = .ok (.goto 20, 3) := by decide +kernel
theorem dX8_weaveAll_112 : decode cX8_weaveAll 112 = .ok (.aload 6, 2) := by decide +kernel
theorem dX8_weaveAll_114 : decode cX8_weaveAll 114 = .ok (.iload 7, 2) := by decide +kernel
theorem dX8_weaveAll_116 : decode cX8_weaveAll 116 = .ok (.aload_n 1, 1) := by decide +kernel
theorem dX8_weaveAll_117 : decode cX8_weaveAll 117 = .ok (.iload 5, 2) := by decide +kernel
theorem dX8_weaveAll_119 : decode cX8_weaveAll 119 = .ok (.iload 7, 2) := by decide +kernel
theorem dX8_weaveAll_121 : decode cX8_weaveAll 121 = .ok (.aload 4, 2) := by decide +kernel
theorem dX8_weaveAll_123 : decode cX8_weaveAll 123 = .ok (.aload 6, 2) := by decide +kernel
theorem dX8_weaveAll_125 : decode cX8_weaveAll 125 = .ok (.invokevirtual 47, 3) := by decide +kernel
theorem dX8_weaveAll_128 : decode cX8_weaveAll 128 = .ok (.iastore, 1) := by decide +kernel
theorem dX8_weaveAll_129 : decode cX8_weaveAll 129 = .ok (.iinc 7 1, 3) := by decide +kernel
theorem dX8_weaveAll_132 : decode cX8_weaveAll 132 = .ok (.goto (-79), 3) := by decide +kernel
theorem dX8_weaveAll_135 : decode cX8_weaveAll 135 = .ok (.aload 6, 2) := by decide +kernel
theorem dX8_weaveAll_137 : decode cX8_weaveAll 137 = .ok (.astore 4, 2) := by decide +kernel
theorem dX8_weaveAll_139 : decode cX8_weaveAll 139 = .ok (.iinc 5 1, 3) := by decide +kernel
theorem dX8_weaveAll_142 : decode cX8_weaveAll 142 = .ok (.goto (-118), 3) := by decide +kernel
theorem dX8_weaveAll_145 : decode cX8_weaveAll 145 = .ok (.aload 4, 2) := by decide +kernel
theorem dX8_weaveAll_147 : decode cX8_weaveAll 147 = .ok (.areturn, 1) := by decide +kernel
theorem dX8_draw_0 : decode cX8_draw 0 = .ok (.aload_n 0, 1) := by decide +kernel
theorem dX8_draw_1 : decode cX8_draw 1 = .ok (.aload_n 0, 1) := by decide +kernel
theorem dX8_draw_2 : decode cX8_draw 2 = .ok (.getfield 24, 3) := by decide +kernel
theorem dX8_draw_5 : decode cX8_draw 5 = .ok (.sipush 1103, 3) := by decide +kernel
theorem dX8_draw_8 : decode cX8_draw 8 = .ok (.imul, 1) := by decide +kernel
theorem dX8_draw_9 : decode cX8_draw 9 = .ok (.sipush 12345, 3) := by decide +kernel
theorem dX8_draw_12 : decode cX8_draw 12 = .ok (.iadd, 1) := by decide +kernel
theorem dX8_draw_13 : decode cX8_draw 13 = .ok (.ldc 51, 2) := by decide +kernel
theorem dX8_draw_15 : decode cX8_draw 15 = .ok (.irem, 1) := by decide +kernel
theorem dX8_draw_16 : decode cX8_draw 16 = .ok (.putfield 24, 3) := by decide +kernel
theorem dX8_draw_19 : decode cX8_draw 19 = .ok (.iload_n 1, 1) := by decide +kernel
theorem dX8_draw_20 : decode cX8_draw 20 = .ok (.ifCond .le 12, 3) := by decide +kernel
theorem dX8_draw_23 : decode cX8_draw 23 = .ok (.aload_n 0, 1) := by decide +kernel
theorem dX8_draw_24 : decode cX8_draw 24 = .ok (.getfield 24, 3) := by decide +kernel
theorem dX8_draw_27 : decode cX8_draw 27 = .ok (.iload_n 1, 1) := by decide +kernel
theorem dX8_draw_28 : decode cX8_draw 28 = .ok (.irem, 1) := by decide +kernel
theorem dX8_draw_29 : decode cX8_draw 29 = .ok (.goto 4, 3) := by decide +kernel
theorem dX8_draw_32 : decode cX8_draw 32 = .ok (.iconst 0, 1) := by decide +kernel
theorem dX8_draw_33 : decode cX8_draw 33 = .ok (.ireturn, 1) := by decide +kernel
theorem dX9_init_0 : decode cX9_init 0 = .ok (.aload_n 0, 1) := by decide +kernel
theorem dX9_init_1 : decode cX9_init 1 = .ok (.invokespecial 1, 3) := by decide +kernel
theorem dX9_init_4 : decode cX9_init 4 = .ok (.aload_n 0, 1) := by decide +kernel
theorem dX9_init_5 : decode cX9_init 5 = .ok (.new 7, 3) := by decide +kernel
theorem dX9_init_8 : decode cX9_init 8 = .ok (.dup, 1) := by decide +kernel
theorem dX9_init_9 : decode cX9_init 9 = .ok (.invokespecial 9, 3) := by decide +kernel
theorem dX9_init_12 : decode cX9_init 12 = .ok (.putfield 10, 3) := by decide +kernel
theorem dX9_init_15 : decode cX9_init 15 = .ok (.aload_n 0, 1) := by decide +kernel
theorem dX9_init_16 : decode cX9_init 16 = .ok (.iconst 2, 1) := by decide +kernel
theorem dX9_init_17 : decode cX9_init 17 = .ok (.anewarray 7, 3) := by decide +kernel
theorem dX9_init_20 : decode cX9_init 20 = .ok (.putfield 16, 3) := by decide +kernel
theorem dX9_init_23 : decode cX9_init 23 = .ok (.aload_n 0, 1) := by decide +kernel
theorem dX9_init_24 : decode cX9_init 24 = .ok (.new 20, 3) := by decide +kernel
theorem dX9_init_27 : decode cX9_init 27 = .ok (.dup, 1) := by decide +kernel
theorem dX9_init_28 : decode cX9_init 28 = .ok (.invokespecial 22, 3) := by decide +kernel
theorem dX9_init_31 : decode cX9_init 31 = .ok (.putfield 23, 3) := by decide +kernel
theorem dX9_init_34 : decode cX9_init 34 = .ok (.aload_n 0, 1) := by decide +kernel
theorem dX9_init_35 : decode cX9_init 35 = .ok (.new 27, 3) := by decide +kernel
theorem dX9_init_38 : decode cX9_init 38 = .ok (.dup, 1) := by decide +kernel
theorem dX9_init_39 : decode cX9_init 39 = .ok (.invokespecial 29, 3) := by decide +kernel
theorem dX9_init_42 : decode cX9_init 42 = .ok (.putfield 30, 3) := by decide +kernel
theorem dX9_init_45 : decode cX9_init 45 = .ok (.aload_n 0, 1) := by decide +kernel
theorem dX9_init_46 : decode cX9_init 46 = .ok (.new 34, 3) := by decide +kernel
theorem dX9_init_49 : decode cX9_init 49 = .ok (.dup, 1) := by decide +kernel
theorem dX9_init_50 : decode cX9_init 50 = .ok (.invokespecial 36, 3) := by decide +kernel
theorem dX9_init_53 : decode cX9_init 53 = .ok (.putfield 37, 3) := by decide +kernel
theorem dX9_init_56 : decode cX9_init 56 = .ok (.aload_n 0, 1) := by decide +kernel
theorem dX9_init_57 : decode cX9_init 57 = .ok (.new 41, 3) := by decide +kernel
theorem dX9_init_60 : decode cX9_init 60 = .ok (.dup, 1) := by decide +kernel
theorem dX9_init_61 : decode cX9_init 61 = .ok (.aload_n 0, 1) := by decide +kernel
theorem dX9_init_62 : decode cX9_init 62 = .ok (.getfield 37, 3) := by decide +kernel
theorem dX9_init_65 : decode cX9_init 65 = .ok (.invokespecial 43, 3) := by decide +kernel
theorem dX9_init_68 : decode cX9_init 68 = .ok (.putfield 46, 3) := by decide +kernel
theorem dX9_init_71 : decode cX9_init 71 = .ok (.aload_n 0, 1) := by decide +kernel
theorem dX9_init_72 : decode cX9_init 72 = .ok (.new 50, 3) := by decide +kernel
theorem dX9_init_75 : decode cX9_init 75 = .ok (.dup, 1) := by decide +kernel
theorem dX9_init_76 : decode cX9_init 76 = .ok (.invokespecial 52, 3) := by decide +kernel
theorem dX9_init_79 : decode cX9_init 79 = .ok (.putfield 53, 3) := by decide +kernel
theorem dX9_init_82 : decode cX9_init 82 = .ok (.aload_n 0, 1) := by decide +kernel
theorem dX9_init_83 : decode cX9_init 83 = .ok (.new 57, 3) := by decide +kernel
theorem dX9_init_86 : decode cX9_init 86 = .ok (.dup, 1) := by decide +kernel
theorem dX9_init_87 : decode cX9_init 87 = .ok (.invokespecial 59, 3) := by decide +kernel
theorem dX9_init_90 : decode cX9_init 90 = .ok (.putfield 60, 3) := by decide +kernel
theorem dX9_init_93 : decode cX9_init 93 = .ok (.aload_n 0, 1) := by decide +kernel
theorem dX9_init_94 : decode cX9_init 94 = .ok (.iconst 4, 1) := by decide +kernel
theorem dX9_init_95 : decode cX9_init 95 = .ok (.newarray .int, 2) := by decide +kernel
theorem dX9_init_97 : decode cX9_init 97 = .ok (.putfield 64, 3) := by decide +kernel
theorem dX9_init_100 : decode cX9_init 100 = .ok (.aload_n 0, 1) := by decide +kernel
theorem dX9_init_101 : decode cX9_init 101 = .ok (.iconst 0, 1) := by decide +kernel
theorem dX9_init_102 : decode cX9_init 102 = .ok (.putfield 68, 3) := by decide +kernel
theorem dX9_init_105 : decode cX9_init 105 = .ok (.aload_n 0, 1) := by decide +kernel
theorem dX9_init_106 : decode cX9_init 106 = .ok (.iconst 0, 1) := by decide +kernel
theorem dX9_init_107 : decode cX9_init 107 = .ok (.putfield 72, 3) := by decide +kernel
theorem dX9_init_110 : decode cX9_init 110 = .ok (.aload_n 0, 1) := by decide +kernel
theorem dX9_init_111 : decode cX9_init 111 = .ok (.iconst (-1), 1) := by decide +kernel
theorem dX9_init_112 : decode cX9_init 112 = .ok (.putfield 75, 3) := by decide +kernel
theorem dX9_init_115 : decode cX9_init 115 = .ok (.aload_n 0, 1) := by decide +kernel
theorem dX9_init_116 : decode cX9_init 116 = .ok (.iconst 1, 1) := by decide +kernel
theorem dX9_init_117 : decode cX9_init 117 = .ok (.putfield 78, 3) := by decide +kernel
theorem dX9_init_120 : decode cX9_init 120 = .ok (.return_, 1) := by decide +kernel
theorem dX9_village_0 : decode cX9_village 0 = .ok (.iload_n 1, 1) := by decide +kernel
theorem dX9_village_1 : decode cX9_village 1 = .ok (.iload_n 2, 1) := by decide +kernel
theorem dX9_village_2 : decode cX9_village 2 = .ok (.iload_n 3, 1) := by decide +kernel
theorem dX9_village_3 : decode cX9_village 3 = .ok (.iload 4, 2) := by decide +kernel
theorem dX9_village_5 : decode cX9_village 5 = .ok (.invokestatic 82, 3) := by decide +kernel
theorem dX9_village_8 : decode cX9_village 8 = .ok (.ifCond .ne 9, 3) := by decide +kernel
theorem dX9_village_11 : decode cX9_village 11 = .ok (.aload_n 0, 1) := by decide +kernel
theorem dX9_village_12 : decode cX9_village 12 = .ok (.iconst (-1), 1) := by decide +kernel
theorem dX9_village_13 : decode cX9_village 13 = .ok (.invokevirtual 86, 3) := by decide +kernel
theorem dX9_village_16 : decode cX9_village 16 = .ok (.ireturn, 1) := by decide +kernel
theorem dX9_village_17 : decode cX9_village 17 = .ok (.aload_n 0, 1) := by decide +kernel
theorem dX9_village_18 : decode cX9_village 18 = .ok (.getfield 10, 3) := by decide +kernel
theorem dX9_village_21 : decode cX9_village 21 = .ok (.getfield 90, 3) := by decide +kernel
theorem dX9_village_24 : decode cX9_village 24 = .ok (.bipush 10, 2) := by decide +kernel
theorem dX9_village_26 : decode cX9_village 26 = .ok (.if_icmp .lt 10, 3) := by decide +kernel
theorem dX9_village_29 : decode cX9_village 29 = .ok (.aload_n 0, 1) := by decide +kernel
theorem dX9_village_30 : decode cX9_village 30 = .ok (.bipush (-5), 2) := by decide +kernel
theorem dX9_village_32 : decode cX9_village 32 = .ok (.invokevirtual 86, 3) := by decide +kernel
theorem dX9_village_35 : decode cX9_village 35 = .ok (.ireturn, 1) := by decide +kernel
theorem dX9_village_36 : decode cX9_village 36 = .ok (.aload_n 0, 1) := by decide +kernel
theorem dX9_village_37 : decode cX9_village 37 = .ok (.getfield 10, 3) := by decide +kernel
theorem dX9_village_40 : decode cX9_village 40 = .ok (.getfield 90, 3) := by decide +kernel
theorem dX9_village_43 : decode cX9_village 43 = .ok (.istore 5, 2) := by decide +kernel
theorem dX9_village_45 : decode cX9_village 45 = .ok (.aload_n 0, 1) := by decide +kernel
theorem dX9_village_46 : decode cX9_village 46 = .ok (.getfield 10, 3) := by decide +kernel
theorem dX9_village_49 : decode cX9_village 49 = .ok (.dup, 1) := by decide +kernel
theorem dX9_village_50 : decode cX9_village 50 = .ok (.getfield 90, 3) := by decide +kernel
theorem dX9_village_53 : decode cX9_village 53 = .ok (.iconst 1, 1) := by decide +kernel
theorem dX9_village_54 : decode cX9_village 54 = .ok (.iadd, 1) := by decide +kernel
theorem dX9_village_55 : decode cX9_village 55 = .ok (.putfield 90, 3) := by decide +kernel
theorem dX9_village_58 : decode cX9_village 58 = .ok (.aload_n 0, 1) := by decide +kernel
theorem dX9_village_59 : decode cX9_village 59 = .ok (.getfield 10, 3) := by decide +kernel
theorem dX9_village_62 : decode cX9_village 62 = .ok (.iload 5, 2) := by decide +kernel
theorem dX9_village_64 : decode cX9_village 64 = .ok (.iload_n 1, 1) := by decide +kernel
theorem dX9_village_65 : decode cX9_village 65 = .ok (.iload_n 2, 1) := by decide +kernel
theorem dX9_village_66 : decode cX9_village 66 = .ok (.iload_n 3, 1) := by decide +kernel
theorem dX9_village_67 : decode cX9_village 67 = .ok (.iload 4, 2) := by decide +kernel
theorem dX9_village_69 : decode cX9_village 69 = .ok (.invokevirtual 93, 3) := by decide +kernel
theorem dX9_village_72 : decode cX9_village 72 = .ok (.aload_n 0, 1) := by decide +kernel
theorem dX9_village_73 : decode cX9_village 73 = .ok (.getfield 10, 3) := by decide +kernel
theorem dX9_village_76 : decode cX9_village 76 = .ok (.getfield 97, 3) := by decide +kernel
theorem dX9_village_79 : decode cX9_village 79 = .ok (.iconst 4, 1) := by decide +kernel
theorem dX9_village_80 : decode cX9_village 80 = .ok (.aaload, 1) := by decide +kernel
theorem dX9_village_81 : decode cX9_village 81 = .ok (.iload 5, 2) := by decide +kernel
theorem dX9_village_83 : decode cX9_village 83 = .ok (.iconst 0, 1) := by decide +kernel
theorem dX9_village_84 : decode cX9_village 84 = .ok (.iastore, 1) := by decide +kernel
theorem dX9_village_85 : decode cX9_village 85 = .ok (.aload_n 0, 1) := by decide +kernel
theorem dX9_village_86 : decode cX9_village 86 = .ok (.getfield 10, 3) := by decide +kernel
theorem dX9_village_89 : decode cX9_village 89 = .ok (.getfield 97, 3) := by decide +kernel
theorem dX9_village_92 : decode cX9_village 92 = .ok (.iconst 5, 1) := by decide +kernel
theorem dX9_village_93 : decode cX9_village 93 = .ok (.aaload, 1) := by decide +kernel
theorem dX9_village_94 : decode cX9_village 94 = .ok (.iload 5, 2) := by decide +kernel
theorem dX9_village_96 : decode cX9_village 96 = .ok (.sipush 255, 3) := by decide +kernel
theorem dX9_village_99 : decode cX9_village 99 = .ok (.iastore, 1) := by decide +kernel
theorem dX9_village_100 : decode cX9_village 100 = .ok (.aload_n 0, 1) := by decide +kernel
theorem dX9_village_101 : decode cX9_village 101 = .ok (.iload 5, 2) := by decide +kernel
theorem dX9_village_103 : decode cX9_village 103 = .ok (.invokevirtual 101, 3) := by decide +kernel
theorem dX9_village_106 : decode cX9_village 106 = .ok (.ireturn, 1) := by decide +kernel
theorem dX9_put_0 : decode cX9_put 0 = .ok (.iload_n 2, 1) := by decide +kernel
theorem dX9_put_1 : decode cX9_put 1 = .ok (.ifCond .ne 14, 3) := by decide +kernel
theorem dX9_put_4 : decode cX9_put 4 = .ok (.iload_n 3, 1) := by decide +kernel
theorem dX9_put_5 : decode cX9_put 5 = .ok (.invokestatic 104, 3) := by decide +kernel
theorem dX9_put_8 : decode cX9_put 8 = .ok (.ifCond .eq 7, 3) := by decide +kernel
theorem dX9_put_11 : decode cX9_put 11 = .ok (.iconst 1, 1) := by decide +kernel
theorem dX9_put_12 : decode cX9_put 12 = .ok (.goto 4, 3) := by decide +kernel
theorem dX9_put_15 : decode cX9_put 15 = .ok (.iconst 0, 1) := by decide +kernel
theorem dX9_put_16 : decode cX9_put 16 = .ok (.istore 4, 2) := by decide +kernel
theorem dX9_put_18 : decode cX9_put 18 = .ok (.iload_n 2, 1) := by decide +kernel
theorem dX9_put_19 : decode cX9_put 19 = .ok (.iconst 1, 1) := by decide +kernel
theorem dX9_put_20 : decode cX9_put 20 = .ok (.if_icmp .ne 19, 3) := by decide +kernel
theorem dX9_put_23 : decode cX9_put 23 = .ok (.iload_n 3, 1) := by decide +kernel
theorem dX9_put_24 : decode cX9_put 24 = .ok (.iconst 1, 1) := by decide +kernel
theorem dX9_put_25 : decode cX9_put 25 = .ok (.if_icmp .lt 14, 3) := by decide +kernel
theorem dX9_put_28 : decode cX9_put 28 = .ok (.iload_n 3, 1) := by decide +kernel
theorem dX9_put_29 : decode cX9_put 29 = .ok (.sipush 256, 3) := by decide +kernel
theorem dX9_put_32 : decode cX9_put 32 = .ok (.if_icmp .ge 7, 3) := by decide +kernel
theorem dX9_put_35 : decode cX9_put 35 = .ok (.iconst 1, 1) := by decide +kernel
theorem dX9_put_36 : decode cX9_put 36 = .ok (.goto 4, 3) := by decide +kernel
theorem dX9_put_39 : decode cX9_put 39 = .ok (.iconst 0, 1) := by decide +kernel
theorem dX9_put_40 : decode cX9_put 40 = .ok (.istore 5, 2) := by decide +kernel
theorem dX9_put_42 : decode cX9_put 42 = .ok (.iload 4, 2) := by decide +kernel
theorem dX9_put_44 : decode cX9_put 44 = .ok (.ifCond .ne 14, 3) := by decide +kernel
theorem dX9_put_47 : decode cX9_put 47 = .ok (.iload 5, 2) := by decide +kernel
theorem dX9_put_49 : decode cX9_put 49 = .ok (.ifCond .ne 9, 3) := by decide +kernel
theorem dX9_put_52 : decode cX9_put 52 = .ok (.aload_n 0, 1) := by decide +kernel
theorem dX9_put_53 : decode cX9_put 53 = .ok (.iconst (-1), 1) := by decide +kernel
theorem dX9_put_54 : decode cX9_put 54 = .ok (.invokevirtual 86, 3) := by decide +kernel
theorem dX9_put_57 : decode cX9_put 57 = .ok (.ireturn, 1) := by decide +kernel
theorem dX9_put_58 : decode cX9_put 58 = .ok (.aload_n 0, 1) := by decide +kernel
theorem dX9_put_59 : decode cX9_put 59 = .ok (.iload_n 1, 1) := by decide +kernel
theorem dX9_put_60 : decode cX9_put 60 = .ok (.invokevirtual 108, 3) := by decide +kernel
theorem dX9_put_63 : decode cX9_put 63 = .ok (.ifCond .ne 10, 3) := by decide +kernel
theorem dX9_put_66 : decode cX9_put 66 = .ok (.aload_n 0, 1) := by decide +kernel
theorem dX9_put_67 : decode cX9_put 67 = .ok (.bipush (-2), 2) := by decide +kernel
theorem dX9_put_69 : decode cX9_put 69 = .ok (.invokevirtual 86, 3) := by decide +kernel
theorem dX9_put_72 : decode cX9_put 72 = .ok (.ireturn, 1) := by decide +kernel
theorem dX9_put_73 : decode cX9_put 73 = .ok (.aload_n 0, 1) := by decide +kernel
theorem dX9_put_74 : decode cX9_put 74 = .ok (.getfield 10, 3) := by decide +kernel
theorem dX9_put_77 : decode cX9_put 77 = .ok (.getfield 97, 3) := by decide +kernel
theorem dX9_put_80 : decode cX9_put 80 = .ok (.iload 4, 2) := by decide +kernel
theorem dX9_put_82 : decode cX9_put 82 = .ok (.ifCond .eq 7, 3) := by decide +kernel
theorem dX9_put_85 : decode cX9_put 85 = .ok (.iconst 4, 1) := by decide +kernel
theorem dX9_put_86 : decode cX9_put 86 = .ok (.goto 4, 3) := by decide +kernel
theorem dX9_put_89 : decode cX9_put 89 = .ok (.iconst 5, 1) := by decide +kernel
theorem dX9_put_90 : decode cX9_put 90 = .ok (.aaload, 1) := by decide +kernel
theorem dX9_put_91 : decode cX9_put 91 = .ok (.astore 6, 2) := by decide +kernel
theorem dX9_put_93 : decode cX9_put 93 = .ok (.aload 6, 2) := by decide +kernel
theorem dX9_put_95 : decode cX9_put 95 = .ok (.iload_n 1, 1) := by decide +kernel
theorem dX9_put_96 : decode cX9_put 96 = .ok (.iaload, 1) := by decide +kernel
theorem dX9_put_97 : decode cX9_put 97 = .ok (.istore 7, 2) := by decide +kernel
theorem dX9_put_99 : decode cX9_put 99 = .ok (.aload 6, 2) := by decide +kernel
theorem dX9_put_101 : decode cX9_put 101 = .ok (.iload_n 1, 1) := by decide +kernel
theorem dX9_put_102 : decode cX9_put 102 = .ok (.iload_n 3, 1) := by decide +kernel
theorem dX9_put_103 : decode cX9_put 103 = .ok (.iastore, 1) := by decide +kernel
theorem dX9_put_104 : decode cX9_put 104 = .ok (.aload_n 0, 1) := by decide +kernel
theorem dX9_put_105 : decode cX9_put 105 = .ok (.iload 7, 2) := by decide +kernel
theorem dX9_put_107 : decode cX9_put 107 = .ok (.invokevirtual 101, 3) := by decide +kernel
theorem dX9_put_110 : decode cX9_put 110 = .ok (.ireturn, 1) := by decide +kernel
theorem dX9_hole_0 : decode cX9_hole 0 = .ok (.iload_n 2, 1) := by decide +kernel
theorem dX9_hole_1 : decode cX9_hole 1 = .ok (.iload_n 3, 1) := by decide +kernel
theorem dX9_hole_2 : decode cX9_hole 2 = .ok (.iload 4, 2) := by decide +kernel
theorem dX9_hole_4 : decode cX9_hole 4 = .ok (.iload 5, 2) := by decide +kernel
theorem dX9_hole_6 : decode cX9_hole 6 = .ok (.invokestatic 82, 3) := by decide +kernel
theorem dX9_hole_9 : decode cX9_hole 9 = .ok (.ifCond .ne 9, 3) := by decide +kernel
theorem dX9_hole_12 : decode cX9_hole 12 = .ok (.aload_n 0, 1) := by decide +kernel
theorem dX9_hole_13 : decode cX9_hole 13 = .ok (.iconst (-1), 1) := by decide +kernel
theorem dX9_hole_14 : decode cX9_hole 14 = .ok (.invokevirtual 86, 3) := by decide +kernel
theorem dX9_hole_17 : decode cX9_hole 17 = .ok (.ireturn, 1) := by decide +kernel
theorem dX9_hole_18 : decode cX9_hole 18 = .ok (.aload_n 0, 1) := by decide +kernel
theorem dX9_hole_19 : decode cX9_hole 19 = .ok (.iload_n 1, 1) := by decide +kernel
theorem dX9_hole_20 : decode cX9_hole 20 = .ok (.invokevirtual 108, 3) := by decide +kernel
theorem dX9_hole_23 : decode cX9_hole 23 = .ok (.ifCond .ne 10, 3) := by decide +kernel
theorem dX9_hole_26 : decode cX9_hole 26 = .ok (.aload_n 0, 1) := by decide +kernel
theorem dX9_hole_27 : decode cX9_hole 27 = .ok (.bipush (-2), 2) := by decide +kernel
theorem dX9_hole_29 : decode cX9_hole 29 = .ok (.invokevirtual 86, 3) := by decide +kernel
theorem dX9_hole_32 : decode cX9_hole 32 = .ok (.ireturn, 1) := by decide +kernel
theorem dX9_hole_33 : decode cX9_hole 33 = .ok (.aload_n 0, 1) := by decide +kernel
theorem dX9_hole_34 : decode cX9_hole 34 = .ok (.getfield 10, 3) := by decide +kernel
theorem dX9_hole_37 : decode cX9_hole 37 = .ok (.iload_n 1, 1) := by decide +kernel
theorem dX9_hole_38 : decode cX9_hole 38 = .ok (.iload_n 2, 1) := by decide +kernel
theorem dX9_hole_39 : decode cX9_hole 39 = .ok (.iload_n 3, 1) := by decide +kernel
theorem dX9_hole_40 : decode cX9_hole 40 = .ok (.iload 4, 2) := by decide +kernel
theorem dX9_hole_42 : decode cX9_hole 42 = .ok (.iload 5, 2) := by decide +kernel
theorem dX9_hole_44 : decode cX9_hole 44 = .ok (.invokevirtual 93, 3) := by decide +kernel
theorem dX9_hole_47 : decode cX9_hole 47 = .ok (.aload_n 0, 1) := by decide +kernel
theorem dX9_hole_48 : decode cX9_hole 48 = .ok (.iconst 0, 1) := by decide +kernel
theorem dX9_hole_49 : decode cX9_hole 49 = .ok (.invokevirtual 101, 3) := by decide +kernel
theorem dX9_hole_52 : decode cX9_hole 52 = .ok (.ireturn, 1) := by decide +kernel
theorem dX9_of_0 : decode cX9_of 0 = .ok (.aload_n 0, 1) := by decide +kernel
theorem dX9_of_1 : decode cX9_of 1 = .ok (.iload_n 1, 1) := by decide +kernel
theorem dX9_of_2 : decode cX9_of 2 = .ok (.invokevirtual 108, 3) := by decide +kernel
theorem dX9_of_5 : decode cX9_of 5 = .ok (.ifCond .eq 13, 3) := by decide +kernel
theorem dX9_of_8 : decode cX9_of 8 = .ok (.iload_n 2, 1) := by decide +kernel
theorem dX9_of_9 : decode cX9_of 9 = .ok (.ifCond .lt 9, 3) := by decide +kernel
theorem dX9_of_12 : decode cX9_of 12 = .ok (.iload_n 2, 1) := by decide +kernel
theorem dX9_of_13 : decode cX9_of 13 = .ok (.bipush 6, 2) := by decide +kernel
theorem dX9_of_15 : decode cX9_of 15 = .ok (.if_icmp .lt 5, 3) := by decide +kernel
theorem dX9_of_18 : decode cX9_of 18 = .ok (.iconst (-1), 1) := by decide +kernel
theorem dX9_of_19 : decode cX9_of 19 = .ok (.ireturn, 1) := by decide +kernel
theorem dX9_of_20 : decode cX9_of 20 = .ok (.aload_n 0, 1) := by decide +kernel
theorem dX9_of_21 : decode cX9_of 21 = .ok (.getfield 10, 3) := by decide +kernel
theorem dX9_of_24 : decode cX9_of 24 = .ok (.getfield 97, 3) := by decide +kernel
theorem dX9_of_27 : decode cX9_of 27 = .ok (.iload_n 2, 1) := by decide +kernel
theorem dX9_of_28 : decode cX9_of 28 = .ok (.aaload, 1) := by decide +kernel
theorem dX9_of_29 : decode cX9_of 29 = .ok (.iload_n 1, 1) := by decide +kernel
theorem dX9_of_30 : decode cX9_of 30 = .ok (.iaload, 1) := by decide +kernel
theorem dX9_of_31 : decode cX9_of 31 = .ok (.ireturn, 1) := by decide +kernel
theorem dX9_paint_0 : decode cX9_paint 0 = .ok (.iload_n 1, 1) := by decide +kernel
theorem dX9_paint_1 : decode cX9_paint 1 = .ok (.invokestatic 111, 3) := by decide +kernel
theorem dX9_paint_4 : decode cX9_paint 4 = .ok (.ifCond .eq 17, 3) := by decide +kernel
theorem dX9_paint_7 : decode cX9_paint 7 = .ok (.iload_n 2, 1) := by decide +kernel
theorem dX9_paint_8 : decode cX9_paint 8 = .ok (.invokestatic 114, 3) := by decide +kernel
theorem dX9_paint_11 : decode cX9_paint 11 = .ok (.ifCond .eq 10, 3) := by decide +kernel
theorem dX9_paint_14 : decode cX9_paint 14 = .ok (.iload_n 3, 1) := by decide +kernel
theorem dX9_paint_15 : decode cX9_paint 15 = .ok (.invokestatic 104, 3) := by decide +kernel
theorem dX9_paint_18 : decode cX9_paint 18 = .ok (.ifCond .ne 9, 3) := by decide +kernel
theorem dX9_paint_21 : decode cX9_paint 21 = .ok (.aload_n 0, 1) := by decide +kernel
theorem dX9_paint_22 : decode cX9_paint 22 = .ok (.iconst (-1), 1) := by decide +kernel
theorem dX9_paint_23 : decode cX9_paint 23 = .ok (.invokevirtual 86, 3) := by decide +kernel
theorem dX9_paint_26 : decode cX9_paint 26 = .ok (.ireturn, 1) := by decide +kernel
theorem dX9_paint_27 : decode cX9_paint 27 = .ok (.aload_n 0, 1) := by decide +kernel
theorem dX9_paint_28 : decode cX9_paint 28 = .ok (.getfield 10, 3) := by decide +kernel
