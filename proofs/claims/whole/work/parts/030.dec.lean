theorem dX0_init_0 : decode cX0_init 0 = .ok (.aload_n 0, 1) := by decide +kernel
theorem dX0_init_1 : decode cX0_init 1 = .ok (.invokespecial 3, 3) := by decide +kernel
theorem dX0_init_4 : decode cX0_init 4 = .ok (.aload_n 0, 1) := by decide +kernel
theorem dX0_init_5 : decode cX0_init 5 = .ok (.iconst 2, 1) := by decide +kernel
theorem dX0_init_6 : decode cX0_init 6 = .ok (.bipush 36, 2) := by decide +kernel
theorem dX0_init_8 : decode cX0_init 8 = .ok (.multianewarray 9 2, 4) := by decide +kernel
theorem dX0_init_12 : decode cX0_init 12 = .ok (.putfield 11, 3) := by decide +kernel
theorem dX0_init_15 : decode cX0_init 15 = .ok (.aload_n 0, 1) := by decide +kernel
theorem dX0_init_16 : decode cX0_init 16 = .ok (.iconst 0, 1) := by decide +kernel
theorem dX0_init_17 : decode cX0_init 17 = .ok (.putfield 16, 3) := by decide +kernel
theorem dX0_init_20 : decode cX0_init 20 = .ok (.aload_n 0, 1) := by decide +kernel
theorem dX0_init_21 : decode cX0_init 21 = .ok (.iconst (-1), 1) := by decide +kernel
theorem dX0_init_22 : decode cX0_init 22 = .ok (.putfield 20, 3) := by decide +kernel
theorem dX0_init_25 : decode cX0_init 25 = .ok (.aload_n 0, 1) := by decide +kernel
theorem dX0_init_26 : decode cX0_init 26 = .ok (.iconst 4, 1) := by decide +kernel
theorem dX0_init_27 : decode cX0_init 27 = .ok (.iconst 3, 1) := by decide +kernel
theorem dX0_init_28 : decode cX0_init 28 = .ok (.multianewarray 9 2, 4) := by decide +kernel
theorem dX0_init_32 : decode cX0_init 32 = .ok (.putfield 23, 3) := by decide +kernel
theorem dX0_init_35 : decode cX0_init 35 = .ok (.aload_n 0, 1) := by decide +kernel
theorem dX0_init_36 : decode cX0_init 36 = .ok (.iconst 4, 1) := by decide +kernel
theorem dX0_init_37 : decode cX0_init 37 = .ok (.newarray .boolean, 2) := by decide +kernel
theorem dX0_init_39 : decode cX0_init 39 = .ok (.putfield 26, 3) := by decide +kernel
theorem dX0_init_42 : decode cX0_init 42 = .ok (.aload_n 0, 1) := by decide +kernel
theorem dX0_init_43 : decode cX0_init 43 = .ok (.iconst 3, 1) := by decide +kernel
theorem dX0_init_44 : decode cX0_init 44 = .ok (.newarray .int, 2) := by decide +kernel
theorem dX0_init_46 : decode cX0_init 46 = .ok (.putfield 30, 3) := by decide +kernel
theorem dX0_init_49 : decode cX0_init 49 = .ok (.aload_n 0, 1) := by decide +kernel
theorem dX0_init_50 : decode cX0_init 50 = .ok (.iconst 0, 1) := by decide +kernel
theorem dX0_init_51 : decode cX0_init 51 = .ok (.putfield 34, 3) := by decide +kernel
theorem dX0_init_54 : decode cX0_init 54 = .ok (.aload_n 0, 1) := by decide +kernel
theorem dX0_init_55 : decode cX0_init 55 = .ok (.sipush 360, 3) := by decide +kernel
theorem dX0_init_58 : decode cX0_init 58 = .ok (.newarray .int, 2) := by decide +kernel
theorem dX0_init_60 : decode cX0_init 60 = .ok (.putfield 38, 3) := by decide +kernel
theorem dX0_init_63 : decode cX0_init 63 = .ok (.aload_n 0, 1) := by decide +kernel
theorem dX0_init_64 : decode cX0_init 64 = .ok (.iconst 0, 1) := by decide +kernel
theorem dX0_init_65 : decode cX0_init 65 = .ok (.putfield 41, 3) := by decide +kernel
theorem dX0_init_68 : decode cX0_init 68 = .ok (.aload_n 0, 1) := by decide +kernel
theorem dX0_init_69 : decode cX0_init 69 = .ok (.iconst 0, 1) := by decide +kernel
theorem dX0_init_70 : decode cX0_init 70 = .ok (.putfield 44, 3) := by decide +kernel
theorem dX0_init_73 : decode cX0_init 73 = .ok (.aload_n 0, 1) := by decide +kernel
theorem dX0_init_74 : decode cX0_init 74 = .ok (.aload_n 1, 1) := by decide +kernel
theorem dX0_init_75 : decode cX0_init 75 = .ok (.putfield 47, 3) := by decide +kernel
theorem dX0_init_78 : decode cX0_init 78 = .ok (.aload_n 0, 1) := by decide +kernel
theorem dX0_init_79 : decode cX0_init 79 = .ok (.aload_n 1, 1) := by decide +kernel
theorem dX0_init_80 : decode cX0_init 80 = .ok (.getfield 51, 3) := by decide +kernel
theorem dX0_init_83 : decode cX0_init 83 = .ok (.putfield 57, 3) := by decide +kernel
theorem dX0_init_86 : decode cX0_init 86 = .ok (.return_, 1) := by decide +kernel
theorem dX0_forget_0 : decode cX0_forget 0 = .ok (.iconst 0, 1) := by decide +kernel
theorem dX0_forget_1 : decode cX0_forget 1 = .ok (.istore_n 1, 1) := by decide +kernel
theorem dX0_forget_2 : decode cX0_forget 2 = .ok (.iload_n 1, 1) := by decide +kernel
theorem dX0_forget_3 : decode cX0_forget 3 = .ok (.iconst 3, 1) := by decide +kernel
theorem dX0_forget_4 : decode cX0_forget 4 = .ok (.if_icmp .gt 16, 3) := by decide +kernel
theorem dX0_forget_7 : decode cX0_forget 7 = .ok (.aload_n 0, 1) := by decide +kernel
theorem dX0_forget_8 : decode cX0_forget 8 = .ok (.getfield 26, 3) := by decide +kernel
theorem dX0_forget_11 : decode cX0_forget 11 = .ok (.iload_n 1, 1) := by decide +kernel
theorem dX0_forget_12 : decode cX0_forget 12 = .ok (.iconst 0, 1) := by decide +kernel
theorem dX0_forget_13 : decode cX0_forget 13 = .ok (.bastore, 1) := by decide +kernel
theorem dX0_forget_14 : decode cX0_forget 14 = .ok (.iinc 1 1, 3) := by decide +kernel
theorem dX0_forget_17 : decode cX0_forget 17 = .ok (.goto (-15), 3) := by decide +kernel
theorem dX0_forget_20 : decode cX0_forget 20 = .ok (.aload_n 0, 1) := by decide +kernel
theorem dX0_forget_21 : decode cX0_forget 21 = .ok (.iconst 0, 1) := by decide +kernel
theorem dX0_forget_22 : decode cX0_forget 22 = .ok (.putfield 34, 3) := by decide +kernel
theorem dX0_forget_25 : decode cX0_forget 25 = .ok (.aload_n 0, 1) := by decide +kernel
theorem dX0_forget_26 : decode cX0_forget 26 = .ok (.iconst 0, 1) := by decide +kernel
theorem dX0_forget_27 : decode cX0_forget 27 = .ok (.putfield 44, 3) := by decide +kernel
theorem dX0_forget_30 : decode cX0_forget 30 = .ok (.return_, 1) := by decide +kernel
theorem dX0_coloursFor_0 : decode cX0_coloursFor 0 = .ok (.iconst 0, 1) := by decide +kernel
theorem dX0_coloursFor_1 : decode cX0_coloursFor 1 = .ok (.istore_n 3, 1) := by decide +kernel
theorem dX0_coloursFor_2 : decode cX0_coloursFor 2 = .ok (.aload_n 0, 1) := by decide +kernel
theorem dX0_coloursFor_3 : decode cX0_coloursFor 3 = .ok (.getfield 11, 3) := by decide +kernel
theorem dX0_coloursFor_6 : decode cX0_coloursFor 6 = .ok (.iconst 1, 1) := by decide +kernel
theorem dX0_coloursFor_7 : decode cX0_coloursFor 7 = .ok (.aaload, 1) := by decide +kernel
theorem dX0_coloursFor_8 : decode cX0_coloursFor 8 = .ok (.astore 4, 2) := by decide +kernel
theorem dX0_coloursFor_10 : decode cX0_coloursFor 10 = .ok (.iconst 0, 1) := by decide +kernel
theorem dX0_coloursFor_11 : decode cX0_coloursFor 11 = .ok (.istore 5, 2) := by decide +kernel
theorem dX0_coloursFor_13 : decode cX0_coloursFor 13 = .ok (.iload 5, 2) := by decide +kernel
theorem dX0_coloursFor_15 : decode cX0_coloursFor 15 = .ok (.bipush 8, 2) := by decide +kernel
theorem dX0_coloursFor_17 : decode cX0_coloursFor 17 = .ok (.if_icmp .ge 64, 3) := by decide +kernel
theorem dX0_coloursFor_20 : decode cX0_coloursFor 20 = .ok (.aload_n 0, 1) := by decide +kernel
theorem dX0_coloursFor_21 : decode cX0_coloursFor 21 = .ok (.getfield 47, 3) := by decide +kernel
theorem dX0_coloursFor_24 : decode cX0_coloursFor 24 = .ok (.iconst (-1), 1) := by decide +kernel
theorem dX0_coloursFor_25 : decode cX0_coloursFor 25 = .ok (.invokevirtual 58, 3) := by decide +kernel
theorem dX0_coloursFor_28 : decode cX0_coloursFor 28 = .ok (.iconst 0, 1) := by decide +kernel
theorem dX0_coloursFor_29 : decode cX0_coloursFor 29 = .ok (.aload 4, 2) := by decide +kernel
theorem dX0_coloursFor_31 : decode cX0_coloursFor 31 = .ok (.iconst 0, 1) := by decide +kernel
theorem dX0_coloursFor_32 : decode cX0_coloursFor 32 = .ok (.bipush 36, 2) := by decide +kernel
theorem dX0_coloursFor_34 : decode cX0_coloursFor 34 = .ok (.invokestatic 62, 3) := by decide +kernel
theorem dX0_coloursFor_37 : decode cX0_coloursFor 37 = .ok (.aload 4, 2) := by decide +kernel
theorem dX0_coloursFor_39 : decode cX0_coloursFor 39 = .ok (.iload_n 1, 1) := by decide +kernel
theorem dX0_coloursFor_40 : decode cX0_coloursFor 40 = .ok (.iload 5, 2) := by decide +kernel
theorem dX0_coloursFor_42 : decode cX0_coloursFor 42 = .ok (.iastore, 1) := by decide +kernel
theorem dX0_coloursFor_43 : decode cX0_coloursFor 43 = .ok (.aload_n 0, 1) := by decide +kernel
theorem dX0_coloursFor_44 : decode cX0_coloursFor 44 = .ok (.iload_n 1, 1) := by decide +kernel
theorem dX0_coloursFor_45 : decode cX0_coloursFor 45 = .ok (.putfield 16, 3) := by decide +kernel
theorem dX0_coloursFor_48 : decode cX0_coloursFor 48 = .ok (.aload_n 0, 1) := by decide +kernel
theorem dX0_coloursFor_49 : decode cX0_coloursFor 49 = .ok (.iload_n 1, 1) := by decide +kernel
theorem dX0_coloursFor_50 : decode cX0_coloursFor 50 = .ok (.putfield 20, 3) := by decide +kernel
theorem dX0_coloursFor_53 : decode cX0_coloursFor 53 = .ok (.aload_n 0, 1) := by decide +kernel
theorem dX0_coloursFor_54 : decode cX0_coloursFor 54 = .ok (.iconst 0, 1) := by decide +kernel
theorem dX0_coloursFor_55 : decode cX0_coloursFor 55 = .ok (.aload 4, 2) := by decide +kernel
theorem dX0_coloursFor_57 : decode cX0_coloursFor 57 = .ok (.iconst 0, 1) := by decide +kernel
theorem dX0_coloursFor_58 : decode cX0_coloursFor 58 = .ok (.invokevirtual 68, 3) := by decide +kernel
theorem dX0_coloursFor_61 : decode cX0_coloursFor 61 = .ok (.aload_n 2, 1) := by decide +kernel
theorem dX0_coloursFor_62 : decode cX0_coloursFor 62 = .ok (.invokestatic 72, 3) := by decide +kernel
theorem dX0_coloursFor_65 : decode cX0_coloursFor 65 = .ok (.ifCond .eq 10, 3) := by decide +kernel
theorem dX0_coloursFor_68 : decode cX0_coloursFor 68 = .ok (.iload_n 3, 1) := by decide +kernel
theorem dX0_coloursFor_69 : decode cX0_coloursFor 69 = .ok (.iconst 1, 1) := by decide +kernel
theorem dX0_coloursFor_70 : decode cX0_coloursFor 70 = .ok (.iload 5, 2) := by decide +kernel
theorem dX0_coloursFor_72 : decode cX0_coloursFor 72 = .ok (.ishl, 1) := by decide +kernel
theorem dX0_coloursFor_73 : decode cX0_coloursFor 73 = .ok (.ior, 1) := by decide +kernel
theorem dX0_coloursFor_74 : decode cX0_coloursFor 74 = .ok (.istore_n 3, 1) := by decide +kernel
theorem dX0_coloursFor_75 : decode cX0_coloursFor 75 = .ok (.iinc 5 1, 3) := by decide +kernel
theorem dX0_coloursFor_78 : decode cX0_coloursFor 78 = .ok (.goto (-65), 3) := by decide +kernel
theorem dX0_coloursFor_81 : decode cX0_coloursFor 81 = .ok (.iload_n 3, 1) := by decide +kernel
theorem dX0_coloursFor_82 : decode cX0_coloursFor 82 = .ok (.ireturn, 1) := by decide +kernel
theorem dX0_findLooks_0 : decode cX0_findLooks 0 = .ok (.aload_n 0, 1) := by decide +kernel
theorem dX0_findLooks_1 : decode cX0_findLooks 1 = .ok (.getfield 26, 3) := by decide +kernel
theorem dX0_findLooks_4 : decode cX0_findLooks 4 = .ok (.iload_n 1, 1) := by decide +kernel
theorem dX0_findLooks_5 : decode cX0_findLooks 5 = .ok (.baload, 1) := by decide +kernel
theorem dX0_findLooks_6 : decode cX0_findLooks 6 = .ok (.ifCond .eq 4, 3) := by decide +kernel
theorem dX0_findLooks_9 : decode cX0_findLooks 9 = .ok (.return_, 1) := by decide +kernel
theorem dX0_findLooks_10 : decode cX0_findLooks 10 = .ok (.aload_n 0, 1) := by decide +kernel
theorem dX0_findLooks_11 : decode cX0_findLooks 11 = .ok (.getfield 26, 3) := by decide +kernel
theorem dX0_findLooks_14 : decode cX0_findLooks 14 = .ok (.iload_n 1, 1) := by decide +kernel
theorem dX0_findLooks_15 : decode cX0_findLooks 15 = .ok (.iconst 1, 1) := by decide +kernel
theorem dX0_findLooks_16 : decode cX0_findLooks 16 = .ok (.bastore, 1) := by decide +kernel
theorem dX0_findLooks_17 : decode cX0_findLooks 17 = .ok (.aload_n 0, 1) := by decide +kernel
theorem dX0_findLooks_18 : decode cX0_findLooks 18 = .ok (.getfield 23, 3) := by decide +kernel
theorem dX0_findLooks_21 : decode cX0_findLooks 21 = .ok (.iload_n 1, 1) := by decide +kernel
theorem dX0_findLooks_22 : decode cX0_findLooks 22 = .ok (.aaload, 1) := by decide +kernel
theorem dX0_findLooks_23 : decode cX0_findLooks 23 = .ok (.astore_n 2, 1) := by decide +kernel
theorem dX0_findLooks_24 : decode cX0_findLooks 24 = .ok (.aload_n 2, 1) := by decide +kernel
theorem dX0_findLooks_25 : decode cX0_findLooks 25 = .ok (.iconst 0, 1) := by decide +kernel
theorem dX0_findLooks_26 : decode cX0_findLooks 26 = .ok (.iconst (-1), 1) := by decide +kernel
theorem dX0_findLooks_27 : decode cX0_findLooks 27 = .ok (.iastore, 1) := by decide +kernel
theorem dX0_findLooks_28 : decode cX0_findLooks 28 = .ok (.iconst 0, 1) := by decide +kernel
theorem dX0_findLooks_29 : decode cX0_findLooks 29 = .ok (.istore_n 3, 1) := by decide +kernel
theorem dX0_findLooks_30 : decode cX0_findLooks 30 = .ok (.iload_n 3, 1) := by decide +kernel
theorem dX0_findLooks_31 : decode cX0_findLooks 31 = .ok (.iconst 1, 1) := by decide +kernel
theorem dX0_findLooks_32 : decode cX0_findLooks 32 = .ok (.aload_n 0, 1) := by decide +kernel
theorem dX0_findLooks_33 : decode cX0_findLooks 33 = .ok (.getfield 57, 3) := by decide +kernel
theorem dX0_findLooks_36 : decode cX0_findLooks 36 = .ok (.getfield 76, 3) := by decide +kernel
theorem dX0_findLooks_39 : decode cX0_findLooks 39 = .ok (.ishl, 1) := by decide +kernel
theorem dX0_findLooks_40 : decode cX0_findLooks 40 = .ok (.if_icmp .ge 82, 3) := by decide +kernel
theorem dX0_findLooks_43 : decode cX0_findLooks 43 = .ok (.iload_n 3, 1) := by decide +kernel
theorem dX0_findLooks_44 : decode cX0_findLooks 44 = .ok (.invokestatic 81, 3) := by decide +kernel
theorem dX0_findLooks_47 : decode cX0_findLooks 47 = .ok (.iload_n 1, 1) := by decide +kernel
theorem dX0_findLooks_48 : decode cX0_findLooks 48 = .ok (.if_icmp .eq 6, 3) := by decide +kernel
theorem dX0_findLooks_51 : decode cX0_findLooks 51 = .ok (.goto 65, 3) := by decide +kernel
theorem dX0_findLooks_54 : decode cX0_findLooks 54 = .ok (.aload_n 0, 1) := by decide +kernel
theorem dX0_findLooks_55 : decode cX0_findLooks 55 = .ok (.getfield 57, 3) := by decide +kernel
theorem dX0_findLooks_58 : decode cX0_findLooks 58 = .ok (.iload_n 3, 1) := by decide +kernel
theorem dX0_findLooks_59 : decode cX0_findLooks 59 = .ok (.putfield 87, 3) := by decide +kernel
theorem dX0_findLooks_62 : decode cX0_findLooks 62 = .ok (.aload_n 0, 1) := by decide +kernel
theorem dX0_findLooks_63 : decode cX0_findLooks 63 = .ok (.iload_n 3, 1) := by decide +kernel
theorem dX0_findLooks_64 : decode cX0_findLooks 64 = .ok (.invokevirtual 90, 3) := by decide +kernel
theorem dX0_findLooks_67 : decode cX0_findLooks 67 = .ok (.istore 4, 2) := by decide +kernel
theorem dX0_findLooks_69 : decode cX0_findLooks 69 = .ok (.aload_n 0, 1) := by decide +kernel
theorem dX0_findLooks_70 : decode cX0_findLooks 70 = .ok (.getfield 57, 3) := by decide +kernel
theorem dX0_findLooks_73 : decode cX0_findLooks 73 = .ok (.iconst 0, 1) := by decide +kernel
theorem dX0_findLooks_74 : decode cX0_findLooks 74 = .ok (.putfield 87, 3) := by decide +kernel
theorem dX0_findLooks_77 : decode cX0_findLooks 77 = .ok (.iload 4, 2) := by decide +kernel
theorem dX0_findLooks_79 : decode cX0_findLooks 79 = .ok (.aload_n 2, 1) := by decide +kernel
theorem dX0_findLooks_80 : decode cX0_findLooks 80 = .ok (.iconst 0, 1) := by decide +kernel
theorem dX0_findLooks_81 : decode cX0_findLooks 81 = .ok (.iaload, 1) := by decide +kernel
theorem dX0_findLooks_82 : decode cX0_findLooks 82 = .ok (.if_icmp .le 19, 3) := by decide +kernel
theorem dX0_findLooks_85 : decode cX0_findLooks 85 = .ok (.aload_n 2, 1) := by decide +kernel
theorem dX0_findLooks_86 : decode cX0_findLooks 86 = .ok (.iconst 0, 1) := by decide +kernel
theorem dX0_findLooks_87 : decode cX0_findLooks 87 = .ok (.iload 4, 2) := by decide +kernel
theorem dX0_findLooks_89 : decode cX0_findLooks 89 = .ok (.iastore, 1) := by decide +kernel
theorem dX0_findLooks_90 : decode cX0_findLooks 90 = .ok (.aload_n 2, 1) := by decide +kernel
theorem dX0_findLooks_91 : decode cX0_findLooks 91 = .ok (.iconst 1, 1) := by decide +kernel
theorem dX0_findLooks_92 : decode cX0_findLooks 92 = .ok (.iload_n 3, 1) := by decide +kernel
theorem dX0_findLooks_93 : decode cX0_findLooks 93 = .ok (.iastore, 1) := by decide +kernel
theorem dX0_findLooks_94 : decode cX0_findLooks 94 = .ok (.aload_n 2, 1) := by decide +kernel
theorem dX0_findLooks_95 : decode cX0_findLooks 95 = .ok (.iconst 2, 1) := by decide +kernel
theorem dX0_findLooks_96 : decode cX0_findLooks 96 = .ok (.iconst 1, 1) := by decide +kernel
theorem dX0_findLooks_97 : decode cX0_findLooks 97 = .ok (.iastore, 1) := by decide +kernel
theorem dX0_findLooks_98 : decode cX0_findLooks 98 = .ok (.goto 18, 3) := by decide +kernel
theorem dX0_findLooks_101 : decode cX0_findLooks 101 = .ok (.iload 4, 2) := by decide +kernel
theorem dX0_findLooks_103 : decode cX0_findLooks 103 = .ok (.aload_n 2, 1) := by decide +kernel
theorem dX0_findLooks_104 : decode cX0_findLooks 104 = .ok (.iconst 0, 1) := by decide +kernel
theorem dX0_findLooks_105 : decode cX0_findLooks 105 = .ok (.iaload, 1) := by decide +kernel
theorem dX0_findLooks_106 : decode cX0_findLooks 106 = .ok (.if_icmp .ne 10, 3) := by decide +kernel
theorem dX0_findLooks_109 : decode cX0_findLooks 109 = .ok (.aload_n 2, 1) := by decide +kernel
theorem dX0_findLooks_110 : decode cX0_findLooks 110 = .ok (.iconst 2, 1) := by decide +kernel
theorem dX0_findLooks_111 : decode cX0_findLooks 111 = .ok (.dup2, 1) := by decide +kernel
theorem dX0_findLooks_112 : decode cX0_findLooks 112 = .ok (.iaload, 1) := by decide +kernel
theorem dX0_findLooks_113 : decode cX0_findLooks 113 = .ok (.iconst 1, 1) := by decide +kernel
theorem dX0_findLooks_114 : decode cX0_findLooks 114 = .ok (.iadd, 1) := by decide +kernel
theorem dX0_findLooks_115 : decode cX0_findLooks 115 = .ok (.iastore, 1) := by decide +kernel
theorem dX0_findLooks_116 : decode cX0_findLooks 116 = .ok (.iinc 3 1, 3) := by decide +kernel
theorem dX0_findLooks_119 : decode cX0_findLooks 119 = .ok (.goto (-89), 3) := by decide +kernel
theorem dX0_findLooks_122 : decode cX0_findLooks 122 = .ok (.return_, 1) := by decide +kernel
theorem dX0_findGift_0 : decode cX0_findGift 0 = .ok (.aload_n 0, 1) := by decide +kernel
theorem dX0_findGift_1 : decode cX0_findGift 1 = .ok (.getfield 34, 3) := by decide +kernel
theorem dX0_findGift_4 : decode cX0_findGift 4 = .ok (.ifCond .eq 4, 3) := by decide +kernel
theorem dX0_findGift_7 : decode cX0_findGift 7 = .ok (.return_, 1) := by decide +kernel
theorem dX0_findGift_8 : decode cX0_findGift 8 = .ok (.aload_n 0, 1) := by decide +kernel
theorem dX0_findGift_9 : decode cX0_findGift 9 = .ok (.iconst 1, 1) := by decide +kernel
theorem dX0_findGift_10 : decode cX0_findGift 10 = .ok (.putfield 34, 3) := by decide +kernel
theorem dX0_findGift_13 : decode cX0_findGift 13 = .ok (.aload_n 0, 1) := by decide +kernel
theorem dX0_findGift_14 : decode cX0_findGift 14 = .ok (.getfield 30, 3) := by decide +kernel
theorem dX0_findGift_17 : decode cX0_findGift 17 = .ok (.iconst (-1), 1) := by decide +kernel
theorem dX0_findGift_18 : decode cX0_findGift 18 = .ok (.invokestatic 93, 3) := by decide +kernel
theorem dX0_findGift_21 : decode cX0_findGift 21 = .ok (.iconst 0, 1) := by decide +kernel
theorem dX0_findGift_22 : decode cX0_findGift 22 = .ok (.istore_n 1, 1) := by decide +kernel
theorem dX0_findGift_23 : decode cX0_findGift 23 = .ok (.iload_n 1, 1) := by decide +kernel
theorem dX0_findGift_24 : decode cX0_findGift 24 = .ok (.aload_n 0, 1) := by decide +kernel
theorem dX0_findGift_25 : decode cX0_findGift 25 = .ok (.getfield 57, 3) := by decide +kernel
theorem dX0_findGift_28 : decode cX0_findGift 28 = .ok (.getfield 76, 3) := by decide +kernel
theorem dX0_findGift_31 : decode cX0_findGift 31 = .ok (.if_icmp .ge 110, 3) := by decide +kernel
theorem dX0_findGift_34 : decode cX0_findGift 34 = .ok (.aload_n 0, 1) := by decide +kernel
theorem dX0_findGift_35 : decode cX0_findGift 35 = .ok (.getfield 57, 3) := by decide +kernel
theorem dX0_findGift_38 : decode cX0_findGift 38 = .ok (.getfield 99, 3) := by decide +kernel
theorem dX0_findGift_41 : decode cX0_findGift 41 = .ok (.iload_n 1, 1) := by decide +kernel
theorem dX0_findGift_42 : decode cX0_findGift 42 = .ok (.iaload, 1) := by decide +kernel
theorem dX0_findGift_43 : decode cX0_findGift 43 = .ok (.istore_n 2, 1) := by decide +kernel
theorem dX0_findGift_44 : decode cX0_findGift 44 = .ok (.iconst 0, 1) := by decide +kernel
theorem dX0_findGift_45 : decode cX0_findGift 45 = .ok (.istore_n 3, 1) := by decide +kernel
theorem dX0_findGift_46 : decode cX0_findGift 46 = .ok (.iload_n 3, 1) := by decide +kernel
theorem dX0_findGift_47 : decode cX0_findGift 47 = .ok (.bipush 8, 2) := by decide +kernel
theorem dX0_findGift_49 : decode cX0_findGift 49 = .ok (.if_icmp .ge 76, 3) := by decide +kernel
theorem dX0_findGift_52 : decode cX0_findGift 52 = .ok (.iload_n 2, 1) := by decide +kernel
theorem dX0_findGift_53 : decode cX0_findGift 53 = .ok (.iload_n 3, 1) := by decide +kernel
theorem dX0_findGift_54 : decode cX0_findGift 54 = .ok (.ishr, 1) := by decide +kernel
theorem dX0_findGift_55 : decode cX0_findGift 55 = .ok (.iconst 1, 1) := by decide +kernel
theorem dX0_findGift_56 : decode cX0_findGift 56 = .ok (.iand, 1) := by decide +kernel
theorem dX0_findGift_57 : decode cX0_findGift 57 = .ok (.ifCond .eq 6, 3) := by decide +kernel
theorem dX0_findGift_60 : decode cX0_findGift 60 = .ok (.goto 59, 3) := by decide +kernel
theorem dX0_findGift_63 : decode cX0_findGift 63 = .ok (.aload_n 0, 1) := by decide +kernel
theorem dX0_findGift_64 : decode cX0_findGift 64 = .ok (.getfield 57, 3) := by decide +kernel
theorem dX0_findGift_67 : decode cX0_findGift 67 = .ok (.getfield 99, 3) := by decide +kernel
theorem dX0_findGift_70 : decode cX0_findGift 70 = .ok (.iload_n 1, 1) := by decide +kernel
theorem dX0_findGift_71 : decode cX0_findGift 71 = .ok (.iload_n 2, 1) := by decide +kernel
theorem dX0_findGift_72 : decode cX0_findGift 72 = .ok (.iconst 1, 1) := by decide +kernel
theorem dX0_findGift_73 : decode cX0_findGift 73 = .ok (.iload_n 3, 1) := by decide +kernel
theorem dX0_findGift_74 : decode cX0_findGift 74 = .ok (.ishl, 1) := by decide +kernel
theorem dX0_findGift_75 : decode cX0_findGift 75 = .ok (.ior, 1) := by decide +kernel
theorem dX0_findGift_76 : decode cX0_findGift 76 = .ok (.iastore, 1) := by decide +kernel
theorem dX0_findGift_77 : decode cX0_findGift 77 = .ok (.aload_n 0, 1) := by decide +kernel
theorem dX0_findGift_78 : decode cX0_findGift 78 = .ok (.iconst 1, 1) := by decide +kernel
theorem dX0_findGift_79 : decode cX0_findGift 79 = .ok (.iload_n 1, 1) := by decide +kernel
theorem dX0_findGift_80 : decode cX0_findGift 80 = .ok (.ishl, 1) := by decide +kernel
theorem dX0_findGift_81 : decode cX0_findGift 81 = .ok (.invokevirtual 90, 3) := by decide +kernel
theorem dX0_findGift_84 : decode cX0_findGift 84 = .ok (.istore 4, 2) := by decide +kernel
theorem dX0_findGift_86 : decode cX0_findGift 86 = .ok (.iload 4, 2) := by decide +kernel
theorem dX0_findGift_88 : decode cX0_findGift 88 = .ok (.aload_n 0, 1) := by decide +kernel
theorem dX0_findGift_89 : decode cX0_findGift 89 = .ok (.getfield 30, 3) := by decide +kernel
theorem dX0_findGift_92 : decode cX0_findGift 92 = .ok (.iconst 0, 1) := by decide +kernel
theorem dX0_findGift_93 : decode cX0_findGift 93 = .ok (.iaload, 1) := by decide +kernel
theorem dX0_findGift_94 : decode cX0_findGift 94 = .ok (.if_icmp .le 25, 3) := by decide +kernel
theorem dX0_findGift_97 : decode cX0_findGift 97 = .ok (.aload_n 0, 1) := by decide +kernel
theorem dX0_findGift_98 : decode cX0_findGift 98 = .ok (.getfield 30, 3) := by decide +kernel
theorem dX0_findGift_101 : decode cX0_findGift 101 = .ok (.iconst 0, 1) := by decide +kernel
theorem dX0_findGift_102 : decode cX0_findGift 102 = .ok (.iload 4, 2) := by decide +kernel
theorem dX0_findGift_104 : decode cX0_findGift 104 = .ok (.iastore, 1) := by decide +kernel
theorem dX0_findGift_105 : decode cX0_findGift 105 = .ok (.aload_n 0, 1) := by decide +kernel
theorem dX0_findGift_106 : decode cX0_findGift 106 = .ok (.getfield 30, 3) := by decide +kernel
theorem dX0_findGift_109 : decode cX0_findGift 109 = .ok (.iconst 1, 1) := by decide +kernel
theorem dX0_findGift_110 : decode cX0_findGift 110 = .ok (.iload_n 1, 1) := by decide +kernel
theorem dX0_findGift_111 : decode cX0_findGift 111 = .ok (.iastore, 1) := by decide +kernel
theorem dX0_findGift_112 : decode cX0_findGift 112 = .ok (.aload_n 0, 1) := by decide +kernel
theorem dX0_findGift_113 : decode cX0_findGift 113 = .ok (.getfield 30, 3) := by decide +kernel
theorem dX0_findGift_116 : decode cX0_findGift 116 = .ok (.iconst 2, 1) := by decide +kernel
theorem dX0_findGift_117 : decode cX0_findGift 117 = .ok (.iload_n 3, 1) := by decide +kernel
theorem dX0_findGift_118 : decode cX0_findGift 118 = .ok (.iastore, 1) := by decide +kernel
theorem dX0_findGift_119 : decode cX0_findGift 119 = .ok (.iinc 3 1, 3) := by decide +kernel
theorem dX0_findGift_122 : decode cX0_findGift 122 = .ok (.goto (-76), 3) := by decide +kernel
theorem dX0_findGift_125 : decode cX0_findGift 125 = .ok (.aload_n 0, 1) := by decide +kernel
theorem dX0_findGift_126 : decode cX0_findGift 126 = .ok (.getfield 57, 3) := by decide +kernel
theorem dX0_findGift_129 : decode cX0_findGift 129 = .ok (.getfield 99, 3) := by decide +kernel
theorem dX0_findGift_132 : decode cX0_findGift 132 = .ok (.iload_n 1, 1) := by decide +kernel
theorem dX0_findGift_133 : decode cX0_findGift 133 = .ok (.iload_n 2, 1) := by decide +kernel
theorem dX0_findGift_134 : decode cX0_findGift 134 = .ok (.iastore, 1) := by decide +kernel
theorem dX0_findGift_135 : decode cX0_findGift 135 = .ok (.iinc 1 1, 3) := by decide +kernel
theorem dX0_findGift_138 : decode cX0_findGift 138 = .ok (.goto (-115), 3) := by decide +kernel
theorem dX0_findGift_141 : decode cX0_findGift 141 = .ok (.return_, 1) := by decide +kernel
theorem dX0_findSlips_0 : decode cX0_findSlips 0 = .ok (.aload_n 0, 1) := by decide +kernel
theorem dX0_findSlips_1 : decode cX0_findSlips 1 = .ok (.getfield 44, 3) := by decide +kernel
theorem dX0_findSlips_4 : decode cX0_findSlips 4 = .ok (.ifCond .eq 4, 3) := by decide +kernel
theorem dX0_findSlips_7 : decode cX0_findSlips 7 = .ok (.return_, 1) := by decide +kernel
theorem dX0_findSlips_8 : decode cX0_findSlips 8 = .ok (.aload_n 0, 1) := by decide +kernel
theorem dX0_findSlips_9 : decode cX0_findSlips 9 = .ok (.iconst 1, 1) := by decide +kernel
theorem dX0_findSlips_10 : decode cX0_findSlips 10 = .ok (.putfield 44, 3) := by decide +kernel
theorem dX0_findSlips_13 : decode cX0_findSlips 13 = .ok (.aload_n 0, 1) := by decide +kernel
theorem dX0_findSlips_14 : decode cX0_findSlips 14 = .ok (.iconst 0, 1) := by decide +kernel
theorem dX0_findSlips_15 : decode cX0_findSlips 15 = .ok (.putfield 41, 3) := by decide +kernel
theorem dX0_findSlips_18 : decode cX0_findSlips 18 = .ok (.iconst 0, 1) := by decide +kernel
theorem dX0_findSlips_19 : decode cX0_findSlips 19 = .ok (.istore_n 1, 1) := by decide +kernel
theorem dX0_findSlips_20 : decode cX0_findSlips 20 = .ok (.iload_n 1, 1) := by decide +kernel
theorem dX0_findSlips_21 : decode cX0_findSlips 21 = .ok (.aload_n 0, 1) := by decide +kernel
theorem dX0_findSlips_22 : decode cX0_findSlips 22 = .ok (.getfield 57, 3) := by decide +kernel
theorem dX0_findSlips_25 : decode cX0_findSlips 25 = .ok (.getfield 76, 3) := by decide +kernel
theorem dX0_findSlips_28 : decode cX0_findSlips 28 = .ok (.bipush 36, 2) := by decide +kernel
theorem dX0_findSlips_30 : decode cX0_findSlips 30 = .ok (.imul, 1) := by decide +kernel
theorem dX0_findSlips_31 : decode cX0_findSlips 31 = .ok (.if_icmp .ge 111, 3) := by decide +kernel
theorem dX0_findSlips_34 : decode cX0_findSlips 34 = .ok (.iload_n 1, 1) := by decide +kernel
theorem dX0_findSlips_35 : decode cX0_findSlips 35 = .ok (.bipush 36, 2) := by decide +kernel
theorem dX0_findSlips_37 : decode cX0_findSlips 37 = .ok (.idiv, 1) := by decide +kernel
theorem dX0_findSlips_38 : decode cX0_findSlips 38 = .ok (.istore_n 2, 1) := by decide +kernel
theorem dX0_findSlips_39 : decode cX0_findSlips 39 = .ok (.iload_n 1, 1) := by decide +kernel
theorem dX0_findSlips_40 : decode cX0_findSlips 40 = .ok (.bipush 36, 2) := by decide +kernel
theorem dX0_findSlips_42 : decode cX0_findSlips 42 = .ok (.irem, 1) := by decide +kernel
theorem dX0_findSlips_43 : decode cX0_findSlips 43 = .ok (.istore_n 3, 1) := by decide +kernel
theorem dX0_findSlips_44 : decode cX0_findSlips 44 = .ok (.iconst 0, 1) := by decide +kernel
theorem dX0_findSlips_45 : decode cX0_findSlips 45 = .ok (.istore 4, 2) := by decide +kernel
theorem dX0_findSlips_47 : decode cX0_findSlips 47 = .ok (.iconst 0, 1) := by decide +kernel
theorem dX0_findSlips_48 : decode cX0_findSlips 48 = .ok (.istore 5, 2) := by decide +kernel
theorem dX0_findSlips_50 : decode cX0_findSlips 50 = .ok (.iload 5, 2) := by decide +kernel
theorem dX0_findSlips_52 : decode cX0_findSlips 52 = .ok (.bipush 8, 2) := by decide +kernel
theorem dX0_findSlips_54 : decode cX0_findSlips 54 = .ok (.if_icmp .ge 60, 3) := by decide +kernel
theorem dX0_findSlips_57 : decode cX0_findSlips 57 = .ok (.iload 5, 2) := by decide +kernel
theorem dX0_findSlips_59 : decode cX0_findSlips 59 = .ok (.aload_n 0, 1) := by decide +kernel
theorem dX0_findSlips_60 : decode cX0_findSlips 60 = .ok (.getfield 47, 3) := by decide +kernel
theorem dX0_findSlips_63 : decode cX0_findSlips 63 = .ok (.getfield 102, 3) := by decide +kernel
theorem dX0_findSlips_66 : decode cX0_findSlips 66 = .ok (.iload_n 2, 1) := by decide +kernel
theorem dX0_findSlips_67 : decode cX0_findSlips 67 = .ok (.aaload, 1) := by decide +kernel
theorem dX0_findSlips_68 : decode cX0_findSlips 68 = .ok (.iload_n 3, 1) := by decide +kernel
theorem dX0_findSlips_69 : decode cX0_findSlips 69 = .ok (.iaload, 1) := by decide +kernel
theorem dX0_findSlips_70 : decode cX0_findSlips 70 = .ok (.if_icmp .ne 6, 3) := by decide +kernel
theorem dX0_findSlips_73 : decode cX0_findSlips 73 = .ok (.goto 35, 3) := by decide +kernel
theorem dX0_findSlips_76 : decode cX0_findSlips 76 = .ok (.aload_n 0, 1) := by decide +kernel
theorem dX0_findSlips_77 : decode cX0_findSlips 77 = .ok (.iload_n 2, 1) := by decide +kernel
theorem dX0_findSlips_78 : decode cX0_findSlips 78 = .ok (.iload_n 3, 1) := by decide +kernel
theorem dX0_findSlips_79 : decode cX0_findSlips 79 = .ok (.iload 5, 2) := by decide +kernel
theorem dX0_findSlips_81 : decode cX0_findSlips 81 = .ok (.invokevirtual 105, 3) := by decide +kernel
theorem dX0_findSlips_84 : decode cX0_findSlips 84 = .ok (.aload_n 0, 1) := by decide +kernel
theorem dX0_findSlips_85 : decode cX0_findSlips 85 = .ok (.getfield 47, 3) := by decide +kernel
theorem dX0_findSlips_88 : decode cX0_findSlips 88 = .ok (.getfield 109, 3) := by decide +kernel
theorem dX0_findSlips_91 : decode cX0_findSlips 91 = .ok (.iconst 2, 1) := by decide +kernel
theorem dX0_findSlips_92 : decode cX0_findSlips 92 = .ok (.aaload, 1) := by decide +kernel
theorem dX0_findSlips_93 : decode cX0_findSlips 93 = .ok (.invokestatic 72, 3) := by decide +kernel
theorem dX0_findSlips_96 : decode cX0_findSlips 96 = .ok (.ifCond .eq 12, 3) := by decide +kernel
theorem dX0_findSlips_99 : decode cX0_findSlips 99 = .ok (.iload 4, 2) := by decide +kernel
theorem dX0_findSlips_101 : decode cX0_findSlips 101 = .ok (.iconst 1, 1) := by decide +kernel
theorem dX0_findSlips_102 : decode cX0_findSlips 102 = .ok (.iload 5, 2) := by decide +kernel
theorem dX0_findSlips_104 : decode cX0_findSlips 104 = .ok (.ishl, 1) := by decide +kernel
theorem dX0_findSlips_105 : decode cX0_findSlips 105 = .ok (.ior, 1) := by decide +kernel
theorem dX0_findSlips_106 : decode cX0_findSlips 106 = .ok (.istore 4, 2) := by decide +kernel
theorem dX0_findSlips_108 : decode cX0_findSlips 108 = .ok (.iinc 5 1, 3) := by decide +kernel
theorem dX0_findSlips_111 : decode cX0_findSlips 111 = .ok (.goto (-61), 3) := by decide +kernel
theorem dX0_findSlips_114 : decode cX0_findSlips 114 = .ok (.aload_n 0, 1) := by decide +kernel
theorem dX0_findSlips_115 : decode cX0_findSlips 115 = .ok (.getfield 38, 3) := by decide +kernel
theorem dX0_findSlips_118 : decode cX0_findSlips 118 = .ok (.iload_n 1, 1) := by decide +kernel
theorem dX0_findSlips_119 : decode cX0_findSlips 119 = .ok (.iload 4, 2) := by decide +kernel
theorem dX0_findSlips_121 : decode cX0_findSlips 121 = .ok (.iastore, 1) := by decide +kernel
theorem dX0_findSlips_122 : decode cX0_findSlips 122 = .ok (.aload_n 0, 1) := by decide +kernel
theorem dX0_findSlips_123 : decode cX0_findSlips 123 = .ok (.dup, 1) := by decide +kernel
theorem dX0_findSlips_124 : decode cX0_findSlips 124 = .ok (.getfield 41, 3) := by decide +kernel
theorem dX0_findSlips_127 : decode cX0_findSlips 127 = .ok (.iload 4, 2) := by decide +kernel
theorem dX0_findSlips_129 : decode cX0_findSlips 129 = .ok (.invokestatic 81, 3) := by decide +kernel
theorem dX0_findSlips_132 : decode cX0_findSlips 132 = .ok (.iadd, 1) := by decide +kernel
theorem dX0_findSlips_133 : decode cX0_findSlips 133 = .ok (.putfield 41, 3) := by decide +kernel
theorem dX0_findSlips_136 : decode cX0_findSlips 136 = .ok (.iinc 1 1, 3) := by decide +kernel
theorem dX0_findSlips_139 : decode cX0_findSlips 139 = .ok (.goto (-119), 3) := by decide +kernel
theorem dX0_findSlips_142 : decode cX0_findSlips 142 = .ok (.return_, 1) := by decide +kernel
theorem dX0_slipAt_0 : decode cX0_slipAt 0 = .ok (.iload_n 1, 1) := by decide +kernel
theorem dX0_slipAt_1 : decode cX0_slipAt 1 = .ok (.istore_n 2, 1) := by decide +kernel
theorem dX0_slipAt_2 : decode cX0_slipAt 2 = .ok (.iload_n 2, 1) := by decide +kernel
theorem dX0_slipAt_3 : decode cX0_slipAt 3 = .ok (.ifCond .lt 11, 3) := by decide +kernel
theorem dX0_slipAt_6 : decode cX0_slipAt 6 = .ok (.iload_n 2, 1) := by decide +kernel
theorem dX0_slipAt_7 : decode cX0_slipAt 7 = .ok (.aload_n 0, 1) := by decide +kernel
theorem dX0_slipAt_8 : decode cX0_slipAt 8 = .ok (.getfield 41, 3) := by decide +kernel
theorem dX0_slipAt_11 : decode cX0_slipAt 11 = .ok (.if_icmp .lt 5, 3) := by decide +kernel
theorem dX0_slipAt_14 : decode cX0_slipAt 14 = .ok (.iconst (-1), 1) := by decide +kernel
theorem dX0_slipAt_15 : decode cX0_slipAt 15 = .ok (.ireturn, 1) := by decide +kernel
theorem dX0_slipAt_16 : decode cX0_slipAt 16 = .ok (.iconst 0, 1) := by decide +kernel
theorem dX0_slipAt_17 : decode cX0_slipAt 17 = .ok (.istore_n 3, 1) := by decide +kernel
theorem dX0_slipAt_18 : decode cX0_slipAt 18 = .ok (.iload_n 3, 1) := by decide +kernel
theorem dX0_slipAt_19 : decode cX0_slipAt 19 = .ok (.aload_n 0, 1) := by decide +kernel
theorem dX0_slipAt_20 : decode cX0_slipAt 20 = .ok (.getfield 57, 3) := by decide +kernel
theorem dX0_slipAt_23 : decode cX0_slipAt 23 = .ok (.getfield 76, 3) := by decide +kernel
theorem dX0_slipAt_26 : decode cX0_slipAt 26 = .ok (.bipush 36, 2) := by decide +kernel
theorem dX0_slipAt_28 : decode cX0_slipAt 28 = .ok (.imul, 1) := by decide +kernel
theorem dX0_slipAt_29 : decode cX0_slipAt 29 = .ok (.if_icmp .ge 57, 3) := by decide +kernel
theorem dX0_slipAt_32 : decode cX0_slipAt 32 = .ok (.iconst 0, 1) := by decide +kernel
theorem dX0_slipAt_33 : decode cX0_slipAt 33 = .ok (.istore 4, 2) := by decide +kernel
theorem dX0_slipAt_35 : decode cX0_slipAt 35 = .ok (.iload 4, 2) := by decide +kernel
theorem dX0_slipAt_37 : decode cX0_slipAt 37 = .ok (.bipush 8, 2) := by decide +kernel
theorem dX0_slipAt_39 : decode cX0_slipAt 39 = .ok (.if_icmp .ge 41, 3) := by decide +kernel
theorem dX0_slipAt_42 : decode cX0_slipAt 42 = .ok (.aload_n 0, 1) := by decide +kernel
theorem dX0_slipAt_43 : decode cX0_slipAt 43 = .ok (.getfield 38, 3) := by decide +kernel
theorem dX0_slipAt_46 : decode cX0_slipAt 46 = .ok (.iload_n 3, 1) := by decide +kernel
theorem dX0_slipAt_47 : decode cX0_slipAt 47 = .ok (.iaload, 1) := by decide +kernel
theorem dX0_slipAt_48 : decode cX0_slipAt 48 = .ok (.iload 4, 2) := by decide +kernel
theorem dX0_slipAt_50 : decode cX0_slipAt 50 = .ok (.ishr, 1) := by decide +kernel
theorem dX0_slipAt_51 : decode cX0_slipAt 51 = .ok (.iconst 1, 1) := by decide +kernel
theorem dX0_slipAt_52 : decode cX0_slipAt 52 = .ok (.iand, 1) := by decide +kernel
theorem dX0_slipAt_53 : decode cX0_slipAt 53 = .ok (.ifCond .ne 6, 3) := by decide +kernel
theorem dX0_slipAt_56 : decode cX0_slipAt 56 = .ok (.goto 18, 3) := by decide +kernel
theorem dX0_slipAt_59 : decode cX0_slipAt 59 = .ok (.iload_n 2, 1) := by decide +kernel
theorem dX0_slipAt_60 : decode cX0_slipAt 60 = .ok (.ifCond .ne 11, 3) := by decide +kernel
theorem dX0_slipAt_63 : decode cX0_slipAt 63 = .ok (.iload_n 3, 1) := by decide +kernel
theorem dX0_slipAt_64 : decode cX0_slipAt 64 = .ok (.bipush 8, 2) := by decide +kernel
theorem dX0_slipAt_66 : decode cX0_slipAt 66 = .ok (.imul, 1) := by decide +kernel
theorem dX0_slipAt_67 : decode cX0_slipAt 67 = .ok (.iload 4, 2) := by decide +kernel
theorem dX0_slipAt_69 : decode cX0_slipAt 69 = .ok (.iadd, 1) := by decide +kernel
theorem dX0_slipAt_70 : decode cX0_slipAt 70 = .ok (.ireturn, 1) := by decide +kernel
theorem dX0_slipAt_71 : decode cX0_slipAt 71 = .ok (.iinc 2 (-1), 3) := by decide +kernel
theorem dX0_slipAt_74 : decode cX0_slipAt 74 = .ok (.iinc 4 1, 3) := by decide +kernel
theorem dX0_slipAt_77 : decode cX0_slipAt 77 = .ok (.goto (-42), 3) := by decide +kernel
theorem dX0_slipAt_80 : decode cX0_slipAt 80 = .ok (.iinc 3 1, 3) := by decide +kernel
theorem dX0_slipAt_83 : decode cX0_slipAt 83 = .ok (.goto (-65), 3) := by decide +kernel
theorem dX0_slipAt_86 : decode cX0_slipAt 86 = .ok (.iconst (-1), 1) := by decide +kernel
theorem dX0_slipAt_87 : decode cX0_slipAt 87 = .ok (.ireturn, 1) := by decide +kernel
theorem dX0_likenessWithout_0 : decode cX0_likenessWithout 0 = .ok (.aload_n 0, 1) := by decide +kernel
theorem dX0_likenessWithout_1 : decode cX0_likenessWithout 1 = .ok (.iconst 0, 1) := by decide +kernel
theorem dX0_likenessWithout_2 : decode cX0_likenessWithout 2 = .ok (.putfield 16, 3) := by decide +kernel
theorem dX0_likenessWithout_5 : decode cX0_likenessWithout 5 = .ok (.aload_n 0, 1) := by decide +kernel
theorem dX0_likenessWithout_6 : decode cX0_likenessWithout 6 = .ok (.iconst (-1), 1) := by decide +kernel
theorem dX0_likenessWithout_7 : decode cX0_likenessWithout 7 = .ok (.putfield 20, 3) := by decide +kernel
theorem dX0_likenessWithout_10 : decode cX0_likenessWithout 10 = .ok (.aload_n 0, 1) := by decide +kernel
theorem dX0_likenessWithout_11 : decode cX0_likenessWithout 11 = .ok (.iconst 0, 1) := by decide +kernel
theorem dX0_likenessWithout_12 : decode cX0_likenessWithout 12 = .ok (.aload_n 0, 1) := by decide +kernel
theorem dX0_likenessWithout_13 : decode cX0_likenessWithout 13 = .ok (.getfield 47, 3) := by decide +kernel
theorem dX0_likenessWithout_16 : decode cX0_likenessWithout 16 = .ok (.iconst (-1), 1) := by decide +kernel
theorem dX0_likenessWithout_17 : decode cX0_likenessWithout 17 = .ok (.invokevirtual 58, 3) := by decide +kernel
theorem dX0_likenessWithout_20 : decode cX0_likenessWithout 20 = .ok (.iload_n 1, 1) := by decide +kernel
theorem dX0_likenessWithout_21 : decode cX0_likenessWithout 21 = .ok (.invokevirtual 68, 3) := by decide +kernel
theorem dX0_likenessWithout_24 : decode cX0_likenessWithout 24 = .ok (.aload_n 0, 1) := by decide +kernel
theorem dX0_likenessWithout_25 : decode cX0_likenessWithout 25 = .ok (.getfield 47, 3) := by decide +kernel
theorem dX0_likenessWithout_28 : decode cX0_likenessWithout 28 = .ok (.iconst (-1), 1) := by decide +kernel
theorem dX0_likenessWithout_29 : decode cX0_likenessWithout 29 = .ok (.invokevirtual 58, 3) := by decide +kernel
theorem dX0_likenessWithout_32 : decode cX0_likenessWithout 32 = .ok (.invokestatic 112, 3) := by decide +kernel
theorem dX0_likenessWithout_35 : decode cX0_likenessWithout 35 = .ok (.ireturn, 1) := by decide +kernel
theorem dX0_endAfterSlip_0 : decode cX0_endAfterSlip 0 = .ok (.aload_n 0, 1) := by decide +kernel
theorem dX0_endAfterSlip_1 : decode cX0_endAfterSlip 1 = .ok (.getfield 11, 3) := by decide +kernel
theorem dX0_endAfterSlip_4 : decode cX0_endAfterSlip 4 = .ok (.iload_n 1, 1) := by decide +kernel
theorem dX0_endAfterSlip_5 : decode cX0_endAfterSlip 5 = .ok (.iconst 1, 1) := by decide +kernel
theorem dX0_endAfterSlip_6 : decode cX0_endAfterSlip 6 = .ok (.iand, 1) := by decide +kernel
theorem dX0_endAfterSlip_7 : decode cX0_endAfterSlip 7 = .ok (.aaload, 1) := by decide +kernel
theorem dX0_endAfterSlip_8 : decode cX0_endAfterSlip 8 = .ok (.astore 4, 2) := by decide +kernel
theorem dX0_endAfterSlip_10 : decode cX0_endAfterSlip 10 = .ok (.aload_n 0, 1) := by decide +kernel
theorem dX0_endAfterSlip_11 : decode cX0_endAfterSlip 11 = .ok (.getfield 47, 3) := by decide +kernel
theorem dX0_endAfterSlip_14 : decode cX0_endAfterSlip 14 = .ok (.getfield 102, 3) := by decide +kernel
theorem dX0_endAfterSlip_17 : decode cX0_endAfterSlip 17 = .ok (.iload_n 1, 1) := by decide +kernel
theorem dX0_endAfterSlip_18 : decode cX0_endAfterSlip 18 = .ok (.aaload, 1) := by decide +kernel
theorem dX0_endAfterSlip_19 : decode cX0_endAfterSlip 19 = .ok (.iconst 0, 1) := by decide +kernel
theorem dX0_endAfterSlip_20 : decode cX0_endAfterSlip 20 = .ok (.aload 4, 2) := by decide +kernel
theorem dX0_endAfterSlip_22 : decode cX0_endAfterSlip 22 = .ok (.iconst 0, 1) := by decide +kernel
theorem dX0_endAfterSlip_23 : decode cX0_endAfterSlip 23 = .ok (.bipush 36, 2) := by decide +kernel
theorem dX0_endAfterSlip_25 : decode cX0_endAfterSlip 25 = .ok (.invokestatic 62, 3) := by decide +kernel
theorem dX0_endAfterSlip_28 : decode cX0_endAfterSlip 28 = .ok (.aload 4, 2) := by decide +kernel
theorem dX0_endAfterSlip_30 : decode cX0_endAfterSlip 30 = .ok (.iload_n 2, 1) := by decide +kernel
theorem dX0_endAfterSlip_31 : decode cX0_endAfterSlip 31 = .ok (.iload_n 3, 1) := by decide +kernel
theorem dX0_endAfterSlip_32 : decode cX0_endAfterSlip 32 = .ok (.iastore, 1) := by decide +kernel
theorem dX0_endAfterSlip_33 : decode cX0_endAfterSlip 33 = .ok (.aload_n 0, 1) := by decide +kernel
theorem dX0_endAfterSlip_34 : decode cX0_endAfterSlip 34 = .ok (.iload_n 1, 1) := by decide +kernel
theorem dX0_endAfterSlip_35 : decode cX0_endAfterSlip 35 = .ok (.aload_n 0, 1) := by decide +kernel
theorem dX0_endAfterSlip_36 : decode cX0_endAfterSlip 36 = .ok (.getfield 47, 3) := by decide +kernel
theorem dX0_endAfterSlip_39 : decode cX0_endAfterSlip 39 = .ok (.iload_n 1, 1) := by decide +kernel
theorem dX0_endAfterSlip_40 : decode cX0_endAfterSlip 40 = .ok (.iconst 1, 1) := by decide +kernel
theorem dX0_endAfterSlip_41 : decode cX0_endAfterSlip 41 = .ok (.isub, 1) := by decide +kernel
theorem dX0_endAfterSlip_42 : decode cX0_endAfterSlip 42 = .ok (.invokevirtual 58, 3) := by decide +kernel
theorem dX0_endAfterSlip_45 : decode cX0_endAfterSlip 45 = .ok (.aload 4, 2) := by decide +kernel
theorem dX0_endAfterSlip_47 : decode cX0_endAfterSlip 47 = .ok (.iload_n 2, 1) := by decide +kernel
theorem dX0_endAfterSlip_48 : decode cX0_endAfterSlip 48 = .ok (.iconst 1, 1) := by decide +kernel
theorem dX0_endAfterSlip_49 : decode cX0_endAfterSlip 49 = .ok (.iadd, 1) := by decide +kernel
theorem dX0_endAfterSlip_50 : decode cX0_endAfterSlip 50 = .ok (.iload_n 2, 1) := by decide +kernel
theorem dX0_endAfterSlip_51 : decode cX0_endAfterSlip 51 = .ok (.bipush 6, 2) := by decide +kernel
theorem dX0_endAfterSlip_53 : decode cX0_endAfterSlip 53 = .ok (.iadd, 1) := by decide +kernel
theorem dX0_endAfterSlip_54 : decode cX0_endAfterSlip 54 = .ok (.invokevirtual 116, 3) := by decide +kernel
theorem dX0_endAfterSlip_57 : decode cX0_endAfterSlip 57 = .ok (.aload_n 0, 1) := by decide +kernel
theorem dX0_endAfterSlip_58 : decode cX0_endAfterSlip 58 = .ok (.iload_n 2, 1) := by decide +kernel
theorem dX0_endAfterSlip_59 : decode cX0_endAfterSlip 59 = .ok (.putfield 16, 3) := by decide +kernel
theorem dX0_endAfterSlip_62 : decode cX0_endAfterSlip 62 = .ok (.aload_n 0, 1) := by decide +kernel
theorem dX0_endAfterSlip_63 : decode cX0_endAfterSlip 63 = .ok (.aload_n 0, 1) := by decide +kernel
theorem dX0_endAfterSlip_64 : decode cX0_endAfterSlip 64 = .ok (.getfield 20, 3) := by decide +kernel
theorem dX0_endAfterSlip_67 : decode cX0_endAfterSlip 67 = .ok (.iload_n 2, 1) := by decide +kernel
theorem dX0_endAfterSlip_68 : decode cX0_endAfterSlip 68 = .ok (.invokestatic 120, 3) := by decide +kernel
theorem dX0_endAfterSlip_71 : decode cX0_endAfterSlip 71 = .ok (.putfield 20, 3) := by decide +kernel
theorem dX0_endAfterSlip_74 : decode cX0_endAfterSlip 74 = .ok (.aload_n 0, 1) := by decide +kernel
theorem dX0_endAfterSlip_75 : decode cX0_endAfterSlip 75 = .ok (.iload_n 1, 1) := by decide +kernel
theorem dX0_endAfterSlip_76 : decode cX0_endAfterSlip 76 = .ok (.iconst 1, 1) := by decide +kernel
theorem dX0_endAfterSlip_77 : decode cX0_endAfterSlip 77 = .ok (.iadd, 1) := by decide +kernel
theorem dX0_endAfterSlip_78 : decode cX0_endAfterSlip 78 = .ok (.aload 4, 2) := by decide +kernel
theorem dX0_endAfterSlip_80 : decode cX0_endAfterSlip 80 = .ok (.iconst 0, 1) := by decide +kernel
theorem dX0_endAfterSlip_81 : decode cX0_endAfterSlip 81 = .ok (.invokevirtual 68, 3) := by decide +kernel
theorem dX0_endAfterSlip_84 : decode cX0_endAfterSlip 84 = .ok (.areturn, 1) := by decide +kernel
theorem dX0_endFrom_0 : decode cX0_endFrom 0 = .ok (.aload_n 2, 1) := by decide +kernel
theorem dX0_endFrom_1 : decode cX0_endFrom 1 = .ok (.astore 4, 2) := by decide +kernel
theorem dX0_endFrom_3 : decode cX0_endFrom 3 = .ok (.iload_n 1, 1) := by decide +kernel
theorem dX0_endFrom_4 : decode cX0_endFrom 4 = .ok (.istore 5, 2) := by decide +kernel
theorem dX0_endFrom_6 : decode cX0_endFrom 6 = .ok (.iload 5, 2) := by decide +kernel
theorem dX0_endFrom_8 : decode cX0_endFrom 8 = .ok (.aload_n 0, 1) := by decide +kernel
theorem dX0_endFrom_9 : decode cX0_endFrom 9 = .ok (.getfield 57, 3) := by decide +kernel
theorem dX0_endFrom_12 : decode cX0_endFrom 12 = .ok (.getfield 76, 3) := by decide +kernel
theorem dX0_endFrom_15 : decode cX0_endFrom 15 = .ok (.if_icmp .ge 127, 3) := by decide +kernel
theorem dX0_endFrom_18 : decode cX0_endFrom 18 = .ok (.aload_n 0, 1) := by decide +kernel
theorem dX0_endFrom_19 : decode cX0_endFrom 19 = .ok (.getfield 11, 3) := by decide +kernel
theorem dX0_endFrom_22 : decode cX0_endFrom 22 = .ok (.iload 5, 2) := by decide +kernel
theorem dX0_endFrom_24 : decode cX0_endFrom 24 = .ok (.iconst 1, 1) := by decide +kernel
theorem dX0_endFrom_25 : decode cX0_endFrom 25 = .ok (.iand, 1) := by decide +kernel
theorem dX0_endFrom_26 : decode cX0_endFrom 26 = .ok (.aaload, 1) := by decide +kernel
theorem dX0_endFrom_27 : decode cX0_endFrom 27 = .ok (.astore 6, 2) := by decide +kernel
theorem dX0_endFrom_29 : decode cX0_endFrom 29 = .ok (.iload_n 3, 1) := by decide +kernel
theorem dX0_endFrom_30 : decode cX0_endFrom 30 = .ok (.iload 5, 2) := by decide +kernel
theorem dX0_endFrom_32 : decode cX0_endFrom 32 = .ok (.ishr, 1) := by decide +kernel
theorem dX0_endFrom_33 : decode cX0_endFrom 33 = .ok (.iconst 1, 1) := by decide +kernel
theorem dX0_endFrom_34 : decode cX0_endFrom 34 = .ok (.iand, 1) := by decide +kernel
theorem dX0_endFrom_35 : decode cX0_endFrom 35 = .ok (.ifCond .eq 34, 3) := by decide +kernel
theorem dX0_endFrom_38 : decode cX0_endFrom 38 = .ok (.aload_n 0, 1) := by decide +kernel
theorem dX0_endFrom_39 : decode cX0_endFrom 39 = .ok (.getfield 57, 3) := by decide +kernel
theorem dX0_endFrom_42 : decode cX0_endFrom 42 = .ok (.iload 5, 2) := by decide +kernel
theorem dX0_endFrom_44 : decode cX0_endFrom 44 = .ok (.aload 4, 2) := by decide +kernel
theorem dX0_endFrom_46 : decode cX0_endFrom 46 = .ok (.aload 6, 2) := by decide +kernel
theorem dX0_endFrom_48 : decode cX0_endFrom 48 = .ok (.invokevirtual 126, 3) := by decide +kernel
theorem dX0_endFrom_51 : decode cX0_endFrom 51 = .ok (.aload_n 0, 1) := by decide +kernel
theorem dX0_endFrom_52 : decode cX0_endFrom 52 = .ok (.iconst 0, 1) := by decide +kernel
theorem dX0_endFrom_53 : decode cX0_endFrom 53 = .ok (.putfield 16, 3) := by decide +kernel
theorem dX0_endFrom_56 : decode cX0_endFrom 56 = .ok (.aload_n 0, 1) := by decide +kernel
theorem dX0_endFrom_57 : decode cX0_endFrom 57 = .ok (.bipush 35, 2) := by decide +kernel
theorem dX0_endFrom_59 : decode cX0_endFrom 59 = .ok (.putfield 20, 3) := by decide +kernel
theorem dX0_endFrom_62 : decode cX0_endFrom 62 = .ok (.aload 6, 2) := by decide +kernel
theorem dX0_endFrom_64 : decode cX0_endFrom 64 = .ok (.astore 4, 2) := by decide +kernel
theorem dX0_endFrom_66 : decode cX0_endFrom 66 = .ok (.goto 70, 3) := by decide +kernel
theorem dX0_endFrom_69 : decode cX0_endFrom 69 = .ok (.aload_n 0, 1) := by decide +kernel
theorem dX0_endFrom_70 : decode cX0_endFrom 70 = .ok (.getfield 20, 3) := by decide +kernel
theorem dX0_endFrom_73 : decode cX0_endFrom 73 = .ok (.aload_n 0, 1) := by decide +kernel
theorem dX0_endFrom_74 : decode cX0_endFrom 74 = .ok (.getfield 16, 3) := by decide +kernel
theorem dX0_endFrom_77 : decode cX0_endFrom 77 = .ok (.if_icmp .ge 18, 3) := by decide +kernel
theorem dX0_endFrom_80 : decode cX0_endFrom 80 = .ok (.aload_n 0, 1) := by decide +kernel
theorem dX0_endFrom_81 : decode cX0_endFrom 81 = .ok (.getfield 47, 3) := by decide +kernel
theorem dX0_endFrom_84 : decode cX0_endFrom 84 = .ok (.getfield 102, 3) := by decide +kernel
theorem dX0_endFrom_87 : decode cX0_endFrom 87 = .ok (.iload 5, 2) := by decide +kernel
theorem dX0_endFrom_89 : decode cX0_endFrom 89 = .ok (.aaload, 1) := by decide +kernel
theorem dX0_endFrom_90 : decode cX0_endFrom 90 = .ok (.astore 4, 2) := by decide +kernel
theorem dX0_endFrom_92 : decode cX0_endFrom 92 = .ok (.goto 44, 3) := by decide +kernel
theorem dX0_endFrom_95 : decode cX0_endFrom 95 = .ok (.aload_n 0, 1) := by decide +kernel
theorem dX0_endFrom_96 : decode cX0_endFrom 96 = .ok (.getfield 47, 3) := by decide +kernel
theorem dX0_endFrom_99 : decode cX0_endFrom 99 = .ok (.getfield 102, 3) := by decide +kernel
theorem dX0_endFrom_102 : decode cX0_endFrom 102 = .ok (.iload 5, 2) := by decide +kernel
theorem dX0_endFrom_104 : decode cX0_endFrom 104 = .ok (.aaload, 1) := by decide +kernel
theorem dX0_endFrom_105 : decode cX0_endFrom 105 = .ok (.iconst 0, 1) := by decide +kernel
theorem dX0_endFrom_106 : decode cX0_endFrom 106 = .ok (.aload 6, 2) := by decide +kernel
theorem dX0_endFrom_108 : decode cX0_endFrom 108 = .ok (.iconst 0, 1) := by decide +kernel
theorem dX0_endFrom_109 : decode cX0_endFrom 109 = .ok (.bipush 36, 2) := by decide +kernel
theorem dX0_endFrom_111 : decode cX0_endFrom 111 = .ok (.invokestatic 62, 3) := by decide +kernel
theorem dX0_endFrom_114 : decode cX0_endFrom 114 = .ok (.aload_n 0, 1) := by decide +kernel
theorem dX0_endFrom_115 : decode cX0_endFrom 115 = .ok (.iload 5, 2) := by decide +kernel
theorem dX0_endFrom_117 : decode cX0_endFrom 117 = .ok (.aload 4, 2) := by decide +kernel
theorem dX0_endFrom_119 : decode cX0_endFrom 119 = .ok (.aload 6, 2) := by decide +kernel
theorem dX0_endFrom_121 : decode cX0_endFrom 121 = .ok (.aload_n 0, 1) := by decide +kernel
theorem dX0_endFrom_122 : decode cX0_endFrom 122 = .ok (.getfield 16, 3) := by decide +kernel
theorem dX0_endFrom_125 : decode cX0_endFrom 125 = .ok (.aload_n 0, 1) := by decide +kernel
theorem dX0_endFrom_126 : decode cX0_endFrom 126 = .ok (.getfield 20, 3) := by decide +kernel
theorem dX0_endFrom_129 : decode cX0_endFrom 129 = .ok (.invokevirtual 116, 3) := by decide +kernel
theorem dX0_endFrom_132 : decode cX0_endFrom 132 = .ok (.aload 6, 2) := by decide +kernel
theorem dX0_endFrom_134 : decode cX0_endFrom 134 = .ok (.astore 4, 2) := by decide +kernel
theorem dX0_endFrom_136 : decode cX0_endFrom 136 = .ok (.iinc 5 1, 3) := by decide +kernel
theorem dX0_endFrom_139 : decode cX0_endFrom 139 = .ok (.goto (-133), 3) := by decide +kernel
theorem dX0_endFrom_142 : decode cX0_endFrom 142 = .ok (.aload 4, 2) := by decide +kernel
theorem dX0_endFrom_144 : decode cX0_endFrom 144 = .ok (.areturn, 1) := by decide +kernel
theorem dX0_follow_0 : decode cX0_follow 0 = .ok (.aload_n 0, 1) := by decide +kernel
theorem dX0_follow_1 : decode cX0_follow 1 = .ok (.getfield 47, 3) := by decide +kernel
theorem dX0_follow_4 : decode cX0_follow 4 = .ok (.iload_n 1, 1) := by decide +kernel
theorem dX0_follow_5 : decode cX0_follow 5 = .ok (.iconst 1, 1) := by decide +kernel
theorem dX0_follow_6 : decode cX0_follow 6 = .ok (.isub, 1) := by decide +kernel
theorem dX0_follow_7 : decode cX0_follow 7 = .ok (.invokevirtual 58, 3) := by decide +kernel
theorem dX0_follow_10 : decode cX0_follow 10 = .ok (.astore 6, 2) := by decide +kernel
theorem dX0_follow_12 : decode cX0_follow 12 = .ok (.aload_n 0, 1) := by decide +kernel
theorem dX0_follow_13 : decode cX0_follow 13 = .ok (.getfield 47, 3) := by decide +kernel
theorem dX0_follow_16 : decode cX0_follow 16 = .ok (.getfield 102, 3) := by decide +kernel
theorem dX0_follow_19 : decode cX0_follow 19 = .ok (.iload_n 1, 1) := by decide +kernel
theorem dX0_follow_20 : decode cX0_follow 20 = .ok (.aaload, 1) := by decide +kernel
theorem dX0_follow_21 : decode cX0_follow 21 = .ok (.astore 7, 2) := by decide +kernel
theorem dX0_follow_23 : decode cX0_follow 23 = .ok (.iload 5, 2) := by decide +kernel
theorem dX0_follow_25 : decode cX0_follow 25 = .ok (.istore 8, 2) := by decide +kernel
theorem dX0_follow_27 : decode cX0_follow 27 = .ok (.aload_n 0, 1) := by decide +kernel
theorem dX0_follow_28 : decode cX0_follow 28 = .ok (.bipush 36, 2) := by decide +kernel
theorem dX0_follow_30 : decode cX0_follow 30 = .ok (.putfield 16, 3) := by decide +kernel
theorem dX0_follow_33 : decode cX0_follow 33 = .ok (.aload_n 0, 1) := by decide +kernel
theorem dX0_follow_34 : decode cX0_follow 34 = .ok (.iconst (-1), 1) := by decide +kernel
theorem dX0_follow_35 : decode cX0_follow 35 = .ok (.putfield 20, 3) := by decide +kernel
theorem dX0_follow_38 : decode cX0_follow 38 = .ok (.iload 4, 2) := by decide +kernel
theorem dX0_follow_40 : decode cX0_follow 40 = .ok (.istore 9, 2) := by decide +kernel
theorem dX0_follow_42 : decode cX0_follow 42 = .ok (.iload 9, 2) := by decide +kernel
theorem dX0_follow_44 : decode cX0_follow 44 = .ok (.bipush 36, 2) := by decide +kernel
theorem dX0_follow_46 : decode cX0_follow 46 = .ok (.if_icmp .ge 167, 3) := by decide +kernel
theorem dX0_follow_49 : decode cX0_follow 49 = .ok (.iload 9, 2) := by decide +kernel
theorem dX0_follow_51 : decode cX0_follow 51 = .ok (.iload 8, 2) := by decide +kernel
theorem dX0_follow_53 : decode cX0_follow 53 = .ok (.if_icmp .gt 160, 3) := by decide +kernel
theorem dX0_follow_56 : decode cX0_follow 56 = .ok (.aload_n 2, 1) := by decide +kernel
theorem dX0_follow_57 : decode cX0_follow 57 = .ok (.iload 9, 2) := by decide +kernel
theorem dX0_follow_59 : decode cX0_follow 59 = .ok (.iaload, 1) := by decide +kernel
theorem dX0_follow_60 : decode cX0_follow 60 = .ok (.aload 6, 2) := by decide +kernel
theorem dX0_follow_62 : decode cX0_follow 62 = .ok (.iload 9, 2) := by decide +kernel
theorem dX0_follow_64 : decode cX0_follow 64 = .ok (.iaload, 1) := by decide +kernel
theorem dX0_follow_65 : decode cX0_follow 65 = .ok (.if_icmp .eq 16, 3) := by decide +kernel
theorem dX0_follow_68 : decode cX0_follow 68 = .ok (.aload_n 0, 1) := by decide +kernel
theorem dX0_follow_69 : decode cX0_follow 69 = .ok (.getfield 57, 3) := by decide +kernel
theorem dX0_follow_72 : decode cX0_follow 72 = .ok (.iload_n 1, 1) := by decide +kernel
theorem dX0_follow_73 : decode cX0_follow 73 = .ok (.iload 9, 2) := by decide +kernel
theorem dX0_follow_75 : decode cX0_follow 75 = .ok (.invokevirtual 130, 3) := by decide +kernel
theorem dX0_follow_78 : decode cX0_follow 78 = .ok (.ifCond .ne 56, 3) := by decide +kernel
theorem dX0_follow_81 : decode cX0_follow 81 = .ok (.iload 9, 2) := by decide +kernel
theorem dX0_follow_83 : decode cX0_follow 83 = .ok (.bipush 6, 2) := by decide +kernel
theorem dX0_follow_85 : decode cX0_follow 85 = .ok (.irem, 1) := by decide +kernel
theorem dX0_follow_86 : decode cX0_follow 86 = .ok (.ifCond .eq 19, 3) := by decide +kernel
theorem dX0_follow_89 : decode cX0_follow 89 = .ok (.aload_n 3, 1) := by decide +kernel
theorem dX0_follow_90 : decode cX0_follow 90 = .ok (.iload 9, 2) := by decide +kernel
theorem dX0_follow_92 : decode cX0_follow 92 = .ok (.iconst 1, 1) := by decide +kernel
theorem dX0_follow_93 : decode cX0_follow 93 = .ok (.isub, 1) := by decide +kernel
theorem dX0_follow_94 : decode cX0_follow 94 = .ok (.iaload, 1) := by decide +kernel
theorem dX0_follow_95 : decode cX0_follow 95 = .ok (.aload 7, 2) := by decide +kernel
theorem dX0_follow_97 : decode cX0_follow 97 = .ok (.iload 9, 2) := by decide +kernel
theorem dX0_follow_99 : decode cX0_follow 99 = .ok (.iconst 1, 1) := by decide +kernel
theorem dX0_follow_100 : decode cX0_follow 100 = .ok (.isub, 1) := by decide +kernel
theorem dX0_follow_101 : decode cX0_follow 101 = .ok (.iaload, 1) := by decide +kernel
theorem dX0_follow_102 : decode cX0_follow 102 = .ok (.if_icmp .ne 32, 3) := by decide +kernel
theorem dX0_follow_105 : decode cX0_follow 105 = .ok (.iload 9, 2) := by decide +kernel
theorem dX0_follow_107 : decode cX0_follow 107 = .ok (.bipush 6, 2) := by decide +kernel
theorem dX0_follow_109 : decode cX0_follow 109 = .ok (.if_icmp .lt 21, 3) := by decide +kernel
theorem dX0_follow_112 : decode cX0_follow 112 = .ok (.aload_n 3, 1) := by decide +kernel
theorem dX0_follow_113 : decode cX0_follow 113 = .ok (.iload 9, 2) := by decide +kernel
theorem dX0_follow_115 : decode cX0_follow 115 = .ok (.bipush 6, 2) := by decide +kernel
theorem dX0_follow_117 : decode cX0_follow 117 = .ok (.isub, 1) := by decide +kernel
theorem dX0_follow_118 : decode cX0_follow 118 = .ok (.iaload, 1) := by decide +kernel
theorem dX0_follow_119 : decode cX0_follow 119 = .ok (.aload 7, 2) := by decide +kernel
theorem dX0_follow_121 : decode cX0_follow 121 = .ok (.iload 9, 2) := by decide +kernel
theorem dX0_follow_123 : decode cX0_follow 123 = .ok (.bipush 6, 2) := by decide +kernel
theorem dX0_follow_125 : decode cX0_follow 125 = .ok (.isub, 1) := by decide +kernel
theorem dX0_follow_126 : decode cX0_follow 126 = .ok (.iaload, 1) := by decide +kernel
theorem dX0_follow_127 : decode cX0_follow 127 = .ok (.if_icmp .ne 7, 3) := by decide +kernel
theorem dX0_follow_130 : decode cX0_follow 130 = .ok (.iconst 1, 1) := by decide +kernel
theorem dX0_follow_131 : decode cX0_follow 131 = .ok (.goto 4, 3) := by decide +kernel
theorem dX0_follow_134 : decode cX0_follow 134 = .ok (.iconst 0, 1) := by decide +kernel
theorem dX0_follow_135 : decode cX0_follow 135 = .ok (.istore 10, 2) := by decide +kernel
theorem dX0_follow_137 : decode cX0_follow 137 = .ok (.iload 10, 2) := by decide +kernel
theorem dX0_follow_139 : decode cX0_follow 139 = .ok (.ifCond .eq 6, 3) := by decide +kernel
theorem dX0_follow_142 : decode cX0_follow 142 = .ok (.goto 65, 3) := by decide +kernel
theorem dX0_follow_145 : decode cX0_follow 145 = .ok (.aload_n 3, 1) := by decide +kernel
theorem dX0_follow_146 : decode cX0_follow 146 = .ok (.iload 9, 2) := by decide +kernel
theorem dX0_follow_148 : decode cX0_follow 148 = .ok (.aload_n 0, 1) := by decide +kernel
theorem dX0_follow_149 : decode cX0_follow 149 = .ok (.getfield 57, 3) := by decide +kernel
theorem dX0_follow_152 : decode cX0_follow 152 = .ok (.iload_n 1, 1) := by decide +kernel
theorem dX0_follow_153 : decode cX0_follow 153 = .ok (.iload 9, 2) := by decide +kernel
theorem dX0_follow_155 : decode cX0_follow 155 = .ok (.aload_n 2, 1) := by decide +kernel
theorem dX0_follow_156 : decode cX0_follow 156 = .ok (.aload_n 3, 1) := by decide +kernel
theorem dX0_follow_157 : decode cX0_follow 157 = .ok (.invokevirtual 134, 3) := by decide +kernel
theorem dX0_follow_160 : decode cX0_follow 160 = .ok (.iastore, 1) := by decide +kernel
theorem dX0_follow_161 : decode cX0_follow 161 = .ok (.aload_n 3, 1) := by decide +kernel
theorem dX0_follow_162 : decode cX0_follow 162 = .ok (.iload 9, 2) := by decide +kernel
theorem dX0_follow_164 : decode cX0_follow 164 = .ok (.iaload, 1) := by decide +kernel
theorem dX0_follow_165 : decode cX0_follow 165 = .ok (.aload 7, 2) := by decide +kernel
theorem dX0_follow_167 : decode cX0_follow 167 = .ok (.iload 9, 2) := by decide +kernel
theorem dX0_follow_169 : decode cX0_follow 169 = .ok (.iaload, 1) := by decide +kernel
theorem dX0_follow_170 : decode cX0_follow 170 = .ok (.if_icmp .ne 6, 3) := by decide +kernel
theorem dX0_follow_173 : decode cX0_follow 173 = .ok (.goto 34, 3) := by decide +kernel
theorem dX0_follow_176 : decode cX0_follow 176 = .ok (.aload_n 0, 1) := by decide +kernel
theorem dX0_follow_177 : decode cX0_follow 177 = .ok (.aload_n 0, 1) := by decide +kernel
theorem dX0_follow_178 : decode cX0_follow 178 = .ok (.getfield 16, 3) := by decide +kernel
theorem dX0_follow_181 : decode cX0_follow 181 = .ok (.iload 9, 2) := by decide +kernel
theorem dX0_follow_183 : decode cX0_follow 183 = .ok (.invokestatic 138, 3) := by decide +kernel
theorem dX0_follow_186 : decode cX0_follow 186 = .ok (.putfield 16, 3) := by decide +kernel
theorem dX0_follow_189 : decode cX0_follow 189 = .ok (.aload_n 0, 1) := by decide +kernel
theorem dX0_follow_190 : decode cX0_follow 190 = .ok (.iload 9, 2) := by decide +kernel
theorem dX0_follow_192 : decode cX0_follow 192 = .ok (.putfield 20, 3) := by decide +kernel
theorem dX0_follow_195 : decode cX0_follow 195 = .ok (.iload 8, 2) := by decide +kernel
theorem dX0_follow_197 : decode cX0_follow 197 = .ok (.iload 9, 2) := by decide +kernel
theorem dX0_follow_199 : decode cX0_follow 199 = .ok (.bipush 6, 2) := by decide +kernel
theorem dX0_follow_201 : decode cX0_follow 201 = .ok (.iadd, 1) := by decide +kernel
theorem dX0_follow_202 : decode cX0_follow 202 = .ok (.invokestatic 120, 3) := by decide +kernel
theorem dX0_follow_205 : decode cX0_follow 205 = .ok (.istore 8, 2) := by decide +kernel
theorem dX0_follow_207 : decode cX0_follow 207 = .ok (.iinc 9 1, 3) := by decide +kernel
theorem dX0_follow_210 : decode cX0_follow 210 = .ok (.goto (-168), 3) := by decide +kernel
theorem dX0_follow_213 : decode cX0_follow 213 = .ok (.return_, 1) := by decide +kernel
theorem dX1_init_0 : decode cX1_init 0 = .ok (.aload_n 0, 1) := by decide +kernel
theorem dX1_init_1 : decode cX1_init 1 = .ok (.invokespecial 1, 3) := by decide +kernel
theorem dX1_init_4 : decode cX1_init 4 = .ok (.aload_n 0, 1) := by decide +kernel
theorem dX1_init_5 : decode cX1_init 5 = .ok (.iload_n 1, 1) := by decide +kernel
theorem dX1_init_6 : decode cX1_init 6 = .ok (.putfield 7, 3) := by decide +kernel
theorem dX1_init_9 : decode cX1_init 9 = .ok (.aload_n 0, 1) := by decide +kernel
theorem dX1_init_10 : decode cX1_init 10 = .ok (.aload_n 2, 1) := by decide +kernel
theorem dX1_init_11 : decode cX1_init 11 = .ok (.putfield 13, 3) := by decide +kernel
theorem dX1_init_14 : decode cX1_init 14 = .ok (.aload_n 0, 1) := by decide +kernel
theorem dX1_init_15 : decode cX1_init 15 = .ok (.aload_n 3, 1) := by decide +kernel
theorem dX1_init_16 : decode cX1_init 16 = .ok (.putfield 17, 3) := by decide +kernel
theorem dX1_init_19 : decode cX1_init 19 = .ok (.return_, 1) := by decide +kernel
theorem dX2_init_0 : decode cX2_init 0 = .ok (.aload_n 0, 1) := by decide +kernel
theorem dX2_init_1 : decode cX2_init 1 = .ok (.invokespecial 3, 3) := by decide +kernel
theorem dX2_init_4 : decode cX2_init 4 = .ok (.aload_n 0, 1) := by decide +kernel
theorem dX2_init_5 : decode cX2_init 5 = .ok (.bipush 10, 2) := by decide +kernel
theorem dX2_init_7 : decode cX2_init 7 = .ok (.newarray .long, 2) := by decide +kernel
theorem dX2_init_9 : decode cX2_init 9 = .ok (.putfield 9, 3) := by decide +kernel
theorem dX2_init_12 : decode cX2_init 12 = .ok (.aload_n 0, 1) := by decide +kernel
theorem dX2_init_13 : decode cX2_init 13 = .ok (.bipush 10, 2) := by decide +kernel
theorem dX2_init_15 : decode cX2_init 15 = .ok (.newarray .int, 2) := by decide +kernel
theorem dX2_init_17 : decode cX2_init 17 = .ok (.putfield 15, 3) := by decide +kernel
theorem dX2_init_20 : decode cX2_init 20 = .ok (.aload_n 0, 1) := by decide +kernel
theorem dX2_init_21 : decode cX2_init 21 = .ok (.bipush 10, 2) := by decide +kernel
theorem dX2_init_23 : decode cX2_init 23 = .ok (.newarray .int, 2) := by decide +kernel
theorem dX2_init_25 : decode cX2_init 25 = .ok (.putfield 19, 3) := by decide +kernel
theorem dX2_init_28 : decode cX2_init 28 = .ok (.aload_n 0, 1) := by decide +kernel
theorem dX2_init_29 : decode cX2_init 29 = .ok (.bipush 50, 2) := by decide +kernel
theorem dX2_init_31 : decode cX2_init 31 = .ok (.newarray .long, 2) := by decide +kernel
theorem dX2_init_33 : decode cX2_init 33 = .ok (.putfield 22, 3) := by decide +kernel
theorem dX2_init_36 : decode cX2_init 36 = .ok (.aload_n 0, 1) := by decide +kernel
theorem dX2_init_37 : decode cX2_init 37 = .ok (.bipush 9, 2) := by decide +kernel
theorem dX2_init_39 : decode cX2_init 39 = .ok (.newarray .int, 2) := by decide +kernel
theorem dX2_init_41 : decode cX2_init 41 = .ok (.putfield 25, 3) := by decide +kernel
theorem dX2_init_44 : decode cX2_init 44 = .ok (.aload_n 0, 1) := by decide +kernel
theorem dX2_init_45 : decode cX2_init 45 = .ok (.iconst 0, 1) := by decide +kernel
theorem dX2_init_46 : decode cX2_init 46 = .ok (.putfield 28, 3) := by decide +kernel
theorem dX2_init_49 : decode cX2_init 49 = .ok (.aload_n 0, 1) := by decide +kernel
theorem dX2_init_50 : decode cX2_init 50 = .ok (.iconst 0, 1) := by decide +kernel
theorem dX2_init_51 : decode cX2_init 51 = .ok (.putfield 32, 3) := by decide +kernel
theorem dX2_init_54 : decode cX2_init 54 = .ok (.aload_n 0, 1) := by decide +kernel
theorem dX2_init_55 : decode cX2_init 55 = .ok (.aconst_null, 1) := by decide +kernel
theorem dX2_init_56 : decode cX2_init 56 = .ok (.putfield 35, 3) := by decide +kernel
theorem dX2_init_59 : decode cX2_init 59 = .ok (.return_, 1) := by decide +kernel
theorem dX2_setUp_0 : decode cX2_setUp 0 = .ok (.aload_n 0, 1) := by decide +kernel
theorem dX2_setUp_1 : decode cX2_setUp 1 = .ok (.aload_n 1, 1) := by decide +kernel
theorem dX2_setUp_2 : decode cX2_setUp 2 = .ok (.getfield 39, 3) := by decide +kernel
theorem dX2_setUp_5 : decode cX2_setUp 5 = .ok (.putfield 28, 3) := by decide +kernel
theorem dX2_setUp_8 : decode cX2_setUp 8 = .ok (.aload_n 0, 1) := by decide +kernel
theorem dX2_setUp_9 : decode cX2_setUp 9 = .ok (.aload_n 1, 1) := by decide +kernel
theorem dX2_setUp_10 : decode cX2_setUp 10 = .ok (.invokevirtual 42, 3) := by decide +kernel
theorem dX2_setUp_13 : decode cX2_setUp 13 = .ok (.putfield 35, 3) := by decide +kernel
theorem dX2_setUp_16 : decode cX2_setUp 16 = .ok (.aload_n 0, 1) := by decide +kernel
theorem dX2_setUp_17 : decode cX2_setUp 17 = .ok (.getfield 25, 3) := by decide +kernel
theorem dX2_setUp_20 : decode cX2_setUp 20 = .ok (.bipush 8, 2) := by decide +kernel
theorem dX2_setUp_22 : decode cX2_setUp 22 = .ok (.aload_n 1, 1) := by decide +kernel
theorem dX2_setUp_23 : decode cX2_setUp 23 = .ok (.getfield 46, 3) := by decide +kernel
theorem dX2_setUp_26 : decode cX2_setUp 26 = .ok (.iconst 1, 1) := by decide +kernel
theorem dX2_setUp_27 : decode cX2_setUp 27 = .ok (.iaload, 1) := by decide +kernel
theorem dX2_setUp_28 : decode cX2_setUp 28 = .ok (.iastore, 1) := by decide +kernel
theorem dX2_setUp_29 : decode cX2_setUp 29 = .ok (.iconst 0, 1) := by decide +kernel
theorem dX2_setUp_30 : decode cX2_setUp 30 = .ok (.istore_n 2, 1) := by decide +kernel
theorem dX2_setUp_31 : decode cX2_setUp 31 = .ok (.iload_n 2, 1) := by decide +kernel
theorem dX2_setUp_32 : decode cX2_setUp 32 = .ok (.aload_n 0, 1) := by decide +kernel
theorem dX2_setUp_33 : decode cX2_setUp 33 = .ok (.getfield 28, 3) := by decide +kernel
theorem dX2_setUp_36 : decode cX2_setUp 36 = .ok (.if_icmp .ge 113, 3) := by decide +kernel
theorem dX2_setUp_39 : decode cX2_setUp 39 = .ok (.aload_n 0, 1) := by decide +kernel
theorem dX2_setUp_40 : decode cX2_setUp 40 = .ok (.getfield 15, 3) := by decide +kernel
theorem dX2_setUp_43 : decode cX2_setUp 43 = .ok (.iload_n 2, 1) := by decide +kernel
theorem dX2_setUp_44 : decode cX2_setUp 44 = .ok (.aload_n 1, 1) := by decide +kernel
theorem dX2_setUp_45 : decode cX2_setUp 45 = .ok (.getfield 49, 3) := by decide +kernel
theorem dX2_setUp_48 : decode cX2_setUp 48 = .ok (.iconst 5, 1) := by decide +kernel
theorem dX2_setUp_49 : decode cX2_setUp 49 = .ok (.aaload, 1) := by decide +kernel
theorem dX2_setUp_50 : decode cX2_setUp 50 = .ok (.iload_n 2, 1) := by decide +kernel
theorem dX2_setUp_51 : decode cX2_setUp 51 = .ok (.iaload, 1) := by decide +kernel
theorem dX2_setUp_52 : decode cX2_setUp 52 = .ok (.iastore, 1) := by decide +kernel
theorem dX2_setUp_53 : decode cX2_setUp 53 = .ok (.aload_n 0, 1) := by decide +kernel
theorem dX2_setUp_54 : decode cX2_setUp 54 = .ok (.getfield 19, 3) := by decide +kernel
theorem dX2_setUp_57 : decode cX2_setUp 57 = .ok (.iload_n 2, 1) := by decide +kernel
theorem dX2_setUp_58 : decode cX2_setUp 58 = .ok (.aload_n 1, 1) := by decide +kernel
theorem dX2_setUp_59 : decode cX2_setUp 59 = .ok (.getfield 49, 3) := by decide +kernel
theorem dX2_setUp_62 : decode cX2_setUp 62 = .ok (.iconst 4, 1) := by decide +kernel
theorem dX2_setUp_63 : decode cX2_setUp 63 = .ok (.aaload, 1) := by decide +kernel
theorem dX2_setUp_64 : decode cX2_setUp 64 = .ok (.iload_n 2, 1) := by decide +kernel
theorem dX2_setUp_65 : decode cX2_setUp 65 = .ok (.iaload, 1) := by decide +kernel
theorem dX2_setUp_66 : decode cX2_setUp 66 = .ok (.iastore, 1) := by decide +kernel
theorem dX2_setUp_67 : decode cX2_setUp 67 = .ok (.lconst 1, 1) := by decide +kernel
theorem dX2_setUp_68 : decode cX2_setUp 68 = .ok (.aload_n 1, 1) := by decide +kernel
theorem dX2_setUp_69 : decode cX2_setUp 69 = .ok (.getfield 49, 3) := by decide +kernel
theorem dX2_setUp_72 : decode cX2_setUp 72 = .ok (.iconst 2, 1) := by decide +kernel
theorem dX2_setUp_73 : decode cX2_setUp 73 = .ok (.aaload, 1) := by decide +kernel
theorem dX2_setUp_74 : decode cX2_setUp 74 = .ok (.iload_n 2, 1) := by decide +kernel
theorem dX2_setUp_75 : decode cX2_setUp 75 = .ok (.iaload, 1) := by decide +kernel
theorem dX2_setUp_76 : decode cX2_setUp 76 = .ok (.lshl, 1) := by decide +kernel
theorem dX2_setUp_77 : decode cX2_setUp 77 = .ok (.lconst 1, 1) := by decide +kernel
theorem dX2_setUp_78 : decode cX2_setUp 78 = .ok (.lsub, 1) := by decide +kernel
theorem dX2_setUp_79 : decode cX2_setUp 79 = .ok (.aload_n 1, 1) := by decide +kernel
theorem dX2_setUp_80 : decode cX2_setUp 80 = .ok (.getfield 49, 3) := by decide +kernel
theorem dX2_setUp_83 : decode cX2_setUp 83 = .ok (.iconst 0, 1) := by decide +kernel
theorem dX2_setUp_84 : decode cX2_setUp 84 = .ok (.aaload, 1) := by decide +kernel
theorem dX2_setUp_85 : decode cX2_setUp 85 = .ok (.iload_n 2, 1) := by decide +kernel
theorem dX2_setUp_86 : decode cX2_setUp 86 = .ok (.iaload, 1) := by decide +kernel
theorem dX2_setUp_87 : decode cX2_setUp 87 = .ok (.lshl, 1) := by decide +kernel
theorem dX2_setUp_88 : decode cX2_setUp 88 = .ok (.lstore_n 3, 1) := by decide +kernel
theorem dX2_setUp_89 : decode cX2_setUp 89 = .ok (.aload_n 0, 1) := by decide +kernel
theorem dX2_setUp_90 : decode cX2_setUp 90 = .ok (.getfield 9, 3) := by decide +kernel
theorem dX2_setUp_93 : decode cX2_setUp 93 = .ok (.iload_n 2, 1) := by decide +kernel
theorem dX2_setUp_94 : decode cX2_setUp 94 = .ok (.lconst 0, 1) := by decide +kernel
theorem dX2_setUp_95 : decode cX2_setUp 95 = .ok (.lastore, 1) := by decide +kernel
theorem dX2_setUp_96 : decode cX2_setUp 96 = .ok (.iconst 0, 1) := by decide +kernel
theorem dX2_setUp_97 : decode cX2_setUp 97 = .ok (.istore 5, 2) := by decide +kernel
theorem dX2_setUp_99 : decode cX2_setUp 99 = .ok (.iload 5, 2) := by decide +kernel
theorem dX2_setUp_101 : decode cX2_setUp 101 = .ok (.aload_n 1, 1) := by decide +kernel
theorem dX2_setUp_102 : decode cX2_setUp 102 = .ok (.getfield 49, 3) := by decide +kernel
theorem dX2_setUp_105 : decode cX2_setUp 105 = .ok (.iconst 3, 1) := by decide +kernel
theorem dX2_setUp_106 : decode cX2_setUp 106 = .ok (.aaload, 1) := by decide +kernel
theorem dX2_setUp_107 : decode cX2_setUp 107 = .ok (.iload_n 2, 1) := by decide +kernel
theorem dX2_setUp_108 : decode cX2_setUp 108 = .ok (.iaload, 1) := by decide +kernel
theorem dX2_setUp_109 : decode cX2_setUp 109 = .ok (.if_icmp .ge 34, 3) := by decide +kernel
theorem dX2_setUp_112 : decode cX2_setUp 112 = .ok (.aload_n 0, 1) := by decide +kernel
theorem dX2_setUp_113 : decode cX2_setUp 113 = .ok (.getfield 9, 3) := by decide +kernel
theorem dX2_setUp_116 : decode cX2_setUp 116 = .ok (.iload_n 2, 1) := by decide +kernel
theorem dX2_setUp_117 : decode cX2_setUp 117 = .ok (.dup2, 1) := by decide +kernel
theorem dX2_setUp_118 : decode cX2_setUp 118 = .ok (.laload, 1) := by decide +kernel
theorem dX2_setUp_119 : decode cX2_setUp 119 = .ok (.lload_n 3, 1) := by decide +kernel
theorem dX2_setUp_120 : decode cX2_setUp 120 = .ok (.bipush 6, 2) := by decide +kernel
theorem dX2_setUp_122 : decode cX2_setUp 122 = .ok (.aload_n 1, 1) := by decide +kernel
theorem dX2_setUp_123 : decode cX2_setUp 123 = .ok (.getfield 49, 3) := by decide +kernel
theorem dX2_setUp_126 : decode cX2_setUp 126 = .ok (.iconst 1, 1) := by decide +kernel
theorem dX2_setUp_127 : decode cX2_setUp 127 = .ok (.aaload, 1) := by decide +kernel
theorem dX2_setUp_128 : decode cX2_setUp 128 = .ok (.iload_n 2, 1) := by decide +kernel
theorem dX2_setUp_129 : decode cX2_setUp 129 = .ok (.iaload, 1) := by decide +kernel
theorem dX2_setUp_130 : decode cX2_setUp 130 = .ok (.iload 5, 2) := by decide +kernel
theorem dX2_setUp_132 : decode cX2_setUp 132 = .ok (.iadd, 1) := by decide +kernel
theorem dX2_setUp_133 : decode cX2_setUp 133 = .ok (.imul, 1) := by decide +kernel
theorem dX2_setUp_134 : decode cX2_setUp 134 = .ok (.lshl, 1) := by decide +kernel
theorem dX2_setUp_135 : decode cX2_setUp 135 = .ok (.lor, 1) := by decide +kernel
theorem dX2_setUp_136 : decode cX2_setUp 136 = .ok (.lastore, 1) := by decide +kernel
theorem dX2_setUp_137 : decode cX2_setUp 137 = .ok (.iinc 5 1, 3) := by decide +kernel
theorem dX2_setUp_140 : decode cX2_setUp 140 = .ok (.goto (-41), 3) := by decide +kernel
theorem dX2_setUp_143 : decode cX2_setUp 143 = .ok (.iinc 2 1, 3) := by decide +kernel
theorem dX2_setUp_146 : decode cX2_setUp 146 = .ok (.goto (-115), 3) := by decide +kernel
theorem dX2_setUp_149 : decode cX2_setUp 149 = .ok (.return_, 1) := by decide +kernel
theorem dX2_sees_0 : decode cX2_sees 0 = .ok (.aload_n 0, 1) := by decide +kernel
theorem dX2_sees_1 : decode cX2_sees 1 = .ok (.getfield 32, 3) := by decide +kernel
theorem dX2_sees_4 : decode cX2_sees 4 = .ok (.iload_n 1, 1) := by decide +kernel
theorem dX2_sees_5 : decode cX2_sees 5 = .ok (.ishr, 1) := by decide +kernel
theorem dX2_sees_6 : decode cX2_sees 6 = .ok (.iconst 1, 1) := by decide +kernel
theorem dX2_sees_7 : decode cX2_sees 7 = .ok (.iand, 1) := by decide +kernel
theorem dX2_sees_8 : decode cX2_sees 8 = .ok (.ifCond .ne 18, 3) := by decide +kernel
theorem dX2_sees_11 : decode cX2_sees 11 = .ok (.aload_n 0, 1) := by decide +kernel
theorem dX2_sees_12 : decode cX2_sees 12 = .ok (.getfield 9, 3) := by decide +kernel
theorem dX2_sees_15 : decode cX2_sees 15 = .ok (.iload_n 1, 1) := by decide +kernel
theorem dX2_sees_16 : decode cX2_sees 16 = .ok (.laload, 1) := by decide +kernel
theorem dX2_sees_17 : decode cX2_sees 17 = .ok (.iload_n 2, 1) := by decide +kernel
theorem dX2_sees_18 : decode cX2_sees 18 = .ok (.lshr, 1) := by decide +kernel
theorem dX2_sees_19 : decode cX2_sees 19 = .ok (.lconst 1, 1) := by decide +kernel
theorem dX2_sees_20 : decode cX2_sees 20 = .ok (.land, 1) := by decide +kernel
theorem dX2_sees_21 : decode cX2_sees 21 = .ok (.lconst 0, 1) := by decide +kernel
theorem dX2_sees_22 : decode cX2_sees 22 = .ok (.lcmp, 1) := by decide +kernel
theorem dX2_sees_23 : decode cX2_sees 23 = .ok (.ifCond .eq 7, 3) := by decide +kernel
theorem dX2_sees_26 : decode cX2_sees 26 = .ok (.iconst 1, 1) := by decide +kernel
theorem dX2_sees_27 : decode cX2_sees 27 = .ok (.goto 4, 3) := by decide +kernel
theorem dX2_sees_30 : decode cX2_sees 30 = .ok (.iconst 0, 1) := by decide +kernel
theorem dX2_sees_31 : decode cX2_sees 31 = .ok (.ireturn, 1) := by decide +kernel
theorem dX2_weave_0 : decode cX2_weave 0 = .ok (.iconst 0, 1) := by decide +kernel
theorem dX2_weave_1 : decode cX2_weave 1 = .ok (.istore 4, 2) := by decide +kernel
theorem dX2_weave_3 : decode cX2_weave 3 = .ok (.iload 4, 2) := by decide +kernel
theorem dX2_weave_5 : decode cX2_weave 5 = .ok (.bipush 36, 2) := by decide +kernel
theorem dX2_weave_7 : decode cX2_weave 7 = .ok (.if_icmp .ge 22, 3) := by decide +kernel
theorem dX2_weave_10 : decode cX2_weave 10 = .ok (.aload_n 3, 1) := by decide +kernel
theorem dX2_weave_11 : decode cX2_weave 11 = .ok (.iload 4, 2) := by decide +kernel
theorem dX2_weave_13 : decode cX2_weave 13 = .ok (.aload_n 0, 1) := by decide +kernel
theorem dX2_weave_14 : decode cX2_weave 14 = .ok (.iload_n 1, 1) := by decide +kernel
theorem dX2_weave_15 : decode cX2_weave 15 = .ok (.iload 4, 2) := by decide +kernel
theorem dX2_weave_17 : decode cX2_weave 17 = .ok (.aload_n 2, 1) := by decide +kernel
theorem dX2_weave_18 : decode cX2_weave 18 = .ok (.aload_n 3, 1) := by decide +kernel
theorem dX2_weave_19 : decode cX2_weave 19 = .ok (.invokevirtual 53, 3) := by decide +kernel
theorem dX2_weave_22 : decode cX2_weave 22 = .ok (.iastore, 1) := by decide +kernel
theorem dX2_weave_23 : decode cX2_weave 23 = .ok (.iinc 4 1, 3) := by decide +kernel
theorem dX2_weave_26 : decode cX2_weave 26 = .ok (.goto (-23), 3) := by decide +kernel
theorem dX2_weave_29 : decode cX2_weave 29 = .ok (.return_, 1) := by decide +kernel
theorem dX2_colourIn_0 : decode cX2_colourIn 0 = .ok (.aload_n 0, 1) := by decide +kernel
theorem dX2_colourIn_1 : decode cX2_colourIn 1 = .ok (.iload_n 1, 1) := by decide +kernel
theorem dX2_colourIn_2 : decode cX2_colourIn 2 = .ok (.iload_n 2, 1) := by decide +kernel
theorem dX2_colourIn_3 : decode cX2_colourIn 3 = .ok (.invokevirtual 57, 3) := by decide +kernel
theorem dX2_colourIn_6 : decode cX2_colourIn 6 = .ok (.ifCond .eq 9, 3) := by decide +kernel
theorem dX2_colourIn_9 : decode cX2_colourIn 9 = .ok (.aload_n 3, 1) := by decide +kernel
theorem dX2_colourIn_10 : decode cX2_colourIn 10 = .ok (.iload_n 2, 1) := by decide +kernel
theorem dX2_colourIn_11 : decode cX2_colourIn 11 = .ok (.iaload, 1) := by decide +kernel
theorem dX2_colourIn_12 : decode cX2_colourIn 12 = .ok (.goto 4, 3) := by decide +kernel
theorem dX2_colourIn_15 : decode cX2_colourIn 15 = .ok (.iconst (-1), 1) := by decide +kernel
theorem dX2_colourIn_16 : decode cX2_colourIn 16 = .ok (.istore 5, 2) := by decide +kernel
theorem dX2_colourIn_18 : decode cX2_colourIn 18 = .ok (.iload 5, 2) := by decide +kernel
theorem dX2_colourIn_20 : decode cX2_colourIn 20 = .ok (.iconst (-1), 1) := by decide +kernel
theorem dX2_colourIn_21 : decode cX2_colourIn 21 = .ok (.if_icmp .ne 13, 3) := by decide +kernel
theorem dX2_colourIn_24 : decode cX2_colourIn 24 = .ok (.aload_n 0, 1) := by decide +kernel
theorem dX2_colourIn_25 : decode cX2_colourIn 25 = .ok (.getfield 19, 3) := by decide +kernel
theorem dX2_colourIn_28 : decode cX2_colourIn 28 = .ok (.iload_n 1, 1) := by decide +kernel
theorem dX2_colourIn_29 : decode cX2_colourIn 29 = .ok (.iaload, 1) := by decide +kernel
theorem dX2_colourIn_30 : decode cX2_colourIn 30 = .ok (.i2l, 1) := by decide +kernel
theorem dX2_colourIn_31 : decode cX2_colourIn 31 = .ok (.goto 6, 3) := by decide +kernel
theorem dX2_colourIn_34 : decode cX2_colourIn 34 = .ok (.iload 5, 2) := by decide +kernel
theorem dX2_colourIn_36 : decode cX2_colourIn 36 = .ok (.i2l, 1) := by decide +kernel
theorem dX2_colourIn_37 : decode cX2_colourIn 37 = .ok (.lstore 6, 2) := by decide +kernel
theorem dX2_colourIn_39 : decode cX2_colourIn 39 = .ok (.aload_n 0, 1) := by decide +kernel
theorem dX2_colourIn_40 : decode cX2_colourIn 40 = .ok (.getfield 35, 3) := by decide +kernel
theorem dX2_colourIn_43 : decode cX2_colourIn 43 = .ok (.ifnull 159, 3) := by decide +kernel
theorem dX2_colourIn_46 : decode cX2_colourIn 46 = .ok (.iload_n 2, 1) := by decide +kernel
theorem dX2_colourIn_47 : decode cX2_colourIn 47 = .ok (.bipush 6, 2) := by decide +kernel
theorem dX2_colourIn_49 : decode cX2_colourIn 49 = .ok (.irem, 1) := by decide +kernel
theorem dX2_colourIn_50 : decode cX2_colourIn 50 = .ok (.istore 8, 2) := by decide +kernel
theorem dX2_colourIn_52 : decode cX2_colourIn 52 = .ok (.aload_n 0, 1) := by decide +kernel
theorem dX2_colourIn_53 : decode cX2_colourIn 53 = .ok (.getfield 25, 3) := by decide +kernel
theorem dX2_colourIn_56 : decode cX2_colourIn 56 = .ok (.iconst 0, 1) := by decide +kernel
theorem dX2_colourIn_57 : decode cX2_colourIn 57 = .ok (.iload 8, 2) := by decide +kernel
theorem dX2_colourIn_59 : decode cX2_colourIn 59 = .ok (.iastore, 1) := by decide +kernel
theorem dX2_colourIn_60 : decode cX2_colourIn 60 = .ok (.aload_n 0, 1) := by decide +kernel
theorem dX2_colourIn_61 : decode cX2_colourIn 61 = .ok (.getfield 25, 3) := by decide +kernel
theorem dX2_colourIn_64 : decode cX2_colourIn 64 = .ok (.iconst 1, 1) := by decide +kernel
theorem dX2_colourIn_65 : decode cX2_colourIn 65 = .ok (.iload_n 2, 1) := by decide +kernel
theorem dX2_colourIn_66 : decode cX2_colourIn 66 = .ok (.bipush 6, 2) := by decide +kernel
theorem dX2_colourIn_68 : decode cX2_colourIn 68 = .ok (.idiv, 1) := by decide +kernel
theorem dX2_colourIn_69 : decode cX2_colourIn 69 = .ok (.iastore, 1) := by decide +kernel
theorem dX2_colourIn_70 : decode cX2_colourIn 70 = .ok (.aload_n 0, 1) := by decide +kernel
theorem dX2_colourIn_71 : decode cX2_colourIn 71 = .ok (.getfield 25, 3) := by decide +kernel
theorem dX2_colourIn_74 : decode cX2_colourIn 74 = .ok (.iconst 2, 1) := by decide +kernel
theorem dX2_colourIn_75 : decode cX2_colourIn 75 = .ok (.iload_n 1, 1) := by decide +kernel
theorem dX2_colourIn_76 : decode cX2_colourIn 76 = .ok (.iastore, 1) := by decide +kernel
theorem dX2_colourIn_77 : decode cX2_colourIn 77 = .ok (.aload_n 0, 1) := by decide +kernel
theorem dX2_colourIn_78 : decode cX2_colourIn 78 = .ok (.getfield 25, 3) := by decide +kernel
theorem dX2_colourIn_81 : decode cX2_colourIn 81 = .ok (.iconst 3, 1) := by decide +kernel
theorem dX2_colourIn_82 : decode cX2_colourIn 82 = .ok (.iload 5, 2) := by decide +kernel
theorem dX2_colourIn_84 : decode cX2_colourIn 84 = .ok (.iconst (-1), 1) := by decide +kernel
theorem dX2_colourIn_85 : decode cX2_colourIn 85 = .ok (.if_icmp .ne 7, 3) := by decide +kernel
theorem dX2_colourIn_88 : decode cX2_colourIn 88 = .ok (.iconst 0, 1) := by decide +kernel
theorem dX2_colourIn_89 : decode cX2_colourIn 89 = .ok (.goto 4, 3) := by decide +kernel
theorem dX2_colourIn_92 : decode cX2_colourIn 92 = .ok (.iconst 1, 1) := by decide +kernel
theorem dX2_colourIn_93 : decode cX2_colourIn 93 = .ok (.iastore, 1) := by decide +kernel
theorem dX2_colourIn_94 : decode cX2_colourIn 94 = .ok (.aload_n 0, 1) := by decide +kernel
theorem dX2_colourIn_95 : decode cX2_colourIn 95 = .ok (.getfield 25, 3) := by decide +kernel
theorem dX2_colourIn_98 : decode cX2_colourIn 98 = .ok (.iconst 4, 1) := by decide +kernel
theorem dX2_colourIn_99 : decode cX2_colourIn 99 = .ok (.iload 5, 2) := by decide +kernel
theorem dX2_colourIn_101 : decode cX2_colourIn 101 = .ok (.iastore, 1) := by decide +kernel
theorem dX2_colourIn_102 : decode cX2_colourIn 102 = .ok (.aload_n 0, 1) := by decide +kernel
theorem dX2_colourIn_103 : decode cX2_colourIn 103 = .ok (.getfield 25, 3) := by decide +kernel
theorem dX2_colourIn_106 : decode cX2_colourIn 106 = .ok (.iconst 5, 1) := by decide +kernel
theorem dX2_colourIn_107 : decode cX2_colourIn 107 = .ok (.iload 8, 2) := by decide +kernel
theorem dX2_colourIn_109 : decode cX2_colourIn 109 = .ok (.ifCond .le 12, 3) := by decide +kernel
theorem dX2_colourIn_112 : decode cX2_colourIn 112 = .ok (.aload 4, 2) := by decide +kernel
theorem dX2_colourIn_114 : decode cX2_colourIn 114 = .ok (.iload_n 2, 1) := by decide +kernel
theorem dX2_colourIn_115 : decode cX2_colourIn 115 = .ok (.iconst 1, 1) := by decide +kernel
theorem dX2_colourIn_116 : decode cX2_colourIn 116 = .ok (.isub, 1) := by decide +kernel
theorem dX2_colourIn_117 : decode cX2_colourIn 117 = .ok (.iaload, 1) := by decide +kernel
theorem dX2_colourIn_118 : decode cX2_colourIn 118 = .ok (.goto 4, 3) := by decide +kernel
theorem dX2_colourIn_121 : decode cX2_colourIn 121 = .ok (.iconst (-1), 1) := by decide +kernel
theorem dX2_colourIn_122 : decode cX2_colourIn 122 = .ok (.iastore, 1) := by decide +kernel
theorem dX2_colourIn_123 : decode cX2_colourIn 123 = .ok (.aload_n 0, 1) := by decide +kernel
theorem dX2_colourIn_124 : decode cX2_colourIn 124 = .ok (.getfield 25, 3) := by decide +kernel
theorem dX2_colourIn_127 : decode cX2_colourIn 127 = .ok (.bipush 6, 2) := by decide +kernel
theorem dX2_colourIn_129 : decode cX2_colourIn 129 = .ok (.iload_n 2, 1) := by decide +kernel
theorem dX2_colourIn_130 : decode cX2_colourIn 130 = .ok (.bipush 6, 2) := by decide +kernel
theorem dX2_colourIn_132 : decode cX2_colourIn 132 = .ok (.if_icmp .lt 13, 3) := by decide +kernel
theorem dX2_colourIn_135 : decode cX2_colourIn 135 = .ok (.aload 4, 2) := by decide +kernel
theorem dX2_colourIn_137 : decode cX2_colourIn 137 = .ok (.iload_n 2, 1) := by decide +kernel
theorem dX2_colourIn_138 : decode cX2_colourIn 138 = .ok (.bipush 6, 2) := by decide +kernel
theorem dX2_colourIn_140 : decode cX2_colourIn 140 = .ok (.isub, 1) := by decide +kernel
theorem dX2_colourIn_141 : decode cX2_colourIn 141 = .ok (.iaload, 1) := by decide +kernel
theorem dX2_colourIn_142 : decode cX2_colourIn 142 = .ok (.goto 4, 3) := by decide +kernel
theorem dX2_colourIn_145 : decode cX2_colourIn 145 = .ok (.iconst (-1), 1) := by decide +kernel
theorem dX2_colourIn_146 : decode cX2_colourIn 146 = .ok (.iastore, 1) := by decide +kernel
theorem dX2_colourIn_147 : decode cX2_colourIn 147 = .ok (.aload_n 0, 1) := by decide +kernel
theorem dX2_colourIn_148 : decode cX2_colourIn 148 = .ok (.getfield 25, 3) := by decide +kernel
theorem dX2_colourIn_151 : decode cX2_colourIn 151 = .ok (.bipush 7, 2) := by decide +kernel
theorem dX2_colourIn_153 : decode cX2_colourIn 153 = .ok (.aload_n 0, 1) := by decide +kernel
theorem dX2_colourIn_154 : decode cX2_colourIn 154 = .ok (.getfield 19, 3) := by decide +kernel
theorem dX2_colourIn_157 : decode cX2_colourIn 157 = .ok (.iload_n 1, 1) := by decide +kernel
theorem dX2_colourIn_158 : decode cX2_colourIn 158 = .ok (.iaload, 1) := by decide +kernel
theorem dX2_colourIn_159 : decode cX2_colourIn 159 = .ok (.iastore, 1) := by decide +kernel
theorem dX2_colourIn_160 : decode cX2_colourIn 160 = .ok (.aload_n 0, 1) := by decide +kernel
theorem dX2_colourIn_161 : decode cX2_colourIn 161 = .ok (.getfield 35, 3) := by decide +kernel
theorem dX2_colourIn_164 : decode cX2_colourIn 164 = .ok (.getfield 61, 3) := by decide +kernel
theorem dX2_colourIn_167 : decode cX2_colourIn 167 = .ok (.iconst 1, 1) := by decide +kernel
theorem dX2_colourIn_168 : decode cX2_colourIn 168 = .ok (.isub, 1) := by decide +kernel
theorem dX2_colourIn_169 : decode cX2_colourIn 169 = .ok (.istore 9, 2) := by decide +kernel
theorem dX2_colourIn_171 : decode cX2_colourIn 171 = .ok (.iload 9, 2) := by decide +kernel
theorem dX2_colourIn_173 : decode cX2_colourIn 173 = .ok (.ifCond .lt 29, 3) := by decide +kernel
theorem dX2_colourIn_176 : decode cX2_colourIn 176 = .ok (.aload_n 0, 1) := by decide +kernel
theorem dX2_colourIn_177 : decode cX2_colourIn 177 = .ok (.iload 9, 2) := by decide +kernel
theorem dX2_colourIn_179 : decode cX2_colourIn 179 = .ok (.invokevirtual 66, 3) := by decide +kernel
theorem dX2_colourIn_182 : decode cX2_colourIn 182 = .ok (.ifCond .eq 14, 3) := by decide +kernel
theorem dX2_colourIn_185 : decode cX2_colourIn 185 = .ok (.aload_n 0, 1) := by decide +kernel
theorem dX2_colourIn_186 : decode cX2_colourIn 186 = .ok (.getfield 22, 3) := by decide +kernel
theorem dX2_colourIn_189 : decode cX2_colourIn 189 = .ok (.iconst 0, 1) := by decide +kernel
theorem dX2_colourIn_190 : decode cX2_colourIn 190 = .ok (.laload, 1) := by decide +kernel
theorem dX2_colourIn_191 : decode cX2_colourIn 191 = .ok (.lstore 6, 2) := by decide +kernel
theorem dX2_colourIn_193 : decode cX2_colourIn 193 = .ok (.goto 9, 3) := by decide +kernel
theorem dX2_colourIn_196 : decode cX2_colourIn 196 = .ok (.iinc 9 (-1), 3) := by decide +kernel
theorem dX2_colourIn_199 : decode cX2_colourIn 199 = .ok (.goto (-28), 3) := by decide +kernel
theorem dX2_colourIn_202 : decode cX2_colourIn 202 = .ok (.aload_n 0, 1) := by decide +kernel
theorem dX2_colourIn_203 : decode cX2_colourIn 203 = .ok (.aload_n 0, 1) := by decide +kernel
theorem dX2_colourIn_204 : decode cX2_colourIn 204 = .ok (.getfield 15, 3) := by decide +kernel
theorem dX2_colourIn_207 : decode cX2_colourIn 207 = .ok (.iload_n 1, 1) := by decide +kernel
theorem dX2_colourIn_208 : decode cX2_colourIn 208 = .ok (.iaload, 1) := by decide +kernel
theorem dX2_colourIn_209 : decode cX2_colourIn 209 = .ok (.lload 6, 2) := by decide +kernel
theorem dX2_colourIn_211 : decode cX2_colourIn 211 = .ok (.invokevirtual 70, 3) := by decide +kernel
theorem dX2_colourIn_214 : decode cX2_colourIn 214 = .ok (.ireturn, 1) := by decide +kernel
theorem dX2_nearest_0 : decode cX2_nearest 0 = .ok (.lconst 0, 1) := by decide +kernel
theorem dX2_nearest_1 : decode cX2_nearest 1 = .ok (.ldc2_w 74, 3) := by decide +kernel
theorem dX2_nearest_4 : decode cX2_nearest 4 = .ok (.lload_n 2, 1) := by decide +kernel
theorem dX2_nearest_5 : decode cX2_nearest 5 = .ok (.invokestatic 76, 3) := by decide +kernel
theorem dX2_nearest_8 : decode cX2_nearest 8 = .ok (.invokestatic 82, 3) := by decide +kernel
theorem dX2_nearest_11 : decode cX2_nearest 11 = .ok (.l2i, 1) := by decide +kernel
theorem dX2_nearest_12 : decode cX2_nearest 12 = .ok (.istore 4, 2) := by decide +kernel
theorem dX2_nearest_14 : decode cX2_nearest 14 = .ok (.iconst 0, 1) := by decide +kernel
theorem dX2_nearest_15 : decode cX2_nearest 15 = .ok (.istore 5, 2) := by decide +kernel
theorem dX2_nearest_17 : decode cX2_nearest 17 = .ok (.iload 5, 2) := by decide +kernel
theorem dX2_nearest_19 : decode cX2_nearest 19 = .ok (.bipush 8, 2) := by decide +kernel
theorem dX2_nearest_21 : decode cX2_nearest 21 = .ok (.if_icmp .ge 59, 3) := by decide +kernel
theorem dX2_nearest_24 : decode cX2_nearest 24 = .ok (.iload 4, 2) := by decide +kernel
theorem dX2_nearest_26 : decode cX2_nearest 26 = .ok (.iload 5, 2) := by decide +kernel
theorem dX2_nearest_28 : decode cX2_nearest 28 = .ok (.isub, 1) := by decide +kernel
theorem dX2_nearest_29 : decode cX2_nearest 29 = .ok (.istore 6, 2) := by decide +kernel
theorem dX2_nearest_31 : decode cX2_nearest 31 = .ok (.iload 4, 2) := by decide +kernel
theorem dX2_nearest_33 : decode cX2_nearest 33 = .ok (.iload 5, 2) := by decide +kernel
theorem dX2_nearest_35 : decode cX2_nearest 35 = .ok (.iadd, 1) := by decide +kernel
theorem dX2_nearest_36 : decode cX2_nearest 36 = .ok (.istore 7, 2) := by decide +kernel
theorem dX2_nearest_38 : decode cX2_nearest 38 = .ok (.iload 6, 2) := by decide +kernel
theorem dX2_nearest_40 : decode cX2_nearest 40 = .ok (.ifCond .lt 15, 3) := by decide +kernel
theorem dX2_nearest_43 : decode cX2_nearest 43 = .ok (.iload_n 1, 1) := by decide +kernel
theorem dX2_nearest_44 : decode cX2_nearest 44 = .ok (.iload 6, 2) := by decide +kernel
theorem dX2_nearest_46 : decode cX2_nearest 46 = .ok (.ishr, 1) := by decide +kernel
theorem dX2_nearest_47 : decode cX2_nearest 47 = .ok (.iconst 1, 1) := by decide +kernel
theorem dX2_nearest_48 : decode cX2_nearest 48 = .ok (.iand, 1) := by decide +kernel
theorem dX2_nearest_49 : decode cX2_nearest 49 = .ok (.ifCond .eq 6, 3) := by decide +kernel
theorem dX2_nearest_52 : decode cX2_nearest 52 = .ok (.iload 6, 2) := by decide +kernel
theorem dX2_nearest_54 : decode cX2_nearest 54 = .ok (.ireturn, 1) := by decide +kernel
theorem dX2_nearest_55 : decode cX2_nearest 55 = .ok (.iload 7, 2) := by decide +kernel
theorem dX2_nearest_57 : decode cX2_nearest 57 = .ok (.bipush 8, 2) := by decide +kernel
theorem dX2_nearest_59 : decode cX2_nearest 59 = .ok (.if_icmp .ge 15, 3) := by decide +kernel
theorem dX2_nearest_62 : decode cX2_nearest 62 = .ok (.iload_n 1, 1) := by decide +kernel
theorem dX2_nearest_63 : decode cX2_nearest 63 = .ok (.iload 7, 2) := by decide +kernel
theorem dX2_nearest_65 : decode cX2_nearest 65 = .ok (.ishr, 1) := by decide +kernel
theorem dX2_nearest_66 : decode cX2_nearest 66 = .ok (.iconst 1, 1) := by decide +kernel
theorem dX2_nearest_67 : decode cX2_nearest 67 = .ok (.iand, 1) := by decide +kernel
theorem dX2_nearest_68 : decode cX2_nearest 68 = .ok (.ifCond .eq 6, 3) := by decide +kernel
theorem dX2_nearest_71 : decode cX2_nearest 71 = .ok (.iload 7, 2) := by decide +kernel
theorem dX2_nearest_73 : decode cX2_nearest 73 = .ok (.ireturn, 1) := by decide +kernel
theorem dX2_nearest_74 : decode cX2_nearest 74 = .ok (.iinc 5 1, 3) := by decide +kernel
theorem dX2_nearest_77 : decode cX2_nearest 77 = .ok (.goto (-60), 3) := by decide +kernel
theorem dX2_nearest_80 : decode cX2_nearest 80 = .ok (.iconst 0, 1) := by decide +kernel
theorem dX2_nearest_81 : decode cX2_nearest 81 = .ok (.ireturn, 1) := by decide +kernel
theorem dX2_holds_0 : decode cX2_holds 0 = .ok (.aload_n 0, 1) := by decide +kernel
theorem dX2_holds_1 : decode cX2_holds 1 = .ok (.getfield 35, 3) := by decide +kernel
theorem dX2_holds_4 : decode cX2_holds 4 = .ok (.getfield 85, 3) := by decide +kernel
theorem dX2_holds_7 : decode cX2_holds 7 = .ok (.iload_n 1, 1) := by decide +kernel
theorem dX2_holds_8 : decode cX2_holds 8 = .ok (.iconst 1, 1) := by decide +kernel
theorem dX2_holds_9 : decode cX2_holds 9 = .ok (.iadd, 1) := by decide +kernel
theorem dX2_holds_10 : decode cX2_holds 10 = .ok (.iaload, 1) := by decide +kernel
theorem dX2_holds_11 : decode cX2_holds 11 = .ok (.istore_n 2, 1) := by decide +kernel
theorem dX2_holds_12 : decode cX2_holds 12 = .ok (.iconst 0, 1) := by decide +kernel
theorem dX2_holds_13 : decode cX2_holds 13 = .ok (.istore_n 3, 1) := by decide +kernel
theorem dX2_holds_14 : decode cX2_holds 14 = .ok (.aload_n 0, 1) := by decide +kernel
theorem dX2_holds_15 : decode cX2_holds 15 = .ok (.getfield 35, 3) := by decide +kernel
theorem dX2_holds_18 : decode cX2_holds 18 = .ok (.getfield 85, 3) := by decide +kernel
theorem dX2_holds_21 : decode cX2_holds 21 = .ok (.iload_n 1, 1) := by decide +kernel
theorem dX2_holds_22 : decode cX2_holds 22 = .ok (.iaload, 1) := by decide +kernel
theorem dX2_holds_23 : decode cX2_holds 23 = .ok (.istore 4, 2) := by decide +kernel
theorem dX2_holds_25 : decode cX2_holds 25 = .ok (.iload 4, 2) := by decide +kernel
theorem dX2_holds_27 : decode cX2_holds 27 = .ok (.iload_n 2, 1) := by decide +kernel
theorem dX2_holds_28 : decode cX2_holds 28 = .ok (.if_icmp .ge 202, 3) := by decide +kernel
theorem dX2_holds_31 : decode cX2_holds 31 = .ok (.aload_n 0, 1) := by decide +kernel
theorem dX2_holds_32 : decode cX2_holds 32 = .ok (.getfield 35, 3) := by decide +kernel
theorem dX2_holds_35 : decode cX2_holds 35 = .ok (.getfield 88, 3) := by decide +kernel
theorem dX2_holds_38 : decode cX2_holds 38 = .ok (.iload 4, 2) := by decide +kernel
theorem dX2_holds_40 : decode cX2_holds 40 = .ok (.iaload, 1) := by decide +kernel
theorem dX2_holds_41 : decode cX2_holds 41 = .ok (.bipush 15, 2) := by decide +kernel
theorem dX2_holds_43 : decode cX2_holds 43 = .ok (.iand, 1) := by decide +kernel
theorem dX2_holds_44 : decode cX2_holds 44 = .ok (.istore 5, 2) := by decide +kernel
theorem dX2_holds_46 : decode cX2_holds 46 = .ok (.aload_n 0, 1) := by decide +kernel
theorem dX2_holds_47 : decode cX2_holds 47 = .ok (.getfield 35, 3) := by decide +kernel
theorem dX2_holds_50 : decode cX2_holds 50 = .ok (.getfield 88, 3) := by decide +kernel
theorem dX2_holds_53 : decode cX2_holds 53 = .ok (.iload 4, 2) := by decide +kernel
theorem dX2_holds_55 : decode cX2_holds 55 = .ok (.iaload, 1) := by decide +kernel
theorem dX2_holds_56 : decode cX2_holds 56 = .ok (.iconst 4, 1) := by decide +kernel
theorem dX2_holds_57 : decode cX2_holds 57 = .ok (.ishr, 1) := by decide +kernel
theorem dX2_holds_58 : decode cX2_holds 58 = .ok (.istore 6, 2) := by decide +kernel
theorem dX2_holds_60 : decode cX2_holds 60 = .ok (.iload 5, 2) := by decide +kernel
theorem dX2_holds_62 : decode cX2_holds 62 = .ok (.ifCond .eq 9, 3) := by decide +kernel
theorem dX2_holds_65 : decode cX2_holds 65 = .ok (.iload 5, 2) := by decide +kernel
theorem dX2_holds_67 : decode cX2_holds 67 = .ok (.iconst 1, 1) := by decide +kernel
theorem dX2_holds_68 : decode cX2_holds 68 = .ok (.if_icmp .ne 42, 3) := by decide +kernel
theorem dX2_holds_71 : decode cX2_holds 71 = .ok (.iload_n 3, 1) := by decide +kernel
theorem dX2_holds_72 : decode cX2_holds 72 = .ok (.bipush 50, 2) := by decide +kernel
theorem dX2_holds_74 : decode cX2_holds 74 = .ok (.if_icmp .lt 5, 3) := by decide +kernel
theorem dX2_holds_77 : decode cX2_holds 77 = .ok (.iconst 0, 1) := by decide +kernel
theorem dX2_holds_78 : decode cX2_holds 78 = .ok (.ireturn, 1) := by decide +kernel
theorem dX2_holds_79 : decode cX2_holds 79 = .ok (.aload_n 0, 1) := by decide +kernel
theorem dX2_holds_80 : decode cX2_holds 80 = .ok (.getfield 22, 3) := by decide +kernel
theorem dX2_holds_83 : decode cX2_holds 83 = .ok (.iload_n 3, 1) := by decide +kernel
theorem dX2_holds_84 : decode cX2_holds 84 = .ok (.iload 5, 2) := by decide +kernel
theorem dX2_holds_86 : decode cX2_holds 86 = .ok (.ifCond .ne 9, 3) := by decide +kernel
theorem dX2_holds_89 : decode cX2_holds 89 = .ok (.iload 6, 2) := by decide +kernel
theorem dX2_holds_91 : decode cX2_holds 91 = .ok (.i2l, 1) := by decide +kernel
theorem dX2_holds_92 : decode cX2_holds 92 = .ok (.goto 11, 3) := by decide +kernel
theorem dX2_holds_95 : decode cX2_holds 95 = .ok (.aload_n 0, 1) := by decide +kernel
theorem dX2_holds_96 : decode cX2_holds 96 = .ok (.getfield 25, 3) := by decide +kernel
theorem dX2_holds_99 : decode cX2_holds 99 = .ok (.iload 6, 2) := by decide +kernel
theorem dX2_holds_101 : decode cX2_holds 101 = .ok (.iaload, 1) := by decide +kernel
theorem dX2_holds_102 : decode cX2_holds 102 = .ok (.i2l, 1) := by decide +kernel
theorem dX2_holds_103 : decode cX2_holds 103 = .ok (.lastore, 1) := by decide +kernel
theorem dX2_holds_104 : decode cX2_holds 104 = .ok (.iinc 3 1, 3) := by decide +kernel
theorem dX2_holds_107 : decode cX2_holds 107 = .ok (.goto 117, 3) := by decide +kernel
theorem dX2_holds_110 : decode cX2_holds 110 = .ok (.iload_n 3, 1) := by decide +kernel
theorem dX2_holds_111 : decode cX2_holds 111 = .ok (.iconst 1, 1) := by decide +kernel
theorem dX2_holds_112 : decode cX2_holds 112 = .ok (.if_icmp .ge 5, 3) := by decide +kernel
theorem dX2_holds_115 : decode cX2_holds 115 = .ok (.iconst 0, 1) := by decide +kernel
theorem dX2_holds_116 : decode cX2_holds 116 = .ok (.ireturn, 1) := by decide +kernel
theorem dX2_holds_117 : decode cX2_holds 117 = .ok (.iload 5, 2) := by decide +kernel
theorem dX2_holds_119 : decode cX2_holds 119 = .ok (.bipush 9, 2) := by decide +kernel
theorem dX2_holds_121 : decode cX2_holds 121 = .ok (.if_icmp .ne 24, 3) := by decide +kernel
theorem dX2_holds_124 : decode cX2_holds 124 = .ok (.aload_n 0, 1) := by decide +kernel
theorem dX2_holds_125 : decode cX2_holds 125 = .ok (.getfield 22, 3) := by decide +kernel
theorem dX2_holds_128 : decode cX2_holds 128 = .ok (.iload_n 3, 1) := by decide +kernel
theorem dX2_holds_129 : decode cX2_holds 129 = .ok (.iconst 1, 1) := by decide +kernel
theorem dX2_holds_130 : decode cX2_holds 130 = .ok (.isub, 1) := by decide +kernel
theorem dX2_holds_131 : decode cX2_holds 131 = .ok (.lconst 1, 1) := by decide +kernel
theorem dX2_holds_132 : decode cX2_holds 132 = .ok (.aload_n 0, 1) := by decide +kernel
theorem dX2_holds_133 : decode cX2_holds 133 = .ok (.getfield 22, 3) := by decide +kernel
theorem dX2_holds_136 : decode cX2_holds 136 = .ok (.iload_n 3, 1) := by decide +kernel
theorem dX2_holds_137 : decode cX2_holds 137 = .ok (.iconst 1, 1) := by decide +kernel
theorem dX2_holds_138 : decode cX2_holds 138 = .ok (.isub, 1) := by decide +kernel
theorem dX2_holds_139 : decode cX2_holds 139 = .ok (.laload, 1) := by decide +kernel
theorem dX2_holds_140 : decode cX2_holds 140 = .ok (.lsub, 1) := by decide +kernel
theorem dX2_holds_141 : decode cX2_holds 141 = .ok (.lastore, 1) := by decide +kernel
theorem dX2_holds_142 : decode cX2_holds 142 = .ok (.goto 82, 3) := by decide +kernel
theorem dX2_holds_145 : decode cX2_holds 145 = .ok (.iload 5, 2) := by decide +kernel
theorem dX2_holds_147 : decode cX2_holds 147 = .ok (.bipush 10, 2) := by decide +kernel
theorem dX2_holds_149 : decode cX2_holds 149 = .ok (.if_icmp .eq 10, 3) := by decide +kernel
theorem dX2_holds_152 : decode cX2_holds 152 = .ok (.iload 5, 2) := by decide +kernel
theorem dX2_holds_154 : decode cX2_holds 154 = .ok (.bipush 11, 2) := by decide +kernel
theorem dX2_holds_156 : decode cX2_holds 156 = .ok (.if_icmp .ne 48, 3) := by decide +kernel
theorem dX2_holds_159 : decode cX2_holds 159 = .ok (.aload_n 0, 1) := by decide +kernel
theorem dX2_holds_160 : decode cX2_holds 160 = .ok (.getfield 22, 3) := by decide +kernel
theorem dX2_holds_163 : decode cX2_holds 163 = .ok (.iload_n 3, 1) := by decide +kernel
theorem dX2_holds_164 : decode cX2_holds 164 = .ok (.iconst 1, 1) := by decide +kernel
theorem dX2_holds_165 : decode cX2_holds 165 = .ok (.isub, 1) := by decide +kernel
theorem dX2_holds_166 : decode cX2_holds 166 = .ok (.laload, 1) := by decide +kernel
theorem dX2_holds_167 : decode cX2_holds 167 = .ok (.iload 5, 2) := by decide +kernel
theorem dX2_holds_169 : decode cX2_holds 169 = .ok (.bipush 11, 2) := by decide +kernel
theorem dX2_holds_171 : decode cX2_holds 171 = .ok (.if_icmp .ne 7, 3) := by decide +kernel
theorem dX2_holds_174 : decode cX2_holds 174 = .ok (.iconst 1, 1) := by decide +kernel
theorem dX2_holds_175 : decode cX2_holds 175 = .ok (.goto 4, 3) := by decide +kernel
theorem dX2_holds_178 : decode cX2_holds 178 = .ok (.iconst 0, 1) := by decide +kernel
theorem dX2_holds_179 : decode cX2_holds 179 = .ok (.i2l, 1) := by decide +kernel
theorem dX2_holds_180 : decode cX2_holds 180 = .ok (.lcmp, 1) := by decide +kernel
theorem dX2_holds_181 : decode cX2_holds 181 = .ok (.ifCond .ne 17, 3) := by decide +kernel
theorem dX2_holds_184 : decode cX2_holds 184 = .ok (.iload 4, 2) := by decide +kernel
theorem dX2_holds_186 : decode cX2_holds 186 = .ok (.iload 6, 2) := by decide +kernel
theorem dX2_holds_188 : decode cX2_holds 188 = .ok (.iconst 1, 1) := by decide +kernel
theorem dX2_holds_189 : decode cX2_holds 189 = .ok (.isub, 1) := by decide +kernel
theorem dX2_holds_190 : decode cX2_holds 190 = .ok (.invokestatic 91, 3) := by decide +kernel
theorem dX2_holds_193 : decode cX2_holds 193 = .ok (.istore 4, 2) := by decide +kernel
theorem dX2_holds_195 : decode cX2_holds 195 = .ok (.goto 29, 3) := by decide +kernel
theorem dX2_holds_198 : decode cX2_holds 198 = .ok (.iinc 3 (-1), 3) := by decide +kernel
theorem dX2_holds_201 : decode cX2_holds 201 = .ok (.goto 23, 3) := by decide +kernel
theorem dX2_holds_204 : decode cX2_holds 204 = .ok (.iload_n 3, 1) := by decide +kernel
theorem dX2_holds_205 : decode cX2_holds 205 = .ok (.iconst 2, 1) := by decide +kernel
theorem dX2_holds_206 : decode cX2_holds 206 = .ok (.if_icmp .lt 13, 3) := by decide +kernel
theorem dX2_holds_209 : decode cX2_holds 209 = .ok (.aload_n 0, 1) := by decide +kernel
theorem dX2_holds_210 : decode cX2_holds 210 = .ok (.iload 5, 2) := by decide +kernel
theorem dX2_holds_212 : decode cX2_holds 212 = .ok (.iload_n 3, 1) := by decide +kernel
theorem dX2_holds_213 : decode cX2_holds 213 = .ok (.invokevirtual 94, 3) := by decide +kernel
theorem dX2_holds_216 : decode cX2_holds 216 = .ok (.ifCond .ne 5, 3) := by decide +kernel
theorem dX2_holds_219 : decode cX2_holds 219 = .ok (.iconst 0, 1) := by decide +kernel
theorem dX2_holds_220 : decode cX2_holds 220 = .ok (.ireturn, 1) := by decide +kernel
theorem dX2_holds_221 : decode cX2_holds 221 = .ok (.iinc 3 (-1), 3) := by decide +kernel
theorem dX2_holds_224 : decode cX2_holds 224 = .ok (.iinc 4 1, 3) := by decide +kernel
theorem dX2_holds_227 : decode cX2_holds 227 = .ok (.goto (-202), 3) := by decide +kernel
theorem dX2_holds_230 : decode cX2_holds 230 = .ok (.iload_n 3, 1) := by decide +kernel
theorem dX2_holds_231 : decode cX2_holds 231 = .ok (.iconst 1, 1) := by decide +kernel
theorem dX2_holds_232 : decode cX2_holds 232 = .ok (.if_icmp .eq 19, 3) := by decide +kernel
theorem dX2_holds_235 : decode cX2_holds 235 = .ok (.iload_n 3, 1) := by decide +kernel
theorem dX2_holds_236 : decode cX2_holds 236 = .ok (.iconst 2, 1) := by decide +kernel
theorem dX2_holds_237 : decode cX2_holds 237 = .ok (.if_icmp .ne 18, 3) := by decide +kernel
theorem dX2_holds_240 : decode cX2_holds 240 = .ok (.aload_n 0, 1) := by decide +kernel
theorem dX2_holds_241 : decode cX2_holds 241 = .ok (.getfield 22, 3) := by decide +kernel
theorem dX2_holds_244 : decode cX2_holds 244 = .ok (.iconst 1, 1) := by decide +kernel
theorem dX2_holds_245 : decode cX2_holds 245 = .ok (.laload, 1) := by decide +kernel
theorem dX2_holds_246 : decode cX2_holds 246 = .ok (.lconst 1, 1) := by decide +kernel
theorem dX2_holds_247 : decode cX2_holds 247 = .ok (.lcmp, 1) := by decide +kernel
theorem dX2_holds_248 : decode cX2_holds 248 = .ok (.ifCond .ne 7, 3) := by decide +kernel
theorem dX2_holds_251 : decode cX2_holds 251 = .ok (.iconst 1, 1) := by decide +kernel
theorem dX2_holds_252 : decode cX2_holds 252 = .ok (.goto 4, 3) := by decide +kernel
theorem dX2_holds_255 : decode cX2_holds 255 = .ok (.iconst 0, 1) := by decide +kernel
theorem dX2_holds_256 : decode cX2_holds 256 = .ok (.ireturn, 1) := by decide +kernel
theorem dX2_combine_0 : decode cX2_combine 0 = .ok (.aload_n 0, 1) := by decide +kernel
theorem dX2_combine_1 : decode cX2_combine 1 = .ok (.getfield 22, 3) := by decide +kernel
theorem dX2_combine_4 : decode cX2_combine 4 = .ok (.iload_n 2, 1) := by decide +kernel
theorem dX2_combine_5 : decode cX2_combine 5 = .ok (.iconst 2, 1) := by decide +kernel
theorem dX2_combine_6 : decode cX2_combine 6 = .ok (.isub, 1) := by decide +kernel
theorem dX2_combine_7 : decode cX2_combine 7 = .ok (.laload, 1) := by decide +kernel
theorem dX2_combine_8 : decode cX2_combine 8 = .ok (.lstore_n 3, 1) := by decide +kernel
theorem dX2_combine_9 : decode cX2_combine 9 = .ok (.aload_n 0, 1) := by decide +kernel
theorem dX2_combine_10 : decode cX2_combine 10 = .ok (.getfield 22, 3) := by decide +kernel
theorem dX2_combine_13 : decode cX2_combine 13 = .ok (.iload_n 2, 1) := by decide +kernel
theorem dX2_combine_14 : decode cX2_combine 14 = .ok (.iconst 1, 1) := by decide +kernel
theorem dX2_combine_15 : decode cX2_combine 15 = .ok (.isub, 1) := by decide +kernel
theorem dX2_combine_16 : decode cX2_combine 16 = .ok (.laload, 1) := by decide +kernel
theorem dX2_combine_17 : decode cX2_combine 17 = .ok (.lstore 5, 2) := by decide +kernel
theorem dX2_combine_19 : decode cX2_combine 19 = .ok (.iload_n 1, 1) := by decide +kernel
theorem dX2_combine_20 : decode cX2_combine 20 = .ok (.iconst 5, 1) := by decide +kernel
theorem dX2_combine_21 : decode cX2_combine 21 = .ok (.if_icmp .ne 12, 3) := by decide +kernel
theorem dX2_combine_24 : decode cX2_combine 24 = .ok (.lload 5, 2) := by decide +kernel
theorem dX2_combine_26 : decode cX2_combine 26 = .ok (.lconst 0, 1) := by decide +kernel
theorem dX2_combine_27 : decode cX2_combine 27 = .ok (.lcmp, 1) := by decide +kernel
theorem dX2_combine_28 : decode cX2_combine 28 = .ok (.ifCond .ne 5, 3) := by decide +kernel
theorem dX2_combine_31 : decode cX2_combine 31 = .ok (.iconst 0, 1) := by decide +kernel
theorem dX2_combine_32 : decode cX2_combine 32 = .ok (.ireturn, 1) := by decide +kernel
theorem dX2_combine_33 : decode cX2_combine 33 = .ok (.iload_n 1, 1) := by decide +kernel
theorem dX2_combine_34 : decode cX2_combine 34 = .ok (.tableswitch 108 2 7 #[38, 47, 56, 65, 74, 91], 38) := by decide +kernel
theorem dX2_combine_72 : decode cX2_combine 72 = .ok (.lload_n 3, 1) := by decide +kernel
theorem dX2_combine_73 : decode cX2_combine 73 = .ok (.lload 5, 2) := by decide +kernel
theorem dX2_combine_75 : decode cX2_combine 75 = .ok (.ladd, 1) := by decide +kernel
theorem dX2_combine_76 : decode cX2_combine 76 = .ok (.lstore 7, 2) := by decide +kernel
theorem dX2_combine_78 : decode cX2_combine 78 = .ok (.goto 78, 3) := by decide +kernel
theorem dX2_combine_81 : decode cX2_combine 81 = .ok (.lload_n 3, 1) := by decide +kernel
theorem dX2_combine_82 : decode cX2_combine 82 = .ok (.lload 5, 2) := by decide +kernel
theorem dX2_combine_84 : decode cX2_combine 84 = .ok (.lsub, 1) := by decide +kernel
theorem dX2_combine_85 : decode cX2_combine 85 = .ok (.lstore 7, 2) := by decide +kernel
theorem dX2_combine_87 : decode cX2_combine 87 = .ok (.goto 69, 3) := by decide +kernel
theorem dX2_combine_90 : decode cX2_combine 90 = .ok (.lload_n 3, 1) := by decide +kernel
theorem dX2_combine_91 : decode cX2_combine 91 = .ok (.lload 5, 2) := by decide +kernel
theorem dX2_combine_93 : decode cX2_combine 93 = .ok (.lmul, 1) := by decide +kernel
theorem dX2_combine_94 : decode cX2_combine 94 = .ok (.lstore 7, 2) := by decide +kernel
theorem dX2_combine_96 : decode cX2_combine 96 = .ok (.goto 60, 3) := by decide +kernel
theorem dX2_combine_99 : decode cX2_combine 99 = .ok (.lload_n 3, 1) := by decide +kernel
theorem dX2_combine_100 : decode cX2_combine 100 = .ok (.lload 5, 2) := by decide +kernel
theorem dX2_combine_102 : decode cX2_combine 102 = .ok (.ldiv, 1) := by decide +kernel
theorem dX2_combine_103 : decode cX2_combine 103 = .ok (.lstore 7, 2) := by decide +kernel
theorem dX2_combine_105 : decode cX2_combine 105 = .ok (.goto 51, 3) := by decide +kernel
theorem dX2_combine_108 : decode cX2_combine 108 = .ok (.lload_n 3, 1) := by decide +kernel
theorem dX2_combine_109 : decode cX2_combine 109 = .ok (.lload 5, 2) := by decide +kernel
theorem dX2_combine_111 : decode cX2_combine 111 = .ok (.lcmp, 1) := by decide +kernel
theorem dX2_combine_112 : decode cX2_combine 112 = .ok (.ifCond .ge 7, 3) := by decide +kernel
theorem dX2_combine_115 : decode cX2_combine 115 = .ok (.lconst 1, 1) := by decide +kernel
theorem dX2_combine_116 : decode cX2_combine 116 = .ok (.goto 4, 3) := by decide +kernel
theorem dX2_combine_119 : decode cX2_combine 119 = .ok (.lconst 0, 1) := by decide +kernel
theorem dX2_combine_120 : decode cX2_combine 120 = .ok (.lstore 7, 2) := by decide +kernel
theorem dX2_combine_122 : decode cX2_combine 122 = .ok (.goto 34, 3) := by decide +kernel
theorem dX2_combine_125 : decode cX2_combine 125 = .ok (.lload_n 3, 1) := by decide +kernel
theorem dX2_combine_126 : decode cX2_combine 126 = .ok (.lload 5, 2) := by decide +kernel
theorem dX2_combine_128 : decode cX2_combine 128 = .ok (.lcmp, 1) := by decide +kernel
theorem dX2_combine_129 : decode cX2_combine 129 = .ok (.ifCond .le 7, 3) := by decide +kernel
theorem dX2_combine_132 : decode cX2_combine 132 = .ok (.lconst 1, 1) := by decide +kernel
theorem dX2_combine_133 : decode cX2_combine 133 = .ok (.goto 4, 3) := by decide +kernel
theorem dX2_combine_136 : decode cX2_combine 136 = .ok (.lconst 0, 1) := by decide +kernel
theorem dX2_combine_137 : decode cX2_combine 137 = .ok (.lstore 7, 2) := by decide +kernel
theorem dX2_combine_139 : decode cX2_combine 139 = .ok (.goto 17, 3) := by decide +kernel
theorem dX2_combine_142 : decode cX2_combine 142 = .ok (.lload_n 3, 1) := by decide +kernel
theorem dX2_combine_143 : decode cX2_combine 143 = .ok (.lload 5, 2) := by decide +kernel
theorem dX2_combine_145 : decode cX2_combine 145 = .ok (.lcmp, 1) := by decide +kernel
theorem dX2_combine_146 : decode cX2_combine 146 = .ok (.ifCond .ne 7, 3) := by decide +kernel
theorem dX2_combine_149 : decode cX2_combine 149 = .ok (.lconst 1, 1) := by decide +kernel
theorem dX2_combine_150 : decode cX2_combine 150 = .ok (.goto 4, 3) := by decide +kernel
theorem dX2_combine_153 : decode cX2_combine 153 = .ok (.lconst 0, 1) := by decide +kernel
theorem dX2_combine_154 : decode cX2_combine 154 = .ok (.lstore 7, 2) := by decide +kernel
theorem dX2_combine_156 : decode cX2_combine 156 = .ok (.aload_n 0, 1) := by decide +kernel
theorem dX2_combine_157 : decode cX2_combine 157 = .ok (.getfield 22, 3) := by decide +kernel
theorem dX2_combine_160 : decode cX2_combine 160 = .ok (.iload_n 2, 1) := by decide +kernel
theorem dX2_combine_161 : decode cX2_combine 161 = .ok (.iconst 2, 1) := by decide +kernel
theorem dX2_combine_162 : decode cX2_combine 162 = .ok (.isub, 1) := by decide +kernel
theorem dX2_combine_163 : decode cX2_combine 163 = .ok (.lload 7, 2) := by decide +kernel
theorem dX2_combine_165 : decode cX2_combine 165 = .ok (.lastore, 1) := by decide +kernel
theorem dX2_combine_166 : decode cX2_combine 166 = .ok (.lload 7, 2) := by decide +kernel
theorem dX2_combine_168 : decode cX2_combine 168 = .ok (.ldc2_w 97, 3) := by decide +kernel
theorem dX2_combine_171 : decode cX2_combine 171 = .ok (.lcmp, 1) := by decide +kernel
theorem dX2_combine_172 : decode cX2_combine 172 = .ok (.ifCond .gt 16, 3) := by decide +kernel
theorem dX2_combine_175 : decode cX2_combine 175 = .ok (.lload 7, 2) := by decide +kernel
theorem dX2_combine_177 : decode cX2_combine 177 = .ok (.ldc2_w 99, 3) := by decide +kernel
theorem dX2_combine_180 : decode cX2_combine 180 = .ok (.lcmp, 1) := by decide +kernel
theorem dX2_combine_181 : decode cX2_combine 181 = .ok (.ifCond .lt 7, 3) := by decide +kernel
theorem dX2_combine_184 : decode cX2_combine 184 = .ok (.iconst 1, 1) := by decide +kernel
theorem dX2_combine_185 : decode cX2_combine 185 = .ok (.goto 4, 3) := by decide +kernel
theorem dX2_combine_188 : decode cX2_combine 188 = .ok (.iconst 0, 1) := by decide +kernel
theorem dX2_combine_189 : decode cX2_combine 189 = .ok (.ireturn, 1) := by decide +kernel
theorem dX3_init_0 : decode cX3_init 0 = .ok (.aload_n 0, 1) := by decide +kernel
theorem dX3_init_1 : decode cX3_init 1 = .ok (.invokespecial 3, 3) := by decide +kernel
theorem dX3_init_4 : decode cX3_init 4 = .ok (.aload_n 0, 1) := by decide +kernel
theorem dX3_init_5 : decode cX3_init 5 = .ok (.iconst 5, 1) := by decide +kernel
theorem dX3_init_6 : decode cX3_init 6 = .ok (.newarray .int, 2) := by decide +kernel
theorem dX3_init_8 : decode cX3_init 8 = .ok (.putfield 9, 3) := by decide +kernel
theorem dX3_init_11 : decode cX3_init 11 = .ok (.aload_n 0, 1) := by decide +kernel
theorem dX3_init_12 : decode cX3_init 12 = .ok (.iconst 5, 1) := by decide +kernel
theorem dX3_init_13 : decode cX3_init 13 = .ok (.newarray .int, 2) := by decide +kernel
theorem dX3_init_15 : decode cX3_init 15 = .ok (.putfield 15, 3) := by decide +kernel
theorem dX3_init_18 : decode cX3_init 18 = .ok (.aload_n 0, 1) := by decide +kernel
theorem dX3_init_19 : decode cX3_init 19 = .ok (.iconst 5, 1) := by decide +kernel
theorem dX3_init_20 : decode cX3_init 20 = .ok (.newarray .int, 2) := by decide +kernel
theorem dX3_init_22 : decode cX3_init 22 = .ok (.putfield 18, 3) := by decide +kernel
theorem dX3_init_25 : decode cX3_init 25 = .ok (.aload_n 0, 1) := by decide +kernel
theorem dX3_init_26 : decode cX3_init 26 = .ok (.iconst 5, 1) := by decide +kernel
theorem dX3_init_27 : decode cX3_init 27 = .ok (.newarray .int, 2) := by decide +kernel
theorem dX3_init_29 : decode cX3_init 29 = .ok (.putfield 21, 3) := by decide +kernel
theorem dX3_init_32 : decode cX3_init 32 = .ok (.aload_n 0, 1) := by decide +kernel
theorem dX3_init_33 : decode cX3_init 33 = .ok (.bipush 36, 2) := by decide +kernel
theorem dX3_init_35 : decode cX3_init 35 = .ok (.newarray .int, 2) := by decide +kernel
theorem dX3_init_37 : decode cX3_init 37 = .ok (.putfield 24, 3) := by decide +kernel
theorem dX3_init_40 : decode cX3_init 40 = .ok (.aload_n 0, 1) := by decide +kernel
theorem dX3_init_41 : decode cX3_init 41 = .ok (.iconst 0, 1) := by decide +kernel
theorem dX3_init_42 : decode cX3_init 42 = .ok (.putfield 27, 3) := by decide +kernel
theorem dX3_init_45 : decode cX3_init 45 = .ok (.aload_n 0, 1) := by decide +kernel
theorem dX3_init_46 : decode cX3_init 46 = .ok (.iconst 0, 1) := by decide +kernel
theorem dX3_init_47 : decode cX3_init 47 = .ok (.putfield 31, 3) := by decide +kernel
theorem dX3_init_50 : decode cX3_init 50 = .ok (.return_, 1) := by decide +kernel
theorem dX3_takeCells_0 : decode cX3_takeCells 0 = .ok (.aload_n 0, 1) := by decide +kernel
theorem dX3_takeCells_1 : decode cX3_takeCells 1 = .ok (.getfield 9, 3) := by decide +kernel
theorem dX3_takeCells_4 : decode cX3_takeCells 4 = .ok (.iconst 0, 1) := by decide +kernel
theorem dX3_takeCells_5 : decode cX3_takeCells 5 = .ok (.iload_n 1, 1) := by decide +kernel
theorem dX3_takeCells_6 : decode cX3_takeCells 6 = .ok (.iastore, 1) := by decide +kernel
theorem dX3_takeCells_7 : decode cX3_takeCells 7 = .ok (.aload_n 0, 1) := by decide +kernel
theorem dX3_takeCells_8 : decode cX3_takeCells 8 = .ok (.getfield 9, 3) := by decide +kernel
theorem dX3_takeCells_11 : decode cX3_takeCells 11 = .ok (.iconst 1, 1) := by decide +kernel
theorem dX3_takeCells_12 : decode cX3_takeCells 12 = .ok (.iload_n 2, 1) := by decide +kernel
theorem dX3_takeCells_13 : decode cX3_takeCells 13 = .ok (.iastore, 1) := by decide +kernel
theorem dX3_takeCells_14 : decode cX3_takeCells 14 = .ok (.aload_n 0, 1) := by decide +kernel
theorem dX3_takeCells_15 : decode cX3_takeCells 15 = .ok (.getfield 9, 3) := by decide +kernel
theorem dX3_takeCells_18 : decode cX3_takeCells 18 = .ok (.iconst 2, 1) := by decide +kernel
theorem dX3_takeCells_19 : decode cX3_takeCells 19 = .ok (.iload_n 3, 1) := by decide +kernel
theorem dX3_takeCells_20 : decode cX3_takeCells 20 = .ok (.iastore, 1) := by decide +kernel
theorem dX3_takeCells_21 : decode cX3_takeCells 21 = .ok (.aload_n 0, 1) := by decide +kernel
theorem dX3_takeCells_22 : decode cX3_takeCells 22 = .ok (.getfield 9, 3) := by decide +kernel
theorem dX3_takeCells_25 : decode cX3_takeCells 25 = .ok (.iconst 3, 1) := by decide +kernel
theorem dX3_takeCells_26 : decode cX3_takeCells 26 = .ok (.iload 4, 2) := by decide +kernel
theorem dX3_takeCells_28 : decode cX3_takeCells 28 = .ok (.iastore, 1) := by decide +kernel
theorem dX3_takeCells_29 : decode cX3_takeCells 29 = .ok (.aload_n 0, 1) := by decide +kernel
theorem dX3_takeCells_30 : decode cX3_takeCells 30 = .ok (.getfield 9, 3) := by decide +kernel
theorem dX3_takeCells_33 : decode cX3_takeCells 33 = .ok (.iconst 4, 1) := by decide +kernel
theorem dX3_takeCells_34 : decode cX3_takeCells 34 = .ok (.iload 5, 2) := by decide +kernel
theorem dX3_takeCells_36 : decode cX3_takeCells 36 = .ok (.iastore, 1) := by decide +kernel
theorem dX3_takeCells_37 : decode cX3_takeCells 37 = .ok (.aload_n 0, 1) := by decide +kernel
theorem dX3_takeCells_38 : decode cX3_takeCells 38 = .ok (.iconst 0, 1) := by decide +kernel
theorem dX3_takeCells_39 : decode cX3_takeCells 39 = .ok (.putfield 27, 3) := by decide +kernel
theorem dX3_takeCells_42 : decode cX3_takeCells 42 = .ok (.iconst 0, 1) := by decide +kernel
theorem dX3_takeCells_43 : decode cX3_takeCells 43 = .ok (.istore 6, 2) := by decide +kernel
theorem dX3_takeCells_45 : decode cX3_takeCells 45 = .ok (.iload 6, 2) := by decide +kernel
theorem dX3_takeCells_47 : decode cX3_takeCells 47 = .ok (.iconst 5, 1) := by decide +kernel
theorem dX3_takeCells_48 : decode cX3_takeCells 48 = .ok (.if_icmp .ge 61, 3) := by decide +kernel
theorem dX3_takeCells_51 : decode cX3_takeCells 51 = .ok (.aload_n 0, 1) := by decide +kernel
theorem dX3_takeCells_52 : decode cX3_takeCells 52 = .ok (.getfield 9, 3) := by decide +kernel
theorem dX3_takeCells_55 : decode cX3_takeCells 55 = .ok (.iload 6, 2) := by decide +kernel
theorem dX3_takeCells_57 : decode cX3_takeCells 57 = .ok (.iaload, 1) := by decide +kernel
theorem dX3_takeCells_58 : decode cX3_takeCells 58 = .ok (.iconst (-1), 1) := by decide +kernel
theorem dX3_takeCells_59 : decode cX3_takeCells 59 = .ok (.if_icmp .ne 6, 3) := by decide +kernel
theorem dX3_takeCells_62 : decode cX3_takeCells 62 = .ok (.goto 41, 3) := by decide +kernel
theorem dX3_takeCells_65 : decode cX3_takeCells 65 = .ok (.aload_n 0, 1) := by decide +kernel
theorem dX3_takeCells_66 : decode cX3_takeCells 66 = .ok (.getfield 9, 3) := by decide +kernel
theorem dX3_takeCells_69 : decode cX3_takeCells 69 = .ok (.iload 6, 2) := by decide +kernel
theorem dX3_takeCells_71 : decode cX3_takeCells 71 = .ok (.iaload, 1) := by decide +kernel
theorem dX3_takeCells_72 : decode cX3_takeCells 72 = .ok (.invokestatic 34, 3) := by decide +kernel
theorem dX3_takeCells_75 : decode cX3_takeCells 75 = .ok (.ifCond .eq 26, 3) := by decide +kernel
theorem dX3_takeCells_78 : decode cX3_takeCells 78 = .ok (.aload_n 0, 1) := by decide +kernel
theorem dX3_takeCells_79 : decode cX3_takeCells 79 = .ok (.getfield 27, 3) := by decide +kernel
theorem dX3_takeCells_82 : decode cX3_takeCells 82 = .ok (.iload 6, 2) := by decide +kernel
theorem dX3_takeCells_84 : decode cX3_takeCells 84 = .ok (.if_icmp .lt 17, 3) := by decide +kernel
theorem dX3_takeCells_87 : decode cX3_takeCells 87 = .ok (.aload_n 0, 1) := by decide +kernel
theorem dX3_takeCells_88 : decode cX3_takeCells 88 = .ok (.aload_n 0, 1) := by decide +kernel
theorem dX3_takeCells_89 : decode cX3_takeCells 89 = .ok (.getfield 9, 3) := by decide +kernel
theorem dX3_takeCells_92 : decode cX3_takeCells 92 = .ok (.iload 6, 2) := by decide +kernel
theorem dX3_takeCells_94 : decode cX3_takeCells 94 = .ok (.iaload, 1) := by decide +kernel
theorem dX3_takeCells_95 : decode cX3_takeCells 95 = .ok (.invokevirtual 38, 3) := by decide +kernel
theorem dX3_takeCells_98 : decode cX3_takeCells 98 = .ok (.ifCond .ne 5, 3) := by decide +kernel
theorem dX3_takeCells_101 : decode cX3_takeCells 101 = .ok (.iconst 0, 1) := by decide +kernel
theorem dX3_takeCells_102 : decode cX3_takeCells 102 = .ok (.ireturn, 1) := by decide +kernel
theorem dX3_takeCells_103 : decode cX3_takeCells 103 = .ok (.iinc 6 1, 3) := by decide +kernel
theorem dX3_takeCells_106 : decode cX3_takeCells 106 = .ok (.goto (-61), 3) := by decide +kernel
theorem dX3_takeCells_109 : decode cX3_takeCells 109 = .ok (.iconst 1, 1) := by decide +kernel
theorem dX3_takeCells_110 : decode cX3_takeCells 110 = .ok (.ireturn, 1) := by decide +kernel
theorem dX3_insert_0 : decode cX3_insert 0 = .ok (.aload_n 0, 1) := by decide +kernel
theorem dX3_insert_1 : decode cX3_insert 1 = .ok (.getfield 27, 3) := by decide +kernel
theorem dX3_insert_4 : decode cX3_insert 4 = .ok (.istore_n 2, 1) := by decide +kernel
theorem dX3_insert_5 : decode cX3_insert 5 = .ok (.aload_n 0, 1) := by decide +kernel
theorem dX3_insert_6 : decode cX3_insert 6 = .ok (.getfield 27, 3) := by decide +kernel
theorem dX3_insert_9 : decode cX3_insert 9 = .ok (.iconst 1, 1) := by decide +kernel
theorem dX3_insert_10 : decode cX3_insert 10 = .ok (.isub, 1) := by decide +kernel
theorem dX3_insert_11 : decode cX3_insert 11 = .ok (.istore_n 3, 1) := by decide +kernel
theorem dX3_insert_12 : decode cX3_insert 12 = .ok (.iload_n 3, 1) := by decide +kernel
theorem dX3_insert_13 : decode cX3_insert 13 = .ok (.ifCond .lt 21, 3) := by decide +kernel
theorem dX3_insert_16 : decode cX3_insert 16 = .ok (.aload_n 0, 1) := by decide +kernel
theorem dX3_insert_17 : decode cX3_insert 17 = .ok (.getfield 15, 3) := by decide +kernel
theorem dX3_insert_20 : decode cX3_insert 20 = .ok (.iload_n 3, 1) := by decide +kernel
theorem dX3_insert_21 : decode cX3_insert 21 = .ok (.iaload, 1) := by decide +kernel
theorem dX3_insert_22 : decode cX3_insert 22 = .ok (.iload_n 1, 1) := by decide +kernel
theorem dX3_insert_23 : decode cX3_insert 23 = .ok (.if_icmp .lt 11, 3) := by decide +kernel
theorem dX3_insert_26 : decode cX3_insert 26 = .ok (.iload_n 3, 1) := by decide +kernel
theorem dX3_insert_27 : decode cX3_insert 27 = .ok (.istore_n 2, 1) := by decide +kernel
theorem dX3_insert_28 : decode cX3_insert 28 = .ok (.iinc 3 (-1), 3) := by decide +kernel
theorem dX3_insert_31 : decode cX3_insert 31 = .ok (.goto (-19), 3) := by decide +kernel
theorem dX3_insert_34 : decode cX3_insert 34 = .ok (.iload_n 2, 1) := by decide +kernel
theorem dX3_insert_35 : decode cX3_insert 35 = .ok (.aload_n 0, 1) := by decide +kernel
theorem dX3_insert_36 : decode cX3_insert 36 = .ok (.getfield 27, 3) := by decide +kernel
theorem dX3_insert_39 : decode cX3_insert 39 = .ok (.if_icmp .ge 15, 3) := by decide +kernel
theorem dX3_insert_42 : decode cX3_insert 42 = .ok (.aload_n 0, 1) := by decide +kernel
theorem dX3_insert_43 : decode cX3_insert 43 = .ok (.getfield 15, 3) := by decide +kernel
theorem dX3_insert_46 : decode cX3_insert 46 = .ok (.iload_n 2, 1) := by decide +kernel
theorem dX3_insert_47 : decode cX3_insert 47 = .ok (.iaload, 1) := by decide +kernel
theorem dX3_insert_48 : decode cX3_insert 48 = .ok (.iload_n 1, 1) := by decide +kernel
theorem dX3_insert_49 : decode cX3_insert 49 = .ok (.if_icmp .ne 5, 3) := by decide +kernel
theorem dX3_insert_52 : decode cX3_insert 52 = .ok (.iconst 0, 1) := by decide +kernel
theorem dX3_insert_53 : decode cX3_insert 53 = .ok (.ireturn, 1) := by decide +kernel
theorem dX3_insert_54 : decode cX3_insert 54 = .ok (.aload_n 0, 1) := by decide +kernel
theorem dX3_insert_55 : decode cX3_insert 55 = .ok (.getfield 27, 3) := by decide +kernel
theorem dX3_insert_58 : decode cX3_insert 58 = .ok (.istore_n 3, 1) := by decide +kernel
theorem dX3_insert_59 : decode cX3_insert 59 = .ok (.iload_n 3, 1) := by decide +kernel
theorem dX3_insert_60 : decode cX3_insert 60 = .ok (.iload_n 2, 1) := by decide +kernel
theorem dX3_insert_61 : decode cX3_insert 61 = .ok (.if_icmp .le 23, 3) := by decide +kernel
theorem dX3_insert_64 : decode cX3_insert 64 = .ok (.aload_n 0, 1) := by decide +kernel
theorem dX3_insert_65 : decode cX3_insert 65 = .ok (.getfield 15, 3) := by decide +kernel
theorem dX3_insert_68 : decode cX3_insert 68 = .ok (.iload_n 3, 1) := by decide +kernel
theorem dX3_insert_69 : decode cX3_insert 69 = .ok (.aload_n 0, 1) := by decide +kernel
theorem dX3_insert_70 : decode cX3_insert 70 = .ok (.getfield 15, 3) := by decide +kernel
theorem dX3_insert_73 : decode cX3_insert 73 = .ok (.iload_n 3, 1) := by decide +kernel
theorem dX3_insert_74 : decode cX3_insert 74 = .ok (.iconst 1, 1) := by decide +kernel
theorem dX3_insert_75 : decode cX3_insert 75 = .ok (.isub, 1) := by decide +kernel
theorem dX3_insert_76 : decode cX3_insert 76 = .ok (.iaload, 1) := by decide +kernel
theorem dX3_insert_77 : decode cX3_insert 77 = .ok (.iastore, 1) := by decide +kernel
theorem dX3_insert_78 : decode cX3_insert 78 = .ok (.iinc 3 (-1), 3) := by decide +kernel
theorem dX3_insert_81 : decode cX3_insert 81 = .ok (.goto (-22), 3) := by decide +kernel
theorem dX3_insert_84 : decode cX3_insert 84 = .ok (.aload_n 0, 1) := by decide +kernel
theorem dX3_insert_85 : decode cX3_insert 85 = .ok (.getfield 15, 3) := by decide +kernel
theorem dX3_insert_88 : decode cX3_insert 88 = .ok (.iload_n 2, 1) := by decide +kernel
theorem dX3_insert_89 : decode cX3_insert 89 = .ok (.iload_n 1, 1) := by decide +kernel
theorem dX3_insert_90 : decode cX3_insert 90 = .ok (.iastore, 1) := by decide +kernel
theorem dX3_insert_91 : decode cX3_insert 91 = .ok (.aload_n 0, 1) := by decide +kernel
theorem dX3_insert_92 : decode cX3_insert 92 = .ok (.dup, 1) := by decide +kernel
theorem dX3_insert_93 : decode cX3_insert 93 = .ok (.getfield 27, 3) := by decide +kernel
theorem dX3_insert_96 : decode cX3_insert 96 = .ok (.iconst 1, 1) := by decide +kernel
theorem dX3_insert_97 : decode cX3_insert 97 = .ok (.iadd, 1) := by decide +kernel
theorem dX3_insert_98 : decode cX3_insert 98 = .ok (.putfield 27, 3) := by decide +kernel
theorem dX3_insert_101 : decode cX3_insert 101 = .ok (.iconst 1, 1) := by decide +kernel
theorem dX3_insert_102 : decode cX3_insert 102 = .ok (.ireturn, 1) := by decide +kernel
theorem dX3_mendAll_0 : decode cX3_mendAll 0 = .ok (.aload_n 1, 1) := by decide +kernel
theorem dX3_mendAll_1 : decode cX3_mendAll 1 = .ok (.iconst 0, 1) := by decide +kernel
theorem dX3_mendAll_2 : decode cX3_mendAll 2 = .ok (.aload_n 0, 1) := by decide +kernel
theorem dX3_mendAll_3 : decode cX3_mendAll 3 = .ok (.getfield 24, 3) := by decide +kernel
theorem dX3_mendAll_6 : decode cX3_mendAll 6 = .ok (.iconst 0, 1) := by decide +kernel
theorem dX3_mendAll_7 : decode cX3_mendAll 7 = .ok (.bipush 36, 2) := by decide +kernel
theorem dX3_mendAll_9 : decode cX3_mendAll 9 = .ok (.invokestatic 41, 3) := by decide +kernel
theorem dX3_mendAll_12 : decode cX3_mendAll 12 = .ok (.iconst 0, 1) := by decide +kernel
theorem dX3_mendAll_13 : decode cX3_mendAll 13 = .ok (.istore_n 2, 1) := by decide +kernel
theorem dX3_mendAll_14 : decode cX3_mendAll 14 = .ok (.iload_n 2, 1) := by decide +kernel
theorem dX3_mendAll_15 : decode cX3_mendAll 15 = .ok (.aload_n 0, 1) := by decide +kernel
theorem dX3_mendAll_16 : decode cX3_mendAll 16 = .ok (.getfield 27, 3) := by decide +kernel
theorem dX3_mendAll_19 : decode cX3_mendAll 19 = .ok (.if_icmp .ge 21, 3) := by decide +kernel
theorem dX3_mendAll_22 : decode cX3_mendAll 22 = .ok (.aload_n 0, 1) := by decide +kernel
theorem dX3_mendAll_23 : decode cX3_mendAll 23 = .ok (.getfield 24, 3) := by decide +kernel
theorem dX3_mendAll_26 : decode cX3_mendAll 26 = .ok (.aload_n 0, 1) := by decide +kernel
theorem dX3_mendAll_27 : decode cX3_mendAll 27 = .ok (.getfield 15, 3) := by decide +kernel
theorem dX3_mendAll_30 : decode cX3_mendAll 30 = .ok (.iload_n 2, 1) := by decide +kernel
theorem dX3_mendAll_31 : decode cX3_mendAll 31 = .ok (.iaload, 1) := by decide +kernel
theorem dX3_mendAll_32 : decode cX3_mendAll 32 = .ok (.iconst (-1), 1) := by decide +kernel
theorem dX3_mendAll_33 : decode cX3_mendAll 33 = .ok (.iastore, 1) := by decide +kernel
theorem dX3_mendAll_34 : decode cX3_mendAll 34 = .ok (.iinc 2 1, 3) := by decide +kernel
theorem dX3_mendAll_37 : decode cX3_mendAll 37 = .ok (.goto (-23), 3) := by decide +kernel
theorem dX3_mendAll_40 : decode cX3_mendAll 40 = .ok (.aload_n 0, 1) := by decide +kernel
theorem dX3_mendAll_41 : decode cX3_mendAll 41 = .ok (.bipush 61, 2) := by decide +kernel
theorem dX3_mendAll_43 : decode cX3_mendAll 43 = .ok (.putfield 31, 3) := by decide +kernel
theorem dX3_mendAll_46 : decode cX3_mendAll 46 = .ok (.aload_n 0, 1) := by decide +kernel
theorem dX3_mendAll_47 : decode cX3_mendAll 47 = .ok (.iconst 0, 1) := by decide +kernel
theorem dX3_mendAll_48 : decode cX3_mendAll 48 = .ok (.aload_n 0, 1) := by decide +kernel
theorem dX3_mendAll_49 : decode cX3_mendAll 49 = .ok (.getfield 24, 3) := by decide +kernel
theorem dX3_mendAll_52 : decode cX3_mendAll 52 = .ok (.invokestatic 47, 3) := by decide +kernel
theorem dX3_mendAll_55 : decode cX3_mendAll 55 = .ok (.invokevirtual 51, 3) := by decide +kernel
theorem dX3_mendAll_58 : decode cX3_mendAll 58 = .ok (.return_, 1) := by decide +kernel
theorem dX3_mendFrom_0 : decode cX3_mendFrom 0 = .ok (.iload_n 2, 1) := by decide +kernel
theorem dX3_mendFrom_1 : decode cX3_mendFrom 1 = .ok (.aload_n 0, 1) := by decide +kernel
theorem dX3_mendFrom_2 : decode cX3_mendFrom 2 = .ok (.getfield 31, 3) := by decide +kernel
theorem dX3_mendFrom_5 : decode cX3_mendFrom 5 = .ok (.if_icmp .lt 4, 3) := by decide +kernel
theorem dX3_mendFrom_8 : decode cX3_mendFrom 8 = .ok (.return_, 1) := by decide +kernel
theorem dX3_mendFrom_9 : decode cX3_mendFrom 9 = .ok (.iload_n 1, 1) := by decide +kernel
theorem dX3_mendFrom_10 : decode cX3_mendFrom 10 = .ok (.aload_n 0, 1) := by decide +kernel
theorem dX3_mendFrom_11 : decode cX3_mendFrom 11 = .ok (.getfield 27, 3) := by decide +kernel
theorem dX3_mendFrom_14 : decode cX3_mendFrom 14 = .ok (.if_icmp .lt 26, 3) := by decide +kernel
theorem dX3_mendFrom_17 : decode cX3_mendFrom 17 = .ok (.aload_n 0, 1) := by decide +kernel
theorem dX3_mendFrom_18 : decode cX3_mendFrom 18 = .ok (.iload_n 2, 1) := by decide +kernel
theorem dX3_mendFrom_19 : decode cX3_mendFrom 19 = .ok (.putfield 31, 3) := by decide +kernel
theorem dX3_mendFrom_22 : decode cX3_mendFrom 22 = .ok (.aload_n 0, 1) := by decide +kernel
theorem dX3_mendFrom_23 : decode cX3_mendFrom 23 = .ok (.getfield 18, 3) := by decide +kernel
theorem dX3_mendFrom_26 : decode cX3_mendFrom 26 = .ok (.iconst 0, 1) := by decide +kernel
theorem dX3_mendFrom_27 : decode cX3_mendFrom 27 = .ok (.aload_n 0, 1) := by decide +kernel
theorem dX3_mendFrom_28 : decode cX3_mendFrom 28 = .ok (.getfield 21, 3) := by decide +kernel
theorem dX3_mendFrom_31 : decode cX3_mendFrom 31 = .ok (.iconst 0, 1) := by decide +kernel
theorem dX3_mendFrom_32 : decode cX3_mendFrom 32 = .ok (.aload_n 0, 1) := by decide +kernel
theorem dX3_mendFrom_33 : decode cX3_mendFrom 33 = .ok (.getfield 27, 3) := by decide +kernel
theorem dX3_mendFrom_36 : decode cX3_mendFrom 36 = .ok (.invokestatic 41, 3) := by decide +kernel
theorem dX3_mendFrom_39 : decode cX3_mendFrom 39 = .ok (.return_, 1) := by decide +kernel
theorem dX3_mendFrom_40 : decode cX3_mendFrom 40 = .ok (.aload_n 0, 1) := by decide +kernel
theorem dX3_mendFrom_41 : decode cX3_mendFrom 41 = .ok (.getfield 15, 3) := by decide +kernel
theorem dX3_mendFrom_44 : decode cX3_mendFrom 44 = .ok (.iload_n 1, 1) := by decide +kernel
theorem dX3_mendFrom_45 : decode cX3_mendFrom 45 = .ok (.iaload, 1) := by decide +kernel
theorem dX3_mendFrom_46 : decode cX3_mendFrom 46 = .ok (.istore_n 3, 1) := by decide +kernel
theorem dX3_mendFrom_47 : decode cX3_mendFrom 47 = .ok (.iconst 0, 1) := by decide +kernel
theorem dX3_mendFrom_48 : decode cX3_mendFrom 48 = .ok (.istore 4, 2) := by decide +kernel
theorem dX3_mendFrom_50 : decode cX3_mendFrom 50 = .ok (.iload 4, 2) := by decide +kernel
theorem dX3_mendFrom_52 : decode cX3_mendFrom 52 = .ok (.bipush 8, 2) := by decide +kernel
theorem dX3_mendFrom_54 : decode cX3_mendFrom 54 = .ok (.if_icmp .ge 39, 3) := by decide +kernel
theorem dX3_mendFrom_57 : decode cX3_mendFrom 57 = .ok (.aload_n 0, 1) := by decide +kernel
theorem dX3_mendFrom_58 : decode cX3_mendFrom 58 = .ok (.getfield 18, 3) := by decide +kernel
theorem dX3_mendFrom_61 : decode cX3_mendFrom 61 = .ok (.iload_n 1, 1) := by decide +kernel
theorem dX3_mendFrom_62 : decode cX3_mendFrom 62 = .ok (.iload 4, 2) := by decide +kernel
theorem dX3_mendFrom_64 : decode cX3_mendFrom 64 = .ok (.iastore, 1) := by decide +kernel
theorem dX3_mendFrom_65 : decode cX3_mendFrom 65 = .ok (.aload_n 0, 1) := by decide +kernel
theorem dX3_mendFrom_66 : decode cX3_mendFrom 66 = .ok (.getfield 24, 3) := by decide +kernel
theorem dX3_mendFrom_69 : decode cX3_mendFrom 69 = .ok (.iload_n 3, 1) := by decide +kernel
theorem dX3_mendFrom_70 : decode cX3_mendFrom 70 = .ok (.iload 4, 2) := by decide +kernel
theorem dX3_mendFrom_72 : decode cX3_mendFrom 72 = .ok (.iastore, 1) := by decide +kernel
theorem dX3_mendFrom_73 : decode cX3_mendFrom 73 = .ok (.aload_n 0, 1) := by decide +kernel
theorem dX3_mendFrom_74 : decode cX3_mendFrom 74 = .ok (.iload_n 1, 1) := by decide +kernel
theorem dX3_mendFrom_75 : decode cX3_mendFrom 75 = .ok (.iconst 1, 1) := by decide +kernel
theorem dX3_mendFrom_76 : decode cX3_mendFrom 76 = .ok (.iadd, 1) := by decide +kernel
theorem dX3_mendFrom_77 : decode cX3_mendFrom 77 = .ok (.iload_n 2, 1) := by decide +kernel
theorem dX3_mendFrom_78 : decode cX3_mendFrom 78 = .ok (.aload_n 0, 1) := by decide +kernel
theorem dX3_mendFrom_79 : decode cX3_mendFrom 79 = .ok (.iload_n 3, 1) := by decide +kernel
theorem dX3_mendFrom_80 : decode cX3_mendFrom 80 = .ok (.invokevirtual 55, 3) := by decide +kernel
theorem dX3_mendFrom_83 : decode cX3_mendFrom 83 = .ok (.iadd, 1) := by decide +kernel
theorem dX3_mendFrom_84 : decode cX3_mendFrom 84 = .ok (.invokevirtual 51, 3) := by decide +kernel
theorem dX3_mendFrom_87 : decode cX3_mendFrom 87 = .ok (.iinc 4 1, 3) := by decide +kernel
theorem dX3_mendFrom_90 : decode cX3_mendFrom 90 = .ok (.goto (-40), 3) := by decide +kernel
theorem dX3_mendFrom_93 : decode cX3_mendFrom 93 = .ok (.aload_n 0, 1) := by decide +kernel
theorem dX3_mendFrom_94 : decode cX3_mendFrom 94 = .ok (.getfield 24, 3) := by decide +kernel
theorem dX3_mendFrom_97 : decode cX3_mendFrom 97 = .ok (.iload_n 3, 1) := by decide +kernel
theorem dX3_mendFrom_98 : decode cX3_mendFrom 98 = .ok (.iconst (-1), 1) := by decide +kernel
