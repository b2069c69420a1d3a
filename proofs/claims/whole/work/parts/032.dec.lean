theorem dX9_paint_31 : decode cX9_paint 31 = .ok (.getfield 117, 3) := by decide +kernel
theorem dX9_paint_34 : decode cX9_paint 34 = .ok (.iload_n 1, 1) := by decide +kernel
theorem dX9_paint_35 : decode cX9_paint 35 = .ok (.aaload, 1) := by decide +kernel
theorem dX9_paint_36 : decode cX9_paint 36 = .ok (.iload_n 2, 1) := by decide +kernel
theorem dX9_paint_37 : decode cX9_paint 37 = .ok (.iaload, 1) := by decide +kernel
theorem dX9_paint_38 : decode cX9_paint 38 = .ok (.istore 4, 2) := by decide +kernel
theorem dX9_paint_40 : decode cX9_paint 40 = .ok (.aload_n 0, 1) := by decide +kernel
theorem dX9_paint_41 : decode cX9_paint 41 = .ok (.getfield 10, 3) := by decide +kernel
theorem dX9_paint_44 : decode cX9_paint 44 = .ok (.getfield 117, 3) := by decide +kernel
theorem dX9_paint_47 : decode cX9_paint 47 = .ok (.iload_n 1, 1) := by decide +kernel
theorem dX9_paint_48 : decode cX9_paint 48 = .ok (.aaload, 1) := by decide +kernel
theorem dX9_paint_49 : decode cX9_paint 49 = .ok (.iload_n 2, 1) := by decide +kernel
theorem dX9_paint_50 : decode cX9_paint 50 = .ok (.iload_n 3, 1) := by decide +kernel
theorem dX9_paint_51 : decode cX9_paint 51 = .ok (.iastore, 1) := by decide +kernel
theorem dX9_paint_52 : decode cX9_paint 52 = .ok (.aload_n 0, 1) := by decide +kernel
theorem dX9_paint_53 : decode cX9_paint 53 = .ok (.iload 4, 2) := by decide +kernel
theorem dX9_paint_55 : decode cX9_paint 55 = .ok (.invokevirtual 101, 3) := by decide +kernel
theorem dX9_paint_58 : decode cX9_paint 58 = .ok (.ireturn, 1) := by decide +kernel
theorem dX9_told_0 : decode cX9_told 0 = .ok (.iload_n 1, 1) := by decide +kernel
theorem dX9_told_1 : decode cX9_told 1 = .ok (.invokestatic 111, 3) := by decide +kernel
theorem dX9_told_4 : decode cX9_told 4 = .ok (.ifCond .eq 10, 3) := by decide +kernel
theorem dX9_told_7 : decode cX9_told 7 = .ok (.iload_n 2, 1) := by decide +kernel
theorem dX9_told_8 : decode cX9_told 8 = .ok (.invokestatic 114, 3) := by decide +kernel
theorem dX9_told_11 : decode cX9_told 11 = .ok (.ifCond .ne 5, 3) := by decide +kernel
theorem dX9_told_14 : decode cX9_told 14 = .ok (.iconst (-1), 1) := by decide +kernel
theorem dX9_told_15 : decode cX9_told 15 = .ok (.ireturn, 1) := by decide +kernel
theorem dX9_told_16 : decode cX9_told 16 = .ok (.aload_n 0, 1) := by decide +kernel
theorem dX9_told_17 : decode cX9_told 17 = .ok (.getfield 10, 3) := by decide +kernel
theorem dX9_told_20 : decode cX9_told 20 = .ok (.getfield 117, 3) := by decide +kernel
theorem dX9_told_23 : decode cX9_told 23 = .ok (.iload_n 1, 1) := by decide +kernel
theorem dX9_told_24 : decode cX9_told 24 = .ok (.aaload, 1) := by decide +kernel
theorem dX9_told_25 : decode cX9_told 25 = .ok (.iload_n 2, 1) := by decide +kernel
theorem dX9_told_26 : decode cX9_told 26 = .ok (.iaload, 1) := by decide +kernel
theorem dX9_told_27 : decode cX9_told 27 = .ok (.ireturn, 1) := by decide +kernel
theorem dX9_price_0 : decode cX9_price 0 = .ok (.iload_n 1, 1) := by decide +kernel
theorem dX9_price_1 : decode cX9_price 1 = .ok (.invokestatic 104, 3) := by decide +kernel
theorem dX9_price_4 : decode cX9_price 4 = .ok (.ifCond .eq 13, 3) := by decide +kernel
theorem dX9_price_7 : decode cX9_price 7 = .ok (.iload_n 2, 1) := by decide +kernel
theorem dX9_price_8 : decode cX9_price 8 = .ok (.ifCond .lt 9, 3) := by decide +kernel
theorem dX9_price_11 : decode cX9_price 11 = .ok (.iload_n 2, 1) := by decide +kernel
theorem dX9_price_12 : decode cX9_price 12 = .ok (.bipush 99, 2) := by decide +kernel
theorem dX9_price_14 : decode cX9_price 14 = .ok (.if_icmp .le 9, 3) := by decide +kernel
theorem dX9_price_17 : decode cX9_price 17 = .ok (.aload_n 0, 1) := by decide +kernel
theorem dX9_price_18 : decode cX9_price 18 = .ok (.iconst (-1), 1) := by decide +kernel
theorem dX9_price_19 : decode cX9_price 19 = .ok (.invokevirtual 86, 3) := by decide +kernel
theorem dX9_price_22 : decode cX9_price 22 = .ok (.ireturn, 1) := by decide +kernel
theorem dX9_price_23 : decode cX9_price 23 = .ok (.aload_n 0, 1) := by decide +kernel
theorem dX9_price_24 : decode cX9_price 24 = .ok (.getfield 10, 3) := by decide +kernel
theorem dX9_price_27 : decode cX9_price 27 = .ok (.getfield 120, 3) := by decide +kernel
theorem dX9_price_30 : decode cX9_price 30 = .ok (.iload_n 1, 1) := by decide +kernel
theorem dX9_price_31 : decode cX9_price 31 = .ok (.iaload, 1) := by decide +kernel
theorem dX9_price_32 : decode cX9_price 32 = .ok (.istore_n 3, 1) := by decide +kernel
theorem dX9_price_33 : decode cX9_price 33 = .ok (.aload_n 0, 1) := by decide +kernel
theorem dX9_price_34 : decode cX9_price 34 = .ok (.getfield 10, 3) := by decide +kernel
theorem dX9_price_37 : decode cX9_price 37 = .ok (.getfield 120, 3) := by decide +kernel
theorem dX9_price_40 : decode cX9_price 40 = .ok (.iload_n 1, 1) := by decide +kernel
theorem dX9_price_41 : decode cX9_price 41 = .ok (.iload_n 2, 1) := by decide +kernel
theorem dX9_price_42 : decode cX9_price 42 = .ok (.iastore, 1) := by decide +kernel
theorem dX9_price_43 : decode cX9_price 43 = .ok (.aload_n 0, 1) := by decide +kernel
theorem dX9_price_44 : decode cX9_price 44 = .ok (.iload_n 3, 1) := by decide +kernel
theorem dX9_price_45 : decode cX9_price 45 = .ok (.invokevirtual 123, 3) := by decide +kernel
theorem dX9_price_48 : decode cX9_price 48 = .ok (.ireturn, 1) := by decide +kernel
theorem dX9_terms_0 : decode cX9_terms 0 = .ok (.iload_n 1, 1) := by decide +kernel
theorem dX9_terms_1 : decode cX9_terms 1 = .ok (.ifCond .ne 17, 3) := by decide +kernel
theorem dX9_terms_4 : decode cX9_terms 4 = .ok (.iload_n 2, 1) := by decide +kernel
theorem dX9_terms_5 : decode cX9_terms 5 = .ok (.ifCond .lt 13, 3) := by decide +kernel
theorem dX9_terms_8 : decode cX9_terms 8 = .ok (.iload_n 2, 1) := by decide +kernel
theorem dX9_terms_9 : decode cX9_terms 9 = .ok (.bipush 100, 2) := by decide +kernel
theorem dX9_terms_11 : decode cX9_terms 11 = .ok (.if_icmp .gt 7, 3) := by decide +kernel
theorem dX9_terms_14 : decode cX9_terms 14 = .ok (.iconst 1, 1) := by decide +kernel
theorem dX9_terms_15 : decode cX9_terms 15 = .ok (.goto 4, 3) := by decide +kernel
theorem dX9_terms_18 : decode cX9_terms 18 = .ok (.iconst 0, 1) := by decide +kernel
theorem dX9_terms_19 : decode cX9_terms 19 = .ok (.istore_n 3, 1) := by decide +kernel
theorem dX9_terms_20 : decode cX9_terms 20 = .ok (.iload_n 1, 1) := by decide +kernel
theorem dX9_terms_21 : decode cX9_terms 21 = .ok (.iconst 1, 1) := by decide +kernel
theorem dX9_terms_22 : decode cX9_terms 22 = .ok (.if_icmp .ne 17, 3) := by decide +kernel
theorem dX9_terms_25 : decode cX9_terms 25 = .ok (.iload_n 2, 1) := by decide +kernel
theorem dX9_terms_26 : decode cX9_terms 26 = .ok (.ifCond .lt 13, 3) := by decide +kernel
theorem dX9_terms_29 : decode cX9_terms 29 = .ok (.iload_n 2, 1) := by decide +kernel
theorem dX9_terms_30 : decode cX9_terms 30 = .ok (.bipush 99, 2) := by decide +kernel
theorem dX9_terms_32 : decode cX9_terms 32 = .ok (.if_icmp .gt 7, 3) := by decide +kernel
theorem dX9_terms_35 : decode cX9_terms 35 = .ok (.iconst 1, 1) := by decide +kernel
theorem dX9_terms_36 : decode cX9_terms 36 = .ok (.goto 4, 3) := by decide +kernel
theorem dX9_terms_39 : decode cX9_terms 39 = .ok (.iconst 0, 1) := by decide +kernel
theorem dX9_terms_40 : decode cX9_terms 40 = .ok (.istore 4, 2) := by decide +kernel
theorem dX9_terms_42 : decode cX9_terms 42 = .ok (.iload_n 3, 1) := by decide +kernel
theorem dX9_terms_43 : decode cX9_terms 43 = .ok (.ifCond .ne 14, 3) := by decide +kernel
theorem dX9_terms_46 : decode cX9_terms 46 = .ok (.iload 4, 2) := by decide +kernel
theorem dX9_terms_48 : decode cX9_terms 48 = .ok (.ifCond .ne 9, 3) := by decide +kernel
theorem dX9_terms_51 : decode cX9_terms 51 = .ok (.aload_n 0, 1) := by decide +kernel
theorem dX9_terms_52 : decode cX9_terms 52 = .ok (.iconst (-1), 1) := by decide +kernel
theorem dX9_terms_53 : decode cX9_terms 53 = .ok (.invokevirtual 86, 3) := by decide +kernel
theorem dX9_terms_56 : decode cX9_terms 56 = .ok (.ireturn, 1) := by decide +kernel
theorem dX9_terms_57 : decode cX9_terms 57 = .ok (.aload_n 0, 1) := by decide +kernel
theorem dX9_terms_58 : decode cX9_terms 58 = .ok (.getfield 10, 3) := by decide +kernel
theorem dX9_terms_61 : decode cX9_terms 61 = .ok (.getfield 126, 3) := by decide +kernel
theorem dX9_terms_64 : decode cX9_terms 64 = .ok (.iload_n 1, 1) := by decide +kernel
theorem dX9_terms_65 : decode cX9_terms 65 = .ok (.iaload, 1) := by decide +kernel
theorem dX9_terms_66 : decode cX9_terms 66 = .ok (.istore 5, 2) := by decide +kernel
theorem dX9_terms_68 : decode cX9_terms 68 = .ok (.aload_n 0, 1) := by decide +kernel
theorem dX9_terms_69 : decode cX9_terms 69 = .ok (.getfield 10, 3) := by decide +kernel
theorem dX9_terms_72 : decode cX9_terms 72 = .ok (.getfield 126, 3) := by decide +kernel
theorem dX9_terms_75 : decode cX9_terms 75 = .ok (.iload_n 1, 1) := by decide +kernel
theorem dX9_terms_76 : decode cX9_terms 76 = .ok (.iload_n 2, 1) := by decide +kernel
theorem dX9_terms_77 : decode cX9_terms 77 = .ok (.iastore, 1) := by decide +kernel
theorem dX9_terms_78 : decode cX9_terms 78 = .ok (.aload_n 0, 1) := by decide +kernel
theorem dX9_terms_79 : decode cX9_terms 79 = .ok (.iload 5, 2) := by decide +kernel
theorem dX9_terms_81 : decode cX9_terms 81 = .ok (.invokevirtual 101, 3) := by decide +kernel
theorem dX9_terms_84 : decode cX9_terms 84 = .ok (.ireturn, 1) := by decide +kernel
theorem dX9_feed_0 : decode cX9_feed 0 = .ok (.aload_n 0, 1) := by decide +kernel
theorem dX9_feed_1 : decode cX9_feed 1 = .ok (.getfield 23, 3) := by decide +kernel
theorem dX9_feed_4 : decode cX9_feed 4 = .ok (.getfield 129, 3) := by decide +kernel
theorem dX9_feed_7 : decode cX9_feed 7 = .ok (.bipush 20, 2) := by decide +kernel
theorem dX9_feed_9 : decode cX9_feed 9 = .ok (.iadd, 1) := by decide +kernel
theorem dX9_feed_10 : decode cX9_feed 10 = .ok (.sipush 400, 3) := by decide +kernel
theorem dX9_feed_13 : decode cX9_feed 13 = .ok (.if_icmp .le 5, 3) := by decide +kernel
theorem dX9_feed_16 : decode cX9_feed 16 = .ok (.iconst (-1), 1) := by decide +kernel
theorem dX9_feed_17 : decode cX9_feed 17 = .ok (.ireturn, 1) := by decide +kernel
theorem dX9_feed_18 : decode cX9_feed 18 = .ok (.aload_n 0, 1) := by decide +kernel
theorem dX9_feed_19 : decode cX9_feed 19 = .ok (.getfield 23, 3) := by decide +kernel
theorem dX9_feed_22 : decode cX9_feed 22 = .ok (.iload_n 1, 1) := by decide +kernel
theorem dX9_feed_23 : decode cX9_feed 23 = .ok (.invokevirtual 132, 3) := by decide +kernel
theorem dX9_feed_26 : decode cX9_feed 26 = .ok (.aload_n 0, 1) := by decide +kernel
theorem dX9_feed_27 : decode cX9_feed 27 = .ok (.getfield 23, 3) := by decide +kernel
theorem dX9_feed_30 : decode cX9_feed 30 = .ok (.iload_n 2, 1) := by decide +kernel
theorem dX9_feed_31 : decode cX9_feed 31 = .ok (.invokevirtual 132, 3) := by decide +kernel
theorem dX9_feed_34 : decode cX9_feed 34 = .ok (.aload_n 0, 1) := by decide +kernel
theorem dX9_feed_35 : decode cX9_feed 35 = .ok (.getfield 23, 3) := by decide +kernel
theorem dX9_feed_38 : decode cX9_feed 38 = .ok (.iload_n 3, 1) := by decide +kernel
theorem dX9_feed_39 : decode cX9_feed 39 = .ok (.invokevirtual 132, 3) := by decide +kernel
theorem dX9_feed_42 : decode cX9_feed 42 = .ok (.aload_n 0, 1) := by decide +kernel
theorem dX9_feed_43 : decode cX9_feed 43 = .ok (.getfield 23, 3) := by decide +kernel
theorem dX9_feed_46 : decode cX9_feed 46 = .ok (.iload 4, 2) := by decide +kernel
theorem dX9_feed_48 : decode cX9_feed 48 = .ok (.invokevirtual 132, 3) := by decide +kernel
theorem dX9_feed_51 : decode cX9_feed 51 = .ok (.aload_n 0, 1) := by decide +kernel
theorem dX9_feed_52 : decode cX9_feed 52 = .ok (.getfield 23, 3) := by decide +kernel
theorem dX9_feed_55 : decode cX9_feed 55 = .ok (.iload 5, 2) := by decide +kernel
theorem dX9_feed_57 : decode cX9_feed 57 = .ok (.invokevirtual 132, 3) := by decide +kernel
theorem dX9_feed_60 : decode cX9_feed 60 = .ok (.aload_n 0, 1) := by decide +kernel
theorem dX9_feed_61 : decode cX9_feed 61 = .ok (.getfield 23, 3) := by decide +kernel
theorem dX9_feed_64 : decode cX9_feed 64 = .ok (.getfield 129, 3) := by decide +kernel
theorem dX9_feed_67 : decode cX9_feed 67 = .ok (.ireturn, 1) := by decide +kernel
theorem dX9_end_0 : decode cX9_end 0 = .ok (.iload_n 1, 1) := by decide +kernel
theorem dX9_end_1 : decode cX9_end 1 = .ok (.ifCond .lt 14, 3) := by decide +kernel
theorem dX9_end_4 : decode cX9_end 4 = .ok (.iload_n 1, 1) := by decide +kernel
theorem dX9_end_5 : decode cX9_end 5 = .ok (.aload_n 0, 1) := by decide +kernel
theorem dX9_end_6 : decode cX9_end 6 = .ok (.getfield 23, 3) := by decide +kernel
theorem dX9_end_9 : decode cX9_end 9 = .ok (.getfield 129, 3) := by decide +kernel
theorem dX9_end_12 : decode cX9_end 12 = .ok (.if_icmp .le 5, 3) := by decide +kernel
theorem dX9_end_15 : decode cX9_end 15 = .ok (.iconst (-1), 1) := by decide +kernel
theorem dX9_end_16 : decode cX9_end 16 = .ok (.ireturn, 1) := by decide +kernel
theorem dX9_end_17 : decode cX9_end 17 = .ok (.aload_n 0, 1) := by decide +kernel
theorem dX9_end_18 : decode cX9_end 18 = .ok (.getfield 23, 3) := by decide +kernel
theorem dX9_end_21 : decode cX9_end 21 = .ok (.iload_n 1, 1) := by decide +kernel
theorem dX9_end_22 : decode cX9_end 22 = .ok (.putfield 129, 3) := by decide +kernel
theorem dX9_end_25 : decode cX9_end 25 = .ok (.iload_n 1, 1) := by decide +kernel
theorem dX9_end_26 : decode cX9_end 26 = .ok (.ireturn, 1) := by decide +kernel
theorem dX9_row_0 : decode cX9_row 0 = .ok (.aload_n 0, 1) := by decide +kernel
theorem dX9_row_1 : decode cX9_row 1 = .ok (.getfield 23, 3) := by decide +kernel
theorem dX9_row_4 : decode cX9_row 4 = .ok (.getfield 129, 3) := by decide +kernel
theorem dX9_row_7 : decode cX9_row 7 = .ok (.istore_n 1, 1) := by decide +kernel
theorem dX9_row_8 : decode cX9_row 8 = .ok (.aload_n 0, 1) := by decide +kernel
theorem dX9_row_9 : decode cX9_row 9 = .ok (.getfield 23, 3) := by decide +kernel
theorem dX9_row_12 : decode cX9_row 12 = .ok (.iconst 0, 1) := by decide +kernel
theorem dX9_row_13 : decode cX9_row 13 = .ok (.putfield 129, 3) := by decide +kernel
theorem dX9_row_16 : decode cX9_row 16 = .ok (.iload_n 1, 1) := by decide +kernel
theorem dX9_row_17 : decode cX9_row 17 = .ok (.ifCond .eq 18, 3) := by decide +kernel
theorem dX9_row_20 : decode cX9_row 20 = .ok (.aload_n 0, 1) := by decide +kernel
theorem dX9_row_21 : decode cX9_row 21 = .ok (.getfield 23, 3) := by decide +kernel
theorem dX9_row_24 : decode cX9_row 24 = .ok (.getfield 136, 3) := by decide +kernel
theorem dX9_row_27 : decode cX9_row 27 = .ok (.iconst 0, 1) := by decide +kernel
theorem dX9_row_28 : decode cX9_row 28 = .ok (.iaload, 1) := by decide +kernel
theorem dX9_row_29 : decode cX9_row 29 = .ok (.invokestatic 111, 3) := by decide +kernel
theorem dX9_row_32 : decode cX9_row 32 = .ok (.ifCond .ne 10, 3) := by decide +kernel
theorem dX9_row_35 : decode cX9_row 35 = .ok (.aload_n 0, 1) := by decide +kernel
theorem dX9_row_36 : decode cX9_row 36 = .ok (.bipush (-6), 2) := by decide +kernel
theorem dX9_row_38 : decode cX9_row 38 = .ok (.invokevirtual 86, 3) := by decide +kernel
theorem dX9_row_41 : decode cX9_row 41 = .ok (.ireturn, 1) := by decide +kernel
theorem dX9_row_42 : decode cX9_row 42 = .ok (.aload_n 0, 1) := by decide +kernel
theorem dX9_row_43 : decode cX9_row 43 = .ok (.getfield 10, 3) := by decide +kernel
theorem dX9_row_46 : decode cX9_row 46 = .ok (.getfield 117, 3) := by decide +kernel
theorem dX9_row_49 : decode cX9_row 49 = .ok (.aload_n 0, 1) := by decide +kernel
theorem dX9_row_50 : decode cX9_row 50 = .ok (.getfield 23, 3) := by decide +kernel
theorem dX9_row_53 : decode cX9_row 53 = .ok (.getfield 136, 3) := by decide +kernel
theorem dX9_row_56 : decode cX9_row 56 = .ok (.iconst 0, 1) := by decide +kernel
theorem dX9_row_57 : decode cX9_row 57 = .ok (.iaload, 1) := by decide +kernel
theorem dX9_row_58 : decode cX9_row 58 = .ok (.aaload, 1) := by decide +kernel
theorem dX9_row_59 : decode cX9_row 59 = .ok (.astore_n 2, 1) := by decide +kernel
theorem dX9_row_60 : decode cX9_row 60 = .ok (.iconst 0, 1) := by decide +kernel
theorem dX9_row_61 : decode cX9_row 61 = .ok (.istore_n 3, 1) := by decide +kernel
theorem dX9_row_62 : decode cX9_row 62 = .ok (.iconst 0, 1) := by decide +kernel
theorem dX9_row_63 : decode cX9_row 63 = .ok (.istore 4, 2) := by decide +kernel
theorem dX9_row_65 : decode cX9_row 65 = .ok (.iload 4, 2) := by decide +kernel
theorem dX9_row_67 : decode cX9_row 67 = .ok (.bipush 36, 2) := by decide +kernel
theorem dX9_row_69 : decode cX9_row 69 = .ok (.if_icmp .ge 48, 3) := by decide +kernel
theorem dX9_row_72 : decode cX9_row 72 = .ok (.iload 4, 2) := by decide +kernel
theorem dX9_row_74 : decode cX9_row 74 = .ok (.iconst 1, 1) := by decide +kernel
theorem dX9_row_75 : decode cX9_row 75 = .ok (.iadd, 1) := by decide +kernel
theorem dX9_row_76 : decode cX9_row 76 = .ok (.iload_n 1, 1) := by decide +kernel
theorem dX9_row_77 : decode cX9_row 77 = .ok (.if_icmp .ge 40, 3) := by decide +kernel
theorem dX9_row_80 : decode cX9_row 80 = .ok (.aload_n 0, 1) := by decide +kernel
theorem dX9_row_81 : decode cX9_row 81 = .ok (.getfield 23, 3) := by decide +kernel
theorem dX9_row_84 : decode cX9_row 84 = .ok (.getfield 136, 3) := by decide +kernel
theorem dX9_row_87 : decode cX9_row 87 = .ok (.iload 4, 2) := by decide +kernel
theorem dX9_row_89 : decode cX9_row 89 = .ok (.iconst 1, 1) := by decide +kernel
theorem dX9_row_90 : decode cX9_row 90 = .ok (.iadd, 1) := by decide +kernel
theorem dX9_row_91 : decode cX9_row 91 = .ok (.iaload, 1) := by decide +kernel
theorem dX9_row_92 : decode cX9_row 92 = .ok (.istore 5, 2) := by decide +kernel
theorem dX9_row_94 : decode cX9_row 94 = .ok (.iload 5, 2) := by decide +kernel
theorem dX9_row_96 : decode cX9_row 96 = .ok (.invokestatic 104, 3) := by decide +kernel
theorem dX9_row_99 : decode cX9_row 99 = .ok (.ifCond .eq 12, 3) := by decide +kernel
theorem dX9_row_102 : decode cX9_row 102 = .ok (.aload_n 2, 1) := by decide +kernel
theorem dX9_row_103 : decode cX9_row 103 = .ok (.iload 4, 2) := by decide +kernel
theorem dX9_row_105 : decode cX9_row 105 = .ok (.iload 5, 2) := by decide +kernel
theorem dX9_row_107 : decode cX9_row 107 = .ok (.iastore, 1) := by decide +kernel
theorem dX9_row_108 : decode cX9_row 108 = .ok (.iinc 3 1, 3) := by decide +kernel
theorem dX9_row_111 : decode cX9_row 111 = .ok (.iinc 4 1, 3) := by decide +kernel
theorem dX9_row_114 : decode cX9_row 114 = .ok (.goto (-49), 3) := by decide +kernel
theorem dX9_row_117 : decode cX9_row 117 = .ok (.aload_n 0, 1) := by decide +kernel
theorem dX9_row_118 : decode cX9_row 118 = .ok (.iconst 0, 1) := by decide +kernel
theorem dX9_row_119 : decode cX9_row 119 = .ok (.iload_n 1, 1) := by decide +kernel
theorem dX9_row_120 : decode cX9_row 120 = .ok (.iconst 1, 1) := by decide +kernel
theorem dX9_row_121 : decode cX9_row 121 = .ok (.isub, 1) := by decide +kernel
theorem dX9_row_122 : decode cX9_row 122 = .ok (.bipush 36, 2) := by decide +kernel
theorem dX9_row_124 : decode cX9_row 124 = .ok (.isub, 1) := by decide +kernel
theorem dX9_row_125 : decode cX9_row 125 = .ok (.invokestatic 139, 3) := by decide +kernel
theorem dX9_row_128 : decode cX9_row 128 = .ok (.putfield 72, 3) := by decide +kernel
theorem dX9_row_131 : decode cX9_row 131 = .ok (.aload_n 0, 1) := by decide +kernel
theorem dX9_row_132 : decode cX9_row 132 = .ok (.iload_n 3, 1) := by decide +kernel
theorem dX9_row_133 : decode cX9_row 133 = .ok (.invokevirtual 101, 3) := by decide +kernel
theorem dX9_row_136 : decode cX9_row 136 = .ok (.ireturn, 1) := by decide +kernel
theorem dX9_lint_0 : decode cX9_lint 0 = .ok (.aload_n 0, 1) := by decide +kernel
theorem dX9_lint_1 : decode cX9_lint 1 = .ok (.getfield 72, 3) := by decide +kernel
theorem dX9_lint_4 : decode cX9_lint 4 = .ok (.ireturn, 1) := by decide +kernel
theorem dX9_law_0 : decode cX9_law 0 = .ok (.aload_n 0, 1) := by decide +kernel
theorem dX9_law_1 : decode cX9_law 1 = .ok (.getfield 23, 3) := by decide +kernel
theorem dX9_law_4 : decode cX9_law 4 = .ok (.getfield 129, 3) := by decide +kernel
theorem dX9_law_7 : decode cX9_law 7 = .ok (.istore_n 1, 1) := by decide +kernel
theorem dX9_law_8 : decode cX9_law 8 = .ok (.aload_n 0, 1) := by decide +kernel
theorem dX9_law_9 : decode cX9_law 9 = .ok (.getfield 23, 3) := by decide +kernel
theorem dX9_law_12 : decode cX9_law 12 = .ok (.iconst 0, 1) := by decide +kernel
theorem dX9_law_13 : decode cX9_law 13 = .ok (.putfield 129, 3) := by decide +kernel
theorem dX9_law_16 : decode cX9_law 16 = .ok (.aload_n 0, 1) := by decide +kernel
theorem dX9_law_17 : decode cX9_law 17 = .ok (.getfield 10, 3) := by decide +kernel
theorem dX9_law_20 : decode cX9_law 20 = .ok (.getfield 145, 3) := by decide +kernel
theorem dX9_law_23 : decode cX9_law 23 = .ok (.bipush 6, 2) := by decide +kernel
theorem dX9_law_25 : decode cX9_law 25 = .ok (.if_icmp .lt 10, 3) := by decide +kernel
theorem dX9_law_28 : decode cX9_law 28 = .ok (.aload_n 0, 1) := by decide +kernel
theorem dX9_law_29 : decode cX9_law 29 = .ok (.bipush (-5), 2) := by decide +kernel
theorem dX9_law_31 : decode cX9_law 31 = .ok (.invokevirtual 86, 3) := by decide +kernel
theorem dX9_law_34 : decode cX9_law 34 = .ok (.ireturn, 1) := by decide +kernel
theorem dX9_law_35 : decode cX9_law 35 = .ok (.aload_n 0, 1) := by decide +kernel
theorem dX9_law_36 : decode cX9_law 36 = .ok (.getfield 30, 3) := by decide +kernel
theorem dX9_law_39 : decode cX9_law 39 = .ok (.aload_n 0, 1) := by decide +kernel
theorem dX9_law_40 : decode cX9_law 40 = .ok (.getfield 23, 3) := by decide +kernel
theorem dX9_law_43 : decode cX9_law 43 = .ok (.getfield 136, 3) := by decide +kernel
theorem dX9_law_46 : decode cX9_law 46 = .ok (.iload_n 1, 1) := by decide +kernel
theorem dX9_law_47 : decode cX9_law 47 = .ok (.invokevirtual 148, 3) := by decide +kernel
theorem dX9_law_50 : decode cX9_law 50 = .ok (.astore_n 2, 1) := by decide +kernel
theorem dX9_law_51 : decode cX9_law 51 = .ok (.aload_n 0, 1) := by decide +kernel
theorem dX9_law_52 : decode cX9_law 52 = .ok (.aload_n 0, 1) := by decide +kernel
theorem dX9_law_53 : decode cX9_law 53 = .ok (.getfield 30, 3) := by decide +kernel
theorem dX9_law_56 : decode cX9_law 56 = .ok (.getfield 152, 3) := by decide +kernel
theorem dX9_law_59 : decode cX9_law 59 = .ok (.putfield 75, 3) := by decide +kernel
theorem dX9_law_62 : decode cX9_law 62 = .ok (.aload_n 2, 1) := by decide +kernel
theorem dX9_law_63 : decode cX9_law 63 = .ok (.ifnonnull 10, 3) := by decide +kernel
theorem dX9_law_66 : decode cX9_law 66 = .ok (.aload_n 0, 1) := by decide +kernel
theorem dX9_law_67 : decode cX9_law 67 = .ok (.bipush (-6), 2) := by decide +kernel
theorem dX9_law_69 : decode cX9_law 69 = .ok (.invokevirtual 86, 3) := by decide +kernel
theorem dX9_law_72 : decode cX9_law 72 = .ok (.ireturn, 1) := by decide +kernel
theorem dX9_law_73 : decode cX9_law 73 = .ok (.aload_n 0, 1) := by decide +kernel
theorem dX9_law_74 : decode cX9_law 74 = .ok (.getfield 10, 3) := by decide +kernel
theorem dX9_law_77 : decode cX9_law 77 = .ok (.getfield 155, 3) := by decide +kernel
theorem dX9_law_80 : decode cX9_law 80 = .ok (.aload_n 0, 1) := by decide +kernel
theorem dX9_law_81 : decode cX9_law 81 = .ok (.getfield 10, 3) := by decide +kernel
theorem dX9_law_84 : decode cX9_law 84 = .ok (.getfield 145, 3) := by decide +kernel
theorem dX9_law_87 : decode cX9_law 87 = .ok (.aload_n 2, 1) := by decide +kernel
theorem dX9_law_88 : decode cX9_law 88 = .ok (.aastore, 1) := by decide +kernel
theorem dX9_law_89 : decode cX9_law 89 = .ok (.aload_n 0, 1) := by decide +kernel
theorem dX9_law_90 : decode cX9_law 90 = .ok (.getfield 10, 3) := by decide +kernel
theorem dX9_law_93 : decode cX9_law 93 = .ok (.dup, 1) := by decide +kernel
theorem dX9_law_94 : decode cX9_law 94 = .ok (.getfield 145, 3) := by decide +kernel
theorem dX9_law_97 : decode cX9_law 97 = .ok (.iconst 1, 1) := by decide +kernel
theorem dX9_law_98 : decode cX9_law 98 = .ok (.iadd, 1) := by decide +kernel
theorem dX9_law_99 : decode cX9_law 99 = .ok (.putfield 145, 3) := by decide +kernel
theorem dX9_law_102 : decode cX9_law 102 = .ok (.aload_n 0, 1) := by decide +kernel
theorem dX9_law_103 : decode cX9_law 103 = .ok (.aload_n 0, 1) := by decide +kernel
theorem dX9_law_104 : decode cX9_law 104 = .ok (.getfield 10, 3) := by decide +kernel
theorem dX9_law_107 : decode cX9_law 107 = .ok (.getfield 145, 3) := by decide +kernel
theorem dX9_law_110 : decode cX9_law 110 = .ok (.iconst 1, 1) := by decide +kernel
theorem dX9_law_111 : decode cX9_law 111 = .ok (.isub, 1) := by decide +kernel
theorem dX9_law_112 : decode cX9_law 112 = .ok (.invokevirtual 123, 3) := by decide +kernel
theorem dX9_law_115 : decode cX9_law 115 = .ok (.ireturn, 1) := by decide +kernel
theorem dX9_fault_0 : decode cX9_fault 0 = .ok (.aload_n 0, 1) := by decide +kernel
theorem dX9_fault_1 : decode cX9_fault 1 = .ok (.getfield 75, 3) := by decide +kernel
theorem dX9_fault_4 : decode cX9_fault 4 = .ok (.ireturn, 1) := by decide +kernel
theorem dX9_force_0 : decode cX9_force 0 = .ok (.iload_n 1, 1) := by decide +kernel
theorem dX9_force_1 : decode cX9_force 1 = .ok (.iconst (-1), 1) := by decide +kernel
theorem dX9_force_2 : decode cX9_force 2 = .ok (.if_icmp .eq 25, 3) := by decide +kernel
theorem dX9_force_5 : decode cX9_force 5 = .ok (.iload_n 1, 1) := by decide +kernel
theorem dX9_force_6 : decode cX9_force 6 = .ok (.ifCond .lt 14, 3) := by decide +kernel
theorem dX9_force_9 : decode cX9_force 9 = .ok (.iload_n 1, 1) := by decide +kernel
theorem dX9_force_10 : decode cX9_force 10 = .ok (.aload_n 0, 1) := by decide +kernel
theorem dX9_force_11 : decode cX9_force 11 = .ok (.getfield 10, 3) := by decide +kernel
theorem dX9_force_14 : decode cX9_force 14 = .ok (.getfield 145, 3) := by decide +kernel
theorem dX9_force_17 : decode cX9_force 17 = .ok (.if_icmp .lt 10, 3) := by decide +kernel
theorem dX9_force_20 : decode cX9_force 20 = .ok (.aload_n 0, 1) := by decide +kernel
theorem dX9_force_21 : decode cX9_force 21 = .ok (.bipush (-2), 2) := by decide +kernel
theorem dX9_force_23 : decode cX9_force 23 = .ok (.invokevirtual 86, 3) := by decide +kernel
theorem dX9_force_26 : decode cX9_force 26 = .ok (.ireturn, 1) := by decide +kernel
theorem dX9_force_27 : decode cX9_force 27 = .ok (.aload_n 0, 1) := by decide +kernel
theorem dX9_force_28 : decode cX9_force 28 = .ok (.getfield 10, 3) := by decide +kernel
theorem dX9_force_31 : decode cX9_force 31 = .ok (.getfield 159, 3) := by decide +kernel
theorem dX9_force_34 : decode cX9_force 34 = .ok (.istore_n 2, 1) := by decide +kernel
theorem dX9_force_35 : decode cX9_force 35 = .ok (.aload_n 0, 1) := by decide +kernel
theorem dX9_force_36 : decode cX9_force 36 = .ok (.getfield 10, 3) := by decide +kernel
theorem dX9_force_39 : decode cX9_force 39 = .ok (.iload_n 1, 1) := by decide +kernel
theorem dX9_force_40 : decode cX9_force 40 = .ok (.putfield 159, 3) := by decide +kernel
theorem dX9_force_43 : decode cX9_force 43 = .ok (.aload_n 0, 1) := by decide +kernel
theorem dX9_force_44 : decode cX9_force 44 = .ok (.iload_n 2, 1) := by decide +kernel
theorem dX9_force_45 : decode cX9_force 45 = .ok (.invokevirtual 101, 3) := by decide +kernel
theorem dX9_force_48 : decode cX9_force 48 = .ok (.ireturn, 1) := by decide +kernel
theorem dX9_woven_0 : decode cX9_woven 0 = .ok (.aload_n 0, 1) := by decide +kernel
theorem dX9_woven_1 : decode cX9_woven 1 = .ok (.iload_n 1, 1) := by decide +kernel
theorem dX9_woven_2 : decode cX9_woven 2 = .ok (.invokevirtual 108, 3) := by decide +kernel
theorem dX9_woven_5 : decode cX9_woven 5 = .ok (.ifCond .eq 19, 3) := by decide +kernel
theorem dX9_woven_8 : decode cX9_woven 8 = .ok (.iload_n 2, 1) := by decide +kernel
theorem dX9_woven_9 : decode cX9_woven 9 = .ok (.invokestatic 114, 3) := by decide +kernel
theorem dX9_woven_12 : decode cX9_woven 12 = .ok (.ifCond .eq 12, 3) := by decide +kernel
theorem dX9_woven_15 : decode cX9_woven 15 = .ok (.iload_n 3, 1) := by decide +kernel
theorem dX9_woven_16 : decode cX9_woven 16 = .ok (.ifCond .lt 8, 3) := by decide +kernel
theorem dX9_woven_19 : decode cX9_woven 19 = .ok (.iload_n 3, 1) := by decide +kernel
theorem dX9_woven_20 : decode cX9_woven 20 = .ok (.iconst 1, 1) := by decide +kernel
theorem dX9_woven_21 : decode cX9_woven 21 = .ok (.if_icmp .le 5, 3) := by decide +kernel
theorem dX9_woven_24 : decode cX9_woven 24 = .ok (.iconst (-1), 1) := by decide +kernel
theorem dX9_woven_25 : decode cX9_woven 25 = .ok (.ireturn, 1) := by decide +kernel
theorem dX9_woven_26 : decode cX9_woven 26 = .ok (.aload_n 0, 1) := by decide +kernel
theorem dX9_woven_27 : decode cX9_woven 27 = .ok (.invokevirtual 162, 3) := by decide +kernel
theorem dX9_woven_30 : decode cX9_woven 30 = .ok (.iload_n 3, 1) := by decide +kernel
theorem dX9_woven_31 : decode cX9_woven 31 = .ok (.ifCond .ne 17, 3) := by decide +kernel
theorem dX9_woven_34 : decode cX9_woven 34 = .ok (.aload_n 0, 1) := by decide +kernel
theorem dX9_woven_35 : decode cX9_woven 35 = .ok (.getfield 37, 3) := by decide +kernel
theorem dX9_woven_38 : decode cX9_woven 38 = .ok (.getfield 165, 3) := by decide +kernel
theorem dX9_woven_41 : decode cX9_woven 41 = .ok (.iload_n 1, 1) := by decide +kernel
theorem dX9_woven_42 : decode cX9_woven 42 = .ok (.aaload, 1) := by decide +kernel
theorem dX9_woven_43 : decode cX9_woven 43 = .ok (.iload_n 2, 1) := by decide +kernel
theorem dX9_woven_44 : decode cX9_woven 44 = .ok (.iaload, 1) := by decide +kernel
theorem dX9_woven_45 : decode cX9_woven 45 = .ok (.goto 14, 3) := by decide +kernel
theorem dX9_woven_48 : decode cX9_woven 48 = .ok (.aload_n 0, 1) := by decide +kernel
theorem dX9_woven_49 : decode cX9_woven 49 = .ok (.getfield 37, 3) := by decide +kernel
theorem dX9_woven_52 : decode cX9_woven 52 = .ok (.invokevirtual 168, 3) := by decide +kernel
theorem dX9_woven_55 : decode cX9_woven 55 = .ok (.iload_n 1, 1) := by decide +kernel
theorem dX9_woven_56 : decode cX9_woven 56 = .ok (.aaload, 1) := by decide +kernel
theorem dX9_woven_57 : decode cX9_woven 57 = .ok (.iload_n 2, 1) := by decide +kernel
theorem dX9_woven_58 : decode cX9_woven 58 = .ok (.iaload, 1) := by decide +kernel
theorem dX9_woven_59 : decode cX9_woven 59 = .ok (.ireturn, 1) := by decide +kernel
theorem dX9_like_0 : decode cX9_like 0 = .ok (.aload_n 0, 1) := by decide +kernel
theorem dX9_like_1 : decode cX9_like 1 = .ok (.iload_n 1, 1) := by decide +kernel
theorem dX9_like_2 : decode cX9_like 2 = .ok (.invokevirtual 172, 3) := by decide +kernel
theorem dX9_like_5 : decode cX9_like 5 = .ok (.ifCond .eq 11, 3) := by decide +kernel
theorem dX9_like_8 : decode cX9_like 8 = .ok (.aload_n 0, 1) := by decide +kernel
theorem dX9_like_9 : decode cX9_like 9 = .ok (.iload_n 2, 1) := by decide +kernel
theorem dX9_like_10 : decode cX9_like 10 = .ok (.invokevirtual 172, 3) := by decide +kernel
theorem dX9_like_13 : decode cX9_like 13 = .ok (.ifCond .ne 5, 3) := by decide +kernel
theorem dX9_like_16 : decode cX9_like 16 = .ok (.iconst (-1), 1) := by decide +kernel
theorem dX9_like_17 : decode cX9_like 17 = .ok (.ireturn, 1) := by decide +kernel
theorem dX9_like_18 : decode cX9_like 18 = .ok (.aload_n 0, 1) := by decide +kernel
theorem dX9_like_19 : decode cX9_like 19 = .ok (.invokevirtual 162, 3) := by decide +kernel
theorem dX9_like_22 : decode cX9_like 22 = .ok (.aload_n 0, 1) := by decide +kernel
theorem dX9_like_23 : decode cX9_like 23 = .ok (.getfield 37, 3) := by decide +kernel
theorem dX9_like_26 : decode cX9_like 26 = .ok (.iload_n 1, 1) := by decide +kernel
theorem dX9_like_27 : decode cX9_like 27 = .ok (.invokevirtual 175, 3) := by decide +kernel
theorem dX9_like_30 : decode cX9_like 30 = .ok (.aload_n 0, 1) := by decide +kernel
theorem dX9_like_31 : decode cX9_like 31 = .ok (.getfield 37, 3) := by decide +kernel
theorem dX9_like_34 : decode cX9_like 34 = .ok (.iload_n 2, 1) := by decide +kernel
theorem dX9_like_35 : decode cX9_like 35 = .ok (.invokevirtual 175, 3) := by decide +kernel
theorem dX9_like_38 : decode cX9_like 38 = .ok (.invokestatic 179, 3) := by decide +kernel
theorem dX9_like_41 : decode cX9_like 41 = .ok (.ireturn, 1) := by decide +kernel
theorem dX9_costs_0 : decode cX9_costs 0 = .ok (.aload_n 0, 1) := by decide +kernel
theorem dX9_costs_1 : decode cX9_costs 1 = .ok (.iload_n 1, 1) := by decide +kernel
theorem dX9_costs_2 : decode cX9_costs 2 = .ok (.invokevirtual 172, 3) := by decide +kernel
theorem dX9_costs_5 : decode cX9_costs 5 = .ok (.ifCond .ne 5, 3) := by decide +kernel
theorem dX9_costs_8 : decode cX9_costs 8 = .ok (.iconst (-1), 1) := by decide +kernel
theorem dX9_costs_9 : decode cX9_costs 9 = .ok (.ireturn, 1) := by decide +kernel
theorem dX9_costs_10 : decode cX9_costs 10 = .ok (.aload_n 0, 1) := by decide +kernel
theorem dX9_costs_11 : decode cX9_costs 11 = .ok (.invokevirtual 162, 3) := by decide +kernel
theorem dX9_costs_14 : decode cX9_costs 14 = .ok (.iload_n 1, 1) := by decide +kernel
theorem dX9_costs_15 : decode cX9_costs 15 = .ok (.iconst (-1), 1) := by decide +kernel
theorem dX9_costs_16 : decode cX9_costs 16 = .ok (.if_icmp .ne 13, 3) := by decide +kernel
theorem dX9_costs_19 : decode cX9_costs 19 = .ok (.aload_n 0, 1) := by decide +kernel
theorem dX9_costs_20 : decode cX9_costs 20 = .ok (.getfield 37, 3) := by decide +kernel
theorem dX9_costs_23 : decode cX9_costs 23 = .ok (.invokevirtual 183, 3) := by decide +kernel
theorem dX9_costs_26 : decode cX9_costs 26 = .ok (.goto 11, 3) := by decide +kernel
theorem dX9_costs_29 : decode cX9_costs 29 = .ok (.aload_n 0, 1) := by decide +kernel
theorem dX9_costs_30 : decode cX9_costs 30 = .ok (.getfield 37, 3) := by decide +kernel
theorem dX9_costs_33 : decode cX9_costs 33 = .ok (.iload_n 1, 1) := by decide +kernel
theorem dX9_costs_34 : decode cX9_costs 34 = .ok (.invokevirtual 175, 3) := by decide +kernel
theorem dX9_costs_37 : decode cX9_costs 37 = .ok (.astore_n 2, 1) := by decide +kernel
theorem dX9_costs_38 : decode cX9_costs 38 = .ok (.iconst 0, 1) := by decide +kernel
theorem dX9_costs_39 : decode cX9_costs 39 = .ok (.istore_n 3, 1) := by decide +kernel
theorem dX9_costs_40 : decode cX9_costs 40 = .ok (.iconst 0, 1) := by decide +kernel
theorem dX9_costs_41 : decode cX9_costs 41 = .ok (.istore 4, 2) := by decide +kernel
theorem dX9_costs_43 : decode cX9_costs 43 = .ok (.iload 4, 2) := by decide +kernel
theorem dX9_costs_45 : decode cX9_costs 45 = .ok (.bipush 36, 2) := by decide +kernel
theorem dX9_costs_47 : decode cX9_costs 47 = .ok (.if_icmp .ge 24, 3) := by decide +kernel
theorem dX9_costs_50 : decode cX9_costs 50 = .ok (.iload_n 3, 1) := by decide +kernel
theorem dX9_costs_51 : decode cX9_costs 51 = .ok (.aload_n 0, 1) := by decide +kernel
theorem dX9_costs_52 : decode cX9_costs 52 = .ok (.getfield 10, 3) := by decide +kernel
theorem dX9_costs_55 : decode cX9_costs 55 = .ok (.getfield 120, 3) := by decide +kernel
theorem dX9_costs_58 : decode cX9_costs 58 = .ok (.aload_n 2, 1) := by decide +kernel
theorem dX9_costs_59 : decode cX9_costs 59 = .ok (.iload 4, 2) := by decide +kernel
theorem dX9_costs_61 : decode cX9_costs 61 = .ok (.iaload, 1) := by decide +kernel
theorem dX9_costs_62 : decode cX9_costs 62 = .ok (.iaload, 1) := by decide +kernel
theorem dX9_costs_63 : decode cX9_costs 63 = .ok (.iadd, 1) := by decide +kernel
theorem dX9_costs_64 : decode cX9_costs 64 = .ok (.istore_n 3, 1) := by decide +kernel
theorem dX9_costs_65 : decode cX9_costs 65 = .ok (.iinc 4 1, 3) := by decide +kernel
theorem dX9_costs_68 : decode cX9_costs 68 = .ok (.goto (-25), 3) := by decide +kernel
theorem dX9_costs_71 : decode cX9_costs 71 = .ok (.iload_n 3, 1) := by decide +kernel
theorem dX9_costs_72 : decode cX9_costs 72 = .ok (.ireturn, 1) := by decide +kernel
theorem dX9_turned_0 : decode cX9_turned 0 = .ok (.iload_n 1, 1) := by decide +kernel
theorem dX9_turned_1 : decode cX9_turned 1 = .ok (.ifCond .lt 8, 3) := by decide +kernel
theorem dX9_turned_4 : decode cX9_turned 4 = .ok (.iload_n 1, 1) := by decide +kernel
theorem dX9_turned_5 : decode cX9_turned 5 = .ok (.iconst 1, 1) := by decide +kernel
theorem dX9_turned_6 : decode cX9_turned 6 = .ok (.if_icmp .le 5, 3) := by decide +kernel
theorem dX9_turned_9 : decode cX9_turned 9 = .ok (.iconst (-1), 1) := by decide +kernel
theorem dX9_turned_10 : decode cX9_turned 10 = .ok (.ireturn, 1) := by decide +kernel
theorem dX9_turned_11 : decode cX9_turned 11 = .ok (.aload_n 0, 1) := by decide +kernel
theorem dX9_turned_12 : decode cX9_turned 12 = .ok (.invokevirtual 162, 3) := by decide +kernel
theorem dX9_turned_15 : decode cX9_turned 15 = .ok (.iconst (-1), 1) := by decide +kernel
theorem dX9_turned_16 : decode cX9_turned 16 = .ok (.istore_n 2, 1) := by decide +kernel
theorem dX9_turned_17 : decode cX9_turned 17 = .ok (.iconst 0, 1) := by decide +kernel
theorem dX9_turned_18 : decode cX9_turned 18 = .ok (.istore_n 3, 1) := by decide +kernel
theorem dX9_turned_19 : decode cX9_turned 19 = .ok (.bipush 36, 2) := by decide +kernel
theorem dX9_turned_21 : decode cX9_turned 21 = .ok (.istore 4, 2) := by decide +kernel
theorem dX9_turned_23 : decode cX9_turned 23 = .ok (.iconst 0, 1) := by decide +kernel
theorem dX9_turned_24 : decode cX9_turned 24 = .ok (.istore 5, 2) := by decide +kernel
theorem dX9_turned_26 : decode cX9_turned 26 = .ok (.iload 5, 2) := by decide +kernel
theorem dX9_turned_28 : decode cX9_turned 28 = .ok (.aload_n 0, 1) := by decide +kernel
theorem dX9_turned_29 : decode cX9_turned 29 = .ok (.getfield 10, 3) := by decide +kernel
theorem dX9_turned_32 : decode cX9_turned 32 = .ok (.getfield 90, 3) := by decide +kernel
theorem dX9_turned_35 : decode cX9_turned 35 = .ok (.if_icmp .ge 54, 3) := by decide +kernel
theorem dX9_turned_38 : decode cX9_turned 38 = .ok (.aload_n 0, 1) := by decide +kernel
theorem dX9_turned_39 : decode cX9_turned 39 = .ok (.getfield 37, 3) := by decide +kernel
theorem dX9_turned_42 : decode cX9_turned 42 = .ok (.iload 5, 2) := by decide +kernel
theorem dX9_turned_44 : decode cX9_turned 44 = .ok (.invokevirtual 175, 3) := by decide +kernel
theorem dX9_turned_47 : decode cX9_turned 47 = .ok (.aload_n 0, 1) := by decide +kernel
theorem dX9_turned_48 : decode cX9_turned 48 = .ok (.getfield 10, 3) := by decide +kernel
theorem dX9_turned_51 : decode cX9_turned 51 = .ok (.getfield 117, 3) := by decide +kernel
theorem dX9_turned_54 : decode cX9_turned 54 = .ok (.iconst 0, 1) := by decide +kernel
theorem dX9_turned_55 : decode cX9_turned 55 = .ok (.aaload, 1) := by decide +kernel
theorem dX9_turned_56 : decode cX9_turned 56 = .ok (.invokestatic 179, 3) := by decide +kernel
theorem dX9_turned_59 : decode cX9_turned 59 = .ok (.istore 6, 2) := by decide +kernel
theorem dX9_turned_61 : decode cX9_turned 61 = .ok (.iload 4, 2) := by decide +kernel
theorem dX9_turned_63 : decode cX9_turned 63 = .ok (.iload 6, 2) := by decide +kernel
theorem dX9_turned_65 : decode cX9_turned 65 = .ok (.isub, 1) := by decide +kernel
theorem dX9_turned_66 : decode cX9_turned 66 = .ok (.iload_n 3, 1) := by decide +kernel
theorem dX9_turned_67 : decode cX9_turned 67 = .ok (.if_icmp .le 12, 3) := by decide +kernel
theorem dX9_turned_70 : decode cX9_turned 70 = .ok (.iload 4, 2) := by decide +kernel
theorem dX9_turned_72 : decode cX9_turned 72 = .ok (.iload 6, 2) := by decide +kernel
theorem dX9_turned_74 : decode cX9_turned 74 = .ok (.isub, 1) := by decide +kernel
theorem dX9_turned_75 : decode cX9_turned 75 = .ok (.istore_n 3, 1) := by decide +kernel
theorem dX9_turned_76 : decode cX9_turned 76 = .ok (.iload 5, 2) := by decide +kernel
theorem dX9_turned_78 : decode cX9_turned 78 = .ok (.istore_n 2, 1) := by decide +kernel
theorem dX9_turned_79 : decode cX9_turned 79 = .ok (.iload 6, 2) := by decide +kernel
theorem dX9_turned_81 : decode cX9_turned 81 = .ok (.istore 4, 2) := by decide +kernel
theorem dX9_turned_83 : decode cX9_turned 83 = .ok (.iinc 5 1, 3) := by decide +kernel
theorem dX9_turned_86 : decode cX9_turned 86 = .ok (.goto (-60), 3) := by decide +kernel
theorem dX9_turned_89 : decode cX9_turned 89 = .ok (.iload_n 1, 1) := by decide +kernel
theorem dX9_turned_90 : decode cX9_turned 90 = .ok (.ifCond .eq 8, 3) := by decide +kernel
theorem dX9_turned_93 : decode cX9_turned 93 = .ok (.iload_n 2, 1) := by decide +kernel
theorem dX9_turned_94 : decode cX9_turned 94 = .ok (.iconst (-1), 1) := by decide +kernel
theorem dX9_turned_95 : decode cX9_turned 95 = .ok (.if_icmp .ne 7, 3) := by decide +kernel
theorem dX9_turned_98 : decode cX9_turned 98 = .ok (.iload_n 2, 1) := by decide +kernel
theorem dX9_turned_99 : decode cX9_turned 99 = .ok (.goto 4, 3) := by decide +kernel
theorem dX9_turned_102 : decode cX9_turned 102 = .ok (.iload_n 3, 1) := by decide +kernel
theorem dX9_turned_103 : decode cX9_turned 103 = .ok (.ireturn, 1) := by decide +kernel
theorem dX9_lost_0 : decode cX9_lost 0 = .ok (.iload_n 1, 1) := by decide +kernel
theorem dX9_lost_1 : decode cX9_lost 1 = .ok (.invokestatic 114, 3) := by decide +kernel
theorem dX9_lost_4 : decode cX9_lost 4 = .ok (.ifCond .ne 5, 3) := by decide +kernel
theorem dX9_lost_7 : decode cX9_lost 7 = .ok (.iconst (-1), 1) := by decide +kernel
theorem dX9_lost_8 : decode cX9_lost 8 = .ok (.ireturn, 1) := by decide +kernel
theorem dX9_lost_9 : decode cX9_lost 9 = .ok (.aload_n 0, 1) := by decide +kernel
theorem dX9_lost_10 : decode cX9_lost 10 = .ok (.invokevirtual 162, 3) := by decide +kernel
theorem dX9_lost_13 : decode cX9_lost 13 = .ok (.aload_n 0, 1) := by decide +kernel
theorem dX9_lost_14 : decode cX9_lost 14 = .ok (.getfield 46, 3) := by decide +kernel
theorem dX9_lost_17 : decode cX9_lost 17 = .ok (.iload_n 1, 1) := by decide +kernel
theorem dX9_lost_18 : decode cX9_lost 18 = .ok (.aload_n 0, 1) := by decide +kernel
theorem dX9_lost_19 : decode cX9_lost 19 = .ok (.getfield 37, 3) := by decide +kernel
theorem dX9_lost_22 : decode cX9_lost 22 = .ok (.invokevirtual 183, 3) := by decide +kernel
theorem dX9_lost_25 : decode cX9_lost 25 = .ok (.invokevirtual 187, 3) := by decide +kernel
theorem dX9_lost_28 : decode cX9_lost 28 = .ok (.invokestatic 191, 3) := by decide +kernel
theorem dX9_lost_31 : decode cX9_lost 31 = .ok (.iconst 1, 1) := by decide +kernel
theorem dX9_lost_32 : decode cX9_lost 32 = .ok (.isub, 1) := by decide +kernel
theorem dX9_lost_33 : decode cX9_lost 33 = .ok (.ireturn, 1) := by decide +kernel
theorem dX9_look_0 : decode cX9_look 0 = .ok (.iload_n 1, 1) := by decide +kernel
theorem dX9_look_1 : decode cX9_look 1 = .ok (.ifCond .lt 17, 3) := by decide +kernel
theorem dX9_look_4 : decode cX9_look 4 = .ok (.iload_n 1, 1) := by decide +kernel
theorem dX9_look_5 : decode cX9_look 5 = .ok (.iconst 3, 1) := by decide +kernel
theorem dX9_look_6 : decode cX9_look 6 = .ok (.if_icmp .gt 12, 3) := by decide +kernel
theorem dX9_look_9 : decode cX9_look 9 = .ok (.iload_n 2, 1) := by decide +kernel
theorem dX9_look_10 : decode cX9_look 10 = .ok (.ifCond .lt 8, 3) := by decide +kernel
theorem dX9_look_13 : decode cX9_look 13 = .ok (.iload_n 2, 1) := by decide +kernel
theorem dX9_look_14 : decode cX9_look 14 = .ok (.iconst 2, 1) := by decide +kernel
theorem dX9_look_15 : decode cX9_look 15 = .ok (.if_icmp .le 5, 3) := by decide +kernel
theorem dX9_look_18 : decode cX9_look 18 = .ok (.iconst (-1), 1) := by decide +kernel
theorem dX9_look_19 : decode cX9_look 19 = .ok (.ireturn, 1) := by decide +kernel
theorem dX9_look_20 : decode cX9_look 20 = .ok (.aload_n 0, 1) := by decide +kernel
theorem dX9_look_21 : decode cX9_look 21 = .ok (.invokevirtual 162, 3) := by decide +kernel
theorem dX9_look_24 : decode cX9_look 24 = .ok (.iconst 0, 1) := by decide +kernel
theorem dX9_look_25 : decode cX9_look 25 = .ok (.istore_n 3, 1) := by decide +kernel
theorem dX9_look_26 : decode cX9_look 26 = .ok (.iconst 0, 1) := by decide +kernel
theorem dX9_look_27 : decode cX9_look 27 = .ok (.istore 4, 2) := by decide +kernel
theorem dX9_look_29 : decode cX9_look 29 = .ok (.iload 4, 2) := by decide +kernel
theorem dX9_look_31 : decode cX9_look 31 = .ok (.iload_n 1, 1) := by decide +kernel
theorem dX9_look_32 : decode cX9_look 32 = .ok (.if_icmp .gt 47, 3) := by decide +kernel
theorem dX9_look_35 : decode cX9_look 35 = .ok (.aload_n 0, 1) := by decide +kernel
theorem dX9_look_36 : decode cX9_look 36 = .ok (.getfield 46, 3) := by decide +kernel
theorem dX9_look_39 : decode cX9_look 39 = .ok (.iload 4, 2) := by decide +kernel
theorem dX9_look_41 : decode cX9_look 41 = .ok (.invokevirtual 196, 3) := by decide +kernel
theorem dX9_look_44 : decode cX9_look 44 = .ok (.aload_n 0, 1) := by decide +kernel
theorem dX9_look_45 : decode cX9_look 45 = .ok (.getfield 46, 3) := by decide +kernel
theorem dX9_look_48 : decode cX9_look 48 = .ok (.getfield 199, 3) := by decide +kernel
theorem dX9_look_51 : decode cX9_look 51 = .ok (.iload 4, 2) := by decide +kernel
theorem dX9_look_53 : decode cX9_look 53 = .ok (.aaload, 1) := by decide +kernel
theorem dX9_look_54 : decode cX9_look 54 = .ok (.iconst 0, 1) := by decide +kernel
theorem dX9_look_55 : decode cX9_look 55 = .ok (.iaload, 1) := by decide +kernel
theorem dX9_look_56 : decode cX9_look 56 = .ok (.aload_n 0, 1) := by decide +kernel
theorem dX9_look_57 : decode cX9_look 57 = .ok (.getfield 46, 3) := by decide +kernel
theorem dX9_look_60 : decode cX9_look 60 = .ok (.getfield 199, 3) := by decide +kernel
theorem dX9_look_63 : decode cX9_look 63 = .ok (.iload_n 3, 1) := by decide +kernel
theorem dX9_look_64 : decode cX9_look 64 = .ok (.aaload, 1) := by decide +kernel
theorem dX9_look_65 : decode cX9_look 65 = .ok (.iconst 0, 1) := by decide +kernel
theorem dX9_look_66 : decode cX9_look 66 = .ok (.iaload, 1) := by decide +kernel
theorem dX9_look_67 : decode cX9_look 67 = .ok (.if_icmp .le 6, 3) := by decide +kernel
theorem dX9_look_70 : decode cX9_look 70 = .ok (.iload 4, 2) := by decide +kernel
theorem dX9_look_72 : decode cX9_look 72 = .ok (.istore_n 3, 1) := by decide +kernel
theorem dX9_look_73 : decode cX9_look 73 = .ok (.iinc 4 1, 3) := by decide +kernel
theorem dX9_look_76 : decode cX9_look 76 = .ok (.goto (-47), 3) := by decide +kernel
theorem dX9_look_79 : decode cX9_look 79 = .ok (.aload_n 0, 1) := by decide +kernel
theorem dX9_look_80 : decode cX9_look 80 = .ok (.getfield 46, 3) := by decide +kernel
theorem dX9_look_83 : decode cX9_look 83 = .ok (.getfield 199, 3) := by decide +kernel
theorem dX9_look_86 : decode cX9_look 86 = .ok (.iload_n 3, 1) := by decide +kernel
theorem dX9_look_87 : decode cX9_look 87 = .ok (.aaload, 1) := by decide +kernel
theorem dX9_look_88 : decode cX9_look 88 = .ok (.iload_n 2, 1) := by decide +kernel
theorem dX9_look_89 : decode cX9_look 89 = .ok (.iaload, 1) := by decide +kernel
theorem dX9_look_90 : decode cX9_look 90 = .ok (.ireturn, 1) := by decide +kernel
theorem dX9_gift_0 : decode cX9_gift 0 = .ok (.iload_n 1, 1) := by decide +kernel
theorem dX9_gift_1 : decode cX9_gift 1 = .ok (.ifCond .lt 8, 3) := by decide +kernel
theorem dX9_gift_4 : decode cX9_gift 4 = .ok (.iload_n 1, 1) := by decide +kernel
theorem dX9_gift_5 : decode cX9_gift 5 = .ok (.iconst 2, 1) := by decide +kernel
theorem dX9_gift_6 : decode cX9_gift 6 = .ok (.if_icmp .le 5, 3) := by decide +kernel
theorem dX9_gift_9 : decode cX9_gift 9 = .ok (.iconst (-1), 1) := by decide +kernel
theorem dX9_gift_10 : decode cX9_gift 10 = .ok (.ireturn, 1) := by decide +kernel
theorem dX9_gift_11 : decode cX9_gift 11 = .ok (.aload_n 0, 1) := by decide +kernel
theorem dX9_gift_12 : decode cX9_gift 12 = .ok (.invokevirtual 162, 3) := by decide +kernel
theorem dX9_gift_15 : decode cX9_gift 15 = .ok (.aload_n 0, 1) := by decide +kernel
theorem dX9_gift_16 : decode cX9_gift 16 = .ok (.getfield 46, 3) := by decide +kernel
theorem dX9_gift_19 : decode cX9_gift 19 = .ok (.invokevirtual 202, 3) := by decide +kernel
theorem dX9_gift_22 : decode cX9_gift 22 = .ok (.aload_n 0, 1) := by decide +kernel
theorem dX9_gift_23 : decode cX9_gift 23 = .ok (.getfield 46, 3) := by decide +kernel
theorem dX9_gift_26 : decode cX9_gift 26 = .ok (.getfield 205, 3) := by decide +kernel
theorem dX9_gift_29 : decode cX9_gift 29 = .ok (.iload_n 1, 1) := by decide +kernel
theorem dX9_gift_30 : decode cX9_gift 30 = .ok (.iaload, 1) := by decide +kernel
theorem dX9_gift_31 : decode cX9_gift 31 = .ok (.ireturn, 1) := by decide +kernel
theorem dX9_slips_0 : decode cX9_slips 0 = .ok (.iload_n 1, 1) := by decide +kernel
theorem dX9_slips_1 : decode cX9_slips 1 = .ok (.iconst (-1), 1) := by decide +kernel
theorem dX9_slips_2 : decode cX9_slips 2 = .ok (.if_icmp .ge 5, 3) := by decide +kernel
theorem dX9_slips_5 : decode cX9_slips 5 = .ok (.iconst (-1), 1) := by decide +kernel
theorem dX9_slips_6 : decode cX9_slips 6 = .ok (.ireturn, 1) := by decide +kernel
theorem dX9_slips_7 : decode cX9_slips 7 = .ok (.aload_n 0, 1) := by decide +kernel
theorem dX9_slips_8 : decode cX9_slips 8 = .ok (.invokevirtual 162, 3) := by decide +kernel
theorem dX9_slips_11 : decode cX9_slips 11 = .ok (.aload_n 0, 1) := by decide +kernel
theorem dX9_slips_12 : decode cX9_slips 12 = .ok (.getfield 46, 3) := by decide +kernel
theorem dX9_slips_15 : decode cX9_slips 15 = .ok (.invokevirtual 208, 3) := by decide +kernel
theorem dX9_slips_18 : decode cX9_slips 18 = .ok (.iload_n 1, 1) := by decide +kernel
theorem dX9_slips_19 : decode cX9_slips 19 = .ok (.iconst (-1), 1) := by decide +kernel
theorem dX9_slips_20 : decode cX9_slips 20 = .ok (.if_icmp .ne 13, 3) := by decide +kernel
theorem dX9_slips_23 : decode cX9_slips 23 = .ok (.aload_n 0, 1) := by decide +kernel
theorem dX9_slips_24 : decode cX9_slips 24 = .ok (.getfield 46, 3) := by decide +kernel
theorem dX9_slips_27 : decode cX9_slips 27 = .ok (.getfield 211, 3) := by decide +kernel
theorem dX9_slips_30 : decode cX9_slips 30 = .ok (.goto 11, 3) := by decide +kernel
theorem dX9_slips_33 : decode cX9_slips 33 = .ok (.aload_n 0, 1) := by decide +kernel
theorem dX9_slips_34 : decode cX9_slips 34 = .ok (.getfield 46, 3) := by decide +kernel
theorem dX9_slips_37 : decode cX9_slips 37 = .ok (.iload_n 1, 1) := by decide +kernel
theorem dX9_slips_38 : decode cX9_slips 38 = .ok (.invokevirtual 214, 3) := by decide +kernel
theorem dX9_slips_41 : decode cX9_slips 41 = .ok (.ireturn, 1) := by decide +kernel
theorem dX9_could_0 : decode cX9_could 0 = .ok (.iload_n 1, 1) := by decide +kernel
theorem dX9_could_1 : decode cX9_could 1 = .ok (.invokestatic 114, 3) := by decide +kernel
theorem dX9_could_4 : decode cX9_could 4 = .ok (.ifCond .ne 5, 3) := by decide +kernel
theorem dX9_could_7 : decode cX9_could 7 = .ok (.iconst (-1), 1) := by decide +kernel
theorem dX9_could_8 : decode cX9_could 8 = .ok (.ireturn, 1) := by decide +kernel
theorem dX9_could_9 : decode cX9_could 9 = .ok (.aload_n 0, 1) := by decide +kernel
theorem dX9_could_10 : decode cX9_could 10 = .ok (.invokevirtual 162, 3) := by decide +kernel
theorem dX9_could_13 : decode cX9_could 13 = .ok (.aload_n 0, 1) := by decide +kernel
theorem dX9_could_14 : decode cX9_could 14 = .ok (.getfield 46, 3) := by decide +kernel
theorem dX9_could_17 : decode cX9_could 17 = .ok (.iload_n 1, 1) := by decide +kernel
theorem dX9_could_18 : decode cX9_could 18 = .ok (.aload_n 0, 1) := by decide +kernel
theorem dX9_could_19 : decode cX9_could 19 = .ok (.getfield 10, 3) := by decide +kernel
theorem dX9_could_22 : decode cX9_could 22 = .ok (.getfield 117, 3) := by decide +kernel
theorem dX9_could_25 : decode cX9_could 25 = .ok (.iconst 2, 1) := by decide +kernel
theorem dX9_could_26 : decode cX9_could 26 = .ok (.aaload, 1) := by decide +kernel
theorem dX9_could_27 : decode cX9_could 27 = .ok (.invokevirtual 187, 3) := by decide +kernel
theorem dX9_could_30 : decode cX9_could 30 = .ok (.ireturn, 1) := by decide +kernel
theorem dX9_meeting_0 : decode cX9_meeting 0 = .ok (.iload_n 1, 1) := by decide +kernel
theorem dX9_meeting_1 : decode cX9_meeting 1 = .ok (.ifCond .lt 19, 3) := by decide +kernel
theorem dX9_meeting_4 : decode cX9_meeting 4 = .ok (.iload_n 1, 1) := by decide +kernel
theorem dX9_meeting_5 : decode cX9_meeting 5 = .ok (.iconst 1, 1) := by decide +kernel
theorem dX9_meeting_6 : decode cX9_meeting 6 = .ok (.if_icmp .gt 14, 3) := by decide +kernel
theorem dX9_meeting_9 : decode cX9_meeting 9 = .ok (.aload_n 0, 1) := by decide +kernel
theorem dX9_meeting_10 : decode cX9_meeting 10 = .ok (.getfield 10, 3) := by decide +kernel
theorem dX9_meeting_13 : decode cX9_meeting 13 = .ok (.getfield 90, 3) := by decide +kernel
theorem dX9_meeting_16 : decode cX9_meeting 16 = .ok (.iconst 2, 1) := by decide +kernel
theorem dX9_meeting_17 : decode cX9_meeting 17 = .ok (.if_icmp .ge 5, 3) := by decide +kernel
theorem dX9_meeting_20 : decode cX9_meeting 20 = .ok (.iconst (-1), 1) := by decide +kernel
theorem dX9_meeting_21 : decode cX9_meeting 21 = .ok (.ireturn, 1) := by decide +kernel
theorem dX9_meeting_22 : decode cX9_meeting 22 = .ok (.aload_n 0, 1) := by decide +kernel
theorem dX9_meeting_23 : decode cX9_meeting 23 = .ok (.invokevirtual 162, 3) := by decide +kernel
theorem dX9_meeting_26 : decode cX9_meeting 26 = .ok (.aload_n 0, 1) := by decide +kernel
theorem dX9_meeting_27 : decode cX9_meeting 27 = .ok (.getfield 37, 3) := by decide +kernel
theorem dX9_meeting_30 : decode cX9_meeting 30 = .ok (.invokevirtual 168, 3) := by decide +kernel
theorem dX9_meeting_33 : decode cX9_meeting 33 = .ok (.astore_n 2, 1) := by decide +kernel
theorem dX9_meeting_34 : decode cX9_meeting 34 = .ok (.iconst 0, 1) := by decide +kernel
theorem dX9_meeting_35 : decode cX9_meeting 35 = .ok (.istore_n 3, 1) := by decide +kernel
theorem dX9_meeting_36 : decode cX9_meeting 36 = .ok (.iconst (-1), 1) := by decide +kernel
theorem dX9_meeting_37 : decode cX9_meeting 37 = .ok (.istore 4, 2) := by decide +kernel
theorem dX9_meeting_39 : decode cX9_meeting 39 = .ok (.iconst 0, 1) := by decide +kernel
theorem dX9_meeting_40 : decode cX9_meeting 40 = .ok (.istore 5, 2) := by decide +kernel
theorem dX9_meeting_42 : decode cX9_meeting 42 = .ok (.iload 5, 2) := by decide +kernel
theorem dX9_meeting_44 : decode cX9_meeting 44 = .ok (.iconst 1, 1) := by decide +kernel
theorem dX9_meeting_45 : decode cX9_meeting 45 = .ok (.iadd, 1) := by decide +kernel
theorem dX9_meeting_46 : decode cX9_meeting 46 = .ok (.aload_n 0, 1) := by decide +kernel
theorem dX9_meeting_47 : decode cX9_meeting 47 = .ok (.getfield 10, 3) := by decide +kernel
theorem dX9_meeting_50 : decode cX9_meeting 50 = .ok (.getfield 90, 3) := by decide +kernel
theorem dX9_meeting_53 : decode cX9_meeting 53 = .ok (.if_icmp .ge 44, 3) := by decide +kernel
theorem dX9_meeting_56 : decode cX9_meeting 56 = .ok (.aload_n 0, 1) := by decide +kernel
theorem dX9_meeting_57 : decode cX9_meeting 57 = .ok (.getfield 37, 3) := by decide +kernel
theorem dX9_meeting_60 : decode cX9_meeting 60 = .ok (.getfield 165, 3) := by decide +kernel
theorem dX9_meeting_63 : decode cX9_meeting 63 = .ok (.iload 5, 2) := by decide +kernel
theorem dX9_meeting_65 : decode cX9_meeting 65 = .ok (.aaload, 1) := by decide +kernel
theorem dX9_meeting_66 : decode cX9_meeting 66 = .ok (.aload_n 2, 1) := by decide +kernel
theorem dX9_meeting_67 : decode cX9_meeting 67 = .ok (.iload 5, 2) := by decide +kernel
theorem dX9_meeting_69 : decode cX9_meeting 69 = .ok (.iconst 1, 1) := by decide +kernel
theorem dX9_meeting_70 : decode cX9_meeting 70 = .ok (.iadd, 1) := by decide +kernel
theorem dX9_meeting_71 : decode cX9_meeting 71 = .ok (.aaload, 1) := by decide +kernel
theorem dX9_meeting_72 : decode cX9_meeting 72 = .ok (.invokestatic 179, 3) := by decide +kernel
theorem dX9_meeting_75 : decode cX9_meeting 75 = .ok (.istore 6, 2) := by decide +kernel
theorem dX9_meeting_77 : decode cX9_meeting 77 = .ok (.iload 6, 2) := by decide +kernel
theorem dX9_meeting_79 : decode cX9_meeting 79 = .ok (.iload 4, 2) := by decide +kernel
theorem dX9_meeting_81 : decode cX9_meeting 81 = .ok (.if_icmp .le 10, 3) := by decide +kernel
theorem dX9_meeting_84 : decode cX9_meeting 84 = .ok (.iload 6, 2) := by decide +kernel
theorem dX9_meeting_86 : decode cX9_meeting 86 = .ok (.istore 4, 2) := by decide +kernel
theorem dX9_meeting_88 : decode cX9_meeting 88 = .ok (.iload 5, 2) := by decide +kernel
theorem dX9_meeting_90 : decode cX9_meeting 90 = .ok (.istore_n 3, 1) := by decide +kernel
theorem dX9_meeting_91 : decode cX9_meeting 91 = .ok (.iinc 5 1, 3) := by decide +kernel
theorem dX9_meeting_94 : decode cX9_meeting 94 = .ok (.goto (-52), 3) := by decide +kernel
theorem dX9_meeting_97 : decode cX9_meeting 97 = .ok (.iload_n 1, 1) := by decide +kernel
theorem dX9_meeting_98 : decode cX9_meeting 98 = .ok (.ifCond .ne 7, 3) := by decide +kernel
theorem dX9_meeting_101 : decode cX9_meeting 101 = .ok (.iload_n 3, 1) := by decide +kernel
theorem dX9_meeting_102 : decode cX9_meeting 102 = .ok (.goto 5, 3) := by decide +kernel
theorem dX9_meeting_105 : decode cX9_meeting 105 = .ok (.iload 4, 2) := by decide +kernel
theorem dX9_meeting_107 : decode cX9_meeting 107 = .ok (.ireturn, 1) := by decide +kernel
theorem dX9_seams_0 : decode cX9_seams 0 = .ok (.aload_n 0, 1) := by decide +kernel
theorem dX9_seams_1 : decode cX9_seams 1 = .ok (.iload_n 1, 1) := by decide +kernel
theorem dX9_seams_2 : decode cX9_seams 2 = .ok (.invokevirtual 172, 3) := by decide +kernel
theorem dX9_seams_5 : decode cX9_seams 5 = .ok (.ifCond .ne 5, 3) := by decide +kernel
theorem dX9_seams_8 : decode cX9_seams 8 = .ok (.iconst (-1), 1) := by decide +kernel
theorem dX9_seams_9 : decode cX9_seams 9 = .ok (.ireturn, 1) := by decide +kernel
theorem dX9_seams_10 : decode cX9_seams 10 = .ok (.aload_n 0, 1) := by decide +kernel
theorem dX9_seams_11 : decode cX9_seams 11 = .ok (.invokevirtual 162, 3) := by decide +kernel
theorem dX9_seams_14 : decode cX9_seams 14 = .ok (.aload_n 0, 1) := by decide +kernel
theorem dX9_seams_15 : decode cX9_seams 15 = .ok (.getfield 37, 3) := by decide +kernel
theorem dX9_seams_18 : decode cX9_seams 18 = .ok (.iload_n 1, 1) := by decide +kernel
theorem dX9_seams_19 : decode cX9_seams 19 = .ok (.invokevirtual 175, 3) := by decide +kernel
theorem dX9_seams_22 : decode cX9_seams 22 = .ok (.invokestatic 217, 3) := by decide +kernel
theorem dX9_seams_25 : decode cX9_seams 25 = .ok (.ireturn, 1) := by decide +kernel
theorem dX9_mend_0 : decode cX9_mend 0 = .ok (.aload_n 0, 1) := by decide +kernel
theorem dX9_mend_1 : decode cX9_mend 1 = .ok (.getfield 53, 3) := by decide +kernel
theorem dX9_mend_4 : decode cX9_mend 4 = .ok (.iload_n 1, 1) := by decide +kernel
theorem dX9_mend_5 : decode cX9_mend 5 = .ok (.iload_n 2, 1) := by decide +kernel
theorem dX9_mend_6 : decode cX9_mend 6 = .ok (.iload_n 3, 1) := by decide +kernel
theorem dX9_mend_7 : decode cX9_mend 7 = .ok (.iload 4, 2) := by decide +kernel
theorem dX9_mend_9 : decode cX9_mend 9 = .ok (.iload 5, 2) := by decide +kernel
theorem dX9_mend_11 : decode cX9_mend 11 = .ok (.invokevirtual 221, 3) := by decide +kernel
theorem dX9_mend_14 : decode cX9_mend 14 = .ok (.ifCond .ne 5, 3) := by decide +kernel
theorem dX9_mend_17 : decode cX9_mend 17 = .ok (.iconst (-1), 1) := by decide +kernel
theorem dX9_mend_18 : decode cX9_mend 18 = .ok (.ireturn, 1) := by decide +kernel
theorem dX9_mend_19 : decode cX9_mend 19 = .ok (.iload 6, 2) := by decide +kernel
theorem dX9_mend_21 : decode cX9_mend 21 = .ok (.ifCond .lt 15, 3) := by decide +kernel
theorem dX9_mend_24 : decode cX9_mend 24 = .ok (.iload 6, 2) := by decide +kernel
theorem dX9_mend_26 : decode cX9_mend 26 = .ok (.aload_n 0, 1) := by decide +kernel
theorem dX9_mend_27 : decode cX9_mend 27 = .ok (.getfield 53, 3) := by decide +kernel
theorem dX9_mend_30 : decode cX9_mend 30 = .ok (.getfield 225, 3) := by decide +kernel
theorem dX9_mend_33 : decode cX9_mend 33 = .ok (.if_icmp .le 5, 3) := by decide +kernel
theorem dX9_mend_36 : decode cX9_mend 36 = .ok (.iconst (-1), 1) := by decide +kernel
theorem dX9_mend_37 : decode cX9_mend 37 = .ok (.ireturn, 1) := by decide +kernel
theorem dX9_mend_38 : decode cX9_mend 38 = .ok (.aload_n 0, 1) := by decide +kernel
theorem dX9_mend_39 : decode cX9_mend 39 = .ok (.invokevirtual 162, 3) := by decide +kernel
theorem dX9_mend_42 : decode cX9_mend 42 = .ok (.aload_n 0, 1) := by decide +kernel
theorem dX9_mend_43 : decode cX9_mend 43 = .ok (.getfield 53, 3) := by decide +kernel
theorem dX9_mend_46 : decode cX9_mend 46 = .ok (.aload_n 0, 1) := by decide +kernel
theorem dX9_mend_47 : decode cX9_mend 47 = .ok (.getfield 37, 3) := by decide +kernel
theorem dX9_mend_50 : decode cX9_mend 50 = .ok (.invokevirtual 183, 3) := by decide +kernel
theorem dX9_mend_53 : decode cX9_mend 53 = .ok (.invokevirtual 228, 3) := by decide +kernel
theorem dX9_mend_56 : decode cX9_mend 56 = .ok (.iload 6, 2) := by decide +kernel
theorem dX9_mend_58 : decode cX9_mend 58 = .ok (.ifCond .ne 13, 3) := by decide +kernel
theorem dX9_mend_61 : decode cX9_mend 61 = .ok (.aload_n 0, 1) := by decide +kernel
theorem dX9_mend_62 : decode cX9_mend 62 = .ok (.getfield 53, 3) := by decide +kernel
theorem dX9_mend_65 : decode cX9_mend 65 = .ok (.getfield 232, 3) := by decide +kernel
theorem dX9_mend_68 : decode cX9_mend 68 = .ok (.goto 15, 3) := by decide +kernel
theorem dX9_mend_71 : decode cX9_mend 71 = .ok (.aload_n 0, 1) := by decide +kernel
theorem dX9_mend_72 : decode cX9_mend 72 = .ok (.getfield 53, 3) := by decide +kernel
theorem dX9_mend_75 : decode cX9_mend 75 = .ok (.getfield 235, 3) := by decide +kernel
theorem dX9_mend_78 : decode cX9_mend 78 = .ok (.iload 6, 2) := by decide +kernel
theorem dX9_mend_80 : decode cX9_mend 80 = .ok (.iconst 1, 1) := by decide +kernel
theorem dX9_mend_81 : decode cX9_mend 81 = .ok (.isub, 1) := by decide +kernel
theorem dX9_mend_82 : decode cX9_mend 82 = .ok (.iaload, 1) := by decide +kernel
theorem dX9_mend_83 : decode cX9_mend 83 = .ok (.ireturn, 1) := by decide +kernel
theorem dX9_weavers_0 : decode cX9_weavers 0 = .ok (.iload_n 1, 1) := by decide +kernel
theorem dX9_weavers_1 : decode cX9_weavers 1 = .ok (.ifCond .lt 9, 3) := by decide +kernel
theorem dX9_weavers_4 : decode cX9_weavers 4 = .ok (.iload_n 1, 1) := by decide +kernel
theorem dX9_weavers_5 : decode cX9_weavers 5 = .ok (.ldc 238, 2) := by decide +kernel
theorem dX9_weavers_7 : decode cX9_weavers 7 = .ok (.if_icmp .le 9, 3) := by decide +kernel
theorem dX9_weavers_10 : decode cX9_weavers 10 = .ok (.aload_n 0, 1) := by decide +kernel
theorem dX9_weavers_11 : decode cX9_weavers 11 = .ok (.iconst (-1), 1) := by decide +kernel
theorem dX9_weavers_12 : decode cX9_weavers 12 = .ok (.invokevirtual 86, 3) := by decide +kernel
theorem dX9_weavers_15 : decode cX9_weavers 15 = .ok (.ireturn, 1) := by decide +kernel
theorem dX9_weavers_16 : decode cX9_weavers 16 = .ok (.aload_n 0, 1) := by decide +kernel
theorem dX9_weavers_17 : decode cX9_weavers 17 = .ok (.invokevirtual 162, 3) := by decide +kernel
theorem dX9_weavers_20 : decode cX9_weavers 20 = .ok (.aload_n 0, 1) := by decide +kernel
theorem dX9_weavers_21 : decode cX9_weavers 21 = .ok (.getfield 60, 3) := by decide +kernel
theorem dX9_weavers_24 : decode cX9_weavers 24 = .ok (.aload_n 0, 1) := by decide +kernel
theorem dX9_weavers_25 : decode cX9_weavers 25 = .ok (.getfield 37, 3) := by decide +kernel
theorem dX9_weavers_28 : decode cX9_weavers 28 = .ok (.getfield 239, 3) := by decide +kernel
theorem dX9_weavers_31 : decode cX9_weavers 31 = .ok (.aload_n 0, 1) := by decide +kernel
theorem dX9_weavers_32 : decode cX9_weavers 32 = .ok (.getfield 10, 3) := by decide +kernel
theorem dX9_weavers_35 : decode cX9_weavers 35 = .ok (.iload_n 1, 1) := by decide +kernel
theorem dX9_weavers_36 : decode cX9_weavers 36 = .ok (.invokevirtual 243, 3) := by decide +kernel
theorem dX9_weavers_39 : decode cX9_weavers 39 = .ok (.astore_n 2, 1) := by decide +kernel
theorem dX9_weavers_40 : decode cX9_weavers 40 = .ok (.aload_n 0, 1) := by decide +kernel
theorem dX9_weavers_41 : decode cX9_weavers 41 = .ok (.aload_n 2, 1) := by decide +kernel
theorem dX9_weavers_42 : decode cX9_weavers 42 = .ok (.aload_n 0, 1) := by decide +kernel
theorem dX9_weavers_43 : decode cX9_weavers 43 = .ok (.getfield 10, 3) := by decide +kernel
theorem dX9_weavers_46 : decode cX9_weavers 46 = .ok (.getfield 117, 3) := by decide +kernel
theorem dX9_weavers_49 : decode cX9_weavers 49 = .ok (.iconst 0, 1) := by decide +kernel
theorem dX9_weavers_50 : decode cX9_weavers 50 = .ok (.aaload, 1) := by decide +kernel
theorem dX9_weavers_51 : decode cX9_weavers 51 = .ok (.invokestatic 179, 3) := by decide +kernel
theorem dX9_weavers_54 : decode cX9_weavers 54 = .ok (.invokevirtual 123, 3) := by decide +kernel
theorem dX9_weavers_57 : decode cX9_weavers 57 = .ok (.ireturn, 1) := by decide +kernel
theorem dX9_drawn_0 : decode cX9_drawn 0 = .ok (.iload_n 1, 1) := by decide +kernel
theorem dX9_drawn_1 : decode cX9_drawn 1 = .ok (.ifCond .lt 14, 3) := by decide +kernel
theorem dX9_drawn_4 : decode cX9_drawn 4 = .ok (.iload_n 1, 1) := by decide +kernel
theorem dX9_drawn_5 : decode cX9_drawn 5 = .ok (.aload_n 0, 1) := by decide +kernel
theorem dX9_drawn_6 : decode cX9_drawn 6 = .ok (.getfield 60, 3) := by decide +kernel
theorem dX9_drawn_9 : decode cX9_drawn 9 = .ok (.getfield 247, 3) := by decide +kernel
theorem dX9_drawn_12 : decode cX9_drawn 12 = .ok (.if_icmp .lt 5, 3) := by decide +kernel
theorem dX9_drawn_15 : decode cX9_drawn 15 = .ok (.iconst (-1), 1) := by decide +kernel
theorem dX9_drawn_16 : decode cX9_drawn 16 = .ok (.ireturn, 1) := by decide +kernel
theorem dX9_drawn_17 : decode cX9_drawn 17 = .ok (.iload_n 2, 1) := by decide +kernel
theorem dX9_drawn_18 : decode cX9_drawn 18 = .ok (.iconst (-1), 1) := by decide +kernel
theorem dX9_drawn_19 : decode cX9_drawn 19 = .ok (.if_icmp .ne 13, 3) := by decide +kernel
theorem dX9_drawn_22 : decode cX9_drawn 22 = .ok (.aload_n 0, 1) := by decide +kernel
theorem dX9_drawn_23 : decode cX9_drawn 23 = .ok (.getfield 60, 3) := by decide +kernel
theorem dX9_drawn_26 : decode cX9_drawn 26 = .ok (.getfield 248, 3) := by decide +kernel
theorem dX9_drawn_29 : decode cX9_drawn 29 = .ok (.iload_n 1, 1) := by decide +kernel
theorem dX9_drawn_30 : decode cX9_drawn 30 = .ok (.iaload, 1) := by decide +kernel
theorem dX9_drawn_31 : decode cX9_drawn 31 = .ok (.ireturn, 1) := by decide +kernel
theorem dX9_drawn_32 : decode cX9_drawn 32 = .ok (.iload_n 2, 1) := by decide +kernel
theorem dX9_drawn_33 : decode cX9_drawn 33 = .ok (.invokestatic 114, 3) := by decide +kernel
theorem dX9_drawn_36 : decode cX9_drawn 36 = .ok (.ifCond .eq 17, 3) := by decide +kernel
theorem dX9_drawn_39 : decode cX9_drawn 39 = .ok (.aload_n 0, 1) := by decide +kernel
theorem dX9_drawn_40 : decode cX9_drawn 40 = .ok (.getfield 60, 3) := by decide +kernel
theorem dX9_drawn_43 : decode cX9_drawn 43 = .ok (.getfield 251, 3) := by decide +kernel
theorem dX9_drawn_46 : decode cX9_drawn 46 = .ok (.iload_n 1, 1) := by decide +kernel
theorem dX9_drawn_47 : decode cX9_drawn 47 = .ok (.aaload, 1) := by decide +kernel
theorem dX9_drawn_48 : decode cX9_drawn 48 = .ok (.iload_n 2, 1) := by decide +kernel
theorem dX9_drawn_49 : decode cX9_drawn 49 = .ok (.iaload, 1) := by decide +kernel
theorem dX9_drawn_50 : decode cX9_drawn 50 = .ok (.goto 4, 3) := by decide +kernel
theorem dX9_drawn_53 : decode cX9_drawn 53 = .ok (.iconst (-1), 1) := by decide +kernel
theorem dX9_drawn_54 : decode cX9_drawn 54 = .ok (.ireturn, 1) := by decide +kernel
theorem dX9_image_0 : decode cX9_image 0 = .ok (.iload_n 1, 1) := by decide +kernel
theorem dX9_image_1 : decode cX9_image 1 = .ok (.ifCond .lt 8, 3) := by decide +kernel
theorem dX9_image_4 : decode cX9_image 4 = .ok (.iload_n 1, 1) := by decide +kernel
theorem dX9_image_5 : decode cX9_image 5 = .ok (.iconst 2, 1) := by decide +kernel
theorem dX9_image_6 : decode cX9_image 6 = .ok (.if_icmp .lt 9, 3) := by decide +kernel
theorem dX9_image_9 : decode cX9_image 9 = .ok (.aload_n 0, 1) := by decide +kernel
theorem dX9_image_10 : decode cX9_image 10 = .ok (.iconst (-1), 1) := by decide +kernel
theorem dX9_image_11 : decode cX9_image 11 = .ok (.invokevirtual 86, 3) := by decide +kernel
theorem dX9_image_14 : decode cX9_image 14 = .ok (.ireturn, 1) := by decide +kernel
theorem dX9_image_15 : decode cX9_image 15 = .ok (.aload_n 0, 1) := by decide +kernel
theorem dX9_image_16 : decode cX9_image 16 = .ok (.getfield 16, 3) := by decide +kernel
theorem dX9_image_19 : decode cX9_image 19 = .ok (.iload_n 1, 1) := by decide +kernel
theorem dX9_image_20 : decode cX9_image 20 = .ok (.aaload, 1) := by decide +kernel
theorem dX9_image_21 : decode cX9_image 21 = .ok (.ifnonnull 16, 3) := by decide +kernel
theorem dX9_image_24 : decode cX9_image 24 = .ok (.aload_n 0, 1) := by decide +kernel
theorem dX9_image_25 : decode cX9_image 25 = .ok (.getfield 16, 3) := by decide +kernel
theorem dX9_image_28 : decode cX9_image 28 = .ok (.iload_n 1, 1) := by decide +kernel
theorem dX9_image_29 : decode cX9_image 29 = .ok (.new 7, 3) := by decide +kernel
theorem dX9_image_32 : decode cX9_image 32 = .ok (.dup, 1) := by decide +kernel
theorem dX9_image_33 : decode cX9_image 33 = .ok (.invokespecial 9, 3) := by decide +kernel
theorem dX9_image_36 : decode cX9_image 36 = .ok (.aastore, 1) := by decide +kernel
theorem dX9_image_37 : decode cX9_image 37 = .ok (.aload_n 0, 1) := by decide +kernel
theorem dX9_image_38 : decode cX9_image 38 = .ok (.getfield 16, 3) := by decide +kernel
theorem dX9_image_41 : decode cX9_image 41 = .ok (.iload_n 1, 1) := by decide +kernel
theorem dX9_image_42 : decode cX9_image 42 = .ok (.aaload, 1) := by decide +kernel
theorem dX9_image_43 : decode cX9_image 43 = .ok (.aload_n 0, 1) := by decide +kernel
theorem dX9_image_44 : decode cX9_image 44 = .ok (.getfield 10, 3) := by decide +kernel
theorem dX9_image_47 : decode cX9_image 47 = .ok (.invokevirtual 252, 3) := by decide +kernel
theorem dX9_image_50 : decode cX9_image 50 = .ok (.aload_n 0, 1) := by decide +kernel
theorem dX9_image_51 : decode cX9_image 51 = .ok (.iconst 0, 1) := by decide +kernel
theorem dX9_image_52 : decode cX9_image 52 = .ok (.invokevirtual 123, 3) := by decide +kernel
theorem dX9_image_55 : decode cX9_image 55 = .ok (.ireturn, 1) := by decide +kernel
theorem dX9_back_0 : decode cX9_back 0 = .ok (.iload_n 1, 1) := by decide +kernel
theorem dX9_back_1 : decode cX9_back 1 = .ok (.ifCond .lt 8, 3) := by decide +kernel
theorem dX9_back_4 : decode cX9_back 4 = .ok (.iload_n 1, 1) := by decide +kernel
theorem dX9_back_5 : decode cX9_back 5 = .ok (.iconst 2, 1) := by decide +kernel
theorem dX9_back_6 : decode cX9_back 6 = .ok (.if_icmp .lt 9, 3) := by decide +kernel
theorem dX9_back_9 : decode cX9_back 9 = .ok (.aload_n 0, 1) := by decide +kernel
theorem dX9_back_10 : decode cX9_back 10 = .ok (.iconst (-1), 1) := by decide +kernel
theorem dX9_back_11 : decode cX9_back 11 = .ok (.invokevirtual 86, 3) := by decide +kernel
theorem dX9_back_14 : decode cX9_back 14 = .ok (.ireturn, 1) := by decide +kernel
theorem dX9_back_15 : decode cX9_back 15 = .ok (.aload_n 0, 1) := by decide +kernel
theorem dX9_back_16 : decode cX9_back 16 = .ok (.getfield 16, 3) := by decide +kernel
theorem dX9_back_19 : decode cX9_back 19 = .ok (.iload_n 1, 1) := by decide +kernel
theorem dX9_back_20 : decode cX9_back 20 = .ok (.aaload, 1) := by decide +kernel
theorem dX9_back_21 : decode cX9_back 21 = .ok (.ifnonnull 10, 3) := by decide +kernel
theorem dX9_back_24 : decode cX9_back 24 = .ok (.aload_n 0, 1) := by decide +kernel
theorem dX9_back_25 : decode cX9_back 25 = .ok (.bipush (-2), 2) := by decide +kernel
theorem dX9_back_27 : decode cX9_back 27 = .ok (.invokevirtual 86, 3) := by decide +kernel
theorem dX9_back_30 : decode cX9_back 30 = .ok (.ireturn, 1) := by decide +kernel
theorem dX9_back_31 : decode cX9_back 31 = .ok (.aload_n 0, 1) := by decide +kernel
theorem dX9_back_32 : decode cX9_back 32 = .ok (.getfield 10, 3) := by decide +kernel
theorem dX9_back_35 : decode cX9_back 35 = .ok (.aload_n 0, 1) := by decide +kernel
theorem dX9_back_36 : decode cX9_back 36 = .ok (.getfield 16, 3) := by decide +kernel
theorem dX9_back_39 : decode cX9_back 39 = .ok (.iload_n 1, 1) := by decide +kernel
theorem dX9_back_40 : decode cX9_back 40 = .ok (.aaload, 1) := by decide +kernel
theorem dX9_back_41 : decode cX9_back 41 = .ok (.invokevirtual 252, 3) := by decide +kernel
theorem dX9_back_44 : decode cX9_back 44 = .ok (.aload_n 0, 1) := by decide +kernel
theorem dX9_back_45 : decode cX9_back 45 = .ok (.iconst 0, 1) := by decide +kernel
theorem dX9_back_46 : decode cX9_back 46 = .ok (.invokevirtual 101, 3) := by decide +kernel
theorem dX9_back_49 : decode cX9_back 49 = .ok (.ireturn, 1) := by decide +kernel
theorem dX9_count_0 : decode cX9_count 0 = .ok (.iload_n 1, 1) := by decide +kernel
theorem dX9_count_1 : decode cX9_count 1 = .ok (.tableswitch 116 0 9 #[55, 63, 71, 79, 79, 79, 79, 88, 96, 106], 55) := by decide +kernel
theorem dX9_count_56 : decode cX9_count 56 = .ok (.aload_n 0, 1) := by decide +kernel
theorem dX9_count_57 : decode cX9_count 57 = .ok (.getfield 10, 3) := by decide +kernel
theorem dX9_count_60 : decode cX9_count 60 = .ok (.getfield 90, 3) := by decide +kernel
theorem dX9_count_63 : decode cX9_count 63 = .ok (.ireturn, 1) := by decide +kernel
theorem dX9_count_64 : decode cX9_count 64 = .ok (.aload_n 0, 1) := by decide +kernel
theorem dX9_count_65 : decode cX9_count 65 = .ok (.getfield 10, 3) := by decide +kernel
theorem dX9_count_68 : decode cX9_count 68 = .ok (.getfield 145, 3) := by decide +kernel
theorem dX9_count_71 : decode cX9_count 71 = .ok (.ireturn, 1) := by decide +kernel
theorem dX9_count_72 : decode cX9_count 72 = .ok (.aload_n 0, 1) := by decide +kernel
theorem dX9_count_73 : decode cX9_count 73 = .ok (.getfield 23, 3) := by decide +kernel
theorem dX9_count_76 : decode cX9_count 76 = .ok (.getfield 129, 3) := by decide +kernel
theorem dX9_count_79 : decode cX9_count 79 = .ok (.ireturn, 1) := by decide +kernel
theorem dX9_count_80 : decode cX9_count 80 = .ok (.aload_n 0, 1) := by decide +kernel
theorem dX9_count_81 : decode cX9_count 81 = .ok (.getfield 64, 3) := by decide +kernel
theorem dX9_count_84 : decode cX9_count 84 = .ok (.iload_n 1, 1) := by decide +kernel
theorem dX9_count_85 : decode cX9_count 85 = .ok (.iconst 3, 1) := by decide +kernel
theorem dX9_count_86 : decode cX9_count 86 = .ok (.isub, 1) := by decide +kernel
theorem dX9_count_87 : decode cX9_count 87 = .ok (.iaload, 1) := by decide +kernel
theorem dX9_count_88 : decode cX9_count 88 = .ok (.ireturn, 1) := by decide +kernel
theorem dX9_count_89 : decode cX9_count 89 = .ok (.aload_n 0, 1) := by decide +kernel
theorem dX9_count_90 : decode cX9_count 90 = .ok (.getfield 10, 3) := by decide +kernel
theorem dX9_count_93 : decode cX9_count 93 = .ok (.getfield 159, 3) := by decide +kernel
theorem dX9_count_96 : decode cX9_count 96 = .ok (.ireturn, 1) := by decide +kernel
theorem dX9_count_97 : decode cX9_count 97 = .ok (.aload_n 0, 1) := by decide +kernel
theorem dX9_count_98 : decode cX9_count 98 = .ok (.getfield 10, 3) := by decide +kernel
theorem dX9_count_101 : decode cX9_count 101 = .ok (.getfield 126, 3) := by decide +kernel
theorem dX9_count_104 : decode cX9_count 104 = .ok (.iconst 0, 1) := by decide +kernel
theorem dX9_count_105 : decode cX9_count 105 = .ok (.iaload, 1) := by decide +kernel
theorem dX9_count_106 : decode cX9_count 106 = .ok (.ireturn, 1) := by decide +kernel
theorem dX9_count_107 : decode cX9_count 107 = .ok (.aload_n 0, 1) := by decide +kernel
theorem dX9_count_108 : decode cX9_count 108 = .ok (.getfield 10, 3) := by decide +kernel
theorem dX9_count_111 : decode cX9_count 111 = .ok (.getfield 126, 3) := by decide +kernel
theorem dX9_count_114 : decode cX9_count 114 = .ok (.iconst 1, 1) := by decide +kernel
theorem dX9_count_115 : decode cX9_count 115 = .ok (.iaload, 1) := by decide +kernel
theorem dX9_count_116 : decode cX9_count 116 = .ok (.ireturn, 1) := by decide +kernel
theorem dX9_count_117 : decode cX9_count 117 = .ok (.iconst (-1), 1) := by decide +kernel
theorem dX9_count_118 : decode cX9_count 118 = .ok (.ireturn, 1) := by decide +kernel
theorem dX9_status_0 : decode cX9_status 0 = .ok (.aload_n 0, 1) := by decide +kernel
theorem dX9_status_1 : decode cX9_status 1 = .ok (.getfield 68, 3) := by decide +kernel
theorem dX9_status_4 : decode cX9_status 4 = .ok (.ireturn, 1) := by decide +kernel
theorem dX9_isVillage_0 : decode cX9_isVillage 0 = .ok (.iload_n 1, 1) := by decide +kernel
theorem dX9_isVillage_1 : decode cX9_isVillage 1 = .ok (.ifCond .lt 18, 3) := by decide +kernel
theorem dX9_isVillage_4 : decode cX9_isVillage 4 = .ok (.iload_n 1, 1) := by decide +kernel
theorem dX9_isVillage_5 : decode cX9_isVillage 5 = .ok (.aload_n 0, 1) := by decide +kernel
theorem dX9_isVillage_6 : decode cX9_isVillage 6 = .ok (.getfield 10, 3) := by decide +kernel
theorem dX9_isVillage_9 : decode cX9_isVillage 9 = .ok (.getfield 90, 3) := by decide +kernel
theorem dX9_isVillage_12 : decode cX9_isVillage 12 = .ok (.if_icmp .ge 7, 3) := by decide +kernel
theorem dX9_isVillage_15 : decode cX9_isVillage 15 = .ok (.iconst 1, 1) := by decide +kernel
theorem dX9_isVillage_16 : decode cX9_isVillage 16 = .ok (.goto 4, 3) := by decide +kernel
theorem dX9_isVillage_19 : decode cX9_isVillage 19 = .ok (.iconst 0, 1) := by decide +kernel
theorem dX9_isVillage_20 : decode cX9_isVillage 20 = .ok (.ireturn, 1) := by decide +kernel
theorem dX9_isVillageOrNone_0 : decode cX9_isVillageOrNone 0 = .ok (.iload_n 1, 1) := by decide +kernel
theorem dX9_isVillageOrNone_1 : decode cX9_isVillageOrNone 1 = .ok (.iconst (-1), 1) := by decide +kernel
theorem dX9_isVillageOrNone_2 : decode cX9_isVillageOrNone 2 = .ok (.if_icmp .eq 11, 3) := by decide +kernel
theorem dX9_isVillageOrNone_5 : decode cX9_isVillageOrNone 5 = .ok (.aload_n 0, 1) := by decide +kernel
theorem dX9_isVillageOrNone_6 : decode cX9_isVillageOrNone 6 = .ok (.iload_n 1, 1) := by decide +kernel
theorem dX9_isVillageOrNone_7 : decode cX9_isVillageOrNone 7 = .ok (.invokevirtual 108, 3) := by decide +kernel
theorem dX9_isVillageOrNone_10 : decode cX9_isVillageOrNone 10 = .ok (.ifCond .eq 7, 3) := by decide +kernel
theorem dX9_isVillageOrNone_13 : decode cX9_isVillageOrNone 13 = .ok (.iconst 1, 1) := by decide +kernel
theorem dX9_isVillageOrNone_14 : decode cX9_isVillageOrNone 14 = .ok (.goto 4, 3) := by decide +kernel
theorem dX9_isVillageOrNone_17 : decode cX9_isVillageOrNone 17 = .ok (.iconst 0, 1) := by decide +kernel
theorem dX9_isVillageOrNone_18 : decode cX9_isVillageOrNone 18 = .ok (.ireturn, 1) := by decide +kernel
theorem dX9_isCell_0 : decode cX9_isCell 0 = .ok (.iload_n 0, 1) := by decide +kernel
theorem dX9_isCell_1 : decode cX9_isCell 1 = .ok (.ifCond .lt 13, 3) := by decide +kernel
theorem dX9_isCell_4 : decode cX9_isCell 4 = .ok (.iload_n 0, 1) := by decide +kernel
theorem dX9_isCell_5 : decode cX9_isCell 5 = .ok (.bipush 36, 2) := by decide +kernel
theorem dX9_isCell_7 : decode cX9_isCell 7 = .ok (.if_icmp .ge 7, 3) := by decide +kernel
theorem dX9_isCell_10 : decode cX9_isCell 10 = .ok (.iconst 1, 1) := by decide +kernel
theorem dX9_isCell_11 : decode cX9_isCell 11 = .ok (.goto 4, 3) := by decide +kernel
theorem dX9_isCell_14 : decode cX9_isCell 14 = .ok (.iconst 0, 1) := by decide +kernel
theorem dX9_isCell_15 : decode cX9_isCell 15 = .ok (.ireturn, 1) := by decide +kernel
theorem dX9_isColour_0 : decode cX9_isColour 0 = .ok (.iload_n 0, 1) := by decide +kernel
theorem dX9_isColour_1 : decode cX9_isColour 1 = .ok (.ifCond .lt 13, 3) := by decide +kernel
theorem dX9_isColour_4 : decode cX9_isColour 4 = .ok (.iload_n 0, 1) := by decide +kernel
theorem dX9_isColour_5 : decode cX9_isColour 5 = .ok (.bipush 8, 2) := by decide +kernel
theorem dX9_isColour_7 : decode cX9_isColour 7 = .ok (.if_icmp .ge 7, 3) := by decide +kernel
theorem dX9_isColour_10 : decode cX9_isColour 10 = .ok (.iconst 1, 1) := by decide +kernel
theorem dX9_isColour_11 : decode cX9_isColour 11 = .ok (.goto 4, 3) := by decide +kernel
theorem dX9_isColour_14 : decode cX9_isColour 14 = .ok (.iconst 0, 1) := by decide +kernel
theorem dX9_isColour_15 : decode cX9_isColour 15 = .ok (.ireturn, 1) := by decide +kernel
theorem dX9_isPicture_0 : decode cX9_isPicture 0 = .ok (.iload_n 0, 1) := by decide +kernel
theorem dX9_isPicture_1 : decode cX9_isPicture 1 = .ok (.ifCond .lt 12, 3) := by decide +kernel
theorem dX9_isPicture_4 : decode cX9_isPicture 4 = .ok (.iload_n 0, 1) := by decide +kernel
theorem dX9_isPicture_5 : decode cX9_isPicture 5 = .ok (.iconst 3, 1) := by decide +kernel
theorem dX9_isPicture_6 : decode cX9_isPicture 6 = .ok (.if_icmp .ge 7, 3) := by decide +kernel
theorem dX9_isPicture_9 : decode cX9_isPicture 9 = .ok (.iconst 1, 1) := by decide +kernel
theorem dX9_isPicture_10 : decode cX9_isPicture 10 = .ok (.goto 4, 3) := by decide +kernel
theorem dX9_isPicture_13 : decode cX9_isPicture 13 = .ok (.iconst 0, 1) := by decide +kernel
theorem dX9_isPicture_14 : decode cX9_isPicture 14 = .ok (.ireturn, 1) := by decide +kernel
theorem dX9_isKeyhole_0 : decode cX9_isKeyhole 0 = .ok (.iload_n 0, 1) := by decide +kernel
theorem dX9_isKeyhole_1 : decode cX9_isKeyhole 1 = .ok (.iload_n 2, 1) := by decide +kernel
theorem dX9_isKeyhole_2 : decode cX9_isKeyhole 2 = .ok (.invokestatic 256, 3) := by decide +kernel
theorem dX9_isKeyhole_5 : decode cX9_isKeyhole 5 = .ok (.ifCond .eq 15, 3) := by decide +kernel
theorem dX9_isKeyhole_8 : decode cX9_isKeyhole 8 = .ok (.iload_n 1, 1) := by decide +kernel
theorem dX9_isKeyhole_9 : decode cX9_isKeyhole 9 = .ok (.iload_n 3, 1) := by decide +kernel
theorem dX9_isKeyhole_10 : decode cX9_isKeyhole 10 = .ok (.invokestatic 256, 3) := by decide +kernel
theorem dX9_isKeyhole_13 : decode cX9_isKeyhole 13 = .ok (.ifCond .eq 7, 3) := by decide +kernel
theorem dX9_isKeyhole_16 : decode cX9_isKeyhole 16 = .ok (.iconst 1, 1) := by decide +kernel
theorem dX9_isKeyhole_17 : decode cX9_isKeyhole 17 = .ok (.goto 4, 3) := by decide +kernel
theorem dX9_isKeyhole_20 : decode cX9_isKeyhole 20 = .ok (.iconst 0, 1) := by decide +kernel
theorem dX9_isKeyhole_21 : decode cX9_isKeyhole 21 = .ok (.ireturn, 1) := by decide +kernel
theorem dX9_isStretch_0 : decode cX9_isStretch 0 = .ok (.iload_n 0, 1) := by decide +kernel
theorem dX9_isStretch_1 : decode cX9_isStretch 1 = .ok (.ifCond .lt 32, 3) := by decide +kernel
theorem dX9_isStretch_4 : decode cX9_isStretch 4 = .ok (.iload_n 0, 1) := by decide +kernel
theorem dX9_isStretch_5 : decode cX9_isStretch 5 = .ok (.bipush 6, 2) := by decide +kernel
theorem dX9_isStretch_7 : decode cX9_isStretch 7 = .ok (.if_icmp .ge 26, 3) := by decide +kernel
theorem dX9_isStretch_10 : decode cX9_isStretch 10 = .ok (.iload_n 1, 1) := by decide +kernel
theorem dX9_isStretch_11 : decode cX9_isStretch 11 = .ok (.iconst 1, 1) := by decide +kernel
theorem dX9_isStretch_12 : decode cX9_isStretch 12 = .ok (.if_icmp .lt 21, 3) := by decide +kernel
theorem dX9_isStretch_15 : decode cX9_isStretch 15 = .ok (.iload_n 1, 1) := by decide +kernel
theorem dX9_isStretch_16 : decode cX9_isStretch 16 = .ok (.bipush 6, 2) := by decide +kernel
theorem dX9_isStretch_18 : decode cX9_isStretch 18 = .ok (.if_icmp .gt 15, 3) := by decide +kernel
theorem dX9_isStretch_21 : decode cX9_isStretch 21 = .ok (.iload_n 0, 1) := by decide +kernel
theorem dX9_isStretch_22 : decode cX9_isStretch 22 = .ok (.iload_n 1, 1) := by decide +kernel
theorem dX9_isStretch_23 : decode cX9_isStretch 23 = .ok (.iadd, 1) := by decide +kernel
theorem dX9_isStretch_24 : decode cX9_isStretch 24 = .ok (.bipush 6, 2) := by decide +kernel
theorem dX9_isStretch_26 : decode cX9_isStretch 26 = .ok (.if_icmp .gt 7, 3) := by decide +kernel
theorem dX9_isStretch_29 : decode cX9_isStretch 29 = .ok (.iconst 1, 1) := by decide +kernel
theorem dX9_isStretch_30 : decode cX9_isStretch 30 = .ok (.goto 4, 3) := by decide +kernel
theorem dX9_isStretch_33 : decode cX9_isStretch 33 = .ok (.iconst 0, 1) := by decide +kernel
theorem dX9_isStretch_34 : decode cX9_isStretch 34 = .ok (.ireturn, 1) := by decide +kernel
theorem dX9_allow_0 : decode cX9_allow 0 = .ok (.aload_n 0, 1) := by decide +kernel
theorem dX9_allow_1 : decode cX9_allow 1 = .ok (.iconst 0, 1) := by decide +kernel
theorem dX9_allow_2 : decode cX9_allow 2 = .ok (.putfield 68, 3) := by decide +kernel
theorem dX9_allow_5 : decode cX9_allow 5 = .ok (.iload_n 1, 1) := by decide +kernel
theorem dX9_allow_6 : decode cX9_allow 6 = .ok (.ireturn, 1) := by decide +kernel
theorem dX9_changed_0 : decode cX9_changed 0 = .ok (.aload_n 0, 1) := by decide +kernel
theorem dX9_changed_1 : decode cX9_changed 1 = .ok (.iconst 1, 1) := by decide +kernel
theorem dX9_changed_2 : decode cX9_changed 2 = .ok (.putfield 78, 3) := by decide +kernel
theorem dX9_changed_5 : decode cX9_changed 5 = .ok (.aload_n 0, 1) := by decide +kernel
theorem dX9_changed_6 : decode cX9_changed 6 = .ok (.iload_n 1, 1) := by decide +kernel
theorem dX9_changed_7 : decode cX9_changed 7 = .ok (.invokevirtual 123, 3) := by decide +kernel
theorem dX9_changed_10 : decode cX9_changed 10 = .ok (.ireturn, 1) := by decide +kernel
theorem dX9_refuse_0 : decode cX9_refuse 0 = .ok (.aload_n 0, 1) := by decide +kernel
theorem dX9_refuse_1 : decode cX9_refuse 1 = .ok (.iload_n 1, 1) := by decide +kernel
theorem dX9_refuse_2 : decode cX9_refuse 2 = .ok (.putfield 68, 3) := by decide +kernel
theorem dX9_refuse_5 : decode cX9_refuse 5 = .ok (.iload_n 1, 1) := by decide +kernel
theorem dX9_refuse_6 : decode cX9_refuse 6 = .ok (.iconst (-1), 1) := by decide +kernel
theorem dX9_refuse_7 : decode cX9_refuse 7 = .ok (.if_icmp .ne 16, 3) := by decide +kernel
theorem dX9_refuse_10 : decode cX9_refuse 10 = .ok (.aload_n 0, 1) := by decide +kernel
theorem dX9_refuse_11 : decode cX9_refuse 11 = .ok (.getfield 64, 3) := by decide +kernel
theorem dX9_refuse_14 : decode cX9_refuse 14 = .ok (.iconst 0, 1) := by decide +kernel
theorem dX9_refuse_15 : decode cX9_refuse 15 = .ok (.dup2, 1) := by decide +kernel
theorem dX9_refuse_16 : decode cX9_refuse 16 = .ok (.iaload, 1) := by decide +kernel
theorem dX9_refuse_17 : decode cX9_refuse 17 = .ok (.iconst 1, 1) := by decide +kernel
theorem dX9_refuse_18 : decode cX9_refuse 18 = .ok (.iadd, 1) := by decide +kernel
theorem dX9_refuse_19 : decode cX9_refuse 19 = .ok (.iastore, 1) := by decide +kernel
theorem dX9_refuse_20 : decode cX9_refuse 20 = .ok (.goto 51, 3) := by decide +kernel
theorem dX9_refuse_23 : decode cX9_refuse 23 = .ok (.iload_n 1, 1) := by decide +kernel
theorem dX9_refuse_24 : decode cX9_refuse 24 = .ok (.bipush (-2), 2) := by decide +kernel
theorem dX9_refuse_26 : decode cX9_refuse 26 = .ok (.if_icmp .ne 16, 3) := by decide +kernel
theorem dX9_refuse_29 : decode cX9_refuse 29 = .ok (.aload_n 0, 1) := by decide +kernel
theorem dX9_refuse_30 : decode cX9_refuse 30 = .ok (.getfield 64, 3) := by decide +kernel
theorem dX9_refuse_33 : decode cX9_refuse 33 = .ok (.iconst 1, 1) := by decide +kernel
theorem dX9_refuse_34 : decode cX9_refuse 34 = .ok (.dup2, 1) := by decide +kernel
theorem dX9_refuse_35 : decode cX9_refuse 35 = .ok (.iaload, 1) := by decide +kernel
theorem dX9_refuse_36 : decode cX9_refuse 36 = .ok (.iconst 1, 1) := by decide +kernel
theorem dX9_refuse_37 : decode cX9_refuse 37 = .ok (.iadd, 1) := by decide +kernel
theorem dX9_refuse_38 : decode cX9_refuse 38 = .ok (.iastore, 1) := by decide +kernel
theorem dX9_refuse_39 : decode cX9_refuse 39 = .ok (.goto 32, 3) := by decide +kernel
theorem dX9_refuse_42 : decode cX9_refuse 42 = .ok (.iload_n 1, 1) := by decide +kernel
theorem dX9_refuse_43 : decode cX9_refuse 43 = .ok (.bipush (-5), 2) := by decide +kernel
theorem dX9_refuse_45 : decode cX9_refuse 45 = .ok (.if_icmp .ne 16, 3) := by decide +kernel
theorem dX9_refuse_48 : decode cX9_refuse 48 = .ok (.aload_n 0, 1) := by decide +kernel
theorem dX9_refuse_49 : decode cX9_refuse 49 = .ok (.getfield 64, 3) := by decide +kernel
theorem dX9_refuse_52 : decode cX9_refuse 52 = .ok (.iconst 2, 1) := by decide +kernel
theorem dX9_refuse_53 : decode cX9_refuse 53 = .ok (.dup2, 1) := by decide +kernel
theorem dX9_refuse_54 : decode cX9_refuse 54 = .ok (.iaload, 1) := by decide +kernel
theorem dX9_refuse_55 : decode cX9_refuse 55 = .ok (.iconst 1, 1) := by decide +kernel
theorem dX9_refuse_56 : decode cX9_refuse 56 = .ok (.iadd, 1) := by decide +kernel
theorem dX9_refuse_57 : decode cX9_refuse 57 = .ok (.iastore, 1) := by decide +kernel
theorem dX9_refuse_58 : decode cX9_refuse 58 = .ok (.goto 13, 3) := by decide +kernel
theorem dX9_refuse_61 : decode cX9_refuse 61 = .ok (.aload_n 0, 1) := by decide +kernel
theorem dX9_refuse_62 : decode cX9_refuse 62 = .ok (.getfield 64, 3) := by decide +kernel
theorem dX9_refuse_65 : decode cX9_refuse 65 = .ok (.iconst 3, 1) := by decide +kernel
theorem dX9_refuse_66 : decode cX9_refuse 66 = .ok (.dup2, 1) := by decide +kernel
theorem dX9_refuse_67 : decode cX9_refuse 67 = .ok (.iaload, 1) := by decide +kernel
theorem dX9_refuse_68 : decode cX9_refuse 68 = .ok (.iconst 1, 1) := by decide +kernel
theorem dX9_refuse_69 : decode cX9_refuse 69 = .ok (.iadd, 1) := by decide +kernel
theorem dX9_refuse_70 : decode cX9_refuse 70 = .ok (.iastore, 1) := by decide +kernel
theorem dX9_refuse_71 : decode cX9_refuse 71 = .ok (.iload_n 1, 1) := by decide +kernel
theorem dX9_refuse_72 : decode cX9_refuse 72 = .ok (.ireturn, 1) := by decide +kernel
theorem dX9_weaveIfStale_0 : decode cX9_weaveIfStale 0 = .ok (.aload_n 0, 1) := by decide +kernel
theorem dX9_weaveIfStale_1 : decode cX9_weaveIfStale 1 = .ok (.getfield 78, 3) := by decide +kernel
theorem dX9_weaveIfStale_4 : decode cX9_weaveIfStale 4 = .ok (.ifCond .ne 4, 3) := by decide +kernel
theorem dX9_weaveIfStale_7 : decode cX9_weaveIfStale 7 = .ok (.return_, 1) := by decide +kernel
theorem dX9_weaveIfStale_8 : decode cX9_weaveIfStale 8 = .ok (.aload_n 0, 1) := by decide +kernel
theorem dX9_weaveIfStale_9 : decode cX9_weaveIfStale 9 = .ok (.getfield 37, 3) := by decide +kernel
theorem dX9_weaveIfStale_12 : decode cX9_weaveIfStale 12 = .ok (.aload_n 0, 1) := by decide +kernel
theorem dX9_weaveIfStale_13 : decode cX9_weaveIfStale 13 = .ok (.getfield 10, 3) := by decide +kernel
theorem dX9_weaveIfStale_16 : decode cX9_weaveIfStale 16 = .ok (.invokevirtual 260, 3) := by decide +kernel
theorem dX9_weaveIfStale_19 : decode cX9_weaveIfStale 19 = .ok (.aload_n 0, 1) := by decide +kernel
theorem dX9_weaveIfStale_20 : decode cX9_weaveIfStale 20 = .ok (.getfield 46, 3) := by decide +kernel
theorem dX9_weaveIfStale_23 : decode cX9_weaveIfStale 23 = .ok (.invokevirtual 262, 3) := by decide +kernel
theorem dX9_weaveIfStale_26 : decode cX9_weaveIfStale 26 = .ok (.aload_n 0, 1) := by decide +kernel
theorem dX9_weaveIfStale_27 : decode cX9_weaveIfStale 27 = .ok (.iconst 0, 1) := by decide +kernel
theorem dX9_weaveIfStale_28 : decode cX9_weaveIfStale 28 = .ok (.putfield 78, 3) := by decide +kernel
theorem dX9_weaveIfStale_31 : decode cX9_weaveIfStale 31 = .ok (.return_, 1) := by decide +kernel
theorem dX9_likeness_0 : decode cX9_likeness 0 = .ok (.iconst 0, 1) := by decide +kernel
theorem dX9_likeness_1 : decode cX9_likeness 1 = .ok (.istore_n 2, 1) := by decide +kernel
theorem dX9_likeness_2 : decode cX9_likeness 2 = .ok (.iconst 0, 1) := by decide +kernel
theorem dX9_likeness_3 : decode cX9_likeness 3 = .ok (.istore_n 3, 1) := by decide +kernel
theorem dX9_likeness_4 : decode cX9_likeness 4 = .ok (.iload_n 3, 1) := by decide +kernel
theorem dX9_likeness_5 : decode cX9_likeness 5 = .ok (.bipush 36, 2) := by decide +kernel
theorem dX9_likeness_7 : decode cX9_likeness 7 = .ok (.if_icmp .ge 21, 3) := by decide +kernel
theorem dX9_likeness_10 : decode cX9_likeness 10 = .ok (.aload_n 0, 1) := by decide +kernel
theorem dX9_likeness_11 : decode cX9_likeness 11 = .ok (.iload_n 3, 1) := by decide +kernel
theorem dX9_likeness_12 : decode cX9_likeness 12 = .ok (.iaload, 1) := by decide +kernel
theorem dX9_likeness_13 : decode cX9_likeness 13 = .ok (.aload_n 1, 1) := by decide +kernel
theorem dX9_likeness_14 : decode cX9_likeness 14 = .ok (.iload_n 3, 1) := by decide +kernel
theorem dX9_likeness_15 : decode cX9_likeness 15 = .ok (.iaload, 1) := by decide +kernel
theorem dX9_likeness_16 : decode cX9_likeness 16 = .ok (.if_icmp .ne 6, 3) := by decide +kernel
theorem dX9_likeness_19 : decode cX9_likeness 19 = .ok (.iinc 2 1, 3) := by decide +kernel
theorem dX9_likeness_22 : decode cX9_likeness 22 = .ok (.iinc 3 1, 3) := by decide +kernel
theorem dX9_likeness_25 : decode cX9_likeness 25 = .ok (.goto (-21), 3) := by decide +kernel
theorem dX9_likeness_28 : decode cX9_likeness 28 = .ok (.iload_n 2, 1) := by decide +kernel
theorem dX9_likeness_29 : decode cX9_likeness 29 = .ok (.ireturn, 1) := by decide +kernel
theorem dX9_same_0 : decode cX9_same 0 = .ok (.iconst 0, 1) := by decide +kernel
theorem dX9_same_1 : decode cX9_same 1 = .ok (.istore_n 2, 1) := by decide +kernel
theorem dX9_same_2 : decode cX9_same 2 = .ok (.iload_n 2, 1) := by decide +kernel
theorem dX9_same_3 : decode cX9_same 3 = .ok (.bipush 36, 2) := by decide +kernel
theorem dX9_same_5 : decode cX9_same 5 = .ok (.if_icmp .ge 20, 3) := by decide +kernel
theorem dX9_same_8 : decode cX9_same 8 = .ok (.aload_n 0, 1) := by decide +kernel
theorem dX9_same_9 : decode cX9_same 9 = .ok (.iload_n 2, 1) := by decide +kernel
theorem dX9_same_10 : decode cX9_same 10 = .ok (.iaload, 1) := by decide +kernel
theorem dX9_same_11 : decode cX9_same 11 = .ok (.aload_n 1, 1) := by decide +kernel
theorem dX9_same_12 : decode cX9_same 12 = .ok (.iload_n 2, 1) := by decide +kernel
theorem dX9_same_13 : decode cX9_same 13 = .ok (.iaload, 1) := by decide +kernel
theorem dX9_same_14 : decode cX9_same 14 = .ok (.if_icmp .eq 5, 3) := by decide +kernel
theorem dX9_same_17 : decode cX9_same 17 = .ok (.iconst 0, 1) := by decide +kernel
theorem dX9_same_18 : decode cX9_same 18 = .ok (.ireturn, 1) := by decide +kernel
theorem dX9_same_19 : decode cX9_same 19 = .ok (.iinc 2 1, 3) := by decide +kernel
theorem dX9_same_22 : decode cX9_same 22 = .ok (.goto (-20), 3) := by decide +kernel
theorem dX9_same_25 : decode cX9_same 25 = .ok (.iconst 1, 1) := by decide +kernel
theorem dX9_same_26 : decode cX9_same 26 = .ok (.ireturn, 1) := by decide +kernel
theorem dX9_seamsOf_0 : decode cX9_seamsOf 0 = .ok (.iconst 0, 1) := by decide +kernel
theorem dX9_seamsOf_1 : decode cX9_seamsOf 1 = .ok (.istore_n 1, 1) := by decide +kernel
theorem dX9_seamsOf_2 : decode cX9_seamsOf 2 = .ok (.iconst 0, 1) := by decide +kernel
theorem dX9_seamsOf_3 : decode cX9_seamsOf 3 = .ok (.istore_n 2, 1) := by decide +kernel
theorem dX9_seamsOf_4 : decode cX9_seamsOf 4 = .ok (.iload_n 2, 1) := by decide +kernel
theorem dX9_seamsOf_5 : decode cX9_seamsOf 5 = .ok (.bipush 36, 2) := by decide +kernel
theorem dX9_seamsOf_7 : decode cX9_seamsOf 7 = .ok (.if_icmp .ge 61, 3) := by decide +kernel
theorem dX9_seamsOf_10 : decode cX9_seamsOf 10 = .ok (.aload_n 0, 1) := by decide +kernel
theorem dX9_seamsOf_11 : decode cX9_seamsOf 11 = .ok (.iload_n 2, 1) := by decide +kernel
theorem dX9_seamsOf_12 : decode cX9_seamsOf 12 = .ok (.iaload, 1) := by decide +kernel
theorem dX9_seamsOf_13 : decode cX9_seamsOf 13 = .ok (.iconst (-1), 1) := by decide +kernel
theorem dX9_seamsOf_14 : decode cX9_seamsOf 14 = .ok (.if_icmp .ne 6, 3) := by decide +kernel
theorem dX9_seamsOf_17 : decode cX9_seamsOf 17 = .ok (.goto 45, 3) := by decide +kernel
theorem dX9_seamsOf_20 : decode cX9_seamsOf 20 = .ok (.iload_n 2, 1) := by decide +kernel
theorem dX9_seamsOf_21 : decode cX9_seamsOf 21 = .ok (.bipush 6, 2) := by decide +kernel
theorem dX9_seamsOf_23 : decode cX9_seamsOf 23 = .ok (.irem, 1) := by decide +kernel
theorem dX9_seamsOf_24 : decode cX9_seamsOf 24 = .ok (.ifCond .le 17, 3) := by decide +kernel
theorem dX9_seamsOf_27 : decode cX9_seamsOf 27 = .ok (.iload_n 1, 1) := by decide +kernel
theorem dX9_seamsOf_28 : decode cX9_seamsOf 28 = .ok (.aload_n 0, 1) := by decide +kernel
theorem dX9_seamsOf_29 : decode cX9_seamsOf 29 = .ok (.iload_n 2, 1) := by decide +kernel
theorem dX9_seamsOf_30 : decode cX9_seamsOf 30 = .ok (.iaload, 1) := by decide +kernel
theorem dX9_seamsOf_31 : decode cX9_seamsOf 31 = .ok (.aload_n 0, 1) := by decide +kernel
theorem dX9_seamsOf_32 : decode cX9_seamsOf 32 = .ok (.iload_n 2, 1) := by decide +kernel
theorem dX9_seamsOf_33 : decode cX9_seamsOf 33 = .ok (.iconst 1, 1) := by decide +kernel
theorem dX9_seamsOf_34 : decode cX9_seamsOf 34 = .ok (.isub, 1) := by decide +kernel
theorem dX9_seamsOf_35 : decode cX9_seamsOf 35 = .ok (.iaload, 1) := by decide +kernel
theorem dX9_seamsOf_36 : decode cX9_seamsOf 36 = .ok (.invokestatic 265, 3) := by decide +kernel
theorem dX9_seamsOf_39 : decode cX9_seamsOf 39 = .ok (.iadd, 1) := by decide +kernel
theorem dX9_seamsOf_40 : decode cX9_seamsOf 40 = .ok (.istore_n 1, 1) := by decide +kernel
theorem dX9_seamsOf_41 : decode cX9_seamsOf 41 = .ok (.iload_n 2, 1) := by decide +kernel
theorem dX9_seamsOf_42 : decode cX9_seamsOf 42 = .ok (.bipush 6, 2) := by decide +kernel
theorem dX9_seamsOf_44 : decode cX9_seamsOf 44 = .ok (.if_icmp .lt 18, 3) := by decide +kernel
theorem dX9_seamsOf_47 : decode cX9_seamsOf 47 = .ok (.iload_n 1, 1) := by decide +kernel
theorem dX9_seamsOf_48 : decode cX9_seamsOf 48 = .ok (.aload_n 0, 1) := by decide +kernel
theorem dX9_seamsOf_49 : decode cX9_seamsOf 49 = .ok (.iload_n 2, 1) := by decide +kernel
theorem dX9_seamsOf_50 : decode cX9_seamsOf 50 = .ok (.iaload, 1) := by decide +kernel
theorem dX9_seamsOf_51 : decode cX9_seamsOf 51 = .ok (.aload_n 0, 1) := by decide +kernel
theorem dX9_seamsOf_52 : decode cX9_seamsOf 52 = .ok (.iload_n 2, 1) := by decide +kernel
theorem dX9_seamsOf_53 : decode cX9_seamsOf 53 = .ok (.bipush 6, 2) := by decide +kernel
theorem dX9_seamsOf_55 : decode cX9_seamsOf 55 = .ok (.isub, 1) := by decide +kernel
theorem dX9_seamsOf_56 : decode cX9_seamsOf 56 = .ok (.iaload, 1) := by decide +kernel
theorem dX9_seamsOf_57 : decode cX9_seamsOf 57 = .ok (.invokestatic 265, 3) := by decide +kernel
theorem dX9_seamsOf_60 : decode cX9_seamsOf 60 = .ok (.iadd, 1) := by decide +kernel
theorem dX9_seamsOf_61 : decode cX9_seamsOf 61 = .ok (.istore_n 1, 1) := by decide +kernel
theorem dX9_seamsOf_62 : decode cX9_seamsOf 62 = .ok (.iinc 2 1, 3) := by decide +kernel
theorem dX9_seamsOf_65 : decode cX9_seamsOf 65 = .ok (.goto (-61), 3) := by decide +kernel
theorem dX9_seamsOf_68 : decode cX9_seamsOf 68 = .ok (.iload_n 1, 1) := by decide +kernel
theorem dX9_seamsOf_69 : decode cX9_seamsOf 69 = .ok (.ireturn, 1) := by decide +kernel
theorem dX9_seam_0 : decode cX9_seam 0 = .ok (.iload_n 1, 1) := by decide +kernel
theorem dX9_seam_1 : decode cX9_seam 1 = .ok (.iconst (-1), 1) := by decide +kernel
theorem dX9_seam_2 : decode cX9_seam 2 = .ok (.if_icmp .eq 12, 3) := by decide +kernel
theorem dX9_seam_5 : decode cX9_seam 5 = .ok (.iload_n 1, 1) := by decide +kernel
theorem dX9_seam_6 : decode cX9_seam 6 = .ok (.iload_n 0, 1) := by decide +kernel
theorem dX9_seam_7 : decode cX9_seam 7 = .ok (.if_icmp .eq 7, 3) := by decide +kernel
theorem dX9_seam_10 : decode cX9_seam 10 = .ok (.iconst 1, 1) := by decide +kernel
theorem dX9_seam_11 : decode cX9_seam 11 = .ok (.goto 4, 3) := by decide +kernel
theorem dX9_seam_14 : decode cX9_seam 14 = .ok (.iconst 0, 1) := by decide +kernel
theorem dX9_seam_15 : decode cX9_seam 15 = .ok (.ireturn, 1) := by decide +kernel
theorem dX10_lies_0 : decode cX10_lies 0 = .ok (.iload_n 0, 1) := by decide +kernel
theorem dX10_lies_1 : decode cX10_lies 1 = .ok (.iload_n 1, 1) := by decide +kernel
theorem dX10_lies_2 : decode cX10_lies 2 = .ok (.if_icmp .lt 12, 3) := by decide +kernel
theorem dX10_lies_5 : decode cX10_lies 5 = .ok (.iload_n 0, 1) := by decide +kernel
theorem dX10_lies_6 : decode cX10_lies 6 = .ok (.iload_n 2, 1) := by decide +kernel
theorem dX10_lies_7 : decode cX10_lies 7 = .ok (.if_icmp .gt 7, 3) := by decide +kernel
theorem dX10_lies_10 : decode cX10_lies 10 = .ok (.iconst 1, 1) := by decide +kernel
theorem dX10_lies_11 : decode cX10_lies 11 = .ok (.goto 4, 3) := by decide +kernel
theorem dX10_lies_14 : decode cX10_lies 14 = .ok (.iconst 0, 1) := by decide +kernel
theorem dX10_lies_15 : decode cX10_lies 15 = .ok (.ireturn, 1) := by decide +kernel
theorem dX10_refuses_0 : decode cX10_refuses 0 = .ok (.aload_n 0, 1) := by decide +kernel
theorem dX10_refuses_1 : decode cX10_refuses 1 = .ok (.iload_n 1, 1) := by decide +kernel
theorem dX10_refuses_2 : decode cX10_refuses 2 = .ok (.putfield 3, 3) := by decide +kernel
theorem dX10_refuses_5 : decode cX10_refuses 5 = .ok (.aload_n 0, 1) := by decide +kernel
theorem dX10_refuses_6 : decode cX10_refuses 6 = .ok (.getfield 7, 3) := by decide +kernel
theorem dX10_refuses_9 : decode cX10_refuses 9 = .ok (.iload_n 1, 1) := by decide +kernel
theorem dX10_refuses_10 : decode cX10_refuses 10 = .ok (.ineg, 1) := by decide +kernel
theorem dX10_refuses_11 : decode cX10_refuses 11 = .ok (.dup2, 1) := by decide +kernel
theorem dX10_refuses_12 : decode cX10_refuses 12 = .ok (.iaload, 1) := by decide +kernel
theorem dX10_refuses_13 : decode cX10_refuses 13 = .ok (.iconst 1, 1) := by decide +kernel
theorem dX10_refuses_14 : decode cX10_refuses 14 = .ok (.iadd, 1) := by decide +kernel
theorem dX10_refuses_15 : decode cX10_refuses 15 = .ok (.iastore, 1) := by decide +kernel
theorem dX10_refuses_16 : decode cX10_refuses 16 = .ok (.iload_n 1, 1) := by decide +kernel
theorem dX10_refuses_17 : decode cX10_refuses 17 = .ok (.ireturn, 1) := by decide +kernel
theorem dX10_good_0 : decode cX10_good 0 = .ok (.aload_n 0, 1) := by decide +kernel
theorem dX10_good_1 : decode cX10_good 1 = .ok (.iconst 0, 1) := by decide +kernel
theorem dX10_good_2 : decode cX10_good 2 = .ok (.putfield 3, 3) := by decide +kernel
theorem dX10_good_5 : decode cX10_good 5 = .ok (.iload_n 1, 1) := by decide +kernel
theorem dX10_good_6 : decode cX10_good 6 = .ok (.ireturn, 1) := by decide +kernel
theorem dX10_ones_0 : decode cX10_ones 0 = .ok (.iconst 0, 1) := by decide +kernel
theorem dX10_ones_1 : decode cX10_ones 1 = .ok (.istore_n 1, 1) := by decide +kernel
theorem dX10_ones_2 : decode cX10_ones 2 = .ok (.iconst 0, 1) := by decide +kernel
theorem dX10_ones_3 : decode cX10_ones 3 = .ok (.istore_n 2, 1) := by decide +kernel
theorem dX10_ones_4 : decode cX10_ones 4 = .ok (.iload_n 2, 1) := by decide +kernel
theorem dX10_ones_5 : decode cX10_ones 5 = .ok (.bipush 10, 2) := by decide +kernel
theorem dX10_ones_7 : decode cX10_ones 7 = .ok (.if_icmp .ge 17, 3) := by decide +kernel
theorem dX10_ones_10 : decode cX10_ones 10 = .ok (.iload_n 1, 1) := by decide +kernel
theorem dX10_ones_11 : decode cX10_ones 11 = .ok (.iload_n 0, 1) := by decide +kernel
theorem dX10_ones_12 : decode cX10_ones 12 = .ok (.iload_n 2, 1) := by decide +kernel
theorem dX10_ones_13 : decode cX10_ones 13 = .ok (.ishr, 1) := by decide +kernel
theorem dX10_ones_14 : decode cX10_ones 14 = .ok (.iconst 1, 1) := by decide +kernel
theorem dX10_ones_15 : decode cX10_ones 15 = .ok (.iand, 1) := by decide +kernel
theorem dX10_ones_16 : decode cX10_ones 16 = .ok (.iadd, 1) := by decide +kernel
theorem dX10_ones_17 : decode cX10_ones 17 = .ok (.istore_n 1, 1) := by decide +kernel
theorem dX10_ones_18 : decode cX10_ones 18 = .ok (.iinc 2 1, 3) := by decide +kernel
theorem dX10_ones_21 : decode cX10_ones 21 = .ok (.goto (-17), 3) := by decide +kernel
theorem dX10_ones_24 : decode cX10_ones 24 = .ok (.iload_n 1, 1) := by decide +kernel
theorem dX10_ones_25 : decode cX10_ones 25 = .ok (.ireturn, 1) := by decide +kernel
theorem dX10_init_0 : decode cX10_init 0 = .ok (.aload_n 0, 1) := by decide +kernel
theorem dX10_init_1 : decode cX10_init 1 = .ok (.invokespecial 11, 3) := by decide +kernel
theorem dX10_init_4 : decode cX10_init 4 = .ok (.aload_n 0, 1) := by decide +kernel
theorem dX10_init_5 : decode cX10_init 5 = .ok (.bipush 7, 2) := by decide +kernel
theorem dX10_init_7 : decode cX10_init 7 = .ok (.newarray .int, 2) := by decide +kernel
theorem dX10_init_9 : decode cX10_init 9 = .ok (.putfield 7, 3) := by decide +kernel
theorem dX10_init_12 : decode cX10_init 12 = .ok (.aload_n 0, 1) := by decide +kernel
theorem dX10_init_13 : decode cX10_init 13 = .ok (.sipush 4987, 3) := by decide +kernel
theorem dX10_init_16 : decode cX10_init 16 = .ok (.newarray .int, 2) := by decide +kernel
theorem dX10_init_18 : decode cX10_init 18 = .ok (.putfield 17, 3) := by decide +kernel
theorem dX10_init_21 : decode cX10_init 21 = .ok (.aload_n 0, 1) := by decide +kernel
theorem dX10_init_22 : decode cX10_init 22 = .ok (.sipush 9974, 3) := by decide +kernel
theorem dX10_init_25 : decode cX10_init 25 = .ok (.newarray .int, 2) := by decide +kernel
theorem dX10_init_27 : decode cX10_init 27 = .ok (.putfield 20, 3) := by decide +kernel
theorem dX10_init_30 : decode cX10_init 30 = .ok (.aload_n 0, 1) := by decide +kernel
theorem dX10_init_31 : decode cX10_init 31 = .ok (.iconst 2, 1) := by decide +kernel
theorem dX10_init_32 : decode cX10_init 32 = .ok (.newarray .boolean, 2) := by decide +kernel
theorem dX10_init_34 : decode cX10_init 34 = .ok (.putfield 23, 3) := by decide +kernel
theorem dX10_init_37 : decode cX10_init 37 = .ok (.aload_n 0, 1) := by decide +kernel
theorem dX10_init_38 : decode cX10_init 38 = .ok (.bipush 64, 2) := by decide +kernel
theorem dX10_init_40 : decode cX10_init 40 = .ok (.newarray .byte, 2) := by decide +kernel
theorem dX10_init_42 : decode cX10_init 42 = .ok (.dup, 1) := by decide +kernel
theorem dX10_init_43 : decode cX10_init 43 = .ok (.iconst 0, 1) := by decide +kernel
theorem dX10_init_44 : decode cX10_init 44 = .ok (.bipush 119, 2) := by decide +kernel
theorem dX10_init_46 : decode cX10_init 46 = .ok (.bastore, 1) := by decide +kernel
theorem dX10_init_47 : decode cX10_init 47 = .ok (.dup, 1) := by decide +kernel
theorem dX10_init_48 : decode cX10_init 48 = .ok (.iconst 1, 1) := by decide +kernel
theorem dX10_init_49 : decode cX10_init 49 = .ok (.bipush 101, 2) := by decide +kernel
theorem dX10_init_51 : decode cX10_init 51 = .ok (.bastore, 1) := by decide +kernel
theorem dX10_init_52 : decode cX10_init 52 = .ok (.dup, 1) := by decide +kernel
theorem dX10_init_53 : decode cX10_init 53 = .ok (.iconst 2, 1) := by decide +kernel
theorem dX10_init_54 : decode cX10_init 54 = .ok (.bipush 97, 2) := by decide +kernel
theorem dX10_init_56 : decode cX10_init 56 = .ok (.bastore, 1) := by decide +kernel
theorem dX10_init_57 : decode cX10_init 57 = .ok (.dup, 1) := by decide +kernel
theorem dX10_init_58 : decode cX10_init 58 = .ok (.iconst 3, 1) := by decide +kernel
theorem dX10_init_59 : decode cX10_init 59 = .ok (.bipush 118, 2) := by decide +kernel
theorem dX10_init_61 : decode cX10_init 61 = .ok (.bastore, 1) := by decide +kernel
theorem dX10_init_62 : decode cX10_init 62 = .ok (.dup, 1) := by decide +kernel
theorem dX10_init_63 : decode cX10_init 63 = .ok (.iconst 4, 1) := by decide +kernel
theorem dX10_init_64 : decode cX10_init 64 = .ok (.bipush 101, 2) := by decide +kernel
theorem dX10_init_66 : decode cX10_init 66 = .ok (.bastore, 1) := by decide +kernel
theorem dX10_init_67 : decode cX10_init 67 = .ok (.dup, 1) := by decide +kernel
theorem dX10_init_68 : decode cX10_init 68 = .ok (.iconst 5, 1) := by decide +kernel
theorem dX10_init_69 : decode cX10_init 69 = .ok (.bipush 115, 2) := by decide +kernel
theorem dX10_init_71 : decode cX10_init 71 = .ok (.bastore, 1) := by decide +kernel
theorem dX10_init_72 : decode cX10_init 72 = .ok (.dup, 1) := by decide +kernel
theorem dX10_init_73 : decode cX10_init 73 = .ok (.bipush 6, 2) := by decide +kernel
theorem dX10_init_75 : decode cX10_init 75 = .ok (.bipush 32, 2) := by decide +kernel
theorem dX10_init_77 : decode cX10_init 77 = .ok (.bastore, 1) := by decide +kernel
theorem dX10_init_78 : decode cX10_init 78 = .ok (.dup, 1) := by decide +kernel
theorem dX10_init_79 : decode cX10_init 79 = .ok (.bipush 7, 2) := by decide +kernel
theorem dX10_init_81 : decode cX10_init 81 = .ok (.bipush 105, 2) := by decide +kernel
theorem dX10_init_83 : decode cX10_init 83 = .ok (.bastore, 1) := by decide +kernel
theorem dX10_init_84 : decode cX10_init 84 = .ok (.dup, 1) := by decide +kernel
theorem dX10_init_85 : decode cX10_init 85 = .ok (.bipush 8, 2) := by decide +kernel
theorem dX10_init_87 : decode cX10_init 87 = .ok (.bipush 102, 2) := by decide +kernel
theorem dX10_init_89 : decode cX10_init 89 = .ok (.bastore, 1) := by decide +kernel
theorem dX10_init_90 : decode cX10_init 90 = .ok (.dup, 1) := by decide +kernel
theorem dX10_init_91 : decode cX10_init 91 = .ok (.bipush 9, 2) := by decide +kernel
theorem dX10_init_93 : decode cX10_init 93 = .ok (.bipush 32, 2) := by decide +kernel
theorem dX10_init_95 : decode cX10_init 95 = .ok (.bastore, 1) := by decide +kernel
theorem dX10_init_96 : decode cX10_init 96 = .ok (.dup, 1) := by decide +kernel
theorem dX10_init_97 : decode cX10_init 97 = .ok (.bipush 10, 2) := by decide +kernel
theorem dX10_init_99 : decode cX10_init 99 = .ok (.bipush 111, 2) := by decide +kernel
theorem dX10_init_101 : decode cX10_init 101 = .ok (.bastore, 1) := by decide +kernel
theorem dX10_init_102 : decode cX10_init 102 = .ok (.dup, 1) := by decide +kernel
theorem dX10_init_103 : decode cX10_init 103 = .ok (.bipush 11, 2) := by decide +kernel
theorem dX10_init_105 : decode cX10_init 105 = .ok (.bipush 114, 2) := by decide +kernel
theorem dX10_init_107 : decode cX10_init 107 = .ok (.bastore, 1) := by decide +kernel
theorem dX10_init_108 : decode cX10_init 108 = .ok (.dup, 1) := by decide +kernel
theorem dX10_init_109 : decode cX10_init 109 = .ok (.bipush 12, 2) := by decide +kernel
theorem dX10_init_111 : decode cX10_init 111 = .ok (.bipush 32, 2) := by decide +kernel
theorem dX10_init_113 : decode cX10_init 113 = .ok (.bastore, 1) := by decide +kernel
theorem dX10_init_114 : decode cX10_init 114 = .ok (.dup, 1) := by decide +kernel
theorem dX10_init_115 : decode cX10_init 115 = .ok (.bipush 13, 2) := by decide +kernel
theorem dX10_init_117 : decode cX10_init 117 = .ok (.bipush 97, 2) := by decide +kernel
theorem dX10_init_119 : decode cX10_init 119 = .ok (.bastore, 1) := by decide +kernel
theorem dX10_init_120 : decode cX10_init 120 = .ok (.dup, 1) := by decide +kernel
theorem dX10_init_121 : decode cX10_init 121 = .ok (.bipush 14, 2) := by decide +kernel
theorem dX10_init_123 : decode cX10_init 123 = .ok (.bipush 110, 2) := by decide +kernel
theorem dX10_init_125 : decode cX10_init 125 = .ok (.bastore, 1) := by decide +kernel
theorem dX10_init_126 : decode cX10_init 126 = .ok (.dup, 1) := by decide +kernel
theorem dX10_init_127 : decode cX10_init 127 = .ok (.bipush 15, 2) := by decide +kernel
theorem dX10_init_129 : decode cX10_init 129 = .ok (.bipush 100, 2) := by decide +kernel
theorem dX10_init_131 : decode cX10_init 131 = .ok (.bastore, 1) := by decide +kernel
theorem dX10_init_132 : decode cX10_init 132 = .ok (.dup, 1) := by decide +kernel
theorem dX10_init_133 : decode cX10_init 133 = .ok (.bipush 16, 2) := by decide +kernel
theorem dX10_init_135 : decode cX10_init 135 = .ok (.bipush 32, 2) := by decide +kernel
theorem dX10_init_137 : decode cX10_init 137 = .ok (.bastore, 1) := by decide +kernel
theorem dX10_init_138 : decode cX10_init 138 = .ok (.dup, 1) := by decide +kernel
theorem dX10_init_139 : decode cX10_init 139 = .ok (.bipush 17, 2) := by decide +kernel
theorem dX10_init_141 : decode cX10_init 141 = .ok (.bipush 110, 2) := by decide +kernel
theorem dX10_init_143 : decode cX10_init 143 = .ok (.bastore, 1) := by decide +kernel
theorem dX10_init_144 : decode cX10_init 144 = .ok (.dup, 1) := by decide +kernel
theorem dX10_init_145 : decode cX10_init 145 = .ok (.bipush 18, 2) := by decide +kernel
theorem dX10_init_147 : decode cX10_init 147 = .ok (.bipush 111, 2) := by decide +kernel
theorem dX10_init_149 : decode cX10_init 149 = .ok (.bastore, 1) := by decide +kernel
theorem dX10_init_150 : decode cX10_init 150 = .ok (.dup, 1) := by decide +kernel
theorem dX10_init_151 : decode cX10_init 151 = .ok (.bipush 19, 2) := by decide +kernel
theorem dX10_init_153 : decode cX10_init 153 = .ok (.bipush 116, 2) := by decide +kernel
theorem dX10_init_155 : decode cX10_init 155 = .ok (.bastore, 1) := by decide +kernel
theorem dX10_init_156 : decode cX10_init 156 = .ok (.dup, 1) := by decide +kernel
theorem dX10_init_157 : decode cX10_init 157 = .ok (.bipush 20, 2) := by decide +kernel
theorem dX10_init_159 : decode cX10_init 159 = .ok (.bipush 32, 2) := by decide +kernel
theorem dX10_init_161 : decode cX10_init 161 = .ok (.bastore, 1) := by decide +kernel
theorem dX10_init_162 : decode cX10_init 162 = .ok (.dup, 1) := by decide +kernel
theorem dX10_init_163 : decode cX10_init 163 = .ok (.bipush 21, 2) := by decide +kernel
theorem dX10_init_165 : decode cX10_init 165 = .ok (.bipush 120, 2) := by decide +kernel
theorem dX10_init_167 : decode cX10_init 167 = .ok (.bastore, 1) := by decide +kernel
theorem dX10_init_168 : decode cX10_init 168 = .ok (.dup, 1) := by decide +kernel
theorem dX10_init_169 : decode cX10_init 169 = .ok (.bipush 22, 2) := by decide +kernel
theorem dX10_init_171 : decode cX10_init 171 = .ok (.bipush 32, 2) := by decide +kernel
theorem dX10_init_173 : decode cX10_init 173 = .ok (.bastore, 1) := by decide +kernel
theorem dX10_init_174 : decode cX10_init 174 = .ok (.dup, 1) := by decide +kernel
theorem dX10_init_175 : decode cX10_init 175 = .ok (.bipush 23, 2) := by decide +kernel
theorem dX10_init_177 : decode cX10_init 177 = .ok (.bipush 121, 2) := by decide +kernel
theorem dX10_init_179 : decode cX10_init 179 = .ok (.bastore, 1) := by decide +kernel
theorem dX10_init_180 : decode cX10_init 180 = .ok (.dup, 1) := by decide +kernel
theorem dX10_init_181 : decode cX10_init 181 = .ok (.bipush 24, 2) := by decide +kernel
theorem dX10_init_183 : decode cX10_init 183 = .ok (.bipush 32, 2) := by decide +kernel
theorem dX10_init_185 : decode cX10_init 185 = .ok (.bastore, 1) := by decide +kernel
theorem dX10_init_186 : decode cX10_init 186 = .ok (.dup, 1) := by decide +kernel
theorem dX10_init_187 : decode cX10_init 187 = .ok (.bipush 25, 2) := by decide +kernel
theorem dX10_init_189 : decode cX10_init 189 = .ok (.bipush 118, 2) := by decide +kernel
theorem dX10_init_191 : decode cX10_init 191 = .ok (.bastore, 1) := by decide +kernel
theorem dX10_init_192 : decode cX10_init 192 = .ok (.dup, 1) := by decide +kernel
theorem dX10_init_193 : decode cX10_init 193 = .ok (.bipush 26, 2) := by decide +kernel
theorem dX10_init_195 : decode cX10_init 195 = .ok (.bipush 105, 2) := by decide +kernel
theorem dX10_init_197 : decode cX10_init 197 = .ok (.bastore, 1) := by decide +kernel
theorem dX10_init_198 : decode cX10_init 198 = .ok (.dup, 1) := by decide +kernel
theorem dX10_init_199 : decode cX10_init 199 = .ok (.bipush 27, 2) := by decide +kernel
theorem dX10_init_201 : decode cX10_init 201 = .ok (.bipush 108, 2) := by decide +kernel
theorem dX10_init_203 : decode cX10_init 203 = .ok (.bastore, 1) := by decide +kernel
theorem dX10_init_204 : decode cX10_init 204 = .ok (.dup, 1) := by decide +kernel
theorem dX10_init_205 : decode cX10_init 205 = .ok (.bipush 28, 2) := by decide +kernel
theorem dX10_init_207 : decode cX10_init 207 = .ok (.bipush 108, 2) := by decide +kernel
theorem dX10_init_209 : decode cX10_init 209 = .ok (.bastore, 1) := by decide +kernel
theorem dX10_init_210 : decode cX10_init 210 = .ok (.dup, 1) := by decide +kernel
theorem dX10_init_211 : decode cX10_init 211 = .ok (.bipush 29, 2) := by decide +kernel
theorem dX10_init_213 : decode cX10_init 213 = .ok (.bipush 97, 2) := by decide +kernel
theorem dX10_init_215 : decode cX10_init 215 = .ok (.bastore, 1) := by decide +kernel
theorem dX10_init_216 : decode cX10_init 216 = .ok (.dup, 1) := by decide +kernel
theorem dX10_init_217 : decode cX10_init 217 = .ok (.bipush 30, 2) := by decide +kernel
theorem dX10_init_219 : decode cX10_init 219 = .ok (.bipush 103, 2) := by decide +kernel
theorem dX10_init_221 : decode cX10_init 221 = .ok (.bastore, 1) := by decide +kernel
theorem dX10_init_222 : decode cX10_init 222 = .ok (.dup, 1) := by decide +kernel
theorem dX10_init_223 : decode cX10_init 223 = .ok (.bipush 31, 2) := by decide +kernel
theorem dX10_init_225 : decode cX10_init 225 = .ok (.bipush 101, 2) := by decide +kernel
theorem dX10_init_227 : decode cX10_init 227 = .ok (.bastore, 1) := by decide +kernel
theorem dX10_init_228 : decode cX10_init 228 = .ok (.dup, 1) := by decide +kernel
theorem dX10_init_229 : decode cX10_init 229 = .ok (.bipush 32, 2) := by decide +kernel
theorem dX10_init_231 : decode cX10_init 231 = .ok (.bipush 32, 2) := by decide +kernel
theorem dX10_init_233 : decode cX10_init 233 = .ok (.bastore, 1) := by decide +kernel
theorem dX10_init_234 : decode cX10_init 234 = .ok (.dup, 1) := by decide +kernel
theorem dX10_init_235 : decode cX10_init 235 = .ok (.bipush 33, 2) := by decide +kernel
theorem dX10_init_237 : decode cX10_init 237 = .ok (.bipush 115, 2) := by decide +kernel
theorem dX10_init_239 : decode cX10_init 239 = .ok (.bastore, 1) := by decide +kernel
theorem dX10_init_240 : decode cX10_init 240 = .ok (.dup, 1) := by decide +kernel
theorem dX10_init_241 : decode cX10_init 241 = .ok (.bipush 34, 2) := by decide +kernel
theorem dX10_init_243 : decode cX10_init 243 = .ok (.bipush 101, 2) := by decide +kernel
theorem dX10_init_245 : decode cX10_init 245 = .ok (.bastore, 1) := by decide +kernel
theorem dX10_init_246 : decode cX10_init 246 = .ok (.dup, 1) := by decide +kernel
theorem dX10_init_247 : decode cX10_init 247 = .ok (.bipush 35, 2) := by decide +kernel
theorem dX10_init_249 : decode cX10_init 249 = .ok (.bipush 101, 2) := by decide +kernel
theorem dX10_init_251 : decode cX10_init 251 = .ok (.bastore, 1) := by decide +kernel
theorem dX10_init_252 : decode cX10_init 252 = .ok (.dup, 1) := by decide +kernel
theorem dX10_init_253 : decode cX10_init 253 = .ok (.bipush 36, 2) := by decide +kernel
theorem dX10_init_255 : decode cX10_init 255 = .ok (.bipush 110, 2) := by decide +kernel
theorem dX10_init_257 : decode cX10_init 257 = .ok (.bastore, 1) := by decide +kernel
theorem dX10_init_258 : decode cX10_init 258 = .ok (.dup, 1) := by decide +kernel
theorem dX10_init_259 : decode cX10_init 259 = .ok (.bipush 37, 2) := by decide +kernel
theorem dX10_init_261 : decode cX10_init 261 = .ok (.bipush 32, 2) := by decide +kernel
theorem dX10_init_263 : decode cX10_init 263 = .ok (.bastore, 1) := by decide +kernel
theorem dX10_init_264 : decode cX10_init 264 = .ok (.dup, 1) := by decide +kernel
theorem dX10_init_265 : decode cX10_init 265 = .ok (.bipush 38, 2) := by decide +kernel
theorem dX10_init_267 : decode cX10_init 267 = .ok (.bipush 119, 2) := by decide +kernel
theorem dX10_init_269 : decode cX10_init 269 = .ok (.bastore, 1) := by decide +kernel
theorem dX10_init_270 : decode cX10_init 270 = .ok (.dup, 1) := by decide +kernel
theorem dX10_init_271 : decode cX10_init 271 = .ok (.bipush 39, 2) := by decide +kernel
theorem dX10_init_273 : decode cX10_init 273 = .ok (.bipush 97, 2) := by decide +kernel
theorem dX10_init_275 : decode cX10_init 275 = .ok (.bastore, 1) := by decide +kernel
theorem dX10_init_276 : decode cX10_init 276 = .ok (.dup, 1) := by decide +kernel
theorem dX10_init_277 : decode cX10_init 277 = .ok (.bipush 40, 2) := by decide +kernel
theorem dX10_init_279 : decode cX10_init 279 = .ok (.bipush 115, 2) := by decide +kernel
theorem dX10_init_281 : decode cX10_init 281 = .ok (.bastore, 1) := by decide +kernel
theorem dX10_init_282 : decode cX10_init 282 = .ok (.dup, 1) := by decide +kernel
theorem dX10_init_283 : decode cX10_init 283 = .ok (.bipush 41, 2) := by decide +kernel
theorem dX10_init_285 : decode cX10_init 285 = .ok (.bipush 32, 2) := by decide +kernel
theorem dX10_init_287 : decode cX10_init 287 = .ok (.bastore, 1) := by decide +kernel
theorem dX10_init_288 : decode cX10_init 288 = .ok (.dup, 1) := by decide +kernel
theorem dX10_init_289 : decode cX10_init 289 = .ok (.bipush 42, 2) := by decide +kernel
theorem dX10_init_291 : decode cX10_init 291 = .ok (.bipush 108, 2) := by decide +kernel
theorem dX10_init_293 : decode cX10_init 293 = .ok (.bastore, 1) := by decide +kernel
theorem dX10_init_294 : decode cX10_init 294 = .ok (.dup, 1) := by decide +kernel
theorem dX10_init_295 : decode cX10_init 295 = .ok (.bipush 43, 2) := by decide +kernel
theorem dX10_init_297 : decode cX10_init 297 = .ok (.bipush 101, 2) := by decide +kernel
theorem dX10_init_299 : decode cX10_init 299 = .ok (.bastore, 1) := by decide +kernel
theorem dX10_init_300 : decode cX10_init 300 = .ok (.dup, 1) := by decide +kernel
theorem dX10_init_301 : decode cX10_init 301 = .ok (.bipush 44, 2) := by decide +kernel
theorem dX10_init_303 : decode cX10_init 303 = .ok (.bipush 102, 2) := by decide +kernel
theorem dX10_init_305 : decode cX10_init 305 = .ok (.bastore, 1) := by decide +kernel
theorem dX10_init_306 : decode cX10_init 306 = .ok (.dup, 1) := by decide +kernel
theorem dX10_init_307 : decode cX10_init 307 = .ok (.bipush 45, 2) := by decide +kernel
theorem dX10_init_309 : decode cX10_init 309 = .ok (.bipush 116, 2) := by decide +kernel
theorem dX10_init_311 : decode cX10_init 311 = .ok (.bastore, 1) := by decide +kernel
theorem dX10_init_312 : decode cX10_init 312 = .ok (.dup, 1) := by decide +kernel
theorem dX10_init_313 : decode cX10_init 313 = .ok (.bipush 46, 2) := by decide +kernel
theorem dX10_init_315 : decode cX10_init 315 = .ok (.bipush 32, 2) := by decide +kernel
theorem dX10_init_317 : decode cX10_init 317 = .ok (.bastore, 1) := by decide +kernel
theorem dX10_init_318 : decode cX10_init 318 = .ok (.dup, 1) := by decide +kernel
theorem dX10_init_319 : decode cX10_init 319 = .ok (.bipush 47, 2) := by decide +kernel
theorem dX10_init_321 : decode cX10_init 321 = .ok (.bipush 97, 2) := by decide +kernel
theorem dX10_init_323 : decode cX10_init 323 = .ok (.bastore, 1) := by decide +kernel
theorem dX10_init_324 : decode cX10_init 324 = .ok (.dup, 1) := by decide +kernel
theorem dX10_init_325 : decode cX10_init 325 = .ok (.bipush 48, 2) := by decide +kernel
theorem dX10_init_327 : decode cX10_init 327 = .ok (.bipush 98, 2) := by decide +kernel
theorem dX10_init_329 : decode cX10_init 329 = .ok (.bastore, 1) := by decide +kernel
theorem dX10_init_330 : decode cX10_init 330 = .ok (.dup, 1) := by decide +kernel
theorem dX10_init_331 : decode cX10_init 331 = .ok (.bipush 49, 2) := by decide +kernel
theorem dX10_init_333 : decode cX10_init 333 = .ok (.bipush 111, 2) := by decide +kernel
theorem dX10_init_335 : decode cX10_init 335 = .ok (.bastore, 1) := by decide +kernel
theorem dX10_init_336 : decode cX10_init 336 = .ok (.dup, 1) := by decide +kernel
theorem dX10_init_337 : decode cX10_init 337 = .ok (.bipush 50, 2) := by decide +kernel
theorem dX10_init_339 : decode cX10_init 339 = .ok (.bipush 118, 2) := by decide +kernel
theorem dX10_init_341 : decode cX10_init 341 = .ok (.bastore, 1) := by decide +kernel
theorem dX10_init_342 : decode cX10_init 342 = .ok (.dup, 1) := by decide +kernel
theorem dX10_init_343 : decode cX10_init 343 = .ok (.bipush 51, 2) := by decide +kernel
theorem dX10_init_345 : decode cX10_init 345 = .ok (.bipush 101, 2) := by decide +kernel
theorem dX10_init_347 : decode cX10_init 347 = .ok (.bastore, 1) := by decide +kernel
theorem dX10_init_348 : decode cX10_init 348 = .ok (.dup, 1) := by decide +kernel
theorem dX10_init_349 : decode cX10_init 349 = .ok (.bipush 52, 2) := by decide +kernel
theorem dX10_init_351 : decode cX10_init 351 = .ok (.bipush 32, 2) := by decide +kernel
theorem dX10_init_353 : decode cX10_init 353 = .ok (.bastore, 1) := by decide +kernel
theorem dX10_init_354 : decode cX10_init 354 = .ok (.dup, 1) := by decide +kernel
theorem dX10_init_355 : decode cX10_init 355 = .ok (.bipush 53, 2) := by decide +kernel
theorem dX10_init_357 : decode cX10_init 357 = .ok (.bipush 116, 2) := by decide +kernel
theorem dX10_init_359 : decode cX10_init 359 = .ok (.bastore, 1) := by decide +kernel
theorem dX10_init_360 : decode cX10_init 360 = .ok (.dup, 1) := by decide +kernel
theorem dX10_init_361 : decode cX10_init 361 = .ok (.bipush 54, 2) := by decide +kernel
theorem dX10_init_363 : decode cX10_init 363 = .ok (.bipush 97, 2) := by decide +kernel
theorem dX10_init_365 : decode cX10_init 365 = .ok (.bastore, 1) := by decide +kernel
theorem dX10_init_366 : decode cX10_init 366 = .ok (.dup, 1) := by decide +kernel
theorem dX10_init_367 : decode cX10_init 367 = .ok (.bipush 55, 2) := by decide +kernel
theorem dX10_init_369 : decode cX10_init 369 = .ok (.bipush 115, 2) := by decide +kernel
theorem dX10_init_371 : decode cX10_init 371 = .ok (.bastore, 1) := by decide +kernel
theorem dX10_init_372 : decode cX10_init 372 = .ok (.dup, 1) := by decide +kernel
theorem dX10_init_373 : decode cX10_init 373 = .ok (.bipush 56, 2) := by decide +kernel
theorem dX10_init_375 : decode cX10_init 375 = .ok (.bipush 116, 2) := by decide +kernel
theorem dX10_init_377 : decode cX10_init 377 = .ok (.bastore, 1) := by decide +kernel
theorem dX10_init_378 : decode cX10_init 378 = .ok (.dup, 1) := by decide +kernel
theorem dX10_init_379 : decode cX10_init 379 = .ok (.bipush 57, 2) := by decide +kernel
theorem dX10_init_381 : decode cX10_init 381 = .ok (.bipush 101, 2) := by decide +kernel
theorem dX10_init_383 : decode cX10_init 383 = .ok (.bastore, 1) := by decide +kernel
theorem dX10_init_384 : decode cX10_init 384 = .ok (.dup, 1) := by decide +kernel
theorem dX10_init_385 : decode cX10_init 385 = .ok (.bipush 58, 2) := by decide +kernel
theorem dX10_init_387 : decode cX10_init 387 = .ok (.bipush 32, 2) := by decide +kernel
theorem dX10_init_389 : decode cX10_init 389 = .ok (.bastore, 1) := by decide +kernel
theorem dX10_init_390 : decode cX10_init 390 = .ok (.dup, 1) := by decide +kernel
theorem dX10_init_391 : decode cX10_init 391 = .ok (.bipush 59, 2) := by decide +kernel
theorem dX10_init_393 : decode cX10_init 393 = .ok (.bipush 121, 2) := by decide +kernel
theorem dX10_init_395 : decode cX10_init 395 = .ok (.bastore, 1) := by decide +kernel
theorem dX10_init_396 : decode cX10_init 396 = .ok (.dup, 1) := by decide +kernel
theorem dX10_init_397 : decode cX10_init 397 = .ok (.bipush 60, 2) := by decide +kernel
theorem dX10_init_399 : decode cX10_init 399 = .ok (.bipush 101, 2) := by decide +kernel
theorem dX10_init_401 : decode cX10_init 401 = .ok (.bastore, 1) := by decide +kernel
theorem dX10_init_402 : decode cX10_init 402 = .ok (.dup, 1) := by decide +kernel
theorem dX10_init_403 : decode cX10_init 403 = .ok (.bipush 61, 2) := by decide +kernel
theorem dX10_init_405 : decode cX10_init 405 = .ok (.bipush 97, 2) := by decide +kernel
theorem dX10_init_407 : decode cX10_init 407 = .ok (.bastore, 1) := by decide +kernel
theorem dX10_init_408 : decode cX10_init 408 = .ok (.dup, 1) := by decide +kernel
theorem dX10_init_409 : decode cX10_init 409 = .ok (.bipush 62, 2) := by decide +kernel
theorem dX10_init_411 : decode cX10_init 411 = .ok (.bipush 114, 2) := by decide +kernel
theorem dX10_init_413 : decode cX10_init 413 = .ok (.bastore, 1) := by decide +kernel
theorem dX10_init_414 : decode cX10_init 414 = .ok (.dup, 1) := by decide +kernel
theorem dX10_init_415 : decode cX10_init 415 = .ok (.bipush 63, 2) := by decide +kernel
theorem dX10_init_417 : decode cX10_init 417 = .ok (.bipush 32, 2) := by decide +kernel
theorem dX10_init_419 : decode cX10_init 419 = .ok (.bastore, 1) := by decide +kernel
theorem dX10_init_420 : decode cX10_init 420 = .ok (.putfield 27, 3) := by decide +kernel
theorem dX10_init_423 : decode cX10_init 423 = .ok (.aload_n 0, 1) := by decide +kernel
theorem dX10_init_424 : decode cX10_init 424 = .ok (.sipush 400, 3) := by decide +kernel
theorem dX10_init_427 : decode cX10_init 427 = .ok (.newarray .byte, 2) := by decide +kernel
theorem dX10_init_429 : decode cX10_init 429 = .ok (.putfield 31, 3) := by decide +kernel
theorem dX10_init_432 : decode cX10_init 432 = .ok (.aload_n 0, 1) := by decide +kernel
theorem dX10_init_433 : decode cX10_init 433 = .ok (.iconst 5, 1) := by decide +kernel
theorem dX10_init_434 : decode cX10_init 434 = .ok (.newarray .int, 2) := by decide +kernel
theorem dX10_init_436 : decode cX10_init 436 = .ok (.putfield 34, 3) := by decide +kernel
theorem dX10_init_439 : decode cX10_init 439 = .ok (.aload_n 0, 1) := by decide +kernel
theorem dX10_init_440 : decode cX10_init 440 = .ok (.iconst (-1), 1) := by decide +kernel
theorem dX10_init_441 : decode cX10_init 441 = .ok (.putfield 37, 3) := by decide +kernel
theorem dX10_init_444 : decode cX10_init 444 = .ok (.aload_n 0, 1) := by decide +kernel
theorem dX10_init_445 : decode cX10_init 445 = .ok (.sipush 401, 3) := by decide +kernel
theorem dX10_init_448 : decode cX10_init 448 = .ok (.newarray .int, 2) := by decide +kernel
theorem dX10_init_450 : decode cX10_init 450 = .ok (.putfield 40, 3) := by decide +kernel
theorem dX10_init_453 : decode cX10_init 453 = .ok (.aload_n 0, 1) := by decide +kernel
theorem dX10_init_454 : decode cX10_init 454 = .ok (.sipush 401, 3) := by decide +kernel
theorem dX10_init_457 : decode cX10_init 457 = .ok (.newarray .int, 2) := by decide +kernel
theorem dX10_init_459 : decode cX10_init 459 = .ok (.putfield 43, 3) := by decide +kernel
theorem dX10_init_462 : decode cX10_init 462 = .ok (.aload_n 0, 1) := by decide +kernel
theorem dX10_init_463 : decode cX10_init 463 = .ok (.sipush 401, 3) := by decide +kernel
theorem dX10_init_466 : decode cX10_init 466 = .ok (.newarray .int, 2) := by decide +kernel
theorem dX10_init_468 : decode cX10_init 468 = .ok (.putfield 46, 3) := by decide +kernel
theorem dX10_init_471 : decode cX10_init 471 = .ok (.aload_n 0, 1) := by decide +kernel
theorem dX10_init_472 : decode cX10_init 472 = .ok (.bipush 9, 2) := by decide +kernel
theorem dX10_init_474 : decode cX10_init 474 = .ok (.newarray .int, 2) := by decide +kernel
theorem dX10_init_476 : decode cX10_init 476 = .ok (.putfield 49, 3) := by decide +kernel
theorem dX10_init_479 : decode cX10_init 479 = .ok (.aload_n 0, 1) := by decide +kernel
theorem dX10_init_480 : decode cX10_init 480 = .ok (.sipush 396, 3) := by decide +kernel
theorem dX10_init_483 : decode cX10_init 483 = .ok (.newarray .int, 2) := by decide +kernel
theorem dX10_init_485 : decode cX10_init 485 = .ok (.putfield 52, 3) := by decide +kernel
theorem dX10_init_488 : decode cX10_init 488 = .ok (.aload_n 0, 1) := by decide +kernel
theorem dX10_init_489 : decode cX10_init 489 = .ok (.sipush 396, 3) := by decide +kernel
theorem dX10_init_492 : decode cX10_init 492 = .ok (.newarray .int, 2) := by decide +kernel
theorem dX10_init_494 : decode cX10_init 494 = .ok (.putfield 55, 3) := by decide +kernel
theorem dX10_init_497 : decode cX10_init 497 = .ok (.aload_n 0, 1) := by decide +kernel
theorem dX10_init_498 : decode cX10_init 498 = .ok (.sipush 396, 3) := by decide +kernel
theorem dX10_init_501 : decode cX10_init 501 = .ok (.newarray .int, 2) := by decide +kernel
theorem dX10_init_503 : decode cX10_init 503 = .ok (.putfield 58, 3) := by decide +kernel
