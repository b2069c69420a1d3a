theorem dX10_init_506 : decode cX10_init 506 = .ok (.aload_n 0, 1) := by decide +kernel
theorem dX10_init_507 : decode cX10_init 507 = .ok (.sipush 396, 3) := by decide +kernel
theorem dX10_init_510 : decode cX10_init 510 = .ok (.newarray .int, 2) := by decide +kernel
theorem dX10_init_512 : decode cX10_init 512 = .ok (.putfield 61, 3) := by decide +kernel
theorem dX10_init_515 : decode cX10_init 515 = .ok (.aload_n 0, 1) := by decide +kernel
theorem dX10_init_516 : decode cX10_init 516 = .ok (.bipush 10, 2) := by decide +kernel
theorem dX10_init_518 : decode cX10_init 518 = .ok (.newarray .int, 2) := by decide +kernel
theorem dX10_init_520 : decode cX10_init 520 = .ok (.putfield 64, 3) := by decide +kernel
theorem dX10_init_523 : decode cX10_init 523 = .ok (.aload_n 0, 1) := by decide +kernel
theorem dX10_init_524 : decode cX10_init 524 = .ok (.iconst 5, 1) := by decide +kernel
theorem dX10_init_525 : decode cX10_init 525 = .ok (.newarray .int, 2) := by decide +kernel
theorem dX10_init_527 : decode cX10_init 527 = .ok (.putfield 67, 3) := by decide +kernel
theorem dX10_init_530 : decode cX10_init 530 = .ok (.aload_n 0, 1) := by decide +kernel
theorem dX10_init_531 : decode cX10_init 531 = .ok (.bipush 36, 2) := by decide +kernel
theorem dX10_init_533 : decode cX10_init 533 = .ok (.newarray .int, 2) := by decide +kernel
theorem dX10_init_535 : decode cX10_init 535 = .ok (.putfield 70, 3) := by decide +kernel
theorem dX10_init_538 : decode cX10_init 538 = .ok (.iconst 0, 1) := by decide +kernel
theorem dX10_init_539 : decode cX10_init 539 = .ok (.istore_n 1, 1) := by decide +kernel
theorem dX10_init_540 : decode cX10_init 540 = .ok (.iload_n 1, 1) := by decide +kernel
theorem dX10_init_541 : decode cX10_init 541 = .ok (.bipush 8, 2) := by decide +kernel
theorem dX10_init_543 : decode cX10_init 543 = .ok (.if_icmp .ge 20, 3) := by decide +kernel
theorem dX10_init_546 : decode cX10_init 546 = .ok (.aload_n 0, 1) := by decide +kernel
theorem dX10_init_547 : decode cX10_init 547 = .ok (.getfield 17, 3) := by decide +kernel
theorem dX10_init_550 : decode cX10_init 550 = .ok (.sipush 168, 3) := by decide +kernel
theorem dX10_init_553 : decode cX10_init 553 = .ok (.iload_n 1, 1) := by decide +kernel
theorem dX10_init_554 : decode cX10_init 554 = .ok (.iadd, 1) := by decide +kernel
theorem dX10_init_555 : decode cX10_init 555 = .ok (.iconst 1, 1) := by decide +kernel
theorem dX10_init_556 : decode cX10_init 556 = .ok (.iastore, 1) := by decide +kernel
theorem dX10_init_557 : decode cX10_init 557 = .ok (.iinc 1 1, 3) := by decide +kernel
theorem dX10_init_560 : decode cX10_init 560 = .ok (.goto (-20), 3) := by decide +kernel
theorem dX10_init_563 : decode cX10_init 563 = .ok (.aload_n 0, 1) := by decide +kernel
theorem dX10_init_564 : decode cX10_init 564 = .ok (.getfield 17, 3) := by decide +kernel
theorem dX10_init_567 : decode cX10_init 567 = .ok (.sipush 176, 3) := by decide +kernel
theorem dX10_init_570 : decode cX10_init 570 = .ok (.bipush 10, 2) := by decide +kernel
theorem dX10_init_572 : decode cX10_init 572 = .ok (.iastore, 1) := by decide +kernel
theorem dX10_init_573 : decode cX10_init 573 = .ok (.aload_n 0, 1) := by decide +kernel
theorem dX10_init_574 : decode cX10_init 574 = .ok (.getfield 17, 3) := by decide +kernel
theorem dX10_init_577 : decode cX10_init 577 = .ok (.sipush 180, 3) := by decide +kernel
theorem dX10_init_580 : decode cX10_init 580 = .ok (.iconst (-1), 1) := by decide +kernel
theorem dX10_init_581 : decode cX10_init 581 = .ok (.iastore, 1) := by decide +kernel
theorem dX10_init_582 : decode cX10_init 582 = .ok (.return_, 1) := by decide +kernel
theorem dX10_image_0 : decode cX10_image 0 = .ok (.iload_n 1, 1) := by decide +kernel
theorem dX10_image_1 : decode cX10_image 1 = .ok (.iconst 0, 1) := by decide +kernel
theorem dX10_image_2 : decode cX10_image 2 = .ok (.iconst 1, 1) := by decide +kernel
theorem dX10_image_3 : decode cX10_image 3 = .ok (.invokestatic 73, 3) := by decide +kernel
theorem dX10_image_6 : decode cX10_image 6 = .ok (.ifCond .ne 9, 3) := by decide +kernel
theorem dX10_image_9 : decode cX10_image 9 = .ok (.aload_n 0, 1) := by decide +kernel
theorem dX10_image_10 : decode cX10_image 10 = .ok (.iconst (-1), 1) := by decide +kernel
theorem dX10_image_11 : decode cX10_image 11 = .ok (.invokevirtual 77, 3) := by decide +kernel
theorem dX10_image_14 : decode cX10_image 14 = .ok (.ireturn, 1) := by decide +kernel
theorem dX10_image_15 : decode cX10_image 15 = .ok (.iconst 0, 1) := by decide +kernel
theorem dX10_image_16 : decode cX10_image 16 = .ok (.istore_n 2, 1) := by decide +kernel
theorem dX10_image_17 : decode cX10_image 17 = .ok (.iload_n 2, 1) := by decide +kernel
theorem dX10_image_18 : decode cX10_image 18 = .ok (.sipush 4987, 3) := by decide +kernel
theorem dX10_image_21 : decode cX10_image 21 = .ok (.if_icmp .ge 27, 3) := by decide +kernel
theorem dX10_image_24 : decode cX10_image 24 = .ok (.aload_n 0, 1) := by decide +kernel
theorem dX10_image_25 : decode cX10_image 25 = .ok (.getfield 20, 3) := by decide +kernel
theorem dX10_image_28 : decode cX10_image 28 = .ok (.sipush 4987, 3) := by decide +kernel
theorem dX10_image_31 : decode cX10_image 31 = .ok (.iload_n 1, 1) := by decide +kernel
theorem dX10_image_32 : decode cX10_image 32 = .ok (.imul, 1) := by decide +kernel
theorem dX10_image_33 : decode cX10_image 33 = .ok (.iload_n 2, 1) := by decide +kernel
theorem dX10_image_34 : decode cX10_image 34 = .ok (.iadd, 1) := by decide +kernel
theorem dX10_image_35 : decode cX10_image 35 = .ok (.aload_n 0, 1) := by decide +kernel
theorem dX10_image_36 : decode cX10_image 36 = .ok (.getfield 17, 3) := by decide +kernel
theorem dX10_image_39 : decode cX10_image 39 = .ok (.iload_n 2, 1) := by decide +kernel
theorem dX10_image_40 : decode cX10_image 40 = .ok (.iaload, 1) := by decide +kernel
theorem dX10_image_41 : decode cX10_image 41 = .ok (.iastore, 1) := by decide +kernel
theorem dX10_image_42 : decode cX10_image 42 = .ok (.iinc 2 1, 3) := by decide +kernel
theorem dX10_image_45 : decode cX10_image 45 = .ok (.goto (-28), 3) := by decide +kernel
theorem dX10_image_48 : decode cX10_image 48 = .ok (.aload_n 0, 1) := by decide +kernel
theorem dX10_image_49 : decode cX10_image 49 = .ok (.getfield 23, 3) := by decide +kernel
theorem dX10_image_52 : decode cX10_image 52 = .ok (.iload_n 1, 1) := by decide +kernel
theorem dX10_image_53 : decode cX10_image 53 = .ok (.iconst 1, 1) := by decide +kernel
theorem dX10_image_54 : decode cX10_image 54 = .ok (.bastore, 1) := by decide +kernel
theorem dX10_image_55 : decode cX10_image 55 = .ok (.aload_n 0, 1) := by decide +kernel
theorem dX10_image_56 : decode cX10_image 56 = .ok (.iconst 0, 1) := by decide +kernel
theorem dX10_image_57 : decode cX10_image 57 = .ok (.invokevirtual 81, 3) := by decide +kernel
theorem dX10_image_60 : decode cX10_image 60 = .ok (.ireturn, 1) := by decide +kernel
theorem dX10_back_0 : decode cX10_back 0 = .ok (.iload_n 1, 1) := by decide +kernel
theorem dX10_back_1 : decode cX10_back 1 = .ok (.iconst 0, 1) := by decide +kernel
theorem dX10_back_2 : decode cX10_back 2 = .ok (.iconst 1, 1) := by decide +kernel
theorem dX10_back_3 : decode cX10_back 3 = .ok (.invokestatic 73, 3) := by decide +kernel
theorem dX10_back_6 : decode cX10_back 6 = .ok (.ifCond .ne 9, 3) := by decide +kernel
theorem dX10_back_9 : decode cX10_back 9 = .ok (.aload_n 0, 1) := by decide +kernel
theorem dX10_back_10 : decode cX10_back 10 = .ok (.iconst (-1), 1) := by decide +kernel
theorem dX10_back_11 : decode cX10_back 11 = .ok (.invokevirtual 77, 3) := by decide +kernel
theorem dX10_back_14 : decode cX10_back 14 = .ok (.ireturn, 1) := by decide +kernel
theorem dX10_back_15 : decode cX10_back 15 = .ok (.aload_n 0, 1) := by decide +kernel
theorem dX10_back_16 : decode cX10_back 16 = .ok (.getfield 23, 3) := by decide +kernel
theorem dX10_back_19 : decode cX10_back 19 = .ok (.iload_n 1, 1) := by decide +kernel
theorem dX10_back_20 : decode cX10_back 20 = .ok (.baload, 1) := by decide +kernel
theorem dX10_back_21 : decode cX10_back 21 = .ok (.ifCond .ne 10, 3) := by decide +kernel
theorem dX10_back_24 : decode cX10_back 24 = .ok (.aload_n 0, 1) := by decide +kernel
theorem dX10_back_25 : decode cX10_back 25 = .ok (.bipush (-2), 2) := by decide +kernel
theorem dX10_back_27 : decode cX10_back 27 = .ok (.invokevirtual 77, 3) := by decide +kernel
theorem dX10_back_30 : decode cX10_back 30 = .ok (.ireturn, 1) := by decide +kernel
theorem dX10_back_31 : decode cX10_back 31 = .ok (.iconst 0, 1) := by decide +kernel
theorem dX10_back_32 : decode cX10_back 32 = .ok (.istore_n 2, 1) := by decide +kernel
theorem dX10_back_33 : decode cX10_back 33 = .ok (.iload_n 2, 1) := by decide +kernel
theorem dX10_back_34 : decode cX10_back 34 = .ok (.sipush 4987, 3) := by decide +kernel
theorem dX10_back_37 : decode cX10_back 37 = .ok (.if_icmp .ge 27, 3) := by decide +kernel
theorem dX10_back_40 : decode cX10_back 40 = .ok (.aload_n 0, 1) := by decide +kernel
theorem dX10_back_41 : decode cX10_back 41 = .ok (.getfield 17, 3) := by decide +kernel
theorem dX10_back_44 : decode cX10_back 44 = .ok (.iload_n 2, 1) := by decide +kernel
theorem dX10_back_45 : decode cX10_back 45 = .ok (.aload_n 0, 1) := by decide +kernel
theorem dX10_back_46 : decode cX10_back 46 = .ok (.getfield 20, 3) := by decide +kernel
theorem dX10_back_49 : decode cX10_back 49 = .ok (.sipush 4987, 3) := by decide +kernel
theorem dX10_back_52 : decode cX10_back 52 = .ok (.iload_n 1, 1) := by decide +kernel
theorem dX10_back_53 : decode cX10_back 53 = .ok (.imul, 1) := by decide +kernel
theorem dX10_back_54 : decode cX10_back 54 = .ok (.iload_n 2, 1) := by decide +kernel
theorem dX10_back_55 : decode cX10_back 55 = .ok (.iadd, 1) := by decide +kernel
theorem dX10_back_56 : decode cX10_back 56 = .ok (.iaload, 1) := by decide +kernel
theorem dX10_back_57 : decode cX10_back 57 = .ok (.iastore, 1) := by decide +kernel
theorem dX10_back_58 : decode cX10_back 58 = .ok (.iinc 2 1, 3) := by decide +kernel
theorem dX10_back_61 : decode cX10_back 61 = .ok (.goto (-28), 3) := by decide +kernel
theorem dX10_back_64 : decode cX10_back 64 = .ok (.aload_n 0, 1) := by decide +kernel
theorem dX10_back_65 : decode cX10_back 65 = .ok (.iconst 0, 1) := by decide +kernel
theorem dX10_back_66 : decode cX10_back 66 = .ok (.invokevirtual 81, 3) := by decide +kernel
theorem dX10_back_69 : decode cX10_back 69 = .ok (.ireturn, 1) := by decide +kernel
theorem dX10_villages_0 : decode cX10_villages 0 = .ok (.aload_n 0, 1) := by decide +kernel
theorem dX10_villages_1 : decode cX10_villages 1 = .ok (.getfield 17, 3) := by decide +kernel
theorem dX10_villages_4 : decode cX10_villages 4 = .ok (.sipush 178, 3) := by decide +kernel
theorem dX10_villages_7 : decode cX10_villages 7 = .ok (.iaload, 1) := by decide +kernel
theorem dX10_villages_8 : decode cX10_villages 8 = .ok (.ireturn, 1) := by decide +kernel
theorem dX10_isVillage_0 : decode cX10_isVillage 0 = .ok (.iload_n 1, 1) := by decide +kernel
theorem dX10_isVillage_1 : decode cX10_isVillage 1 = .ok (.iconst 0, 1) := by decide +kernel
theorem dX10_isVillage_2 : decode cX10_isVillage 2 = .ok (.aload_n 0, 1) := by decide +kernel
theorem dX10_isVillage_3 : decode cX10_isVillage 3 = .ok (.invokevirtual 84, 3) := by decide +kernel
theorem dX10_isVillage_6 : decode cX10_isVillage 6 = .ok (.iconst 1, 1) := by decide +kernel
theorem dX10_isVillage_7 : decode cX10_isVillage 7 = .ok (.isub, 1) := by decide +kernel
theorem dX10_isVillage_8 : decode cX10_isVillage 8 = .ok (.invokestatic 73, 3) := by decide +kernel
theorem dX10_isVillage_11 : decode cX10_isVillage 11 = .ok (.ireturn, 1) := by decide +kernel
theorem dX10_factOf_0 : decode cX10_factOf 0 = .ok (.aload_n 0, 1) := by decide +kernel
theorem dX10_factOf_1 : decode cX10_factOf 1 = .ok (.getfield 17, 3) := by decide +kernel
theorem dX10_factOf_4 : decode cX10_factOf 4 = .ok (.bipush 6, 2) := by decide +kernel
theorem dX10_factOf_6 : decode cX10_factOf 6 = .ok (.iload_n 1, 1) := by decide +kernel
theorem dX10_factOf_7 : decode cX10_factOf 7 = .ok (.imul, 1) := by decide +kernel
theorem dX10_factOf_8 : decode cX10_factOf 8 = .ok (.iload_n 2, 1) := by decide +kernel
theorem dX10_factOf_9 : decode cX10_factOf 9 = .ok (.iadd, 1) := by decide +kernel
theorem dX10_factOf_10 : decode cX10_factOf 10 = .ok (.iaload, 1) := by decide +kernel
theorem dX10_factOf_11 : decode cX10_factOf 11 = .ok (.ireturn, 1) := by decide +kernel
theorem dX10_isHole_0 : decode cX10_isHole 0 = .ok (.iload_n 2, 1) := by decide +kernel
theorem dX10_isHole_1 : decode cX10_isHole 1 = .ok (.iconst 1, 1) := by decide +kernel
theorem dX10_isHole_2 : decode cX10_isHole 2 = .ok (.bipush 6, 2) := by decide +kernel
theorem dX10_isHole_4 : decode cX10_isHole 4 = .ok (.invokestatic 73, 3) := by decide +kernel
theorem dX10_isHole_7 : decode cX10_isHole 7 = .ok (.ifCond .eq 41, 3) := by decide +kernel
theorem dX10_isHole_10 : decode cX10_isHole 10 = .ok (.iload_n 3, 1) := by decide +kernel
theorem dX10_isHole_11 : decode cX10_isHole 11 = .ok (.iconst 1, 1) := by decide +kernel
theorem dX10_isHole_12 : decode cX10_isHole 12 = .ok (.bipush 6, 2) := by decide +kernel
theorem dX10_isHole_14 : decode cX10_isHole 14 = .ok (.invokestatic 73, 3) := by decide +kernel
theorem dX10_isHole_17 : decode cX10_isHole 17 = .ok (.ifCond .eq 31, 3) := by decide +kernel
theorem dX10_isHole_20 : decode cX10_isHole 20 = .ok (.iload_n 0, 1) := by decide +kernel
theorem dX10_isHole_21 : decode cX10_isHole 21 = .ok (.iconst 0, 1) := by decide +kernel
theorem dX10_isHole_22 : decode cX10_isHole 22 = .ok (.bipush 6, 2) := by decide +kernel
theorem dX10_isHole_24 : decode cX10_isHole 24 = .ok (.iload_n 2, 1) := by decide +kernel
theorem dX10_isHole_25 : decode cX10_isHole 25 = .ok (.isub, 1) := by decide +kernel
theorem dX10_isHole_26 : decode cX10_isHole 26 = .ok (.invokestatic 73, 3) := by decide +kernel
theorem dX10_isHole_29 : decode cX10_isHole 29 = .ok (.ifCond .eq 19, 3) := by decide +kernel
theorem dX10_isHole_32 : decode cX10_isHole 32 = .ok (.iload_n 1, 1) := by decide +kernel
theorem dX10_isHole_33 : decode cX10_isHole 33 = .ok (.iconst 0, 1) := by decide +kernel
theorem dX10_isHole_34 : decode cX10_isHole 34 = .ok (.bipush 6, 2) := by decide +kernel
theorem dX10_isHole_36 : decode cX10_isHole 36 = .ok (.iload_n 3, 1) := by decide +kernel
theorem dX10_isHole_37 : decode cX10_isHole 37 = .ok (.isub, 1) := by decide +kernel
theorem dX10_isHole_38 : decode cX10_isHole 38 = .ok (.invokestatic 73, 3) := by decide +kernel
theorem dX10_isHole_41 : decode cX10_isHole 41 = .ok (.ifCond .eq 7, 3) := by decide +kernel
theorem dX10_isHole_44 : decode cX10_isHole 44 = .ok (.iconst 1, 1) := by decide +kernel
theorem dX10_isHole_45 : decode cX10_isHole 45 = .ok (.goto 4, 3) := by decide +kernel
theorem dX10_isHole_48 : decode cX10_isHole 48 = .ok (.iconst 0, 1) := by decide +kernel
theorem dX10_isHole_49 : decode cX10_isHole 49 = .ok (.ireturn, 1) := by decide +kernel
theorem dX10_cuts_0 : decode cX10_cuts 0 = .ok (.aload_n 0, 1) := by decide +kernel
theorem dX10_cuts_1 : decode cX10_cuts 1 = .ok (.getfield 17, 3) := by decide +kernel
theorem dX10_cuts_4 : decode cX10_cuts 4 = .ok (.bipush 6, 2) := by decide +kernel
theorem dX10_cuts_6 : decode cX10_cuts 6 = .ok (.iload_n 1, 1) := by decide +kernel
theorem dX10_cuts_7 : decode cX10_cuts 7 = .ok (.imul, 1) := by decide +kernel
theorem dX10_cuts_8 : decode cX10_cuts 8 = .ok (.iload_n 2, 1) := by decide +kernel
theorem dX10_cuts_9 : decode cX10_cuts 9 = .ok (.iastore, 1) := by decide +kernel
theorem dX10_cuts_10 : decode cX10_cuts 10 = .ok (.aload_n 0, 1) := by decide +kernel
theorem dX10_cuts_11 : decode cX10_cuts 11 = .ok (.getfield 17, 3) := by decide +kernel
theorem dX10_cuts_14 : decode cX10_cuts 14 = .ok (.bipush 6, 2) := by decide +kernel
theorem dX10_cuts_16 : decode cX10_cuts 16 = .ok (.iload_n 1, 1) := by decide +kernel
theorem dX10_cuts_17 : decode cX10_cuts 17 = .ok (.imul, 1) := by decide +kernel
theorem dX10_cuts_18 : decode cX10_cuts 18 = .ok (.iconst 1, 1) := by decide +kernel
theorem dX10_cuts_19 : decode cX10_cuts 19 = .ok (.iadd, 1) := by decide +kernel
theorem dX10_cuts_20 : decode cX10_cuts 20 = .ok (.iload_n 3, 1) := by decide +kernel
theorem dX10_cuts_21 : decode cX10_cuts 21 = .ok (.iastore, 1) := by decide +kernel
theorem dX10_cuts_22 : decode cX10_cuts 22 = .ok (.aload_n 0, 1) := by decide +kernel
theorem dX10_cuts_23 : decode cX10_cuts 23 = .ok (.getfield 17, 3) := by decide +kernel
theorem dX10_cuts_26 : decode cX10_cuts 26 = .ok (.bipush 6, 2) := by decide +kernel
theorem dX10_cuts_28 : decode cX10_cuts 28 = .ok (.iload_n 1, 1) := by decide +kernel
theorem dX10_cuts_29 : decode cX10_cuts 29 = .ok (.imul, 1) := by decide +kernel
theorem dX10_cuts_30 : decode cX10_cuts 30 = .ok (.iconst 2, 1) := by decide +kernel
theorem dX10_cuts_31 : decode cX10_cuts 31 = .ok (.iadd, 1) := by decide +kernel
theorem dX10_cuts_32 : decode cX10_cuts 32 = .ok (.iload 4, 2) := by decide +kernel
theorem dX10_cuts_34 : decode cX10_cuts 34 = .ok (.iastore, 1) := by decide +kernel
theorem dX10_cuts_35 : decode cX10_cuts 35 = .ok (.aload_n 0, 1) := by decide +kernel
theorem dX10_cuts_36 : decode cX10_cuts 36 = .ok (.getfield 17, 3) := by decide +kernel
theorem dX10_cuts_39 : decode cX10_cuts 39 = .ok (.bipush 6, 2) := by decide +kernel
theorem dX10_cuts_41 : decode cX10_cuts 41 = .ok (.iload_n 1, 1) := by decide +kernel
theorem dX10_cuts_42 : decode cX10_cuts 42 = .ok (.imul, 1) := by decide +kernel
theorem dX10_cuts_43 : decode cX10_cuts 43 = .ok (.iconst 3, 1) := by decide +kernel
theorem dX10_cuts_44 : decode cX10_cuts 44 = .ok (.iadd, 1) := by decide +kernel
theorem dX10_cuts_45 : decode cX10_cuts 45 = .ok (.iload 5, 2) := by decide +kernel
theorem dX10_cuts_47 : decode cX10_cuts 47 = .ok (.iastore, 1) := by decide +kernel
theorem dX10_cuts_48 : decode cX10_cuts 48 = .ok (.return_, 1) := by decide +kernel
theorem dX10_village_0 : decode cX10_village 0 = .ok (.iload_n 1, 1) := by decide +kernel
theorem dX10_village_1 : decode cX10_village 1 = .ok (.iload_n 2, 1) := by decide +kernel
theorem dX10_village_2 : decode cX10_village 2 = .ok (.iload_n 3, 1) := by decide +kernel
theorem dX10_village_3 : decode cX10_village 3 = .ok (.iload 4, 2) := by decide +kernel
theorem dX10_village_5 : decode cX10_village 5 = .ok (.invokestatic 88, 3) := by decide +kernel
theorem dX10_village_8 : decode cX10_village 8 = .ok (.ifCond .ne 9, 3) := by decide +kernel
theorem dX10_village_11 : decode cX10_village 11 = .ok (.aload_n 0, 1) := by decide +kernel
theorem dX10_village_12 : decode cX10_village 12 = .ok (.iconst (-1), 1) := by decide +kernel
theorem dX10_village_13 : decode cX10_village 13 = .ok (.invokevirtual 77, 3) := by decide +kernel
theorem dX10_village_16 : decode cX10_village 16 = .ok (.ireturn, 1) := by decide +kernel
theorem dX10_village_17 : decode cX10_village 17 = .ok (.aload_n 0, 1) := by decide +kernel
theorem dX10_village_18 : decode cX10_village 18 = .ok (.invokevirtual 84, 3) := by decide +kernel
theorem dX10_village_21 : decode cX10_village 21 = .ok (.istore 5, 2) := by decide +kernel
theorem dX10_village_23 : decode cX10_village 23 = .ok (.iload 5, 2) := by decide +kernel
theorem dX10_village_25 : decode cX10_village 25 = .ok (.bipush 10, 2) := by decide +kernel
theorem dX10_village_27 : decode cX10_village 27 = .ok (.if_icmp .ne 10, 3) := by decide +kernel
theorem dX10_village_30 : decode cX10_village 30 = .ok (.aload_n 0, 1) := by decide +kernel
theorem dX10_village_31 : decode cX10_village 31 = .ok (.bipush (-5), 2) := by decide +kernel
theorem dX10_village_33 : decode cX10_village 33 = .ok (.invokevirtual 77, 3) := by decide +kernel
theorem dX10_village_36 : decode cX10_village 36 = .ok (.ireturn, 1) := by decide +kernel
theorem dX10_village_37 : decode cX10_village 37 = .ok (.aload_n 0, 1) := by decide +kernel
theorem dX10_village_38 : decode cX10_village 38 = .ok (.iload 5, 2) := by decide +kernel
theorem dX10_village_40 : decode cX10_village 40 = .ok (.iload_n 1, 1) := by decide +kernel
theorem dX10_village_41 : decode cX10_village 41 = .ok (.iload_n 2, 1) := by decide +kernel
theorem dX10_village_42 : decode cX10_village 42 = .ok (.iload_n 3, 1) := by decide +kernel
theorem dX10_village_43 : decode cX10_village 43 = .ok (.iload 4, 2) := by decide +kernel
theorem dX10_village_45 : decode cX10_village 45 = .ok (.invokevirtual 92, 3) := by decide +kernel
theorem dX10_village_48 : decode cX10_village 48 = .ok (.aload_n 0, 1) := by decide +kernel
theorem dX10_village_49 : decode cX10_village 49 = .ok (.getfield 17, 3) := by decide +kernel
theorem dX10_village_52 : decode cX10_village 52 = .ok (.bipush 6, 2) := by decide +kernel
theorem dX10_village_54 : decode cX10_village 54 = .ok (.iload 5, 2) := by decide +kernel
theorem dX10_village_56 : decode cX10_village 56 = .ok (.imul, 1) := by decide +kernel
theorem dX10_village_57 : decode cX10_village 57 = .ok (.iconst 4, 1) := by decide +kernel
theorem dX10_village_58 : decode cX10_village 58 = .ok (.iadd, 1) := by decide +kernel
theorem dX10_village_59 : decode cX10_village 59 = .ok (.iconst 0, 1) := by decide +kernel
theorem dX10_village_60 : decode cX10_village 60 = .ok (.iastore, 1) := by decide +kernel
theorem dX10_village_61 : decode cX10_village 61 = .ok (.aload_n 0, 1) := by decide +kernel
theorem dX10_village_62 : decode cX10_village 62 = .ok (.getfield 17, 3) := by decide +kernel
theorem dX10_village_65 : decode cX10_village 65 = .ok (.bipush 6, 2) := by decide +kernel
theorem dX10_village_67 : decode cX10_village 67 = .ok (.iload 5, 2) := by decide +kernel
theorem dX10_village_69 : decode cX10_village 69 = .ok (.imul, 1) := by decide +kernel
theorem dX10_village_70 : decode cX10_village 70 = .ok (.iconst 5, 1) := by decide +kernel
theorem dX10_village_71 : decode cX10_village 71 = .ok (.iadd, 1) := by decide +kernel
theorem dX10_village_72 : decode cX10_village 72 = .ok (.sipush 255, 3) := by decide +kernel
theorem dX10_village_75 : decode cX10_village 75 = .ok (.iastore, 1) := by decide +kernel
theorem dX10_village_76 : decode cX10_village 76 = .ok (.aload_n 0, 1) := by decide +kernel
theorem dX10_village_77 : decode cX10_village 77 = .ok (.getfield 17, 3) := by decide +kernel
theorem dX10_village_80 : decode cX10_village 80 = .ok (.sipush 178, 3) := by decide +kernel
theorem dX10_village_83 : decode cX10_village 83 = .ok (.dup2, 1) := by decide +kernel
theorem dX10_village_84 : decode cX10_village 84 = .ok (.iaload, 1) := by decide +kernel
theorem dX10_village_85 : decode cX10_village 85 = .ok (.iconst 1, 1) := by decide +kernel
theorem dX10_village_86 : decode cX10_village 86 = .ok (.iadd, 1) := by decide +kernel
theorem dX10_village_87 : decode cX10_village 87 = .ok (.iastore, 1) := by decide +kernel
theorem dX10_village_88 : decode cX10_village 88 = .ok (.aload_n 0, 1) := by decide +kernel
theorem dX10_village_89 : decode cX10_village 89 = .ok (.iload 5, 2) := by decide +kernel
theorem dX10_village_91 : decode cX10_village 91 = .ok (.invokevirtual 81, 3) := by decide +kernel
theorem dX10_village_94 : decode cX10_village 94 = .ok (.ireturn, 1) := by decide +kernel
theorem dX10_put_0 : decode cX10_put 0 = .ok (.iload_n 2, 1) := by decide +kernel
theorem dX10_put_1 : decode cX10_put 1 = .ok (.iconst 0, 1) := by decide +kernel
theorem dX10_put_2 : decode cX10_put 2 = .ok (.iconst 1, 1) := by decide +kernel
theorem dX10_put_3 : decode cX10_put 3 = .ok (.invokestatic 73, 3) := by decide +kernel
theorem dX10_put_6 : decode cX10_put 6 = .ok (.ifCond .eq 23, 3) := by decide +kernel
theorem dX10_put_9 : decode cX10_put 9 = .ok (.iload_n 3, 1) := by decide +kernel
theorem dX10_put_10 : decode cX10_put 10 = .ok (.iload_n 2, 1) := by decide +kernel
theorem dX10_put_11 : decode cX10_put 11 = .ok (.iload_n 2, 1) := by decide +kernel
theorem dX10_put_12 : decode cX10_put 12 = .ok (.ifCond .ne 8, 3) := by decide +kernel
theorem dX10_put_15 : decode cX10_put 15 = .ok (.bipush 7, 2) := by decide +kernel
theorem dX10_put_17 : decode cX10_put 17 = .ok (.goto 6, 3) := by decide +kernel
theorem dX10_put_20 : decode cX10_put 20 = .ok (.sipush 255, 3) := by decide +kernel
theorem dX10_put_23 : decode cX10_put 23 = .ok (.invokestatic 73, 3) := by decide +kernel
theorem dX10_put_26 : decode cX10_put 26 = .ok (.ifCond .ne 9, 3) := by decide +kernel
theorem dX10_put_29 : decode cX10_put 29 = .ok (.aload_n 0, 1) := by decide +kernel
theorem dX10_put_30 : decode cX10_put 30 = .ok (.iconst (-1), 1) := by decide +kernel
theorem dX10_put_31 : decode cX10_put 31 = .ok (.invokevirtual 77, 3) := by decide +kernel
theorem dX10_put_34 : decode cX10_put 34 = .ok (.ireturn, 1) := by decide +kernel
theorem dX10_put_35 : decode cX10_put 35 = .ok (.aload_n 0, 1) := by decide +kernel
theorem dX10_put_36 : decode cX10_put 36 = .ok (.iload_n 1, 1) := by decide +kernel
theorem dX10_put_37 : decode cX10_put 37 = .ok (.invokevirtual 96, 3) := by decide +kernel
theorem dX10_put_40 : decode cX10_put 40 = .ok (.ifCond .ne 10, 3) := by decide +kernel
theorem dX10_put_43 : decode cX10_put 43 = .ok (.aload_n 0, 1) := by decide +kernel
theorem dX10_put_44 : decode cX10_put 44 = .ok (.bipush (-2), 2) := by decide +kernel
theorem dX10_put_46 : decode cX10_put 46 = .ok (.invokevirtual 77, 3) := by decide +kernel
theorem dX10_put_49 : decode cX10_put 49 = .ok (.ireturn, 1) := by decide +kernel
theorem dX10_put_50 : decode cX10_put 50 = .ok (.aload_n 0, 1) := by decide +kernel
theorem dX10_put_51 : decode cX10_put 51 = .ok (.iload_n 1, 1) := by decide +kernel
theorem dX10_put_52 : decode cX10_put 52 = .ok (.iconst 4, 1) := by decide +kernel
theorem dX10_put_53 : decode cX10_put 53 = .ok (.iload_n 2, 1) := by decide +kernel
theorem dX10_put_54 : decode cX10_put 54 = .ok (.iadd, 1) := by decide +kernel
theorem dX10_put_55 : decode cX10_put 55 = .ok (.invokevirtual 100, 3) := by decide +kernel
theorem dX10_put_58 : decode cX10_put 58 = .ok (.istore 4, 2) := by decide +kernel
theorem dX10_put_60 : decode cX10_put 60 = .ok (.aload_n 0, 1) := by decide +kernel
theorem dX10_put_61 : decode cX10_put 61 = .ok (.getfield 17, 3) := by decide +kernel
theorem dX10_put_64 : decode cX10_put 64 = .ok (.bipush 6, 2) := by decide +kernel
theorem dX10_put_66 : decode cX10_put 66 = .ok (.iload_n 1, 1) := by decide +kernel
theorem dX10_put_67 : decode cX10_put 67 = .ok (.imul, 1) := by decide +kernel
theorem dX10_put_68 : decode cX10_put 68 = .ok (.iconst 4, 1) := by decide +kernel
theorem dX10_put_69 : decode cX10_put 69 = .ok (.iadd, 1) := by decide +kernel
theorem dX10_put_70 : decode cX10_put 70 = .ok (.iload_n 2, 1) := by decide +kernel
theorem dX10_put_71 : decode cX10_put 71 = .ok (.iadd, 1) := by decide +kernel
theorem dX10_put_72 : decode cX10_put 72 = .ok (.iload_n 3, 1) := by decide +kernel
theorem dX10_put_73 : decode cX10_put 73 = .ok (.iastore, 1) := by decide +kernel
theorem dX10_put_74 : decode cX10_put 74 = .ok (.aload_n 0, 1) := by decide +kernel
theorem dX10_put_75 : decode cX10_put 75 = .ok (.iload 4, 2) := by decide +kernel
theorem dX10_put_77 : decode cX10_put 77 = .ok (.invokevirtual 81, 3) := by decide +kernel
theorem dX10_put_80 : decode cX10_put 80 = .ok (.ireturn, 1) := by decide +kernel
theorem dX10_hole_0 : decode cX10_hole 0 = .ok (.iload_n 2, 1) := by decide +kernel
theorem dX10_hole_1 : decode cX10_hole 1 = .ok (.iload_n 3, 1) := by decide +kernel
theorem dX10_hole_2 : decode cX10_hole 2 = .ok (.iload 4, 2) := by decide +kernel
theorem dX10_hole_4 : decode cX10_hole 4 = .ok (.iload 5, 2) := by decide +kernel
theorem dX10_hole_6 : decode cX10_hole 6 = .ok (.invokestatic 88, 3) := by decide +kernel
theorem dX10_hole_9 : decode cX10_hole 9 = .ok (.ifCond .ne 9, 3) := by decide +kernel
theorem dX10_hole_12 : decode cX10_hole 12 = .ok (.aload_n 0, 1) := by decide +kernel
theorem dX10_hole_13 : decode cX10_hole 13 = .ok (.iconst (-1), 1) := by decide +kernel
theorem dX10_hole_14 : decode cX10_hole 14 = .ok (.invokevirtual 77, 3) := by decide +kernel
theorem dX10_hole_17 : decode cX10_hole 17 = .ok (.ireturn, 1) := by decide +kernel
theorem dX10_hole_18 : decode cX10_hole 18 = .ok (.aload_n 0, 1) := by decide +kernel
theorem dX10_hole_19 : decode cX10_hole 19 = .ok (.iload_n 1, 1) := by decide +kernel
theorem dX10_hole_20 : decode cX10_hole 20 = .ok (.invokevirtual 96, 3) := by decide +kernel
theorem dX10_hole_23 : decode cX10_hole 23 = .ok (.ifCond .ne 10, 3) := by decide +kernel
theorem dX10_hole_26 : decode cX10_hole 26 = .ok (.aload_n 0, 1) := by decide +kernel
theorem dX10_hole_27 : decode cX10_hole 27 = .ok (.bipush (-2), 2) := by decide +kernel
theorem dX10_hole_29 : decode cX10_hole 29 = .ok (.invokevirtual 77, 3) := by decide +kernel
theorem dX10_hole_32 : decode cX10_hole 32 = .ok (.ireturn, 1) := by decide +kernel
theorem dX10_hole_33 : decode cX10_hole 33 = .ok (.aload_n 0, 1) := by decide +kernel
theorem dX10_hole_34 : decode cX10_hole 34 = .ok (.iload_n 1, 1) := by decide +kernel
theorem dX10_hole_35 : decode cX10_hole 35 = .ok (.iload_n 2, 1) := by decide +kernel
theorem dX10_hole_36 : decode cX10_hole 36 = .ok (.iload_n 3, 1) := by decide +kernel
theorem dX10_hole_37 : decode cX10_hole 37 = .ok (.iload 4, 2) := by decide +kernel
theorem dX10_hole_39 : decode cX10_hole 39 = .ok (.iload 5, 2) := by decide +kernel
theorem dX10_hole_41 : decode cX10_hole 41 = .ok (.invokevirtual 92, 3) := by decide +kernel
theorem dX10_hole_44 : decode cX10_hole 44 = .ok (.aload_n 0, 1) := by decide +kernel
theorem dX10_hole_45 : decode cX10_hole 45 = .ok (.iconst 0, 1) := by decide +kernel
theorem dX10_hole_46 : decode cX10_hole 46 = .ok (.invokevirtual 81, 3) := by decide +kernel
theorem dX10_hole_49 : decode cX10_hole 49 = .ok (.ireturn, 1) := by decide +kernel
theorem dX10_of_0 : decode cX10_of 0 = .ok (.aload_n 0, 1) := by decide +kernel
theorem dX10_of_1 : decode cX10_of 1 = .ok (.iload_n 1, 1) := by decide +kernel
theorem dX10_of_2 : decode cX10_of 2 = .ok (.invokevirtual 96, 3) := by decide +kernel
theorem dX10_of_5 : decode cX10_of 5 = .ok (.ifCond .eq 21, 3) := by decide +kernel
theorem dX10_of_8 : decode cX10_of 8 = .ok (.iload_n 2, 1) := by decide +kernel
theorem dX10_of_9 : decode cX10_of 9 = .ok (.iconst 0, 1) := by decide +kernel
theorem dX10_of_10 : decode cX10_of 10 = .ok (.iconst 5, 1) := by decide +kernel
theorem dX10_of_11 : decode cX10_of 11 = .ok (.invokestatic 73, 3) := by decide +kernel
theorem dX10_of_14 : decode cX10_of 14 = .ok (.ifCond .eq 12, 3) := by decide +kernel
theorem dX10_of_17 : decode cX10_of 17 = .ok (.aload_n 0, 1) := by decide +kernel
theorem dX10_of_18 : decode cX10_of 18 = .ok (.iload_n 1, 1) := by decide +kernel
theorem dX10_of_19 : decode cX10_of 19 = .ok (.iload_n 2, 1) := by decide +kernel
theorem dX10_of_20 : decode cX10_of 20 = .ok (.invokevirtual 100, 3) := by decide +kernel
theorem dX10_of_23 : decode cX10_of 23 = .ok (.goto 4, 3) := by decide +kernel
theorem dX10_of_26 : decode cX10_of 26 = .ok (.iconst (-1), 1) := by decide +kernel
theorem dX10_of_27 : decode cX10_of 27 = .ok (.ireturn, 1) := by decide +kernel
theorem dX10_isCell_0 : decode cX10_isCell 0 = .ok (.iload_n 0, 1) := by decide +kernel
theorem dX10_isCell_1 : decode cX10_isCell 1 = .ok (.iconst 0, 1) := by decide +kernel
theorem dX10_isCell_2 : decode cX10_isCell 2 = .ok (.bipush 35, 2) := by decide +kernel
theorem dX10_isCell_4 : decode cX10_isCell 4 = .ok (.invokestatic 73, 3) := by decide +kernel
theorem dX10_isCell_7 : decode cX10_isCell 7 = .ok (.ireturn, 1) := by decide +kernel
theorem dX10_isColour_0 : decode cX10_isColour 0 = .ok (.iload_n 0, 1) := by decide +kernel
theorem dX10_isColour_1 : decode cX10_isColour 1 = .ok (.iconst 0, 1) := by decide +kernel
theorem dX10_isColour_2 : decode cX10_isColour 2 = .ok (.bipush 7, 2) := by decide +kernel
theorem dX10_isColour_4 : decode cX10_isColour 4 = .ok (.invokestatic 73, 3) := by decide +kernel
theorem dX10_isColour_7 : decode cX10_isColour 7 = .ok (.ireturn, 1) := by decide +kernel
theorem dX10_paint_0 : decode cX10_paint 0 = .ok (.iload_n 1, 1) := by decide +kernel
theorem dX10_paint_1 : decode cX10_paint 1 = .ok (.iconst 0, 1) := by decide +kernel
theorem dX10_paint_2 : decode cX10_paint 2 = .ok (.iconst 2, 1) := by decide +kernel
theorem dX10_paint_3 : decode cX10_paint 3 = .ok (.invokestatic 73, 3) := by decide +kernel
theorem dX10_paint_6 : decode cX10_paint 6 = .ok (.ifCond .eq 17, 3) := by decide +kernel
theorem dX10_paint_9 : decode cX10_paint 9 = .ok (.iload_n 2, 1) := by decide +kernel
theorem dX10_paint_10 : decode cX10_paint 10 = .ok (.invokestatic 104, 3) := by decide +kernel
theorem dX10_paint_13 : decode cX10_paint 13 = .ok (.ifCond .eq 10, 3) := by decide +kernel
theorem dX10_paint_16 : decode cX10_paint 16 = .ok (.iload_n 3, 1) := by decide +kernel
theorem dX10_paint_17 : decode cX10_paint 17 = .ok (.invokestatic 107, 3) := by decide +kernel
theorem dX10_paint_20 : decode cX10_paint 20 = .ok (.ifCond .ne 9, 3) := by decide +kernel
theorem dX10_paint_23 : decode cX10_paint 23 = .ok (.aload_n 0, 1) := by decide +kernel
theorem dX10_paint_24 : decode cX10_paint 24 = .ok (.iconst (-1), 1) := by decide +kernel
theorem dX10_paint_25 : decode cX10_paint 25 = .ok (.invokevirtual 77, 3) := by decide +kernel
theorem dX10_paint_28 : decode cX10_paint 28 = .ok (.ireturn, 1) := by decide +kernel
theorem dX10_paint_29 : decode cX10_paint 29 = .ok (.bipush 60, 2) := by decide +kernel
theorem dX10_paint_31 : decode cX10_paint 31 = .ok (.bipush 36, 2) := by decide +kernel
theorem dX10_paint_33 : decode cX10_paint 33 = .ok (.iload_n 1, 1) := by decide +kernel
theorem dX10_paint_34 : decode cX10_paint 34 = .ok (.imul, 1) := by decide +kernel
theorem dX10_paint_35 : decode cX10_paint 35 = .ok (.iadd, 1) := by decide +kernel
theorem dX10_paint_36 : decode cX10_paint 36 = .ok (.iload_n 2, 1) := by decide +kernel
theorem dX10_paint_37 : decode cX10_paint 37 = .ok (.iadd, 1) := by decide +kernel
theorem dX10_paint_38 : decode cX10_paint 38 = .ok (.istore 4, 2) := by decide +kernel
theorem dX10_paint_40 : decode cX10_paint 40 = .ok (.aload_n 0, 1) := by decide +kernel
theorem dX10_paint_41 : decode cX10_paint 41 = .ok (.getfield 17, 3) := by decide +kernel
theorem dX10_paint_44 : decode cX10_paint 44 = .ok (.iload 4, 2) := by decide +kernel
theorem dX10_paint_46 : decode cX10_paint 46 = .ok (.iaload, 1) := by decide +kernel
theorem dX10_paint_47 : decode cX10_paint 47 = .ok (.istore 5, 2) := by decide +kernel
theorem dX10_paint_49 : decode cX10_paint 49 = .ok (.aload_n 0, 1) := by decide +kernel
theorem dX10_paint_50 : decode cX10_paint 50 = .ok (.getfield 17, 3) := by decide +kernel
theorem dX10_paint_53 : decode cX10_paint 53 = .ok (.iload 4, 2) := by decide +kernel
theorem dX10_paint_55 : decode cX10_paint 55 = .ok (.iload_n 3, 1) := by decide +kernel
theorem dX10_paint_56 : decode cX10_paint 56 = .ok (.iastore, 1) := by decide +kernel
theorem dX10_paint_57 : decode cX10_paint 57 = .ok (.aload_n 0, 1) := by decide +kernel
theorem dX10_paint_58 : decode cX10_paint 58 = .ok (.iload 5, 2) := by decide +kernel
theorem dX10_paint_60 : decode cX10_paint 60 = .ok (.invokevirtual 81, 3) := by decide +kernel
theorem dX10_paint_63 : decode cX10_paint 63 = .ok (.ireturn, 1) := by decide +kernel
theorem dX10_told_0 : decode cX10_told 0 = .ok (.iload_n 1, 1) := by decide +kernel
theorem dX10_told_1 : decode cX10_told 1 = .ok (.iconst 0, 1) := by decide +kernel
theorem dX10_told_2 : decode cX10_told 2 = .ok (.iconst 2, 1) := by decide +kernel
theorem dX10_told_3 : decode cX10_told 3 = .ok (.invokestatic 73, 3) := by decide +kernel
theorem dX10_told_6 : decode cX10_told 6 = .ok (.ifCond .eq 27, 3) := by decide +kernel
theorem dX10_told_9 : decode cX10_told 9 = .ok (.iload_n 2, 1) := by decide +kernel
theorem dX10_told_10 : decode cX10_told 10 = .ok (.invokestatic 104, 3) := by decide +kernel
theorem dX10_told_13 : decode cX10_told 13 = .ok (.ifCond .eq 20, 3) := by decide +kernel
theorem dX10_told_16 : decode cX10_told 16 = .ok (.aload_n 0, 1) := by decide +kernel
theorem dX10_told_17 : decode cX10_told 17 = .ok (.getfield 17, 3) := by decide +kernel
theorem dX10_told_20 : decode cX10_told 20 = .ok (.bipush 60, 2) := by decide +kernel
theorem dX10_told_22 : decode cX10_told 22 = .ok (.bipush 36, 2) := by decide +kernel
theorem dX10_told_24 : decode cX10_told 24 = .ok (.iload_n 1, 1) := by decide +kernel
theorem dX10_told_25 : decode cX10_told 25 = .ok (.imul, 1) := by decide +kernel
theorem dX10_told_26 : decode cX10_told 26 = .ok (.iadd, 1) := by decide +kernel
theorem dX10_told_27 : decode cX10_told 27 = .ok (.iload_n 2, 1) := by decide +kernel
theorem dX10_told_28 : decode cX10_told 28 = .ok (.iadd, 1) := by decide +kernel
theorem dX10_told_29 : decode cX10_told 29 = .ok (.iaload, 1) := by decide +kernel
theorem dX10_told_30 : decode cX10_told 30 = .ok (.goto 4, 3) := by decide +kernel
theorem dX10_told_33 : decode cX10_told 33 = .ok (.iconst (-1), 1) := by decide +kernel
theorem dX10_told_34 : decode cX10_told 34 = .ok (.ireturn, 1) := by decide +kernel
theorem dX10_price_0 : decode cX10_price 0 = .ok (.iload_n 1, 1) := by decide +kernel
theorem dX10_price_1 : decode cX10_price 1 = .ok (.invokestatic 107, 3) := by decide +kernel
theorem dX10_price_4 : decode cX10_price 4 = .ok (.ifCond .eq 13, 3) := by decide +kernel
theorem dX10_price_7 : decode cX10_price 7 = .ok (.iload_n 2, 1) := by decide +kernel
theorem dX10_price_8 : decode cX10_price 8 = .ok (.iconst 0, 1) := by decide +kernel
theorem dX10_price_9 : decode cX10_price 9 = .ok (.bipush 99, 2) := by decide +kernel
theorem dX10_price_11 : decode cX10_price 11 = .ok (.invokestatic 73, 3) := by decide +kernel
theorem dX10_price_14 : decode cX10_price 14 = .ok (.ifCond .ne 9, 3) := by decide +kernel
theorem dX10_price_17 : decode cX10_price 17 = .ok (.aload_n 0, 1) := by decide +kernel
theorem dX10_price_18 : decode cX10_price 18 = .ok (.iconst (-1), 1) := by decide +kernel
theorem dX10_price_19 : decode cX10_price 19 = .ok (.invokevirtual 77, 3) := by decide +kernel
theorem dX10_price_22 : decode cX10_price 22 = .ok (.ireturn, 1) := by decide +kernel
theorem dX10_price_23 : decode cX10_price 23 = .ok (.aload_n 0, 1) := by decide +kernel
theorem dX10_price_24 : decode cX10_price 24 = .ok (.getfield 17, 3) := by decide +kernel
theorem dX10_price_27 : decode cX10_price 27 = .ok (.sipush 168, 3) := by decide +kernel
theorem dX10_price_30 : decode cX10_price 30 = .ok (.iload_n 1, 1) := by decide +kernel
theorem dX10_price_31 : decode cX10_price 31 = .ok (.iadd, 1) := by decide +kernel
theorem dX10_price_32 : decode cX10_price 32 = .ok (.iaload, 1) := by decide +kernel
theorem dX10_price_33 : decode cX10_price 33 = .ok (.istore_n 3, 1) := by decide +kernel
theorem dX10_price_34 : decode cX10_price 34 = .ok (.aload_n 0, 1) := by decide +kernel
theorem dX10_price_35 : decode cX10_price 35 = .ok (.getfield 17, 3) := by decide +kernel
theorem dX10_price_38 : decode cX10_price 38 = .ok (.sipush 168, 3) := by decide +kernel
theorem dX10_price_41 : decode cX10_price 41 = .ok (.iload_n 1, 1) := by decide +kernel
theorem dX10_price_42 : decode cX10_price 42 = .ok (.iadd, 1) := by decide +kernel
theorem dX10_price_43 : decode cX10_price 43 = .ok (.iload_n 2, 1) := by decide +kernel
theorem dX10_price_44 : decode cX10_price 44 = .ok (.iastore, 1) := by decide +kernel
theorem dX10_price_45 : decode cX10_price 45 = .ok (.aload_n 0, 1) := by decide +kernel
theorem dX10_price_46 : decode cX10_price 46 = .ok (.iload_n 3, 1) := by decide +kernel
theorem dX10_price_47 : decode cX10_price 47 = .ok (.invokevirtual 81, 3) := by decide +kernel
theorem dX10_price_50 : decode cX10_price 50 = .ok (.ireturn, 1) := by decide +kernel
theorem dX10_terms_0 : decode cX10_terms 0 = .ok (.iload_n 1, 1) := by decide +kernel
theorem dX10_terms_1 : decode cX10_terms 1 = .ok (.iconst 0, 1) := by decide +kernel
theorem dX10_terms_2 : decode cX10_terms 2 = .ok (.iconst 1, 1) := by decide +kernel
theorem dX10_terms_3 : decode cX10_terms 3 = .ok (.invokestatic 73, 3) := by decide +kernel
theorem dX10_terms_6 : decode cX10_terms 6 = .ok (.ifCond .eq 22, 3) := by decide +kernel
theorem dX10_terms_9 : decode cX10_terms 9 = .ok (.iload_n 2, 1) := by decide +kernel
theorem dX10_terms_10 : decode cX10_terms 10 = .ok (.iconst 0, 1) := by decide +kernel
theorem dX10_terms_11 : decode cX10_terms 11 = .ok (.iload_n 1, 1) := by decide +kernel
theorem dX10_terms_12 : decode cX10_terms 12 = .ok (.ifCond .ne 8, 3) := by decide +kernel
theorem dX10_terms_15 : decode cX10_terms 15 = .ok (.bipush 100, 2) := by decide +kernel
theorem dX10_terms_17 : decode cX10_terms 17 = .ok (.goto 5, 3) := by decide +kernel
theorem dX10_terms_20 : decode cX10_terms 20 = .ok (.bipush 99, 2) := by decide +kernel
theorem dX10_terms_22 : decode cX10_terms 22 = .ok (.invokestatic 73, 3) := by decide +kernel
theorem dX10_terms_25 : decode cX10_terms 25 = .ok (.ifCond .ne 9, 3) := by decide +kernel
theorem dX10_terms_28 : decode cX10_terms 28 = .ok (.aload_n 0, 1) := by decide +kernel
theorem dX10_terms_29 : decode cX10_terms 29 = .ok (.iconst (-1), 1) := by decide +kernel
theorem dX10_terms_30 : decode cX10_terms 30 = .ok (.invokevirtual 77, 3) := by decide +kernel
theorem dX10_terms_33 : decode cX10_terms 33 = .ok (.ireturn, 1) := by decide +kernel
theorem dX10_terms_34 : decode cX10_terms 34 = .ok (.aload_n 0, 1) := by decide +kernel
theorem dX10_terms_35 : decode cX10_terms 35 = .ok (.getfield 17, 3) := by decide +kernel
theorem dX10_terms_38 : decode cX10_terms 38 = .ok (.sipush 176, 3) := by decide +kernel
theorem dX10_terms_41 : decode cX10_terms 41 = .ok (.iload_n 1, 1) := by decide +kernel
theorem dX10_terms_42 : decode cX10_terms 42 = .ok (.iadd, 1) := by decide +kernel
theorem dX10_terms_43 : decode cX10_terms 43 = .ok (.iaload, 1) := by decide +kernel
theorem dX10_terms_44 : decode cX10_terms 44 = .ok (.istore_n 3, 1) := by decide +kernel
theorem dX10_terms_45 : decode cX10_terms 45 = .ok (.aload_n 0, 1) := by decide +kernel
theorem dX10_terms_46 : decode cX10_terms 46 = .ok (.getfield 17, 3) := by decide +kernel
theorem dX10_terms_49 : decode cX10_terms 49 = .ok (.sipush 176, 3) := by decide +kernel
theorem dX10_terms_52 : decode cX10_terms 52 = .ok (.iload_n 1, 1) := by decide +kernel
theorem dX10_terms_53 : decode cX10_terms 53 = .ok (.iadd, 1) := by decide +kernel
theorem dX10_terms_54 : decode cX10_terms 54 = .ok (.iload_n 2, 1) := by decide +kernel
theorem dX10_terms_55 : decode cX10_terms 55 = .ok (.iastore, 1) := by decide +kernel
theorem dX10_terms_56 : decode cX10_terms 56 = .ok (.aload_n 0, 1) := by decide +kernel
theorem dX10_terms_57 : decode cX10_terms 57 = .ok (.iload_n 3, 1) := by decide +kernel
theorem dX10_terms_58 : decode cX10_terms 58 = .ok (.invokevirtual 81, 3) := by decide +kernel
theorem dX10_terms_61 : decode cX10_terms 61 = .ok (.ireturn, 1) := by decide +kernel
theorem dX10_row_0 : decode cX10_row 0 = .ok (.aload_n 0, 1) := by decide +kernel
theorem dX10_row_1 : decode cX10_row 1 = .ok (.getfield 110, 3) := by decide +kernel
theorem dX10_row_4 : decode cX10_row 4 = .ok (.istore_n 1, 1) := by decide +kernel
theorem dX10_row_5 : decode cX10_row 5 = .ok (.aload_n 0, 1) := by decide +kernel
theorem dX10_row_6 : decode cX10_row 6 = .ok (.iconst 0, 1) := by decide +kernel
theorem dX10_row_7 : decode cX10_row 7 = .ok (.putfield 110, 3) := by decide +kernel
theorem dX10_row_10 : decode cX10_row 10 = .ok (.iload_n 1, 1) := by decide +kernel
theorem dX10_row_11 : decode cX10_row 11 = .ok (.ifCond .eq 17, 3) := by decide +kernel
theorem dX10_row_14 : decode cX10_row 14 = .ok (.aload_n 0, 1) := by decide +kernel
theorem dX10_row_15 : decode cX10_row 15 = .ok (.getfield 31, 3) := by decide +kernel
theorem dX10_row_18 : decode cX10_row 18 = .ok (.iconst 0, 1) := by decide +kernel
theorem dX10_row_19 : decode cX10_row 19 = .ok (.baload, 1) := by decide +kernel
theorem dX10_row_20 : decode cX10_row 20 = .ok (.iconst 0, 1) := by decide +kernel
theorem dX10_row_21 : decode cX10_row 21 = .ok (.iconst 2, 1) := by decide +kernel
theorem dX10_row_22 : decode cX10_row 22 = .ok (.invokestatic 73, 3) := by decide +kernel
theorem dX10_row_25 : decode cX10_row 25 = .ok (.ifCond .ne 10, 3) := by decide +kernel
theorem dX10_row_28 : decode cX10_row 28 = .ok (.aload_n 0, 1) := by decide +kernel
theorem dX10_row_29 : decode cX10_row 29 = .ok (.bipush (-6), 2) := by decide +kernel
theorem dX10_row_31 : decode cX10_row 31 = .ok (.invokevirtual 77, 3) := by decide +kernel
theorem dX10_row_34 : decode cX10_row 34 = .ok (.ireturn, 1) := by decide +kernel
theorem dX10_row_35 : decode cX10_row 35 = .ok (.iconst 0, 1) := by decide +kernel
theorem dX10_row_36 : decode cX10_row 36 = .ok (.istore_n 2, 1) := by decide +kernel
theorem dX10_row_37 : decode cX10_row 37 = .ok (.iconst 0, 1) := by decide +kernel
theorem dX10_row_38 : decode cX10_row 38 = .ok (.istore_n 3, 1) := by decide +kernel
theorem dX10_row_39 : decode cX10_row 39 = .ok (.iload_n 3, 1) := by decide +kernel
theorem dX10_row_40 : decode cX10_row 40 = .ok (.bipush 36, 2) := by decide +kernel
theorem dX10_row_42 : decode cX10_row 42 = .ok (.if_icmp .ge 63, 3) := by decide +kernel
theorem dX10_row_45 : decode cX10_row 45 = .ok (.iload_n 3, 1) := by decide +kernel
theorem dX10_row_46 : decode cX10_row 46 = .ok (.iconst 1, 1) := by decide +kernel
theorem dX10_row_47 : decode cX10_row 47 = .ok (.iadd, 1) := by decide +kernel
theorem dX10_row_48 : decode cX10_row 48 = .ok (.iload_n 1, 1) := by decide +kernel
theorem dX10_row_49 : decode cX10_row 49 = .ok (.if_icmp .ge 56, 3) := by decide +kernel
theorem dX10_row_52 : decode cX10_row 52 = .ok (.aload_n 0, 1) := by decide +kernel
theorem dX10_row_53 : decode cX10_row 53 = .ok (.getfield 31, 3) := by decide +kernel
theorem dX10_row_56 : decode cX10_row 56 = .ok (.iload_n 3, 1) := by decide +kernel
theorem dX10_row_57 : decode cX10_row 57 = .ok (.iconst 1, 1) := by decide +kernel
theorem dX10_row_58 : decode cX10_row 58 = .ok (.iadd, 1) := by decide +kernel
theorem dX10_row_59 : decode cX10_row 59 = .ok (.baload, 1) := by decide +kernel
theorem dX10_row_60 : decode cX10_row 60 = .ok (.invokestatic 107, 3) := by decide +kernel
theorem dX10_row_63 : decode cX10_row 63 = .ok (.ifCond .ne 6, 3) := by decide +kernel
theorem dX10_row_66 : decode cX10_row 66 = .ok (.goto 33, 3) := by decide +kernel
theorem dX10_row_69 : decode cX10_row 69 = .ok (.aload_n 0, 1) := by decide +kernel
theorem dX10_row_70 : decode cX10_row 70 = .ok (.getfield 17, 3) := by decide +kernel
theorem dX10_row_73 : decode cX10_row 73 = .ok (.bipush 60, 2) := by decide +kernel
theorem dX10_row_75 : decode cX10_row 75 = .ok (.bipush 36, 2) := by decide +kernel
theorem dX10_row_77 : decode cX10_row 77 = .ok (.aload_n 0, 1) := by decide +kernel
theorem dX10_row_78 : decode cX10_row 78 = .ok (.getfield 31, 3) := by decide +kernel
theorem dX10_row_81 : decode cX10_row 81 = .ok (.iconst 0, 1) := by decide +kernel
theorem dX10_row_82 : decode cX10_row 82 = .ok (.baload, 1) := by decide +kernel
theorem dX10_row_83 : decode cX10_row 83 = .ok (.imul, 1) := by decide +kernel
theorem dX10_row_84 : decode cX10_row 84 = .ok (.iadd, 1) := by decide +kernel
theorem dX10_row_85 : decode cX10_row 85 = .ok (.iload_n 3, 1) := by decide +kernel
theorem dX10_row_86 : decode cX10_row 86 = .ok (.iadd, 1) := by decide +kernel
theorem dX10_row_87 : decode cX10_row 87 = .ok (.aload_n 0, 1) := by decide +kernel
theorem dX10_row_88 : decode cX10_row 88 = .ok (.getfield 31, 3) := by decide +kernel
theorem dX10_row_91 : decode cX10_row 91 = .ok (.iload_n 3, 1) := by decide +kernel
theorem dX10_row_92 : decode cX10_row 92 = .ok (.iconst 1, 1) := by decide +kernel
theorem dX10_row_93 : decode cX10_row 93 = .ok (.iadd, 1) := by decide +kernel
theorem dX10_row_94 : decode cX10_row 94 = .ok (.baload, 1) := by decide +kernel
theorem dX10_row_95 : decode cX10_row 95 = .ok (.iastore, 1) := by decide +kernel
theorem dX10_row_96 : decode cX10_row 96 = .ok (.iinc 2 1, 3) := by decide +kernel
theorem dX10_row_99 : decode cX10_row 99 = .ok (.iinc 3 1, 3) := by decide +kernel
theorem dX10_row_102 : decode cX10_row 102 = .ok (.goto (-63), 3) := by decide +kernel
theorem dX10_row_105 : decode cX10_row 105 = .ok (.aload_n 0, 1) := by decide +kernel
theorem dX10_row_106 : decode cX10_row 106 = .ok (.iload_n 1, 1) := by decide +kernel
theorem dX10_row_107 : decode cX10_row 107 = .ok (.iconst 1, 1) := by decide +kernel
theorem dX10_row_108 : decode cX10_row 108 = .ok (.isub, 1) := by decide +kernel
theorem dX10_row_109 : decode cX10_row 109 = .ok (.bipush 36, 2) := by decide +kernel
theorem dX10_row_111 : decode cX10_row 111 = .ok (.if_icmp .le 12, 3) := by decide +kernel
theorem dX10_row_114 : decode cX10_row 114 = .ok (.iload_n 1, 1) := by decide +kernel
theorem dX10_row_115 : decode cX10_row 115 = .ok (.iconst 1, 1) := by decide +kernel
theorem dX10_row_116 : decode cX10_row 116 = .ok (.isub, 1) := by decide +kernel
theorem dX10_row_117 : decode cX10_row 117 = .ok (.bipush 36, 2) := by decide +kernel
theorem dX10_row_119 : decode cX10_row 119 = .ok (.isub, 1) := by decide +kernel
theorem dX10_row_120 : decode cX10_row 120 = .ok (.goto 4, 3) := by decide +kernel
theorem dX10_row_123 : decode cX10_row 123 = .ok (.iconst 0, 1) := by decide +kernel
theorem dX10_row_124 : decode cX10_row 124 = .ok (.putfield 113, 3) := by decide +kernel
theorem dX10_row_127 : decode cX10_row 127 = .ok (.aload_n 0, 1) := by decide +kernel
theorem dX10_row_128 : decode cX10_row 128 = .ok (.iload_n 2, 1) := by decide +kernel
theorem dX10_row_129 : decode cX10_row 129 = .ok (.invokevirtual 81, 3) := by decide +kernel
theorem dX10_row_132 : decode cX10_row 132 = .ok (.ireturn, 1) := by decide +kernel
theorem dX10_lint_0 : decode cX10_lint 0 = .ok (.aload_n 0, 1) := by decide +kernel
theorem dX10_lint_1 : decode cX10_lint 1 = .ok (.getfield 113, 3) := by decide +kernel
theorem dX10_lint_4 : decode cX10_lint 4 = .ok (.ireturn, 1) := by decide +kernel
theorem dX10_feed_0 : decode cX10_feed 0 = .ok (.aload_n 0, 1) := by decide +kernel
theorem dX10_feed_1 : decode cX10_feed 1 = .ok (.getfield 110, 3) := by decide +kernel
theorem dX10_feed_4 : decode cX10_feed 4 = .ok (.bipush 20, 2) := by decide +kernel
theorem dX10_feed_6 : decode cX10_feed 6 = .ok (.iadd, 1) := by decide +kernel
theorem dX10_feed_7 : decode cX10_feed 7 = .ok (.sipush 400, 3) := by decide +kernel
theorem dX10_feed_10 : decode cX10_feed 10 = .ok (.if_icmp .le 5, 3) := by decide +kernel
theorem dX10_feed_13 : decode cX10_feed 13 = .ok (.iconst (-1), 1) := by decide +kernel
theorem dX10_feed_14 : decode cX10_feed 14 = .ok (.ireturn, 1) := by decide +kernel
theorem dX10_feed_15 : decode cX10_feed 15 = .ok (.aload_n 0, 1) := by decide +kernel
theorem dX10_feed_16 : decode cX10_feed 16 = .ok (.getfield 34, 3) := by decide +kernel
theorem dX10_feed_19 : decode cX10_feed 19 = .ok (.iconst 0, 1) := by decide +kernel
theorem dX10_feed_20 : decode cX10_feed 20 = .ok (.iload_n 1, 1) := by decide +kernel
theorem dX10_feed_21 : decode cX10_feed 21 = .ok (.iastore, 1) := by decide +kernel
theorem dX10_feed_22 : decode cX10_feed 22 = .ok (.aload_n 0, 1) := by decide +kernel
theorem dX10_feed_23 : decode cX10_feed 23 = .ok (.getfield 34, 3) := by decide +kernel
theorem dX10_feed_26 : decode cX10_feed 26 = .ok (.iconst 1, 1) := by decide +kernel
theorem dX10_feed_27 : decode cX10_feed 27 = .ok (.iload_n 2, 1) := by decide +kernel
theorem dX10_feed_28 : decode cX10_feed 28 = .ok (.iastore, 1) := by decide +kernel
theorem dX10_feed_29 : decode cX10_feed 29 = .ok (.aload_n 0, 1) := by decide +kernel
theorem dX10_feed_30 : decode cX10_feed 30 = .ok (.getfield 34, 3) := by decide +kernel
theorem dX10_feed_33 : decode cX10_feed 33 = .ok (.iconst 2, 1) := by decide +kernel
theorem dX10_feed_34 : decode cX10_feed 34 = .ok (.iload_n 3, 1) := by decide +kernel
theorem dX10_feed_35 : decode cX10_feed 35 = .ok (.iastore, 1) := by decide +kernel
theorem dX10_feed_36 : decode cX10_feed 36 = .ok (.aload_n 0, 1) := by decide +kernel
theorem dX10_feed_37 : decode cX10_feed 37 = .ok (.getfield 34, 3) := by decide +kernel
theorem dX10_feed_40 : decode cX10_feed 40 = .ok (.iconst 3, 1) := by decide +kernel
theorem dX10_feed_41 : decode cX10_feed 41 = .ok (.iload 4, 2) := by decide +kernel
theorem dX10_feed_43 : decode cX10_feed 43 = .ok (.iastore, 1) := by decide +kernel
theorem dX10_feed_44 : decode cX10_feed 44 = .ok (.aload_n 0, 1) := by decide +kernel
theorem dX10_feed_45 : decode cX10_feed 45 = .ok (.getfield 34, 3) := by decide +kernel
theorem dX10_feed_48 : decode cX10_feed 48 = .ok (.iconst 4, 1) := by decide +kernel
theorem dX10_feed_49 : decode cX10_feed 49 = .ok (.iload 5, 2) := by decide +kernel
theorem dX10_feed_51 : decode cX10_feed 51 = .ok (.iastore, 1) := by decide +kernel
theorem dX10_feed_52 : decode cX10_feed 52 = .ok (.iconst 0, 1) := by decide +kernel
theorem dX10_feed_53 : decode cX10_feed 53 = .ok (.istore 6, 2) := by decide +kernel
theorem dX10_feed_55 : decode cX10_feed 55 = .ok (.iload 6, 2) := by decide +kernel
theorem dX10_feed_57 : decode cX10_feed 57 = .ok (.bipush 20, 2) := by decide +kernel
theorem dX10_feed_59 : decode cX10_feed 59 = .ok (.if_icmp .ge 42, 3) := by decide +kernel
theorem dX10_feed_62 : decode cX10_feed 62 = .ok (.aload_n 0, 1) := by decide +kernel
theorem dX10_feed_63 : decode cX10_feed 63 = .ok (.getfield 31, 3) := by decide +kernel
theorem dX10_feed_66 : decode cX10_feed 66 = .ok (.aload_n 0, 1) := by decide +kernel
theorem dX10_feed_67 : decode cX10_feed 67 = .ok (.getfield 110, 3) := by decide +kernel
theorem dX10_feed_70 : decode cX10_feed 70 = .ok (.iload 6, 2) := by decide +kernel
theorem dX10_feed_72 : decode cX10_feed 72 = .ok (.iadd, 1) := by decide +kernel
theorem dX10_feed_73 : decode cX10_feed 73 = .ok (.aload_n 0, 1) := by decide +kernel
theorem dX10_feed_74 : decode cX10_feed 74 = .ok (.getfield 34, 3) := by decide +kernel
theorem dX10_feed_77 : decode cX10_feed 77 = .ok (.iload 6, 2) := by decide +kernel
theorem dX10_feed_79 : decode cX10_feed 79 = .ok (.iconst 4, 1) := by decide +kernel
theorem dX10_feed_80 : decode cX10_feed 80 = .ok (.idiv, 1) := by decide +kernel
theorem dX10_feed_81 : decode cX10_feed 81 = .ok (.iaload, 1) := by decide +kernel
theorem dX10_feed_82 : decode cX10_feed 82 = .ok (.bipush 24, 2) := by decide +kernel
theorem dX10_feed_84 : decode cX10_feed 84 = .ok (.bipush 8, 2) := by decide +kernel
theorem dX10_feed_86 : decode cX10_feed 86 = .ok (.iload 6, 2) := by decide +kernel
theorem dX10_feed_88 : decode cX10_feed 88 = .ok (.iconst 4, 1) := by decide +kernel
theorem dX10_feed_89 : decode cX10_feed 89 = .ok (.irem, 1) := by decide +kernel
theorem dX10_feed_90 : decode cX10_feed 90 = .ok (.imul, 1) := by decide +kernel
theorem dX10_feed_91 : decode cX10_feed 91 = .ok (.isub, 1) := by decide +kernel
theorem dX10_feed_92 : decode cX10_feed 92 = .ok (.ishr, 1) := by decide +kernel
theorem dX10_feed_93 : decode cX10_feed 93 = .ok (.i2b, 1) := by decide +kernel
theorem dX10_feed_94 : decode cX10_feed 94 = .ok (.bastore, 1) := by decide +kernel
theorem dX10_feed_95 : decode cX10_feed 95 = .ok (.iinc 6 1, 3) := by decide +kernel
theorem dX10_feed_98 : decode cX10_feed 98 = .ok (.goto (-43), 3) := by decide +kernel
theorem dX10_feed_101 : decode cX10_feed 101 = .ok (.aload_n 0, 1) := by decide +kernel
theorem dX10_feed_102 : decode cX10_feed 102 = .ok (.dup, 1) := by decide +kernel
theorem dX10_feed_103 : decode cX10_feed 103 = .ok (.getfield 110, 3) := by decide +kernel
theorem dX10_feed_106 : decode cX10_feed 106 = .ok (.bipush 20, 2) := by decide +kernel
theorem dX10_feed_108 : decode cX10_feed 108 = .ok (.iadd, 1) := by decide +kernel
theorem dX10_feed_109 : decode cX10_feed 109 = .ok (.putfield 110, 3) := by decide +kernel
theorem dX10_feed_112 : decode cX10_feed 112 = .ok (.aload_n 0, 1) := by decide +kernel
theorem dX10_feed_113 : decode cX10_feed 113 = .ok (.getfield 110, 3) := by decide +kernel
theorem dX10_feed_116 : decode cX10_feed 116 = .ok (.ireturn, 1) := by decide +kernel
theorem dX10_end_0 : decode cX10_end 0 = .ok (.iload_n 1, 1) := by decide +kernel
theorem dX10_end_1 : decode cX10_end 1 = .ok (.iconst 0, 1) := by decide +kernel
theorem dX10_end_2 : decode cX10_end 2 = .ok (.aload_n 0, 1) := by decide +kernel
theorem dX10_end_3 : decode cX10_end 3 = .ok (.getfield 110, 3) := by decide +kernel
theorem dX10_end_6 : decode cX10_end 6 = .ok (.invokestatic 73, 3) := by decide +kernel
theorem dX10_end_9 : decode cX10_end 9 = .ok (.ifCond .ne 5, 3) := by decide +kernel
theorem dX10_end_12 : decode cX10_end 12 = .ok (.iconst (-1), 1) := by decide +kernel
theorem dX10_end_13 : decode cX10_end 13 = .ok (.ireturn, 1) := by decide +kernel
theorem dX10_end_14 : decode cX10_end 14 = .ok (.aload_n 0, 1) := by decide +kernel
theorem dX10_end_15 : decode cX10_end 15 = .ok (.iload_n 1, 1) := by decide +kernel
theorem dX10_end_16 : decode cX10_end 16 = .ok (.putfield 110, 3) := by decide +kernel
theorem dX10_end_19 : decode cX10_end 19 = .ok (.iload_n 1, 1) := by decide +kernel
theorem dX10_end_20 : decode cX10_end 20 = .ok (.ireturn, 1) := by decide +kernel
theorem dX10_isSmall_0 : decode cX10_isSmall 0 = .ok (.iload_n 0, 1) := by decide +kernel
theorem dX10_isSmall_1 : decode cX10_isSmall 1 = .ok (.bipush 97, 2) := by decide +kernel
theorem dX10_isSmall_3 : decode cX10_isSmall 3 = .ok (.if_icmp .lt 13, 3) := by decide +kernel
theorem dX10_isSmall_6 : decode cX10_isSmall 6 = .ok (.iload_n 0, 1) := by decide +kernel
theorem dX10_isSmall_7 : decode cX10_isSmall 7 = .ok (.bipush 122, 2) := by decide +kernel
theorem dX10_isSmall_9 : decode cX10_isSmall 9 = .ok (.if_icmp .gt 7, 3) := by decide +kernel
theorem dX10_isSmall_12 : decode cX10_isSmall 12 = .ok (.iconst 1, 1) := by decide +kernel
theorem dX10_isSmall_13 : decode cX10_isSmall 13 = .ok (.goto 4, 3) := by decide +kernel
theorem dX10_isSmall_16 : decode cX10_isSmall 16 = .ok (.iconst 0, 1) := by decide +kernel
theorem dX10_isSmall_17 : decode cX10_isSmall 17 = .ok (.ireturn, 1) := by decide +kernel
theorem dX10_isDigit_0 : decode cX10_isDigit 0 = .ok (.iload_n 0, 1) := by decide +kernel
theorem dX10_isDigit_1 : decode cX10_isDigit 1 = .ok (.bipush 48, 2) := by decide +kernel
theorem dX10_isDigit_3 : decode cX10_isDigit 3 = .ok (.if_icmp .lt 13, 3) := by decide +kernel
theorem dX10_isDigit_6 : decode cX10_isDigit 6 = .ok (.iload_n 0, 1) := by decide +kernel
theorem dX10_isDigit_7 : decode cX10_isDigit 7 = .ok (.bipush 57, 2) := by decide +kernel
theorem dX10_isDigit_9 : decode cX10_isDigit 9 = .ok (.if_icmp .gt 7, 3) := by decide +kernel
theorem dX10_isDigit_12 : decode cX10_isDigit 12 = .ok (.iconst 1, 1) := by decide +kernel
theorem dX10_isDigit_13 : decode cX10_isDigit 13 = .ok (.goto 4, 3) := by decide +kernel
theorem dX10_isDigit_16 : decode cX10_isDigit 16 = .ok (.iconst 0, 1) := by decide +kernel
theorem dX10_isDigit_17 : decode cX10_isDigit 17 = .ok (.ireturn, 1) := by decide +kernel
theorem dX10_wordOf_0 : decode cX10_wordOf 0 = .ok (.iconst 1, 1) := by decide +kernel
theorem dX10_wordOf_1 : decode cX10_wordOf 1 = .ok (.istore_n 3, 1) := by decide +kernel
theorem dX10_wordOf_2 : decode cX10_wordOf 2 = .ok (.iconst 0, 1) := by decide +kernel
theorem dX10_wordOf_3 : decode cX10_wordOf 3 = .ok (.istore 4, 2) := by decide +kernel
theorem dX10_wordOf_5 : decode cX10_wordOf 5 = .ok (.iload 4, 2) := by decide +kernel
theorem dX10_wordOf_7 : decode cX10_wordOf 7 = .ok (.aload_n 0, 1) := by decide +kernel
theorem dX10_wordOf_8 : decode cX10_wordOf 8 = .ok (.getfield 27, 3) := by decide +kernel
theorem dX10_wordOf_11 : decode cX10_wordOf 11 = .ok (.arraylength, 1) := by decide +kernel
theorem dX10_wordOf_12 : decode cX10_wordOf 12 = .ok (.if_icmp .ge 114, 3) := by decide +kernel
theorem dX10_wordOf_15 : decode cX10_wordOf 15 = .ok (.iconst 0, 1) := by decide +kernel
theorem dX10_wordOf_16 : decode cX10_wordOf 16 = .ok (.istore 5, 2) := by decide +kernel
theorem dX10_wordOf_18 : decode cX10_wordOf 18 = .ok (.aload_n 0, 1) := by decide +kernel
theorem dX10_wordOf_19 : decode cX10_wordOf 19 = .ok (.getfield 27, 3) := by decide +kernel
theorem dX10_wordOf_22 : decode cX10_wordOf 22 = .ok (.iload 4, 2) := by decide +kernel
theorem dX10_wordOf_24 : decode cX10_wordOf 24 = .ok (.iload 5, 2) := by decide +kernel
theorem dX10_wordOf_26 : decode cX10_wordOf 26 = .ok (.iadd, 1) := by decide +kernel
theorem dX10_wordOf_27 : decode cX10_wordOf 27 = .ok (.baload, 1) := by decide +kernel
theorem dX10_wordOf_28 : decode cX10_wordOf 28 = .ok (.bipush 32, 2) := by decide +kernel
theorem dX10_wordOf_30 : decode cX10_wordOf 30 = .ok (.if_icmp .eq 9, 3) := by decide +kernel
theorem dX10_wordOf_33 : decode cX10_wordOf 33 = .ok (.iinc 5 1, 3) := by decide +kernel
theorem dX10_wordOf_36 : decode cX10_wordOf 36 = .ok (.goto (-18), 3) := by decide +kernel
theorem dX10_wordOf_39 : decode cX10_wordOf 39 = .ok (.iload 5, 2) := by decide +kernel
theorem dX10_wordOf_41 : decode cX10_wordOf 41 = .ok (.iload_n 2, 1) := by decide +kernel
theorem dX10_wordOf_42 : decode cX10_wordOf 42 = .ok (.iload_n 1, 1) := by decide +kernel
theorem dX10_wordOf_43 : decode cX10_wordOf 43 = .ok (.isub, 1) := by decide +kernel
theorem dX10_wordOf_44 : decode cX10_wordOf 44 = .ok (.if_icmp .ne 7, 3) := by decide +kernel
theorem dX10_wordOf_47 : decode cX10_wordOf 47 = .ok (.iconst 1, 1) := by decide +kernel
theorem dX10_wordOf_48 : decode cX10_wordOf 48 = .ok (.goto 4, 3) := by decide +kernel
theorem dX10_wordOf_51 : decode cX10_wordOf 51 = .ok (.iconst 0, 1) := by decide +kernel
theorem dX10_wordOf_52 : decode cX10_wordOf 52 = .ok (.istore 6, 2) := by decide +kernel
theorem dX10_wordOf_54 : decode cX10_wordOf 54 = .ok (.iconst 0, 1) := by decide +kernel
theorem dX10_wordOf_55 : decode cX10_wordOf 55 = .ok (.istore 7, 2) := by decide +kernel
theorem dX10_wordOf_57 : decode cX10_wordOf 57 = .ok (.iload 7, 2) := by decide +kernel
theorem dX10_wordOf_59 : decode cX10_wordOf 59 = .ok (.iload 5, 2) := by decide +kernel
theorem dX10_wordOf_61 : decode cX10_wordOf 61 = .ok (.if_icmp .ge 43, 3) := by decide +kernel
theorem dX10_wordOf_64 : decode cX10_wordOf 64 = .ok (.iload 6, 2) := by decide +kernel
theorem dX10_wordOf_66 : decode cX10_wordOf 66 = .ok (.ifCond .eq 38, 3) := by decide +kernel
theorem dX10_wordOf_69 : decode cX10_wordOf 69 = .ok (.aload_n 0, 1) := by decide +kernel
theorem dX10_wordOf_70 : decode cX10_wordOf 70 = .ok (.getfield 27, 3) := by decide +kernel
theorem dX10_wordOf_73 : decode cX10_wordOf 73 = .ok (.iload 4, 2) := by decide +kernel
theorem dX10_wordOf_75 : decode cX10_wordOf 75 = .ok (.iload 7, 2) := by decide +kernel
theorem dX10_wordOf_77 : decode cX10_wordOf 77 = .ok (.iadd, 1) := by decide +kernel
theorem dX10_wordOf_78 : decode cX10_wordOf 78 = .ok (.baload, 1) := by decide +kernel
theorem dX10_wordOf_79 : decode cX10_wordOf 79 = .ok (.aload_n 0, 1) := by decide +kernel
theorem dX10_wordOf_80 : decode cX10_wordOf 80 = .ok (.getfield 31, 3) := by decide +kernel
theorem dX10_wordOf_83 : decode cX10_wordOf 83 = .ok (.iload_n 1, 1) := by decide +kernel
theorem dX10_wordOf_84 : decode cX10_wordOf 84 = .ok (.iload 7, 2) := by decide +kernel
theorem dX10_wordOf_86 : decode cX10_wordOf 86 = .ok (.iadd, 1) := by decide +kernel
theorem dX10_wordOf_87 : decode cX10_wordOf 87 = .ok (.baload, 1) := by decide +kernel
theorem dX10_wordOf_88 : decode cX10_wordOf 88 = .ok (.if_icmp .ne 7, 3) := by decide +kernel
theorem dX10_wordOf_91 : decode cX10_wordOf 91 = .ok (.iconst 1, 1) := by decide +kernel
theorem dX10_wordOf_92 : decode cX10_wordOf 92 = .ok (.goto 4, 3) := by decide +kernel
theorem dX10_wordOf_95 : decode cX10_wordOf 95 = .ok (.iconst 0, 1) := by decide +kernel
theorem dX10_wordOf_96 : decode cX10_wordOf 96 = .ok (.istore 6, 2) := by decide +kernel
theorem dX10_wordOf_98 : decode cX10_wordOf 98 = .ok (.iinc 7 1, 3) := by decide +kernel
theorem dX10_wordOf_101 : decode cX10_wordOf 101 = .ok (.goto (-44), 3) := by decide +kernel
theorem dX10_wordOf_104 : decode cX10_wordOf 104 = .ok (.iload 6, 2) := by decide +kernel
theorem dX10_wordOf_106 : decode cX10_wordOf 106 = .ok (.ifCond .eq 5, 3) := by decide +kernel
theorem dX10_wordOf_109 : decode cX10_wordOf 109 = .ok (.iload_n 3, 1) := by decide +kernel
theorem dX10_wordOf_110 : decode cX10_wordOf 110 = .ok (.ireturn, 1) := by decide +kernel
theorem dX10_wordOf_111 : decode cX10_wordOf 111 = .ok (.iload 4, 2) := by decide +kernel
theorem dX10_wordOf_113 : decode cX10_wordOf 113 = .ok (.iload 5, 2) := by decide +kernel
theorem dX10_wordOf_115 : decode cX10_wordOf 115 = .ok (.iconst 1, 1) := by decide +kernel
theorem dX10_wordOf_116 : decode cX10_wordOf 116 = .ok (.iadd, 1) := by decide +kernel
theorem dX10_wordOf_117 : decode cX10_wordOf 117 = .ok (.iadd, 1) := by decide +kernel
theorem dX10_wordOf_118 : decode cX10_wordOf 118 = .ok (.istore 4, 2) := by decide +kernel
theorem dX10_wordOf_120 : decode cX10_wordOf 120 = .ok (.iinc 3 1, 3) := by decide +kernel
theorem dX10_wordOf_123 : decode cX10_wordOf 123 = .ok (.goto (-118), 3) := by decide +kernel
theorem dX10_wordOf_126 : decode cX10_wordOf 126 = .ok (.iconst 0, 1) := by decide +kernel
theorem dX10_wordOf_127 : decode cX10_wordOf 127 = .ok (.ireturn, 1) := by decide +kernel
theorem dX10_splits_0 : decode cX10_splits 0 = .ok (.aload_n 0, 1) := by decide +kernel
theorem dX10_splits_1 : decode cX10_splits 1 = .ok (.iconst 0, 1) := by decide +kernel
theorem dX10_splits_2 : decode cX10_splits 2 = .ok (.putfield 116, 3) := by decide +kernel
theorem dX10_splits_5 : decode cX10_splits 5 = .ok (.iconst 0, 1) := by decide +kernel
theorem dX10_splits_6 : decode cX10_splits 6 = .ok (.istore_n 2, 1) := by decide +kernel
theorem dX10_splits_7 : decode cX10_splits 7 = .ok (.iload_n 2, 1) := by decide +kernel
theorem dX10_splits_8 : decode cX10_splits 8 = .ok (.iload_n 1, 1) := by decide +kernel
theorem dX10_splits_9 : decode cX10_splits 9 = .ok (.if_icmp .ge 254, 3) := by decide +kernel
theorem dX10_splits_12 : decode cX10_splits 12 = .ok (.aload_n 0, 1) := by decide +kernel
theorem dX10_splits_13 : decode cX10_splits 13 = .ok (.getfield 31, 3) := by decide +kernel
theorem dX10_splits_16 : decode cX10_splits 16 = .ok (.iload_n 2, 1) := by decide +kernel
theorem dX10_splits_17 : decode cX10_splits 17 = .ok (.baload, 1) := by decide +kernel
theorem dX10_splits_18 : decode cX10_splits 18 = .ok (.istore_n 3, 1) := by decide +kernel
theorem dX10_splits_19 : decode cX10_splits 19 = .ok (.iload_n 3, 1) := by decide +kernel
theorem dX10_splits_20 : decode cX10_splits 20 = .ok (.bipush 32, 2) := by decide +kernel
theorem dX10_splits_22 : decode cX10_splits 22 = .ok (.if_icmp .ne 9, 3) := by decide +kernel
theorem dX10_splits_25 : decode cX10_splits 25 = .ok (.iinc 2 1, 3) := by decide +kernel
theorem dX10_splits_28 : decode cX10_splits 28 = .ok (.goto (-21), 3) := by decide +kernel
theorem dX10_splits_31 : decode cX10_splits 31 = .ok (.iload_n 2, 1) := by decide +kernel
theorem dX10_splits_32 : decode cX10_splits 32 = .ok (.iconst 1, 1) := by decide +kernel
theorem dX10_splits_33 : decode cX10_splits 33 = .ok (.iadd, 1) := by decide +kernel
theorem dX10_splits_34 : decode cX10_splits 34 = .ok (.istore 4, 2) := by decide +kernel
theorem dX10_splits_36 : decode cX10_splits 36 = .ok (.iload_n 3, 1) := by decide +kernel
theorem dX10_splits_37 : decode cX10_splits 37 = .ok (.invokestatic 119, 3) := by decide +kernel
theorem dX10_splits_40 : decode cX10_splits 40 = .ok (.ifCond .eq 28, 3) := by decide +kernel
theorem dX10_splits_43 : decode cX10_splits 43 = .ok (.iload 4, 2) := by decide +kernel
theorem dX10_splits_45 : decode cX10_splits 45 = .ok (.iload_n 1, 1) := by decide +kernel
theorem dX10_splits_46 : decode cX10_splits 46 = .ok (.if_icmp .ge 22, 3) := by decide +kernel
theorem dX10_splits_49 : decode cX10_splits 49 = .ok (.aload_n 0, 1) := by decide +kernel
theorem dX10_splits_50 : decode cX10_splits 50 = .ok (.getfield 31, 3) := by decide +kernel
theorem dX10_splits_53 : decode cX10_splits 53 = .ok (.iload 4, 2) := by decide +kernel
theorem dX10_splits_55 : decode cX10_splits 55 = .ok (.baload, 1) := by decide +kernel
theorem dX10_splits_56 : decode cX10_splits 56 = .ok (.invokestatic 119, 3) := by decide +kernel
theorem dX10_splits_59 : decode cX10_splits 59 = .ok (.ifCond .eq 9, 3) := by decide +kernel
theorem dX10_splits_62 : decode cX10_splits 62 = .ok (.iinc 4 1, 3) := by decide +kernel
theorem dX10_splits_65 : decode cX10_splits 65 = .ok (.goto (-22), 3) := by decide +kernel
theorem dX10_splits_68 : decode cX10_splits 68 = .ok (.iload_n 3, 1) := by decide +kernel
theorem dX10_splits_69 : decode cX10_splits 69 = .ok (.invokestatic 122, 3) := by decide +kernel
theorem dX10_splits_72 : decode cX10_splits 72 = .ok (.ifCond .eq 28, 3) := by decide +kernel
theorem dX10_splits_75 : decode cX10_splits 75 = .ok (.iload 4, 2) := by decide +kernel
theorem dX10_splits_77 : decode cX10_splits 77 = .ok (.iload_n 1, 1) := by decide +kernel
theorem dX10_splits_78 : decode cX10_splits 78 = .ok (.if_icmp .ge 22, 3) := by decide +kernel
theorem dX10_splits_81 : decode cX10_splits 81 = .ok (.aload_n 0, 1) := by decide +kernel
theorem dX10_splits_82 : decode cX10_splits 82 = .ok (.getfield 31, 3) := by decide +kernel
theorem dX10_splits_85 : decode cX10_splits 85 = .ok (.iload 4, 2) := by decide +kernel
theorem dX10_splits_87 : decode cX10_splits 87 = .ok (.baload, 1) := by decide +kernel
theorem dX10_splits_88 : decode cX10_splits 88 = .ok (.invokestatic 122, 3) := by decide +kernel
theorem dX10_splits_91 : decode cX10_splits 91 = .ok (.ifCond .eq 9, 3) := by decide +kernel
theorem dX10_splits_94 : decode cX10_splits 94 = .ok (.iinc 4 1, 3) := by decide +kernel
theorem dX10_splits_97 : decode cX10_splits 97 = .ok (.goto (-22), 3) := by decide +kernel
theorem dX10_splits_100 : decode cX10_splits 100 = .ok (.aload_n 0, 1) := by decide +kernel
theorem dX10_splits_101 : decode cX10_splits 101 = .ok (.getfield 46, 3) := by decide +kernel
theorem dX10_splits_104 : decode cX10_splits 104 = .ok (.aload_n 0, 1) := by decide +kernel
theorem dX10_splits_105 : decode cX10_splits 105 = .ok (.getfield 116, 3) := by decide +kernel
theorem dX10_splits_108 : decode cX10_splits 108 = .ok (.iload_n 2, 1) := by decide +kernel
theorem dX10_splits_109 : decode cX10_splits 109 = .ok (.iastore, 1) := by decide +kernel
theorem dX10_splits_110 : decode cX10_splits 110 = .ok (.aload_n 0, 1) := by decide +kernel
theorem dX10_splits_111 : decode cX10_splits 111 = .ok (.getfield 43, 3) := by decide +kernel
theorem dX10_splits_114 : decode cX10_splits 114 = .ok (.aload_n 0, 1) := by decide +kernel
theorem dX10_splits_115 : decode cX10_splits 115 = .ok (.getfield 116, 3) := by decide +kernel
theorem dX10_splits_118 : decode cX10_splits 118 = .ok (.iconst 0, 1) := by decide +kernel
theorem dX10_splits_119 : decode cX10_splits 119 = .ok (.iastore, 1) := by decide +kernel
theorem dX10_splits_120 : decode cX10_splits 120 = .ok (.aload_n 0, 1) := by decide +kernel
theorem dX10_splits_121 : decode cX10_splits 121 = .ok (.getfield 40, 3) := by decide +kernel
theorem dX10_splits_124 : decode cX10_splits 124 = .ok (.aload_n 0, 1) := by decide +kernel
theorem dX10_splits_125 : decode cX10_splits 125 = .ok (.getfield 116, 3) := by decide +kernel
theorem dX10_splits_128 : decode cX10_splits 128 = .ok (.iload_n 3, 1) := by decide +kernel
theorem dX10_splits_129 : decode cX10_splits 129 = .ok (.invokestatic 119, 3) := by decide +kernel
theorem dX10_splits_132 : decode cX10_splits 132 = .ok (.ifCond .eq 13, 3) := by decide +kernel
theorem dX10_splits_135 : decode cX10_splits 135 = .ok (.aload_n 0, 1) := by decide +kernel
theorem dX10_splits_136 : decode cX10_splits 136 = .ok (.iload_n 2, 1) := by decide +kernel
theorem dX10_splits_137 : decode cX10_splits 137 = .ok (.iload 4, 2) := by decide +kernel
theorem dX10_splits_139 : decode cX10_splits 139 = .ok (.invokevirtual 125, 3) := by decide +kernel
theorem dX10_splits_142 : decode cX10_splits 142 = .ok (.goto 23, 3) := by decide +kernel
theorem dX10_splits_145 : decode cX10_splits 145 = .ok (.iload_n 3, 1) := by decide +kernel
theorem dX10_splits_146 : decode cX10_splits 146 = .ok (.invokestatic 122, 3) := by decide +kernel
theorem dX10_splits_149 : decode cX10_splits 149 = .ok (.ifCond .eq 8, 3) := by decide +kernel
theorem dX10_splits_152 : decode cX10_splits 152 = .ok (.bipush 50, 2) := by decide +kernel
theorem dX10_splits_154 : decode cX10_splits 154 = .ok (.goto 11, 3) := by decide +kernel
theorem dX10_splits_157 : decode cX10_splits 157 = .ok (.bipush 100, 2) := by decide +kernel
theorem dX10_splits_159 : decode cX10_splits 159 = .ok (.iload_n 3, 1) := by decide +kernel
theorem dX10_splits_160 : decode cX10_splits 160 = .ok (.sipush 255, 3) := by decide +kernel
theorem dX10_splits_163 : decode cX10_splits 163 = .ok (.iand, 1) := by decide +kernel
theorem dX10_splits_164 : decode cX10_splits 164 = .ok (.iadd, 1) := by decide +kernel
theorem dX10_splits_165 : decode cX10_splits 165 = .ok (.iastore, 1) := by decide +kernel
theorem dX10_splits_166 : decode cX10_splits 166 = .ok (.iload_n 2, 1) := by decide +kernel
theorem dX10_splits_167 : decode cX10_splits 167 = .ok (.istore 5, 2) := by decide +kernel
theorem dX10_splits_169 : decode cX10_splits 169 = .ok (.iload 5, 2) := by decide +kernel
theorem dX10_splits_171 : decode cX10_splits 171 = .ok (.iload 4, 2) := by decide +kernel
theorem dX10_splits_173 : decode cX10_splits 173 = .ok (.if_icmp .ge 74, 3) := by decide +kernel
theorem dX10_splits_176 : decode cX10_splits 176 = .ok (.iload_n 3, 1) := by decide +kernel
theorem dX10_splits_177 : decode cX10_splits 177 = .ok (.invokestatic 122, 3) := by decide +kernel
theorem dX10_splits_180 : decode cX10_splits 180 = .ok (.ifCond .eq 67, 3) := by decide +kernel
theorem dX10_splits_183 : decode cX10_splits 183 = .ok (.aload_n 0, 1) := by decide +kernel
theorem dX10_splits_184 : decode cX10_splits 184 = .ok (.getfield 43, 3) := by decide +kernel
theorem dX10_splits_187 : decode cX10_splits 187 = .ok (.aload_n 0, 1) := by decide +kernel
theorem dX10_splits_188 : decode cX10_splits 188 = .ok (.getfield 116, 3) := by decide +kernel
theorem dX10_splits_191 : decode cX10_splits 191 = .ok (.aload_n 0, 1) := by decide +kernel
theorem dX10_splits_192 : decode cX10_splits 192 = .ok (.getfield 43, 3) := by decide +kernel
theorem dX10_splits_195 : decode cX10_splits 195 = .ok (.aload_n 0, 1) := by decide +kernel
theorem dX10_splits_196 : decode cX10_splits 196 = .ok (.getfield 116, 3) := by decide +kernel
theorem dX10_splits_199 : decode cX10_splits 199 = .ok (.iaload, 1) := by decide +kernel
theorem dX10_splits_200 : decode cX10_splits 200 = .ok (.ldc 128, 2) := by decide +kernel
theorem dX10_splits_202 : decode cX10_splits 202 = .ok (.if_icmp .le 15, 3) := by decide +kernel
theorem dX10_splits_205 : decode cX10_splits 205 = .ok (.aload_n 0, 1) := by decide +kernel
theorem dX10_splits_206 : decode cX10_splits 206 = .ok (.getfield 43, 3) := by decide +kernel
theorem dX10_splits_209 : decode cX10_splits 209 = .ok (.aload_n 0, 1) := by decide +kernel
theorem dX10_splits_210 : decode cX10_splits 210 = .ok (.getfield 116, 3) := by decide +kernel
theorem dX10_splits_213 : decode cX10_splits 213 = .ok (.iaload, 1) := by decide +kernel
theorem dX10_splits_214 : decode cX10_splits 214 = .ok (.goto 26, 3) := by decide +kernel
theorem dX10_splits_217 : decode cX10_splits 217 = .ok (.bipush 10, 2) := by decide +kernel
theorem dX10_splits_219 : decode cX10_splits 219 = .ok (.aload_n 0, 1) := by decide +kernel
theorem dX10_splits_220 : decode cX10_splits 220 = .ok (.getfield 43, 3) := by decide +kernel
theorem dX10_splits_223 : decode cX10_splits 223 = .ok (.aload_n 0, 1) := by decide +kernel
theorem dX10_splits_224 : decode cX10_splits 224 = .ok (.getfield 116, 3) := by decide +kernel
theorem dX10_splits_227 : decode cX10_splits 227 = .ok (.iaload, 1) := by decide +kernel
theorem dX10_splits_228 : decode cX10_splits 228 = .ok (.imul, 1) := by decide +kernel
theorem dX10_splits_229 : decode cX10_splits 229 = .ok (.aload_n 0, 1) := by decide +kernel
theorem dX10_splits_230 : decode cX10_splits 230 = .ok (.getfield 31, 3) := by decide +kernel
theorem dX10_splits_233 : decode cX10_splits 233 = .ok (.iload 5, 2) := by decide +kernel
theorem dX10_splits_235 : decode cX10_splits 235 = .ok (.baload, 1) := by decide +kernel
theorem dX10_splits_236 : decode cX10_splits 236 = .ok (.iadd, 1) := by decide +kernel
theorem dX10_splits_237 : decode cX10_splits 237 = .ok (.bipush 48, 2) := by decide +kernel
theorem dX10_splits_239 : decode cX10_splits 239 = .ok (.isub, 1) := by decide +kernel
theorem dX10_splits_240 : decode cX10_splits 240 = .ok (.iastore, 1) := by decide +kernel
theorem dX10_splits_241 : decode cX10_splits 241 = .ok (.iinc 5 1, 3) := by decide +kernel
theorem dX10_splits_244 : decode cX10_splits 244 = .ok (.goto (-75), 3) := by decide +kernel
theorem dX10_splits_247 : decode cX10_splits 247 = .ok (.aload_n 0, 1) := by decide +kernel
theorem dX10_splits_248 : decode cX10_splits 248 = .ok (.dup, 1) := by decide +kernel
theorem dX10_splits_249 : decode cX10_splits 249 = .ok (.getfield 116, 3) := by decide +kernel
theorem dX10_splits_252 : decode cX10_splits 252 = .ok (.iconst 1, 1) := by decide +kernel
theorem dX10_splits_253 : decode cX10_splits 253 = .ok (.iadd, 1) := by decide +kernel
theorem dX10_splits_254 : decode cX10_splits 254 = .ok (.putfield 116, 3) := by decide +kernel
theorem dX10_splits_257 : decode cX10_splits 257 = .ok (.iload 4, 2) := by decide +kernel
theorem dX10_splits_259 : decode cX10_splits 259 = .ok (.istore_n 2, 1) := by decide +kernel
theorem dX10_splits_260 : decode cX10_splits 260 = .ok (.goto (-253), 3) := by decide +kernel
theorem dX10_splits_263 : decode cX10_splits 263 = .ok (.aload_n 0, 1) := by decide +kernel
theorem dX10_splits_264 : decode cX10_splits 264 = .ok (.getfield 46, 3) := by decide +kernel
theorem dX10_splits_267 : decode cX10_splits 267 = .ok (.aload_n 0, 1) := by decide +kernel
theorem dX10_splits_268 : decode cX10_splits 268 = .ok (.getfield 116, 3) := by decide +kernel
theorem dX10_splits_271 : decode cX10_splits 271 = .ok (.iload_n 1, 1) := by decide +kernel
theorem dX10_splits_272 : decode cX10_splits 272 = .ok (.iastore, 1) := by decide +kernel
theorem dX10_splits_273 : decode cX10_splits 273 = .ok (.aload_n 0, 1) := by decide +kernel
theorem dX10_splits_274 : decode cX10_splits 274 = .ok (.getfield 40, 3) := by decide +kernel
theorem dX10_splits_277 : decode cX10_splits 277 = .ok (.aload_n 0, 1) := by decide +kernel
theorem dX10_splits_278 : decode cX10_splits 278 = .ok (.getfield 116, 3) := by decide +kernel
theorem dX10_splits_281 : decode cX10_splits 281 = .ok (.iconst 0, 1) := by decide +kernel
theorem dX10_splits_282 : decode cX10_splits 282 = .ok (.iastore, 1) := by decide +kernel
theorem dX10_splits_283 : decode cX10_splits 283 = .ok (.aload_n 0, 1) := by decide +kernel
theorem dX10_splits_284 : decode cX10_splits 284 = .ok (.getfield 43, 3) := by decide +kernel
theorem dX10_splits_287 : decode cX10_splits 287 = .ok (.aload_n 0, 1) := by decide +kernel
theorem dX10_splits_288 : decode cX10_splits 288 = .ok (.getfield 116, 3) := by decide +kernel
theorem dX10_splits_291 : decode cX10_splits 291 = .ok (.iconst 0, 1) := by decide +kernel
theorem dX10_splits_292 : decode cX10_splits 292 = .ok (.iastore, 1) := by decide +kernel
theorem dX10_splits_293 : decode cX10_splits 293 = .ok (.return_, 1) := by decide +kernel
theorem dX10_fine_0 : decode cX10_fine 0 = .ok (.aload_n 0, 1) := by decide +kernel
theorem dX10_fine_1 : decode cX10_fine 1 = .ok (.getfield 129, 3) := by decide +kernel
theorem dX10_fine_4 : decode cX10_fine 4 = .ok (.iconst (-1), 1) := by decide +kernel
theorem dX10_fine_5 : decode cX10_fine 5 = .ok (.if_icmp .ne 7, 3) := by decide +kernel
theorem dX10_fine_8 : decode cX10_fine 8 = .ok (.iconst 1, 1) := by decide +kernel
theorem dX10_fine_9 : decode cX10_fine 9 = .ok (.goto 4, 3) := by decide +kernel
theorem dX10_fine_12 : decode cX10_fine 12 = .ok (.iconst 0, 1) := by decide +kernel
theorem dX10_fine_13 : decode cX10_fine 13 = .ok (.ireturn, 1) := by decide +kernel
theorem dX10_faults_0 : decode cX10_faults 0 = .ok (.aload_n 0, 1) := by decide +kernel
theorem dX10_faults_1 : decode cX10_faults 1 = .ok (.invokevirtual 132, 3) := by decide +kernel
theorem dX10_faults_4 : decode cX10_faults 4 = .ok (.ifCond .eq 16, 3) := by decide +kernel
theorem dX10_faults_7 : decode cX10_faults 7 = .ok (.aload_n 0, 1) := by decide +kernel
theorem dX10_faults_8 : decode cX10_faults 8 = .ok (.aload_n 0, 1) := by decide +kernel
theorem dX10_faults_9 : decode cX10_faults 9 = .ok (.getfield 46, 3) := by decide +kernel
theorem dX10_faults_12 : decode cX10_faults 12 = .ok (.aload_n 0, 1) := by decide +kernel
theorem dX10_faults_13 : decode cX10_faults 13 = .ok (.getfield 136, 3) := by decide +kernel
theorem dX10_faults_16 : decode cX10_faults 16 = .ok (.iaload, 1) := by decide +kernel
theorem dX10_faults_17 : decode cX10_faults 17 = .ok (.putfield 129, 3) := by decide +kernel
theorem dX10_faults_20 : decode cX10_faults 20 = .ok (.return_, 1) := by decide +kernel
theorem dX10_takes0_0 : decode cX10_takes0 0 = .ok (.aload_n 0, 1) := by decide +kernel
theorem dX10_takes0_1 : decode cX10_takes0 1 = .ok (.invokevirtual 132, 3) := by decide +kernel
theorem dX10_takes0_4 : decode cX10_takes0 4 = .ok (.ifCond .eq 20, 3) := by decide +kernel
theorem dX10_takes0_7 : decode cX10_takes0 7 = .ok (.aload_n 0, 1) := by decide +kernel
theorem dX10_takes0_8 : decode cX10_takes0 8 = .ok (.getfield 40, 3) := by decide +kernel
theorem dX10_takes0_11 : decode cX10_takes0 11 = .ok (.aload_n 0, 1) := by decide +kernel
theorem dX10_takes0_12 : decode cX10_takes0 12 = .ok (.getfield 136, 3) := by decide +kernel
theorem dX10_takes0_15 : decode cX10_takes0 15 = .ok (.iaload, 1) := by decide +kernel
theorem dX10_takes0_16 : decode cX10_takes0 16 = .ok (.iload_n 1, 1) := by decide +kernel
theorem dX10_takes0_17 : decode cX10_takes0 17 = .ok (.if_icmp .ne 7, 3) := by decide +kernel
theorem dX10_takes0_20 : decode cX10_takes0 20 = .ok (.iconst 1, 1) := by decide +kernel
theorem dX10_takes0_21 : decode cX10_takes0 21 = .ok (.goto 4, 3) := by decide +kernel
theorem dX10_takes0_24 : decode cX10_takes0 24 = .ok (.iconst 0, 1) := by decide +kernel
theorem dX10_takes0_25 : decode cX10_takes0 25 = .ok (.istore_n 2, 1) := by decide +kernel
theorem dX10_takes0_26 : decode cX10_takes0 26 = .ok (.iload_n 2, 1) := by decide +kernel
theorem dX10_takes0_27 : decode cX10_takes0 27 = .ok (.ifCond .eq 13, 3) := by decide +kernel
theorem dX10_takes0_30 : decode cX10_takes0 30 = .ok (.aload_n 0, 1) := by decide +kernel
theorem dX10_takes0_31 : decode cX10_takes0 31 = .ok (.dup, 1) := by decide +kernel
theorem dX10_takes0_32 : decode cX10_takes0 32 = .ok (.getfield 136, 3) := by decide +kernel
theorem dX10_takes0_35 : decode cX10_takes0 35 = .ok (.iconst 1, 1) := by decide +kernel
theorem dX10_takes0_36 : decode cX10_takes0 36 = .ok (.iadd, 1) := by decide +kernel
theorem dX10_takes0_37 : decode cX10_takes0 37 = .ok (.putfield 136, 3) := by decide +kernel
theorem dX10_takes0_40 : decode cX10_takes0 40 = .ok (.iload_n 2, 1) := by decide +kernel
theorem dX10_takes0_41 : decode cX10_takes0 41 = .ok (.ireturn, 1) := by decide +kernel
theorem dX10_must_0 : decode cX10_must 0 = .ok (.aload_n 0, 1) := by decide +kernel
theorem dX10_must_1 : decode cX10_must 1 = .ok (.iload_n 1, 1) := by decide +kernel
theorem dX10_must_2 : decode cX10_must 2 = .ok (.invokevirtual 139, 3) := by decide +kernel
theorem dX10_must_5 : decode cX10_must 5 = .ok (.ifCond .ne 7, 3) := by decide +kernel
theorem dX10_must_8 : decode cX10_must 8 = .ok (.aload_n 0, 1) := by decide +kernel
theorem dX10_must_9 : decode cX10_must 9 = .ok (.invokevirtual 142, 3) := by decide +kernel
theorem dX10_must_12 : decode cX10_must 12 = .ok (.return_, 1) := by decide +kernel
theorem dX10_leaf_0 : decode cX10_leaf 0 = .ok (.aload_n 0, 1) := by decide +kernel
theorem dX10_leaf_1 : decode cX10_leaf 1 = .ok (.getfield 145, 3) := by decide +kernel
theorem dX10_leaf_4 : decode cX10_leaf 4 = .ok (.bipush 50, 2) := by decide +kernel
theorem dX10_leaf_6 : decode cX10_leaf 6 = .ok (.if_icmp .ne 7, 3) := by decide +kernel
theorem dX10_leaf_9 : decode cX10_leaf 9 = .ok (.aload_n 0, 1) := by decide +kernel
theorem dX10_leaf_10 : decode cX10_leaf 10 = .ok (.invokevirtual 142, 3) := by decide +kernel
theorem dX10_leaf_13 : decode cX10_leaf 13 = .ok (.aload_n 0, 1) := by decide +kernel
theorem dX10_leaf_14 : decode cX10_leaf 14 = .ok (.dup, 1) := by decide +kernel
theorem dX10_leaf_15 : decode cX10_leaf 15 = .ok (.getfield 145, 3) := by decide +kernel
theorem dX10_leaf_18 : decode cX10_leaf 18 = .ok (.iconst 1, 1) := by decide +kernel
theorem dX10_leaf_19 : decode cX10_leaf 19 = .ok (.iadd, 1) := by decide +kernel
theorem dX10_leaf_20 : decode cX10_leaf 20 = .ok (.putfield 145, 3) := by decide +kernel
theorem dX10_leaf_23 : decode cX10_leaf 23 = .ok (.aload_n 0, 1) := by decide +kernel
theorem dX10_leaf_24 : decode cX10_leaf 24 = .ok (.invokevirtual 132, 3) := by decide +kernel
theorem dX10_leaf_27 : decode cX10_leaf 27 = .ok (.ifCond .eq 13, 3) := by decide +kernel
theorem dX10_leaf_30 : decode cX10_leaf 30 = .ok (.aload_n 0, 1) := by decide +kernel
theorem dX10_leaf_31 : decode cX10_leaf 31 = .ok (.dup, 1) := by decide +kernel
theorem dX10_leaf_32 : decode cX10_leaf 32 = .ok (.getfield 136, 3) := by decide +kernel
theorem dX10_leaf_35 : decode cX10_leaf 35 = .ok (.iconst 1, 1) := by decide +kernel
theorem dX10_leaf_36 : decode cX10_leaf 36 = .ok (.iadd, 1) := by decide +kernel
theorem dX10_leaf_37 : decode cX10_leaf 37 = .ok (.putfield 136, 3) := by decide +kernel
theorem dX10_leaf_40 : decode cX10_leaf 40 = .ok (.return_, 1) := by decide +kernel
theorem dX10_sign_0 : decode cX10_sign 0 = .ok (.bipush 100, 2) := by decide +kernel
theorem dX10_sign_2 : decode cX10_sign 2 = .ok (.iload_n 0, 1) := by decide +kernel
theorem dX10_sign_3 : decode cX10_sign 3 = .ok (.iadd, 1) := by decide +kernel
theorem dX10_sign_4 : decode cX10_sign 4 = .ok (.ireturn, 1) := by decide +kernel
theorem dX10_readClause_0 : decode cX10_readClause 0 = .ok (.aload_n 0, 1) := by decide +kernel
theorem dX10_readClause_1 : decode cX10_readClause 1 = .ok (.iconst 1, 1) := by decide +kernel
theorem dX10_readClause_2 : decode cX10_readClause 2 = .ok (.invokevirtual 148, 3) := by decide +kernel
theorem dX10_readClause_5 : decode cX10_readClause 5 = .ok (.aload_n 0, 1) := by decide +kernel
theorem dX10_readClause_6 : decode cX10_readClause 6 = .ok (.invokevirtual 132, 3) := by decide +kernel
theorem dX10_readClause_9 : decode cX10_readClause 9 = .ok (.ifCond .eq 8, 3) := by decide +kernel
theorem dX10_readClause_12 : decode cX10_readClause 12 = .ok (.aload_n 0, 1) := by decide +kernel
theorem dX10_readClause_13 : decode cX10_readClause 13 = .ok (.iconst 0, 1) := by decide +kernel
theorem dX10_readClause_14 : decode cX10_readClause 14 = .ok (.invokevirtual 152, 3) := by decide +kernel
theorem dX10_readClause_17 : decode cX10_readClause 17 = .ok (.aload_n 0, 1) := by decide +kernel
theorem dX10_readClause_18 : decode cX10_readClause 18 = .ok (.iconst 2, 1) := by decide +kernel
theorem dX10_readClause_19 : decode cX10_readClause 19 = .ok (.invokevirtual 139, 3) := by decide +kernel
theorem dX10_readClause_22 : decode cX10_readClause 22 = .ok (.ifCond .eq 8, 3) := by decide +kernel
theorem dX10_readClause_25 : decode cX10_readClause 25 = .ok (.aload_n 0, 1) := by decide +kernel
theorem dX10_readClause_26 : decode cX10_readClause 26 = .ok (.iconst 0, 1) := by decide +kernel
theorem dX10_readClause_27 : decode cX10_readClause 27 = .ok (.invokevirtual 155, 3) := by decide +kernel
theorem dX10_readClause_30 : decode cX10_readClause 30 = .ok (.return_, 1) := by decide +kernel
theorem dX10_readTest_0 : decode cX10_readTest 0 = .ok (.aload_n 0, 1) := by decide +kernel
theorem dX10_readTest_1 : decode cX10_readTest 1 = .ok (.iload_n 1, 1) := by decide +kernel
theorem dX10_readTest_2 : decode cX10_readTest 2 = .ok (.invokevirtual 158, 3) := by decide +kernel
theorem dX10_readTest_5 : decode cX10_readTest 5 = .ok (.aload_n 0, 1) := by decide +kernel
theorem dX10_readTest_6 : decode cX10_readTest 6 = .ok (.iconst 3, 1) := by decide +kernel
theorem dX10_readTest_7 : decode cX10_readTest 7 = .ok (.invokevirtual 139, 3) := by decide +kernel
theorem dX10_readTest_10 : decode cX10_readTest 10 = .ok (.ifCond .eq 11, 3) := by decide +kernel
theorem dX10_readTest_13 : decode cX10_readTest 13 = .ok (.aload_n 0, 1) := by decide +kernel
theorem dX10_readTest_14 : decode cX10_readTest 14 = .ok (.iload_n 1, 1) := by decide +kernel
theorem dX10_readTest_15 : decode cX10_readTest 15 = .ok (.invokevirtual 158, 3) := by decide +kernel
theorem dX10_readTest_18 : decode cX10_readTest 18 = .ok (.goto (-13), 3) := by decide +kernel
theorem dX10_readTest_21 : decode cX10_readTest 21 = .ok (.return_, 1) := by decide +kernel
theorem dX10_readBoth_0 : decode cX10_readBoth 0 = .ok (.aload_n 0, 1) := by decide +kernel
theorem dX10_readBoth_1 : decode cX10_readBoth 1 = .ok (.iload_n 1, 1) := by decide +kernel
theorem dX10_readBoth_2 : decode cX10_readBoth 2 = .ok (.invokevirtual 161, 3) := by decide +kernel
theorem dX10_readBoth_5 : decode cX10_readBoth 5 = .ok (.aload_n 0, 1) := by decide +kernel
theorem dX10_readBoth_6 : decode cX10_readBoth 6 = .ok (.iconst 4, 1) := by decide +kernel
theorem dX10_readBoth_7 : decode cX10_readBoth 7 = .ok (.invokevirtual 139, 3) := by decide +kernel
theorem dX10_readBoth_10 : decode cX10_readBoth 10 = .ok (.ifCond .eq 11, 3) := by decide +kernel
theorem dX10_readBoth_13 : decode cX10_readBoth 13 = .ok (.aload_n 0, 1) := by decide +kernel
theorem dX10_readBoth_14 : decode cX10_readBoth 14 = .ok (.iload_n 1, 1) := by decide +kernel
theorem dX10_readBoth_15 : decode cX10_readBoth 15 = .ok (.invokevirtual 161, 3) := by decide +kernel
theorem dX10_readBoth_18 : decode cX10_readBoth 18 = .ok (.goto (-13), 3) := by decide +kernel
theorem dX10_readBoth_21 : decode cX10_readBoth 21 = .ok (.return_, 1) := by decide +kernel
theorem dX10_readPlain_0 : decode cX10_readPlain 0 = .ok (.iconst 1, 1) := by decide +kernel
theorem dX10_readPlain_1 : decode cX10_readPlain 1 = .ok (.istore_n 2, 1) := by decide +kernel
theorem dX10_readPlain_2 : decode cX10_readPlain 2 = .ok (.iload_n 2, 1) := by decide +kernel
theorem dX10_readPlain_3 : decode cX10_readPlain 3 = .ok (.ifCond .eq 12, 3) := by decide +kernel
theorem dX10_readPlain_6 : decode cX10_readPlain 6 = .ok (.aload_n 0, 1) := by decide +kernel
theorem dX10_readPlain_7 : decode cX10_readPlain 7 = .ok (.iconst 5, 1) := by decide +kernel
theorem dX10_readPlain_8 : decode cX10_readPlain 8 = .ok (.invokevirtual 139, 3) := by decide +kernel
theorem dX10_readPlain_11 : decode cX10_readPlain 11 = .ok (.istore_n 2, 1) := by decide +kernel
theorem dX10_readPlain_12 : decode cX10_readPlain 12 = .ok (.goto (-10), 3) := by decide +kernel
theorem dX10_readPlain_15 : decode cX10_readPlain 15 = .ok (.aload_n 0, 1) := by decide +kernel
theorem dX10_readPlain_16 : decode cX10_readPlain 16 = .ok (.invokevirtual 132, 3) := by decide +kernel
theorem dX10_readPlain_19 : decode cX10_readPlain 19 = .ok (.ifCond .ne 4, 3) := by decide +kernel
theorem dX10_readPlain_22 : decode cX10_readPlain 22 = .ok (.return_, 1) := by decide +kernel
theorem dX10_readPlain_23 : decode cX10_readPlain 23 = .ok (.aload_n 0, 1) := by decide +kernel
theorem dX10_readPlain_24 : decode cX10_readPlain 24 = .ok (.getfield 40, 3) := by decide +kernel
theorem dX10_readPlain_27 : decode cX10_readPlain 27 = .ok (.aload_n 0, 1) := by decide +kernel
theorem dX10_readPlain_28 : decode cX10_readPlain 28 = .ok (.getfield 136, 3) := by decide +kernel
theorem dX10_readPlain_31 : decode cX10_readPlain 31 = .ok (.iaload, 1) := by decide +kernel
theorem dX10_readPlain_32 : decode cX10_readPlain 32 = .ok (.istore_n 3, 1) := by decide +kernel
theorem dX10_readPlain_33 : decode cX10_readPlain 33 = .ok (.iload_n 3, 1) := by decide +kernel
theorem dX10_readPlain_34 : decode cX10_readPlain 34 = .ok (.bipush 40, 2) := by decide +kernel
theorem dX10_readPlain_36 : decode cX10_readPlain 36 = .ok (.invokestatic 164, 3) := by decide +kernel
theorem dX10_readPlain_39 : decode cX10_readPlain 39 = .ok (.if_icmp .ne 50, 3) := by decide +kernel
theorem dX10_readPlain_42 : decode cX10_readPlain 42 = .ok (.iload_n 1, 1) := by decide +kernel
theorem dX10_readPlain_43 : decode cX10_readPlain 43 = .ok (.bipush 8, 2) := by decide +kernel
theorem dX10_readPlain_45 : decode cX10_readPlain 45 = .ok (.if_icmp .ne 7, 3) := by decide +kernel
theorem dX10_readPlain_48 : decode cX10_readPlain 48 = .ok (.aload_n 0, 1) := by decide +kernel
theorem dX10_readPlain_49 : decode cX10_readPlain 49 = .ok (.invokevirtual 142, 3) := by decide +kernel
theorem dX10_readPlain_52 : decode cX10_readPlain 52 = .ok (.aload_n 0, 1) := by decide +kernel
theorem dX10_readPlain_53 : decode cX10_readPlain 53 = .ok (.invokevirtual 132, 3) := by decide +kernel
theorem dX10_readPlain_56 : decode cX10_readPlain 56 = .ok (.ifCond .ne 4, 3) := by decide +kernel
theorem dX10_readPlain_59 : decode cX10_readPlain 59 = .ok (.return_, 1) := by decide +kernel
theorem dX10_readPlain_60 : decode cX10_readPlain 60 = .ok (.aload_n 0, 1) := by decide +kernel
theorem dX10_readPlain_61 : decode cX10_readPlain 61 = .ok (.dup, 1) := by decide +kernel
theorem dX10_readPlain_62 : decode cX10_readPlain 62 = .ok (.getfield 136, 3) := by decide +kernel
theorem dX10_readPlain_65 : decode cX10_readPlain 65 = .ok (.iconst 1, 1) := by decide +kernel
theorem dX10_readPlain_66 : decode cX10_readPlain 66 = .ok (.iadd, 1) := by decide +kernel
theorem dX10_readPlain_67 : decode cX10_readPlain 67 = .ok (.putfield 136, 3) := by decide +kernel
theorem dX10_readPlain_70 : decode cX10_readPlain 70 = .ok (.aload_n 0, 1) := by decide +kernel
theorem dX10_readPlain_71 : decode cX10_readPlain 71 = .ok (.iload_n 1, 1) := by decide +kernel
theorem dX10_readPlain_72 : decode cX10_readPlain 72 = .ok (.iconst 1, 1) := by decide +kernel
theorem dX10_readPlain_73 : decode cX10_readPlain 73 = .ok (.iadd, 1) := by decide +kernel
theorem dX10_readPlain_74 : decode cX10_readPlain 74 = .ok (.invokevirtual 155, 3) := by decide +kernel
theorem dX10_readPlain_77 : decode cX10_readPlain 77 = .ok (.aload_n 0, 1) := by decide +kernel
theorem dX10_readPlain_78 : decode cX10_readPlain 78 = .ok (.bipush 41, 2) := by decide +kernel
theorem dX10_readPlain_80 : decode cX10_readPlain 80 = .ok (.invokestatic 164, 3) := by decide +kernel
theorem dX10_readPlain_83 : decode cX10_readPlain 83 = .ok (.invokevirtual 148, 3) := by decide +kernel
theorem dX10_readPlain_86 : decode cX10_readPlain 86 = .ok (.goto 46, 3) := by decide +kernel
theorem dX10_readPlain_89 : decode cX10_readPlain 89 = .ok (.aload_n 0, 1) := by decide +kernel
theorem dX10_readPlain_90 : decode cX10_readPlain 90 = .ok (.iload_n 1, 1) := by decide +kernel
theorem dX10_readPlain_91 : decode cX10_readPlain 91 = .ok (.invokevirtual 152, 3) := by decide +kernel
theorem dX10_readPlain_94 : decode cX10_readPlain 94 = .ok (.aload_n 0, 1) := by decide +kernel
theorem dX10_readPlain_95 : decode cX10_readPlain 95 = .ok (.bipush 60, 2) := by decide +kernel
theorem dX10_readPlain_97 : decode cX10_readPlain 97 = .ok (.invokestatic 164, 3) := by decide +kernel
theorem dX10_readPlain_100 : decode cX10_readPlain 100 = .ok (.invokevirtual 139, 3) := by decide +kernel
theorem dX10_readPlain_103 : decode cX10_readPlain 103 = .ok (.ifCond .ne 24, 3) := by decide +kernel
theorem dX10_readPlain_106 : decode cX10_readPlain 106 = .ok (.aload_n 0, 1) := by decide +kernel
theorem dX10_readPlain_107 : decode cX10_readPlain 107 = .ok (.bipush 62, 2) := by decide +kernel
theorem dX10_readPlain_109 : decode cX10_readPlain 109 = .ok (.invokestatic 164, 3) := by decide +kernel
theorem dX10_readPlain_112 : decode cX10_readPlain 112 = .ok (.invokevirtual 139, 3) := by decide +kernel
theorem dX10_readPlain_115 : decode cX10_readPlain 115 = .ok (.ifCond .ne 12, 3) := by decide +kernel
theorem dX10_readPlain_118 : decode cX10_readPlain 118 = .ok (.aload_n 0, 1) := by decide +kernel
theorem dX10_readPlain_119 : decode cX10_readPlain 119 = .ok (.bipush 61, 2) := by decide +kernel
theorem dX10_readPlain_121 : decode cX10_readPlain 121 = .ok (.invokestatic 164, 3) := by decide +kernel
theorem dX10_readPlain_124 : decode cX10_readPlain 124 = .ok (.invokevirtual 148, 3) := by decide +kernel
theorem dX10_readPlain_127 : decode cX10_readPlain 127 = .ok (.aload_n 0, 1) := by decide +kernel
theorem dX10_readPlain_128 : decode cX10_readPlain 128 = .ok (.iload_n 1, 1) := by decide +kernel
theorem dX10_readPlain_129 : decode cX10_readPlain 129 = .ok (.invokevirtual 152, 3) := by decide +kernel
theorem dX10_readPlain_132 : decode cX10_readPlain 132 = .ok (.return_, 1) := by decide +kernel
theorem dX10_readSum_0 : decode cX10_readSum 0 = .ok (.aload_n 0, 1) := by decide +kernel
theorem dX10_readSum_1 : decode cX10_readSum 1 = .ok (.iload_n 1, 1) := by decide +kernel
theorem dX10_readSum_2 : decode cX10_readSum 2 = .ok (.invokevirtual 168, 3) := by decide +kernel
theorem dX10_readSum_5 : decode cX10_readSum 5 = .ok (.aload_n 0, 1) := by decide +kernel
theorem dX10_readSum_6 : decode cX10_readSum 6 = .ok (.bipush 43, 2) := by decide +kernel
theorem dX10_readSum_8 : decode cX10_readSum 8 = .ok (.invokestatic 164, 3) := by decide +kernel
theorem dX10_readSum_11 : decode cX10_readSum 11 = .ok (.invokevirtual 139, 3) := by decide +kernel
theorem dX10_readSum_14 : decode cX10_readSum 14 = .ok (.ifCond .ne 15, 3) := by decide +kernel
theorem dX10_readSum_17 : decode cX10_readSum 17 = .ok (.aload_n 0, 1) := by decide +kernel
theorem dX10_readSum_18 : decode cX10_readSum 18 = .ok (.bipush 45, 2) := by decide +kernel
theorem dX10_readSum_20 : decode cX10_readSum 20 = .ok (.invokestatic 164, 3) := by decide +kernel
theorem dX10_readSum_23 : decode cX10_readSum 23 = .ok (.invokevirtual 139, 3) := by decide +kernel
theorem dX10_readSum_26 : decode cX10_readSum 26 = .ok (.ifCond .eq 11, 3) := by decide +kernel
theorem dX10_readSum_29 : decode cX10_readSum 29 = .ok (.aload_n 0, 1) := by decide +kernel
theorem dX10_readSum_30 : decode cX10_readSum 30 = .ok (.iload_n 1, 1) := by decide +kernel
theorem dX10_readSum_31 : decode cX10_readSum 31 = .ok (.invokevirtual 168, 3) := by decide +kernel
theorem dX10_readSum_34 : decode cX10_readSum 34 = .ok (.goto (-29), 3) := by decide +kernel
theorem dX10_readSum_37 : decode cX10_readSum 37 = .ok (.return_, 1) := by decide +kernel
theorem dX10_readTerm_0 : decode cX10_readTerm 0 = .ok (.aload_n 0, 1) := by decide +kernel
theorem dX10_readTerm_1 : decode cX10_readTerm 1 = .ok (.iload_n 1, 1) := by decide +kernel
theorem dX10_readTerm_2 : decode cX10_readTerm 2 = .ok (.invokevirtual 171, 3) := by decide +kernel
theorem dX10_readTerm_5 : decode cX10_readTerm 5 = .ok (.aload_n 0, 1) := by decide +kernel
theorem dX10_readTerm_6 : decode cX10_readTerm 6 = .ok (.bipush 42, 2) := by decide +kernel
theorem dX10_readTerm_8 : decode cX10_readTerm 8 = .ok (.invokestatic 164, 3) := by decide +kernel
theorem dX10_readTerm_11 : decode cX10_readTerm 11 = .ok (.invokevirtual 139, 3) := by decide +kernel
theorem dX10_readTerm_14 : decode cX10_readTerm 14 = .ok (.ifCond .ne 15, 3) := by decide +kernel
theorem dX10_readTerm_17 : decode cX10_readTerm 17 = .ok (.aload_n 0, 1) := by decide +kernel
theorem dX10_readTerm_18 : decode cX10_readTerm 18 = .ok (.bipush 47, 2) := by decide +kernel
theorem dX10_readTerm_20 : decode cX10_readTerm 20 = .ok (.invokestatic 164, 3) := by decide +kernel
theorem dX10_readTerm_23 : decode cX10_readTerm 23 = .ok (.invokevirtual 139, 3) := by decide +kernel
theorem dX10_readTerm_26 : decode cX10_readTerm 26 = .ok (.ifCond .eq 11, 3) := by decide +kernel
theorem dX10_readTerm_29 : decode cX10_readTerm 29 = .ok (.aload_n 0, 1) := by decide +kernel
theorem dX10_readTerm_30 : decode cX10_readTerm 30 = .ok (.iload_n 1, 1) := by decide +kernel
theorem dX10_readTerm_31 : decode cX10_readTerm 31 = .ok (.invokevirtual 171, 3) := by decide +kernel
theorem dX10_readTerm_34 : decode cX10_readTerm 34 = .ok (.goto (-29), 3) := by decide +kernel
theorem dX10_readTerm_37 : decode cX10_readTerm 37 = .ok (.return_, 1) := by decide +kernel
theorem dX10_readPart_0 : decode cX10_readPart 0 = .ok (.aload_n 0, 1) := by decide +kernel
theorem dX10_readPart_1 : decode cX10_readPart 1 = .ok (.invokevirtual 132, 3) := by decide +kernel
theorem dX10_readPart_4 : decode cX10_readPart 4 = .ok (.ifCond .ne 4, 3) := by decide +kernel
theorem dX10_readPart_7 : decode cX10_readPart 7 = .ok (.return_, 1) := by decide +kernel
theorem dX10_readPart_8 : decode cX10_readPart 8 = .ok (.aload_n 0, 1) := by decide +kernel
theorem dX10_readPart_9 : decode cX10_readPart 9 = .ok (.getfield 40, 3) := by decide +kernel
theorem dX10_readPart_12 : decode cX10_readPart 12 = .ok (.aload_n 0, 1) := by decide +kernel
theorem dX10_readPart_13 : decode cX10_readPart 13 = .ok (.getfield 136, 3) := by decide +kernel
theorem dX10_readPart_16 : decode cX10_readPart 16 = .ok (.iaload, 1) := by decide +kernel
theorem dX10_readPart_17 : decode cX10_readPart 17 = .ok (.istore_n 2, 1) := by decide +kernel
theorem dX10_readPart_18 : decode cX10_readPart 18 = .ok (.iload_n 2, 1) := by decide +kernel
theorem dX10_readPart_19 : decode cX10_readPart 19 = .ok (.bipush 91, 2) := by decide +kernel
theorem dX10_readPart_21 : decode cX10_readPart 21 = .ok (.invokestatic 164, 3) := by decide +kernel
theorem dX10_readPart_24 : decode cX10_readPart 24 = .ok (.if_icmp .ne 50, 3) := by decide +kernel
theorem dX10_readPart_27 : decode cX10_readPart 27 = .ok (.iload_n 1, 1) := by decide +kernel
theorem dX10_readPart_28 : decode cX10_readPart 28 = .ok (.bipush 8, 2) := by decide +kernel
theorem dX10_readPart_30 : decode cX10_readPart 30 = .ok (.if_icmp .ne 7, 3) := by decide +kernel
theorem dX10_readPart_33 : decode cX10_readPart 33 = .ok (.aload_n 0, 1) := by decide +kernel
theorem dX10_readPart_34 : decode cX10_readPart 34 = .ok (.invokevirtual 142, 3) := by decide +kernel
theorem dX10_readPart_37 : decode cX10_readPart 37 = .ok (.aload_n 0, 1) := by decide +kernel
theorem dX10_readPart_38 : decode cX10_readPart 38 = .ok (.invokevirtual 132, 3) := by decide +kernel
theorem dX10_readPart_41 : decode cX10_readPart 41 = .ok (.ifCond .ne 4, 3) := by decide +kernel
theorem dX10_readPart_44 : decode cX10_readPart 44 = .ok (.return_, 1) := by decide +kernel
theorem dX10_readPart_45 : decode cX10_readPart 45 = .ok (.aload_n 0, 1) := by decide +kernel
theorem dX10_readPart_46 : decode cX10_readPart 46 = .ok (.dup, 1) := by decide +kernel
theorem dX10_readPart_47 : decode cX10_readPart 47 = .ok (.getfield 136, 3) := by decide +kernel
theorem dX10_readPart_50 : decode cX10_readPart 50 = .ok (.iconst 1, 1) := by decide +kernel
theorem dX10_readPart_51 : decode cX10_readPart 51 = .ok (.iadd, 1) := by decide +kernel
theorem dX10_readPart_52 : decode cX10_readPart 52 = .ok (.putfield 136, 3) := by decide +kernel
theorem dX10_readPart_55 : decode cX10_readPart 55 = .ok (.aload_n 0, 1) := by decide +kernel
theorem dX10_readPart_56 : decode cX10_readPart 56 = .ok (.iload_n 1, 1) := by decide +kernel
theorem dX10_readPart_57 : decode cX10_readPart 57 = .ok (.iconst 1, 1) := by decide +kernel
theorem dX10_readPart_58 : decode cX10_readPart 58 = .ok (.iadd, 1) := by decide +kernel
theorem dX10_readPart_59 : decode cX10_readPart 59 = .ok (.invokevirtual 152, 3) := by decide +kernel
theorem dX10_readPart_62 : decode cX10_readPart 62 = .ok (.aload_n 0, 1) := by decide +kernel
theorem dX10_readPart_63 : decode cX10_readPart 63 = .ok (.bipush 93, 2) := by decide +kernel
theorem dX10_readPart_65 : decode cX10_readPart 65 = .ok (.invokestatic 164, 3) := by decide +kernel
theorem dX10_readPart_68 : decode cX10_readPart 68 = .ok (.invokevirtual 148, 3) := by decide +kernel
theorem dX10_readPart_71 : decode cX10_readPart 71 = .ok (.goto 47, 3) := by decide +kernel
theorem dX10_readPart_74 : decode cX10_readPart 74 = .ok (.iload_n 2, 1) := by decide +kernel
theorem dX10_readPart_75 : decode cX10_readPart 75 = .ok (.bipush 50, 2) := by decide +kernel
theorem dX10_readPart_77 : decode cX10_readPart 77 = .ok (.if_icmp .ne 18, 3) := by decide +kernel
theorem dX10_readPart_80 : decode cX10_readPart 80 = .ok (.aload_n 0, 1) := by decide +kernel
theorem dX10_readPart_81 : decode cX10_readPart 81 = .ok (.getfield 43, 3) := by decide +kernel
theorem dX10_readPart_84 : decode cX10_readPart 84 = .ok (.aload_n 0, 1) := by decide +kernel
theorem dX10_readPart_85 : decode cX10_readPart 85 = .ok (.getfield 136, 3) := by decide +kernel
theorem dX10_readPart_88 : decode cX10_readPart 88 = .ok (.iaload, 1) := by decide +kernel
theorem dX10_readPart_89 : decode cX10_readPart 89 = .ok (.sipush 1000, 3) := by decide +kernel
theorem dX10_readPart_92 : decode cX10_readPart 92 = .ok (.if_icmp .le 15, 3) := by decide +kernel
theorem dX10_readPart_95 : decode cX10_readPart 95 = .ok (.iload_n 2, 1) := by decide +kernel
theorem dX10_readPart_96 : decode cX10_readPart 96 = .ok (.bipush 6, 2) := by decide +kernel
theorem dX10_readPart_98 : decode cX10_readPart 98 = .ok (.if_icmp .lt 16, 3) := by decide +kernel
theorem dX10_readPart_101 : decode cX10_readPart 101 = .ok (.iload_n 2, 1) := by decide +kernel
theorem dX10_readPart_102 : decode cX10_readPart 102 = .ok (.bipush 14, 2) := by decide +kernel
theorem dX10_readPart_104 : decode cX10_readPart 104 = .ok (.if_icmp .gt 10, 3) := by decide +kernel
theorem dX10_readPart_107 : decode cX10_readPart 107 = .ok (.aload_n 0, 1) := by decide +kernel
theorem dX10_readPart_108 : decode cX10_readPart 108 = .ok (.invokevirtual 174, 3) := by decide +kernel
theorem dX10_readPart_111 : decode cX10_readPart 111 = .ok (.goto 7, 3) := by decide +kernel
theorem dX10_readPart_114 : decode cX10_readPart 114 = .ok (.aload_n 0, 1) := by decide +kernel
theorem dX10_readPart_115 : decode cX10_readPart 115 = .ok (.invokevirtual 142, 3) := by decide +kernel
theorem dX10_readPart_118 : decode cX10_readPart 118 = .ok (.return_, 1) := by decide +kernel
theorem dX10_reads_0 : decode cX10_reads 0 = .ok (.aload_n 0, 1) := by decide +kernel
theorem dX10_reads_1 : decode cX10_reads 1 = .ok (.aload_n 0, 1) := by decide +kernel
theorem dX10_reads_2 : decode cX10_reads 2 = .ok (.getfield 110, 3) := by decide +kernel
theorem dX10_reads_5 : decode cX10_reads 5 = .ok (.invokevirtual 177, 3) := by decide +kernel
theorem dX10_reads_8 : decode cX10_reads 8 = .ok (.aload_n 0, 1) := by decide +kernel
theorem dX10_reads_9 : decode cX10_reads 9 = .ok (.iconst 0, 1) := by decide +kernel
theorem dX10_reads_10 : decode cX10_reads 10 = .ok (.putfield 110, 3) := by decide +kernel
theorem dX10_reads_13 : decode cX10_reads 13 = .ok (.aload_n 0, 1) := by decide +kernel
theorem dX10_reads_14 : decode cX10_reads 14 = .ok (.iconst 0, 1) := by decide +kernel
theorem dX10_reads_15 : decode cX10_reads 15 = .ok (.putfield 136, 3) := by decide +kernel
theorem dX10_reads_18 : decode cX10_reads 18 = .ok (.aload_n 0, 1) := by decide +kernel
theorem dX10_reads_19 : decode cX10_reads 19 = .ok (.iconst 0, 1) := by decide +kernel
theorem dX10_reads_20 : decode cX10_reads 20 = .ok (.putfield 145, 3) := by decide +kernel
theorem dX10_reads_23 : decode cX10_reads 23 = .ok (.aload_n 0, 1) := by decide +kernel
theorem dX10_reads_24 : decode cX10_reads 24 = .ok (.iconst (-1), 1) := by decide +kernel
theorem dX10_reads_25 : decode cX10_reads 25 = .ok (.putfield 129, 3) := by decide +kernel
theorem dX10_reads_28 : decode cX10_reads 28 = .ok (.aload_n 0, 1) := by decide +kernel
theorem dX10_reads_29 : decode cX10_reads 29 = .ok (.invokevirtual 180, 3) := by decide +kernel
theorem dX10_reads_32 : decode cX10_reads 32 = .ok (.iconst 1, 1) := by decide +kernel
theorem dX10_reads_33 : decode cX10_reads 33 = .ok (.istore_n 1, 1) := by decide +kernel
theorem dX10_reads_34 : decode cX10_reads 34 = .ok (.aload_n 0, 1) := by decide +kernel
theorem dX10_reads_35 : decode cX10_reads 35 = .ok (.bipush 59, 2) := by decide +kernel
theorem dX10_reads_37 : decode cX10_reads 37 = .ok (.invokestatic 164, 3) := by decide +kernel
theorem dX10_reads_40 : decode cX10_reads 40 = .ok (.invokevirtual 139, 3) := by decide +kernel
theorem dX10_reads_43 : decode cX10_reads 43 = .ok (.ifCond .eq 30, 3) := by decide +kernel
theorem dX10_reads_46 : decode cX10_reads 46 = .ok (.iload_n 1, 1) := by decide +kernel
theorem dX10_reads_47 : decode cX10_reads 47 = .ok (.bipush 12, 2) := by decide +kernel
theorem dX10_reads_49 : decode cX10_reads 49 = .ok (.if_icmp .ne 7, 3) := by decide +kernel
theorem dX10_reads_52 : decode cX10_reads 52 = .ok (.aload_n 0, 1) := by decide +kernel
theorem dX10_reads_53 : decode cX10_reads 53 = .ok (.invokevirtual 142, 3) := by decide +kernel
theorem dX10_reads_56 : decode cX10_reads 56 = .ok (.aload_n 0, 1) := by decide +kernel
theorem dX10_reads_57 : decode cX10_reads 57 = .ok (.invokevirtual 132, 3) := by decide +kernel
theorem dX10_reads_60 : decode cX10_reads 60 = .ok (.ifCond .eq 7, 3) := by decide +kernel
theorem dX10_reads_63 : decode cX10_reads 63 = .ok (.aload_n 0, 1) := by decide +kernel
theorem dX10_reads_64 : decode cX10_reads 64 = .ok (.invokevirtual 180, 3) := by decide +kernel
theorem dX10_reads_67 : decode cX10_reads 67 = .ok (.iinc 1 1, 3) := by decide +kernel
theorem dX10_reads_70 : decode cX10_reads 70 = .ok (.goto (-36), 3) := by decide +kernel
theorem dX10_reads_73 : decode cX10_reads 73 = .ok (.aload_n 0, 1) := by decide +kernel
theorem dX10_reads_74 : decode cX10_reads 74 = .ok (.invokevirtual 132, 3) := by decide +kernel
theorem dX10_reads_77 : decode cX10_reads 77 = .ok (.ifCond .eq 18, 3) := by decide +kernel
theorem dX10_reads_80 : decode cX10_reads 80 = .ok (.aload_n 0, 1) := by decide +kernel
theorem dX10_reads_81 : decode cX10_reads 81 = .ok (.getfield 136, 3) := by decide +kernel
theorem dX10_reads_84 : decode cX10_reads 84 = .ok (.aload_n 0, 1) := by decide +kernel
theorem dX10_reads_85 : decode cX10_reads 85 = .ok (.getfield 116, 3) := by decide +kernel
theorem dX10_reads_88 : decode cX10_reads 88 = .ok (.if_icmp .ge 7, 3) := by decide +kernel
theorem dX10_reads_91 : decode cX10_reads 91 = .ok (.aload_n 0, 1) := by decide +kernel
theorem dX10_reads_92 : decode cX10_reads 92 = .ok (.invokevirtual 142, 3) := by decide +kernel
theorem dX10_reads_95 : decode cX10_reads 95 = .ok (.aload_n 0, 1) := by decide +kernel
theorem dX10_reads_96 : decode cX10_reads 96 = .ok (.aload_n 0, 1) := by decide +kernel
theorem dX10_reads_97 : decode cX10_reads 97 = .ok (.getfield 129, 3) := by decide +kernel
theorem dX10_reads_100 : decode cX10_reads 100 = .ok (.putfield 37, 3) := by decide +kernel
theorem dX10_reads_103 : decode cX10_reads 103 = .ok (.aload_n 0, 1) := by decide +kernel
theorem dX10_reads_104 : decode cX10_reads 104 = .ok (.invokevirtual 132, 3) := by decide +kernel
theorem dX10_reads_107 : decode cX10_reads 107 = .ok (.ireturn, 1) := by decide +kernel
theorem dX10_law_0 : decode cX10_law 0 = .ok (.aload_n 0, 1) := by decide +kernel
theorem dX10_law_1 : decode cX10_law 1 = .ok (.getfield 17, 3) := by decide +kernel
theorem dX10_law_4 : decode cX10_law 4 = .ok (.sipush 179, 3) := by decide +kernel
theorem dX10_law_7 : decode cX10_law 7 = .ok (.iaload, 1) := by decide +kernel
theorem dX10_law_8 : decode cX10_law 8 = .ok (.bipush 6, 2) := by decide +kernel
theorem dX10_law_10 : decode cX10_law 10 = .ok (.if_icmp .ne 15, 3) := by decide +kernel
theorem dX10_law_13 : decode cX10_law 13 = .ok (.aload_n 0, 1) := by decide +kernel
theorem dX10_law_14 : decode cX10_law 14 = .ok (.iconst 0, 1) := by decide +kernel
theorem dX10_law_15 : decode cX10_law 15 = .ok (.putfield 110, 3) := by decide +kernel
theorem dX10_law_18 : decode cX10_law 18 = .ok (.aload_n 0, 1) := by decide +kernel
theorem dX10_law_19 : decode cX10_law 19 = .ok (.bipush (-5), 2) := by decide +kernel
theorem dX10_law_21 : decode cX10_law 21 = .ok (.invokevirtual 77, 3) := by decide +kernel
theorem dX10_law_24 : decode cX10_law 24 = .ok (.ireturn, 1) := by decide +kernel
theorem dX10_law_25 : decode cX10_law 25 = .ok (.aload_n 0, 1) := by decide +kernel
theorem dX10_law_26 : decode cX10_law 26 = .ok (.invokevirtual 183, 3) := by decide +kernel
theorem dX10_law_29 : decode cX10_law 29 = .ok (.ifCond .ne 10, 3) := by decide +kernel
theorem dX10_law_32 : decode cX10_law 32 = .ok (.aload_n 0, 1) := by decide +kernel
theorem dX10_law_33 : decode cX10_law 33 = .ok (.bipush (-6), 2) := by decide +kernel
theorem dX10_law_35 : decode cX10_law 35 = .ok (.invokevirtual 77, 3) := by decide +kernel
theorem dX10_law_38 : decode cX10_law 38 = .ok (.ireturn, 1) := by decide +kernel
theorem dX10_law_39 : decode cX10_law 39 = .ok (.aload_n 0, 1) := by decide +kernel
theorem dX10_law_40 : decode cX10_law 40 = .ok (.getfield 17, 3) := by decide +kernel
theorem dX10_law_43 : decode cX10_law 43 = .ok (.sipush 179, 3) := by decide +kernel
theorem dX10_law_46 : decode cX10_law 46 = .ok (.iaload, 1) := by decide +kernel
theorem dX10_law_47 : decode cX10_law 47 = .ok (.istore_n 1, 1) := by decide +kernel
theorem dX10_law_48 : decode cX10_law 48 = .ok (.aload_n 0, 1) := by decide +kernel
theorem dX10_law_49 : decode cX10_law 49 = .ok (.getfield 17, 3) := by decide +kernel
theorem dX10_law_52 : decode cX10_law 52 = .ok (.sipush 181, 3) := by decide +kernel
theorem dX10_law_55 : decode cX10_law 55 = .ok (.iload_n 1, 1) := by decide +kernel
theorem dX10_law_56 : decode cX10_law 56 = .ok (.iadd, 1) := by decide +kernel
theorem dX10_law_57 : decode cX10_law 57 = .ok (.aload_n 0, 1) := by decide +kernel
theorem dX10_law_58 : decode cX10_law 58 = .ok (.getfield 116, 3) := by decide +kernel
theorem dX10_law_61 : decode cX10_law 61 = .ok (.iastore, 1) := by decide +kernel
theorem dX10_law_62 : decode cX10_law 62 = .ok (.iconst 0, 1) := by decide +kernel
theorem dX10_law_63 : decode cX10_law 63 = .ok (.istore_n 2, 1) := by decide +kernel
theorem dX10_law_64 : decode cX10_law 64 = .ok (.iload_n 2, 1) := by decide +kernel
theorem dX10_law_65 : decode cX10_law 65 = .ok (.aload_n 0, 1) := by decide +kernel
theorem dX10_law_66 : decode cX10_law 66 = .ok (.getfield 116, 3) := by decide +kernel
theorem dX10_law_69 : decode cX10_law 69 = .ok (.if_icmp .ge 53, 3) := by decide +kernel
theorem dX10_law_72 : decode cX10_law 72 = .ok (.aload_n 0, 1) := by decide +kernel
theorem dX10_law_73 : decode cX10_law 73 = .ok (.getfield 17, 3) := by decide +kernel
theorem dX10_law_76 : decode cX10_law 76 = .ok (.sipush 187, 3) := by decide +kernel
theorem dX10_law_79 : decode cX10_law 79 = .ok (.sipush 400, 3) := by decide +kernel
theorem dX10_law_82 : decode cX10_law 82 = .ok (.iload_n 1, 1) := by decide +kernel
theorem dX10_law_83 : decode cX10_law 83 = .ok (.imul, 1) := by decide +kernel
theorem dX10_law_84 : decode cX10_law 84 = .ok (.iadd, 1) := by decide +kernel
theorem dX10_law_85 : decode cX10_law 85 = .ok (.iload_n 2, 1) := by decide +kernel
theorem dX10_law_86 : decode cX10_law 86 = .ok (.iadd, 1) := by decide +kernel
theorem dX10_law_87 : decode cX10_law 87 = .ok (.aload_n 0, 1) := by decide +kernel
theorem dX10_law_88 : decode cX10_law 88 = .ok (.getfield 40, 3) := by decide +kernel
theorem dX10_law_91 : decode cX10_law 91 = .ok (.iload_n 2, 1) := by decide +kernel
theorem dX10_law_92 : decode cX10_law 92 = .ok (.iaload, 1) := by decide +kernel
theorem dX10_law_93 : decode cX10_law 93 = .ok (.iastore, 1) := by decide +kernel
theorem dX10_law_94 : decode cX10_law 94 = .ok (.aload_n 0, 1) := by decide +kernel
theorem dX10_law_95 : decode cX10_law 95 = .ok (.getfield 17, 3) := by decide +kernel
theorem dX10_law_98 : decode cX10_law 98 = .ok (.sipush 2587, 3) := by decide +kernel
theorem dX10_law_101 : decode cX10_law 101 = .ok (.sipush 400, 3) := by decide +kernel
theorem dX10_law_104 : decode cX10_law 104 = .ok (.iload_n 1, 1) := by decide +kernel
theorem dX10_law_105 : decode cX10_law 105 = .ok (.imul, 1) := by decide +kernel
theorem dX10_law_106 : decode cX10_law 106 = .ok (.iadd, 1) := by decide +kernel
theorem dX10_law_107 : decode cX10_law 107 = .ok (.iload_n 2, 1) := by decide +kernel
theorem dX10_law_108 : decode cX10_law 108 = .ok (.iadd, 1) := by decide +kernel
theorem dX10_law_109 : decode cX10_law 109 = .ok (.aload_n 0, 1) := by decide +kernel
theorem dX10_law_110 : decode cX10_law 110 = .ok (.getfield 43, 3) := by decide +kernel
theorem dX10_law_113 : decode cX10_law 113 = .ok (.iload_n 2, 1) := by decide +kernel
theorem dX10_law_114 : decode cX10_law 114 = .ok (.iaload, 1) := by decide +kernel
theorem dX10_law_115 : decode cX10_law 115 = .ok (.iastore, 1) := by decide +kernel
theorem dX10_law_116 : decode cX10_law 116 = .ok (.iinc 2 1, 3) := by decide +kernel
theorem dX10_law_119 : decode cX10_law 119 = .ok (.goto (-55), 3) := by decide +kernel
theorem dX10_law_122 : decode cX10_law 122 = .ok (.aload_n 0, 1) := by decide +kernel
theorem dX10_law_123 : decode cX10_law 123 = .ok (.getfield 17, 3) := by decide +kernel
theorem dX10_law_126 : decode cX10_law 126 = .ok (.sipush 179, 3) := by decide +kernel
theorem dX10_law_129 : decode cX10_law 129 = .ok (.dup2, 1) := by decide +kernel
theorem dX10_law_130 : decode cX10_law 130 = .ok (.iaload, 1) := by decide +kernel
theorem dX10_law_131 : decode cX10_law 131 = .ok (.iconst 1, 1) := by decide +kernel
theorem dX10_law_132 : decode cX10_law 132 = .ok (.iadd, 1) := by decide +kernel
theorem dX10_law_133 : decode cX10_law 133 = .ok (.iastore, 1) := by decide +kernel
theorem dX10_law_134 : decode cX10_law 134 = .ok (.aload_n 0, 1) := by decide +kernel
theorem dX10_law_135 : decode cX10_law 135 = .ok (.iload_n 1, 1) := by decide +kernel
theorem dX10_law_136 : decode cX10_law 136 = .ok (.invokevirtual 81, 3) := by decide +kernel
theorem dX10_law_139 : decode cX10_law 139 = .ok (.ireturn, 1) := by decide +kernel
theorem dX10_fault_0 : decode cX10_fault 0 = .ok (.aload_n 0, 1) := by decide +kernel
theorem dX10_fault_1 : decode cX10_fault 1 = .ok (.getfield 37, 3) := by decide +kernel
theorem dX10_fault_4 : decode cX10_fault 4 = .ok (.ireturn, 1) := by decide +kernel
theorem dX10_force_0 : decode cX10_force 0 = .ok (.iload_n 1, 1) := by decide +kernel
theorem dX10_force_1 : decode cX10_force 1 = .ok (.iconst (-1), 1) := by decide +kernel
theorem dX10_force_2 : decode cX10_force 2 = .ok (.aload_n 0, 1) := by decide +kernel
theorem dX10_force_3 : decode cX10_force 3 = .ok (.getfield 17, 3) := by decide +kernel
theorem dX10_force_6 : decode cX10_force 6 = .ok (.sipush 179, 3) := by decide +kernel
theorem dX10_force_9 : decode cX10_force 9 = .ok (.iaload, 1) := by decide +kernel
theorem dX10_force_10 : decode cX10_force 10 = .ok (.iconst 1, 1) := by decide +kernel
theorem dX10_force_11 : decode cX10_force 11 = .ok (.isub, 1) := by decide +kernel
theorem dX10_force_12 : decode cX10_force 12 = .ok (.invokestatic 73, 3) := by decide +kernel
theorem dX10_force_15 : decode cX10_force 15 = .ok (.ifCond .ne 10, 3) := by decide +kernel
theorem dX10_force_18 : decode cX10_force 18 = .ok (.aload_n 0, 1) := by decide +kernel
theorem dX10_force_19 : decode cX10_force 19 = .ok (.bipush (-2), 2) := by decide +kernel
theorem dX10_force_21 : decode cX10_force 21 = .ok (.invokevirtual 77, 3) := by decide +kernel
theorem dX10_force_24 : decode cX10_force 24 = .ok (.ireturn, 1) := by decide +kernel
theorem dX10_force_25 : decode cX10_force 25 = .ok (.aload_n 0, 1) := by decide +kernel
theorem dX10_force_26 : decode cX10_force 26 = .ok (.getfield 17, 3) := by decide +kernel
theorem dX10_force_29 : decode cX10_force 29 = .ok (.sipush 180, 3) := by decide +kernel
theorem dX10_force_32 : decode cX10_force 32 = .ok (.iaload, 1) := by decide +kernel
theorem dX10_force_33 : decode cX10_force 33 = .ok (.istore_n 2, 1) := by decide +kernel
theorem dX10_force_34 : decode cX10_force 34 = .ok (.aload_n 0, 1) := by decide +kernel
theorem dX10_force_35 : decode cX10_force 35 = .ok (.getfield 17, 3) := by decide +kernel
theorem dX10_force_38 : decode cX10_force 38 = .ok (.sipush 180, 3) := by decide +kernel
theorem dX10_force_41 : decode cX10_force 41 = .ok (.iload_n 1, 1) := by decide +kernel
theorem dX10_force_42 : decode cX10_force 42 = .ok (.iastore, 1) := by decide +kernel
theorem dX10_force_43 : decode cX10_force 43 = .ok (.aload_n 0, 1) := by decide +kernel
theorem dX10_force_44 : decode cX10_force 44 = .ok (.iload_n 2, 1) := by decide +kernel
theorem dX10_force_45 : decode cX10_force 45 = .ok (.invokevirtual 81, 3) := by decide +kernel
theorem dX10_force_48 : decode cX10_force 48 = .ok (.ireturn, 1) := by decide +kernel
theorem dX10_codeAt_0 : decode cX10_codeAt 0 = .ok (.iload_n 1, 1) := by decide +kernel
theorem dX10_codeAt_1 : decode cX10_codeAt 1 = .ok (.aload_n 0, 1) := by decide +kernel
theorem dX10_codeAt_2 : decode cX10_codeAt 2 = .ok (.getfield 186, 3) := by decide +kernel
theorem dX10_codeAt_5 : decode cX10_codeAt 5 = .ok (.if_icmp .ge 16, 3) := by decide +kernel
theorem dX10_codeAt_8 : decode cX10_codeAt 8 = .ok (.aload_n 0, 1) := by decide +kernel
theorem dX10_codeAt_9 : decode cX10_codeAt 9 = .ok (.getfield 17, 3) := by decide +kernel
theorem dX10_codeAt_12 : decode cX10_codeAt 12 = .ok (.sipush 187, 3) := by decide +kernel
theorem dX10_codeAt_15 : decode cX10_codeAt 15 = .ok (.iload_n 1, 1) := by decide +kernel
theorem dX10_codeAt_16 : decode cX10_codeAt 16 = .ok (.iadd, 1) := by decide +kernel
theorem dX10_codeAt_17 : decode cX10_codeAt 17 = .ok (.iaload, 1) := by decide +kernel
theorem dX10_codeAt_18 : decode cX10_codeAt 18 = .ok (.goto 4, 3) := by decide +kernel
theorem dX10_codeAt_21 : decode cX10_codeAt 21 = .ok (.iconst 0, 1) := by decide +kernel
theorem dX10_codeAt_22 : decode cX10_codeAt 22 = .ok (.ireturn, 1) := by decide +kernel
theorem dX10_passes0_0 : decode cX10_passes0 0 = .ok (.aload_n 0, 1) := by decide +kernel
theorem dX10_passes0_1 : decode cX10_passes0 1 = .ok (.aload_n 0, 1) := by decide +kernel
theorem dX10_passes0_2 : decode cX10_passes0 2 = .ok (.getfield 189, 3) := by decide +kernel
theorem dX10_passes0_5 : decode cX10_passes0 5 = .ok (.invokevirtual 192, 3) := by decide +kernel
theorem dX10_passes0_8 : decode cX10_passes0 8 = .ok (.iload_n 1, 1) := by decide +kernel
theorem dX10_passes0_9 : decode cX10_passes0 9 = .ok (.if_icmp .ne 7, 3) := by decide +kernel
theorem dX10_passes0_12 : decode cX10_passes0 12 = .ok (.iconst 1, 1) := by decide +kernel
theorem dX10_passes0_13 : decode cX10_passes0 13 = .ok (.goto 4, 3) := by decide +kernel
theorem dX10_passes0_16 : decode cX10_passes0 16 = .ok (.iconst 0, 1) := by decide +kernel
theorem dX10_passes0_17 : decode cX10_passes0 17 = .ok (.istore_n 2, 1) := by decide +kernel
theorem dX10_passes0_18 : decode cX10_passes0 18 = .ok (.iload_n 2, 1) := by decide +kernel
theorem dX10_passes0_19 : decode cX10_passes0 19 = .ok (.ifCond .eq 13, 3) := by decide +kernel
theorem dX10_passes0_22 : decode cX10_passes0 22 = .ok (.aload_n 0, 1) := by decide +kernel
theorem dX10_passes0_23 : decode cX10_passes0 23 = .ok (.dup, 1) := by decide +kernel
theorem dX10_passes0_24 : decode cX10_passes0 24 = .ok (.getfield 189, 3) := by decide +kernel
theorem dX10_passes0_27 : decode cX10_passes0 27 = .ok (.iconst 1, 1) := by decide +kernel
theorem dX10_passes0_28 : decode cX10_passes0 28 = .ok (.iadd, 1) := by decide +kernel
theorem dX10_passes0_29 : decode cX10_passes0 29 = .ok (.putfield 189, 3) := by decide +kernel
theorem dX10_passes0_32 : decode cX10_passes0 32 = .ok (.iload_n 2, 1) := by decide +kernel
theorem dX10_passes0_33 : decode cX10_passes0 33 = .ok (.ireturn, 1) := by decide +kernel
theorem dX10_bounded_0 : decode cX10_bounded 0 = .ok (.iload_n 3, 1) := by decide +kernel
theorem dX10_bounded_1 : decode cX10_bounded 1 = .ok (.ifCond .eq 24, 3) := by decide +kernel
theorem dX10_bounded_4 : decode cX10_bounded 4 = .ok (.lload_n 1, 1) := by decide +kernel
theorem dX10_bounded_5 : decode cX10_bounded 5 = .ok (.ldc2_w 195, 3) := by decide +kernel
theorem dX10_bounded_8 : decode cX10_bounded 8 = .ok (.lcmp, 1) := by decide +kernel
theorem dX10_bounded_9 : decode cX10_bounded 9 = .ok (.ifCond .gt 11, 3) := by decide +kernel
theorem dX10_bounded_12 : decode cX10_bounded 12 = .ok (.lload_n 1, 1) := by decide +kernel
theorem dX10_bounded_13 : decode cX10_bounded 13 = .ok (.ldc2_w 197, 3) := by decide +kernel
theorem dX10_bounded_16 : decode cX10_bounded 16 = .ok (.lcmp, 1) := by decide +kernel
theorem dX10_bounded_17 : decode cX10_bounded 17 = .ok (.ifCond .ge 8, 3) := by decide +kernel
theorem dX10_bounded_20 : decode cX10_bounded 20 = .ok (.aload_n 0, 1) := by decide +kernel
theorem dX10_bounded_21 : decode cX10_bounded 21 = .ok (.iconst 1, 1) := by decide +kernel
theorem dX10_bounded_22 : decode cX10_bounded 22 = .ok (.putfield 199, 3) := by decide +kernel
theorem dX10_bounded_25 : decode cX10_bounded 25 = .ok (.aload_n 0, 1) := by decide +kernel
theorem dX10_bounded_26 : decode cX10_bounded 26 = .ok (.getfield 199, 3) := by decide +kernel
theorem dX10_bounded_29 : decode cX10_bounded 29 = .ok (.ifCond .eq 7, 3) := by decide +kernel
theorem dX10_bounded_32 : decode cX10_bounded 32 = .ok (.lconst 0, 1) := by decide +kernel
theorem dX10_bounded_33 : decode cX10_bounded 33 = .ok (.goto 4, 3) := by decide +kernel
theorem dX10_bounded_36 : decode cX10_bounded 36 = .ok (.lload_n 1, 1) := by decide +kernel
theorem dX10_bounded_37 : decode cX10_bounded 37 = .ok (.lreturn, 1) := by decide +kernel
theorem dX10_sumOf_0 : decode cX10_sumOf 0 = .ok (.aload_n 0, 1) := by decide +kernel
theorem dX10_sumOf_1 : decode cX10_sumOf 1 = .ok (.iload_n 1, 1) := by decide +kernel
theorem dX10_sumOf_2 : decode cX10_sumOf 2 = .ok (.invokevirtual 203, 3) := by decide +kernel
theorem dX10_sumOf_5 : decode cX10_sumOf 5 = .ok (.lstore_n 2, 1) := by decide +kernel
theorem dX10_sumOf_6 : decode cX10_sumOf 6 = .ok (.aload_n 0, 1) := by decide +kernel
theorem dX10_sumOf_7 : decode cX10_sumOf 7 = .ok (.aload_n 0, 1) := by decide +kernel
theorem dX10_sumOf_8 : decode cX10_sumOf 8 = .ok (.getfield 189, 3) := by decide +kernel
theorem dX10_sumOf_11 : decode cX10_sumOf 11 = .ok (.invokevirtual 192, 3) := by decide +kernel
theorem dX10_sumOf_14 : decode cX10_sumOf 14 = .ok (.bipush 43, 2) := by decide +kernel
theorem dX10_sumOf_16 : decode cX10_sumOf 16 = .ok (.invokestatic 164, 3) := by decide +kernel
theorem dX10_sumOf_19 : decode cX10_sumOf 19 = .ok (.if_icmp .eq 19, 3) := by decide +kernel
theorem dX10_sumOf_22 : decode cX10_sumOf 22 = .ok (.aload_n 0, 1) := by decide +kernel
theorem dX10_sumOf_23 : decode cX10_sumOf 23 = .ok (.aload_n 0, 1) := by decide +kernel
theorem dX10_sumOf_24 : decode cX10_sumOf 24 = .ok (.getfield 189, 3) := by decide +kernel
theorem dX10_sumOf_27 : decode cX10_sumOf 27 = .ok (.invokevirtual 192, 3) := by decide +kernel
theorem dX10_sumOf_30 : decode cX10_sumOf 30 = .ok (.bipush 45, 2) := by decide +kernel
theorem dX10_sumOf_32 : decode cX10_sumOf 32 = .ok (.invokestatic 164, 3) := by decide +kernel
theorem dX10_sumOf_35 : decode cX10_sumOf 35 = .ok (.if_icmp .ne 68, 3) := by decide +kernel
theorem dX10_sumOf_38 : decode cX10_sumOf 38 = .ok (.aload_n 0, 1) := by decide +kernel
theorem dX10_sumOf_39 : decode cX10_sumOf 39 = .ok (.aload_n 0, 1) := by decide +kernel
theorem dX10_sumOf_40 : decode cX10_sumOf 40 = .ok (.getfield 189, 3) := by decide +kernel
theorem dX10_sumOf_43 : decode cX10_sumOf 43 = .ok (.invokevirtual 192, 3) := by decide +kernel
theorem dX10_sumOf_46 : decode cX10_sumOf 46 = .ok (.bipush 43, 2) := by decide +kernel
theorem dX10_sumOf_48 : decode cX10_sumOf 48 = .ok (.invokestatic 164, 3) := by decide +kernel
theorem dX10_sumOf_51 : decode cX10_sumOf 51 = .ok (.if_icmp .ne 7, 3) := by decide +kernel
theorem dX10_sumOf_54 : decode cX10_sumOf 54 = .ok (.iconst 1, 1) := by decide +kernel
theorem dX10_sumOf_55 : decode cX10_sumOf 55 = .ok (.goto 4, 3) := by decide +kernel
theorem dX10_sumOf_58 : decode cX10_sumOf 58 = .ok (.iconst 0, 1) := by decide +kernel
theorem dX10_sumOf_59 : decode cX10_sumOf 59 = .ok (.istore 4, 2) := by decide +kernel
theorem dX10_sumOf_61 : decode cX10_sumOf 61 = .ok (.aload_n 0, 1) := by decide +kernel
theorem dX10_sumOf_62 : decode cX10_sumOf 62 = .ok (.dup, 1) := by decide +kernel
theorem dX10_sumOf_63 : decode cX10_sumOf 63 = .ok (.getfield 189, 3) := by decide +kernel
theorem dX10_sumOf_66 : decode cX10_sumOf 66 = .ok (.iconst 1, 1) := by decide +kernel
theorem dX10_sumOf_67 : decode cX10_sumOf 67 = .ok (.iadd, 1) := by decide +kernel
theorem dX10_sumOf_68 : decode cX10_sumOf 68 = .ok (.putfield 189, 3) := by decide +kernel
theorem dX10_sumOf_71 : decode cX10_sumOf 71 = .ok (.aload_n 0, 1) := by decide +kernel
theorem dX10_sumOf_72 : decode cX10_sumOf 72 = .ok (.iload_n 1, 1) := by decide +kernel
theorem dX10_sumOf_73 : decode cX10_sumOf 73 = .ok (.invokevirtual 203, 3) := by decide +kernel
theorem dX10_sumOf_76 : decode cX10_sumOf 76 = .ok (.lstore 5, 2) := by decide +kernel
theorem dX10_sumOf_78 : decode cX10_sumOf 78 = .ok (.aload_n 0, 1) := by decide +kernel
theorem dX10_sumOf_79 : decode cX10_sumOf 79 = .ok (.iload 4, 2) := by decide +kernel
theorem dX10_sumOf_81 : decode cX10_sumOf 81 = .ok (.ifCond .eq 10, 3) := by decide +kernel
theorem dX10_sumOf_84 : decode cX10_sumOf 84 = .ok (.lload_n 2, 1) := by decide +kernel
theorem dX10_sumOf_85 : decode cX10_sumOf 85 = .ok (.lload 5, 2) := by decide +kernel
theorem dX10_sumOf_87 : decode cX10_sumOf 87 = .ok (.ladd, 1) := by decide +kernel
theorem dX10_sumOf_88 : decode cX10_sumOf 88 = .ok (.goto 7, 3) := by decide +kernel
theorem dX10_sumOf_91 : decode cX10_sumOf 91 = .ok (.lload_n 2, 1) := by decide +kernel
theorem dX10_sumOf_92 : decode cX10_sumOf 92 = .ok (.lload 5, 2) := by decide +kernel
theorem dX10_sumOf_94 : decode cX10_sumOf 94 = .ok (.lsub, 1) := by decide +kernel
theorem dX10_sumOf_95 : decode cX10_sumOf 95 = .ok (.iload_n 1, 1) := by decide +kernel
theorem dX10_sumOf_96 : decode cX10_sumOf 96 = .ok (.invokevirtual 207, 3) := by decide +kernel
theorem dX10_sumOf_99 : decode cX10_sumOf 99 = .ok (.lstore_n 2, 1) := by decide +kernel
theorem dX10_sumOf_100 : decode cX10_sumOf 100 = .ok (.goto (-94), 3) := by decide +kernel
theorem dX10_sumOf_103 : decode cX10_sumOf 103 = .ok (.lload_n 2, 1) := by decide +kernel
theorem dX10_sumOf_104 : decode cX10_sumOf 104 = .ok (.lreturn, 1) := by decide +kernel
theorem dX10_termOf_0 : decode cX10_termOf 0 = .ok (.aload_n 0, 1) := by decide +kernel
theorem dX10_termOf_1 : decode cX10_termOf 1 = .ok (.iload_n 1, 1) := by decide +kernel
theorem dX10_termOf_2 : decode cX10_termOf 2 = .ok (.invokevirtual 211, 3) := by decide +kernel
theorem dX10_termOf_5 : decode cX10_termOf 5 = .ok (.lstore_n 2, 1) := by decide +kernel
theorem dX10_termOf_6 : decode cX10_termOf 6 = .ok (.aload_n 0, 1) := by decide +kernel
theorem dX10_termOf_7 : decode cX10_termOf 7 = .ok (.aload_n 0, 1) := by decide +kernel
theorem dX10_termOf_8 : decode cX10_termOf 8 = .ok (.getfield 189, 3) := by decide +kernel
theorem dX10_termOf_11 : decode cX10_termOf 11 = .ok (.invokevirtual 192, 3) := by decide +kernel
theorem dX10_termOf_14 : decode cX10_termOf 14 = .ok (.bipush 42, 2) := by decide +kernel
theorem dX10_termOf_16 : decode cX10_termOf 16 = .ok (.invokestatic 164, 3) := by decide +kernel
theorem dX10_termOf_19 : decode cX10_termOf 19 = .ok (.if_icmp .eq 19, 3) := by decide +kernel
theorem dX10_termOf_22 : decode cX10_termOf 22 = .ok (.aload_n 0, 1) := by decide +kernel
theorem dX10_termOf_23 : decode cX10_termOf 23 = .ok (.aload_n 0, 1) := by decide +kernel
theorem dX10_termOf_24 : decode cX10_termOf 24 = .ok (.getfield 189, 3) := by decide +kernel
theorem dX10_termOf_27 : decode cX10_termOf 27 = .ok (.invokevirtual 192, 3) := by decide +kernel
theorem dX10_termOf_30 : decode cX10_termOf 30 = .ok (.bipush 47, 2) := by decide +kernel
theorem dX10_termOf_32 : decode cX10_termOf 32 = .ok (.invokestatic 164, 3) := by decide +kernel
theorem dX10_termOf_35 : decode cX10_termOf 35 = .ok (.if_icmp .ne 103, 3) := by decide +kernel
theorem dX10_termOf_38 : decode cX10_termOf 38 = .ok (.aload_n 0, 1) := by decide +kernel
theorem dX10_termOf_39 : decode cX10_termOf 39 = .ok (.aload_n 0, 1) := by decide +kernel
theorem dX10_termOf_40 : decode cX10_termOf 40 = .ok (.getfield 189, 3) := by decide +kernel
theorem dX10_termOf_43 : decode cX10_termOf 43 = .ok (.invokevirtual 192, 3) := by decide +kernel
theorem dX10_termOf_46 : decode cX10_termOf 46 = .ok (.bipush 42, 2) := by decide +kernel
theorem dX10_termOf_48 : decode cX10_termOf 48 = .ok (.invokestatic 164, 3) := by decide +kernel
theorem dX10_termOf_51 : decode cX10_termOf 51 = .ok (.if_icmp .ne 7, 3) := by decide +kernel
theorem dX10_termOf_54 : decode cX10_termOf 54 = .ok (.iconst 1, 1) := by decide +kernel
theorem dX10_termOf_55 : decode cX10_termOf 55 = .ok (.goto 4, 3) := by decide +kernel
theorem dX10_termOf_58 : decode cX10_termOf 58 = .ok (.iconst 0, 1) := by decide +kernel
theorem dX10_termOf_59 : decode cX10_termOf 59 = .ok (.istore 4, 2) := by decide +kernel
theorem dX10_termOf_61 : decode cX10_termOf 61 = .ok (.aload_n 0, 1) := by decide +kernel
theorem dX10_termOf_62 : decode cX10_termOf 62 = .ok (.dup, 1) := by decide +kernel
theorem dX10_termOf_63 : decode cX10_termOf 63 = .ok (.getfield 189, 3) := by decide +kernel
theorem dX10_termOf_66 : decode cX10_termOf 66 = .ok (.iconst 1, 1) := by decide +kernel
theorem dX10_termOf_67 : decode cX10_termOf 67 = .ok (.iadd, 1) := by decide +kernel
theorem dX10_termOf_68 : decode cX10_termOf 68 = .ok (.putfield 189, 3) := by decide +kernel
theorem dX10_termOf_71 : decode cX10_termOf 71 = .ok (.aload_n 0, 1) := by decide +kernel
theorem dX10_termOf_72 : decode cX10_termOf 72 = .ok (.iload_n 1, 1) := by decide +kernel
theorem dX10_termOf_73 : decode cX10_termOf 73 = .ok (.invokevirtual 211, 3) := by decide +kernel
theorem dX10_termOf_76 : decode cX10_termOf 76 = .ok (.lstore 5, 2) := by decide +kernel
theorem dX10_termOf_78 : decode cX10_termOf 78 = .ok (.iload 4, 2) := by decide +kernel
theorem dX10_termOf_80 : decode cX10_termOf 80 = .ok (.ifCond .ne 33, 3) := by decide +kernel
theorem dX10_termOf_83 : decode cX10_termOf 83 = .ok (.lload 5, 2) := by decide +kernel
