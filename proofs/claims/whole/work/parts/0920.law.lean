theorem cvL_13 : kw_CV RL 13 yX9_village cX9_village 6 (some .int) 4 := ⟨⟨Or.inl (kw_inT (List.mem_of_getElem? (i := 418) (by decide +kernel)) (by decide +kernel)), (kw_inT (List.mem_of_getElem? (i := 421) (by decide +kernel)) (by decide +kernel)), (kw_inT (List.mem_of_getElem? (i := 76) (by decide +kernel)) (by decide +kernel)), by decide +kernel⟩, (kw_inT (List.mem_of_getElem? (i := 419) (by decide +kernel)) (by decide +kernel)), (kw_inT (List.mem_of_getElem? (i := 420) (by decide +kernel)) (by decide +kernel))⟩
theorem cvL_17 : kw_CV RL 17 yX10_village cX10_village 6 (some .int) 4 := ⟨⟨Or.inl (kw_inT (List.mem_of_getElem? (i := 1071) (by decide +kernel)) (by decide +kernel)), (kw_inT (List.mem_of_getElem? (i := 1074) (by decide +kernel)) (by decide +kernel)), (kw_inT (List.mem_of_getElem? (i := 86) (by decide +kernel)) (by decide +kernel)), by decide +kernel⟩, (kw_inT (List.mem_of_getElem? (i := 1072) (by decide +kernel)) (by decide +kernel)), (kw_inT (List.mem_of_getElem? (i := 1073) (by decide +kernel)) (by decide +kernel))⟩
theorem cvL_18 : kw_CV RL 18 yX9_put cX9_put 8 (some .int) 3 := ⟨⟨Or.inl (kw_inT (List.mem_of_getElem? (i := 444) (by decide +kernel)) (by decide +kernel)), (kw_inT (List.mem_of_getElem? (i := 447) (by decide +kernel)) (by decide +kernel)), (kw_inT (List.mem_of_getElem? (i := 76) (by decide +kernel)) (by decide +kernel)), by decide +kernel⟩, (kw_inT (List.mem_of_getElem? (i := 445) (by decide +kernel)) (by decide +kernel)), (kw_inT (List.mem_of_getElem? (i := 446) (by decide +kernel)) (by decide +kernel))⟩
theorem cvL_22 : kw_CV RL 22 yX10_put cX10_put 5 (some .int) 3 := ⟨⟨Or.inl (kw_inT (List.mem_of_getElem? (i := 1086) (by decide +kernel)) (by decide +kernel)), (kw_inT (List.mem_of_getElem? (i := 1089) (by decide +kernel)) (by decide +kernel)), (kw_inT (List.mem_of_getElem? (i := 86) (by decide +kernel)) (by decide +kernel)), by decide +kernel⟩, (kw_inT (List.mem_of_getElem? (i := 1087) (by decide +kernel)) (by decide +kernel)), (kw_inT (List.mem_of_getElem? (i := 1088) (by decide +kernel)) (by decide +kernel))⟩
theorem cvL_23 : kw_CV RL 23 yX9_hole cX9_hole 6 (some .int) 5 := ⟨⟨Or.inl (kw_inT (List.mem_of_getElem? (i := 455) (by decide +kernel)) (by decide +kernel)), (kw_inT (List.mem_of_getElem? (i := 458) (by decide +kernel)) (by decide +kernel)), (kw_inT (List.mem_of_getElem? (i := 76) (by decide +kernel)) (by decide +kernel)), by decide +kernel⟩, (kw_inT (List.mem_of_getElem? (i := 456) (by decide +kernel)) (by decide +kernel)), (kw_inT (List.mem_of_getElem? (i := 457) (by decide +kernel)) (by decide +kernel))⟩
theorem cvL_27 : kw_CV RL 27 yX10_hole cX10_hole 6 (some .int) 5 := ⟨⟨Or.inl (kw_inT (List.mem_of_getElem? (i := 1098) (by decide +kernel)) (by decide +kernel)), (kw_inT (List.mem_of_getElem? (i := 1101) (by decide +kernel)) (by decide +kernel)), (kw_inT (List.mem_of_getElem? (i := 86) (by decide +kernel)) (by decide +kernel)), by decide +kernel⟩, (kw_inT (List.mem_of_getElem? (i := 1099) (by decide +kernel)) (by decide +kernel)), (kw_inT (List.mem_of_getElem? (i := 1100) (by decide +kernel)) (by decide +kernel))⟩
theorem cvL_28 : kw_CV RL 28 yX9_of cX9_of 3 (some .int) 2 := ⟨⟨Or.inl (kw_inT (List.mem_of_getElem? (i := 459) (by decide +kernel)) (by decide +kernel)), (kw_inT (List.mem_of_getElem? (i := 462) (by decide +kernel)) (by decide +kernel)), (kw_inT (List.mem_of_getElem? (i := 76) (by decide +kernel)) (by decide +kernel)), by decide +kernel⟩, (kw_inT (List.mem_of_getElem? (i := 460) (by decide +kernel)) (by decide +kernel)), (kw_inT (List.mem_of_getElem? (i := 461) (by decide +kernel)) (by decide +kernel))⟩
theorem cvL_32 : kw_CV RL 32 yX10_of cX10_of 3 (some .int) 2 := ⟨⟨Or.inl (kw_inT (List.mem_of_getElem? (i := 1102) (by decide +kernel)) (by decide +kernel)), (kw_inT (List.mem_of_getElem? (i := 1105) (by decide +kernel)) (by decide +kernel)), (kw_inT (List.mem_of_getElem? (i := 86) (by decide +kernel)) (by decide +kernel)), by decide +kernel⟩, (kw_inT (List.mem_of_getElem? (i := 1103) (by decide +kernel)) (by decide +kernel)), (kw_inT (List.mem_of_getElem? (i := 1104) (by decide +kernel)) (by decide +kernel))⟩
theorem cvL_33 : kw_CV RL 33 yX9_paint cX9_paint 5 (some .int) 3 := ⟨⟨Or.inl (kw_inT (List.mem_of_getElem? (i := 463) (by decide +kernel)) (by decide +kernel)), (kw_inT (List.mem_of_getElem? (i := 466) (by decide +kernel)) (by decide +kernel)), (kw_inT (List.mem_of_getElem? (i := 76) (by decide +kernel)) (by decide +kernel)), by decide +kernel⟩, (kw_inT (List.mem_of_getElem? (i := 464) (by decide +kernel)) (by decide +kernel)), (kw_inT (List.mem_of_getElem? (i := 465) (by decide +kernel)) (by decide +kernel))⟩
theorem cvL_36 : kw_CV RL 36 yX10_paint cX10_paint 6 (some .int) 3 := ⟨⟨Or.inl (kw_inT (List.mem_of_getElem? (i := 1106) (by decide +kernel)) (by decide +kernel)), (kw_inT (List.mem_of_getElem? (i := 1109) (by decide +kernel)) (by decide +kernel)), (kw_inT (List.mem_of_getElem? (i := 86) (by decide +kernel)) (by decide +kernel)), by decide +kernel⟩, (kw_inT (List.mem_of_getElem? (i := 1107) (by decide +kernel)) (by decide +kernel)), (kw_inT (List.mem_of_getElem? (i := 1108) (by decide +kernel)) (by decide +kernel))⟩
theorem cvL_37 : kw_CV RL 37 yX9_told cX9_told 3 (some .int) 2 := ⟨⟨Or.inl (kw_inT (List.mem_of_getElem? (i := 473) (by decide +kernel)) (by decide +kernel)), (kw_inT (List.mem_of_getElem? (i := 476) (by decide +kernel)) (by decide +kernel)), (kw_inT (List.mem_of_getElem? (i := 76) (by decide +kernel)) (by decide +kernel)), by decide +kernel⟩, (kw_inT (List.mem_of_getElem? (i := 474) (by decide +kernel)) (by decide +kernel)), (kw_inT (List.mem_of_getElem? (i := 475) (by decide +kernel)) (by decide +kernel))⟩
theorem cvL_40 : kw_CV RL 40 yX10_told cX10_told 3 (some .int) 2 := ⟨⟨Or.inl (kw_inT (List.mem_of_getElem? (i := 1116) (by decide +kernel)) (by decide +kernel)), (kw_inT (List.mem_of_getElem? (i := 1119) (by decide +kernel)) (by decide +kernel)), (kw_inT (List.mem_of_getElem? (i := 86) (by decide +kernel)) (by decide +kernel)), by decide +kernel⟩, (kw_inT (List.mem_of_getElem? (i := 1117) (by decide +kernel)) (by decide +kernel)), (kw_inT (List.mem_of_getElem? (i := 1118) (by decide +kernel)) (by decide +kernel))⟩
theorem cvL_41 : kw_CV RL 41 yX9_price cX9_price 4 (some .int) 2 := ⟨⟨Or.inl (kw_inT (List.mem_of_getElem? (i := 477) (by decide +kernel)) (by decide +kernel)), (kw_inT (List.mem_of_getElem? (i := 480) (by decide +kernel)) (by decide +kernel)), (kw_inT (List.mem_of_getElem? (i := 76) (by decide +kernel)) (by decide +kernel)), by decide +kernel⟩, (kw_inT (List.mem_of_getElem? (i := 478) (by decide +kernel)) (by decide +kernel)), (kw_inT (List.mem_of_getElem? (i := 479) (by decide +kernel)) (by decide +kernel))⟩
theorem cvL_44 : kw_CV RL 44 yX10_price cX10_price 4 (some .int) 2 := ⟨⟨Or.inl (kw_inT (List.mem_of_getElem? (i := 1120) (by decide +kernel)) (by decide +kernel)), (kw_inT (List.mem_of_getElem? (i := 1123) (by decide +kernel)) (by decide +kernel)), (kw_inT (List.mem_of_getElem? (i := 86) (by decide +kernel)) (by decide +kernel)), by decide +kernel⟩, (kw_inT (List.mem_of_getElem? (i := 1121) (by decide +kernel)) (by decide +kernel)), (kw_inT (List.mem_of_getElem? (i := 1122) (by decide +kernel)) (by decide +kernel))⟩
theorem cvL_45 : kw_CV RL 45 yX9_terms cX9_terms 6 (some .int) 2 := ⟨⟨Or.inl (kw_inT (List.mem_of_getElem? (i := 481) (by decide +kernel)) (by decide +kernel)), (kw_inT (List.mem_of_getElem? (i := 484) (by decide +kernel)) (by decide +kernel)), (kw_inT (List.mem_of_getElem? (i := 76) (by decide +kernel)) (by decide +kernel)), by decide +kernel⟩, (kw_inT (List.mem_of_getElem? (i := 482) (by decide +kernel)) (by decide +kernel)), (kw_inT (List.mem_of_getElem? (i := 483) (by decide +kernel)) (by decide +kernel))⟩
theorem cvL_48 : kw_CV RL 48 yX10_terms cX10_terms 4 (some .int) 2 := ⟨⟨Or.inl (kw_inT (List.mem_of_getElem? (i := 1124) (by decide +kernel)) (by decide +kernel)), (kw_inT (List.mem_of_getElem? (i := 1127) (by decide +kernel)) (by decide +kernel)), (kw_inT (List.mem_of_getElem? (i := 86) (by decide +kernel)) (by decide +kernel)), by decide +kernel⟩, (kw_inT (List.mem_of_getElem? (i := 1125) (by decide +kernel)) (by decide +kernel)), (kw_inT (List.mem_of_getElem? (i := 1126) (by decide +kernel)) (by decide +kernel))⟩
theorem cvL_49 : kw_CV RL 49 yX9_feed cX9_feed 6 (some .int) 5 := ⟨⟨Or.inl (kw_inT (List.mem_of_getElem? (i := 485) (by decide +kernel)) (by decide +kernel)), (kw_inT (List.mem_of_getElem? (i := 488) (by decide +kernel)) (by decide +kernel)), (kw_inT (List.mem_of_getElem? (i := 76) (by decide +kernel)) (by decide +kernel)), by decide +kernel⟩, (kw_inT (List.mem_of_getElem? (i := 486) (by decide +kernel)) (by decide +kernel)), (kw_inT (List.mem_of_getElem? (i := 487) (by decide +kernel)) (by decide +kernel))⟩
theorem cvL_52 : kw_CV RL 52 yX10_feed cX10_feed 7 (some .int) 5 := ⟨⟨Or.inl (kw_inT (List.mem_of_getElem? (i := 1136) (by decide +kernel)) (by decide +kernel)), (kw_inT (List.mem_of_getElem? (i := 1139) (by decide +kernel)) (by decide +kernel)), (kw_inT (List.mem_of_getElem? (i := 86) (by decide +kernel)) (by decide +kernel)), by decide +kernel⟩, (kw_inT (List.mem_of_getElem? (i := 1137) (by decide +kernel)) (by decide +kernel)), (kw_inT (List.mem_of_getElem? (i := 1138) (by decide +kernel)) (by decide +kernel))⟩
theorem cvL_53 : kw_CV RL 53 yX9_end cX9_end 2 (some .int) 1 := ⟨⟨Or.inl (kw_inT (List.mem_of_getElem? (i := 493) (by decide +kernel)) (by decide +kernel)), (kw_inT (List.mem_of_getElem? (i := 496) (by decide +kernel)) (by decide +kernel)), (kw_inT (List.mem_of_getElem? (i := 76) (by decide +kernel)) (by decide +kernel)), by decide +kernel⟩, (kw_inT (List.mem_of_getElem? (i := 494) (by decide +kernel)) (by decide +kernel)), (kw_inT (List.mem_of_getElem? (i := 495) (by decide +kernel)) (by decide +kernel))⟩
theorem cvL_57 : kw_CV RL 57 yX10_end cX10_end 2 (some .int) 1 := ⟨⟨Or.inl (kw_inT (List.mem_of_getElem? (i := 1140) (by decide +kernel)) (by decide +kernel)), (kw_inT (List.mem_of_getElem? (i := 1143) (by decide +kernel)) (by decide +kernel)), (kw_inT (List.mem_of_getElem? (i := 86) (by decide +kernel)) (by decide +kernel)), by decide +kernel⟩, (kw_inT (List.mem_of_getElem? (i := 1141) (by decide +kernel)) (by decide +kernel)), (kw_inT (List.mem_of_getElem? (i := 1142) (by decide +kernel)) (by decide +kernel))⟩
theorem cvL_58 : kw_CV RL 58 yX9_row cX9_row 6 (some .int) 0 := ⟨⟨Or.inl (kw_inT (List.mem_of_getElem? (i := 497) (by decide +kernel)) (by decide +kernel)), (kw_inT (List.mem_of_getElem? (i := 500) (by decide +kernel)) (by decide +kernel)), (kw_inT (List.mem_of_getElem? (i := 76) (by decide +kernel)) (by decide +kernel)), by decide +kernel⟩, (kw_inT (List.mem_of_getElem? (i := 498) (by decide +kernel)) (by decide +kernel)), (kw_inT (List.mem_of_getElem? (i := 499) (by decide +kernel)) (by decide +kernel))⟩
theorem cvL_62 : kw_CV RL 62 yX10_row cX10_row 4 (some .int) 0 := ⟨⟨Or.inl (kw_inT (List.mem_of_getElem? (i := 1128) (by decide +kernel)) (by decide +kernel)), (kw_inT (List.mem_of_getElem? (i := 1131) (by decide +kernel)) (by decide +kernel)), (kw_inT (List.mem_of_getElem? (i := 86) (by decide +kernel)) (by decide +kernel)), by decide +kernel⟩, (kw_inT (List.mem_of_getElem? (i := 1129) (by decide +kernel)) (by decide +kernel)), (kw_inT (List.mem_of_getElem? (i := 1130) (by decide +kernel)) (by decide +kernel))⟩
theorem cvL_63 : kw_CV RL 63 yX9_lint cX9_lint 1 (some .int) 0 := ⟨⟨Or.inl (kw_inT (List.mem_of_getElem? (i := 504) (by decide +kernel)) (by decide +kernel)), (kw_inT (List.mem_of_getElem? (i := 507) (by decide +kernel)) (by decide +kernel)), (kw_inT (List.mem_of_getElem? (i := 76) (by decide +kernel)) (by decide +kernel)), by decide +kernel⟩, (kw_inT (List.mem_of_getElem? (i := 505) (by decide +kernel)) (by decide +kernel)), (kw_inT (List.mem_of_getElem? (i := 506) (by decide +kernel)) (by decide +kernel))⟩
theorem cvL_66 : kw_CV RL 66 yX10_lint cX10_lint 1 (some .int) 0 := ⟨⟨Or.inl (kw_inT (List.mem_of_getElem? (i := 1132) (by decide +kernel)) (by decide +kernel)), (kw_inT (List.mem_of_getElem? (i := 1135) (by decide +kernel)) (by decide +kernel)), (kw_inT (List.mem_of_getElem? (i := 86) (by decide +kernel)) (by decide +kernel)), by decide +kernel⟩, (kw_inT (List.mem_of_getElem? (i := 1133) (by decide +kernel)) (by decide +kernel)), (kw_inT (List.mem_of_getElem? (i := 1134) (by decide +kernel)) (by decide +kernel))⟩
theorem cvL_67 : kw_CV RL 67 yX9_law cX9_law 3 (some .int) 0 := ⟨⟨Or.inl (kw_inT (List.mem_of_getElem? (i := 508) (by decide +kernel)) (by decide +kernel)), (kw_inT (List.mem_of_getElem? (i := 511) (by decide +kernel)) (by decide +kernel)), (kw_inT (List.mem_of_getElem? (i := 76) (by decide +kernel)) (by decide +kernel)), by decide +kernel⟩, (kw_inT (List.mem_of_getElem? (i := 509) (by decide +kernel)) (by decide +kernel)), (kw_inT (List.mem_of_getElem? (i := 510) (by decide +kernel)) (by decide +kernel))⟩
theorem cvL_70 : kw_CV RL 70 yX10_law cX10_law 3 (some .int) 0 := ⟨⟨Or.inl (kw_inT (List.mem_of_getElem? (i := 1144) (by decide +kernel)) (by decide +kernel)), (kw_inT (List.mem_of_getElem? (i := 1147) (by decide +kernel)) (by decide +kernel)), (kw_inT (List.mem_of_getElem? (i := 86) (by decide +kernel)) (by decide +kernel)), by decide +kernel⟩, (kw_inT (List.mem_of_getElem? (i := 1145) (by decide +kernel)) (by decide +kernel)), (kw_inT (List.mem_of_getElem? (i := 1146) (by decide +kernel)) (by decide +kernel))⟩
theorem cvL_71 : kw_CV RL 71 yX9_fault cX9_fault 1 (some .int) 0 := ⟨⟨Or.inl (kw_inT (List.mem_of_getElem? (i := 675) (by decide +kernel)) (by decide +kernel)), (kw_inT (List.mem_of_getElem? (i := 678) (by decide +kernel)) (by decide +kernel)), (kw_inT (List.mem_of_getElem? (i := 76) (by decide +kernel)) (by decide +kernel)), by decide +kernel⟩, (kw_inT (List.mem_of_getElem? (i := 676) (by decide +kernel)) (by decide +kernel)), (kw_inT (List.mem_of_getElem? (i := 677) (by decide +kernel)) (by decide +kernel))⟩
theorem cvL_74 : kw_CV RL 74 yX10_fault cX10_fault 1 (some .int) 0 := ⟨⟨Or.inl (kw_inT (List.mem_of_getElem? (i := 1218) (by decide +kernel)) (by decide +kernel)), (kw_inT (List.mem_of_getElem? (i := 1221) (by decide +kernel)) (by decide +kernel)), (kw_inT (List.mem_of_getElem? (i := 86) (by decide +kernel)) (by decide +kernel)), by decide +kernel⟩, (kw_inT (List.mem_of_getElem? (i := 1219) (by decide +kernel)) (by decide +kernel)), (kw_inT (List.mem_of_getElem? (i := 1220) (by decide +kernel)) (by decide +kernel))⟩
theorem cvL_75 : kw_CV RL 75 yX9_force cX9_force 3 (some .int) 1 := ⟨⟨Or.inl (kw_inT (List.mem_of_getElem? (i := 679) (by decide +kernel)) (by decide +kernel)), (kw_inT (List.mem_of_getElem? (i := 682) (by decide +kernel)) (by decide +kernel)), (kw_inT (List.mem_of_getElem? (i := 76) (by decide +kernel)) (by decide +kernel)), by decide +kernel⟩, (kw_inT (List.mem_of_getElem? (i := 680) (by decide +kernel)) (by decide +kernel)), (kw_inT (List.mem_of_getElem? (i := 681) (by decide +kernel)) (by decide +kernel))⟩
theorem cvL_78 : kw_CV RL 78 yX10_force cX10_force 3 (some .int) 1 := ⟨⟨Or.inl (kw_inT (List.mem_of_getElem? (i := 1222) (by decide +kernel)) (by decide +kernel)), (kw_inT (List.mem_of_getElem? (i := 1225) (by decide +kernel)) (by decide +kernel)), (kw_inT (List.mem_of_getElem? (i := 86) (by decide +kernel)) (by decide +kernel)), by decide +kernel⟩, (kw_inT (List.mem_of_getElem? (i := 1223) (by decide +kernel)) (by decide +kernel)), (kw_inT (List.mem_of_getElem? (i := 1224) (by decide +kernel)) (by decide +kernel))⟩
theorem cvL_79 : kw_CV RL 79 yX9_woven cX9_woven 4 (some .int) 3 := ⟨⟨Or.inl (kw_inT (List.mem_of_getElem? (i := 683) (by decide +kernel)) (by decide +kernel)), (kw_inT (List.mem_of_getElem? (i := 686) (by decide +kernel)) (by decide +kernel)), (kw_inT (List.mem_of_getElem? (i := 76) (by decide +kernel)) (by decide +kernel)), by decide +kernel⟩, (kw_inT (List.mem_of_getElem? (i := 684) (by decide +kernel)) (by decide +kernel)), (kw_inT (List.mem_of_getElem? (i := 685) (by decide +kernel)) (by decide +kernel))⟩
theorem cvL_82 : kw_CV RL 82 yX10_woven cX10_woven 4 (some .int) 3 := ⟨⟨Or.inl (kw_inT (List.mem_of_getElem? (i := 1226) (by decide +kernel)) (by decide +kernel)), (kw_inT (List.mem_of_getElem? (i := 1229) (by decide +kernel)) (by decide +kernel)), (kw_inT (List.mem_of_getElem? (i := 86) (by decide +kernel)) (by decide +kernel)), by decide +kernel⟩, (kw_inT (List.mem_of_getElem? (i := 1227) (by decide +kernel)) (by decide +kernel)), (kw_inT (List.mem_of_getElem? (i := 1228) (by decide +kernel)) (by decide +kernel))⟩
theorem cvL_83 : kw_CV RL 83 yX9_like cX9_like 3 (some .int) 2 := ⟨⟨Or.inl (kw_inT (List.mem_of_getElem? (i := 745) (by decide +kernel)) (by decide +kernel)), (kw_inT (List.mem_of_getElem? (i := 748) (by decide +kernel)) (by decide +kernel)), (kw_inT (List.mem_of_getElem? (i := 76) (by decide +kernel)) (by decide +kernel)), by decide +kernel⟩, (kw_inT (List.mem_of_getElem? (i := 746) (by decide +kernel)) (by decide +kernel)), (kw_inT (List.mem_of_getElem? (i := 747) (by decide +kernel)) (by decide +kernel))⟩
theorem cvL_86 : kw_CV RL 86 yX10_like cX10_like 3 (some .int) 2 := ⟨⟨Or.inl (kw_inT (List.mem_of_getElem? (i := 1314) (by decide +kernel)) (by decide +kernel)), (kw_inT (List.mem_of_getElem? (i := 1317) (by decide +kernel)) (by decide +kernel)), (kw_inT (List.mem_of_getElem? (i := 86) (by decide +kernel)) (by decide +kernel)), by decide +kernel⟩, (kw_inT (List.mem_of_getElem? (i := 1315) (by decide +kernel)) (by decide +kernel)), (kw_inT (List.mem_of_getElem? (i := 1316) (by decide +kernel)) (by decide +kernel))⟩
theorem cvL_87 : kw_CV RL 87 yX9_costs cX9_costs 5 (some .int) 1 := ⟨⟨Or.inl (kw_inT (List.mem_of_getElem? (i := 760) (by decide +kernel)) (by decide +kernel)), (kw_inT (List.mem_of_getElem? (i := 763) (by decide +kernel)) (by decide +kernel)), (kw_inT (List.mem_of_getElem? (i := 76) (by decide +kernel)) (by decide +kernel)), by decide +kernel⟩, (kw_inT (List.mem_of_getElem? (i := 761) (by decide +kernel)) (by decide +kernel)), (kw_inT (List.mem_of_getElem? (i := 762) (by decide +kernel)) (by decide +kernel))⟩
theorem cvL_90 : kw_CV RL 90 yX10_costs cX10_costs 5 (some .int) 1 := ⟨⟨Or.inl (kw_inT (List.mem_of_getElem? (i := 1325) (by decide +kernel)) (by decide +kernel)), (kw_inT (List.mem_of_getElem? (i := 1328) (by decide +kernel)) (by decide +kernel)), (kw_inT (List.mem_of_getElem? (i := 86) (by decide +kernel)) (by decide +kernel)), by decide +kernel⟩, (kw_inT (List.mem_of_getElem? (i := 1326) (by decide +kernel)) (by decide +kernel)), (kw_inT (List.mem_of_getElem? (i := 1327) (by decide +kernel)) (by decide +kernel))⟩
theorem cvL_91 : kw_CV RL 91 yX9_turned cX9_turned 7 (some .int) 1 := ⟨⟨Or.inl (kw_inT (List.mem_of_getElem? (i := 769) (by decide +kernel)) (by decide +kernel)), (kw_inT (List.mem_of_getElem? (i := 772) (by decide +kernel)) (by decide +kernel)), (kw_inT (List.mem_of_getElem? (i := 76) (by decide +kernel)) (by decide +kernel)), by decide +kernel⟩, (kw_inT (List.mem_of_getElem? (i := 770) (by decide +kernel)) (by decide +kernel)), (kw_inT (List.mem_of_getElem? (i := 771) (by decide +kernel)) (by decide +kernel))⟩
theorem cvL_94 : kw_CV RL 94 yX10_turned cX10_turned 6 (some .int) 1 := ⟨⟨Or.inl (kw_inT (List.mem_of_getElem? (i := 1333) (by decide +kernel)) (by decide +kernel)), (kw_inT (List.mem_of_getElem? (i := 1336) (by decide +kernel)) (by decide +kernel)), (kw_inT (List.mem_of_getElem? (i := 86) (by decide +kernel)) (by decide +kernel)), by decide +kernel⟩, (kw_inT (List.mem_of_getElem? (i := 1334) (by decide +kernel)) (by decide +kernel)), (kw_inT (List.mem_of_getElem? (i := 1335) (by decide +kernel)) (by decide +kernel))⟩
theorem cvL_95 : kw_CV RL 95 yX9_lost cX9_lost 2 (some .int) 1 := ⟨⟨Or.inl (kw_inT (List.mem_of_getElem? (i := 773) (by decide +kernel)) (by decide +kernel)), (kw_inT (List.mem_of_getElem? (i := 776) (by decide +kernel)) (by decide +kernel)), (kw_inT (List.mem_of_getElem? (i := 76) (by decide +kernel)) (by decide +kernel)), by decide +kernel⟩, (kw_inT (List.mem_of_getElem? (i := 774) (by decide +kernel)) (by decide +kernel)), (kw_inT (List.mem_of_getElem? (i := 775) (by decide +kernel)) (by decide +kernel))⟩
theorem cvL_98 : kw_CV RL 98 yX10_lost cX10_lost 4 (some .int) 1 := ⟨⟨Or.inl (kw_inT (List.mem_of_getElem? (i := 1337) (by decide +kernel)) (by decide +kernel)), (kw_inT (List.mem_of_getElem? (i := 1340) (by decide +kernel)) (by decide +kernel)), (kw_inT (List.mem_of_getElem? (i := 86) (by decide +kernel)) (by decide +kernel)), by decide +kernel⟩, (kw_inT (List.mem_of_getElem? (i := 1338) (by decide +kernel)) (by decide +kernel)), (kw_inT (List.mem_of_getElem? (i := 1339) (by decide +kernel)) (by decide +kernel))⟩
theorem cvL_99 : kw_CV RL 99 yX9_look cX9_look 5 (some .int) 2 := ⟨⟨Or.inl (kw_inT (List.mem_of_getElem? (i := 805) (by decide +kernel)) (by decide +kernel)), (kw_inT (List.mem_of_getElem? (i := 808) (by decide +kernel)) (by decide +kernel)), (kw_inT (List.mem_of_getElem? (i := 76) (by decide +kernel)) (by decide +kernel)), by decide +kernel⟩, (kw_inT (List.mem_of_getElem? (i := 806) (by decide +kernel)) (by decide +kernel)), (kw_inT (List.mem_of_getElem? (i := 807) (by decide +kernel)) (by decide +kernel))⟩
theorem cvL_102 : kw_CV RL 102 yX10_look cX10_look 8 (some .int) 2 := ⟨⟨Or.inl (kw_inT (List.mem_of_getElem? (i := 1349) (by decide +kernel)) (by decide +kernel)), (kw_inT (List.mem_of_getElem? (i := 1352) (by decide +kernel)) (by decide +kernel)), (kw_inT (List.mem_of_getElem? (i := 86) (by decide +kernel)) (by decide +kernel)), by decide +kernel⟩, (kw_inT (List.mem_of_getElem? (i := 1350) (by decide +kernel)) (by decide +kernel)), (kw_inT (List.mem_of_getElem? (i := 1351) (by decide +kernel)) (by decide +kernel))⟩
theorem cvL_103 : kw_CV RL 103 yX9_gift cX9_gift 2 (some .int) 1 := ⟨⟨Or.inl (kw_inT (List.mem_of_getElem? (i := 819) (by decide +kernel)) (by decide +kernel)), (kw_inT (List.mem_of_getElem? (i := 822) (by decide +kernel)) (by decide +kernel)), (kw_inT (List.mem_of_getElem? (i := 76) (by decide +kernel)) (by decide +kernel)), by decide +kernel⟩, (kw_inT (List.mem_of_getElem? (i := 820) (by decide +kernel)) (by decide +kernel)), (kw_inT (List.mem_of_getElem? (i := 821) (by decide +kernel)) (by decide +kernel))⟩
theorem cvL_106 : kw_CV RL 106 yX10_gift cX10_gift 6 (some .int) 1 := ⟨⟨Or.inl (kw_inT (List.mem_of_getElem? (i := 1356) (by decide +kernel)) (by decide +kernel)), (kw_inT (List.mem_of_getElem? (i := 1359) (by decide +kernel)) (by decide +kernel)), (kw_inT (List.mem_of_getElem? (i := 86) (by decide +kernel)) (by decide +kernel)), by decide +kernel⟩, (kw_inT (List.mem_of_getElem? (i := 1357) (by decide +kernel)) (by decide +kernel)), (kw_inT (List.mem_of_getElem? (i := 1358) (by decide +kernel)) (by decide +kernel))⟩
theorem cvL_107 : kw_CV RL 107 yX9_slips cX9_slips 2 (some .int) 1 := ⟨⟨Or.inl (kw_inT (List.mem_of_getElem? (i := 828) (by decide +kernel)) (by decide +kernel)), (kw_inT (List.mem_of_getElem? (i := 831) (by decide +kernel)) (by decide +kernel)), (kw_inT (List.mem_of_getElem? (i := 76) (by decide +kernel)) (by decide +kernel)), by decide +kernel⟩, (kw_inT (List.mem_of_getElem? (i := 829) (by decide +kernel)) (by decide +kernel)), (kw_inT (List.mem_of_getElem? (i := 830) (by decide +kernel)) (by decide +kernel))⟩
theorem cvL_110 : kw_CV RL 110 yX10_slips cX10_slips 5 (some .int) 1 := ⟨⟨Or.inl (kw_inT (List.mem_of_getElem? (i := 1360) (by decide +kernel)) (by decide +kernel)), (kw_inT (List.mem_of_getElem? (i := 1363) (by decide +kernel)) (by decide +kernel)), (kw_inT (List.mem_of_getElem? (i := 86) (by decide +kernel)) (by decide +kernel)), by decide +kernel⟩, (kw_inT (List.mem_of_getElem? (i := 1361) (by decide +kernel)) (by decide +kernel)), (kw_inT (List.mem_of_getElem? (i := 1362) (by decide +kernel)) (by decide +kernel))⟩
theorem cvL_111 : kw_CV RL 111 yX9_could cX9_could 2 (some .int) 1 := ⟨⟨Or.inl (kw_inT (List.mem_of_getElem? (i := 844) (by decide +kernel)) (by decide +kernel)), (kw_inT (List.mem_of_getElem? (i := 847) (by decide +kernel)) (by decide +kernel)), (kw_inT (List.mem_of_getElem? (i := 76) (by decide +kernel)) (by decide +kernel)), by decide +kernel⟩, (kw_inT (List.mem_of_getElem? (i := 845) (by decide +kernel)) (by decide +kernel)), (kw_inT (List.mem_of_getElem? (i := 846) (by decide +kernel)) (by decide +kernel))⟩
theorem cvL_114 : kw_CV RL 114 yX10_could cX10_could 4 (some .int) 1 := ⟨⟨Or.inl (kw_inT (List.mem_of_getElem? (i := 1345) (by decide +kernel)) (by decide +kernel)), (kw_inT (List.mem_of_getElem? (i := 1348) (by decide +kernel)) (by decide +kernel)), (kw_inT (List.mem_of_getElem? (i := 86) (by decide +kernel)) (by decide +kernel)), by decide +kernel⟩, (kw_inT (List.mem_of_getElem? (i := 1346) (by decide +kernel)) (by decide +kernel)), (kw_inT (List.mem_of_getElem? (i := 1347) (by decide +kernel)) (by decide +kernel))⟩
theorem cvL_115 : kw_CV RL 115 yX9_meeting cX9_meeting 7 (some .int) 1 := ⟨⟨Or.inl (kw_inT (List.mem_of_getElem? (i := 848) (by decide +kernel)) (by decide +kernel)), (kw_inT (List.mem_of_getElem? (i := 851) (by decide +kernel)) (by decide +kernel)), (kw_inT (List.mem_of_getElem? (i := 76) (by decide +kernel)) (by decide +kernel)), by decide +kernel⟩, (kw_inT (List.mem_of_getElem? (i := 849) (by decide +kernel)) (by decide +kernel)), (kw_inT (List.mem_of_getElem? (i := 850) (by decide +kernel)) (by decide +kernel))⟩
theorem cvL_118 : kw_CV RL 118 yX10_meeting cX10_meeting 6 (some .int) 1 := ⟨⟨Or.inl (kw_inT (List.mem_of_getElem? (i := 1364) (by decide +kernel)) (by decide +kernel)), (kw_inT (List.mem_of_getElem? (i := 1367) (by decide +kernel)) (by decide +kernel)), (kw_inT (List.mem_of_getElem? (i := 86) (by decide +kernel)) (by decide +kernel)), by decide +kernel⟩, (kw_inT (List.mem_of_getElem? (i := 1365) (by decide +kernel)) (by decide +kernel)), (kw_inT (List.mem_of_getElem? (i := 1366) (by decide +kernel)) (by decide +kernel))⟩
theorem cvL_119 : kw_CV RL 119 yX9_seams cX9_seams 2 (some .int) 1 := ⟨⟨Or.inl (kw_inT (List.mem_of_getElem? (i := 852) (by decide +kernel)) (by decide +kernel)), (kw_inT (List.mem_of_getElem? (i := 855) (by decide +kernel)) (by decide +kernel)), (kw_inT (List.mem_of_getElem? (i := 76) (by decide +kernel)) (by decide +kernel)), by decide +kernel⟩, (kw_inT (List.mem_of_getElem? (i := 853) (by decide +kernel)) (by decide +kernel)), (kw_inT (List.mem_of_getElem? (i := 854) (by decide +kernel)) (by decide +kernel))⟩
theorem cvL_122 : kw_CV RL 122 yX10_seams cX10_seams 2 (some .int) 1 := ⟨⟨Or.inl (kw_inT (List.mem_of_getElem? (i := 1368) (by decide +kernel)) (by decide +kernel)), (kw_inT (List.mem_of_getElem? (i := 1371) (by decide +kernel)) (by decide +kernel)), (kw_inT (List.mem_of_getElem? (i := 86) (by decide +kernel)) (by decide +kernel)), by decide +kernel⟩, (kw_inT (List.mem_of_getElem? (i := 1369) (by decide +kernel)) (by decide +kernel)), (kw_inT (List.mem_of_getElem? (i := 1370) (by decide +kernel)) (by decide +kernel))⟩
theorem cvL_123 : kw_CV RL 123 yX9_mend cX9_mend 7 (some .int) 6 := ⟨⟨Or.inl (kw_inT (List.mem_of_getElem? (i := 862) (by decide +kernel)) (by decide +kernel)), (kw_inT (List.mem_of_getElem? (i := 865) (by decide +kernel)) (by decide +kernel)), (kw_inT (List.mem_of_getElem? (i := 76) (by decide +kernel)) (by decide +kernel)), by decide +kernel⟩, (kw_inT (List.mem_of_getElem? (i := 863) (by decide +kernel)) (by decide +kernel)), (kw_inT (List.mem_of_getElem? (i := 864) (by decide +kernel)) (by decide +kernel))⟩
theorem cvL_127 : kw_CV RL 127 yX10_mend cX10_mend 14 (some .int) 6 := ⟨⟨Or.inl (kw_inT (List.mem_of_getElem? (i := 1375) (by decide +kernel)) (by decide +kernel)), (kw_inT (List.mem_of_getElem? (i := 1378) (by decide +kernel)) (by decide +kernel)), (kw_inT (List.mem_of_getElem? (i := 86) (by decide +kernel)) (by decide +kernel)), by decide +kernel⟩, (kw_inT (List.mem_of_getElem? (i := 1376) (by decide +kernel)) (by decide +kernel)), (kw_inT (List.mem_of_getElem? (i := 1377) (by decide +kernel)) (by decide +kernel))⟩
theorem cvL_128 : kw_CV RL 128 yX9_weavers cX9_weavers 3 (some .int) 1 := ⟨⟨Or.inl (kw_inT (List.mem_of_getElem? (i := 890) (by decide +kernel)) (by decide +kernel)), (kw_inT (List.mem_of_getElem? (i := 893) (by decide +kernel)) (by decide +kernel)), (kw_inT (List.mem_of_getElem? (i := 76) (by decide +kernel)) (by decide +kernel)), by decide +kernel⟩, (kw_inT (List.mem_of_getElem? (i := 891) (by decide +kernel)) (by decide +kernel)), (kw_inT (List.mem_of_getElem? (i := 892) (by decide +kernel)) (by decide +kernel))⟩
theorem cvL_131 : kw_CV RL 131 yX10_weavers cX10_weavers 3 (some .int) 1 := ⟨⟨Or.inl (kw_inT (List.mem_of_getElem? (i := 1383) (by decide +kernel)) (by decide +kernel)), (kw_inT (List.mem_of_getElem? (i := 1386) (by decide +kernel)) (by decide +kernel)), (kw_inT (List.mem_of_getElem? (i := 86) (by decide +kernel)) (by decide +kernel)), by decide +kernel⟩, (kw_inT (List.mem_of_getElem? (i := 1384) (by decide +kernel)) (by decide +kernel)), (kw_inT (List.mem_of_getElem? (i := 1385) (by decide +kernel)) (by decide +kernel))⟩
theorem cvL_132 : kw_CV RL 132 yX9_drawn cX9_drawn 3 (some .int) 2 := ⟨⟨Or.inl (kw_inT (List.mem_of_getElem? (i := 906) (by decide +kernel)) (by decide +kernel)), (kw_inT (List.mem_of_getElem? (i := 909) (by decide +kernel)) (by decide +kernel)), (kw_inT (List.mem_of_getElem? (i := 76) (by decide +kernel)) (by decide +kernel)), by decide +kernel⟩, (kw_inT (List.mem_of_getElem? (i := 907) (by decide +kernel)) (by decide +kernel)), (kw_inT (List.mem_of_getElem? (i := 908) (by decide +kernel)) (by decide +kernel))⟩
theorem cvL_135 : kw_CV RL 135 yX10_drawn cX10_drawn 3 (some .int) 2 := ⟨⟨Or.inl (kw_inT (List.mem_of_getElem? (i := 1387) (by decide +kernel)) (by decide +kernel)), (kw_inT (List.mem_of_getElem? (i := 1390) (by decide +kernel)) (by decide +kernel)), (kw_inT (List.mem_of_getElem? (i := 86) (by decide +kernel)) (by decide +kernel)), by decide +kernel⟩, (kw_inT (List.mem_of_getElem? (i := 1388) (by decide +kernel)) (by decide +kernel)), (kw_inT (List.mem_of_getElem? (i := 1389) (by decide +kernel)) (by decide +kernel))⟩
theorem cvL_136 : kw_CV RL 136 yX9_image cX9_image 2 (some .int) 1 := ⟨⟨Or.inl (kw_inT (List.mem_of_getElem? (i := 910) (by decide +kernel)) (by decide +kernel)), (kw_inT (List.mem_of_getElem? (i := 913) (by decide +kernel)) (by decide +kernel)), (kw_inT (List.mem_of_getElem? (i := 76) (by decide +kernel)) (by decide +kernel)), by decide +kernel⟩, (kw_inT (List.mem_of_getElem? (i := 911) (by decide +kernel)) (by decide +kernel)), (kw_inT (List.mem_of_getElem? (i := 912) (by decide +kernel)) (by decide +kernel))⟩
theorem cvL_139 : kw_CV RL 139 yX10_image cX10_image 3 (some .int) 1 := ⟨⟨Or.inl (kw_inT (List.mem_of_getElem? (i := 1052) (by decide +kernel)) (by decide +kernel)), (kw_inT (List.mem_of_getElem? (i := 1055) (by decide +kernel)) (by decide +kernel)), (kw_inT (List.mem_of_getElem? (i := 86) (by decide +kernel)) (by decide +kernel)), by decide +kernel⟩, (kw_inT (List.mem_of_getElem? (i := 1053) (by decide +kernel)) (by decide +kernel)), (kw_inT (List.mem_of_getElem? (i := 1054) (by decide +kernel)) (by decide +kernel))⟩
theorem cvL_140 : kw_CV RL 140 yX9_back cX9_back 2 (some .int) 1 := ⟨⟨Or.inl (kw_inT (List.mem_of_getElem? (i := 919) (by decide +kernel)) (by decide +kernel)), (kw_inT (List.mem_of_getElem? (i := 922) (by decide +kernel)) (by decide +kernel)), (kw_inT (List.mem_of_getElem? (i := 76) (by decide +kernel)) (by decide +kernel)), by decide +kernel⟩, (kw_inT (List.mem_of_getElem? (i := 920) (by decide +kernel)) (by decide +kernel)), (kw_inT (List.mem_of_getElem? (i := 921) (by decide +kernel)) (by decide +kernel))⟩
theorem cvL_143 : kw_CV RL 143 yX10_back cX10_back 3 (some .int) 1 := ⟨⟨Or.inl (kw_inT (List.mem_of_getElem? (i := 1067) (by decide +kernel)) (by decide +kernel)), (kw_inT (List.mem_of_getElem? (i := 1070) (by decide +kernel)) (by decide +kernel)), (kw_inT (List.mem_of_getElem? (i := 86) (by decide +kernel)) (by decide +kernel)), by decide +kernel⟩, (kw_inT (List.mem_of_getElem? (i := 1068) (by decide +kernel)) (by decide +kernel)), (kw_inT (List.mem_of_getElem? (i := 1069) (by decide +kernel)) (by decide +kernel))⟩
theorem cvL_144 : kw_CV RL 144 yX9_count cX9_count 2 (some .int) 1 := ⟨⟨Or.inl (kw_inT (List.mem_of_getElem? (i := 923) (by decide +kernel)) (by decide +kernel)), (kw_inT (List.mem_of_getElem? (i := 926) (by decide +kernel)) (by decide +kernel)), (kw_inT (List.mem_of_getElem? (i := 76) (by decide +kernel)) (by decide +kernel)), by decide +kernel⟩, (kw_inT (List.mem_of_getElem? (i := 924) (by decide +kernel)) (by decide +kernel)), (kw_inT (List.mem_of_getElem? (i := 925) (by decide +kernel)) (by decide +kernel))⟩
theorem cvL_147 : kw_CV RL 147 yX10_count cX10_count 2 (some .int) 1 := ⟨⟨Or.inl (kw_inT (List.mem_of_getElem? (i := 1391) (by decide +kernel)) (by decide +kernel)), (kw_inT (List.mem_of_getElem? (i := 1394) (by decide +kernel)) (by decide +kernel)), (kw_inT (List.mem_of_getElem? (i := 86) (by decide +kernel)) (by decide +kernel)), by decide +kernel⟩, (kw_inT (List.mem_of_getElem? (i := 1392) (by decide +kernel)) (by decide +kernel)), (kw_inT (List.mem_of_getElem? (i := 1393) (by decide +kernel)) (by decide +kernel))⟩
theorem cvL_148 : kw_CV RL 148 yX9_status cX9_status 1 (some .int) 0 := ⟨⟨Or.inl (kw_inT (List.mem_of_getElem? (i := 927) (by decide +kernel)) (by decide +kernel)), (kw_inT (List.mem_of_getElem? (i := 930) (by decide +kernel)) (by decide +kernel)), (kw_inT (List.mem_of_getElem? (i := 76) (by decide +kernel)) (by decide +kernel)), by decide +kernel⟩, (kw_inT (List.mem_of_getElem? (i := 928) (by decide +kernel)) (by decide +kernel)), (kw_inT (List.mem_of_getElem? (i := 929) (by decide +kernel)) (by decide +kernel))⟩
theorem cvL_151 : kw_CV RL 151 yX10_status cX10_status 1 (some .int) 0 := ⟨⟨Or.inl (kw_inT (List.mem_of_getElem? (i := 1395) (by decide +kernel)) (by decide +kernel)), (kw_inT (List.mem_of_getElem? (i := 1398) (by decide +kernel)) (by decide +kernel)), (kw_inT (List.mem_of_getElem? (i := 86) (by decide +kernel)) (by decide +kernel)), by decide +kernel⟩, (kw_inT (List.mem_of_getElem? (i := 1396) (by decide +kernel)) (by decide +kernel)), (kw_inT (List.mem_of_getElem? (i := 1397) (by decide +kernel)) (by decide +kernel))⟩
theorem nwL_7 : kw_Nw RL 7 9 13 := ⟨RX9, TX9, rfl, uw_9, tyX9_ok, by decide +kernel, (kw_inT (List.mem_of_getElem? (i := 95) (by decide +kernel)) (by decide +kernel)), (kw_inT (List.mem_of_getElem? (i := 96) (by decide +kernel)) (by decide +kernel)), (kw_inT (List.mem_of_getElem? (i := 76) (by decide +kernel)) (by decide +kernel))⟩
theorem nwL_10 : kw_Nw RL 10 10 38 := ⟨RX10, TX10, rfl, uw_10, tyX10_ok, by decide +kernel, (kw_inT (List.mem_of_getElem? (i := 931) (by decide +kernel)) (by decide +kernel)), (kw_inT (List.mem_of_getElem? (i := 932) (by decide +kernel)) (by decide +kernel)), (kw_inT (List.mem_of_getElem? (i := 86) (by decide +kernel)) (by decide +kernel))⟩
theorem ciL_9 : kw_CI RL 9 yX9_init cX9_init 1 0 := ⟨⟨Or.inl (kw_inT (List.mem_of_getElem? (i := 97) (by decide +kernel)) (by decide +kernel)), (kw_inT (List.mem_of_getElem? (i := 99) (by decide +kernel)) (by decide +kernel)), (kw_inT (List.mem_of_getElem? (i := 76) (by decide +kernel)) (by decide +kernel)), by decide +kernel⟩, (kw_inT (List.mem_of_getElem? (i := 98) (by decide +kernel)) (by decide +kernel)), rfl⟩
theorem ciL_12 : kw_CI RL 12 yX10_init cX10_init 2 0 := ⟨⟨Or.inl (kw_inT (List.mem_of_getElem? (i := 933) (by decide +kernel)) (by decide +kernel)), (kw_inT (List.mem_of_getElem? (i := 935) (by decide +kernel)) (by decide +kernel)), (kw_inT (List.mem_of_getElem? (i := 86) (by decide +kernel)) (by decide +kernel)), by decide +kernel⟩, (kw_inT (List.mem_of_getElem? (i := 934) (by decide +kernel)) (by decide +kernel)), rfl⟩
/-- the relation stays, and at most twenty cells are new -/
def lw_N (Inv : kw_T → Nat → kw_R → kw_I → kw_L → Prop) (N : Nat) (T : kw_T) (n : Nat) (r : kw_R) (i : kw_I) (w : kw_L) : Prop := Inv T n r i w ∧ n ≤ N + 20
theorem lw_ix (t k : Nat) (hk : k < 8) : nI t + (OfNat.ofNat k : Int32) = nI (t + k) := by
  rw [← nI_add]
  rfl
section KWL
variable {E : kw_E} {G : kw_G} {cc : ByteArray} {nL cs sl : Nat} {own : String} {Q : State → Prop} {pc : Nat} {L : List (Nat × kw_A)} {st : List kw_A} {T : kw_T} {n : Nat} {r : kw_R} {i : kw_I} {w : kw_L} {b Ls : Nat} {xs : Nat → Int32}
theorem kk_scr (hE : kw_ok E G cc nL own) (hX : va_X b Ls xs E.2.2.2.2.1 E.2.2.2.2.1.heap) (hbl : b < E.2.2.2.2.1.heap.size) (hbG : ¬ G.1 < b) {x : Int32} {k : Nat} (hx : x = nI k) (hk : k < Ls) (hL : Ls < 2 ^ 31) (hd : decode cc pc = .ok (.iaload, 1)) (kk : kw_K E G nL cs sl Q (pc + 1) L (kw_i (xs k) :: st) T n r i w) : kw_K E G nL cs sl Q pc L (kw_i x :: kw_a (kw_SB + 200 + b) :: st) T n r i w := by
  subst hx
  intro ls H locs hl hR hS
  show kw_W E H locs cs sl Q (F0 _ pc ls (.int (nI k) :: kw_vr G (kw_SB + 200 + b) :: st.map (kw_v G)))
  rw [kw_vr_raw]
  refine va_sld hE.1 hE.2.1 hX hbl hbG hS (vp_in_nI hk hL) hd ?_
  rw [nI_clamp (by omega)]
  exact kk ls H locs hl hR hS
theorem kk_scl (hE : kw_ok E G cc nL own) (hX : va_X b Ls xs E.2.2.2.2.1 E.2.2.2.2.1.heap) (hbl : b < E.2.2.2.2.1.heap.size) (hbG : ¬ G.1 < b) (hd : decode cc pc = .ok (.arraylength, 1)) (kk : kw_K E G nL cs sl Q (pc + 1) L (kw_i (nI Ls) :: st) T n r i w) : kw_K E G nL cs sl Q pc L (kw_a (kw_SB + 200 + b) :: st) T n r i w := by
  intro ls H locs hl hR hS
  show kw_W E H locs cs sl Q (F0 _ pc ls (kw_vr G (kw_SB + 200 + b) :: st.map (kw_v G)))
  rw [kw_vr_raw]
  exact va_slen hE.1 hE.2.1 hX hbl hbG hS hd (kk ls H locs hl hR hS)
end KWL
/-- village: class and reference answer alike, and stay alike -/
def lw_C0 (Inv : kw_T → Nat → kw_R → kw_I → kw_L → Prop) : Prop := ∀ (T : kw_T) (n : Nat) (r : kw_R) (i : kw_I) (w : kw_L) (x1 : Int32) (x2 : Int32) (x3 : Int32) (x4 : Int32), Inv T n r i w → n ≤ 20000 → w_X9_village 1 x1 x2 x3 x4 T n r i w (fun v i1 => T 84 = (0, 10) ∧ w_X10_village 84 x1 x2 x3 x4 T n r i1 w (fun v2 i2 => v = v2 ∧ lw_N Inv n T n r i2 w))
set_option maxHeartbeats 4000000 in
set_option maxRecDepth 100000 in
theorem lc_0 {E : kw_E} {G : kw_G} {Q : State → Prop} {b L cs sl t : Nat} {xs : Nat → Int32} (hE : kw_ok E G cL_law 4 RL) (hRm : E.2.2.2.1 = room_1) (hX : va_X b L xs E.2.2.2.2.1 E.2.2.2.2.1.heap) (hbl : b < E.2.2.2.2.1.heap.size) (hbG : ¬ G.1 < b) (hL : L ≤ 3584) (ht : t + 7 ≤ L) (hc : cs + 20 ≤ 600000 ∧ sl + 1000 ≤ 7302250) {KN : kw_T → Nat → kw_R → kw_I → kw_L → Prop} (hk : ∀ T n r i w, KN T n r i w → kw_K E G 4 (cs + 20) (sl + 1000) Q 1181 [(3, kw_i (nI t)), (2, kw_a 84), (1, kw_a 1), (0, kw_a (kw_SB + 200 + b))] [] T n r i w) {T : kw_T} {n : Nat} {r : kw_R} {i : kw_I} {w : kw_L} (h1 : T 1 = (0, 9)) (h : w_X9_village 1 (xs (t + 1)) (xs (t + 2)) (xs (t + 3)) (xs (t + 4)) T n r i w (fun v i1 => T 84 = (0, 10) ∧ w_X10_village 84 (xs (t + 1)) (xs (t + 2)) (xs (t + 3)) (xs (t + 4)) T n r i1 w (fun v2 i2 => v = v2 ∧ KN T n r i2 w))) : kw_K E G 4 cs sl Q 180 [(3, kw_i (nI t)), (2, kw_a 84), (1, kw_a 1), (0, kw_a (kw_SB + 200 + b))] [] T n r i w := by
  refine kk_aload_n hE 2 dL_law_180 rfl rfl ?_
  refine kk_aload_n hE 3 dL_law_181 rfl rfl ?_
  refine kk_iload_n hE 0 dL_law_182 rfl rfl ?_
  refine kk_iconst (v := (1 : Int32)) hE dL_law_183 (by decide) ?_
  refine kk_iadd hE dL_law_184 ?_
  refine kk_scr hE hX hbl hbG (k := t + 1) (lw_ix t 1 (by decide)) (by omega) (by omega) dL_law_185 ?_
  refine kk_aload_n hE 3 dL_law_186 rfl rfl ?_
  refine kk_iload_n hE 0 dL_law_187 rfl rfl ?_
  refine kk_iconst (v := (2 : Int32)) hE dL_law_188 (by decide) ?_
  refine kk_iadd hE dL_law_189 ?_
  refine kk_scr hE hX hbl hbG (k := t + 2) (lw_ix t 2 (by decide)) (by omega) (by omega) dL_law_190 ?_
  refine kk_aload_n hE 3 dL_law_191 rfl rfl ?_
  refine kk_iload_n hE 0 dL_law_192 rfl rfl ?_
  refine kk_iconst (v := (3 : Int32)) hE dL_law_193 (by decide) ?_
  refine kk_iadd hE dL_law_194 ?_
  refine kk_scr hE hX hbl hbG (k := t + 3) (lw_ix t 3 (by decide)) (by omega) (by omega) dL_law_195 ?_
  refine kk_aload_n hE 3 dL_law_196 rfl rfl ?_
  refine kk_iload_n hE 0 dL_law_197 rfl rfl ?_
  refine kk_iconst (v := (4 : Int32)) hE dL_law_198 (by decide) ?_
  refine kk_iadd hE dL_law_199 ?_
  refine kk_scr hE hX hbl hbG (k := t + 4) (lw_ix t 4 (by decide)) (by omega) (by omega) dL_law_200 ?_
  refine kk_callVi (cs' := cs + 0) (sl' := sl + 0) (st := []) hE cvL_13 (t_X9_village h1 h) dL_law_201 h1 rfl rfl hRm ⟨by decide, by decide⟩ ⟨by show cs + 0 ≤ 600000; omega, by show sl + 0 ≤ 7302250; omega⟩ rfl rfl (by decide) rfl ?_
  rintro v _ _ _ i1 _ ⟨rfl, rfl, rfl, rfl, h⟩
  obtain ⟨h2, h⟩ := h
  refine kk_aload_n hE 1 dL_law_204 rfl rfl ?_
  refine kk_aload_n hE 3 dL_law_205 rfl rfl ?_
  refine kk_iload_n hE 0 dL_law_206 rfl rfl ?_
  refine kk_iconst (v := (1 : Int32)) hE dL_law_207 (by decide) ?_
  refine kk_iadd hE dL_law_208 ?_
  refine kk_scr hE hX hbl hbG (k := t + 1) (lw_ix t 1 (by decide)) (by omega) (by omega) dL_law_209 ?_
  refine kk_aload_n hE 3 dL_law_210 rfl rfl ?_
  refine kk_iload_n hE 0 dL_law_211 rfl rfl ?_
  refine kk_iconst (v := (2 : Int32)) hE dL_law_212 (by decide) ?_
  refine kk_iadd hE dL_law_213 ?_
  refine kk_scr hE hX hbl hbG (k := t + 2) (lw_ix t 2 (by decide)) (by omega) (by omega) dL_law_214 ?_
  refine kk_aload_n hE 3 dL_law_215 rfl rfl ?_
  refine kk_iload_n hE 0 dL_law_216 rfl rfl ?_
  refine kk_iconst (v := (3 : Int32)) hE dL_law_217 (by decide) ?_
  refine kk_iadd hE dL_law_218 ?_
  refine kk_scr hE hX hbl hbG (k := t + 3) (lw_ix t 3 (by decide)) (by omega) (by omega) dL_law_219 ?_
  refine kk_aload_n hE 3 dL_law_220 rfl rfl ?_
  refine kk_iload_n hE 0 dL_law_221 rfl rfl ?_
  refine kk_iconst (v := (4 : Int32)) hE dL_law_222 (by decide) ?_
  refine kk_iadd hE dL_law_223 ?_
  refine kk_scr hE hX hbl hbG (k := t + 4) (lw_ix t 4 (by decide)) (by omega) (by omega) dL_law_224 ?_
  refine kk_callVi (cs' := cs + 0) (sl' := sl + 0) (st := [kw_i v]) hE cvL_17 (t_X10_village h2 h) dL_law_225 h2 rfl rfl hRm ⟨by decide, by decide⟩ ⟨by show cs + 0 + 0 ≤ 600000; omega, by show sl + 0 + 0 ≤ 7302250; omega⟩ rfl rfl (Nat.le_of_ble_eq_true rfl) rfl ?_
  rintro v2 _ _ _ i2 _ ⟨rfl, rfl, rfl, rfl, h⟩
  obtain ⟨hv, h⟩ := h
  refine kk_icmp_eq (tgt := 1181) hE dL_law_228 (by decide) (fun _ => ?_) (fun c => absurd hv c)
  refine kk_widen (cs' := cs + 20) (sl' := sl + 1000) (by omega) (by omega) ?_
  exact hk _ _ _ _ _ h
/-- put: class and reference answer alike, and stay alike -/
def lw_C1 (Inv : kw_T → Nat → kw_R → kw_I → kw_L → Prop) : Prop := ∀ (T : kw_T) (n : Nat) (r : kw_R) (i : kw_I) (w : kw_L) (x1 : Int32) (x2 : Int32) (x3 : Int32), Inv T n r i w → n ≤ 20000 → w_X9_put 1 x1 x2 x3 T n r i w (fun v i1 => T 84 = (0, 10) ∧ w_X10_put 84 x1 x2 x3 T n r i1 w (fun v2 i2 => v = v2 ∧ lw_N Inv n T n r i2 w))
set_option maxHeartbeats 4000000 in
set_option maxRecDepth 100000 in
theorem lc_1 {E : kw_E} {G : kw_G} {Q : State → Prop} {b L cs sl t : Nat} {xs : Nat → Int32} (hE : kw_ok E G cL_law 4 RL) (hRm : E.2.2.2.1 = room_1) (hX : va_X b L xs E.2.2.2.2.1 E.2.2.2.2.1.heap) (hbl : b < E.2.2.2.2.1.heap.size) (hbG : ¬ G.1 < b) (hL : L ≤ 3584) (ht : t + 7 ≤ L) (hc : cs + 20 ≤ 600000 ∧ sl + 1000 ≤ 7302250) {KN : kw_T → Nat → kw_R → kw_I → kw_L → Prop} (hk : ∀ T n r i w, KN T n r i w → kw_K E G 4 (cs + 20) (sl + 1000) Q 1181 [(3, kw_i (nI t)), (2, kw_a 84), (1, kw_a 1), (0, kw_a (kw_SB + 200 + b))] [] T n r i w) {T : kw_T} {n : Nat} {r : kw_R} {i : kw_I} {w : kw_L} (h1 : T 1 = (0, 9)) (h : w_X9_put 1 (xs (t + 1)) (xs (t + 2)) (xs (t + 3)) T n r i w (fun v i1 => T 84 = (0, 10) ∧ w_X10_put 84 (xs (t + 1)) (xs (t + 2)) (xs (t + 3)) T n r i1 w (fun v2 i2 => v = v2 ∧ KN T n r i2 w))) : kw_K E G 4 cs sl Q 233 [(3, kw_i (nI t)), (2, kw_a 84), (1, kw_a 1), (0, kw_a (kw_SB + 200 + b))] [] T n r i w := by
  refine kk_aload_n hE 2 dL_law_233 rfl rfl ?_
  refine kk_aload_n hE 3 dL_law_234 rfl rfl ?_
  refine kk_iload_n hE 0 dL_law_235 rfl rfl ?_
  refine kk_iconst (v := (1 : Int32)) hE dL_law_236 (by decide) ?_
  refine kk_iadd hE dL_law_237 ?_
  refine kk_scr hE hX hbl hbG (k := t + 1) (lw_ix t 1 (by decide)) (by omega) (by omega) dL_law_238 ?_
  refine kk_aload_n hE 3 dL_law_239 rfl rfl ?_
  refine kk_iload_n hE 0 dL_law_240 rfl rfl ?_
  refine kk_iconst (v := (2 : Int32)) hE dL_law_241 (by decide) ?_
  refine kk_iadd hE dL_law_242 ?_
  refine kk_scr hE hX hbl hbG (k := t + 2) (lw_ix t 2 (by decide)) (by omega) (by omega) dL_law_243 ?_
  refine kk_aload_n hE 3 dL_law_244 rfl rfl ?_
  refine kk_iload_n hE 0 dL_law_245 rfl rfl ?_
  refine kk_iconst (v := (3 : Int32)) hE dL_law_246 (by decide) ?_
  refine kk_iadd hE dL_law_247 ?_
  refine kk_scr hE hX hbl hbG (k := t + 3) (lw_ix t 3 (by decide)) (by omega) (by omega) dL_law_248 ?_
  refine kk_callVi (cs' := cs + 0) (sl' := sl + 0) (st := []) hE cvL_18 (t_X9_put h1 h) dL_law_249 h1 rfl rfl hRm ⟨by decide, by decide⟩ ⟨by show cs + 0 ≤ 600000; omega, by show sl + 0 ≤ 7302250; omega⟩ rfl rfl (by decide) rfl ?_
  rintro v _ _ _ i1 _ ⟨rfl, rfl, rfl, rfl, h⟩
  obtain ⟨h2, h⟩ := h
  refine kk_aload_n hE 1 dL_law_252 rfl rfl ?_
  refine kk_aload_n hE 3 dL_law_253 rfl rfl ?_
  refine kk_iload_n hE 0 dL_law_254 rfl rfl ?_
  refine kk_iconst (v := (1 : Int32)) hE dL_law_255 (by decide) ?_
  refine kk_iadd hE dL_law_256 ?_
  refine kk_scr hE hX hbl hbG (k := t + 1) (lw_ix t 1 (by decide)) (by omega) (by omega) dL_law_257 ?_
  refine kk_aload_n hE 3 dL_law_258 rfl rfl ?_
  refine kk_iload_n hE 0 dL_law_259 rfl rfl ?_
  refine kk_iconst (v := (2 : Int32)) hE dL_law_260 (by decide) ?_
  refine kk_iadd hE dL_law_261 ?_
  refine kk_scr hE hX hbl hbG (k := t + 2) (lw_ix t 2 (by decide)) (by omega) (by omega) dL_law_262 ?_
  refine kk_aload_n hE 3 dL_law_263 rfl rfl ?_
  refine kk_iload_n hE 0 dL_law_264 rfl rfl ?_
  refine kk_iconst (v := (3 : Int32)) hE dL_law_265 (by decide) ?_
  refine kk_iadd hE dL_law_266 ?_
  refine kk_scr hE hX hbl hbG (k := t + 3) (lw_ix t 3 (by decide)) (by omega) (by omega) dL_law_267 ?_
  refine kk_callVi (cs' := cs + 0) (sl' := sl + 0) (st := [kw_i v]) hE cvL_22 (t_X10_put h2 h) dL_law_268 h2 rfl rfl hRm ⟨by decide, by decide⟩ ⟨by show cs + 0 + 0 ≤ 600000; omega, by show sl + 0 + 0 ≤ 7302250; omega⟩ rfl rfl (Nat.le_of_ble_eq_true rfl) rfl ?_
  rintro v2 _ _ _ i2 _ ⟨rfl, rfl, rfl, rfl, h⟩
  obtain ⟨hv, h⟩ := h
  refine kk_icmp_eq (tgt := 1181) hE dL_law_271 (by decide) (fun _ => ?_) (fun c => absurd hv c)
  refine kk_widen (cs' := cs + 20) (sl' := sl + 1000) (by omega) (by omega) ?_
  exact hk _ _ _ _ _ h
/-- hole: class and reference answer alike, and stay alike -/
def lw_C2 (Inv : kw_T → Nat → kw_R → kw_I → kw_L → Prop) : Prop := ∀ (T : kw_T) (n : Nat) (r : kw_R) (i : kw_I) (w : kw_L) (x1 : Int32) (x2 : Int32) (x3 : Int32) (x4 : Int32) (x5 : Int32), Inv T n r i w → n ≤ 20000 → w_X9_hole 1 x1 x2 x3 x4 x5 T n r i w (fun v i1 => T 84 = (0, 10) ∧ w_X10_hole 84 x1 x2 x3 x4 x5 T n r i1 w (fun v2 i2 => v = v2 ∧ lw_N Inv n T n r i2 w))
set_option maxHeartbeats 4000000 in
set_option maxRecDepth 100000 in
theorem lc_2 {E : kw_E} {G : kw_G} {Q : State → Prop} {b L cs sl t : Nat} {xs : Nat → Int32} (hE : kw_ok E G cL_law 4 RL) (hRm : E.2.2.2.1 = room_1) (hX : va_X b L xs E.2.2.2.2.1 E.2.2.2.2.1.heap) (hbl : b < E.2.2.2.2.1.heap.size) (hbG : ¬ G.1 < b) (hL : L ≤ 3584) (ht : t + 7 ≤ L) (hc : cs + 20 ≤ 600000 ∧ sl + 1000 ≤ 7302250) {KN : kw_T → Nat → kw_R → kw_I → kw_L → Prop} (hk : ∀ T n r i w, KN T n r i w → kw_K E G 4 (cs + 20) (sl + 1000) Q 1181 [(3, kw_i (nI t)), (2, kw_a 84), (1, kw_a 1), (0, kw_a (kw_SB + 200 + b))] [] T n r i w) {T : kw_T} {n : Nat} {r : kw_R} {i : kw_I} {w : kw_L} (h1 : T 1 = (0, 9)) (h : w_X9_hole 1 (xs (t + 1)) (xs (t + 2)) (xs (t + 3)) (xs (t + 4)) (xs (t + 5)) T n r i w (fun v i1 => T 84 = (0, 10) ∧ w_X10_hole 84 (xs (t + 1)) (xs (t + 2)) (xs (t + 3)) (xs (t + 4)) (xs (t + 5)) T n r i1 w (fun v2 i2 => v = v2 ∧ KN T n r i2 w))) : kw_K E G 4 cs sl Q 276 [(3, kw_i (nI t)), (2, kw_a 84), (1, kw_a 1), (0, kw_a (kw_SB + 200 + b))] [] T n r i w := by
  refine kk_aload_n hE 2 dL_law_276 rfl rfl ?_
  refine kk_aload_n hE 3 dL_law_277 rfl rfl ?_
  refine kk_iload_n hE 0 dL_law_278 rfl rfl ?_
  refine kk_iconst (v := (1 : Int32)) hE dL_law_279 (by decide) ?_
  refine kk_iadd hE dL_law_280 ?_
  refine kk_scr hE hX hbl hbG (k := t + 1) (lw_ix t 1 (by decide)) (by omega) (by omega) dL_law_281 ?_
  refine kk_aload_n hE 3 dL_law_282 rfl rfl ?_
  refine kk_iload_n hE 0 dL_law_283 rfl rfl ?_
  refine kk_iconst (v := (2 : Int32)) hE dL_law_284 (by decide) ?_
  refine kk_iadd hE dL_law_285 ?_
  refine kk_scr hE hX hbl hbG (k := t + 2) (lw_ix t 2 (by decide)) (by omega) (by omega) dL_law_286 ?_
  refine kk_aload_n hE 3 dL_law_287 rfl rfl ?_
  refine kk_iload_n hE 0 dL_law_288 rfl rfl ?_
  refine kk_iconst (v := (3 : Int32)) hE dL_law_289 (by decide) ?_
  refine kk_iadd hE dL_law_290 ?_
  refine kk_scr hE hX hbl hbG (k := t + 3) (lw_ix t 3 (by decide)) (by omega) (by omega) dL_law_291 ?_
  refine kk_aload_n hE 3 dL_law_292 rfl rfl ?_
  refine kk_iload_n hE 0 dL_law_293 rfl rfl ?_
  refine kk_iconst (v := (4 : Int32)) hE dL_law_294 (by decide) ?_
  refine kk_iadd hE dL_law_295 ?_
  refine kk_scr hE hX hbl hbG (k := t + 4) (lw_ix t 4 (by decide)) (by omega) (by omega) dL_law_296 ?_
  refine kk_aload_n hE 3 dL_law_297 rfl rfl ?_
  refine kk_iload_n hE 0 dL_law_298 rfl rfl ?_
  refine kk_iconst (v := (5 : Int32)) hE dL_law_299 (by decide) ?_
  refine kk_iadd hE dL_law_300 ?_
  refine kk_scr hE hX hbl hbG (k := t + 5) (lw_ix t 5 (by decide)) (by omega) (by omega) dL_law_301 ?_
  refine kk_callVi (cs' := cs + 0) (sl' := sl + 0) (st := []) hE cvL_23 (t_X9_hole h1 h) dL_law_302 h1 rfl rfl hRm ⟨by decide, by decide⟩ ⟨by show cs + 0 ≤ 600000; omega, by show sl + 0 ≤ 7302250; omega⟩ rfl rfl (by decide) rfl ?_
  rintro v _ _ _ i1 _ ⟨rfl, rfl, rfl, rfl, h⟩
  obtain ⟨h2, h⟩ := h
  refine kk_aload_n hE 1 dL_law_305 rfl rfl ?_
  refine kk_aload_n hE 3 dL_law_306 rfl rfl ?_
  refine kk_iload_n hE 0 dL_law_307 rfl rfl ?_
  refine kk_iconst (v := (1 : Int32)) hE dL_law_308 (by decide) ?_
  refine kk_iadd hE dL_law_309 ?_
  refine kk_scr hE hX hbl hbG (k := t + 1) (lw_ix t 1 (by decide)) (by omega) (by omega) dL_law_310 ?_
  refine kk_aload_n hE 3 dL_law_311 rfl rfl ?_
  refine kk_iload_n hE 0 dL_law_312 rfl rfl ?_
  refine kk_iconst (v := (2 : Int32)) hE dL_law_313 (by decide) ?_
  refine kk_iadd hE dL_law_314 ?_
  refine kk_scr hE hX hbl hbG (k := t + 2) (lw_ix t 2 (by decide)) (by omega) (by omega) dL_law_315 ?_
  refine kk_aload_n hE 3 dL_law_316 rfl rfl ?_
  refine kk_iload_n hE 0 dL_law_317 rfl rfl ?_
  refine kk_iconst (v := (3 : Int32)) hE dL_law_318 (by decide) ?_
  refine kk_iadd hE dL_law_319 ?_
  refine kk_scr hE hX hbl hbG (k := t + 3) (lw_ix t 3 (by decide)) (by omega) (by omega) dL_law_320 ?_
  refine kk_aload_n hE 3 dL_law_321 rfl rfl ?_
  refine kk_iload_n hE 0 dL_law_322 rfl rfl ?_
  refine kk_iconst (v := (4 : Int32)) hE dL_law_323 (by decide) ?_
  refine kk_iadd hE dL_law_324 ?_
  refine kk_scr hE hX hbl hbG (k := t + 4) (lw_ix t 4 (by decide)) (by omega) (by omega) dL_law_325 ?_
  refine kk_aload_n hE 3 dL_law_326 rfl rfl ?_
  refine kk_iload_n hE 0 dL_law_327 rfl rfl ?_
  refine kk_iconst (v := (5 : Int32)) hE dL_law_328 (by decide) ?_
  refine kk_iadd hE dL_law_329 ?_
  refine kk_scr hE hX hbl hbG (k := t + 5) (lw_ix t 5 (by decide)) (by omega) (by omega) dL_law_330 ?_
  refine kk_callVi (cs' := cs + 0) (sl' := sl + 0) (st := [kw_i v]) hE cvL_27 (t_X10_hole h2 h) dL_law_331 h2 rfl rfl hRm ⟨by decide, by decide⟩ ⟨by show cs + 0 + 0 ≤ 600000; omega, by show sl + 0 + 0 ≤ 7302250; omega⟩ rfl rfl (Nat.le_of_ble_eq_true rfl) rfl ?_
  rintro v2 _ _ _ i2 _ ⟨rfl, rfl, rfl, rfl, h⟩
  obtain ⟨hv, h⟩ := h
  refine kk_icmp_eq (tgt := 1181) hE dL_law_334 (by decide) (fun _ => ?_) (fun c => absurd hv c)
  refine kk_widen (cs' := cs + 20) (sl' := sl + 1000) (by omega) (by omega) ?_
  exact hk _ _ _ _ _ h
/-- of: class and reference answer alike, and stay alike -/
def lw_C3 (Inv : kw_T → Nat → kw_R → kw_I → kw_L → Prop) : Prop := ∀ (T : kw_T) (n : Nat) (r : kw_R) (i : kw_I) (w : kw_L) (x1 : Int32) (x2 : Int32), Inv T n r i w → n ≤ 20000 → w_X9_of 1 x1 x2 T n r i w (fun v => T 84 = (0, 10) ∧ w_X10_of 84 x1 x2 T n r i w (fun v2 => v = v2 ∧ lw_N Inv n T n r i w))
set_option maxHeartbeats 4000000 in
set_option maxRecDepth 100000 in
theorem lc_3 {E : kw_E} {G : kw_G} {Q : State → Prop} {b L cs sl t : Nat} {xs : Nat → Int32} (hE : kw_ok E G cL_law 4 RL) (hRm : E.2.2.2.1 = room_1) (hX : va_X b L xs E.2.2.2.2.1 E.2.2.2.2.1.heap) (hbl : b < E.2.2.2.2.1.heap.size) (hbG : ¬ G.1 < b) (hL : L ≤ 3584) (ht : t + 7 ≤ L) (hc : cs + 20 ≤ 600000 ∧ sl + 1000 ≤ 7302250) {KN : kw_T → Nat → kw_R → kw_I → kw_L → Prop} (hk : ∀ T n r i w, KN T n r i w → kw_K E G 4 (cs + 20) (sl + 1000) Q 1181 [(3, kw_i (nI t)), (2, kw_a 84), (1, kw_a 1), (0, kw_a (kw_SB + 200 + b))] [] T n r i w) {T : kw_T} {n : Nat} {r : kw_R} {i : kw_I} {w : kw_L} (h1 : T 1 = (0, 9)) (h : w_X9_of 1 (xs (t + 1)) (xs (t + 2)) T n r i w (fun v => T 84 = (0, 10) ∧ w_X10_of 84 (xs (t + 1)) (xs (t + 2)) T n r i w (fun v2 => v = v2 ∧ KN T n r i w))) : kw_K E G 4 cs sl Q 339 [(3, kw_i (nI t)), (2, kw_a 84), (1, kw_a 1), (0, kw_a (kw_SB + 200 + b))] [] T n r i w := by
  refine kk_aload_n hE 2 dL_law_339 rfl rfl ?_
  refine kk_aload_n hE 3 dL_law_340 rfl rfl ?_
  refine kk_iload_n hE 0 dL_law_341 rfl rfl ?_
  refine kk_iconst (v := (1 : Int32)) hE dL_law_342 (by decide) ?_
  refine kk_iadd hE dL_law_343 ?_
  refine kk_scr hE hX hbl hbG (k := t + 1) (lw_ix t 1 (by decide)) (by omega) (by omega) dL_law_344 ?_
  refine kk_aload_n hE 3 dL_law_345 rfl rfl ?_
  refine kk_iload_n hE 0 dL_law_346 rfl rfl ?_
  refine kk_iconst (v := (2 : Int32)) hE dL_law_347 (by decide) ?_
  refine kk_iadd hE dL_law_348 ?_
  refine kk_scr hE hX hbl hbG (k := t + 2) (lw_ix t 2 (by decide)) (by omega) (by omega) dL_law_349 ?_
  refine kk_callVi (cs' := cs + 0) (sl' := sl + 0) (st := []) hE cvL_28 (t_X9_of h1 h) dL_law_350 h1 rfl rfl hRm ⟨by decide, by decide⟩ ⟨by show cs + 0 ≤ 600000; omega, by show sl + 0 ≤ 7302250; omega⟩ rfl rfl (by decide) rfl ?_
  rintro v _ _ _ _ _ ⟨rfl, rfl, rfl, rfl, rfl, h⟩
  obtain ⟨h2, h⟩ := h
  refine kk_aload_n hE 1 dL_law_353 rfl rfl ?_
  refine kk_aload_n hE 3 dL_law_354 rfl rfl ?_
  refine kk_iload_n hE 0 dL_law_355 rfl rfl ?_
  refine kk_iconst (v := (1 : Int32)) hE dL_law_356 (by decide) ?_
  refine kk_iadd hE dL_law_357 ?_
  refine kk_scr hE hX hbl hbG (k := t + 1) (lw_ix t 1 (by decide)) (by omega) (by omega) dL_law_358 ?_
  refine kk_aload_n hE 3 dL_law_359 rfl rfl ?_
  refine kk_iload_n hE 0 dL_law_360 rfl rfl ?_
  refine kk_iconst (v := (2 : Int32)) hE dL_law_361 (by decide) ?_
  refine kk_iadd hE dL_law_362 ?_
  refine kk_scr hE hX hbl hbG (k := t + 2) (lw_ix t 2 (by decide)) (by omega) (by omega) dL_law_363 ?_
  refine kk_callVi (cs' := cs + 0) (sl' := sl + 0) (st := [kw_i v]) hE cvL_32 (t_X10_of h2 h) dL_law_364 h2 rfl rfl hRm ⟨by decide, by decide⟩ ⟨by show cs + 0 + 0 ≤ 600000; omega, by show sl + 0 + 0 ≤ 7302250; omega⟩ rfl rfl (Nat.le_of_ble_eq_true rfl) rfl ?_
  rintro v2 _ _ _ _ _ ⟨rfl, rfl, rfl, rfl, rfl, h⟩
  obtain ⟨hv, h⟩ := h
  refine kk_icmp_eq (tgt := 1181) hE dL_law_367 (by decide) (fun _ => ?_) (fun c => absurd hv c)
  refine kk_widen (cs' := cs + 20) (sl' := sl + 1000) (by omega) (by omega) ?_
  exact hk _ _ _ _ _ h
/-- paint: class and reference answer alike, and stay alike -/
def lw_C4 (Inv : kw_T → Nat → kw_R → kw_I → kw_L → Prop) : Prop := ∀ (T : kw_T) (n : Nat) (r : kw_R) (i : kw_I) (w : kw_L) (x1 : Int32) (x2 : Int32) (x3 : Int32), Inv T n r i w → n ≤ 20000 → w_X9_paint 1 x1 x2 x3 T n r i w (fun v i1 => T 84 = (0, 10) ∧ w_X10_paint 84 x1 x2 x3 T n r i1 w (fun v2 i2 => v = v2 ∧ lw_N Inv n T n r i2 w))
set_option maxHeartbeats 4000000 in
set_option maxRecDepth 100000 in
theorem lc_4 {E : kw_E} {G : kw_G} {Q : State → Prop} {b L cs sl t : Nat} {xs : Nat → Int32} (hE : kw_ok E G cL_law 4 RL) (hRm : E.2.2.2.1 = room_1) (hX : va_X b L xs E.2.2.2.2.1 E.2.2.2.2.1.heap) (hbl : b < E.2.2.2.2.1.heap.size) (hbG : ¬ G.1 < b) (hL : L ≤ 3584) (ht : t + 7 ≤ L) (hc : cs + 20 ≤ 600000 ∧ sl + 1000 ≤ 7302250) {KN : kw_T → Nat → kw_R → kw_I → kw_L → Prop} (hk : ∀ T n r i w, KN T n r i w → kw_K E G 4 (cs + 20) (sl + 1000) Q 1181 [(3, kw_i (nI t)), (2, kw_a 84), (1, kw_a 1), (0, kw_a (kw_SB + 200 + b))] [] T n r i w) {T : kw_T} {n : Nat} {r : kw_R} {i : kw_I} {w : kw_L} (h1 : T 1 = (0, 9)) (h : w_X9_paint 1 (xs (t + 1)) (xs (t + 2)) (xs (t + 3)) T n r i w (fun v i1 => T 84 = (0, 10) ∧ w_X10_paint 84 (xs (t + 1)) (xs (t + 2)) (xs (t + 3)) T n r i1 w (fun v2 i2 => v = v2 ∧ KN T n r i2 w))) : kw_K E G 4 cs sl Q 372 [(3, kw_i (nI t)), (2, kw_a 84), (1, kw_a 1), (0, kw_a (kw_SB + 200 + b))] [] T n r i w := by
  refine kk_aload_n hE 2 dL_law_372 rfl rfl ?_
  refine kk_aload_n hE 3 dL_law_373 rfl rfl ?_
  refine kk_iload_n hE 0 dL_law_374 rfl rfl ?_
  refine kk_iconst (v := (1 : Int32)) hE dL_law_375 (by decide) ?_
  refine kk_iadd hE dL_law_376 ?_
  refine kk_scr hE hX hbl hbG (k := t + 1) (lw_ix t 1 (by decide)) (by omega) (by omega) dL_law_377 ?_
  refine kk_aload_n hE 3 dL_law_378 rfl rfl ?_
  refine kk_iload_n hE 0 dL_law_379 rfl rfl ?_
  refine kk_iconst (v := (2 : Int32)) hE dL_law_380 (by decide) ?_
  refine kk_iadd hE dL_law_381 ?_
  refine kk_scr hE hX hbl hbG (k := t + 2) (lw_ix t 2 (by decide)) (by omega) (by omega) dL_law_382 ?_
  refine kk_aload_n hE 3 dL_law_383 rfl rfl ?_
  refine kk_iload_n hE 0 dL_law_384 rfl rfl ?_
  refine kk_iconst (v := (3 : Int32)) hE dL_law_385 (by decide) ?_
  refine kk_iadd hE dL_law_386 ?_
  refine kk_scr hE hX hbl hbG (k := t + 3) (lw_ix t 3 (by decide)) (by omega) (by omega) dL_law_387 ?_
  refine kk_callVi (cs' := cs + 0) (sl' := sl + 0) (st := []) hE cvL_33 (t_X9_paint h1 h) dL_law_388 h1 rfl rfl hRm ⟨by decide, by decide⟩ ⟨by show cs + 0 ≤ 600000; omega, by show sl + 0 ≤ 7302250; omega⟩ rfl rfl (by decide) rfl ?_
  rintro v _ _ _ i1 _ ⟨rfl, rfl, rfl, rfl, h⟩
  obtain ⟨h2, h⟩ := h
  refine kk_aload_n hE 1 dL_law_391 rfl rfl ?_
  refine kk_aload_n hE 3 dL_law_392 rfl rfl ?_
  refine kk_iload_n hE 0 dL_law_393 rfl rfl ?_
  refine kk_iconst (v := (1 : Int32)) hE dL_law_394 (by decide) ?_
  refine kk_iadd hE dL_law_395 ?_
  refine kk_scr hE hX hbl hbG (k := t + 1) (lw_ix t 1 (by decide)) (by omega) (by omega) dL_law_396 ?_
  refine kk_aload_n hE 3 dL_law_397 rfl rfl ?_
  refine kk_iload_n hE 0 dL_law_398 rfl rfl ?_
  refine kk_iconst (v := (2 : Int32)) hE dL_law_399 (by decide) ?_
  refine kk_iadd hE dL_law_400 ?_
  refine kk_scr hE hX hbl hbG (k := t + 2) (lw_ix t 2 (by decide)) (by omega) (by omega) dL_law_401 ?_
  refine kk_aload_n hE 3 dL_law_402 rfl rfl ?_
  refine kk_iload_n hE 0 dL_law_403 rfl rfl ?_
  refine kk_iconst (v := (3 : Int32)) hE dL_law_404 (by decide) ?_
  refine kk_iadd hE dL_law_405 ?_
  refine kk_scr hE hX hbl hbG (k := t + 3) (lw_ix t 3 (by decide)) (by omega) (by omega) dL_law_406 ?_
  refine kk_callVi (cs' := cs + 0) (sl' := sl + 0) (st := [kw_i v]) hE cvL_36 (t_X10_paint h2 h) dL_law_407 h2 rfl rfl hRm ⟨by decide, by decide⟩ ⟨by show cs + 0 + 0 ≤ 600000; omega, by show sl + 0 + 0 ≤ 7302250; omega⟩ rfl rfl (Nat.le_of_ble_eq_true rfl) rfl ?_
  rintro v2 _ _ _ i2 _ ⟨rfl, rfl, rfl, rfl, h⟩
  obtain ⟨hv, h⟩ := h
  refine kk_icmp_eq (tgt := 1181) hE dL_law_410 (by decide) (fun _ => ?_) (fun c => absurd hv c)
  refine kk_widen (cs' := cs + 20) (sl' := sl + 1000) (by omega) (by omega) ?_
  exact hk _ _ _ _ _ h
/-- told: class and reference answer alike, and stay alike -/
def lw_C5 (Inv : kw_T → Nat → kw_R → kw_I → kw_L → Prop) : Prop := ∀ (T : kw_T) (n : Nat) (r : kw_R) (i : kw_I) (w : kw_L) (x1 : Int32) (x2 : Int32), Inv T n r i w → n ≤ 20000 → w_X9_told 1 x1 x2 T n r i w (fun v => T 84 = (0, 10) ∧ w_X10_told 84 x1 x2 T n r i w (fun v2 => v = v2 ∧ lw_N Inv n T n r i w))
set_option maxHeartbeats 4000000 in
set_option maxRecDepth 100000 in
theorem lc_5 {E : kw_E} {G : kw_G} {Q : State → Prop} {b L cs sl t : Nat} {xs : Nat → Int32} (hE : kw_ok E G cL_law 4 RL) (hRm : E.2.2.2.1 = room_1) (hX : va_X b L xs E.2.2.2.2.1 E.2.2.2.2.1.heap) (hbl : b < E.2.2.2.2.1.heap.size) (hbG : ¬ G.1 < b) (hL : L ≤ 3584) (ht : t + 7 ≤ L) (hc : cs + 20 ≤ 600000 ∧ sl + 1000 ≤ 7302250) {KN : kw_T → Nat → kw_R → kw_I → kw_L → Prop} (hk : ∀ T n r i w, KN T n r i w → kw_K E G 4 (cs + 20) (sl + 1000) Q 1181 [(3, kw_i (nI t)), (2, kw_a 84), (1, kw_a 1), (0, kw_a (kw_SB + 200 + b))] [] T n r i w) {T : kw_T} {n : Nat} {r : kw_R} {i : kw_I} {w : kw_L} (h1 : T 1 = (0, 9)) (h : w_X9_told 1 (xs (t + 1)) (xs (t + 2)) T n r i w (fun v => T 84 = (0, 10) ∧ w_X10_told 84 (xs (t + 1)) (xs (t + 2)) T n r i w (fun v2 => v = v2 ∧ KN T n r i w))) : kw_K E G 4 cs sl Q 415 [(3, kw_i (nI t)), (2, kw_a 84), (1, kw_a 1), (0, kw_a (kw_SB + 200 + b))] [] T n r i w := by
  refine kk_aload_n hE 2 dL_law_415 rfl rfl ?_
  refine kk_aload_n hE 3 dL_law_416 rfl rfl ?_
  refine kk_iload_n hE 0 dL_law_417 rfl rfl ?_
  refine kk_iconst (v := (1 : Int32)) hE dL_law_418 (by decide) ?_
  refine kk_iadd hE dL_law_419 ?_
  refine kk_scr hE hX hbl hbG (k := t + 1) (lw_ix t 1 (by decide)) (by omega) (by omega) dL_law_420 ?_
  refine kk_aload_n hE 3 dL_law_421 rfl rfl ?_
  refine kk_iload_n hE 0 dL_law_422 rfl rfl ?_
  refine kk_iconst (v := (2 : Int32)) hE dL_law_423 (by decide) ?_
  refine kk_iadd hE dL_law_424 ?_
  refine kk_scr hE hX hbl hbG (k := t + 2) (lw_ix t 2 (by decide)) (by omega) (by omega) dL_law_425 ?_
  refine kk_callVi (cs' := cs + 0) (sl' := sl + 0) (st := []) hE cvL_37 (t_X9_told h1 h) dL_law_426 h1 rfl rfl hRm ⟨by decide, by decide⟩ ⟨by show cs + 0 ≤ 600000; omega, by show sl + 0 ≤ 7302250; omega⟩ rfl rfl (by decide) rfl ?_
  rintro v _ _ _ _ _ ⟨rfl, rfl, rfl, rfl, rfl, h⟩
  obtain ⟨h2, h⟩ := h
  refine kk_aload_n hE 1 dL_law_429 rfl rfl ?_
  refine kk_aload_n hE 3 dL_law_430 rfl rfl ?_
  refine kk_iload_n hE 0 dL_law_431 rfl rfl ?_
  refine kk_iconst (v := (1 : Int32)) hE dL_law_432 (by decide) ?_
  refine kk_iadd hE dL_law_433 ?_
  refine kk_scr hE hX hbl hbG (k := t + 1) (lw_ix t 1 (by decide)) (by omega) (by omega) dL_law_434 ?_
  refine kk_aload_n hE 3 dL_law_435 rfl rfl ?_
  refine kk_iload_n hE 0 dL_law_436 rfl rfl ?_
  refine kk_iconst (v := (2 : Int32)) hE dL_law_437 (by decide) ?_
  refine kk_iadd hE dL_law_438 ?_
  refine kk_scr hE hX hbl hbG (k := t + 2) (lw_ix t 2 (by decide)) (by omega) (by omega) dL_law_439 ?_
  refine kk_callVi (cs' := cs + 0) (sl' := sl + 0) (st := [kw_i v]) hE cvL_40 (t_X10_told h2 h) dL_law_440 h2 rfl rfl hRm ⟨by decide, by decide⟩ ⟨by show cs + 0 + 0 ≤ 600000; omega, by show sl + 0 + 0 ≤ 7302250; omega⟩ rfl rfl (Nat.le_of_ble_eq_true rfl) rfl ?_
  rintro v2 _ _ _ _ _ ⟨rfl, rfl, rfl, rfl, rfl, h⟩
  obtain ⟨hv, h⟩ := h
  refine kk_icmp_eq (tgt := 1181) hE dL_law_443 (by decide) (fun _ => ?_) (fun c => absurd hv c)
  refine kk_widen (cs' := cs + 20) (sl' := sl + 1000) (by omega) (by omega) ?_
  exact hk _ _ _ _ _ h
/-- price: class and reference answer alike, and stay alike -/
def lw_C6 (Inv : kw_T → Nat → kw_R → kw_I → kw_L → Prop) : Prop := ∀ (T : kw_T) (n : Nat) (r : kw_R) (i : kw_I) (w : kw_L) (x1 : Int32) (x2 : Int32), Inv T n r i w → n ≤ 20000 → w_X9_price 1 x1 x2 T n r i w (fun v i1 => T 84 = (0, 10) ∧ w_X10_price 84 x1 x2 T n r i1 w (fun v2 i2 => v = v2 ∧ lw_N Inv n T n r i2 w))
set_option maxHeartbeats 4000000 in
set_option maxRecDepth 100000 in
theorem lc_6 {E : kw_E} {G : kw_G} {Q : State → Prop} {b L cs sl t : Nat} {xs : Nat → Int32} (hE : kw_ok E G cL_law 4 RL) (hRm : E.2.2.2.1 = room_1) (hX : va_X b L xs E.2.2.2.2.1 E.2.2.2.2.1.heap) (hbl : b < E.2.2.2.2.1.heap.size) (hbG : ¬ G.1 < b) (hL : L ≤ 3584) (ht : t + 7 ≤ L) (hc : cs + 20 ≤ 600000 ∧ sl + 1000 ≤ 7302250) {KN : kw_T → Nat → kw_R → kw_I → kw_L → Prop} (hk : ∀ T n r i w, KN T n r i w → kw_K E G 4 (cs + 20) (sl + 1000) Q 1181 [(3, kw_i (nI t)), (2, kw_a 84), (1, kw_a 1), (0, kw_a (kw_SB + 200 + b))] [] T n r i w) {T : kw_T} {n : Nat} {r : kw_R} {i : kw_I} {w : kw_L} (h1 : T 1 = (0, 9)) (h : w_X9_price 1 (xs (t + 1)) (xs (t + 2)) T n r i w (fun v i1 => T 84 = (0, 10) ∧ w_X10_price 84 (xs (t + 1)) (xs (t + 2)) T n r i1 w (fun v2 i2 => v = v2 ∧ KN T n r i2 w))) : kw_K E G 4 cs sl Q 448 [(3, kw_i (nI t)), (2, kw_a 84), (1, kw_a 1), (0, kw_a (kw_SB + 200 + b))] [] T n r i w := by
  refine kk_aload_n hE 2 dL_law_448 rfl rfl ?_
  refine kk_aload_n hE 3 dL_law_449 rfl rfl ?_
  refine kk_iload_n hE 0 dL_law_450 rfl rfl ?_
  refine kk_iconst (v := (1 : Int32)) hE dL_law_451 (by decide) ?_
  refine kk_iadd hE dL_law_452 ?_
  refine kk_scr hE hX hbl hbG (k := t + 1) (lw_ix t 1 (by decide)) (by omega) (by omega) dL_law_453 ?_
  refine kk_aload_n hE 3 dL_law_454 rfl rfl ?_
  refine kk_iload_n hE 0 dL_law_455 rfl rfl ?_
  refine kk_iconst (v := (2 : Int32)) hE dL_law_456 (by decide) ?_
  refine kk_iadd hE dL_law_457 ?_
  refine kk_scr hE hX hbl hbG (k := t + 2) (lw_ix t 2 (by decide)) (by omega) (by omega) dL_law_458 ?_
  refine kk_callVi (cs' := cs + 0) (sl' := sl + 0) (st := []) hE cvL_41 (t_X9_price h1 h) dL_law_459 h1 rfl rfl hRm ⟨by decide, by decide⟩ ⟨by show cs + 0 ≤ 600000; omega, by show sl + 0 ≤ 7302250; omega⟩ rfl rfl (by decide) rfl ?_
  rintro v _ _ _ i1 _ ⟨rfl, rfl, rfl, rfl, h⟩
  obtain ⟨h2, h⟩ := h
  refine kk_aload_n hE 1 dL_law_462 rfl rfl ?_
  refine kk_aload_n hE 3 dL_law_463 rfl rfl ?_
  refine kk_iload_n hE 0 dL_law_464 rfl rfl ?_
  refine kk_iconst (v := (1 : Int32)) hE dL_law_465 (by decide) ?_
  refine kk_iadd hE dL_law_466 ?_
  refine kk_scr hE hX hbl hbG (k := t + 1) (lw_ix t 1 (by decide)) (by omega) (by omega) dL_law_467 ?_
  refine kk_aload_n hE 3 dL_law_468 rfl rfl ?_
  refine kk_iload_n hE 0 dL_law_469 rfl rfl ?_
  refine kk_iconst (v := (2 : Int32)) hE dL_law_470 (by decide) ?_
  refine kk_iadd hE dL_law_471 ?_
  refine kk_scr hE hX hbl hbG (k := t + 2) (lw_ix t 2 (by decide)) (by omega) (by omega) dL_law_472 ?_
  refine kk_callVi (cs' := cs + 0) (sl' := sl + 0) (st := [kw_i v]) hE cvL_44 (t_X10_price h2 h) dL_law_473 h2 rfl rfl hRm ⟨by decide, by decide⟩ ⟨by show cs + 0 + 0 ≤ 600000; omega, by show sl + 0 + 0 ≤ 7302250; omega⟩ rfl rfl (Nat.le_of_ble_eq_true rfl) rfl ?_
  rintro v2 _ _ _ i2 _ ⟨rfl, rfl, rfl, rfl, h⟩
  obtain ⟨hv, h⟩ := h
  refine kk_icmp_eq (tgt := 1181) hE dL_law_476 (by decide) (fun _ => ?_) (fun c => absurd hv c)
  refine kk_widen (cs' := cs + 20) (sl' := sl + 1000) (by omega) (by omega) ?_
  exact hk _ _ _ _ _ h
/-- terms: class and reference answer alike, and stay alike -/
def lw_C7 (Inv : kw_T → Nat → kw_R → kw_I → kw_L → Prop) : Prop := ∀ (T : kw_T) (n : Nat) (r : kw_R) (i : kw_I) (w : kw_L) (x1 : Int32) (x2 : Int32), Inv T n r i w → n ≤ 20000 → w_X9_terms 1 x1 x2 T n r i w (fun v i1 => T 84 = (0, 10) ∧ w_X10_terms 84 x1 x2 T n r i1 w (fun v2 i2 => v = v2 ∧ lw_N Inv n T n r i2 w))
set_option maxHeartbeats 4000000 in
set_option maxRecDepth 100000 in
theorem lc_7 {E : kw_E} {G : kw_G} {Q : State → Prop} {b L cs sl t : Nat} {xs : Nat → Int32} (hE : kw_ok E G cL_law 4 RL) (hRm : E.2.2.2.1 = room_1) (hX : va_X b L xs E.2.2.2.2.1 E.2.2.2.2.1.heap) (hbl : b < E.2.2.2.2.1.heap.size) (hbG : ¬ G.1 < b) (hL : L ≤ 3584) (ht : t + 7 ≤ L) (hc : cs + 20 ≤ 600000 ∧ sl + 1000 ≤ 7302250) {KN : kw_T → Nat → kw_R → kw_I → kw_L → Prop} (hk : ∀ T n r i w, KN T n r i w → kw_K E G 4 (cs + 20) (sl + 1000) Q 1181 [(3, kw_i (nI t)), (2, kw_a 84), (1, kw_a 1), (0, kw_a (kw_SB + 200 + b))] [] T n r i w) {T : kw_T} {n : Nat} {r : kw_R} {i : kw_I} {w : kw_L} (h1 : T 1 = (0, 9)) (h : w_X9_terms 1 (xs (t + 1)) (xs (t + 2)) T n r i w (fun v i1 => T 84 = (0, 10) ∧ w_X10_terms 84 (xs (t + 1)) (xs (t + 2)) T n r i1 w (fun v2 i2 => v = v2 ∧ KN T n r i2 w))) : kw_K E G 4 cs sl Q 481 [(3, kw_i (nI t)), (2, kw_a 84), (1, kw_a 1), (0, kw_a (kw_SB + 200 + b))] [] T n r i w := by
  refine kk_aload_n hE 2 dL_law_481 rfl rfl ?_
  refine kk_aload_n hE 3 dL_law_482 rfl rfl ?_
  refine kk_iload_n hE 0 dL_law_483 rfl rfl ?_
  refine kk_iconst (v := (1 : Int32)) hE dL_law_484 (by decide) ?_
  refine kk_iadd hE dL_law_485 ?_
  refine kk_scr hE hX hbl hbG (k := t + 1) (lw_ix t 1 (by decide)) (by omega) (by omega) dL_law_486 ?_
  refine kk_aload_n hE 3 dL_law_487 rfl rfl ?_
  refine kk_iload_n hE 0 dL_law_488 rfl rfl ?_
  refine kk_iconst (v := (2 : Int32)) hE dL_law_489 (by decide) ?_
  refine kk_iadd hE dL_law_490 ?_
  refine kk_scr hE hX hbl hbG (k := t + 2) (lw_ix t 2 (by decide)) (by omega) (by omega) dL_law_491 ?_
  refine kk_callVi (cs' := cs + 0) (sl' := sl + 0) (st := []) hE cvL_45 (t_X9_terms h1 h) dL_law_492 h1 rfl rfl hRm ⟨by decide, by decide⟩ ⟨by show cs + 0 ≤ 600000; omega, by show sl + 0 ≤ 7302250; omega⟩ rfl rfl (by decide) rfl ?_
  rintro v _ _ _ i1 _ ⟨rfl, rfl, rfl, rfl, h⟩
  obtain ⟨h2, h⟩ := h
  refine kk_aload_n hE 1 dL_law_495 rfl rfl ?_
  refine kk_aload_n hE 3 dL_law_496 rfl rfl ?_
  refine kk_iload_n hE 0 dL_law_497 rfl rfl ?_
  refine kk_iconst (v := (1 : Int32)) hE dL_law_498 (by decide) ?_
  refine kk_iadd hE dL_law_499 ?_
  refine kk_scr hE hX hbl hbG (k := t + 1) (lw_ix t 1 (by decide)) (by omega) (by omega) dL_law_500 ?_
  refine kk_aload_n hE 3 dL_law_501 rfl rfl ?_
  refine kk_iload_n hE 0 dL_law_502 rfl rfl ?_
  refine kk_iconst (v := (2 : Int32)) hE dL_law_503 (by decide) ?_
  refine kk_iadd hE dL_law_504 ?_
  refine kk_scr hE hX hbl hbG (k := t + 2) (lw_ix t 2 (by decide)) (by omega) (by omega) dL_law_505 ?_
  refine kk_callVi (cs' := cs + 0) (sl' := sl + 0) (st := [kw_i v]) hE cvL_48 (t_X10_terms h2 h) dL_law_506 h2 rfl rfl hRm ⟨by decide, by decide⟩ ⟨by show cs + 0 + 0 ≤ 600000; omega, by show sl + 0 + 0 ≤ 7302250; omega⟩ rfl rfl (Nat.le_of_ble_eq_true rfl) rfl ?_
  rintro v2 _ _ _ i2 _ ⟨rfl, rfl, rfl, rfl, h⟩
  obtain ⟨hv, h⟩ := h
  refine kk_icmp_eq (tgt := 1181) hE dL_law_509 (by decide) (fun _ => ?_) (fun c => absurd hv c)
  refine kk_widen (cs' := cs + 20) (sl' := sl + 1000) (by omega) (by omega) ?_
  exact hk _ _ _ _ _ h
/-- feed: class and reference answer alike, and stay alike -/
def lw_C8 (Inv : kw_T → Nat → kw_R → kw_I → kw_L → Prop) : Prop := ∀ (T : kw_T) (n : Nat) (r : kw_R) (i : kw_I) (w : kw_L) (x1 : Int32) (x2 : Int32) (x3 : Int32) (x4 : Int32) (x5 : Int32), Inv T n r i w → n ≤ 20000 → w_X9_feed 1 x1 x2 x3 x4 x5 T n r i w (fun v i1 => T 84 = (0, 10) ∧ w_X10_feed 84 x1 x2 x3 x4 x5 T n r i1 w (fun v2 i2 => v = v2 ∧ lw_N Inv n T n r i2 w))
set_option maxHeartbeats 4000000 in
set_option maxRecDepth 100000 in
theorem lc_8 {E : kw_E} {G : kw_G} {Q : State → Prop} {b L cs sl t : Nat} {xs : Nat → Int32} (hE : kw_ok E G cL_law 4 RL) (hRm : E.2.2.2.1 = room_1) (hX : va_X b L xs E.2.2.2.2.1 E.2.2.2.2.1.heap) (hbl : b < E.2.2.2.2.1.heap.size) (hbG : ¬ G.1 < b) (hL : L ≤ 3584) (ht : t + 7 ≤ L) (hc : cs + 20 ≤ 600000 ∧ sl + 1000 ≤ 7302250) {KN : kw_T → Nat → kw_R → kw_I → kw_L → Prop} (hk : ∀ T n r i w, KN T n r i w → kw_K E G 4 (cs + 20) (sl + 1000) Q 1181 [(3, kw_i (nI t)), (2, kw_a 84), (1, kw_a 1), (0, kw_a (kw_SB + 200 + b))] [] T n r i w) {T : kw_T} {n : Nat} {r : kw_R} {i : kw_I} {w : kw_L} (h1 : T 1 = (0, 9)) (h : w_X9_feed 1 (xs (t + 1)) (xs (t + 2)) (xs (t + 3)) (xs (t + 4)) (xs (t + 5)) T n r i w (fun v i1 => T 84 = (0, 10) ∧ w_X10_feed 84 (xs (t + 1)) (xs (t + 2)) (xs (t + 3)) (xs (t + 4)) (xs (t + 5)) T n r i1 w (fun v2 i2 => v = v2 ∧ KN T n r i2 w))) : kw_K E G 4 cs sl Q 514 [(3, kw_i (nI t)), (2, kw_a 84), (1, kw_a 1), (0, kw_a (kw_SB + 200 + b))] [] T n r i w := by
  refine kk_aload_n hE 2 dL_law_514 rfl rfl ?_
  refine kk_aload_n hE 3 dL_law_515 rfl rfl ?_
  refine kk_iload_n hE 0 dL_law_516 rfl rfl ?_
  refine kk_iconst (v := (1 : Int32)) hE dL_law_517 (by decide) ?_
  refine kk_iadd hE dL_law_518 ?_
  refine kk_scr hE hX hbl hbG (k := t + 1) (lw_ix t 1 (by decide)) (by omega) (by omega) dL_law_519 ?_
  refine kk_aload_n hE 3 dL_law_520 rfl rfl ?_
  refine kk_iload_n hE 0 dL_law_521 rfl rfl ?_
  refine kk_iconst (v := (2 : Int32)) hE dL_law_522 (by decide) ?_
  refine kk_iadd hE dL_law_523 ?_
  refine kk_scr hE hX hbl hbG (k := t + 2) (lw_ix t 2 (by decide)) (by omega) (by omega) dL_law_524 ?_
  refine kk_aload_n hE 3 dL_law_525 rfl rfl ?_
  refine kk_iload_n hE 0 dL_law_526 rfl rfl ?_
  refine kk_iconst (v := (3 : Int32)) hE dL_law_527 (by decide) ?_
  refine kk_iadd hE dL_law_528 ?_
  refine kk_scr hE hX hbl hbG (k := t + 3) (lw_ix t 3 (by decide)) (by omega) (by omega) dL_law_529 ?_
  refine kk_aload_n hE 3 dL_law_530 rfl rfl ?_
  refine kk_iload_n hE 0 dL_law_531 rfl rfl ?_
  refine kk_iconst (v := (4 : Int32)) hE dL_law_532 (by decide) ?_
  refine kk_iadd hE dL_law_533 ?_
  refine kk_scr hE hX hbl hbG (k := t + 4) (lw_ix t 4 (by decide)) (by omega) (by omega) dL_law_534 ?_
  refine kk_aload_n hE 3 dL_law_535 rfl rfl ?_
  refine kk_iload_n hE 0 dL_law_536 rfl rfl ?_
  refine kk_iconst (v := (5 : Int32)) hE dL_law_537 (by decide) ?_
  refine kk_iadd hE dL_law_538 ?_
  refine kk_scr hE hX hbl hbG (k := t + 5) (lw_ix t 5 (by decide)) (by omega) (by omega) dL_law_539 ?_
  refine kk_callVi (cs' := cs + 0) (sl' := sl + 0) (st := []) hE cvL_49 (t_X9_feed h1 h) dL_law_540 h1 rfl rfl hRm ⟨by decide, by decide⟩ ⟨by show cs + 0 ≤ 600000; omega, by show sl + 0 ≤ 7302250; omega⟩ rfl rfl (by decide) rfl ?_
  rintro v _ _ _ i1 _ ⟨rfl, rfl, rfl, rfl, h⟩
  obtain ⟨h2, h⟩ := h
  refine kk_aload_n hE 1 dL_law_543 rfl rfl ?_
  refine kk_aload_n hE 3 dL_law_544 rfl rfl ?_
  refine kk_iload_n hE 0 dL_law_545 rfl rfl ?_
  refine kk_iconst (v := (1 : Int32)) hE dL_law_546 (by decide) ?_
  refine kk_iadd hE dL_law_547 ?_
  refine kk_scr hE hX hbl hbG (k := t + 1) (lw_ix t 1 (by decide)) (by omega) (by omega) dL_law_548 ?_
  refine kk_aload_n hE 3 dL_law_549 rfl rfl ?_
  refine kk_iload_n hE 0 dL_law_550 rfl rfl ?_
  refine kk_iconst (v := (2 : Int32)) hE dL_law_551 (by decide) ?_
  refine kk_iadd hE dL_law_552 ?_
  refine kk_scr hE hX hbl hbG (k := t + 2) (lw_ix t 2 (by decide)) (by omega) (by omega) dL_law_553 ?_
  refine kk_aload_n hE 3 dL_law_554 rfl rfl ?_
  refine kk_iload_n hE 0 dL_law_555 rfl rfl ?_
  refine kk_iconst (v := (3 : Int32)) hE dL_law_556 (by decide) ?_
  refine kk_iadd hE dL_law_557 ?_
  refine kk_scr hE hX hbl hbG (k := t + 3) (lw_ix t 3 (by decide)) (by omega) (by omega) dL_law_558 ?_
  refine kk_aload_n hE 3 dL_law_559 rfl rfl ?_
  refine kk_iload_n hE 0 dL_law_560 rfl rfl ?_
  refine kk_iconst (v := (4 : Int32)) hE dL_law_561 (by decide) ?_
  refine kk_iadd hE dL_law_562 ?_
  refine kk_scr hE hX hbl hbG (k := t + 4) (lw_ix t 4 (by decide)) (by omega) (by omega) dL_law_563 ?_
  refine kk_aload_n hE 3 dL_law_564 rfl rfl ?_
  refine kk_iload_n hE 0 dL_law_565 rfl rfl ?_
  refine kk_iconst (v := (5 : Int32)) hE dL_law_566 (by decide) ?_
  refine kk_iadd hE dL_law_567 ?_
  refine kk_scr hE hX hbl hbG (k := t + 5) (lw_ix t 5 (by decide)) (by omega) (by omega) dL_law_568 ?_
  refine kk_callVi (cs' := cs + 0) (sl' := sl + 0) (st := [kw_i v]) hE cvL_52 (t_X10_feed h2 h) dL_law_569 h2 rfl rfl hRm ⟨by decide, by decide⟩ ⟨by show cs + 0 + 0 ≤ 600000; omega, by show sl + 0 + 0 ≤ 7302250; omega⟩ rfl rfl (Nat.le_of_ble_eq_true rfl) rfl ?_
  rintro v2 _ _ _ i2 _ ⟨rfl, rfl, rfl, rfl, h⟩
  obtain ⟨hv, h⟩ := h
  refine kk_icmp_eq (tgt := 1181) hE dL_law_572 (by decide) (fun _ => ?_) (fun c => absurd hv c)
  refine kk_widen (cs' := cs + 20) (sl' := sl + 1000) (by omega) (by omega) ?_
  exact hk _ _ _ _ _ h
/-- end: class and reference answer alike, and stay alike -/
def lw_C9 (Inv : kw_T → Nat → kw_R → kw_I → kw_L → Prop) : Prop := ∀ (T : kw_T) (n : Nat) (r : kw_R) (i : kw_I) (w : kw_L) (x1 : Int32), Inv T n r i w → n ≤ 20000 → w_X9_end 1 x1 T n r i w (fun v i1 => T 84 = (0, 10) ∧ w_X10_end 84 x1 T n r i1 w (fun v2 i2 => v = v2 ∧ lw_N Inv n T n r i2 w))
set_option maxHeartbeats 4000000 in
set_option maxRecDepth 100000 in
theorem lc_9 {E : kw_E} {G : kw_G} {Q : State → Prop} {b L cs sl t : Nat} {xs : Nat → Int32} (hE : kw_ok E G cL_law 4 RL) (hRm : E.2.2.2.1 = room_1) (hX : va_X b L xs E.2.2.2.2.1 E.2.2.2.2.1.heap) (hbl : b < E.2.2.2.2.1.heap.size) (hbG : ¬ G.1 < b) (hL : L ≤ 3584) (ht : t + 7 ≤ L) (hc : cs + 20 ≤ 600000 ∧ sl + 1000 ≤ 7302250) {KN : kw_T → Nat → kw_R → kw_I → kw_L → Prop} (hk : ∀ T n r i w, KN T n r i w → kw_K E G 4 (cs + 20) (sl + 1000) Q 1181 [(3, kw_i (nI t)), (2, kw_a 84), (1, kw_a 1), (0, kw_a (kw_SB + 200 + b))] [] T n r i w) {T : kw_T} {n : Nat} {r : kw_R} {i : kw_I} {w : kw_L} (h1 : T 1 = (0, 9)) (h : w_X9_end 1 (xs (t + 1)) T n r i w (fun v i1 => T 84 = (0, 10) ∧ w_X10_end 84 (xs (t + 1)) T n r i1 w (fun v2 i2 => v = v2 ∧ KN T n r i2 w))) : kw_K E G 4 cs sl Q 577 [(3, kw_i (nI t)), (2, kw_a 84), (1, kw_a 1), (0, kw_a (kw_SB + 200 + b))] [] T n r i w := by
  refine kk_aload_n hE 2 dL_law_577 rfl rfl ?_
  refine kk_aload_n hE 3 dL_law_578 rfl rfl ?_
  refine kk_iload_n hE 0 dL_law_579 rfl rfl ?_
  refine kk_iconst (v := (1 : Int32)) hE dL_law_580 (by decide) ?_
  refine kk_iadd hE dL_law_581 ?_
  refine kk_scr hE hX hbl hbG (k := t + 1) (lw_ix t 1 (by decide)) (by omega) (by omega) dL_law_582 ?_
  refine kk_callVi (cs' := cs + 0) (sl' := sl + 0) (st := []) hE cvL_53 (t_X9_end h1 h) dL_law_583 h1 rfl rfl hRm ⟨by decide, by decide⟩ ⟨by show cs + 0 ≤ 600000; omega, by show sl + 0 ≤ 7302250; omega⟩ rfl rfl (by decide) rfl ?_
  rintro v _ _ _ i1 _ ⟨rfl, rfl, rfl, rfl, h⟩
  obtain ⟨h2, h⟩ := h
  refine kk_aload_n hE 1 dL_law_586 rfl rfl ?_
  refine kk_aload_n hE 3 dL_law_587 rfl rfl ?_
  refine kk_iload_n hE 0 dL_law_588 rfl rfl ?_
  refine kk_iconst (v := (1 : Int32)) hE dL_law_589 (by decide) ?_
  refine kk_iadd hE dL_law_590 ?_
  refine kk_scr hE hX hbl hbG (k := t + 1) (lw_ix t 1 (by decide)) (by omega) (by omega) dL_law_591 ?_
  refine kk_callVi (cs' := cs + 0) (sl' := sl + 0) (st := [kw_i v]) hE cvL_57 (t_X10_end h2 h) dL_law_592 h2 rfl rfl hRm ⟨by decide, by decide⟩ ⟨by show cs + 0 + 0 ≤ 600000; omega, by show sl + 0 + 0 ≤ 7302250; omega⟩ rfl rfl (Nat.le_of_ble_eq_true rfl) rfl ?_
  rintro v2 _ _ _ i2 _ ⟨rfl, rfl, rfl, rfl, h⟩
  obtain ⟨hv, h⟩ := h
  refine kk_icmp_eq (tgt := 1181) hE dL_law_595 (by decide) (fun _ => ?_) (fun c => absurd hv c)
  refine kk_widen (cs' := cs + 20) (sl' := sl + 1000) (by omega) (by omega) ?_
  exact hk _ _ _ _ _ h
/-- row: class and reference answer alike, and stay alike -/
def lw_C10 (Inv : kw_T → Nat → kw_R → kw_I → kw_L → Prop) : Prop := ∀ (T : kw_T) (n : Nat) (r : kw_R) (i : kw_I) (w : kw_L), Inv T n r i w → n ≤ 20000 → w_X9_row 1  T n r i w (fun v i1 => T 84 = (0, 10) ∧ w_X10_row 84  T n r i1 w (fun v2 i2 => v = v2 ∧ lw_N Inv n T n r i2 w))
set_option maxHeartbeats 4000000 in
set_option maxRecDepth 100000 in
theorem lc_10 {E : kw_E} {G : kw_G} {Q : State → Prop} {b L cs sl t : Nat} {xs : Nat → Int32} (hE : kw_ok E G cL_law 4 RL) (hRm : E.2.2.2.1 = room_1) (hX : va_X b L xs E.2.2.2.2.1 E.2.2.2.2.1.heap) (hbl : b < E.2.2.2.2.1.heap.size) (hbG : ¬ G.1 < b) (hL : L ≤ 3584) (ht : t + 7 ≤ L) (hc : cs + 20 ≤ 600000 ∧ sl + 1000 ≤ 7302250) {KN : kw_T → Nat → kw_R → kw_I → kw_L → Prop} (hk : ∀ T n r i w, KN T n r i w → kw_K E G 4 (cs + 20) (sl + 1000) Q 1181 [(3, kw_i (nI t)), (2, kw_a 84), (1, kw_a 1), (0, kw_a (kw_SB + 200 + b))] [] T n r i w) {T : kw_T} {n : Nat} {r : kw_R} {i : kw_I} {w : kw_L} (h1 : T 1 = (0, 9)) (h : w_X9_row 1  T n r i w (fun v i1 => T 84 = (0, 10) ∧ w_X10_row 84  T n r i1 w (fun v2 i2 => v = v2 ∧ KN T n r i2 w))) : kw_K E G 4 cs sl Q 600 [(3, kw_i (nI t)), (2, kw_a 84), (1, kw_a 1), (0, kw_a (kw_SB + 200 + b))] [] T n r i w := by
  refine kk_aload_n hE 2 dL_law_600 rfl rfl ?_
  refine kk_callVi (cs' := cs + 0) (sl' := sl + 0) (st := []) hE cvL_58 (t_X9_row h1 h) dL_law_601 h1 rfl rfl hRm ⟨by decide, by decide⟩ ⟨by show cs + 0 ≤ 600000; omega, by show sl + 0 ≤ 7302250; omega⟩ rfl rfl (by decide) rfl ?_
  rintro v _ _ _ i1 _ ⟨rfl, rfl, rfl, rfl, h⟩
  obtain ⟨h2, h⟩ := h
  refine kk_aload_n hE 1 dL_law_604 rfl rfl ?_
  refine kk_callVi (cs' := cs + 0) (sl' := sl + 0) (st := [kw_i v]) hE cvL_62 (t_X10_row h2 h) dL_law_605 h2 rfl rfl hRm ⟨by decide, by decide⟩ ⟨by show cs + 0 + 0 ≤ 600000; omega, by show sl + 0 + 0 ≤ 7302250; omega⟩ rfl rfl (Nat.le_of_ble_eq_true rfl) rfl ?_
  rintro v2 _ _ _ i2 _ ⟨rfl, rfl, rfl, rfl, h⟩
  obtain ⟨hv, h⟩ := h
  refine kk_icmp_eq (tgt := 1181) hE dL_law_608 (by decide) (fun _ => ?_) (fun c => absurd hv c)
  refine kk_widen (cs' := cs + 20) (sl' := sl + 1000) (by omega) (by omega) ?_
  exact hk _ _ _ _ _ h
/-- lint: class and reference answer alike, and stay alike -/
def lw_C11 (Inv : kw_T → Nat → kw_R → kw_I → kw_L → Prop) : Prop := ∀ (T : kw_T) (n : Nat) (r : kw_R) (i : kw_I) (w : kw_L), Inv T n r i w → n ≤ 20000 → w_X9_lint 1  T n r i w (fun v => T 84 = (0, 10) ∧ w_X10_lint 84  T n r i w (fun v2 => v = v2 ∧ lw_N Inv n T n r i w))
set_option maxHeartbeats 4000000 in
set_option maxRecDepth 100000 in
theorem lc_11 {E : kw_E} {G : kw_G} {Q : State → Prop} {b L cs sl t : Nat} {xs : Nat → Int32} (hE : kw_ok E G cL_law 4 RL) (hRm : E.2.2.2.1 = room_1) (hX : va_X b L xs E.2.2.2.2.1 E.2.2.2.2.1.heap) (hbl : b < E.2.2.2.2.1.heap.size) (hbG : ¬ G.1 < b) (hL : L ≤ 3584) (ht : t + 7 ≤ L) (hc : cs + 20 ≤ 600000 ∧ sl + 1000 ≤ 7302250) {KN : kw_T → Nat → kw_R → kw_I → kw_L → Prop} (hk : ∀ T n r i w, KN T n r i w → kw_K E G 4 (cs + 20) (sl + 1000) Q 1181 [(3, kw_i (nI t)), (2, kw_a 84), (1, kw_a 1), (0, kw_a (kw_SB + 200 + b))] [] T n r i w) {T : kw_T} {n : Nat} {r : kw_R} {i : kw_I} {w : kw_L} (h1 : T 1 = (0, 9)) (h : w_X9_lint 1  T n r i w (fun v => T 84 = (0, 10) ∧ w_X10_lint 84  T n r i w (fun v2 => v = v2 ∧ KN T n r i w))) : kw_K E G 4 cs sl Q 613 [(3, kw_i (nI t)), (2, kw_a 84), (1, kw_a 1), (0, kw_a (kw_SB + 200 + b))] [] T n r i w := by
  refine kk_aload_n hE 2 dL_law_613 rfl rfl ?_
  refine kk_callVi (cs' := cs + 0) (sl' := sl + 0) (st := []) hE cvL_63 (t_X9_lint h1 h) dL_law_614 h1 rfl rfl hRm ⟨by decide, by decide⟩ ⟨by show cs + 0 ≤ 600000; omega, by show sl + 0 ≤ 7302250; omega⟩ rfl rfl (by decide) rfl ?_
  rintro v _ _ _ _ _ ⟨rfl, rfl, rfl, rfl, rfl, h⟩
  obtain ⟨h2, h⟩ := h
  refine kk_aload_n hE 1 dL_law_617 rfl rfl ?_
  refine kk_callVi (cs' := cs + 0) (sl' := sl + 0) (st := [kw_i v]) hE cvL_66 (t_X10_lint h2 h) dL_law_618 h2 rfl rfl hRm ⟨by decide, by decide⟩ ⟨by show cs + 0 + 0 ≤ 600000; omega, by show sl + 0 + 0 ≤ 7302250; omega⟩ rfl rfl (Nat.le_of_ble_eq_true rfl) rfl ?_
  rintro v2 _ _ _ _ _ ⟨rfl, rfl, rfl, rfl, rfl, h⟩
  obtain ⟨hv, h⟩ := h
  refine kk_icmp_eq (tgt := 1181) hE dL_law_621 (by decide) (fun _ => ?_) (fun c => absurd hv c)
  refine kk_widen (cs' := cs + 20) (sl' := sl + 1000) (by omega) (by omega) ?_
  exact hk _ _ _ _ _ h
/-- law: class and reference answer alike, and stay alike -/
def lw_C12 (Inv : kw_T → Nat → kw_R → kw_I → kw_L → Prop) : Prop := ∀ (T : kw_T) (n : Nat) (r : kw_R) (i : kw_I) (w : kw_L), Inv T n r i w → n ≤ 20000 → w_X9_law 1  T n r i w (fun v T1 n1 r1 i1 => T1 84 = (0, 10) ∧ w_X10_law 84  T1 n1 r1 i1 w (fun v2 i2 => v = v2 ∧ lw_N Inv n T1 n1 r1 i2 w))
set_option maxHeartbeats 4000000 in
set_option maxRecDepth 100000 in
theorem lc_12 {E : kw_E} {G : kw_G} {Q : State → Prop} {b L cs sl t : Nat} {xs : Nat → Int32} (hE : kw_ok E G cL_law 4 RL) (hRm : E.2.2.2.1 = room_1) (hX : va_X b L xs E.2.2.2.2.1 E.2.2.2.2.1.heap) (hbl : b < E.2.2.2.2.1.heap.size) (hbG : ¬ G.1 < b) (hL : L ≤ 3584) (ht : t + 7 ≤ L) (hc : cs + 20 ≤ 600000 ∧ sl + 1000 ≤ 7302250) {KN : kw_T → Nat → kw_R → kw_I → kw_L → Prop} (hk : ∀ T n r i w, KN T n r i w → kw_K E G 4 (cs + 20) (sl + 1000) Q 1181 [(3, kw_i (nI t)), (2, kw_a 84), (1, kw_a 1), (0, kw_a (kw_SB + 200 + b))] [] T n r i w) {T : kw_T} {n : Nat} {r : kw_R} {i : kw_I} {w : kw_L} (h1 : T 1 = (0, 9)) (h : w_X9_law 1  T n r i w (fun v T1 n1 r1 i1 => T1 84 = (0, 10) ∧ w_X10_law 84  T1 n1 r1 i1 w (fun v2 i2 => v = v2 ∧ KN T1 n1 r1 i2 w))) : kw_K E G 4 cs sl Q 626 [(3, kw_i (nI t)), (2, kw_a 84), (1, kw_a 1), (0, kw_a (kw_SB + 200 + b))] [] T n r i w := by
  refine kk_aload_n hE 2 dL_law_626 rfl rfl ?_
  refine kk_callVi (cs' := cs + 3) (sl' := sl + 803) (st := []) hE cvL_67 (t_X9_law h1 h) dL_law_627 h1 rfl rfl hRm ⟨by decide, by decide⟩ ⟨by show cs + 3 ≤ 600000; omega, by show sl + 803 ≤ 7302250; omega⟩ rfl rfl (by decide) rfl ?_
  rintro v T1 n1 r1 i1 _ ⟨rfl, h⟩
  obtain ⟨h2, h⟩ := h
  refine kk_aload_n hE 1 dL_law_630 rfl rfl ?_
  refine kk_callVi (cs' := cs + 3) (sl' := sl + 803) (st := [kw_i v]) hE cvL_70 (t_X10_law h2 h) dL_law_631 h2 rfl rfl hRm ⟨by decide, by decide⟩ ⟨by show cs + 3 + 0 ≤ 600000; omega, by show sl + 803 + 0 ≤ 7302250; omega⟩ rfl rfl (Nat.le_of_ble_eq_true rfl) rfl ?_
  rintro v2 _ _ _ i2 _ ⟨rfl, rfl, rfl, rfl, h⟩
  obtain ⟨hv, h⟩ := h
  refine kk_icmp_eq (tgt := 1181) hE dL_law_634 (by decide) (fun _ => ?_) (fun c => absurd hv c)
  refine kk_widen (cs' := cs + 20) (sl' := sl + 1000) (by omega) (by omega) ?_
  exact hk _ _ _ _ _ h
/-- fault: class and reference answer alike, and stay alike -/
def lw_C13 (Inv : kw_T → Nat → kw_R → kw_I → kw_L → Prop) : Prop := ∀ (T : kw_T) (n : Nat) (r : kw_R) (i : kw_I) (w : kw_L), Inv T n r i w → n ≤ 20000 → w_X9_fault 1  T n r i w (fun v => T 84 = (0, 10) ∧ w_X10_fault 84  T n r i w (fun v2 => v = v2 ∧ lw_N Inv n T n r i w))
set_option maxHeartbeats 4000000 in
set_option maxRecDepth 100000 in
theorem lc_13 {E : kw_E} {G : kw_G} {Q : State → Prop} {b L cs sl t : Nat} {xs : Nat → Int32} (hE : kw_ok E G cL_law 4 RL) (hRm : E.2.2.2.1 = room_1) (hX : va_X b L xs E.2.2.2.2.1 E.2.2.2.2.1.heap) (hbl : b < E.2.2.2.2.1.heap.size) (hbG : ¬ G.1 < b) (hL : L ≤ 3584) (ht : t + 7 ≤ L) (hc : cs + 20 ≤ 600000 ∧ sl + 1000 ≤ 7302250) {KN : kw_T → Nat → kw_R → kw_I → kw_L → Prop} (hk : ∀ T n r i w, KN T n r i w → kw_K E G 4 (cs + 20) (sl + 1000) Q 1181 [(3, kw_i (nI t)), (2, kw_a 84), (1, kw_a 1), (0, kw_a (kw_SB + 200 + b))] [] T n r i w) {T : kw_T} {n : Nat} {r : kw_R} {i : kw_I} {w : kw_L} (h1 : T 1 = (0, 9)) (h : w_X9_fault 1  T n r i w (fun v => T 84 = (0, 10) ∧ w_X10_fault 84  T n r i w (fun v2 => v = v2 ∧ KN T n r i w))) : kw_K E G 4 cs sl Q 639 [(3, kw_i (nI t)), (2, kw_a 84), (1, kw_a 1), (0, kw_a (kw_SB + 200 + b))] [] T n r i w := by
  refine kk_aload_n hE 2 dL_law_639 rfl rfl ?_
  refine kk_callVi (cs' := cs + 0) (sl' := sl + 0) (st := []) hE cvL_71 (t_X9_fault h1 h) dL_law_640 h1 rfl rfl hRm ⟨by decide, by decide⟩ ⟨by show cs + 0 ≤ 600000; omega, by show sl + 0 ≤ 7302250; omega⟩ rfl rfl (by decide) rfl ?_
  rintro v _ _ _ _ _ ⟨rfl, rfl, rfl, rfl, rfl, h⟩
  obtain ⟨h2, h⟩ := h
  refine kk_aload_n hE 1 dL_law_643 rfl rfl ?_
  refine kk_callVi (cs' := cs + 0) (sl' := sl + 0) (st := [kw_i v]) hE cvL_74 (t_X10_fault h2 h) dL_law_644 h2 rfl rfl hRm ⟨by decide, by decide⟩ ⟨by show cs + 0 + 0 ≤ 600000; omega, by show sl + 0 + 0 ≤ 7302250; omega⟩ rfl rfl (Nat.le_of_ble_eq_true rfl) rfl ?_
  rintro v2 _ _ _ _ _ ⟨rfl, rfl, rfl, rfl, rfl, h⟩
  obtain ⟨hv, h⟩ := h
  refine kk_icmp_eq (tgt := 1181) hE dL_law_647 (by decide) (fun _ => ?_) (fun c => absurd hv c)
  refine kk_widen (cs' := cs + 20) (sl' := sl + 1000) (by omega) (by omega) ?_
  exact hk _ _ _ _ _ h
/-- force: class and reference answer alike, and stay alike -/
def lw_C14 (Inv : kw_T → Nat → kw_R → kw_I → kw_L → Prop) : Prop := ∀ (T : kw_T) (n : Nat) (r : kw_R) (i : kw_I) (w : kw_L) (x1 : Int32), Inv T n r i w → n ≤ 20000 → w_X9_force 1 x1 T n r i w (fun v i1 => T 84 = (0, 10) ∧ w_X10_force 84 x1 T n r i1 w (fun v2 i2 => v = v2 ∧ lw_N Inv n T n r i2 w))
set_option maxHeartbeats 4000000 in
set_option maxRecDepth 100000 in
theorem lc_14 {E : kw_E} {G : kw_G} {Q : State → Prop} {b L cs sl t : Nat} {xs : Nat → Int32} (hE : kw_ok E G cL_law 4 RL) (hRm : E.2.2.2.1 = room_1) (hX : va_X b L xs E.2.2.2.2.1 E.2.2.2.2.1.heap) (hbl : b < E.2.2.2.2.1.heap.size) (hbG : ¬ G.1 < b) (hL : L ≤ 3584) (ht : t + 7 ≤ L) (hc : cs + 20 ≤ 600000 ∧ sl + 1000 ≤ 7302250) {KN : kw_T → Nat → kw_R → kw_I → kw_L → Prop} (hk : ∀ T n r i w, KN T n r i w → kw_K E G 4 (cs + 20) (sl + 1000) Q 1181 [(3, kw_i (nI t)), (2, kw_a 84), (1, kw_a 1), (0, kw_a (kw_SB + 200 + b))] [] T n r i w) {T : kw_T} {n : Nat} {r : kw_R} {i : kw_I} {w : kw_L} (h1 : T 1 = (0, 9)) (h : w_X9_force 1 (xs (t + 1)) T n r i w (fun v i1 => T 84 = (0, 10) ∧ w_X10_force 84 (xs (t + 1)) T n r i1 w (fun v2 i2 => v = v2 ∧ KN T n r i2 w))) : kw_K E G 4 cs sl Q 652 [(3, kw_i (nI t)), (2, kw_a 84), (1, kw_a 1), (0, kw_a (kw_SB + 200 + b))] [] T n r i w := by
  refine kk_aload_n hE 2 dL_law_652 rfl rfl ?_
  refine kk_aload_n hE 3 dL_law_653 rfl rfl ?_
  refine kk_iload_n hE 0 dL_law_654 rfl rfl ?_
  refine kk_iconst (v := (1 : Int32)) hE dL_law_655 (by decide) ?_
  refine kk_iadd hE dL_law_656 ?_
  refine kk_scr hE hX hbl hbG (k := t + 1) (lw_ix t 1 (by decide)) (by omega) (by omega) dL_law_657 ?_
  refine kk_callVi (cs' := cs + 0) (sl' := sl + 0) (st := []) hE cvL_75 (t_X9_force h1 h) dL_law_658 h1 rfl rfl hRm ⟨by decide, by decide⟩ ⟨by show cs + 0 ≤ 600000; omega, by show sl + 0 ≤ 7302250; omega⟩ rfl rfl (by decide) rfl ?_
  rintro v _ _ _ i1 _ ⟨rfl, rfl, rfl, rfl, h⟩
  obtain ⟨h2, h⟩ := h
  refine kk_aload_n hE 1 dL_law_661 rfl rfl ?_
  refine kk_aload_n hE 3 dL_law_662 rfl rfl ?_
  refine kk_iload_n hE 0 dL_law_663 rfl rfl ?_
  refine kk_iconst (v := (1 : Int32)) hE dL_law_664 (by decide) ?_
  refine kk_iadd hE dL_law_665 ?_
  refine kk_scr hE hX hbl hbG (k := t + 1) (lw_ix t 1 (by decide)) (by omega) (by omega) dL_law_666 ?_
  refine kk_callVi (cs' := cs + 0) (sl' := sl + 0) (st := [kw_i v]) hE cvL_78 (t_X10_force h2 h) dL_law_667 h2 rfl rfl hRm ⟨by decide, by decide⟩ ⟨by show cs + 0 + 0 ≤ 600000; omega, by show sl + 0 + 0 ≤ 7302250; omega⟩ rfl rfl (Nat.le_of_ble_eq_true rfl) rfl ?_
  rintro v2 _ _ _ i2 _ ⟨rfl, rfl, rfl, rfl, h⟩
  obtain ⟨hv, h⟩ := h
  refine kk_icmp_eq (tgt := 1181) hE dL_law_670 (by decide) (fun _ => ?_) (fun c => absurd hv c)
  refine kk_widen (cs' := cs + 20) (sl' := sl + 1000) (by omega) (by omega) ?_
  exact hk _ _ _ _ _ h
/-- woven: class and reference answer alike, and stay alike -/
def lw_C15 (Inv : kw_T → Nat → kw_R → kw_I → kw_L → Prop) : Prop := ∀ (T : kw_T) (n : Nat) (r : kw_R) (i : kw_I) (w : kw_L) (x1 : Int32) (x2 : Int32) (x3 : Int32), Inv T n r i w → n ≤ 20000 → w_X9_woven 1 x1 x2 x3 T n r i w (fun v r1 i1 w1 => T 84 = (0, 10) ∧ w_X10_woven 84 x1 x2 x3 T n r1 i1 w1 (fun v2 i2 => v = v2 ∧ lw_N Inv n T n r1 i2 w1))
set_option maxHeartbeats 4000000 in
set_option maxRecDepth 100000 in
theorem lc_15 {E : kw_E} {G : kw_G} {Q : State → Prop} {b L cs sl t : Nat} {xs : Nat → Int32} (hE : kw_ok E G cL_law 4 RL) (hRm : E.2.2.2.1 = room_1) (hX : va_X b L xs E.2.2.2.2.1 E.2.2.2.2.1.heap) (hbl : b < E.2.2.2.2.1.heap.size) (hbG : ¬ G.1 < b) (hL : L ≤ 3584) (ht : t + 7 ≤ L) (hc : cs + 20 ≤ 600000 ∧ sl + 1000 ≤ 7302250) {KN : kw_T → Nat → kw_R → kw_I → kw_L → Prop} (hk : ∀ T n r i w, KN T n r i w → kw_K E G 4 (cs + 20) (sl + 1000) Q 1181 [(3, kw_i (nI t)), (2, kw_a 84), (1, kw_a 1), (0, kw_a (kw_SB + 200 + b))] [] T n r i w) {T : kw_T} {n : Nat} {r : kw_R} {i : kw_I} {w : kw_L} (h1 : T 1 = (0, 9)) (h : w_X9_woven 1 (xs (t + 1)) (xs (t + 2)) (xs (t + 3)) T n r i w (fun v r1 i1 w1 => T 84 = (0, 10) ∧ w_X10_woven 84 (xs (t + 1)) (xs (t + 2)) (xs (t + 3)) T n r1 i1 w1 (fun v2 i2 => v = v2 ∧ KN T n r1 i2 w1))) : kw_K E G 4 cs sl Q 675 [(3, kw_i (nI t)), (2, kw_a 84), (1, kw_a 1), (0, kw_a (kw_SB + 200 + b))] [] T n r i w := by
  refine kk_aload_n hE 2 dL_law_675 rfl rfl ?_
  refine kk_aload_n hE 3 dL_law_676 rfl rfl ?_
  refine kk_iload_n hE 0 dL_law_677 rfl rfl ?_
  refine kk_iconst (v := (1 : Int32)) hE dL_law_678 (by decide) ?_
  refine kk_iadd hE dL_law_679 ?_
  refine kk_scr hE hX hbl hbG (k := t + 1) (lw_ix t 1 (by decide)) (by omega) (by omega) dL_law_680 ?_
  refine kk_aload_n hE 3 dL_law_681 rfl rfl ?_
  refine kk_iload_n hE 0 dL_law_682 rfl rfl ?_
  refine kk_iconst (v := (2 : Int32)) hE dL_law_683 (by decide) ?_
  refine kk_iadd hE dL_law_684 ?_
  refine kk_scr hE hX hbl hbG (k := t + 2) (lw_ix t 2 (by decide)) (by omega) (by omega) dL_law_685 ?_
  refine kk_aload_n hE 3 dL_law_686 rfl rfl ?_
  refine kk_iload_n hE 0 dL_law_687 rfl rfl ?_
  refine kk_iconst (v := (3 : Int32)) hE dL_law_688 (by decide) ?_
  refine kk_iadd hE dL_law_689 ?_
  refine kk_scr hE hX hbl hbG (k := t + 3) (lw_ix t 3 (by decide)) (by omega) (by omega) dL_law_690 ?_
  refine kk_callVi (cs' := cs + 0) (sl' := sl + 0) (st := []) hE cvL_79 (t_X9_woven h1 h) dL_law_691 h1 rfl rfl hRm ⟨by decide, by decide⟩ ⟨by show cs + 0 ≤ 600000; omega, by show sl + 0 ≤ 7302250; omega⟩ rfl rfl (by decide) rfl ?_
  rintro v _ _ r1 i1 w1 ⟨rfl, rfl, h⟩
  obtain ⟨h2, h⟩ := h
  refine kk_aload_n hE 1 dL_law_694 rfl rfl ?_
  refine kk_aload_n hE 3 dL_law_695 rfl rfl ?_
  refine kk_iload_n hE 0 dL_law_696 rfl rfl ?_
  refine kk_iconst (v := (1 : Int32)) hE dL_law_697 (by decide) ?_
  refine kk_iadd hE dL_law_698 ?_
  refine kk_scr hE hX hbl hbG (k := t + 1) (lw_ix t 1 (by decide)) (by omega) (by omega) dL_law_699 ?_
  refine kk_aload_n hE 3 dL_law_700 rfl rfl ?_
  refine kk_iload_n hE 0 dL_law_701 rfl rfl ?_
  refine kk_iconst (v := (2 : Int32)) hE dL_law_702 (by decide) ?_
  refine kk_iadd hE dL_law_703 ?_
  refine kk_scr hE hX hbl hbG (k := t + 2) (lw_ix t 2 (by decide)) (by omega) (by omega) dL_law_704 ?_
  refine kk_aload_n hE 3 dL_law_705 rfl rfl ?_
  refine kk_iload_n hE 0 dL_law_706 rfl rfl ?_
  refine kk_iconst (v := (3 : Int32)) hE dL_law_707 (by decide) ?_
  refine kk_iadd hE dL_law_708 ?_
  refine kk_scr hE hX hbl hbG (k := t + 3) (lw_ix t 3 (by decide)) (by omega) (by omega) dL_law_709 ?_
  refine kk_callVi (cs' := cs + 0) (sl' := sl + 0) (st := [kw_i v]) hE cvL_82 (t_X10_woven h2 h) dL_law_710 h2 rfl rfl hRm ⟨by decide, by decide⟩ ⟨by show cs + 0 + 0 ≤ 600000; omega, by show sl + 0 + 0 ≤ 7302250; omega⟩ rfl rfl (Nat.le_of_ble_eq_true rfl) rfl ?_
  rintro v2 _ _ _ i2 _ ⟨rfl, rfl, rfl, rfl, h⟩
  obtain ⟨hv, h⟩ := h
  refine kk_icmp_eq (tgt := 1181) hE dL_law_713 (by decide) (fun _ => ?_) (fun c => absurd hv c)
  refine kk_widen (cs' := cs + 20) (sl' := sl + 1000) (by omega) (by omega) ?_
  exact hk _ _ _ _ _ h
/-- like: class and reference answer alike, and stay alike -/
def lw_C16 (Inv : kw_T → Nat → kw_R → kw_I → kw_L → Prop) : Prop := ∀ (T : kw_T) (n : Nat) (r : kw_R) (i : kw_I) (w : kw_L) (x1 : Int32) (x2 : Int32), Inv T n r i w → n ≤ 20000 → w_X9_like 1 x1 x2 T n r i w (fun v r1 i1 w1 => T 84 = (0, 10) ∧ w_X10_like 84 x1 x2 T n r1 i1 w1 (fun v2 i2 => v = v2 ∧ lw_N Inv n T n r1 i2 w1))
set_option maxHeartbeats 4000000 in
set_option maxRecDepth 100000 in
theorem lc_16 {E : kw_E} {G : kw_G} {Q : State → Prop} {b L cs sl t : Nat} {xs : Nat → Int32} (hE : kw_ok E G cL_law 4 RL) (hRm : E.2.2.2.1 = room_1) (hX : va_X b L xs E.2.2.2.2.1 E.2.2.2.2.1.heap) (hbl : b < E.2.2.2.2.1.heap.size) (hbG : ¬ G.1 < b) (hL : L ≤ 3584) (ht : t + 7 ≤ L) (hc : cs + 20 ≤ 600000 ∧ sl + 1000 ≤ 7302250) {KN : kw_T → Nat → kw_R → kw_I → kw_L → Prop} (hk : ∀ T n r i w, KN T n r i w → kw_K E G 4 (cs + 20) (sl + 1000) Q 1181 [(3, kw_i (nI t)), (2, kw_a 84), (1, kw_a 1), (0, kw_a (kw_SB + 200 + b))] [] T n r i w) {T : kw_T} {n : Nat} {r : kw_R} {i : kw_I} {w : kw_L} (h1 : T 1 = (0, 9)) (h : w_X9_like 1 (xs (t + 1)) (xs (t + 2)) T n r i w (fun v r1 i1 w1 => T 84 = (0, 10) ∧ w_X10_like 84 (xs (t + 1)) (xs (t + 2)) T n r1 i1 w1 (fun v2 i2 => v = v2 ∧ KN T n r1 i2 w1))) : kw_K E G 4 cs sl Q 718 [(3, kw_i (nI t)), (2, kw_a 84), (1, kw_a 1), (0, kw_a (kw_SB + 200 + b))] [] T n r i w := by
  refine kk_aload_n hE 2 dL_law_718 rfl rfl ?_
  refine kk_aload_n hE 3 dL_law_719 rfl rfl ?_
  refine kk_iload_n hE 0 dL_law_720 rfl rfl ?_
  refine kk_iconst (v := (1 : Int32)) hE dL_law_721 (by decide) ?_
  refine kk_iadd hE dL_law_722 ?_
  refine kk_scr hE hX hbl hbG (k := t + 1) (lw_ix t 1 (by decide)) (by omega) (by omega) dL_law_723 ?_
  refine kk_aload_n hE 3 dL_law_724 rfl rfl ?_
  refine kk_iload_n hE 0 dL_law_725 rfl rfl ?_
  refine kk_iconst (v := (2 : Int32)) hE dL_law_726 (by decide) ?_
  refine kk_iadd hE dL_law_727 ?_
  refine kk_scr hE hX hbl hbG (k := t + 2) (lw_ix t 2 (by decide)) (by omega) (by omega) dL_law_728 ?_
  refine kk_callVi (cs' := cs + 0) (sl' := sl + 0) (st := []) hE cvL_83 (t_X9_like h1 h) dL_law_729 h1 rfl rfl hRm ⟨by decide, by decide⟩ ⟨by show cs + 0 ≤ 600000; omega, by show sl + 0 ≤ 7302250; omega⟩ rfl rfl (by decide) rfl ?_
  rintro v _ _ r1 i1 w1 ⟨rfl, rfl, h⟩
  obtain ⟨h2, h⟩ := h
  refine kk_aload_n hE 1 dL_law_732 rfl rfl ?_
  refine kk_aload_n hE 3 dL_law_733 rfl rfl ?_
  refine kk_iload_n hE 0 dL_law_734 rfl rfl ?_
  refine kk_iconst (v := (1 : Int32)) hE dL_law_735 (by decide) ?_
  refine kk_iadd hE dL_law_736 ?_
  refine kk_scr hE hX hbl hbG (k := t + 1) (lw_ix t 1 (by decide)) (by omega) (by omega) dL_law_737 ?_
  refine kk_aload_n hE 3 dL_law_738 rfl rfl ?_
  refine kk_iload_n hE 0 dL_law_739 rfl rfl ?_
  refine kk_iconst (v := (2 : Int32)) hE dL_law_740 (by decide) ?_
  refine kk_iadd hE dL_law_741 ?_
  refine kk_scr hE hX hbl hbG (k := t + 2) (lw_ix t 2 (by decide)) (by omega) (by omega) dL_law_742 ?_
  refine kk_callVi (cs' := cs + 0) (sl' := sl + 0) (st := [kw_i v]) hE cvL_86 (t_X10_like h2 h) dL_law_743 h2 rfl rfl hRm ⟨by decide, by decide⟩ ⟨by show cs + 0 + 0 ≤ 600000; omega, by show sl + 0 + 0 ≤ 7302250; omega⟩ rfl rfl (Nat.le_of_ble_eq_true rfl) rfl ?_
  rintro v2 _ _ _ i2 _ ⟨rfl, rfl, rfl, rfl, h⟩
  obtain ⟨hv, h⟩ := h
  refine kk_icmp_eq (tgt := 1181) hE dL_law_746 (by decide) (fun _ => ?_) (fun c => absurd hv c)
  refine kk_widen (cs' := cs + 20) (sl' := sl + 1000) (by omega) (by omega) ?_
  exact hk _ _ _ _ _ h
/-- costs: class and reference answer alike, and stay alike -/
def lw_C17 (Inv : kw_T → Nat → kw_R → kw_I → kw_L → Prop) : Prop := ∀ (T : kw_T) (n : Nat) (r : kw_R) (i : kw_I) (w : kw_L) (x1 : Int32), Inv T n r i w → n ≤ 20000 → w_X9_costs 1 x1 T n r i w (fun v r1 i1 w1 => T 84 = (0, 10) ∧ w_X10_costs 84 x1 T n r1 i1 w1 (fun v2 i2 => v = v2 ∧ lw_N Inv n T n r1 i2 w1))
set_option maxHeartbeats 4000000 in
set_option maxRecDepth 100000 in
theorem lc_17 {E : kw_E} {G : kw_G} {Q : State → Prop} {b L cs sl t : Nat} {xs : Nat → Int32} (hE : kw_ok E G cL_law 4 RL) (hRm : E.2.2.2.1 = room_1) (hX : va_X b L xs E.2.2.2.2.1 E.2.2.2.2.1.heap) (hbl : b < E.2.2.2.2.1.heap.size) (hbG : ¬ G.1 < b) (hL : L ≤ 3584) (ht : t + 7 ≤ L) (hc : cs + 20 ≤ 600000 ∧ sl + 1000 ≤ 7302250) {KN : kw_T → Nat → kw_R → kw_I → kw_L → Prop} (hk : ∀ T n r i w, KN T n r i w → kw_K E G 4 (cs + 20) (sl + 1000) Q 1181 [(3, kw_i (nI t)), (2, kw_a 84), (1, kw_a 1), (0, kw_a (kw_SB + 200 + b))] [] T n r i w) {T : kw_T} {n : Nat} {r : kw_R} {i : kw_I} {w : kw_L} (h1 : T 1 = (0, 9)) (h : w_X9_costs 1 (xs (t + 1)) T n r i w (fun v r1 i1 w1 => T 84 = (0, 10) ∧ w_X10_costs 84 (xs (t + 1)) T n r1 i1 w1 (fun v2 i2 => v = v2 ∧ KN T n r1 i2 w1))) : kw_K E G 4 cs sl Q 751 [(3, kw_i (nI t)), (2, kw_a 84), (1, kw_a 1), (0, kw_a (kw_SB + 200 + b))] [] T n r i w := by
  refine kk_aload_n hE 2 dL_law_751 rfl rfl ?_
  refine kk_aload_n hE 3 dL_law_752 rfl rfl ?_
  refine kk_iload_n hE 0 dL_law_753 rfl rfl ?_
  refine kk_iconst (v := (1 : Int32)) hE dL_law_754 (by decide) ?_
  refine kk_iadd hE dL_law_755 ?_
  refine kk_scr hE hX hbl hbG (k := t + 1) (lw_ix t 1 (by decide)) (by omega) (by omega) dL_law_756 ?_
  refine kk_callVi (cs' := cs + 0) (sl' := sl + 0) (st := []) hE cvL_87 (t_X9_costs h1 h) dL_law_757 h1 rfl rfl hRm ⟨by decide, by decide⟩ ⟨by show cs + 0 ≤ 600000; omega, by show sl + 0 ≤ 7302250; omega⟩ rfl rfl (by decide) rfl ?_
  rintro v _ _ r1 i1 w1 ⟨rfl, rfl, h⟩
  obtain ⟨h2, h⟩ := h
  refine kk_aload_n hE 1 dL_law_760 rfl rfl ?_
  refine kk_aload_n hE 3 dL_law_761 rfl rfl ?_
  refine kk_iload_n hE 0 dL_law_762 rfl rfl ?_
  refine kk_iconst (v := (1 : Int32)) hE dL_law_763 (by decide) ?_
  refine kk_iadd hE dL_law_764 ?_
  refine kk_scr hE hX hbl hbG (k := t + 1) (lw_ix t 1 (by decide)) (by omega) (by omega) dL_law_765 ?_
  refine kk_callVi (cs' := cs + 0) (sl' := sl + 0) (st := [kw_i v]) hE cvL_90 (t_X10_costs h2 h) dL_law_766 h2 rfl rfl hRm ⟨by decide, by decide⟩ ⟨by show cs + 0 + 0 ≤ 600000; omega, by show sl + 0 + 0 ≤ 7302250; omega⟩ rfl rfl (Nat.le_of_ble_eq_true rfl) rfl ?_
  rintro v2 _ _ _ i2 _ ⟨rfl, rfl, rfl, rfl, h⟩
  obtain ⟨hv, h⟩ := h
  refine kk_icmp_eq (tgt := 1181) hE dL_law_769 (by decide) (fun _ => ?_) (fun c => absurd hv c)
  refine kk_widen (cs' := cs + 20) (sl' := sl + 1000) (by omega) (by omega) ?_
  exact hk _ _ _ _ _ h
/-- turned: class and reference answer alike, and stay alike -/
def lw_C18 (Inv : kw_T → Nat → kw_R → kw_I → kw_L → Prop) : Prop := ∀ (T : kw_T) (n : Nat) (r : kw_R) (i : kw_I) (w : kw_L) (x1 : Int32), Inv T n r i w → n ≤ 20000 → w_X9_turned 1 x1 T n r i w (fun v r1 i1 w1 => T 84 = (0, 10) ∧ w_X10_turned 84 x1 T n r1 i1 w1 (fun v2 i2 => v = v2 ∧ lw_N Inv n T n r1 i2 w1))
set_option maxHeartbeats 4000000 in
set_option maxRecDepth 100000 in
theorem lc_18 {E : kw_E} {G : kw_G} {Q : State → Prop} {b L cs sl t : Nat} {xs : Nat → Int32} (hE : kw_ok E G cL_law 4 RL) (hRm : E.2.2.2.1 = room_1) (hX : va_X b L xs E.2.2.2.2.1 E.2.2.2.2.1.heap) (hbl : b < E.2.2.2.2.1.heap.size) (hbG : ¬ G.1 < b) (hL : L ≤ 3584) (ht : t + 7 ≤ L) (hc : cs + 20 ≤ 600000 ∧ sl + 1000 ≤ 7302250) {KN : kw_T → Nat → kw_R → kw_I → kw_L → Prop} (hk : ∀ T n r i w, KN T n r i w → kw_K E G 4 (cs + 20) (sl + 1000) Q 1181 [(3, kw_i (nI t)), (2, kw_a 84), (1, kw_a 1), (0, kw_a (kw_SB + 200 + b))] [] T n r i w) {T : kw_T} {n : Nat} {r : kw_R} {i : kw_I} {w : kw_L} (h1 : T 1 = (0, 9)) (h : w_X9_turned 1 (xs (t + 1)) T n r i w (fun v r1 i1 w1 => T 84 = (0, 10) ∧ w_X10_turned 84 (xs (t + 1)) T n r1 i1 w1 (fun v2 i2 => v = v2 ∧ KN T n r1 i2 w1))) : kw_K E G 4 cs sl Q 774 [(3, kw_i (nI t)), (2, kw_a 84), (1, kw_a 1), (0, kw_a (kw_SB + 200 + b))] [] T n r i w := by
  refine kk_aload_n hE 2 dL_law_774 rfl rfl ?_
  refine kk_aload_n hE 3 dL_law_775 rfl rfl ?_
  refine kk_iload_n hE 0 dL_law_776 rfl rfl ?_
  refine kk_iconst (v := (1 : Int32)) hE dL_law_777 (by decide) ?_
  refine kk_iadd hE dL_law_778 ?_
  refine kk_scr hE hX hbl hbG (k := t + 1) (lw_ix t 1 (by decide)) (by omega) (by omega) dL_law_779 ?_
  refine kk_callVi (cs' := cs + 0) (sl' := sl + 0) (st := []) hE cvL_91 (t_X9_turned h1 h) dL_law_780 h1 rfl rfl hRm ⟨by decide, by decide⟩ ⟨by show cs + 0 ≤ 600000; omega, by show sl + 0 ≤ 7302250; omega⟩ rfl rfl (by decide) rfl ?_
  rintro v _ _ r1 i1 w1 ⟨rfl, rfl, h⟩
  obtain ⟨h2, h⟩ := h
  refine kk_aload_n hE 1 dL_law_783 rfl rfl ?_
  refine kk_aload_n hE 3 dL_law_784 rfl rfl ?_
  refine kk_iload_n hE 0 dL_law_785 rfl rfl ?_
  refine kk_iconst (v := (1 : Int32)) hE dL_law_786 (by decide) ?_
  refine kk_iadd hE dL_law_787 ?_
  refine kk_scr hE hX hbl hbG (k := t + 1) (lw_ix t 1 (by decide)) (by omega) (by omega) dL_law_788 ?_
  refine kk_callVi (cs' := cs + 0) (sl' := sl + 0) (st := [kw_i v]) hE cvL_94 (t_X10_turned h2 h) dL_law_789 h2 rfl rfl hRm ⟨by decide, by decide⟩ ⟨by show cs + 0 + 0 ≤ 600000; omega, by show sl + 0 + 0 ≤ 7302250; omega⟩ rfl rfl (Nat.le_of_ble_eq_true rfl) rfl ?_
  rintro v2 _ _ _ i2 _ ⟨rfl, rfl, rfl, rfl, h⟩
  obtain ⟨hv, h⟩ := h
  refine kk_icmp_eq (tgt := 1181) hE dL_law_792 (by decide) (fun _ => ?_) (fun c => absurd hv c)
  refine kk_widen (cs' := cs + 20) (sl' := sl + 1000) (by omega) (by omega) ?_
  exact hk _ _ _ _ _ h
/-- lost: class and reference answer alike, and stay alike -/
def lw_C19 (Inv : kw_T → Nat → kw_R → kw_I → kw_L → Prop) : Prop := ∀ (T : kw_T) (n : Nat) (r : kw_R) (i : kw_I) (w : kw_L) (x1 : Int32), Inv T n r i w → n ≤ 20000 → w_X9_lost 1 x1 T n r i w (fun v r1 i1 w1 => T 84 = (0, 10) ∧ w_X10_lost 84 x1 T n r1 i1 w1 (fun v2 i2 => v = v2 ∧ lw_N Inv n T n r1 i2 w1))
set_option maxHeartbeats 4000000 in
set_option maxRecDepth 100000 in
theorem lc_19 {E : kw_E} {G : kw_G} {Q : State → Prop} {b L cs sl t : Nat} {xs : Nat → Int32} (hE : kw_ok E G cL_law 4 RL) (hRm : E.2.2.2.1 = room_1) (hX : va_X b L xs E.2.2.2.2.1 E.2.2.2.2.1.heap) (hbl : b < E.2.2.2.2.1.heap.size) (hbG : ¬ G.1 < b) (hL : L ≤ 3584) (ht : t + 7 ≤ L) (hc : cs + 20 ≤ 600000 ∧ sl + 1000 ≤ 7302250) {KN : kw_T → Nat → kw_R → kw_I → kw_L → Prop} (hk : ∀ T n r i w, KN T n r i w → kw_K E G 4 (cs + 20) (sl + 1000) Q 1181 [(3, kw_i (nI t)), (2, kw_a 84), (1, kw_a 1), (0, kw_a (kw_SB + 200 + b))] [] T n r i w) {T : kw_T} {n : Nat} {r : kw_R} {i : kw_I} {w : kw_L} (h1 : T 1 = (0, 9)) (h : w_X9_lost 1 (xs (t + 1)) T n r i w (fun v r1 i1 w1 => T 84 = (0, 10) ∧ w_X10_lost 84 (xs (t + 1)) T n r1 i1 w1 (fun v2 i2 => v = v2 ∧ KN T n r1 i2 w1))) : kw_K E G 4 cs sl Q 797 [(3, kw_i (nI t)), (2, kw_a 84), (1, kw_a 1), (0, kw_a (kw_SB + 200 + b))] [] T n r i w := by
  refine kk_aload_n hE 2 dL_law_797 rfl rfl ?_
  refine kk_aload_n hE 3 dL_law_798 rfl rfl ?_
  refine kk_iload_n hE 0 dL_law_799 rfl rfl ?_
  refine kk_iconst (v := (1 : Int32)) hE dL_law_800 (by decide) ?_
  refine kk_iadd hE dL_law_801 ?_
  refine kk_scr hE hX hbl hbG (k := t + 1) (lw_ix t 1 (by decide)) (by omega) (by omega) dL_law_802 ?_
  refine kk_callVi (cs' := cs + 0) (sl' := sl + 0) (st := []) hE cvL_95 (t_X9_lost h1 h) dL_law_803 h1 rfl rfl hRm ⟨by decide, by decide⟩ ⟨by show cs + 0 ≤ 600000; omega, by show sl + 0 ≤ 7302250; omega⟩ rfl rfl (by decide) rfl ?_
  rintro v _ _ r1 i1 w1 ⟨rfl, rfl, h⟩
  obtain ⟨h2, h⟩ := h
  refine kk_aload_n hE 1 dL_law_806 rfl rfl ?_
  refine kk_aload_n hE 3 dL_law_807 rfl rfl ?_
  refine kk_iload_n hE 0 dL_law_808 rfl rfl ?_
  refine kk_iconst (v := (1 : Int32)) hE dL_law_809 (by decide) ?_
  refine kk_iadd hE dL_law_810 ?_
  refine kk_scr hE hX hbl hbG (k := t + 1) (lw_ix t 1 (by decide)) (by omega) (by omega) dL_law_811 ?_
  refine kk_callVi (cs' := cs + 0) (sl' := sl + 0) (st := [kw_i v]) hE cvL_98 (t_X10_lost h2 h) dL_law_812 h2 rfl rfl hRm ⟨by decide, by decide⟩ ⟨by show cs + 0 + 0 ≤ 600000; omega, by show sl + 0 + 0 ≤ 7302250; omega⟩ rfl rfl (Nat.le_of_ble_eq_true rfl) rfl ?_
  rintro v2 _ _ _ i2 _ ⟨rfl, rfl, rfl, rfl, h⟩
  obtain ⟨hv, h⟩ := h
  refine kk_icmp_eq (tgt := 1181) hE dL_law_815 (by decide) (fun _ => ?_) (fun c => absurd hv c)
  refine kk_widen (cs' := cs + 20) (sl' := sl + 1000) (by omega) (by omega) ?_
  exact hk _ _ _ _ _ h
/-- look: class and reference answer alike, and stay alike -/
def lw_C20 (Inv : kw_T → Nat → kw_R → kw_I → kw_L → Prop) : Prop := ∀ (T : kw_T) (n : Nat) (r : kw_R) (i : kw_I) (w : kw_L) (x1 : Int32) (x2 : Int32), Inv T n r i w → n ≤ 20000 → w_X9_look 1 x1 x2 T n r i w (fun v r1 i1 w1 => T 84 = (0, 10) ∧ w_X10_look 84 x1 x2 T n r1 i1 w1 (fun v2 i2 => v = v2 ∧ lw_N Inv n T n r1 i2 w1))
set_option maxHeartbeats 4000000 in
set_option maxRecDepth 100000 in
theorem lc_20 {E : kw_E} {G : kw_G} {Q : State → Prop} {b L cs sl t : Nat} {xs : Nat → Int32} (hE : kw_ok E G cL_law 4 RL) (hRm : E.2.2.2.1 = room_1) (hX : va_X b L xs E.2.2.2.2.1 E.2.2.2.2.1.heap) (hbl : b < E.2.2.2.2.1.heap.size) (hbG : ¬ G.1 < b) (hL : L ≤ 3584) (ht : t + 7 ≤ L) (hc : cs + 20 ≤ 600000 ∧ sl + 1000 ≤ 7302250) {KN : kw_T → Nat → kw_R → kw_I → kw_L → Prop} (hk : ∀ T n r i w, KN T n r i w → kw_K E G 4 (cs + 20) (sl + 1000) Q 1181 [(3, kw_i (nI t)), (2, kw_a 84), (1, kw_a 1), (0, kw_a (kw_SB + 200 + b))] [] T n r i w) {T : kw_T} {n : Nat} {r : kw_R} {i : kw_I} {w : kw_L} (h1 : T 1 = (0, 9)) (h : w_X9_look 1 (xs (t + 1)) (xs (t + 2)) T n r i w (fun v r1 i1 w1 => T 84 = (0, 10) ∧ w_X10_look 84 (xs (t + 1)) (xs (t + 2)) T n r1 i1 w1 (fun v2 i2 => v = v2 ∧ KN T n r1 i2 w1))) : kw_K E G 4 cs sl Q 820 [(3, kw_i (nI t)), (2, kw_a 84), (1, kw_a 1), (0, kw_a (kw_SB + 200 + b))] [] T n r i w := by
  refine kk_aload_n hE 2 dL_law_820 rfl rfl ?_
  refine kk_aload_n hE 3 dL_law_821 rfl rfl ?_
  refine kk_iload_n hE 0 dL_law_822 rfl rfl ?_
  refine kk_iconst (v := (1 : Int32)) hE dL_law_823 (by decide) ?_
  refine kk_iadd hE dL_law_824 ?_
  refine kk_scr hE hX hbl hbG (k := t + 1) (lw_ix t 1 (by decide)) (by omega) (by omega) dL_law_825 ?_
  refine kk_aload_n hE 3 dL_law_826 rfl rfl ?_
  refine kk_iload_n hE 0 dL_law_827 rfl rfl ?_
  refine kk_iconst (v := (2 : Int32)) hE dL_law_828 (by decide) ?_
  refine kk_iadd hE dL_law_829 ?_
  refine kk_scr hE hX hbl hbG (k := t + 2) (lw_ix t 2 (by decide)) (by omega) (by omega) dL_law_830 ?_
  refine kk_callVi (cs' := cs + 0) (sl' := sl + 0) (st := []) hE cvL_99 (t_X9_look h1 h) dL_law_831 h1 rfl rfl hRm ⟨by decide, by decide⟩ ⟨by show cs + 0 ≤ 600000; omega, by show sl + 0 ≤ 7302250; omega⟩ rfl rfl (by decide) rfl ?_
  rintro v _ _ r1 i1 w1 ⟨rfl, rfl, h⟩
  obtain ⟨h2, h⟩ := h
  refine kk_aload_n hE 1 dL_law_834 rfl rfl ?_
  refine kk_aload_n hE 3 dL_law_835 rfl rfl ?_
  refine kk_iload_n hE 0 dL_law_836 rfl rfl ?_
  refine kk_iconst (v := (1 : Int32)) hE dL_law_837 (by decide) ?_
  refine kk_iadd hE dL_law_838 ?_
  refine kk_scr hE hX hbl hbG (k := t + 1) (lw_ix t 1 (by decide)) (by omega) (by omega) dL_law_839 ?_
  refine kk_aload_n hE 3 dL_law_840 rfl rfl ?_
  refine kk_iload_n hE 0 dL_law_841 rfl rfl ?_
  refine kk_iconst (v := (2 : Int32)) hE dL_law_842 (by decide) ?_
  refine kk_iadd hE dL_law_843 ?_
  refine kk_scr hE hX hbl hbG (k := t + 2) (lw_ix t 2 (by decide)) (by omega) (by omega) dL_law_844 ?_
  refine kk_callVi (cs' := cs + 0) (sl' := sl + 0) (st := [kw_i v]) hE cvL_102 (t_X10_look h2 h) dL_law_845 h2 rfl rfl hRm ⟨by decide, by decide⟩ ⟨by show cs + 0 + 0 ≤ 600000; omega, by show sl + 0 + 0 ≤ 7302250; omega⟩ rfl rfl (Nat.le_of_ble_eq_true rfl) rfl ?_
  rintro v2 _ _ _ i2 _ ⟨rfl, rfl, rfl, rfl, h⟩
  obtain ⟨hv, h⟩ := h
  refine kk_icmp_eq (tgt := 1181) hE dL_law_848 (by decide) (fun _ => ?_) (fun c => absurd hv c)
  refine kk_widen (cs' := cs + 20) (sl' := sl + 1000) (by omega) (by omega) ?_
  exact hk _ _ _ _ _ h
/-- gift: class and reference answer alike, and stay alike -/
def lw_C21 (Inv : kw_T → Nat → kw_R → kw_I → kw_L → Prop) : Prop := ∀ (T : kw_T) (n : Nat) (r : kw_R) (i : kw_I) (w : kw_L) (x1 : Int32), Inv T n r i w → n ≤ 20000 → w_X9_gift 1 x1 T n r i w (fun v r1 i1 w1 => T 84 = (0, 10) ∧ w_X10_gift 84 x1 T n r1 i1 w1 (fun v2 i2 => v = v2 ∧ lw_N Inv n T n r1 i2 w1))
set_option maxHeartbeats 4000000 in
set_option maxRecDepth 100000 in
theorem lc_21 {E : kw_E} {G : kw_G} {Q : State → Prop} {b L cs sl t : Nat} {xs : Nat → Int32} (hE : kw_ok E G cL_law 4 RL) (hRm : E.2.2.2.1 = room_1) (hX : va_X b L xs E.2.2.2.2.1 E.2.2.2.2.1.heap) (hbl : b < E.2.2.2.2.1.heap.size) (hbG : ¬ G.1 < b) (hL : L ≤ 3584) (ht : t + 7 ≤ L) (hc : cs + 20 ≤ 600000 ∧ sl + 1000 ≤ 7302250) {KN : kw_T → Nat → kw_R → kw_I → kw_L → Prop} (hk : ∀ T n r i w, KN T n r i w → kw_K E G 4 (cs + 20) (sl + 1000) Q 1181 [(3, kw_i (nI t)), (2, kw_a 84), (1, kw_a 1), (0, kw_a (kw_SB + 200 + b))] [] T n r i w) {T : kw_T} {n : Nat} {r : kw_R} {i : kw_I} {w : kw_L} (h1 : T 1 = (0, 9)) (h : w_X9_gift 1 (xs (t + 1)) T n r i w (fun v r1 i1 w1 => T 84 = (0, 10) ∧ w_X10_gift 84 (xs (t + 1)) T n r1 i1 w1 (fun v2 i2 => v = v2 ∧ KN T n r1 i2 w1))) : kw_K E G 4 cs sl Q 853 [(3, kw_i (nI t)), (2, kw_a 84), (1, kw_a 1), (0, kw_a (kw_SB + 200 + b))] [] T n r i w := by
  refine kk_aload_n hE 2 dL_law_853 rfl rfl ?_
  refine kk_aload_n hE 3 dL_law_854 rfl rfl ?_
  refine kk_iload_n hE 0 dL_law_855 rfl rfl ?_
  refine kk_iconst (v := (1 : Int32)) hE dL_law_856 (by decide) ?_
  refine kk_iadd hE dL_law_857 ?_
  refine kk_scr hE hX hbl hbG (k := t + 1) (lw_ix t 1 (by decide)) (by omega) (by omega) dL_law_858 ?_
  refine kk_callVi (cs' := cs + 0) (sl' := sl + 0) (st := []) hE cvL_103 (t_X9_gift h1 h) dL_law_859 h1 rfl rfl hRm ⟨by decide, by decide⟩ ⟨by show cs + 0 ≤ 600000; omega, by show sl + 0 ≤ 7302250; omega⟩ rfl rfl (by decide) rfl ?_
  rintro v _ _ r1 i1 w1 ⟨rfl, rfl, h⟩
  obtain ⟨h2, h⟩ := h
  refine kk_aload_n hE 1 dL_law_862 rfl rfl ?_
  refine kk_aload_n hE 3 dL_law_863 rfl rfl ?_
  refine kk_iload_n hE 0 dL_law_864 rfl rfl ?_
  refine kk_iconst (v := (1 : Int32)) hE dL_law_865 (by decide) ?_
  refine kk_iadd hE dL_law_866 ?_
  refine kk_scr hE hX hbl hbG (k := t + 1) (lw_ix t 1 (by decide)) (by omega) (by omega) dL_law_867 ?_
  refine kk_callVi (cs' := cs + 0) (sl' := sl + 0) (st := [kw_i v]) hE cvL_106 (t_X10_gift h2 h) dL_law_868 h2 rfl rfl hRm ⟨by decide, by decide⟩ ⟨by show cs + 0 + 0 ≤ 600000; omega, by show sl + 0 + 0 ≤ 7302250; omega⟩ rfl rfl (Nat.le_of_ble_eq_true rfl) rfl ?_
  rintro v2 _ _ _ i2 _ ⟨rfl, rfl, rfl, rfl, h⟩
  obtain ⟨hv, h⟩ := h
  refine kk_icmp_eq (tgt := 1181) hE dL_law_871 (by decide) (fun _ => ?_) (fun c => absurd hv c)
  refine kk_widen (cs' := cs + 20) (sl' := sl + 1000) (by omega) (by omega) ?_
  exact hk _ _ _ _ _ h
/-- slips: class and reference answer alike, and stay alike -/
def lw_C22 (Inv : kw_T → Nat → kw_R → kw_I → kw_L → Prop) : Prop := ∀ (T : kw_T) (n : Nat) (r : kw_R) (i : kw_I) (w : kw_L) (x1 : Int32), Inv T n r i w → n ≤ 20000 → w_X9_slips 1 x1 T n r i w (fun v r1 i1 w1 => T 84 = (0, 10) ∧ w_X10_slips 84 x1 T n r1 i1 w1 (fun v2 i2 => v = v2 ∧ lw_N Inv n T n r1 i2 w1))
set_option maxHeartbeats 4000000 in
set_option maxRecDepth 100000 in
theorem lc_22 {E : kw_E} {G : kw_G} {Q : State → Prop} {b L cs sl t : Nat} {xs : Nat → Int32} (hE : kw_ok E G cL_law 4 RL) (hRm : E.2.2.2.1 = room_1) (hX : va_X b L xs E.2.2.2.2.1 E.2.2.2.2.1.heap) (hbl : b < E.2.2.2.2.1.heap.size) (hbG : ¬ G.1 < b) (hL : L ≤ 3584) (ht : t + 7 ≤ L) (hc : cs + 20 ≤ 600000 ∧ sl + 1000 ≤ 7302250) {KN : kw_T → Nat → kw_R → kw_I → kw_L → Prop} (hk : ∀ T n r i w, KN T n r i w → kw_K E G 4 (cs + 20) (sl + 1000) Q 1181 [(3, kw_i (nI t)), (2, kw_a 84), (1, kw_a 1), (0, kw_a (kw_SB + 200 + b))] [] T n r i w) {T : kw_T} {n : Nat} {r : kw_R} {i : kw_I} {w : kw_L} (h1 : T 1 = (0, 9)) (h : w_X9_slips 1 (xs (t + 1)) T n r i w (fun v r1 i1 w1 => T 84 = (0, 10) ∧ w_X10_slips 84 (xs (t + 1)) T n r1 i1 w1 (fun v2 i2 => v = v2 ∧ KN T n r1 i2 w1))) : kw_K E G 4 cs sl Q 876 [(3, kw_i (nI t)), (2, kw_a 84), (1, kw_a 1), (0, kw_a (kw_SB + 200 + b))] [] T n r i w := by
  refine kk_aload_n hE 2 dL_law_876 rfl rfl ?_
  refine kk_aload_n hE 3 dL_law_877 rfl rfl ?_
  refine kk_iload_n hE 0 dL_law_878 rfl rfl ?_
  refine kk_iconst (v := (1 : Int32)) hE dL_law_879 (by decide) ?_
  refine kk_iadd hE dL_law_880 ?_
  refine kk_scr hE hX hbl hbG (k := t + 1) (lw_ix t 1 (by decide)) (by omega) (by omega) dL_law_881 ?_
  refine kk_callVi (cs' := cs + 0) (sl' := sl + 0) (st := []) hE cvL_107 (t_X9_slips h1 h) dL_law_882 h1 rfl rfl hRm ⟨by decide, by decide⟩ ⟨by show cs + 0 ≤ 600000; omega, by show sl + 0 ≤ 7302250; omega⟩ rfl rfl (by decide) rfl ?_
  rintro v _ _ r1 i1 w1 ⟨rfl, rfl, h⟩
  obtain ⟨h2, h⟩ := h
  refine kk_aload_n hE 1 dL_law_885 rfl rfl ?_
  refine kk_aload_n hE 3 dL_law_886 rfl rfl ?_
  refine kk_iload_n hE 0 dL_law_887 rfl rfl ?_
  refine kk_iconst (v := (1 : Int32)) hE dL_law_888 (by decide) ?_
  refine kk_iadd hE dL_law_889 ?_
  refine kk_scr hE hX hbl hbG (k := t + 1) (lw_ix t 1 (by decide)) (by omega) (by omega) dL_law_890 ?_
  refine kk_callVi (cs' := cs + 0) (sl' := sl + 0) (st := [kw_i v]) hE cvL_110 (t_X10_slips h2 h) dL_law_891 h2 rfl rfl hRm ⟨by decide, by decide⟩ ⟨by show cs + 0 + 0 ≤ 600000; omega, by show sl + 0 + 0 ≤ 7302250; omega⟩ rfl rfl (Nat.le_of_ble_eq_true rfl) rfl ?_
  rintro v2 _ _ _ i2 _ ⟨rfl, rfl, rfl, rfl, h⟩
  obtain ⟨hv, h⟩ := h
  refine kk_icmp_eq (tgt := 1181) hE dL_law_894 (by decide) (fun _ => ?_) (fun c => absurd hv c)
  refine kk_widen (cs' := cs + 20) (sl' := sl + 1000) (by omega) (by omega) ?_
  exact hk _ _ _ _ _ h
/-- could: class and reference answer alike, and stay alike -/
def lw_C23 (Inv : kw_T → Nat → kw_R → kw_I → kw_L → Prop) : Prop := ∀ (T : kw_T) (n : Nat) (r : kw_R) (i : kw_I) (w : kw_L) (x1 : Int32), Inv T n r i w → n ≤ 20000 → w_X9_could 1 x1 T n r i w (fun v r1 i1 w1 => T 84 = (0, 10) ∧ w_X10_could 84 x1 T n r1 i1 w1 (fun v2 i2 => v = v2 ∧ lw_N Inv n T n r1 i2 w1))
set_option maxHeartbeats 4000000 in
set_option maxRecDepth 100000 in
theorem lc_23 {E : kw_E} {G : kw_G} {Q : State → Prop} {b L cs sl t : Nat} {xs : Nat → Int32} (hE : kw_ok E G cL_law 4 RL) (hRm : E.2.2.2.1 = room_1) (hX : va_X b L xs E.2.2.2.2.1 E.2.2.2.2.1.heap) (hbl : b < E.2.2.2.2.1.heap.size) (hbG : ¬ G.1 < b) (hL : L ≤ 3584) (ht : t + 7 ≤ L) (hc : cs + 20 ≤ 600000 ∧ sl + 1000 ≤ 7302250) {KN : kw_T → Nat → kw_R → kw_I → kw_L → Prop} (hk : ∀ T n r i w, KN T n r i w → kw_K E G 4 (cs + 20) (sl + 1000) Q 1181 [(3, kw_i (nI t)), (2, kw_a 84), (1, kw_a 1), (0, kw_a (kw_SB + 200 + b))] [] T n r i w) {T : kw_T} {n : Nat} {r : kw_R} {i : kw_I} {w : kw_L} (h1 : T 1 = (0, 9)) (h : w_X9_could 1 (xs (t + 1)) T n r i w (fun v r1 i1 w1 => T 84 = (0, 10) ∧ w_X10_could 84 (xs (t + 1)) T n r1 i1 w1 (fun v2 i2 => v = v2 ∧ KN T n r1 i2 w1))) : kw_K E G 4 cs sl Q 899 [(3, kw_i (nI t)), (2, kw_a 84), (1, kw_a 1), (0, kw_a (kw_SB + 200 + b))] [] T n r i w := by
  refine kk_aload_n hE 2 dL_law_899 rfl rfl ?_
  refine kk_aload_n hE 3 dL_law_900 rfl rfl ?_
  refine kk_iload_n hE 0 dL_law_901 rfl rfl ?_
  refine kk_iconst (v := (1 : Int32)) hE dL_law_902 (by decide) ?_
  refine kk_iadd hE dL_law_903 ?_
  refine kk_scr hE hX hbl hbG (k := t + 1) (lw_ix t 1 (by decide)) (by omega) (by omega) dL_law_904 ?_
  refine kk_callVi (cs' := cs + 0) (sl' := sl + 0) (st := []) hE cvL_111 (t_X9_could h1 h) dL_law_905 h1 rfl rfl hRm ⟨by decide, by decide⟩ ⟨by show cs + 0 ≤ 600000; omega, by show sl + 0 ≤ 7302250; omega⟩ rfl rfl (by decide) rfl ?_
  rintro v _ _ r1 i1 w1 ⟨rfl, rfl, h⟩
  obtain ⟨h2, h⟩ := h
  refine kk_aload_n hE 1 dL_law_908 rfl rfl ?_
  refine kk_aload_n hE 3 dL_law_909 rfl rfl ?_
  refine kk_iload_n hE 0 dL_law_910 rfl rfl ?_
  refine kk_iconst (v := (1 : Int32)) hE dL_law_911 (by decide) ?_
  refine kk_iadd hE dL_law_912 ?_
  refine kk_scr hE hX hbl hbG (k := t + 1) (lw_ix t 1 (by decide)) (by omega) (by omega) dL_law_913 ?_
  refine kk_callVi (cs' := cs + 0) (sl' := sl + 0) (st := [kw_i v]) hE cvL_114 (t_X10_could h2 h) dL_law_914 h2 rfl rfl hRm ⟨by decide, by decide⟩ ⟨by show cs + 0 + 0 ≤ 600000; omega, by show sl + 0 + 0 ≤ 7302250; omega⟩ rfl rfl (Nat.le_of_ble_eq_true rfl) rfl ?_
  rintro v2 _ _ _ i2 _ ⟨rfl, rfl, rfl, rfl, h⟩
  obtain ⟨hv, h⟩ := h
  refine kk_icmp_eq (tgt := 1181) hE dL_law_917 (by decide) (fun _ => ?_) (fun c => absurd hv c)
  refine kk_widen (cs' := cs + 20) (sl' := sl + 1000) (by omega) (by omega) ?_
  exact hk _ _ _ _ _ h
/-- meeting: class and reference answer alike, and stay alike -/
def lw_C24 (Inv : kw_T → Nat → kw_R → kw_I → kw_L → Prop) : Prop := ∀ (T : kw_T) (n : Nat) (r : kw_R) (i : kw_I) (w : kw_L) (x1 : Int32), Inv T n r i w → n ≤ 20000 → w_X9_meeting 1 x1 T n r i w (fun v r1 i1 w1 => T 84 = (0, 10) ∧ w_X10_meeting 84 x1 T n r1 i1 w1 (fun v2 i2 => v = v2 ∧ lw_N Inv n T n r1 i2 w1))
set_option maxHeartbeats 4000000 in
set_option maxRecDepth 100000 in
theorem lc_24 {E : kw_E} {G : kw_G} {Q : State → Prop} {b L cs sl t : Nat} {xs : Nat → Int32} (hE : kw_ok E G cL_law 4 RL) (hRm : E.2.2.2.1 = room_1) (hX : va_X b L xs E.2.2.2.2.1 E.2.2.2.2.1.heap) (hbl : b < E.2.2.2.2.1.heap.size) (hbG : ¬ G.1 < b) (hL : L ≤ 3584) (ht : t + 7 ≤ L) (hc : cs + 20 ≤ 600000 ∧ sl + 1000 ≤ 7302250) {KN : kw_T → Nat → kw_R → kw_I → kw_L → Prop} (hk : ∀ T n r i w, KN T n r i w → kw_K E G 4 (cs + 20) (sl + 1000) Q 1181 [(3, kw_i (nI t)), (2, kw_a 84), (1, kw_a 1), (0, kw_a (kw_SB + 200 + b))] [] T n r i w) {T : kw_T} {n : Nat} {r : kw_R} {i : kw_I} {w : kw_L} (h1 : T 1 = (0, 9)) (h : w_X9_meeting 1 (xs (t + 1)) T n r i w (fun v r1 i1 w1 => T 84 = (0, 10) ∧ w_X10_meeting 84 (xs (t + 1)) T n r1 i1 w1 (fun v2 i2 => v = v2 ∧ KN T n r1 i2 w1))) : kw_K E G 4 cs sl Q 922 [(3, kw_i (nI t)), (2, kw_a 84), (1, kw_a 1), (0, kw_a (kw_SB + 200 + b))] [] T n r i w := by
  refine kk_aload_n hE 2 dL_law_922 rfl rfl ?_
  refine kk_aload_n hE 3 dL_law_923 rfl rfl ?_
  refine kk_iload_n hE 0 dL_law_924 rfl rfl ?_
  refine kk_iconst (v := (1 : Int32)) hE dL_law_925 (by decide) ?_
  refine kk_iadd hE dL_law_926 ?_
  refine kk_scr hE hX hbl hbG (k := t + 1) (lw_ix t 1 (by decide)) (by omega) (by omega) dL_law_927 ?_
  refine kk_callVi (cs' := cs + 0) (sl' := sl + 0) (st := []) hE cvL_115 (t_X9_meeting h1 h) dL_law_928 h1 rfl rfl hRm ⟨by decide, by decide⟩ ⟨by show cs + 0 ≤ 600000; omega, by show sl + 0 ≤ 7302250; omega⟩ rfl rfl (by decide) rfl ?_
  rintro v _ _ r1 i1 w1 ⟨rfl, rfl, h⟩
  obtain ⟨h2, h⟩ := h
  refine kk_aload_n hE 1 dL_law_931 rfl rfl ?_
  refine kk_aload_n hE 3 dL_law_932 rfl rfl ?_
  refine kk_iload_n hE 0 dL_law_933 rfl rfl ?_
  refine kk_iconst (v := (1 : Int32)) hE dL_law_934 (by decide) ?_
  refine kk_iadd hE dL_law_935 ?_
  refine kk_scr hE hX hbl hbG (k := t + 1) (lw_ix t 1 (by decide)) (by omega) (by omega) dL_law_936 ?_
  refine kk_callVi (cs' := cs + 0) (sl' := sl + 0) (st := [kw_i v]) hE cvL_118 (t_X10_meeting h2 h) dL_law_937 h2 rfl rfl hRm ⟨by decide, by decide⟩ ⟨by show cs + 0 + 0 ≤ 600000; omega, by show sl + 0 + 0 ≤ 7302250; omega⟩ rfl rfl (Nat.le_of_ble_eq_true rfl) rfl ?_
  rintro v2 _ _ _ i2 _ ⟨rfl, rfl, rfl, rfl, h⟩
  obtain ⟨hv, h⟩ := h
  refine kk_icmp_eq (tgt := 1181) hE dL_law_940 (by decide) (fun _ => ?_) (fun c => absurd hv c)
  refine kk_widen (cs' := cs + 20) (sl' := sl + 1000) (by omega) (by omega) ?_
  exact hk _ _ _ _ _ h
/-- seams: class and reference answer alike, and stay alike -/
def lw_C25 (Inv : kw_T → Nat → kw_R → kw_I → kw_L → Prop) : Prop := ∀ (T : kw_T) (n : Nat) (r : kw_R) (i : kw_I) (w : kw_L) (x1 : Int32), Inv T n r i w → n ≤ 20000 → w_X9_seams 1 x1 T n r i w (fun v r1 i1 w1 => T 84 = (0, 10) ∧ w_X10_seams 84 x1 T n r1 i1 w1 (fun v2 i2 => v = v2 ∧ lw_N Inv n T n r1 i2 w1))
set_option maxHeartbeats 4000000 in
set_option maxRecDepth 100000 in
theorem lc_25 {E : kw_E} {G : kw_G} {Q : State → Prop} {b L cs sl t : Nat} {xs : Nat → Int32} (hE : kw_ok E G cL_law 4 RL) (hRm : E.2.2.2.1 = room_1) (hX : va_X b L xs E.2.2.2.2.1 E.2.2.2.2.1.heap) (hbl : b < E.2.2.2.2.1.heap.size) (hbG : ¬ G.1 < b) (hL : L ≤ 3584) (ht : t + 7 ≤ L) (hc : cs + 20 ≤ 600000 ∧ sl + 1000 ≤ 7302250) {KN : kw_T → Nat → kw_R → kw_I → kw_L → Prop} (hk : ∀ T n r i w, KN T n r i w → kw_K E G 4 (cs + 20) (sl + 1000) Q 1181 [(3, kw_i (nI t)), (2, kw_a 84), (1, kw_a 1), (0, kw_a (kw_SB + 200 + b))] [] T n r i w) {T : kw_T} {n : Nat} {r : kw_R} {i : kw_I} {w : kw_L} (h1 : T 1 = (0, 9)) (h : w_X9_seams 1 (xs (t + 1)) T n r i w (fun v r1 i1 w1 => T 84 = (0, 10) ∧ w_X10_seams 84 (xs (t + 1)) T n r1 i1 w1 (fun v2 i2 => v = v2 ∧ KN T n r1 i2 w1))) : kw_K E G 4 cs sl Q 945 [(3, kw_i (nI t)), (2, kw_a 84), (1, kw_a 1), (0, kw_a (kw_SB + 200 + b))] [] T n r i w := by
  refine kk_aload_n hE 2 dL_law_945 rfl rfl ?_
  refine kk_aload_n hE 3 dL_law_946 rfl rfl ?_
  refine kk_iload_n hE 0 dL_law_947 rfl rfl ?_
  refine kk_iconst (v := (1 : Int32)) hE dL_law_948 (by decide) ?_
  refine kk_iadd hE dL_law_949 ?_
  refine kk_scr hE hX hbl hbG (k := t + 1) (lw_ix t 1 (by decide)) (by omega) (by omega) dL_law_950 ?_
  refine kk_callVi (cs' := cs + 0) (sl' := sl + 0) (st := []) hE cvL_119 (t_X9_seams h1 h) dL_law_951 h1 rfl rfl hRm ⟨by decide, by decide⟩ ⟨by show cs + 0 ≤ 600000; omega, by show sl + 0 ≤ 7302250; omega⟩ rfl rfl (by decide) rfl ?_
  rintro v _ _ r1 i1 w1 ⟨rfl, rfl, h⟩
  obtain ⟨h2, h⟩ := h
  refine kk_aload_n hE 1 dL_law_954 rfl rfl ?_
  refine kk_aload_n hE 3 dL_law_955 rfl rfl ?_
  refine kk_iload_n hE 0 dL_law_956 rfl rfl ?_
  refine kk_iconst (v := (1 : Int32)) hE dL_law_957 (by decide) ?_
  refine kk_iadd hE dL_law_958 ?_
  refine kk_scr hE hX hbl hbG (k := t + 1) (lw_ix t 1 (by decide)) (by omega) (by omega) dL_law_959 ?_
  refine kk_callVi (cs' := cs + 0) (sl' := sl + 0) (st := [kw_i v]) hE cvL_122 (t_X10_seams h2 h) dL_law_960 h2 rfl rfl hRm ⟨by decide, by decide⟩ ⟨by show cs + 0 + 0 ≤ 600000; omega, by show sl + 0 + 0 ≤ 7302250; omega⟩ rfl rfl (Nat.le_of_ble_eq_true rfl) rfl ?_
  rintro v2 _ _ _ i2 _ ⟨rfl, rfl, rfl, rfl, h⟩
  obtain ⟨hv, h⟩ := h
  refine kk_icmp_eq (tgt := 1181) hE dL_law_963 (by decide) (fun _ => ?_) (fun c => absurd hv c)
  refine kk_widen (cs' := cs + 20) (sl' := sl + 1000) (by omega) (by omega) ?_
  exact hk _ _ _ _ _ h
/-- mend: class and reference answer alike, and stay alike -/
def lw_C26 (Inv : kw_T → Nat → kw_R → kw_I → kw_L → Prop) : Prop := ∀ (T : kw_T) (n : Nat) (r : kw_R) (i : kw_I) (w : kw_L) (x1 : Int32) (x2 : Int32) (x3 : Int32) (x4 : Int32) (x5 : Int32) (x6 : Int32), Inv T n r i w → n ≤ 20000 → w_X9_mend 1 x1 x2 x3 x4 x5 x6 T n r i w (fun v r1 i1 w1 => T 84 = (0, 10) ∧ w_X10_mend 84 x1 x2 x3 x4 x5 x6 T n r1 i1 w1 (fun v2 i2 => v = v2 ∧ lw_N Inv n T n r1 i2 w1))
set_option maxHeartbeats 4000000 in
set_option maxRecDepth 100000 in
theorem lc_26 {E : kw_E} {G : kw_G} {Q : State → Prop} {b L cs sl t : Nat} {xs : Nat → Int32} (hE : kw_ok E G cL_law 4 RL) (hRm : E.2.2.2.1 = room_1) (hX : va_X b L xs E.2.2.2.2.1 E.2.2.2.2.1.heap) (hbl : b < E.2.2.2.2.1.heap.size) (hbG : ¬ G.1 < b) (hL : L ≤ 3584) (ht : t + 7 ≤ L) (hc : cs + 20 ≤ 600000 ∧ sl + 1000 ≤ 7302250) {KN : kw_T → Nat → kw_R → kw_I → kw_L → Prop} (hk : ∀ T n r i w, KN T n r i w → kw_K E G 4 (cs + 20) (sl + 1000) Q 1181 [(3, kw_i (nI t)), (2, kw_a 84), (1, kw_a 1), (0, kw_a (kw_SB + 200 + b))] [] T n r i w) {T : kw_T} {n : Nat} {r : kw_R} {i : kw_I} {w : kw_L} (h1 : T 1 = (0, 9)) (h : w_X9_mend 1 (xs (t + 1)) (xs (t + 2)) (xs (t + 3)) (xs (t + 4)) (xs (t + 5)) (xs (t + 6)) T n r i w (fun v r1 i1 w1 => T 84 = (0, 10) ∧ w_X10_mend 84 (xs (t + 1)) (xs (t + 2)) (xs (t + 3)) (xs (t + 4)) (xs (t + 5)) (xs (t + 6)) T n r1 i1 w1 (fun v2 i2 => v = v2 ∧ KN T n r1 i2 w1))) : kw_K E G 4 cs sl Q 968 [(3, kw_i (nI t)), (2, kw_a 84), (1, kw_a 1), (0, kw_a (kw_SB + 200 + b))] [] T n r i w := by
  refine kk_aload_n hE 2 dL_law_968 rfl rfl ?_
  refine kk_aload_n hE 3 dL_law_969 rfl rfl ?_
  refine kk_iload_n hE 0 dL_law_970 rfl rfl ?_
  refine kk_iconst (v := (1 : Int32)) hE dL_law_971 (by decide) ?_
  refine kk_iadd hE dL_law_972 ?_
  refine kk_scr hE hX hbl hbG (k := t + 1) (lw_ix t 1 (by decide)) (by omega) (by omega) dL_law_973 ?_
  refine kk_aload_n hE 3 dL_law_974 rfl rfl ?_
  refine kk_iload_n hE 0 dL_law_975 rfl rfl ?_
  refine kk_iconst (v := (2 : Int32)) hE dL_law_976 (by decide) ?_
  refine kk_iadd hE dL_law_977 ?_
  refine kk_scr hE hX hbl hbG (k := t + 2) (lw_ix t 2 (by decide)) (by omega) (by omega) dL_law_978 ?_
  refine kk_aload_n hE 3 dL_law_979 rfl rfl ?_
  refine kk_iload_n hE 0 dL_law_980 rfl rfl ?_
  refine kk_iconst (v := (3 : Int32)) hE dL_law_981 (by decide) ?_
  refine kk_iadd hE dL_law_982 ?_
  refine kk_scr hE hX hbl hbG (k := t + 3) (lw_ix t 3 (by decide)) (by omega) (by omega) dL_law_983 ?_
  refine kk_aload_n hE 3 dL_law_984 rfl rfl ?_
  refine kk_iload_n hE 0 dL_law_985 rfl rfl ?_
  refine kk_iconst (v := (4 : Int32)) hE dL_law_986 (by decide) ?_
  refine kk_iadd hE dL_law_987 ?_
  refine kk_scr hE hX hbl hbG (k := t + 4) (lw_ix t 4 (by decide)) (by omega) (by omega) dL_law_988 ?_
  refine kk_aload_n hE 3 dL_law_989 rfl rfl ?_
  refine kk_iload_n hE 0 dL_law_990 rfl rfl ?_
  refine kk_iconst (v := (5 : Int32)) hE dL_law_991 (by decide) ?_
  refine kk_iadd hE dL_law_992 ?_
  refine kk_scr hE hX hbl hbG (k := t + 5) (lw_ix t 5 (by decide)) (by omega) (by omega) dL_law_993 ?_
  refine kk_aload_n hE 3 dL_law_994 rfl rfl ?_
  refine kk_iload_n hE 0 dL_law_995 rfl rfl ?_
  refine kk_bipush (v := (6 : Int32)) hE dL_law_996 (by decide) ?_
  refine kk_iadd hE dL_law_998 ?_
  refine kk_scr hE hX hbl hbG (k := t + 6) (lw_ix t 6 (by decide)) (by omega) (by omega) dL_law_999 ?_
  refine kk_callVi (cs' := cs + 0) (sl' := sl + 0) (st := []) hE cvL_123 (t_X9_mend h1 h) dL_law_1000 h1 rfl rfl hRm ⟨by decide, by decide⟩ ⟨by show cs + 0 ≤ 600000; omega, by show sl + 0 ≤ 7302250; omega⟩ rfl rfl (by decide) rfl ?_
  rintro v _ _ r1 i1 w1 ⟨rfl, rfl, h⟩
  obtain ⟨h2, h⟩ := h
  refine kk_aload_n hE 1 dL_law_1003 rfl rfl ?_
  refine kk_aload_n hE 3 dL_law_1004 rfl rfl ?_
  refine kk_iload_n hE 0 dL_law_1005 rfl rfl ?_
  refine kk_iconst (v := (1 : Int32)) hE dL_law_1006 (by decide) ?_
  refine kk_iadd hE dL_law_1007 ?_
  refine kk_scr hE hX hbl hbG (k := t + 1) (lw_ix t 1 (by decide)) (by omega) (by omega) dL_law_1008 ?_
  refine kk_aload_n hE 3 dL_law_1009 rfl rfl ?_
  refine kk_iload_n hE 0 dL_law_1010 rfl rfl ?_
  refine kk_iconst (v := (2 : Int32)) hE dL_law_1011 (by decide) ?_
  refine kk_iadd hE dL_law_1012 ?_
  refine kk_scr hE hX hbl hbG (k := t + 2) (lw_ix t 2 (by decide)) (by omega) (by omega) dL_law_1013 ?_
  refine kk_aload_n hE 3 dL_law_1014 rfl rfl ?_
  refine kk_iload_n hE 0 dL_law_1015 rfl rfl ?_
  refine kk_iconst (v := (3 : Int32)) hE dL_law_1016 (by decide) ?_
  refine kk_iadd hE dL_law_1017 ?_
  refine kk_scr hE hX hbl hbG (k := t + 3) (lw_ix t 3 (by decide)) (by omega) (by omega) dL_law_1018 ?_
  refine kk_aload_n hE 3 dL_law_1019 rfl rfl ?_
  refine kk_iload_n hE 0 dL_law_1020 rfl rfl ?_
  refine kk_iconst (v := (4 : Int32)) hE dL_law_1021 (by decide) ?_
  refine kk_iadd hE dL_law_1022 ?_
  refine kk_scr hE hX hbl hbG (k := t + 4) (lw_ix t 4 (by decide)) (by omega) (by omega) dL_law_1023 ?_
  refine kk_aload_n hE 3 dL_law_1024 rfl rfl ?_
  refine kk_iload_n hE 0 dL_law_1025 rfl rfl ?_
  refine kk_iconst (v := (5 : Int32)) hE dL_law_1026 (by decide) ?_
  refine kk_iadd hE dL_law_1027 ?_
  refine kk_scr hE hX hbl hbG (k := t + 5) (lw_ix t 5 (by decide)) (by omega) (by omega) dL_law_1028 ?_
  refine kk_aload_n hE 3 dL_law_1029 rfl rfl ?_
  refine kk_iload_n hE 0 dL_law_1030 rfl rfl ?_
  refine kk_bipush (v := (6 : Int32)) hE dL_law_1031 (by decide) ?_
  refine kk_iadd hE dL_law_1033 ?_
  refine kk_scr hE hX hbl hbG (k := t + 6) (lw_ix t 6 (by decide)) (by omega) (by omega) dL_law_1034 ?_
  refine kk_callVi (cs' := cs + 0) (sl' := sl + 0) (st := [kw_i v]) hE cvL_127 (t_X10_mend h2 h) dL_law_1035 h2 rfl rfl hRm ⟨by decide, by decide⟩ ⟨by show cs + 0 + 0 ≤ 600000; omega, by show sl + 0 + 0 ≤ 7302250; omega⟩ rfl rfl (Nat.le_of_ble_eq_true rfl) rfl ?_
  rintro v2 _ _ _ i2 _ ⟨rfl, rfl, rfl, rfl, h⟩
  obtain ⟨hv, h⟩ := h
  refine kk_icmp_eq (tgt := 1181) hE dL_law_1038 (by decide) (fun _ => ?_) (fun c => absurd hv c)
  refine kk_widen (cs' := cs + 20) (sl' := sl + 1000) (by omega) (by omega) ?_
  exact hk _ _ _ _ _ h
/-- weavers: class and reference answer alike, and stay alike -/
def lw_C27 (Inv : kw_T → Nat → kw_R → kw_I → kw_L → Prop) : Prop := ∀ (T : kw_T) (n : Nat) (r : kw_R) (i : kw_I) (w : kw_L) (x1 : Int32), Inv T n r i w → n ≤ 20000 → w_X9_weavers 1 x1 T n r i w (fun v r1 i1 w1 => T 84 = (0, 10) ∧ w_X10_weavers 84 x1 T n r1 i1 w1 (fun v2 i2 => v = v2 ∧ lw_N Inv n T n r1 i2 w1))
set_option maxHeartbeats 4000000 in
set_option maxRecDepth 100000 in
theorem lc_27 {E : kw_E} {G : kw_G} {Q : State → Prop} {b L cs sl t : Nat} {xs : Nat → Int32} (hE : kw_ok E G cL_law 4 RL) (hRm : E.2.2.2.1 = room_1) (hX : va_X b L xs E.2.2.2.2.1 E.2.2.2.2.1.heap) (hbl : b < E.2.2.2.2.1.heap.size) (hbG : ¬ G.1 < b) (hL : L ≤ 3584) (ht : t + 7 ≤ L) (hc : cs + 20 ≤ 600000 ∧ sl + 1000 ≤ 7302250) {KN : kw_T → Nat → kw_R → kw_I → kw_L → Prop} (hk : ∀ T n r i w, KN T n r i w → kw_K E G 4 (cs + 20) (sl + 1000) Q 1181 [(3, kw_i (nI t)), (2, kw_a 84), (1, kw_a 1), (0, kw_a (kw_SB + 200 + b))] [] T n r i w) {T : kw_T} {n : Nat} {r : kw_R} {i : kw_I} {w : kw_L} (h1 : T 1 = (0, 9)) (h : w_X9_weavers 1 (xs (t + 1)) T n r i w (fun v r1 i1 w1 => T 84 = (0, 10) ∧ w_X10_weavers 84 (xs (t + 1)) T n r1 i1 w1 (fun v2 i2 => v = v2 ∧ KN T n r1 i2 w1))) : kw_K E G 4 cs sl Q 1043 [(3, kw_i (nI t)), (2, kw_a 84), (1, kw_a 1), (0, kw_a (kw_SB + 200 + b))] [] T n r i w := by
  refine kk_aload_n hE 2 dL_law_1043 rfl rfl ?_
  refine kk_aload_n hE 3 dL_law_1044 rfl rfl ?_
  refine kk_iload_n hE 0 dL_law_1045 rfl rfl ?_
  refine kk_iconst (v := (1 : Int32)) hE dL_law_1046 (by decide) ?_
  refine kk_iadd hE dL_law_1047 ?_
  refine kk_scr hE hX hbl hbG (k := t + 1) (lw_ix t 1 (by decide)) (by omega) (by omega) dL_law_1048 ?_
  refine kk_callVi (cs' := cs + 0) (sl' := sl + 0) (st := []) hE cvL_128 (t_X9_weavers h1 h) dL_law_1049 h1 rfl rfl hRm ⟨by decide, by decide⟩ ⟨by show cs + 0 ≤ 600000; omega, by show sl + 0 ≤ 7302250; omega⟩ rfl rfl (by decide) rfl ?_
  rintro v _ _ r1 i1 w1 ⟨rfl, rfl, h⟩
  obtain ⟨h2, h⟩ := h
  refine kk_aload_n hE 1 dL_law_1052 rfl rfl ?_
  refine kk_aload_n hE 3 dL_law_1053 rfl rfl ?_
  refine kk_iload_n hE 0 dL_law_1054 rfl rfl ?_
  refine kk_iconst (v := (1 : Int32)) hE dL_law_1055 (by decide) ?_
  refine kk_iadd hE dL_law_1056 ?_
  refine kk_scr hE hX hbl hbG (k := t + 1) (lw_ix t 1 (by decide)) (by omega) (by omega) dL_law_1057 ?_
  refine kk_callVi (cs' := cs + 0) (sl' := sl + 0) (st := [kw_i v]) hE cvL_131 (t_X10_weavers h2 h) dL_law_1058 h2 rfl rfl hRm ⟨by decide, by decide⟩ ⟨by show cs + 0 + 0 ≤ 600000; omega, by show sl + 0 + 0 ≤ 7302250; omega⟩ rfl rfl (Nat.le_of_ble_eq_true rfl) rfl ?_
  rintro v2 _ _ _ i2 _ ⟨rfl, rfl, rfl, rfl, h⟩
  obtain ⟨hv, h⟩ := h
  refine kk_icmp_eq (tgt := 1181) hE dL_law_1061 (by decide) (fun _ => ?_) (fun c => absurd hv c)
  refine kk_widen (cs' := cs + 20) (sl' := sl + 1000) (by omega) (by omega) ?_
  exact hk _ _ _ _ _ h
/-- drawn: class and reference answer alike, and stay alike -/
def lw_C28 (Inv : kw_T → Nat → kw_R → kw_I → kw_L → Prop) : Prop := ∀ (T : kw_T) (n : Nat) (r : kw_R) (i : kw_I) (w : kw_L) (x1 : Int32) (x2 : Int32), Inv T n r i w → n ≤ 20000 → w_X9_drawn 1 x1 x2 T n r i w (fun v => T 84 = (0, 10) ∧ w_X10_drawn 84 x1 x2 T n r i w (fun v2 => v = v2 ∧ lw_N Inv n T n r i w))
set_option maxHeartbeats 4000000 in
set_option maxRecDepth 100000 in
theorem lc_28 {E : kw_E} {G : kw_G} {Q : State → Prop} {b L cs sl t : Nat} {xs : Nat → Int32} (hE : kw_ok E G cL_law 4 RL) (hRm : E.2.2.2.1 = room_1) (hX : va_X b L xs E.2.2.2.2.1 E.2.2.2.2.1.heap) (hbl : b < E.2.2.2.2.1.heap.size) (hbG : ¬ G.1 < b) (hL : L ≤ 3584) (ht : t + 7 ≤ L) (hc : cs + 20 ≤ 600000 ∧ sl + 1000 ≤ 7302250) {KN : kw_T → Nat → kw_R → kw_I → kw_L → Prop} (hk : ∀ T n r i w, KN T n r i w → kw_K E G 4 (cs + 20) (sl + 1000) Q 1181 [(3, kw_i (nI t)), (2, kw_a 84), (1, kw_a 1), (0, kw_a (kw_SB + 200 + b))] [] T n r i w) {T : kw_T} {n : Nat} {r : kw_R} {i : kw_I} {w : kw_L} (h1 : T 1 = (0, 9)) (h : w_X9_drawn 1 (xs (t + 1)) (xs (t + 2)) T n r i w (fun v => T 84 = (0, 10) ∧ w_X10_drawn 84 (xs (t + 1)) (xs (t + 2)) T n r i w (fun v2 => v = v2 ∧ KN T n r i w))) : kw_K E G 4 cs sl Q 1066 [(3, kw_i (nI t)), (2, kw_a 84), (1, kw_a 1), (0, kw_a (kw_SB + 200 + b))] [] T n r i w := by
  refine kk_aload_n hE 2 dL_law_1066 rfl rfl ?_
  refine kk_aload_n hE 3 dL_law_1067 rfl rfl ?_
  refine kk_iload_n hE 0 dL_law_1068 rfl rfl ?_
  refine kk_iconst (v := (1 : Int32)) hE dL_law_1069 (by decide) ?_
  refine kk_iadd hE dL_law_1070 ?_
  refine kk_scr hE hX hbl hbG (k := t + 1) (lw_ix t 1 (by decide)) (by omega) (by omega) dL_law_1071 ?_
  refine kk_aload_n hE 3 dL_law_1072 rfl rfl ?_
  refine kk_iload_n hE 0 dL_law_1073 rfl rfl ?_
  refine kk_iconst (v := (2 : Int32)) hE dL_law_1074 (by decide) ?_
  refine kk_iadd hE dL_law_1075 ?_
  refine kk_scr hE hX hbl hbG (k := t + 2) (lw_ix t 2 (by decide)) (by omega) (by omega) dL_law_1076 ?_
  refine kk_callVi (cs' := cs + 0) (sl' := sl + 0) (st := []) hE cvL_132 (t_X9_drawn h1 h) dL_law_1077 h1 rfl rfl hRm ⟨by decide, by decide⟩ ⟨by show cs + 0 ≤ 600000; omega, by show sl + 0 ≤ 7302250; omega⟩ rfl rfl (by decide) rfl ?_
  rintro v _ _ _ _ _ ⟨rfl, rfl, rfl, rfl, rfl, h⟩
  obtain ⟨h2, h⟩ := h
  refine kk_aload_n hE 1 dL_law_1080 rfl rfl ?_
  refine kk_aload_n hE 3 dL_law_1081 rfl rfl ?_
  refine kk_iload_n hE 0 dL_law_1082 rfl rfl ?_
  refine kk_iconst (v := (1 : Int32)) hE dL_law_1083 (by decide) ?_
  refine kk_iadd hE dL_law_1084 ?_
  refine kk_scr hE hX hbl hbG (k := t + 1) (lw_ix t 1 (by decide)) (by omega) (by omega) dL_law_1085 ?_
  refine kk_aload_n hE 3 dL_law_1086 rfl rfl ?_
  refine kk_iload_n hE 0 dL_law_1087 rfl rfl ?_
  refine kk_iconst (v := (2 : Int32)) hE dL_law_1088 (by decide) ?_
  refine kk_iadd hE dL_law_1089 ?_
  refine kk_scr hE hX hbl hbG (k := t + 2) (lw_ix t 2 (by decide)) (by omega) (by omega) dL_law_1090 ?_
  refine kk_callVi (cs' := cs + 0) (sl' := sl + 0) (st := [kw_i v]) hE cvL_135 (t_X10_drawn h2 h) dL_law_1091 h2 rfl rfl hRm ⟨by decide, by decide⟩ ⟨by show cs + 0 + 0 ≤ 600000; omega, by show sl + 0 + 0 ≤ 7302250; omega⟩ rfl rfl (Nat.le_of_ble_eq_true rfl) rfl ?_
  rintro v2 _ _ _ _ _ ⟨rfl, rfl, rfl, rfl, rfl, h⟩
  obtain ⟨hv, h⟩ := h
  refine kk_icmp_eq (tgt := 1181) hE dL_law_1094 (by decide) (fun _ => ?_) (fun c => absurd hv c)
  refine kk_widen (cs' := cs + 20) (sl' := sl + 1000) (by omega) (by omega) ?_
  exact hk _ _ _ _ _ h
/-- image: class and reference answer alike, and stay alike -/
def lw_C29 (Inv : kw_T → Nat → kw_R → kw_I → kw_L → Prop) : Prop := ∀ (T : kw_T) (n : Nat) (r : kw_R) (i : kw_I) (w : kw_L) (x1 : Int32), Inv T n r i w → n ≤ 20000 → w_X9_image 1 x1 T n r i w (fun v T1 n1 r1 i1 => T1 84 = (0, 10) ∧ w_X10_image 84 x1 T1 n1 r1 i1 w (fun v2 i2 => v = v2 ∧ lw_N Inv n T1 n1 r1 i2 w))
set_option maxHeartbeats 4000000 in
set_option maxRecDepth 100000 in
theorem lc_29 {E : kw_E} {G : kw_G} {Q : State → Prop} {b L cs sl t : Nat} {xs : Nat → Int32} (hE : kw_ok E G cL_law 4 RL) (hRm : E.2.2.2.1 = room_1) (hX : va_X b L xs E.2.2.2.2.1 E.2.2.2.2.1.heap) (hbl : b < E.2.2.2.2.1.heap.size) (hbG : ¬ G.1 < b) (hL : L ≤ 3584) (ht : t + 7 ≤ L) (hc : cs + 20 ≤ 600000 ∧ sl + 1000 ≤ 7302250) {KN : kw_T → Nat → kw_R → kw_I → kw_L → Prop} (hk : ∀ T n r i w, KN T n r i w → kw_K E G 4 (cs + 20) (sl + 1000) Q 1181 [(3, kw_i (nI t)), (2, kw_a 84), (1, kw_a 1), (0, kw_a (kw_SB + 200 + b))] [] T n r i w) {T : kw_T} {n : Nat} {r : kw_R} {i : kw_I} {w : kw_L} (h1 : T 1 = (0, 9)) (h : w_X9_image 1 (xs (t + 1)) T n r i w (fun v T1 n1 r1 i1 => T1 84 = (0, 10) ∧ w_X10_image 84 (xs (t + 1)) T1 n1 r1 i1 w (fun v2 i2 => v = v2 ∧ KN T1 n1 r1 i2 w))) : kw_K E G 4 cs sl Q 1099 [(3, kw_i (nI t)), (2, kw_a 84), (1, kw_a 1), (0, kw_a (kw_SB + 200 + b))] [] T n r i w := by
  refine kk_aload_n hE 2 dL_law_1099 rfl rfl ?_
  refine kk_aload_n hE 3 dL_law_1100 rfl rfl ?_
  refine kk_iload_n hE 0 dL_law_1101 rfl rfl ?_
  refine kk_iconst (v := (1 : Int32)) hE dL_law_1102 (by decide) ?_
  refine kk_iadd hE dL_law_1103 ?_
  refine kk_scr hE hX hbl hbG (k := t + 1) (lw_ix t 1 (by decide)) (by omega) (by omega) dL_law_1104 ?_
  refine kk_callVi (cs' := cs + 15) (sl' := sl + 201) (st := []) hE cvL_136 (t_X9_image h1 h) dL_law_1105 h1 rfl rfl hRm ⟨by decide, by decide⟩ ⟨by show cs + 15 ≤ 600000; omega, by show sl + 201 ≤ 7302250; omega⟩ rfl rfl (by decide) rfl ?_
  rintro v T1 n1 r1 i1 _ ⟨rfl, h⟩
  obtain ⟨h2, h⟩ := h
  refine kk_aload_n hE 1 dL_law_1108 rfl rfl ?_
  refine kk_aload_n hE 3 dL_law_1109 rfl rfl ?_
  refine kk_iload_n hE 0 dL_law_1110 rfl rfl ?_
  refine kk_iconst (v := (1 : Int32)) hE dL_law_1111 (by decide) ?_
  refine kk_iadd hE dL_law_1112 ?_
  refine kk_scr hE hX hbl hbG (k := t + 1) (lw_ix t 1 (by decide)) (by omega) (by omega) dL_law_1113 ?_
  refine kk_callVi (cs' := cs + 15) (sl' := sl + 201) (st := [kw_i v]) hE cvL_139 (t_X10_image h2 h) dL_law_1114 h2 rfl rfl hRm ⟨by decide, by decide⟩ ⟨by show cs + 15 + 0 ≤ 600000; omega, by show sl + 201 + 0 ≤ 7302250; omega⟩ rfl rfl (Nat.le_of_ble_eq_true rfl) rfl ?_
  rintro v2 _ _ _ i2 _ ⟨rfl, rfl, rfl, rfl, h⟩
  obtain ⟨hv, h⟩ := h
  refine kk_icmp_eq (tgt := 1181) hE dL_law_1117 (by decide) (fun _ => ?_) (fun c => absurd hv c)
  refine kk_widen (cs' := cs + 20) (sl' := sl + 1000) (by omega) (by omega) ?_
  exact hk _ _ _ _ _ h
/-- back: class and reference answer alike, and stay alike -/
def lw_C30 (Inv : kw_T → Nat → kw_R → kw_I → kw_L → Prop) : Prop := ∀ (T : kw_T) (n : Nat) (r : kw_R) (i : kw_I) (w : kw_L) (x1 : Int32), Inv T n r i w → n ≤ 20000 → w_X9_back 1 x1 T n r i w (fun v r1 i1 => T 84 = (0, 10) ∧ w_X10_back 84 x1 T n r1 i1 w (fun v2 i2 => v = v2 ∧ lw_N Inv n T n r1 i2 w))
set_option maxHeartbeats 4000000 in
set_option maxRecDepth 100000 in
theorem lc_30 {E : kw_E} {G : kw_G} {Q : State → Prop} {b L cs sl t : Nat} {xs : Nat → Int32} (hE : kw_ok E G cL_law 4 RL) (hRm : E.2.2.2.1 = room_1) (hX : va_X b L xs E.2.2.2.2.1 E.2.2.2.2.1.heap) (hbl : b < E.2.2.2.2.1.heap.size) (hbG : ¬ G.1 < b) (hL : L ≤ 3584) (ht : t + 7 ≤ L) (hc : cs + 20 ≤ 600000 ∧ sl + 1000 ≤ 7302250) {KN : kw_T → Nat → kw_R → kw_I → kw_L → Prop} (hk : ∀ T n r i w, KN T n r i w → kw_K E G 4 (cs + 20) (sl + 1000) Q 1181 [(3, kw_i (nI t)), (2, kw_a 84), (1, kw_a 1), (0, kw_a (kw_SB + 200 + b))] [] T n r i w) {T : kw_T} {n : Nat} {r : kw_R} {i : kw_I} {w : kw_L} (h1 : T 1 = (0, 9)) (h : w_X9_back 1 (xs (t + 1)) T n r i w (fun v r1 i1 => T 84 = (0, 10) ∧ w_X10_back 84 (xs (t + 1)) T n r1 i1 w (fun v2 i2 => v = v2 ∧ KN T n r1 i2 w))) : kw_K E G 4 cs sl Q 1122 [(3, kw_i (nI t)), (2, kw_a 84), (1, kw_a 1), (0, kw_a (kw_SB + 200 + b))] [] T n r i w := by
  refine kk_aload_n hE 2 dL_law_1122 rfl rfl ?_
  refine kk_aload_n hE 3 dL_law_1123 rfl rfl ?_
  refine kk_iload_n hE 0 dL_law_1124 rfl rfl ?_
  refine kk_iconst (v := (1 : Int32)) hE dL_law_1125 (by decide) ?_
  refine kk_iadd hE dL_law_1126 ?_
  refine kk_scr hE hX hbl hbG (k := t + 1) (lw_ix t 1 (by decide)) (by omega) (by omega) dL_law_1127 ?_
  refine kk_callVi (cs' := cs + 0) (sl' := sl + 0) (st := []) hE cvL_140 (t_X9_back h1 h) dL_law_1128 h1 rfl rfl hRm ⟨by decide, by decide⟩ ⟨by show cs + 0 ≤ 600000; omega, by show sl + 0 ≤ 7302250; omega⟩ rfl rfl (by decide) rfl ?_
  rintro v _ _ r1 i1 _ ⟨rfl, rfl, rfl, h⟩
  obtain ⟨h2, h⟩ := h
  refine kk_aload_n hE 1 dL_law_1131 rfl rfl ?_
  refine kk_aload_n hE 3 dL_law_1132 rfl rfl ?_
  refine kk_iload_n hE 0 dL_law_1133 rfl rfl ?_
  refine kk_iconst (v := (1 : Int32)) hE dL_law_1134 (by decide) ?_
  refine kk_iadd hE dL_law_1135 ?_
  refine kk_scr hE hX hbl hbG (k := t + 1) (lw_ix t 1 (by decide)) (by omega) (by omega) dL_law_1136 ?_
  refine kk_callVi (cs' := cs + 0) (sl' := sl + 0) (st := [kw_i v]) hE cvL_143 (t_X10_back h2 h) dL_law_1137 h2 rfl rfl hRm ⟨by decide, by decide⟩ ⟨by show cs + 0 + 0 ≤ 600000; omega, by show sl + 0 + 0 ≤ 7302250; omega⟩ rfl rfl (Nat.le_of_ble_eq_true rfl) rfl ?_
  rintro v2 _ _ _ i2 _ ⟨rfl, rfl, rfl, rfl, h⟩
  obtain ⟨hv, h⟩ := h
  refine kk_icmp_eq (tgt := 1181) hE dL_law_1140 (by decide) (fun _ => ?_) (fun c => absurd hv c)
  refine kk_widen (cs' := cs + 20) (sl' := sl + 1000) (by omega) (by omega) ?_
  exact hk _ _ _ _ _ h
/-- count: class and reference answer alike, and stay alike -/
def lw_C31 (Inv : kw_T → Nat → kw_R → kw_I → kw_L → Prop) : Prop := ∀ (T : kw_T) (n : Nat) (r : kw_R) (i : kw_I) (w : kw_L) (x1 : Int32), Inv T n r i w → n ≤ 20000 → w_X9_count 1 x1 T n r i w (fun v => T 84 = (0, 10) ∧ w_X10_count 84 x1 T n r i w (fun v2 => v = v2 ∧ lw_N Inv n T n r i w))
set_option maxHeartbeats 4000000 in
set_option maxRecDepth 100000 in
theorem lc_31 {E : kw_E} {G : kw_G} {Q : State → Prop} {b L cs sl t : Nat} {xs : Nat → Int32} (hE : kw_ok E G cL_law 4 RL) (hRm : E.2.2.2.1 = room_1) (hX : va_X b L xs E.2.2.2.2.1 E.2.2.2.2.1.heap) (hbl : b < E.2.2.2.2.1.heap.size) (hbG : ¬ G.1 < b) (hL : L ≤ 3584) (ht : t + 7 ≤ L) (hc : cs + 20 ≤ 600000 ∧ sl + 1000 ≤ 7302250) {KN : kw_T → Nat → kw_R → kw_I → kw_L → Prop} (hk : ∀ T n r i w, KN T n r i w → kw_K E G 4 (cs + 20) (sl + 1000) Q 1181 [(3, kw_i (nI t)), (2, kw_a 84), (1, kw_a 1), (0, kw_a (kw_SB + 200 + b))] [] T n r i w) {T : kw_T} {n : Nat} {r : kw_R} {i : kw_I} {w : kw_L} (h1 : T 1 = (0, 9)) (h : w_X9_count 1 (xs (t + 1)) T n r i w (fun v => T 84 = (0, 10) ∧ w_X10_count 84 (xs (t + 1)) T n r i w (fun v2 => v = v2 ∧ KN T n r i w))) : kw_K E G 4 cs sl Q 1145 [(3, kw_i (nI t)), (2, kw_a 84), (1, kw_a 1), (0, kw_a (kw_SB + 200 + b))] [] T n r i w := by
  refine kk_aload_n hE 2 dL_law_1145 rfl rfl ?_
  refine kk_aload_n hE 3 dL_law_1146 rfl rfl ?_
  refine kk_iload_n hE 0 dL_law_1147 rfl rfl ?_
  refine kk_iconst (v := (1 : Int32)) hE dL_law_1148 (by decide) ?_
  refine kk_iadd hE dL_law_1149 ?_
  refine kk_scr hE hX hbl hbG (k := t + 1) (lw_ix t 1 (by decide)) (by omega) (by omega) dL_law_1150 ?_
  refine kk_callVi (cs' := cs + 0) (sl' := sl + 0) (st := []) hE cvL_144 (t_X9_count h1 h) dL_law_1151 h1 rfl rfl hRm ⟨by decide, by decide⟩ ⟨by show cs + 0 ≤ 600000; omega, by show sl + 0 ≤ 7302250; omega⟩ rfl rfl (by decide) rfl ?_
  rintro v _ _ _ _ _ ⟨rfl, rfl, rfl, rfl, rfl, h⟩
  obtain ⟨h2, h⟩ := h
  refine kk_aload_n hE 1 dL_law_1154 rfl rfl ?_
  refine kk_aload_n hE 3 dL_law_1155 rfl rfl ?_
  refine kk_iload_n hE 0 dL_law_1156 rfl rfl ?_
  refine kk_iconst (v := (1 : Int32)) hE dL_law_1157 (by decide) ?_
  refine kk_iadd hE dL_law_1158 ?_
  refine kk_scr hE hX hbl hbG (k := t + 1) (lw_ix t 1 (by decide)) (by omega) (by omega) dL_law_1159 ?_
  refine kk_callVi (cs' := cs + 0) (sl' := sl + 0) (st := [kw_i v]) hE cvL_147 (t_X10_count h2 h) dL_law_1160 h2 rfl rfl hRm ⟨by decide, by decide⟩ ⟨by show cs + 0 + 0 ≤ 600000; omega, by show sl + 0 + 0 ≤ 7302250; omega⟩ rfl rfl (Nat.le_of_ble_eq_true rfl) rfl ?_
  rintro v2 _ _ _ _ _ ⟨rfl, rfl, rfl, rfl, rfl, h⟩
  obtain ⟨hv, h⟩ := h
  refine kk_icmp_eq (tgt := 1181) hE dL_law_1163 (by decide) (fun _ => ?_) (fun c => absurd hv c)
  refine kk_widen (cs' := cs + 20) (sl' := sl + 1000) (by omega) (by omega) ?_
  exact hk _ _ _ _ _ h
/-- status: class and reference answer alike, and stay alike -/
def lw_C32 (Inv : kw_T → Nat → kw_R → kw_I → kw_L → Prop) : Prop := ∀ (T : kw_T) (n : Nat) (r : kw_R) (i : kw_I) (w : kw_L), Inv T n r i w → n ≤ 20000 → w_X9_status 1  T n r i w (fun v => T 84 = (0, 10) ∧ w_X10_status 84  T n r i w (fun v2 => v = v2 ∧ lw_N Inv n T n r i w))
set_option maxHeartbeats 4000000 in
set_option maxRecDepth 100000 in
theorem lc_32 {E : kw_E} {G : kw_G} {Q : State → Prop} {b L cs sl t : Nat} {xs : Nat → Int32} (hE : kw_ok E G cL_law 4 RL) (hRm : E.2.2.2.1 = room_1) (hX : va_X b L xs E.2.2.2.2.1 E.2.2.2.2.1.heap) (hbl : b < E.2.2.2.2.1.heap.size) (hbG : ¬ G.1 < b) (hL : L ≤ 3584) (ht : t + 7 ≤ L) (hc : cs + 20 ≤ 600000 ∧ sl + 1000 ≤ 7302250) {KN : kw_T → Nat → kw_R → kw_I → kw_L → Prop} (hk : ∀ T n r i w, KN T n r i w → kw_K E G 4 (cs + 20) (sl + 1000) Q 1181 [(3, kw_i (nI t)), (2, kw_a 84), (1, kw_a 1), (0, kw_a (kw_SB + 200 + b))] [] T n r i w) {T : kw_T} {n : Nat} {r : kw_R} {i : kw_I} {w : kw_L} (h1 : T 1 = (0, 9)) (h : w_X9_status 1  T n r i w (fun v => T 84 = (0, 10) ∧ w_X10_status 84  T n r i w (fun v2 => v = v2 ∧ KN T n r i w))) : kw_K E G 4 cs sl Q 1168 [(3, kw_i (nI t)), (2, kw_a 84), (1, kw_a 1), (0, kw_a (kw_SB + 200 + b))] [] T n r i w := by
  refine kk_aload_n hE 2 dL_law_1168 rfl rfl ?_
  refine kk_callVi (cs' := cs + 0) (sl' := sl + 0) (st := []) hE cvL_148 (t_X9_status h1 h) dL_law_1169 h1 rfl rfl hRm ⟨by decide, by decide⟩ ⟨by show cs + 0 ≤ 600000; omega, by show sl + 0 ≤ 7302250; omega⟩ rfl rfl (by decide) rfl ?_
  rintro v _ _ _ _ _ ⟨rfl, rfl, rfl, rfl, rfl, h⟩
  obtain ⟨h2, h⟩ := h
  refine kk_aload_n hE 1 dL_law_1172 rfl rfl ?_
  refine kk_callVi (cs' := cs + 0) (sl' := sl + 0) (st := [kw_i v]) hE cvL_151 (t_X10_status h2 h) dL_law_1173 h2 rfl rfl hRm ⟨by decide, by decide⟩ ⟨by show cs + 0 + 0 ≤ 600000; omega, by show sl + 0 + 0 ≤ 7302250; omega⟩ rfl rfl (Nat.le_of_ble_eq_true rfl) rfl ?_
  rintro v2 _ _ _ _ _ ⟨rfl, rfl, rfl, rfl, rfl, h⟩
  obtain ⟨hv, h⟩ := h
  refine kk_icmp_eq (tgt := 1181) hE dL_law_1176 (by decide) (fun _ => ?_) (fun c => absurd hv c)
  refine kk_widen (cs' := cs + 20) (sl' := sl + 1000) (by omega) (by omega) ?_
  exact hk _ _ _ _ _ h
/-- all calls -/
def lw_all (Inv : kw_T → Nat → kw_R → kw_I → kw_L → Prop) : Prop := lw_C0 Inv ∧ lw_C1 Inv ∧ lw_C2 Inv ∧ lw_C3 Inv ∧ lw_C4 Inv ∧ lw_C5 Inv ∧ lw_C6 Inv ∧ lw_C7 Inv ∧ lw_C8 Inv ∧ lw_C9 Inv ∧ lw_C10 Inv ∧ lw_C11 Inv ∧ lw_C12 Inv ∧ lw_C13 Inv ∧ lw_C14 Inv ∧ lw_C15 Inv ∧ lw_C16 Inv ∧ lw_C17 Inv ∧ lw_C18 Inv ∧ lw_C19 Inv ∧ lw_C20 Inv ∧ lw_C21 Inv ∧ lw_C22 Inv ∧ lw_C23 Inv ∧ lw_C24 Inv ∧ lw_C25 Inv ∧ lw_C26 Inv ∧ lw_C27 Inv ∧ lw_C28 Inv ∧ lw_C29 Inv ∧ lw_C30 Inv ∧ lw_C31 Inv ∧ lw_C32 Inv
set_option maxHeartbeats 4000000 in
set_option maxRecDepth 100000 in
theorem lw_body {E : kw_E} {G : kw_G} {Q : State → Prop} {b L cs sl t : Nat} {xs : Nat → Int32} (hE : kw_ok E G cL_law 4 RL) (hRm : E.2.2.2.1 = room_1) (hX : va_X b L xs E.2.2.2.2.1 E.2.2.2.2.1.heap) (hbl : b < E.2.2.2.2.1.heap.size) (hbG : ¬ G.1 < b) (hL : L ≤ 3584) (ht : t + 7 ≤ L) (hc : cs + 20 ≤ 600000 ∧ sl + 1000 ≤ 7302250) {Inv : kw_T → Nat → kw_R → kw_I → kw_L → Prop} (hA : lw_all Inv) {T : kw_T} {n : Nat} {r : kw_R} {i : kw_I} {w : kw_L} (hk : ∀ T' n' r' i' w', lw_N Inv n T' n' r' i' w' → kw_K E G 4 (cs + 20) (sl + 1000) Q 1181 [(3, kw_i (nI t)), (2, kw_a 84), (1, kw_a 1), (0, kw_a (kw_SB + 200 + b))] [] T' n' r' i' w') (h1 : T 1 = (0, 9)) (hI : Inv T n r i w) (hn : n ≤ 20000) {x : Int32} : kw_K E G 4 cs sl Q 33 [(3, kw_i (nI t)), (2, kw_a 84), (1, kw_a 1), (0, kw_a (kw_SB + 200 + b))] [kw_i x] T n r i w := by
  by_cases c0 : x = (0 : Int32)
  · refine kk_tin (tgt := 180) hE dL_law_33 (by rw [c0]; decide) (by rw [c0]; decide) (by rw [c0]; rfl) (by decide) ?_
    exact lc_0 hE hRm hX hbl hbG hL ht hc hk h1 (hA.1 T n r i w (xs (t + 1)) (xs (t + 2)) (xs (t + 3)) (xs (t + 4)) hI hn)
  by_cases c1 : x = (1 : Int32)
  · refine kk_tin (tgt := 233) hE dL_law_33 (by rw [c1]; decide) (by rw [c1]; decide) (by rw [c1]; rfl) (by decide) ?_
    exact lc_1 hE hRm hX hbl hbG hL ht hc hk h1 (hA.2.1 T n r i w (xs (t + 1)) (xs (t + 2)) (xs (t + 3)) hI hn)
  by_cases c2 : x = (2 : Int32)
  · refine kk_tin (tgt := 276) hE dL_law_33 (by rw [c2]; decide) (by rw [c2]; decide) (by rw [c2]; rfl) (by decide) ?_
    exact lc_2 hE hRm hX hbl hbG hL ht hc hk h1 (hA.2.2.1 T n r i w (xs (t + 1)) (xs (t + 2)) (xs (t + 3)) (xs (t + 4)) (xs (t + 5)) hI hn)
  by_cases c3 : x = (3 : Int32)
  · refine kk_tin (tgt := 339) hE dL_law_33 (by rw [c3]; decide) (by rw [c3]; decide) (by rw [c3]; rfl) (by decide) ?_
    exact lc_3 hE hRm hX hbl hbG hL ht hc hk h1 (hA.2.2.2.1 T n r i w (xs (t + 1)) (xs (t + 2)) hI hn)
  by_cases c4 : x = (4 : Int32)
  · refine kk_tin (tgt := 372) hE dL_law_33 (by rw [c4]; decide) (by rw [c4]; decide) (by rw [c4]; rfl) (by decide) ?_
    exact lc_4 hE hRm hX hbl hbG hL ht hc hk h1 (hA.2.2.2.2.1 T n r i w (xs (t + 1)) (xs (t + 2)) (xs (t + 3)) hI hn)
  by_cases c5 : x = (5 : Int32)
  · refine kk_tin (tgt := 415) hE dL_law_33 (by rw [c5]; decide) (by rw [c5]; decide) (by rw [c5]; rfl) (by decide) ?_
    exact lc_5 hE hRm hX hbl hbG hL ht hc hk h1 (hA.2.2.2.2.2.1 T n r i w (xs (t + 1)) (xs (t + 2)) hI hn)
  by_cases c6 : x = (6 : Int32)
  · refine kk_tin (tgt := 448) hE dL_law_33 (by rw [c6]; decide) (by rw [c6]; decide) (by rw [c6]; rfl) (by decide) ?_
    exact lc_6 hE hRm hX hbl hbG hL ht hc hk h1 (hA.2.2.2.2.2.2.1 T n r i w (xs (t + 1)) (xs (t + 2)) hI hn)
  by_cases c7 : x = (7 : Int32)
  · refine kk_tin (tgt := 481) hE dL_law_33 (by rw [c7]; decide) (by rw [c7]; decide) (by rw [c7]; rfl) (by decide) ?_
    exact lc_7 hE hRm hX hbl hbG hL ht hc hk h1 (hA.2.2.2.2.2.2.2.1 T n r i w (xs (t + 1)) (xs (t + 2)) hI hn)
  by_cases c8 : x = (8 : Int32)
  · refine kk_tin (tgt := 514) hE dL_law_33 (by rw [c8]; decide) (by rw [c8]; decide) (by rw [c8]; rfl) (by decide) ?_
    exact lc_8 hE hRm hX hbl hbG hL ht hc hk h1 (hA.2.2.2.2.2.2.2.2.1 T n r i w (xs (t + 1)) (xs (t + 2)) (xs (t + 3)) (xs (t + 4)) (xs (t + 5)) hI hn)
  by_cases c9 : x = (9 : Int32)
  · refine kk_tin (tgt := 577) hE dL_law_33 (by rw [c9]; decide) (by rw [c9]; decide) (by rw [c9]; rfl) (by decide) ?_
    exact lc_9 hE hRm hX hbl hbG hL ht hc hk h1 (hA.2.2.2.2.2.2.2.2.2.1 T n r i w (xs (t + 1)) hI hn)
  by_cases c10 : x = (10 : Int32)
  · refine kk_tin (tgt := 600) hE dL_law_33 (by rw [c10]; decide) (by rw [c10]; decide) (by rw [c10]; rfl) (by decide) ?_
    exact lc_10 hE hRm hX hbl hbG hL ht hc hk h1 (hA.2.2.2.2.2.2.2.2.2.2.1 T n r i w  hI hn)
  by_cases c11 : x = (11 : Int32)
  · refine kk_tin (tgt := 613) hE dL_law_33 (by rw [c11]; decide) (by rw [c11]; decide) (by rw [c11]; rfl) (by decide) ?_
    exact lc_11 hE hRm hX hbl hbG hL ht hc hk h1 (hA.2.2.2.2.2.2.2.2.2.2.2.1 T n r i w  hI hn)
  by_cases c12 : x = (12 : Int32)
  · refine kk_tin (tgt := 626) hE dL_law_33 (by rw [c12]; decide) (by rw [c12]; decide) (by rw [c12]; rfl) (by decide) ?_
    exact lc_12 hE hRm hX hbl hbG hL ht hc hk h1 (hA.2.2.2.2.2.2.2.2.2.2.2.2.1 T n r i w  hI hn)
  by_cases c13 : x = (13 : Int32)
  · refine kk_tin (tgt := 639) hE dL_law_33 (by rw [c13]; decide) (by rw [c13]; decide) (by rw [c13]; rfl) (by decide) ?_
    exact lc_13 hE hRm hX hbl hbG hL ht hc hk h1 (hA.2.2.2.2.2.2.2.2.2.2.2.2.2.1 T n r i w  hI hn)
  by_cases c14 : x = (14 : Int32)
  · refine kk_tin (tgt := 652) hE dL_law_33 (by rw [c14]; decide) (by rw [c14]; decide) (by rw [c14]; rfl) (by decide) ?_
    exact lc_14 hE hRm hX hbl hbG hL ht hc hk h1 (hA.2.2.2.2.2.2.2.2.2.2.2.2.2.2.1 T n r i w (xs (t + 1)) hI hn)
  by_cases c15 : x = (15 : Int32)
  · refine kk_tin (tgt := 675) hE dL_law_33 (by rw [c15]; decide) (by rw [c15]; decide) (by rw [c15]; rfl) (by decide) ?_
    exact lc_15 hE hRm hX hbl hbG hL ht hc hk h1 (hA.2.2.2.2.2.2.2.2.2.2.2.2.2.2.2.1 T n r i w (xs (t + 1)) (xs (t + 2)) (xs (t + 3)) hI hn)
  by_cases c16 : x = (16 : Int32)
  · refine kk_tin (tgt := 718) hE dL_law_33 (by rw [c16]; decide) (by rw [c16]; decide) (by rw [c16]; rfl) (by decide) ?_
    exact lc_16 hE hRm hX hbl hbG hL ht hc hk h1 (hA.2.2.2.2.2.2.2.2.2.2.2.2.2.2.2.2.1 T n r i w (xs (t + 1)) (xs (t + 2)) hI hn)
  by_cases c17 : x = (17 : Int32)
  · refine kk_tin (tgt := 751) hE dL_law_33 (by rw [c17]; decide) (by rw [c17]; decide) (by rw [c17]; rfl) (by decide) ?_
    exact lc_17 hE hRm hX hbl hbG hL ht hc hk h1 (hA.2.2.2.2.2.2.2.2.2.2.2.2.2.2.2.2.2.1 T n r i w (xs (t + 1)) hI hn)
  by_cases c18 : x = (18 : Int32)
  · refine kk_tin (tgt := 774) hE dL_law_33 (by rw [c18]; decide) (by rw [c18]; decide) (by rw [c18]; rfl) (by decide) ?_
    exact lc_18 hE hRm hX hbl hbG hL ht hc hk h1 (hA.2.2.2.2.2.2.2.2.2.2.2.2.2.2.2.2.2.2.1 T n r i w (xs (t + 1)) hI hn)
  by_cases c19 : x = (19 : Int32)
  · refine kk_tin (tgt := 797) hE dL_law_33 (by rw [c19]; decide) (by rw [c19]; decide) (by rw [c19]; rfl) (by decide) ?_
    exact lc_19 hE hRm hX hbl hbG hL ht hc hk h1 (hA.2.2.2.2.2.2.2.2.2.2.2.2.2.2.2.2.2.2.2.1 T n r i w (xs (t + 1)) hI hn)
  by_cases c20 : x = (20 : Int32)
  · refine kk_tin (tgt := 820) hE dL_law_33 (by rw [c20]; decide) (by rw [c20]; decide) (by rw [c20]; rfl) (by decide) ?_
    exact lc_20 hE hRm hX hbl hbG hL ht hc hk h1 (hA.2.2.2.2.2.2.2.2.2.2.2.2.2.2.2.2.2.2.2.2.1 T n r i w (xs (t + 1)) (xs (t + 2)) hI hn)
  by_cases c21 : x = (21 : Int32)
  · refine kk_tin (tgt := 853) hE dL_law_33 (by rw [c21]; decide) (by rw [c21]; decide) (by rw [c21]; rfl) (by decide) ?_
    exact lc_21 hE hRm hX hbl hbG hL ht hc hk h1 (hA.2.2.2.2.2.2.2.2.2.2.2.2.2.2.2.2.2.2.2.2.2.1 T n r i w (xs (t + 1)) hI hn)
  by_cases c22 : x = (22 : Int32)
  · refine kk_tin (tgt := 876) hE dL_law_33 (by rw [c22]; decide) (by rw [c22]; decide) (by rw [c22]; rfl) (by decide) ?_
    exact lc_22 hE hRm hX hbl hbG hL ht hc hk h1 (hA.2.2.2.2.2.2.2.2.2.2.2.2.2.2.2.2.2.2.2.2.2.2.1 T n r i w (xs (t + 1)) hI hn)
  by_cases c23 : x = (23 : Int32)
  · refine kk_tin (tgt := 899) hE dL_law_33 (by rw [c23]; decide) (by rw [c23]; decide) (by rw [c23]; rfl) (by decide) ?_
    exact lc_23 hE hRm hX hbl hbG hL ht hc hk h1 (hA.2.2.2.2.2.2.2.2.2.2.2.2.2.2.2.2.2.2.2.2.2.2.2.1 T n r i w (xs (t + 1)) hI hn)
  by_cases c24 : x = (24 : Int32)
  · refine kk_tin (tgt := 922) hE dL_law_33 (by rw [c24]; decide) (by rw [c24]; decide) (by rw [c24]; rfl) (by decide) ?_
    exact lc_24 hE hRm hX hbl hbG hL ht hc hk h1 (hA.2.2.2.2.2.2.2.2.2.2.2.2.2.2.2.2.2.2.2.2.2.2.2.2.1 T n r i w (xs (t + 1)) hI hn)
  by_cases c25 : x = (25 : Int32)
  · refine kk_tin (tgt := 945) hE dL_law_33 (by rw [c25]; decide) (by rw [c25]; decide) (by rw [c25]; rfl) (by decide) ?_
    exact lc_25 hE hRm hX hbl hbG hL ht hc hk h1 (hA.2.2.2.2.2.2.2.2.2.2.2.2.2.2.2.2.2.2.2.2.2.2.2.2.2.1 T n r i w (xs (t + 1)) hI hn)
  by_cases c26 : x = (26 : Int32)
  · refine kk_tin (tgt := 968) hE dL_law_33 (by rw [c26]; decide) (by rw [c26]; decide) (by rw [c26]; rfl) (by decide) ?_
    exact lc_26 hE hRm hX hbl hbG hL ht hc hk h1 (hA.2.2.2.2.2.2.2.2.2.2.2.2.2.2.2.2.2.2.2.2.2.2.2.2.2.2.1 T n r i w (xs (t + 1)) (xs (t + 2)) (xs (t + 3)) (xs (t + 4)) (xs (t + 5)) (xs (t + 6)) hI hn)
  by_cases c27 : x = (27 : Int32)
  · refine kk_tin (tgt := 1043) hE dL_law_33 (by rw [c27]; decide) (by rw [c27]; decide) (by rw [c27]; rfl) (by decide) ?_
    exact lc_27 hE hRm hX hbl hbG hL ht hc hk h1 (hA.2.2.2.2.2.2.2.2.2.2.2.2.2.2.2.2.2.2.2.2.2.2.2.2.2.2.2.1 T n r i w (xs (t + 1)) hI hn)
  by_cases c28 : x = (28 : Int32)
  · refine kk_tin (tgt := 1066) hE dL_law_33 (by rw [c28]; decide) (by rw [c28]; decide) (by rw [c28]; rfl) (by decide) ?_
    exact lc_28 hE hRm hX hbl hbG hL ht hc hk h1 (hA.2.2.2.2.2.2.2.2.2.2.2.2.2.2.2.2.2.2.2.2.2.2.2.2.2.2.2.2.1 T n r i w (xs (t + 1)) (xs (t + 2)) hI hn)
  by_cases c29 : x = (29 : Int32)
  · refine kk_tin (tgt := 1099) hE dL_law_33 (by rw [c29]; decide) (by rw [c29]; decide) (by rw [c29]; rfl) (by decide) ?_
    exact lc_29 hE hRm hX hbl hbG hL ht hc hk h1 (hA.2.2.2.2.2.2.2.2.2.2.2.2.2.2.2.2.2.2.2.2.2.2.2.2.2.2.2.2.2.1 T n r i w (xs (t + 1)) hI hn)
  by_cases c30 : x = (30 : Int32)
  · refine kk_tin (tgt := 1122) hE dL_law_33 (by rw [c30]; decide) (by rw [c30]; decide) (by rw [c30]; rfl) (by decide) ?_
    exact lc_30 hE hRm hX hbl hbG hL ht hc hk h1 (hA.2.2.2.2.2.2.2.2.2.2.2.2.2.2.2.2.2.2.2.2.2.2.2.2.2.2.2.2.2.2.1 T n r i w (xs (t + 1)) hI hn)
  by_cases c31 : x = (31 : Int32)
  · refine kk_tin (tgt := 1145) hE dL_law_33 (by rw [c31]; decide) (by rw [c31]; decide) (by rw [c31]; rfl) (by decide) ?_
    exact lc_31 hE hRm hX hbl hbG hL ht hc hk h1 (hA.2.2.2.2.2.2.2.2.2.2.2.2.2.2.2.2.2.2.2.2.2.2.2.2.2.2.2.2.2.2.2.1 T n r i w (xs (t + 1)) hI hn)
  by_cases c32 : x = (32 : Int32)
  · refine kk_tin (tgt := 1168) hE dL_law_33 (by rw [c32]; decide) (by rw [c32]; decide) (by rw [c32]; rfl) (by decide) ?_
    exact lc_32 hE hRm hX hbl hbG hL ht hc hk h1 (hA.2.2.2.2.2.2.2.2.2.2.2.2.2.2.2.2.2.2.2.2.2.2.2.2.2.2.2.2.2.2.2.2 T n r i w  hI hn)
  have c99 : x.toInt < 0 ∨ 32 < x.toInt := by
    have e0 := lv_neT c0 (a := 0) rfl
    have e1 := lv_neT c1 (a := 1) rfl
    have e2 := lv_neT c2 (a := 2) rfl
    have e3 := lv_neT c3 (a := 3) rfl
    have e4 := lv_neT c4 (a := 4) rfl
    have e5 := lv_neT c5 (a := 5) rfl
    have e6 := lv_neT c6 (a := 6) rfl
    have e7 := lv_neT c7 (a := 7) rfl
    have e8 := lv_neT c8 (a := 8) rfl
    have e9 := lv_neT c9 (a := 9) rfl
    have e10 := lv_neT c10 (a := 10) rfl
    have e11 := lv_neT c11 (a := 11) rfl
    have e12 := lv_neT c12 (a := 12) rfl
    have e13 := lv_neT c13 (a := 13) rfl
    have e14 := lv_neT c14 (a := 14) rfl
    have e15 := lv_neT c15 (a := 15) rfl
    have e16 := lv_neT c16 (a := 16) rfl
    have e17 := lv_neT c17 (a := 17) rfl
    have e18 := lv_neT c18 (a := 18) rfl
    have e19 := lv_neT c19 (a := 19) rfl
    have e20 := lv_neT c20 (a := 20) rfl
    have e21 := lv_neT c21 (a := 21) rfl
    have e22 := lv_neT c22 (a := 22) rfl
    have e23 := lv_neT c23 (a := 23) rfl
    have e24 := lv_neT c24 (a := 24) rfl
    have e25 := lv_neT c25 (a := 25) rfl
    have e26 := lv_neT c26 (a := 26) rfl
    have e27 := lv_neT c27 (a := 27) rfl
    have e28 := lv_neT c28 (a := 28) rfl
    have e29 := lv_neT c29 (a := 29) rfl
    have e30 := lv_neT c30 (a := 30) rfl
    have e31 := lv_neT c31 (a := 31) rfl
    have e32 := lv_neT c32 (a := 32) rfl
    omega
  refine kk_tout (tgt := 1181) hE dL_law_33 c99 (by decide) ?_
  refine kk_widen (cs' := cs + 20) (sl' := sl + 1000) (by omega) (by omega) ?_
  exact hk _ _ _ _ _ ⟨hI, by omega⟩
