theorem dX7_addUpLengths_28 : decode cX7_addUpLengths 28 = .ok (.iastore, 1) := by decide +kernel
theorem dX7_addUpLengths_29 : decode cX7_addUpLengths 29 = .ok (.iinc 2 1, 3) := by decide +kernel
theorem dX7_addUpLengths_32 : decode cX7_addUpLengths 32 = .ok (.goto (-26), 3) := by decide +kernel
theorem dX7_addUpLengths_35 : decode cX7_addUpLengths 35 = .ok (.return_, 1) := by decide +kernel
theorem dX7_placeOf_0 : decode cX7_placeOf 0 = .ok (.iload_n 0, 1) := by decide +kernel
theorem dX7_placeOf_1 : decode cX7_placeOf 1 = .ok (.bipush 21, 2) := by decide +kernel
theorem dX7_placeOf_3 : decode cX7_placeOf 3 = .ok (.imul, 1) := by decide +kernel
theorem dX7_placeOf_4 : decode cX7_placeOf 4 = .ok (.iload_n 1, 1) := by decide +kernel
theorem dX7_placeOf_5 : decode cX7_placeOf 5 = .ok (.iadd, 1) := by decide +kernel
theorem dX7_placeOf_6 : decode cX7_placeOf 6 = .ok (.ireturn, 1) := by decide +kernel
theorem dX7_costIndex_0 : decode cX7_costIndex 0 = .ok (.iload_n 0, 1) := by decide +kernel
theorem dX7_costIndex_1 : decode cX7_costIndex 1 = .ok (.sipush 441, 3) := by decide +kernel
theorem dX7_costIndex_4 : decode cX7_costIndex 4 = .ok (.imul, 1) := by decide +kernel
theorem dX7_costIndex_5 : decode cX7_costIndex 5 = .ok (.iload_n 1, 1) := by decide +kernel
theorem dX7_costIndex_6 : decode cX7_costIndex 6 = .ok (.bipush 21, 2) := by decide +kernel
theorem dX7_costIndex_8 : decode cX7_costIndex 8 = .ok (.imul, 1) := by decide +kernel
theorem dX7_costIndex_9 : decode cX7_costIndex 9 = .ok (.iadd, 1) := by decide +kernel
theorem dX7_costIndex_10 : decode cX7_costIndex 10 = .ok (.iload_n 2, 1) := by decide +kernel
theorem dX7_costIndex_11 : decode cX7_costIndex 11 = .ok (.iadd, 1) := by decide +kernel
theorem dX7_costIndex_12 : decode cX7_costIndex 12 = .ok (.ireturn, 1) := by decide +kernel
theorem dX7_fillCosts_0 : decode cX7_fillCosts 0 = .ok (.iconst 0, 1) := by decide +kernel
theorem dX7_fillCosts_1 : decode cX7_fillCosts 1 = .ok (.istore_n 1, 1) := by decide +kernel
theorem dX7_fillCosts_2 : decode cX7_fillCosts 2 = .ok (.iload_n 1, 1) := by decide +kernel
theorem dX7_fillCosts_3 : decode cX7_fillCosts 3 = .ok (.bipush 7, 2) := by decide +kernel
theorem dX7_fillCosts_5 : decode cX7_fillCosts 5 = .ok (.if_icmp .ge 84, 3) := by decide +kernel
theorem dX7_fillCosts_8 : decode cX7_fillCosts 8 = .ok (.iconst 0, 1) := by decide +kernel
theorem dX7_fillCosts_9 : decode cX7_fillCosts 9 = .ok (.istore_n 2, 1) := by decide +kernel
theorem dX7_fillCosts_10 : decode cX7_fillCosts 10 = .ok (.iload_n 2, 1) := by decide +kernel
theorem dX7_fillCosts_11 : decode cX7_fillCosts 11 = .ok (.aload_n 0, 1) := by decide +kernel
theorem dX7_fillCosts_12 : decode cX7_fillCosts 12 = .ok (.getfield 46, 3) := by decide +kernel
theorem dX7_fillCosts_15 : decode cX7_fillCosts 15 = .ok (.iconst 0, 1) := by decide +kernel
theorem dX7_fillCosts_16 : decode cX7_fillCosts 16 = .ok (.aaload, 1) := by decide +kernel
theorem dX7_fillCosts_17 : decode cX7_fillCosts 17 = .ok (.getfield 80, 3) := by decide +kernel
theorem dX7_fillCosts_20 : decode cX7_fillCosts 20 = .ok (.if_icmp .gt 63, 3) := by decide +kernel
theorem dX7_fillCosts_23 : decode cX7_fillCosts 23 = .ok (.iconst 0, 1) := by decide +kernel
theorem dX7_fillCosts_24 : decode cX7_fillCosts 24 = .ok (.istore_n 3, 1) := by decide +kernel
theorem dX7_fillCosts_25 : decode cX7_fillCosts 25 = .ok (.iload_n 3, 1) := by decide +kernel
theorem dX7_fillCosts_26 : decode cX7_fillCosts 26 = .ok (.aload_n 0, 1) := by decide +kernel
theorem dX7_fillCosts_27 : decode cX7_fillCosts 27 = .ok (.getfield 46, 3) := by decide +kernel
theorem dX7_fillCosts_30 : decode cX7_fillCosts 30 = .ok (.iconst 1, 1) := by decide +kernel
theorem dX7_fillCosts_31 : decode cX7_fillCosts 31 = .ok (.aaload, 1) := by decide +kernel
theorem dX7_fillCosts_32 : decode cX7_fillCosts 32 = .ok (.getfield 80, 3) := by decide +kernel
theorem dX7_fillCosts_35 : decode cX7_fillCosts 35 = .ok (.if_icmp .gt 42, 3) := by decide +kernel
theorem dX7_fillCosts_38 : decode cX7_fillCosts 38 = .ok (.aload_n 0, 1) := by decide +kernel
theorem dX7_fillCosts_39 : decode cX7_fillCosts 39 = .ok (.getfield 25, 3) := by decide +kernel
theorem dX7_fillCosts_42 : decode cX7_fillCosts 42 = .ok (.iload_n 1, 1) := by decide +kernel
theorem dX7_fillCosts_43 : decode cX7_fillCosts 43 = .ok (.iload_n 2, 1) := by decide +kernel
theorem dX7_fillCosts_44 : decode cX7_fillCosts 44 = .ok (.iload_n 3, 1) := by decide +kernel
theorem dX7_fillCosts_45 : decode cX7_fillCosts 45 = .ok (.invokestatic 91, 3) := by decide +kernel
theorem dX7_fillCosts_48 : decode cX7_fillCosts 48 = .ok (.aload_n 0, 1) := by decide +kernel
theorem dX7_fillCosts_49 : decode cX7_fillCosts 49 = .ok (.iload_n 1, 1) := by decide +kernel
theorem dX7_fillCosts_50 : decode cX7_fillCosts 50 = .ok (.iload_n 2, 1) := by decide +kernel
theorem dX7_fillCosts_51 : decode cX7_fillCosts 51 = .ok (.iload_n 3, 1) := by decide +kernel
theorem dX7_fillCosts_52 : decode cX7_fillCosts 52 = .ok (.invokevirtual 95, 3) := by decide +kernel
theorem dX7_fillCosts_55 : decode cX7_fillCosts 55 = .ok (.ifCond .eq 13, 3) := by decide +kernel
theorem dX7_fillCosts_58 : decode cX7_fillCosts 58 = .ok (.aload_n 0, 1) := by decide +kernel
theorem dX7_fillCosts_59 : decode cX7_fillCosts 59 = .ok (.iload_n 1, 1) := by decide +kernel
theorem dX7_fillCosts_60 : decode cX7_fillCosts 60 = .ok (.iload_n 2, 1) := by decide +kernel
theorem dX7_fillCosts_61 : decode cX7_fillCosts 61 = .ok (.iload_n 3, 1) := by decide +kernel
theorem dX7_fillCosts_62 : decode cX7_fillCosts 62 = .ok (.invokevirtual 99, 3) := by decide +kernel
theorem dX7_fillCosts_65 : decode cX7_fillCosts 65 = .ok (.goto 5, 3) := by decide +kernel
theorem dX7_fillCosts_68 : decode cX7_fillCosts 68 = .ok (.ldc 102, 2) := by decide +kernel
theorem dX7_fillCosts_70 : decode cX7_fillCosts 70 = .ok (.iastore, 1) := by decide +kernel
theorem dX7_fillCosts_71 : decode cX7_fillCosts 71 = .ok (.iinc 3 1, 3) := by decide +kernel
theorem dX7_fillCosts_74 : decode cX7_fillCosts 74 = .ok (.goto (-49), 3) := by decide +kernel
theorem dX7_fillCosts_77 : decode cX7_fillCosts 77 = .ok (.iinc 2 1, 3) := by decide +kernel
theorem dX7_fillCosts_80 : decode cX7_fillCosts 80 = .ok (.goto (-70), 3) := by decide +kernel
theorem dX7_fillCosts_83 : decode cX7_fillCosts 83 = .ok (.iinc 1 1, 3) := by decide +kernel
theorem dX7_fillCosts_86 : decode cX7_fillCosts 86 = .ok (.goto (-84), 3) := by decide +kernel
theorem dX7_fillCosts_89 : decode cX7_fillCosts 89 = .ok (.return_, 1) := by decide +kernel
theorem dX7_mayStand_0 : decode cX7_mayStand 0 = .ok (.aload_n 0, 1) := by decide +kernel
theorem dX7_mayStand_1 : decode cX7_mayStand 1 = .ok (.getfield 46, 3) := by decide +kernel
theorem dX7_mayStand_4 : decode cX7_mayStand 4 = .ok (.iconst 0, 1) := by decide +kernel
theorem dX7_mayStand_5 : decode cX7_mayStand 5 = .ok (.aaload, 1) := by decide +kernel
theorem dX7_mayStand_6 : decode cX7_mayStand 6 = .ok (.iload_n 2, 1) := by decide +kernel
theorem dX7_mayStand_7 : decode cX7_mayStand 7 = .ok (.getstatic 103, 3) := by decide +kernel
theorem dX7_mayStand_10 : decode cX7_mayStand 10 = .ok (.iload_n 1, 1) := by decide +kernel
theorem dX7_mayStand_11 : decode cX7_mayStand 11 = .ok (.iaload, 1) := by decide +kernel
theorem dX7_mayStand_12 : decode cX7_mayStand 12 = .ok (.invokevirtual 106, 3) := by decide +kernel
theorem dX7_mayStand_15 : decode cX7_mayStand 15 = .ok (.ifCond .eq 68, 3) := by decide +kernel
theorem dX7_mayStand_18 : decode cX7_mayStand 18 = .ok (.aload_n 0, 1) := by decide +kernel
theorem dX7_mayStand_19 : decode cX7_mayStand 19 = .ok (.getfield 46, 3) := by decide +kernel
theorem dX7_mayStand_22 : decode cX7_mayStand 22 = .ok (.iconst 1, 1) := by decide +kernel
theorem dX7_mayStand_23 : decode cX7_mayStand 23 = .ok (.aaload, 1) := by decide +kernel
theorem dX7_mayStand_24 : decode cX7_mayStand 24 = .ok (.iload_n 3, 1) := by decide +kernel
theorem dX7_mayStand_25 : decode cX7_mayStand 25 = .ok (.getstatic 110, 3) := by decide +kernel
theorem dX7_mayStand_28 : decode cX7_mayStand 28 = .ok (.iload_n 1, 1) := by decide +kernel
theorem dX7_mayStand_29 : decode cX7_mayStand 29 = .ok (.iaload, 1) := by decide +kernel
theorem dX7_mayStand_30 : decode cX7_mayStand 30 = .ok (.invokevirtual 106, 3) := by decide +kernel
theorem dX7_mayStand_33 : decode cX7_mayStand 33 = .ok (.ifCond .eq 50, 3) := by decide +kernel
theorem dX7_mayStand_36 : decode cX7_mayStand 36 = .ok (.aload_n 0, 1) := by decide +kernel
theorem dX7_mayStand_37 : decode cX7_mayStand 37 = .ok (.getfield 50, 3) := by decide +kernel
theorem dX7_mayStand_40 : decode cX7_mayStand 40 = .ok (.iload_n 1, 1) := by decide +kernel
theorem dX7_mayStand_41 : decode cX7_mayStand 41 = .ok (.iload_n 2, 1) := by decide +kernel
theorem dX7_mayStand_42 : decode cX7_mayStand 42 = .ok (.iload_n 3, 1) := by decide +kernel
theorem dX7_mayStand_43 : decode cX7_mayStand 43 = .ok (.invokevirtual 113, 3) := by decide +kernel
theorem dX7_mayStand_46 : decode cX7_mayStand 46 = .ok (.ifCond .eq 37, 3) := by decide +kernel
theorem dX7_mayStand_49 : decode cX7_mayStand 49 = .ok (.aload_n 0, 1) := by decide +kernel
theorem dX7_mayStand_50 : decode cX7_mayStand 50 = .ok (.getfield 118, 3) := by decide +kernel
theorem dX7_mayStand_53 : decode cX7_mayStand 53 = .ok (.ifCond .eq 26, 3) := by decide +kernel
theorem dX7_mayStand_56 : decode cX7_mayStand 56 = .ok (.aload_n 0, 1) := by decide +kernel
theorem dX7_mayStand_57 : decode cX7_mayStand 57 = .ok (.iload_n 2, 1) := by decide +kernel
theorem dX7_mayStand_58 : decode cX7_mayStand 58 = .ok (.iload_n 3, 1) := by decide +kernel
theorem dX7_mayStand_59 : decode cX7_mayStand 59 = .ok (.iload_n 2, 1) := by decide +kernel
theorem dX7_mayStand_60 : decode cX7_mayStand 60 = .ok (.getstatic 103, 3) := by decide +kernel
theorem dX7_mayStand_63 : decode cX7_mayStand 63 = .ok (.iload_n 1, 1) := by decide +kernel
theorem dX7_mayStand_64 : decode cX7_mayStand 64 = .ok (.iaload, 1) := by decide +kernel
theorem dX7_mayStand_65 : decode cX7_mayStand 65 = .ok (.iadd, 1) := by decide +kernel
theorem dX7_mayStand_66 : decode cX7_mayStand 66 = .ok (.iload_n 3, 1) := by decide +kernel
theorem dX7_mayStand_67 : decode cX7_mayStand 67 = .ok (.getstatic 110, 3) := by decide +kernel
theorem dX7_mayStand_70 : decode cX7_mayStand 70 = .ok (.iload_n 1, 1) := by decide +kernel
theorem dX7_mayStand_71 : decode cX7_mayStand 71 = .ok (.iaload, 1) := by decide +kernel
theorem dX7_mayStand_72 : decode cX7_mayStand 72 = .ok (.iadd, 1) := by decide +kernel
theorem dX7_mayStand_73 : decode cX7_mayStand 73 = .ok (.invokevirtual 122, 3) := by decide +kernel
theorem dX7_mayStand_76 : decode cX7_mayStand 76 = .ok (.ifCond .eq 7, 3) := by decide +kernel
theorem dX7_mayStand_79 : decode cX7_mayStand 79 = .ok (.iconst 1, 1) := by decide +kernel
theorem dX7_mayStand_80 : decode cX7_mayStand 80 = .ok (.goto 4, 3) := by decide +kernel
theorem dX7_mayStand_83 : decode cX7_mayStand 83 = .ok (.iconst 0, 1) := by decide +kernel
theorem dX7_mayStand_84 : decode cX7_mayStand 84 = .ok (.ireturn, 1) := by decide +kernel
theorem dX7_keepsParagraphs_0 : decode cX7_keepsParagraphs 0 = .ok (.aload_n 0, 1) := by decide +kernel
theorem dX7_keepsParagraphs_1 : decode cX7_keepsParagraphs 1 = .ok (.getfield 46, 3) := by decide +kernel
theorem dX7_keepsParagraphs_4 : decode cX7_keepsParagraphs 4 = .ok (.iconst 0, 1) := by decide +kernel
theorem dX7_keepsParagraphs_5 : decode cX7_keepsParagraphs 5 = .ok (.aaload, 1) := by decide +kernel
theorem dX7_keepsParagraphs_6 : decode cX7_keepsParagraphs 6 = .ok (.getfield 126, 3) := by decide +kernel
theorem dX7_keepsParagraphs_9 : decode cX7_keepsParagraphs 9 = .ok (.aload_n 0, 1) := by decide +kernel
theorem dX7_keepsParagraphs_10 : decode cX7_keepsParagraphs 10 = .ok (.getfield 46, 3) := by decide +kernel
theorem dX7_keepsParagraphs_13 : decode cX7_keepsParagraphs 13 = .ok (.iconst 1, 1) := by decide +kernel
theorem dX7_keepsParagraphs_14 : decode cX7_keepsParagraphs 14 = .ok (.aaload, 1) := by decide +kernel
theorem dX7_keepsParagraphs_15 : decode cX7_keepsParagraphs 15 = .ok (.getfield 126, 3) := by decide +kernel
theorem dX7_keepsParagraphs_18 : decode cX7_keepsParagraphs 18 = .ok (.invokestatic 129, 3) := by decide +kernel
theorem dX7_keepsParagraphs_21 : decode cX7_keepsParagraphs 21 = .ok (.istore 5, 2) := by decide +kernel
theorem dX7_keepsParagraphs_23 : decode cX7_keepsParagraphs 23 = .ok (.iconst 0, 1) := by decide +kernel
theorem dX7_keepsParagraphs_24 : decode cX7_keepsParagraphs 24 = .ok (.istore 6, 2) := by decide +kernel
theorem dX7_keepsParagraphs_26 : decode cX7_keepsParagraphs 26 = .ok (.iload 6, 2) := by decide +kernel
theorem dX7_keepsParagraphs_28 : decode cX7_keepsParagraphs 28 = .ok (.iload 5, 2) := by decide +kernel
theorem dX7_keepsParagraphs_30 : decode cX7_keepsParagraphs 30 = .ok (.if_icmp .ge 88, 3) := by decide +kernel
theorem dX7_keepsParagraphs_33 : decode cX7_keepsParagraphs 33 = .ok (.aload_n 0, 1) := by decide +kernel
theorem dX7_keepsParagraphs_34 : decode cX7_keepsParagraphs 34 = .ok (.getfield 46, 3) := by decide +kernel
theorem dX7_keepsParagraphs_37 : decode cX7_keepsParagraphs 37 = .ok (.iconst 0, 1) := by decide +kernel
theorem dX7_keepsParagraphs_38 : decode cX7_keepsParagraphs 38 = .ok (.aaload, 1) := by decide +kernel
theorem dX7_keepsParagraphs_39 : decode cX7_keepsParagraphs 39 = .ok (.getfield 134, 3) := by decide +kernel
theorem dX7_keepsParagraphs_42 : decode cX7_keepsParagraphs 42 = .ok (.iload 6, 2) := by decide +kernel
theorem dX7_keepsParagraphs_44 : decode cX7_keepsParagraphs 44 = .ok (.iaload, 1) := by decide +kernel
theorem dX7_keepsParagraphs_45 : decode cX7_keepsParagraphs 45 = .ok (.istore 7, 2) := by decide +kernel
theorem dX7_keepsParagraphs_47 : decode cX7_keepsParagraphs 47 = .ok (.aload_n 0, 1) := by decide +kernel
theorem dX7_keepsParagraphs_48 : decode cX7_keepsParagraphs 48 = .ok (.getfield 46, 3) := by decide +kernel
theorem dX7_keepsParagraphs_51 : decode cX7_keepsParagraphs 51 = .ok (.iconst 1, 1) := by decide +kernel
theorem dX7_keepsParagraphs_52 : decode cX7_keepsParagraphs 52 = .ok (.aaload, 1) := by decide +kernel
theorem dX7_keepsParagraphs_53 : decode cX7_keepsParagraphs 53 = .ok (.getfield 134, 3) := by decide +kernel
theorem dX7_keepsParagraphs_56 : decode cX7_keepsParagraphs 56 = .ok (.iload 6, 2) := by decide +kernel
theorem dX7_keepsParagraphs_58 : decode cX7_keepsParagraphs 58 = .ok (.iaload, 1) := by decide +kernel
theorem dX7_keepsParagraphs_59 : decode cX7_keepsParagraphs 59 = .ok (.istore 8, 2) := by decide +kernel
theorem dX7_keepsParagraphs_61 : decode cX7_keepsParagraphs 61 = .ok (.iload_n 3, 1) := by decide +kernel
theorem dX7_keepsParagraphs_62 : decode cX7_keepsParagraphs 62 = .ok (.iload 7, 2) := by decide +kernel
theorem dX7_keepsParagraphs_64 : decode cX7_keepsParagraphs 64 = .ok (.if_icmp .gt 14, 3) := by decide +kernel
theorem dX7_keepsParagraphs_67 : decode cX7_keepsParagraphs 67 = .ok (.iload 4, 2) := by decide +kernel
theorem dX7_keepsParagraphs_69 : decode cX7_keepsParagraphs 69 = .ok (.iload 8, 2) := by decide +kernel
theorem dX7_keepsParagraphs_71 : decode cX7_keepsParagraphs 71 = .ok (.if_icmp .gt 7, 3) := by decide +kernel
theorem dX7_keepsParagraphs_74 : decode cX7_keepsParagraphs 74 = .ok (.iconst 1, 1) := by decide +kernel
theorem dX7_keepsParagraphs_75 : decode cX7_keepsParagraphs 75 = .ok (.goto 4, 3) := by decide +kernel
theorem dX7_keepsParagraphs_78 : decode cX7_keepsParagraphs 78 = .ok (.iconst 0, 1) := by decide +kernel
theorem dX7_keepsParagraphs_79 : decode cX7_keepsParagraphs 79 = .ok (.istore 9, 2) := by decide +kernel
theorem dX7_keepsParagraphs_81 : decode cX7_keepsParagraphs 81 = .ok (.iload_n 1, 1) := by decide +kernel
theorem dX7_keepsParagraphs_82 : decode cX7_keepsParagraphs 82 = .ok (.iload 7, 2) := by decide +kernel
theorem dX7_keepsParagraphs_84 : decode cX7_keepsParagraphs 84 = .ok (.if_icmp .lt 13, 3) := by decide +kernel
theorem dX7_keepsParagraphs_87 : decode cX7_keepsParagraphs 87 = .ok (.iload_n 2, 1) := by decide +kernel
theorem dX7_keepsParagraphs_88 : decode cX7_keepsParagraphs 88 = .ok (.iload 8, 2) := by decide +kernel
theorem dX7_keepsParagraphs_90 : decode cX7_keepsParagraphs 90 = .ok (.if_icmp .lt 7, 3) := by decide +kernel
theorem dX7_keepsParagraphs_93 : decode cX7_keepsParagraphs 93 = .ok (.iconst 1, 1) := by decide +kernel
theorem dX7_keepsParagraphs_94 : decode cX7_keepsParagraphs 94 = .ok (.goto 4, 3) := by decide +kernel
theorem dX7_keepsParagraphs_97 : decode cX7_keepsParagraphs 97 = .ok (.iconst 0, 1) := by decide +kernel
theorem dX7_keepsParagraphs_98 : decode cX7_keepsParagraphs 98 = .ok (.istore 10, 2) := by decide +kernel
theorem dX7_keepsParagraphs_100 : decode cX7_keepsParagraphs 100 = .ok (.iload 9, 2) := by decide +kernel
theorem dX7_keepsParagraphs_102 : decode cX7_keepsParagraphs 102 = .ok (.ifCond .ne 10, 3) := by decide +kernel
theorem dX7_keepsParagraphs_105 : decode cX7_keepsParagraphs 105 = .ok (.iload 10, 2) := by decide +kernel
theorem dX7_keepsParagraphs_107 : decode cX7_keepsParagraphs 107 = .ok (.ifCond .ne 5, 3) := by decide +kernel
theorem dX7_keepsParagraphs_110 : decode cX7_keepsParagraphs 110 = .ok (.iconst 0, 1) := by decide +kernel
theorem dX7_keepsParagraphs_111 : decode cX7_keepsParagraphs 111 = .ok (.ireturn, 1) := by decide +kernel
theorem dX7_keepsParagraphs_112 : decode cX7_keepsParagraphs 112 = .ok (.iinc 6 1, 3) := by decide +kernel
theorem dX7_keepsParagraphs_115 : decode cX7_keepsParagraphs 115 = .ok (.goto (-89), 3) := by decide +kernel
theorem dX7_keepsParagraphs_118 : decode cX7_keepsParagraphs 118 = .ok (.iconst 1, 1) := by decide +kernel
theorem dX7_keepsParagraphs_119 : decode cX7_keepsParagraphs 119 = .ok (.ireturn, 1) := by decide +kernel
theorem dX7_priceAt_0 : decode cX7_priceAt 0 = .ok (.getstatic 137, 3) := by decide +kernel
theorem dX7_priceAt_3 : decode cX7_priceAt 3 = .ok (.iload_n 1, 1) := by decide +kernel
theorem dX7_priceAt_4 : decode cX7_priceAt 4 = .ok (.iaload, 1) := by decide +kernel
theorem dX7_priceAt_5 : decode cX7_priceAt 5 = .ok (.istore 4, 2) := by decide +kernel
theorem dX7_priceAt_7 : decode cX7_priceAt 7 = .ok (.iload_n 1, 1) := by decide +kernel
theorem dX7_priceAt_8 : decode cX7_priceAt 8 = .ok (.invokestatic 140, 3) := by decide +kernel
theorem dX7_priceAt_11 : decode cX7_priceAt 11 = .ok (.ifCond .ne 6, 3) := by decide +kernel
theorem dX7_priceAt_14 : decode cX7_priceAt 14 = .ok (.iload 4, 2) := by decide +kernel
theorem dX7_priceAt_16 : decode cX7_priceAt 16 = .ok (.ireturn, 1) := by decide +kernel
theorem dX7_priceAt_17 : decode cX7_priceAt 17 = .ok (.iload_n 1, 1) := by decide +kernel
theorem dX7_priceAt_18 : decode cX7_priceAt 18 = .ok (.bipush 6, 2) := by decide +kernel
theorem dX7_priceAt_20 : decode cX7_priceAt 20 = .ok (.if_icmp .ne 61, 3) := by decide +kernel
theorem dX7_priceAt_23 : decode cX7_priceAt 23 = .ok (.iload 4, 2) := by decide +kernel
theorem dX7_priceAt_25 : decode cX7_priceAt 25 = .ok (.aload_n 0, 1) := by decide +kernel
theorem dX7_priceAt_26 : decode cX7_priceAt 26 = .ok (.iload_n 2, 1) := by decide +kernel
theorem dX7_priceAt_27 : decode cX7_priceAt 27 = .ok (.iconst 1, 1) := by decide +kernel
theorem dX7_priceAt_28 : decode cX7_priceAt 28 = .ok (.iload_n 3, 1) := by decide +kernel
theorem dX7_priceAt_29 : decode cX7_priceAt 29 = .ok (.iconst 1, 1) := by decide +kernel
theorem dX7_priceAt_30 : decode cX7_priceAt 30 = .ok (.iadd, 1) := by decide +kernel
theorem dX7_priceAt_31 : decode cX7_priceAt 31 = .ok (.iconst 1, 1) := by decide +kernel
theorem dX7_priceAt_32 : decode cX7_priceAt 32 = .ok (.invokevirtual 144, 3) := by decide +kernel
theorem dX7_priceAt_35 : decode cX7_priceAt 35 = .ok (.aload_n 0, 1) := by decide +kernel
theorem dX7_priceAt_36 : decode cX7_priceAt 36 = .ok (.iload_n 2, 1) := by decide +kernel
theorem dX7_priceAt_37 : decode cX7_priceAt 37 = .ok (.iconst 1, 1) := by decide +kernel
theorem dX7_priceAt_38 : decode cX7_priceAt 38 = .ok (.iadd, 1) := by decide +kernel
theorem dX7_priceAt_39 : decode cX7_priceAt 39 = .ok (.iconst 1, 1) := by decide +kernel
theorem dX7_priceAt_40 : decode cX7_priceAt 40 = .ok (.iload_n 3, 1) := by decide +kernel
theorem dX7_priceAt_41 : decode cX7_priceAt 41 = .ok (.iconst 1, 1) := by decide +kernel
theorem dX7_priceAt_42 : decode cX7_priceAt 42 = .ok (.invokevirtual 144, 3) := by decide +kernel
theorem dX7_priceAt_45 : decode cX7_priceAt 45 = .ok (.iadd, 1) := by decide +kernel
theorem dX7_priceAt_46 : decode cX7_priceAt 46 = .ok (.iadd, 1) := by decide +kernel
theorem dX7_priceAt_47 : decode cX7_priceAt 47 = .ok (.istore 4, 2) := by decide +kernel
theorem dX7_priceAt_49 : decode cX7_priceAt 49 = .ok (.aload_n 0, 1) := by decide +kernel
theorem dX7_priceAt_50 : decode cX7_priceAt 50 = .ok (.iload_n 2, 1) := by decide +kernel
theorem dX7_priceAt_51 : decode cX7_priceAt 51 = .ok (.aload_n 0, 1) := by decide +kernel
theorem dX7_priceAt_52 : decode cX7_priceAt 52 = .ok (.getfield 22, 3) := by decide +kernel
theorem dX7_priceAt_55 : decode cX7_priceAt 55 = .ok (.iload_n 3, 1) := by decide +kernel
theorem dX7_priceAt_56 : decode cX7_priceAt 56 = .ok (.iconst 1, 1) := by decide +kernel
theorem dX7_priceAt_57 : decode cX7_priceAt 57 = .ok (.iadd, 1) := by decide +kernel
theorem dX7_priceAt_58 : decode cX7_priceAt 58 = .ok (.laload, 1) := by decide +kernel
theorem dX7_priceAt_59 : decode cX7_priceAt 59 = .ok (.invokevirtual 148, 3) := by decide +kernel
theorem dX7_priceAt_62 : decode cX7_priceAt 62 = .ok (.aload_n 0, 1) := by decide +kernel
theorem dX7_priceAt_63 : decode cX7_priceAt 63 = .ok (.iload_n 2, 1) := by decide +kernel
theorem dX7_priceAt_64 : decode cX7_priceAt 64 = .ok (.iconst 1, 1) := by decide +kernel
theorem dX7_priceAt_65 : decode cX7_priceAt 65 = .ok (.iadd, 1) := by decide +kernel
theorem dX7_priceAt_66 : decode cX7_priceAt 66 = .ok (.aload_n 0, 1) := by decide +kernel
theorem dX7_priceAt_67 : decode cX7_priceAt 67 = .ok (.getfield 22, 3) := by decide +kernel
theorem dX7_priceAt_70 : decode cX7_priceAt 70 = .ok (.iload_n 3, 1) := by decide +kernel
theorem dX7_priceAt_71 : decode cX7_priceAt 71 = .ok (.laload, 1) := by decide +kernel
theorem dX7_priceAt_72 : decode cX7_priceAt 72 = .ok (.invokevirtual 148, 3) := by decide +kernel
theorem dX7_priceAt_75 : decode cX7_priceAt 75 = .ok (.iadd, 1) := by decide +kernel
theorem dX7_priceAt_76 : decode cX7_priceAt 76 = .ok (.istore 5, 2) := by decide +kernel
theorem dX7_priceAt_78 : decode cX7_priceAt 78 = .ok (.goto 33, 3) := by decide +kernel
theorem dX7_priceAt_81 : decode cX7_priceAt 81 = .ok (.iload 4, 2) := by decide +kernel
theorem dX7_priceAt_83 : decode cX7_priceAt 83 = .ok (.aload_n 0, 1) := by decide +kernel
theorem dX7_priceAt_84 : decode cX7_priceAt 84 = .ok (.iload_n 2, 1) := by decide +kernel
theorem dX7_priceAt_85 : decode cX7_priceAt 85 = .ok (.getstatic 103, 3) := by decide +kernel
theorem dX7_priceAt_88 : decode cX7_priceAt 88 = .ok (.iload_n 1, 1) := by decide +kernel
theorem dX7_priceAt_89 : decode cX7_priceAt 89 = .ok (.iaload, 1) := by decide +kernel
theorem dX7_priceAt_90 : decode cX7_priceAt 90 = .ok (.iload_n 3, 1) := by decide +kernel
theorem dX7_priceAt_91 : decode cX7_priceAt 91 = .ok (.getstatic 110, 3) := by decide +kernel
theorem dX7_priceAt_94 : decode cX7_priceAt 94 = .ok (.iload_n 1, 1) := by decide +kernel
theorem dX7_priceAt_95 : decode cX7_priceAt 95 = .ok (.iaload, 1) := by decide +kernel
theorem dX7_priceAt_96 : decode cX7_priceAt 96 = .ok (.invokevirtual 144, 3) := by decide +kernel
theorem dX7_priceAt_99 : decode cX7_priceAt 99 = .ok (.iadd, 1) := by decide +kernel
theorem dX7_priceAt_100 : decode cX7_priceAt 100 = .ok (.istore 4, 2) := by decide +kernel
theorem dX7_priceAt_102 : decode cX7_priceAt 102 = .ok (.aload_n 0, 1) := by decide +kernel
theorem dX7_priceAt_103 : decode cX7_priceAt 103 = .ok (.iload_n 1, 1) := by decide +kernel
theorem dX7_priceAt_104 : decode cX7_priceAt 104 = .ok (.iload_n 2, 1) := by decide +kernel
theorem dX7_priceAt_105 : decode cX7_priceAt 105 = .ok (.iload_n 3, 1) := by decide +kernel
theorem dX7_priceAt_106 : decode cX7_priceAt 106 = .ok (.invokevirtual 152, 3) := by decide +kernel
theorem dX7_priceAt_109 : decode cX7_priceAt 109 = .ok (.istore 5, 2) := by decide +kernel
theorem dX7_priceAt_111 : decode cX7_priceAt 111 = .ok (.iload 4, 2) := by decide +kernel
theorem dX7_priceAt_113 : decode cX7_priceAt 113 = .ok (.bipush 15, 2) := by decide +kernel
theorem dX7_priceAt_115 : decode cX7_priceAt 115 = .ok (.iload 5, 2) := by decide +kernel
theorem dX7_priceAt_117 : decode cX7_priceAt 117 = .ok (.bipush 6, 2) := by decide +kernel
theorem dX7_priceAt_119 : decode cX7_priceAt 119 = .ok (.invokestatic 129, 3) := by decide +kernel
theorem dX7_priceAt_122 : decode cX7_priceAt 122 = .ok (.imul, 1) := by decide +kernel
theorem dX7_priceAt_123 : decode cX7_priceAt 123 = .ok (.isub, 1) := by decide +kernel
theorem dX7_priceAt_124 : decode cX7_priceAt 124 = .ok (.ireturn, 1) := by decide +kernel
theorem dX7_stretch_0 : decode cX7_stretch 0 = .ok (.aload_n 0, 1) := by decide +kernel
theorem dX7_stretch_1 : decode cX7_stretch 1 = .ok (.getfield 11, 3) := by decide +kernel
theorem dX7_stretch_4 : decode cX7_stretch 4 = .ok (.iload_n 1, 1) := by decide +kernel
theorem dX7_stretch_5 : decode cX7_stretch 5 = .ok (.iload_n 2, 1) := by decide +kernel
theorem dX7_stretch_6 : decode cX7_stretch 6 = .ok (.iadd, 1) := by decide +kernel
theorem dX7_stretch_7 : decode cX7_stretch 7 = .ok (.iaload, 1) := by decide +kernel
theorem dX7_stretch_8 : decode cX7_stretch 8 = .ok (.aload_n 0, 1) := by decide +kernel
theorem dX7_stretch_9 : decode cX7_stretch 9 = .ok (.getfield 11, 3) := by decide +kernel
theorem dX7_stretch_12 : decode cX7_stretch 12 = .ok (.iload_n 1, 1) := by decide +kernel
theorem dX7_stretch_13 : decode cX7_stretch 13 = .ok (.iaload, 1) := by decide +kernel
theorem dX7_stretch_14 : decode cX7_stretch 14 = .ok (.isub, 1) := by decide +kernel
theorem dX7_stretch_15 : decode cX7_stretch 15 = .ok (.aload_n 0, 1) := by decide +kernel
theorem dX7_stretch_16 : decode cX7_stretch 16 = .ok (.getfield 15, 3) := by decide +kernel
theorem dX7_stretch_19 : decode cX7_stretch 19 = .ok (.aload_n 0, 1) := by decide +kernel
theorem dX7_stretch_20 : decode cX7_stretch 20 = .ok (.getfield 46, 3) := by decide +kernel
theorem dX7_stretch_23 : decode cX7_stretch 23 = .ok (.iconst 1, 1) := by decide +kernel
theorem dX7_stretch_24 : decode cX7_stretch 24 = .ok (.aaload, 1) := by decide +kernel
theorem dX7_stretch_25 : decode cX7_stretch 25 = .ok (.getfield 80, 3) := by decide +kernel
theorem dX7_stretch_28 : decode cX7_stretch 28 = .ok (.iaload, 1) := by decide +kernel
theorem dX7_stretch_29 : decode cX7_stretch 29 = .ok (.imul, 1) := by decide +kernel
theorem dX7_stretch_30 : decode cX7_stretch 30 = .ok (.istore 5, 2) := by decide +kernel
theorem dX7_stretch_32 : decode cX7_stretch 32 = .ok (.aload_n 0, 1) := by decide +kernel
theorem dX7_stretch_33 : decode cX7_stretch 33 = .ok (.getfield 15, 3) := by decide +kernel
theorem dX7_stretch_36 : decode cX7_stretch 36 = .ok (.iload_n 3, 1) := by decide +kernel
theorem dX7_stretch_37 : decode cX7_stretch 37 = .ok (.iload 4, 2) := by decide +kernel
theorem dX7_stretch_39 : decode cX7_stretch 39 = .ok (.iadd, 1) := by decide +kernel
theorem dX7_stretch_40 : decode cX7_stretch 40 = .ok (.iaload, 1) := by decide +kernel
theorem dX7_stretch_41 : decode cX7_stretch 41 = .ok (.aload_n 0, 1) := by decide +kernel
theorem dX7_stretch_42 : decode cX7_stretch 42 = .ok (.getfield 15, 3) := by decide +kernel
theorem dX7_stretch_45 : decode cX7_stretch 45 = .ok (.iload_n 3, 1) := by decide +kernel
theorem dX7_stretch_46 : decode cX7_stretch 46 = .ok (.iaload, 1) := by decide +kernel
theorem dX7_stretch_47 : decode cX7_stretch 47 = .ok (.isub, 1) := by decide +kernel
theorem dX7_stretch_48 : decode cX7_stretch 48 = .ok (.aload_n 0, 1) := by decide +kernel
theorem dX7_stretch_49 : decode cX7_stretch 49 = .ok (.getfield 11, 3) := by decide +kernel
theorem dX7_stretch_52 : decode cX7_stretch 52 = .ok (.aload_n 0, 1) := by decide +kernel
theorem dX7_stretch_53 : decode cX7_stretch 53 = .ok (.getfield 46, 3) := by decide +kernel
theorem dX7_stretch_56 : decode cX7_stretch 56 = .ok (.iconst 0, 1) := by decide +kernel
theorem dX7_stretch_57 : decode cX7_stretch 57 = .ok (.aaload, 1) := by decide +kernel
theorem dX7_stretch_58 : decode cX7_stretch 58 = .ok (.getfield 80, 3) := by decide +kernel
theorem dX7_stretch_61 : decode cX7_stretch 61 = .ok (.iaload, 1) := by decide +kernel
theorem dX7_stretch_62 : decode cX7_stretch 62 = .ok (.imul, 1) := by decide +kernel
theorem dX7_stretch_63 : decode cX7_stretch 63 = .ok (.istore 6, 2) := by decide +kernel
theorem dX7_stretch_65 : decode cX7_stretch 65 = .ok (.iload 5, 2) := by decide +kernel
theorem dX7_stretch_67 : decode cX7_stretch 67 = .ok (.iload 6, 2) := by decide +kernel
theorem dX7_stretch_69 : decode cX7_stretch 69 = .ok (.iadd, 1) := by decide +kernel
theorem dX7_stretch_70 : decode cX7_stretch 70 = .ok (.istore 7, 2) := by decide +kernel
theorem dX7_stretch_72 : decode cX7_stretch 72 = .ok (.iload 7, 2) := by decide +kernel
theorem dX7_stretch_74 : decode cX7_stretch 74 = .ok (.ifCond .gt 5, 3) := by decide +kernel
theorem dX7_stretch_77 : decode cX7_stretch 77 = .ok (.iconst 0, 1) := by decide +kernel
theorem dX7_stretch_78 : decode cX7_stretch 78 = .ok (.ireturn, 1) := by decide +kernel
theorem dX7_stretch_79 : decode cX7_stretch 79 = .ok (.iload 5, 2) := by decide +kernel
theorem dX7_stretch_81 : decode cX7_stretch 81 = .ok (.iload 6, 2) := by decide +kernel
theorem dX7_stretch_83 : decode cX7_stretch 83 = .ok (.isub, 1) := by decide +kernel
theorem dX7_stretch_84 : decode cX7_stretch 84 = .ok (.invokestatic 155, 3) := by decide +kernel
theorem dX7_stretch_87 : decode cX7_stretch 87 = .ok (.bipush 20, 2) := by decide +kernel
theorem dX7_stretch_89 : decode cX7_stretch 89 = .ok (.imul, 1) := by decide +kernel
theorem dX7_stretch_90 : decode cX7_stretch 90 = .ok (.iload 7, 2) := by decide +kernel
theorem dX7_stretch_92 : decode cX7_stretch 92 = .ok (.idiv, 1) := by decide +kernel
theorem dX7_stretch_93 : decode cX7_stretch 93 = .ok (.istore 8, 2) := by decide +kernel
theorem dX7_stretch_95 : decode cX7_stretch 95 = .ok (.iload 8, 2) := by decide +kernel
theorem dX7_stretch_97 : decode cX7_stretch 97 = .ok (.iload 8, 2) := by decide +kernel
theorem dX7_stretch_99 : decode cX7_stretch 99 = .ok (.imul, 1) := by decide +kernel
theorem dX7_stretch_100 : decode cX7_stretch 100 = .ok (.ireturn, 1) := by decide +kernel
theorem dX7_friendsOf_0 : decode cX7_friendsOf 0 = .ok (.lconst 0, 1) := by decide +kernel
theorem dX7_friendsOf_1 : decode cX7_friendsOf 1 = .ok (.lstore 4, 2) := by decide +kernel
theorem dX7_friendsOf_3 : decode cX7_friendsOf 3 = .ok (.iload_n 3, 1) := by decide +kernel
theorem dX7_friendsOf_4 : decode cX7_friendsOf 4 = .ok (.istore 6, 2) := by decide +kernel
theorem dX7_friendsOf_6 : decode cX7_friendsOf 6 = .ok (.iload 6, 2) := by decide +kernel
theorem dX7_friendsOf_8 : decode cX7_friendsOf 8 = .ok (.iload_n 3, 1) := by decide +kernel
theorem dX7_friendsOf_9 : decode cX7_friendsOf 9 = .ok (.getstatic 110, 3) := by decide +kernel
theorem dX7_friendsOf_12 : decode cX7_friendsOf 12 = .ok (.iload_n 1, 1) := by decide +kernel
theorem dX7_friendsOf_13 : decode cX7_friendsOf 13 = .ok (.iaload, 1) := by decide +kernel
theorem dX7_friendsOf_14 : decode cX7_friendsOf 14 = .ok (.iadd, 1) := by decide +kernel
theorem dX7_friendsOf_15 : decode cX7_friendsOf 15 = .ok (.if_icmp .ge 21, 3) := by decide +kernel
theorem dX7_friendsOf_18 : decode cX7_friendsOf 18 = .ok (.lload 4, 2) := by decide +kernel
theorem dX7_friendsOf_20 : decode cX7_friendsOf 20 = .ok (.aload_n 0, 1) := by decide +kernel
theorem dX7_friendsOf_21 : decode cX7_friendsOf 21 = .ok (.getfield 22, 3) := by decide +kernel
theorem dX7_friendsOf_24 : decode cX7_friendsOf 24 = .ok (.iload 6, 2) := by decide +kernel
theorem dX7_friendsOf_26 : decode cX7_friendsOf 26 = .ok (.laload, 1) := by decide +kernel
theorem dX7_friendsOf_27 : decode cX7_friendsOf 27 = .ok (.lor, 1) := by decide +kernel
theorem dX7_friendsOf_28 : decode cX7_friendsOf 28 = .ok (.lstore 4, 2) := by decide +kernel
theorem dX7_friendsOf_30 : decode cX7_friendsOf 30 = .ok (.iinc 6 1, 3) := by decide +kernel
theorem dX7_friendsOf_33 : decode cX7_friendsOf 33 = .ok (.goto (-27), 3) := by decide +kernel
theorem dX7_friendsOf_36 : decode cX7_friendsOf 36 = .ok (.iconst 0, 1) := by decide +kernel
theorem dX7_friendsOf_37 : decode cX7_friendsOf 37 = .ok (.istore 6, 2) := by decide +kernel
theorem dX7_friendsOf_39 : decode cX7_friendsOf 39 = .ok (.iload_n 2, 1) := by decide +kernel
theorem dX7_friendsOf_40 : decode cX7_friendsOf 40 = .ok (.istore 7, 2) := by decide +kernel
theorem dX7_friendsOf_42 : decode cX7_friendsOf 42 = .ok (.iload 7, 2) := by decide +kernel
theorem dX7_friendsOf_44 : decode cX7_friendsOf 44 = .ok (.iload_n 2, 1) := by decide +kernel
theorem dX7_friendsOf_45 : decode cX7_friendsOf 45 = .ok (.getstatic 103, 3) := by decide +kernel
theorem dX7_friendsOf_48 : decode cX7_friendsOf 48 = .ok (.iload_n 1, 1) := by decide +kernel
theorem dX7_friendsOf_49 : decode cX7_friendsOf 49 = .ok (.iaload, 1) := by decide +kernel
theorem dX7_friendsOf_50 : decode cX7_friendsOf 50 = .ok (.iadd, 1) := by decide +kernel
theorem dX7_friendsOf_51 : decode cX7_friendsOf 51 = .ok (.if_icmp .ge 22, 3) := by decide +kernel
theorem dX7_friendsOf_54 : decode cX7_friendsOf 54 = .ok (.iload 6, 2) := by decide +kernel
theorem dX7_friendsOf_56 : decode cX7_friendsOf 56 = .ok (.aload_n 0, 1) := by decide +kernel
theorem dX7_friendsOf_57 : decode cX7_friendsOf 57 = .ok (.iload 7, 2) := by decide +kernel
theorem dX7_friendsOf_59 : decode cX7_friendsOf 59 = .ok (.lload 4, 2) := by decide +kernel
theorem dX7_friendsOf_61 : decode cX7_friendsOf 61 = .ok (.invokevirtual 148, 3) := by decide +kernel
theorem dX7_friendsOf_64 : decode cX7_friendsOf 64 = .ok (.iadd, 1) := by decide +kernel
theorem dX7_friendsOf_65 : decode cX7_friendsOf 65 = .ok (.istore 6, 2) := by decide +kernel
theorem dX7_friendsOf_67 : decode cX7_friendsOf 67 = .ok (.iinc 7 1, 3) := by decide +kernel
theorem dX7_friendsOf_70 : decode cX7_friendsOf 70 = .ok (.goto (-28), 3) := by decide +kernel
theorem dX7_friendsOf_73 : decode cX7_friendsOf 73 = .ok (.iload 6, 2) := by decide +kernel
theorem dX7_friendsOf_75 : decode cX7_friendsOf 75 = .ok (.ireturn, 1) := by decide +kernel
theorem dX7_countFriends_0 : decode cX7_countFriends 0 = .ok (.iconst 0, 1) := by decide +kernel
theorem dX7_countFriends_1 : decode cX7_countFriends 1 = .ok (.istore 4, 2) := by decide +kernel
theorem dX7_countFriends_3 : decode cX7_countFriends 3 = .ok (.iconst 0, 1) := by decide +kernel
theorem dX7_countFriends_4 : decode cX7_countFriends 4 = .ok (.istore 5, 2) := by decide +kernel
theorem dX7_countFriends_6 : decode cX7_countFriends 6 = .ok (.iload 5, 2) := by decide +kernel
theorem dX7_countFriends_8 : decode cX7_countFriends 8 = .ok (.aload_n 0, 1) := by decide +kernel
theorem dX7_countFriends_9 : decode cX7_countFriends 9 = .ok (.getfield 46, 3) := by decide +kernel
theorem dX7_countFriends_12 : decode cX7_countFriends 12 = .ok (.iconst 0, 1) := by decide +kernel
theorem dX7_countFriends_13 : decode cX7_countFriends 13 = .ok (.aaload, 1) := by decide +kernel
theorem dX7_countFriends_14 : decode cX7_countFriends 14 = .ok (.getfield 158, 3) := by decide +kernel
theorem dX7_countFriends_17 : decode cX7_countFriends 17 = .ok (.iload_n 1, 1) := by decide +kernel
theorem dX7_countFriends_18 : decode cX7_countFriends 18 = .ok (.iaload, 1) := by decide +kernel
theorem dX7_countFriends_19 : decode cX7_countFriends 19 = .ok (.if_icmp .ge 38, 3) := by decide +kernel
theorem dX7_countFriends_22 : decode cX7_countFriends 22 = .ok (.aload_n 0, 1) := by decide +kernel
theorem dX7_countFriends_23 : decode cX7_countFriends 23 = .ok (.getfield 18, 3) := by decide +kernel
theorem dX7_countFriends_26 : decode cX7_countFriends 26 = .ok (.aload_n 0, 1) := by decide +kernel
theorem dX7_countFriends_27 : decode cX7_countFriends 27 = .ok (.getfield 46, 3) := by decide +kernel
theorem dX7_countFriends_30 : decode cX7_countFriends 30 = .ok (.iconst 0, 1) := by decide +kernel
theorem dX7_countFriends_31 : decode cX7_countFriends 31 = .ok (.aaload, 1) := by decide +kernel
theorem dX7_countFriends_32 : decode cX7_countFriends 32 = .ok (.getfield 161, 3) := by decide +kernel
theorem dX7_countFriends_35 : decode cX7_countFriends 35 = .ok (.iload_n 1, 1) := by decide +kernel
theorem dX7_countFriends_36 : decode cX7_countFriends 36 = .ok (.aaload, 1) := by decide +kernel
theorem dX7_countFriends_37 : decode cX7_countFriends 37 = .ok (.iload 5, 2) := by decide +kernel
theorem dX7_countFriends_39 : decode cX7_countFriends 39 = .ok (.iaload, 1) := by decide +kernel
theorem dX7_countFriends_40 : decode cX7_countFriends 40 = .ok (.laload, 1) := by decide +kernel
theorem dX7_countFriends_41 : decode cX7_countFriends 41 = .ok (.lload_n 2, 1) := by decide +kernel
theorem dX7_countFriends_42 : decode cX7_countFriends 42 = .ok (.land, 1) := by decide +kernel
theorem dX7_countFriends_43 : decode cX7_countFriends 43 = .ok (.lconst 0, 1) := by decide +kernel
theorem dX7_countFriends_44 : decode cX7_countFriends 44 = .ok (.lcmp, 1) := by decide +kernel
theorem dX7_countFriends_45 : decode cX7_countFriends 45 = .ok (.ifCond .eq 6, 3) := by decide +kernel
theorem dX7_countFriends_48 : decode cX7_countFriends 48 = .ok (.iinc 4 1, 3) := by decide +kernel
theorem dX7_countFriends_51 : decode cX7_countFriends 51 = .ok (.iinc 5 1, 3) := by decide +kernel
theorem dX7_countFriends_54 : decode cX7_countFriends 54 = .ok (.goto (-48), 3) := by decide +kernel
theorem dX7_countFriends_57 : decode cX7_countFriends 57 = .ok (.iload 4, 2) := by decide +kernel
theorem dX7_countFriends_59 : decode cX7_countFriends 59 = .ok (.ireturn, 1) := by decide +kernel
theorem dX7_fillLeast_0 : decode cX7_fillLeast 0 = .ok (.aload_n 0, 1) := by decide +kernel
theorem dX7_fillLeast_1 : decode cX7_fillLeast 1 = .ok (.getfield 46, 3) := by decide +kernel
theorem dX7_fillLeast_4 : decode cX7_fillLeast 4 = .ok (.iconst 0, 1) := by decide +kernel
theorem dX7_fillLeast_5 : decode cX7_fillLeast 5 = .ok (.aaload, 1) := by decide +kernel
theorem dX7_fillLeast_6 : decode cX7_fillLeast 6 = .ok (.getfield 80, 3) := by decide +kernel
theorem dX7_fillLeast_9 : decode cX7_fillLeast 9 = .ok (.istore_n 3, 1) := by decide +kernel
theorem dX7_fillLeast_10 : decode cX7_fillLeast 10 = .ok (.aload_n 0, 1) := by decide +kernel
theorem dX7_fillLeast_11 : decode cX7_fillLeast 11 = .ok (.getfield 46, 3) := by decide +kernel
theorem dX7_fillLeast_14 : decode cX7_fillLeast 14 = .ok (.iconst 1, 1) := by decide +kernel
theorem dX7_fillLeast_15 : decode cX7_fillLeast 15 = .ok (.aaload, 1) := by decide +kernel
theorem dX7_fillLeast_16 : decode cX7_fillLeast 16 = .ok (.getfield 80, 3) := by decide +kernel
theorem dX7_fillLeast_19 : decode cX7_fillLeast 19 = .ok (.istore 4, 2) := by decide +kernel
theorem dX7_fillLeast_21 : decode cX7_fillLeast 21 = .ok (.iload_n 3, 1) := by decide +kernel
theorem dX7_fillLeast_22 : decode cX7_fillLeast 22 = .ok (.istore 5, 2) := by decide +kernel
theorem dX7_fillLeast_24 : decode cX7_fillLeast 24 = .ok (.iload 5, 2) := by decide +kernel
theorem dX7_fillLeast_26 : decode cX7_fillLeast 26 = .ok (.ifCond .lt 103, 3) := by decide +kernel
theorem dX7_fillLeast_29 : decode cX7_fillLeast 29 = .ok (.iload 4, 2) := by decide +kernel
theorem dX7_fillLeast_31 : decode cX7_fillLeast 31 = .ok (.istore 6, 2) := by decide +kernel
theorem dX7_fillLeast_33 : decode cX7_fillLeast 33 = .ok (.iload 6, 2) := by decide +kernel
theorem dX7_fillLeast_35 : decode cX7_fillLeast 35 = .ok (.ifCond .lt 88, 3) := by decide +kernel
theorem dX7_fillLeast_38 : decode cX7_fillLeast 38 = .ok (.iload 5, 2) := by decide +kernel
theorem dX7_fillLeast_40 : decode cX7_fillLeast 40 = .ok (.iload_n 3, 1) := by decide +kernel
theorem dX7_fillLeast_41 : decode cX7_fillLeast 41 = .ok (.if_icmp .ne 14, 3) := by decide +kernel
theorem dX7_fillLeast_44 : decode cX7_fillLeast 44 = .ok (.iload 6, 2) := by decide +kernel
theorem dX7_fillLeast_46 : decode cX7_fillLeast 46 = .ok (.iload 4, 2) := by decide +kernel
theorem dX7_fillLeast_48 : decode cX7_fillLeast 48 = .ok (.if_icmp .ne 7, 3) := by decide +kernel
theorem dX7_fillLeast_51 : decode cX7_fillLeast 51 = .ok (.iconst 0, 1) := by decide +kernel
theorem dX7_fillLeast_52 : decode cX7_fillLeast 52 = .ok (.goto 5, 3) := by decide +kernel
theorem dX7_fillLeast_55 : decode cX7_fillLeast 55 = .ok (.ldc 102, 2) := by decide +kernel
theorem dX7_fillLeast_57 : decode cX7_fillLeast 57 = .ok (.istore 7, 2) := by decide +kernel
theorem dX7_fillLeast_59 : decode cX7_fillLeast 59 = .ok (.iconst 0, 1) := by decide +kernel
theorem dX7_fillLeast_60 : decode cX7_fillLeast 60 = .ok (.istore 8, 2) := by decide +kernel
theorem dX7_fillLeast_62 : decode cX7_fillLeast 62 = .ok (.iload 8, 2) := by decide +kernel
theorem dX7_fillLeast_64 : decode cX7_fillLeast 64 = .ok (.bipush 7, 2) := by decide +kernel
theorem dX7_fillLeast_66 : decode cX7_fillLeast 66 = .ok (.if_icmp .ge 40, 3) := by decide +kernel
theorem dX7_fillLeast_69 : decode cX7_fillLeast 69 = .ok (.iload 8, 2) := by decide +kernel
theorem dX7_fillLeast_71 : decode cX7_fillLeast 71 = .ok (.iload 5, 2) := by decide +kernel
theorem dX7_fillLeast_73 : decode cX7_fillLeast 73 = .ok (.iload 6, 2) := by decide +kernel
theorem dX7_fillLeast_75 : decode cX7_fillLeast 75 = .ok (.invokestatic 91, 3) := by decide +kernel
theorem dX7_fillLeast_78 : decode cX7_fillLeast 78 = .ok (.iload_n 2, 1) := by decide +kernel
theorem dX7_fillLeast_79 : decode cX7_fillLeast 79 = .ok (.if_icmp .eq 21, 3) := by decide +kernel
theorem dX7_fillLeast_82 : decode cX7_fillLeast 82 = .ok (.iload 7, 2) := by decide +kernel
theorem dX7_fillLeast_84 : decode cX7_fillLeast 84 = .ok (.aload_n 0, 1) := by decide +kernel
theorem dX7_fillLeast_85 : decode cX7_fillLeast 85 = .ok (.aload_n 1, 1) := by decide +kernel
theorem dX7_fillLeast_86 : decode cX7_fillLeast 86 = .ok (.iload 8, 2) := by decide +kernel
theorem dX7_fillLeast_88 : decode cX7_fillLeast 88 = .ok (.iload 5, 2) := by decide +kernel
theorem dX7_fillLeast_90 : decode cX7_fillLeast 90 = .ok (.iload 6, 2) := by decide +kernel
theorem dX7_fillLeast_92 : decode cX7_fillLeast 92 = .ok (.invokevirtual 165, 3) := by decide +kernel
theorem dX7_fillLeast_95 : decode cX7_fillLeast 95 = .ok (.invokestatic 129, 3) := by decide +kernel
theorem dX7_fillLeast_98 : decode cX7_fillLeast 98 = .ok (.istore 7, 2) := by decide +kernel
theorem dX7_fillLeast_100 : decode cX7_fillLeast 100 = .ok (.iinc 8 1, 3) := by decide +kernel
theorem dX7_fillLeast_103 : decode cX7_fillLeast 103 = .ok (.goto (-41), 3) := by decide +kernel
theorem dX7_fillLeast_106 : decode cX7_fillLeast 106 = .ok (.aload_n 1, 1) := by decide +kernel
theorem dX7_fillLeast_107 : decode cX7_fillLeast 107 = .ok (.iload 5, 2) := by decide +kernel
theorem dX7_fillLeast_109 : decode cX7_fillLeast 109 = .ok (.iload 6, 2) := by decide +kernel
theorem dX7_fillLeast_111 : decode cX7_fillLeast 111 = .ok (.invokestatic 169, 3) := by decide +kernel
theorem dX7_fillLeast_114 : decode cX7_fillLeast 114 = .ok (.iload 7, 2) := by decide +kernel
theorem dX7_fillLeast_116 : decode cX7_fillLeast 116 = .ok (.iastore, 1) := by decide +kernel
theorem dX7_fillLeast_117 : decode cX7_fillLeast 117 = .ok (.iinc 6 (-1), 3) := by decide +kernel
theorem dX7_fillLeast_120 : decode cX7_fillLeast 120 = .ok (.goto (-87), 3) := by decide +kernel
theorem dX7_fillLeast_123 : decode cX7_fillLeast 123 = .ok (.iinc 5 (-1), 3) := by decide +kernel
theorem dX7_fillLeast_126 : decode cX7_fillLeast 126 = .ok (.goto (-102), 3) := by decide +kernel
theorem dX7_fillLeast_129 : decode cX7_fillLeast 129 = .ok (.return_, 1) := by decide +kernel
theorem dX7_sumBy_0 : decode cX7_sumBy 0 = .ok (.aload_n 0, 1) := by decide +kernel
theorem dX7_sumBy_1 : decode cX7_sumBy 1 = .ok (.getfield 25, 3) := by decide +kernel
theorem dX7_sumBy_4 : decode cX7_sumBy 4 = .ok (.iload_n 2, 1) := by decide +kernel
theorem dX7_sumBy_5 : decode cX7_sumBy 5 = .ok (.iload_n 3, 1) := by decide +kernel
theorem dX7_sumBy_6 : decode cX7_sumBy 6 = .ok (.iload 4, 2) := by decide +kernel
theorem dX7_sumBy_8 : decode cX7_sumBy 8 = .ok (.invokestatic 91, 3) := by decide +kernel
theorem dX7_sumBy_11 : decode cX7_sumBy 11 = .ok (.iaload, 1) := by decide +kernel
theorem dX7_sumBy_12 : decode cX7_sumBy 12 = .ok (.istore 5, 2) := by decide +kernel
theorem dX7_sumBy_14 : decode cX7_sumBy 14 = .ok (.iload 5, 2) := by decide +kernel
theorem dX7_sumBy_16 : decode cX7_sumBy 16 = .ok (.ldc 102, 2) := by decide +kernel
theorem dX7_sumBy_18 : decode cX7_sumBy 18 = .ok (.if_icmp .lt 6, 3) := by decide +kernel
theorem dX7_sumBy_21 : decode cX7_sumBy 21 = .ok (.ldc 102, 2) := by decide +kernel
theorem dX7_sumBy_23 : decode cX7_sumBy 23 = .ok (.ireturn, 1) := by decide +kernel
theorem dX7_sumBy_24 : decode cX7_sumBy 24 = .ok (.aload_n 1, 1) := by decide +kernel
theorem dX7_sumBy_25 : decode cX7_sumBy 25 = .ok (.iload_n 3, 1) := by decide +kernel
theorem dX7_sumBy_26 : decode cX7_sumBy 26 = .ok (.getstatic 103, 3) := by decide +kernel
theorem dX7_sumBy_29 : decode cX7_sumBy 29 = .ok (.iload_n 2, 1) := by decide +kernel
theorem dX7_sumBy_30 : decode cX7_sumBy 30 = .ok (.iaload, 1) := by decide +kernel
theorem dX7_sumBy_31 : decode cX7_sumBy 31 = .ok (.iadd, 1) := by decide +kernel
theorem dX7_sumBy_32 : decode cX7_sumBy 32 = .ok (.iload 4, 2) := by decide +kernel
theorem dX7_sumBy_34 : decode cX7_sumBy 34 = .ok (.getstatic 110, 3) := by decide +kernel
theorem dX7_sumBy_37 : decode cX7_sumBy 37 = .ok (.iload_n 2, 1) := by decide +kernel
theorem dX7_sumBy_38 : decode cX7_sumBy 38 = .ok (.iaload, 1) := by decide +kernel
theorem dX7_sumBy_39 : decode cX7_sumBy 39 = .ok (.iadd, 1) := by decide +kernel
theorem dX7_sumBy_40 : decode cX7_sumBy 40 = .ok (.invokestatic 169, 3) := by decide +kernel
theorem dX7_sumBy_43 : decode cX7_sumBy 43 = .ok (.iaload, 1) := by decide +kernel
theorem dX7_sumBy_44 : decode cX7_sumBy 44 = .ok (.istore 6, 2) := by decide +kernel
theorem dX7_sumBy_46 : decode cX7_sumBy 46 = .ok (.iload 6, 2) := by decide +kernel
theorem dX7_sumBy_48 : decode cX7_sumBy 48 = .ok (.ldc 102, 2) := by decide +kernel
theorem dX7_sumBy_50 : decode cX7_sumBy 50 = .ok (.if_icmp .lt 8, 3) := by decide +kernel
theorem dX7_sumBy_53 : decode cX7_sumBy 53 = .ok (.ldc 102, 2) := by decide +kernel
theorem dX7_sumBy_55 : decode cX7_sumBy 55 = .ok (.goto 8, 3) := by decide +kernel
theorem dX7_sumBy_58 : decode cX7_sumBy 58 = .ok (.iload 5, 2) := by decide +kernel
theorem dX7_sumBy_60 : decode cX7_sumBy 60 = .ok (.iload 6, 2) := by decide +kernel
theorem dX7_sumBy_62 : decode cX7_sumBy 62 = .ok (.iadd, 1) := by decide +kernel
theorem dX7_sumBy_63 : decode cX7_sumBy 63 = .ok (.ireturn, 1) := by decide +kernel
theorem dX7_choose_0 : decode cX7_choose 0 = .ok (.aload_n 0, 1) := by decide +kernel
theorem dX7_choose_1 : decode cX7_choose 1 = .ok (.aload_n 0, 1) := by decide +kernel
theorem dX7_choose_2 : decode cX7_choose 2 = .ok (.getfield 28, 3) := by decide +kernel
theorem dX7_choose_5 : decode cX7_choose 5 = .ok (.iconst (-1), 1) := by decide +kernel
theorem dX7_choose_6 : decode cX7_choose 6 = .ok (.invokevirtual 172, 3) := by decide +kernel
theorem dX7_choose_9 : decode cX7_choose 9 = .ok (.aload_n 0, 1) := by decide +kernel
theorem dX7_choose_10 : decode cX7_choose 10 = .ok (.aload_n 0, 1) := by decide +kernel
theorem dX7_choose_11 : decode cX7_choose 11 = .ok (.getfield 28, 3) := by decide +kernel
theorem dX7_choose_14 : decode cX7_choose 14 = .ok (.iconst 0, 1) := by decide +kernel
theorem dX7_choose_15 : decode cX7_choose 15 = .ok (.iaload, 1) := by decide +kernel
theorem dX7_choose_16 : decode cX7_choose 16 = .ok (.ldc 102, 2) := by decide +kernel
theorem dX7_choose_18 : decode cX7_choose 18 = .ok (.if_icmp .ge 7, 3) := by decide +kernel
theorem dX7_choose_21 : decode cX7_choose 21 = .ok (.iconst 1, 1) := by decide +kernel
theorem dX7_choose_22 : decode cX7_choose 22 = .ok (.goto 4, 3) := by decide +kernel
theorem dX7_choose_25 : decode cX7_choose 25 = .ok (.iconst 0, 1) := by decide +kernel
theorem dX7_choose_26 : decode cX7_choose 26 = .ok (.putfield 176, 3) := by decide +kernel
theorem dX7_choose_29 : decode cX7_choose 29 = .ok (.aload_n 0, 1) := by decide +kernel
theorem dX7_choose_30 : decode cX7_choose 30 = .ok (.iconst 0, 1) := by decide +kernel
theorem dX7_choose_31 : decode cX7_choose 31 = .ok (.putfield 179, 3) := by decide +kernel
theorem dX7_choose_34 : decode cX7_choose 34 = .ok (.aload_n 0, 1) := by decide +kernel
theorem dX7_choose_35 : decode cX7_choose 35 = .ok (.getfield 176, 3) := by decide +kernel
theorem dX7_choose_38 : decode cX7_choose 38 = .ok (.ifCond .eq 7, 3) := by decide +kernel
theorem dX7_choose_41 : decode cX7_choose 41 = .ok (.aload_n 0, 1) := by decide +kernel
theorem dX7_choose_42 : decode cX7_choose 42 = .ok (.invokevirtual 182, 3) := by decide +kernel
theorem dX7_choose_45 : decode cX7_choose 45 = .ok (.return_, 1) := by decide +kernel
theorem dX7_traceBest_0 : decode cX7_traceBest 0 = .ok (.iconst 0, 1) := by decide +kernel
theorem dX7_traceBest_1 : decode cX7_traceBest 1 = .ok (.istore_n 1, 1) := by decide +kernel
theorem dX7_traceBest_2 : decode cX7_traceBest 2 = .ok (.iconst 0, 1) := by decide +kernel
theorem dX7_traceBest_3 : decode cX7_traceBest 3 = .ok (.istore_n 2, 1) := by decide +kernel
theorem dX7_traceBest_4 : decode cX7_traceBest 4 = .ok (.iconst 0, 1) := by decide +kernel
theorem dX7_traceBest_5 : decode cX7_traceBest 5 = .ok (.istore_n 3, 1) := by decide +kernel
theorem dX7_traceBest_6 : decode cX7_traceBest 6 = .ok (.iload_n 3, 1) := by decide +kernel
theorem dX7_traceBest_7 : decode cX7_traceBest 7 = .ok (.bipush 40, 2) := by decide +kernel
theorem dX7_traceBest_9 : decode cX7_traceBest 9 = .ok (.if_icmp .ge 108, 3) := by decide +kernel
theorem dX7_traceBest_12 : decode cX7_traceBest 12 = .ok (.iload_n 1, 1) := by decide +kernel
theorem dX7_traceBest_13 : decode cX7_traceBest 13 = .ok (.aload_n 0, 1) := by decide +kernel
theorem dX7_traceBest_14 : decode cX7_traceBest 14 = .ok (.getfield 46, 3) := by decide +kernel
theorem dX7_traceBest_17 : decode cX7_traceBest 17 = .ok (.iconst 0, 1) := by decide +kernel
theorem dX7_traceBest_18 : decode cX7_traceBest 18 = .ok (.aaload, 1) := by decide +kernel
theorem dX7_traceBest_19 : decode cX7_traceBest 19 = .ok (.getfield 80, 3) := by decide +kernel
theorem dX7_traceBest_22 : decode cX7_traceBest 22 = .ok (.if_icmp .lt 16, 3) := by decide +kernel
theorem dX7_traceBest_25 : decode cX7_traceBest 25 = .ok (.iload_n 2, 1) := by decide +kernel
theorem dX7_traceBest_26 : decode cX7_traceBest 26 = .ok (.aload_n 0, 1) := by decide +kernel
theorem dX7_traceBest_27 : decode cX7_traceBest 27 = .ok (.getfield 46, 3) := by decide +kernel
theorem dX7_traceBest_30 : decode cX7_traceBest 30 = .ok (.iconst 1, 1) := by decide +kernel
theorem dX7_traceBest_31 : decode cX7_traceBest 31 = .ok (.aaload, 1) := by decide +kernel
theorem dX7_traceBest_32 : decode cX7_traceBest 32 = .ok (.getfield 80, 3) := by decide +kernel
theorem dX7_traceBest_35 : decode cX7_traceBest 35 = .ok (.if_icmp .ge 82, 3) := by decide +kernel
theorem dX7_traceBest_38 : decode cX7_traceBest 38 = .ok (.aload_n 0, 1) := by decide +kernel
theorem dX7_traceBest_39 : decode cX7_traceBest 39 = .ok (.iload_n 1, 1) := by decide +kernel
theorem dX7_traceBest_40 : decode cX7_traceBest 40 = .ok (.iload_n 2, 1) := by decide +kernel
theorem dX7_traceBest_41 : decode cX7_traceBest 41 = .ok (.invokevirtual 185, 3) := by decide +kernel
theorem dX7_traceBest_44 : decode cX7_traceBest 44 = .ok (.istore 4, 2) := by decide +kernel
theorem dX7_traceBest_46 : decode cX7_traceBest 46 = .ok (.aload_n 0, 1) := by decide +kernel
theorem dX7_traceBest_47 : decode cX7_traceBest 47 = .ok (.getfield 34, 3) := by decide +kernel
theorem dX7_traceBest_50 : decode cX7_traceBest 50 = .ok (.iload_n 3, 1) := by decide +kernel
theorem dX7_traceBest_51 : decode cX7_traceBest 51 = .ok (.iload 4, 2) := by decide +kernel
theorem dX7_traceBest_53 : decode cX7_traceBest 53 = .ok (.iastore, 1) := by decide +kernel
theorem dX7_traceBest_54 : decode cX7_traceBest 54 = .ok (.aload_n 0, 1) := by decide +kernel
theorem dX7_traceBest_55 : decode cX7_traceBest 55 = .ok (.getfield 37, 3) := by decide +kernel
theorem dX7_traceBest_58 : decode cX7_traceBest 58 = .ok (.iload_n 3, 1) := by decide +kernel
theorem dX7_traceBest_59 : decode cX7_traceBest 59 = .ok (.iload_n 1, 1) := by decide +kernel
theorem dX7_traceBest_60 : decode cX7_traceBest 60 = .ok (.iastore, 1) := by decide +kernel
theorem dX7_traceBest_61 : decode cX7_traceBest 61 = .ok (.aload_n 0, 1) := by decide +kernel
theorem dX7_traceBest_62 : decode cX7_traceBest 62 = .ok (.getfield 40, 3) := by decide +kernel
theorem dX7_traceBest_65 : decode cX7_traceBest 65 = .ok (.iload_n 3, 1) := by decide +kernel
theorem dX7_traceBest_66 : decode cX7_traceBest 66 = .ok (.iload_n 2, 1) := by decide +kernel
theorem dX7_traceBest_67 : decode cX7_traceBest 67 = .ok (.iastore, 1) := by decide +kernel
theorem dX7_traceBest_68 : decode cX7_traceBest 68 = .ok (.aload_n 0, 1) := by decide +kernel
theorem dX7_traceBest_69 : decode cX7_traceBest 69 = .ok (.getfield 43, 3) := by decide +kernel
theorem dX7_traceBest_72 : decode cX7_traceBest 72 = .ok (.iload_n 3, 1) := by decide +kernel
theorem dX7_traceBest_73 : decode cX7_traceBest 73 = .ok (.aload_n 0, 1) := by decide +kernel
theorem dX7_traceBest_74 : decode cX7_traceBest 74 = .ok (.getfield 25, 3) := by decide +kernel
theorem dX7_traceBest_77 : decode cX7_traceBest 77 = .ok (.iload 4, 2) := by decide +kernel
theorem dX7_traceBest_79 : decode cX7_traceBest 79 = .ok (.iload_n 1, 1) := by decide +kernel
theorem dX7_traceBest_80 : decode cX7_traceBest 80 = .ok (.iload_n 2, 1) := by decide +kernel
theorem dX7_traceBest_81 : decode cX7_traceBest 81 = .ok (.invokestatic 91, 3) := by decide +kernel
theorem dX7_traceBest_84 : decode cX7_traceBest 84 = .ok (.iaload, 1) := by decide +kernel
theorem dX7_traceBest_85 : decode cX7_traceBest 85 = .ok (.iastore, 1) := by decide +kernel
theorem dX7_traceBest_86 : decode cX7_traceBest 86 = .ok (.aload_n 0, 1) := by decide +kernel
theorem dX7_traceBest_87 : decode cX7_traceBest 87 = .ok (.iload_n 3, 1) := by decide +kernel
theorem dX7_traceBest_88 : decode cX7_traceBest 88 = .ok (.iconst 1, 1) := by decide +kernel
theorem dX7_traceBest_89 : decode cX7_traceBest 89 = .ok (.iadd, 1) := by decide +kernel
theorem dX7_traceBest_90 : decode cX7_traceBest 90 = .ok (.putfield 179, 3) := by decide +kernel
theorem dX7_traceBest_93 : decode cX7_traceBest 93 = .ok (.iload_n 1, 1) := by decide +kernel
theorem dX7_traceBest_94 : decode cX7_traceBest 94 = .ok (.getstatic 103, 3) := by decide +kernel
theorem dX7_traceBest_97 : decode cX7_traceBest 97 = .ok (.iload 4, 2) := by decide +kernel
theorem dX7_traceBest_99 : decode cX7_traceBest 99 = .ok (.iaload, 1) := by decide +kernel
theorem dX7_traceBest_100 : decode cX7_traceBest 100 = .ok (.iadd, 1) := by decide +kernel
theorem dX7_traceBest_101 : decode cX7_traceBest 101 = .ok (.istore_n 1, 1) := by decide +kernel
theorem dX7_traceBest_102 : decode cX7_traceBest 102 = .ok (.iload_n 2, 1) := by decide +kernel
theorem dX7_traceBest_103 : decode cX7_traceBest 103 = .ok (.getstatic 110, 3) := by decide +kernel
theorem dX7_traceBest_106 : decode cX7_traceBest 106 = .ok (.iload 4, 2) := by decide +kernel
theorem dX7_traceBest_108 : decode cX7_traceBest 108 = .ok (.iaload, 1) := by decide +kernel
theorem dX7_traceBest_109 : decode cX7_traceBest 109 = .ok (.iadd, 1) := by decide +kernel
theorem dX7_traceBest_110 : decode cX7_traceBest 110 = .ok (.istore_n 2, 1) := by decide +kernel
theorem dX7_traceBest_111 : decode cX7_traceBest 111 = .ok (.iinc 3 1, 3) := by decide +kernel
theorem dX7_traceBest_114 : decode cX7_traceBest 114 = .ok (.goto (-108), 3) := by decide +kernel
theorem dX7_traceBest_117 : decode cX7_traceBest 117 = .ok (.return_, 1) := by decide +kernel
theorem dX7_firstBestKind_0 : decode cX7_firstBestKind 0 = .ok (.iconst 0, 1) := by decide +kernel
theorem dX7_firstBestKind_1 : decode cX7_firstBestKind 1 = .ok (.istore_n 3, 1) := by decide +kernel
theorem dX7_firstBestKind_2 : decode cX7_firstBestKind 2 = .ok (.iload_n 3, 1) := by decide +kernel
theorem dX7_firstBestKind_3 : decode cX7_firstBestKind 3 = .ok (.bipush 6, 2) := by decide +kernel
theorem dX7_firstBestKind_5 : decode cX7_firstBestKind 5 = .ok (.if_icmp .ge 33, 3) := by decide +kernel
theorem dX7_firstBestKind_8 : decode cX7_firstBestKind 8 = .ok (.aload_n 0, 1) := by decide +kernel
theorem dX7_firstBestKind_9 : decode cX7_firstBestKind 9 = .ok (.aload_n 0, 1) := by decide +kernel
theorem dX7_firstBestKind_10 : decode cX7_firstBestKind 10 = .ok (.getfield 28, 3) := by decide +kernel
theorem dX7_firstBestKind_13 : decode cX7_firstBestKind 13 = .ok (.iload_n 3, 1) := by decide +kernel
theorem dX7_firstBestKind_14 : decode cX7_firstBestKind 14 = .ok (.iload_n 1, 1) := by decide +kernel
theorem dX7_firstBestKind_15 : decode cX7_firstBestKind 15 = .ok (.iload_n 2, 1) := by decide +kernel
theorem dX7_firstBestKind_16 : decode cX7_firstBestKind 16 = .ok (.invokevirtual 165, 3) := by decide +kernel
theorem dX7_firstBestKind_19 : decode cX7_firstBestKind 19 = .ok (.aload_n 0, 1) := by decide +kernel
theorem dX7_firstBestKind_20 : decode cX7_firstBestKind 20 = .ok (.getfield 28, 3) := by decide +kernel
theorem dX7_firstBestKind_23 : decode cX7_firstBestKind 23 = .ok (.iload_n 1, 1) := by decide +kernel
theorem dX7_firstBestKind_24 : decode cX7_firstBestKind 24 = .ok (.iload_n 2, 1) := by decide +kernel
theorem dX7_firstBestKind_25 : decode cX7_firstBestKind 25 = .ok (.invokestatic 169, 3) := by decide +kernel
theorem dX7_firstBestKind_28 : decode cX7_firstBestKind 28 = .ok (.iaload, 1) := by decide +kernel
theorem dX7_firstBestKind_29 : decode cX7_firstBestKind 29 = .ok (.if_icmp .eq 9, 3) := by decide +kernel
theorem dX7_firstBestKind_32 : decode cX7_firstBestKind 32 = .ok (.iinc 3 1, 3) := by decide +kernel
theorem dX7_firstBestKind_35 : decode cX7_firstBestKind 35 = .ok (.goto (-33), 3) := by decide +kernel
theorem dX7_firstBestKind_38 : decode cX7_firstBestKind 38 = .ok (.iload_n 3, 1) := by decide +kernel
theorem dX7_firstBestKind_39 : decode cX7_firstBestKind 39 = .ok (.ireturn, 1) := by decide +kernel
theorem dX7_hasJoint_0 : decode cX7_hasJoint 0 = .ok (.iload_n 1, 1) := by decide +kernel
theorem dX7_hasJoint_1 : decode cX7_hasJoint 1 = .ok (.ifCond .lt 15, 3) := by decide +kernel
theorem dX7_hasJoint_4 : decode cX7_hasJoint 4 = .ok (.iload_n 1, 1) := by decide +kernel
theorem dX7_hasJoint_5 : decode cX7_hasJoint 5 = .ok (.aload_n 0, 1) := by decide +kernel
theorem dX7_hasJoint_6 : decode cX7_hasJoint 6 = .ok (.getfield 179, 3) := by decide +kernel
theorem dX7_hasJoint_9 : decode cX7_hasJoint 9 = .ok (.if_icmp .ge 7, 3) := by decide +kernel
theorem dX7_hasJoint_12 : decode cX7_hasJoint 12 = .ok (.iconst 1, 1) := by decide +kernel
theorem dX7_hasJoint_13 : decode cX7_hasJoint 13 = .ok (.goto 4, 3) := by decide +kernel
theorem dX7_hasJoint_16 : decode cX7_hasJoint 16 = .ok (.iconst 0, 1) := by decide +kernel
theorem dX7_hasJoint_17 : decode cX7_hasJoint 17 = .ok (.ireturn, 1) := by decide +kernel
theorem dX7_leastFrom_0 : decode cX7_leastFrom 0 = .ok (.aload_n 0, 1) := by decide +kernel
theorem dX7_leastFrom_1 : decode cX7_leastFrom 1 = .ok (.getfield 28, 3) := by decide +kernel
theorem dX7_leastFrom_4 : decode cX7_leastFrom 4 = .ok (.iload_n 1, 1) := by decide +kernel
theorem dX7_leastFrom_5 : decode cX7_leastFrom 5 = .ok (.iload_n 2, 1) := by decide +kernel
theorem dX7_leastFrom_6 : decode cX7_leastFrom 6 = .ok (.invokestatic 169, 3) := by decide +kernel
theorem dX7_leastFrom_9 : decode cX7_leastFrom 9 = .ok (.iaload, 1) := by decide +kernel
theorem dX7_leastFrom_10 : decode cX7_leastFrom 10 = .ok (.ireturn, 1) := by decide +kernel
theorem dX7_leastButBest_0 : decode cX7_leastButBest 0 = .ok (.ldc 102, 2) := by decide +kernel
theorem dX7_leastButBest_2 : decode cX7_leastButBest 2 = .ok (.istore_n 1, 1) := by decide +kernel
theorem dX7_leastButBest_3 : decode cX7_leastButBest 3 = .ok (.iconst 0, 1) := by decide +kernel
theorem dX7_leastButBest_4 : decode cX7_leastButBest 4 = .ok (.istore_n 2, 1) := by decide +kernel
theorem dX7_leastButBest_5 : decode cX7_leastButBest 5 = .ok (.iconst 0, 1) := by decide +kernel
theorem dX7_leastButBest_6 : decode cX7_leastButBest 6 = .ok (.istore_n 3, 1) := by decide +kernel
theorem dX7_leastButBest_7 : decode cX7_leastButBest 7 = .ok (.iload_n 3, 1) := by decide +kernel
theorem dX7_leastButBest_8 : decode cX7_leastButBest 8 = .ok (.aload_n 0, 1) := by decide +kernel
theorem dX7_leastButBest_9 : decode cX7_leastButBest 9 = .ok (.getfield 179, 3) := by decide +kernel
theorem dX7_leastButBest_12 : decode cX7_leastButBest 12 = .ok (.if_icmp .ge 90, 3) := by decide +kernel
theorem dX7_leastButBest_15 : decode cX7_leastButBest 15 = .ok (.iconst 0, 1) := by decide +kernel
theorem dX7_leastButBest_16 : decode cX7_leastButBest 16 = .ok (.istore 4, 2) := by decide +kernel
theorem dX7_leastButBest_18 : decode cX7_leastButBest 18 = .ok (.iload 4, 2) := by decide +kernel
theorem dX7_leastButBest_20 : decode cX7_leastButBest 20 = .ok (.bipush 7, 2) := by decide +kernel
theorem dX7_leastButBest_22 : decode cX7_leastButBest 22 = .ok (.if_icmp .ge 65, 3) := by decide +kernel
theorem dX7_leastButBest_25 : decode cX7_leastButBest 25 = .ok (.iload 4, 2) := by decide +kernel
theorem dX7_leastButBest_27 : decode cX7_leastButBest 27 = .ok (.aload_n 0, 1) := by decide +kernel
theorem dX7_leastButBest_28 : decode cX7_leastButBest 28 = .ok (.getfield 34, 3) := by decide +kernel
theorem dX7_leastButBest_31 : decode cX7_leastButBest 31 = .ok (.iload_n 3, 1) := by decide +kernel
theorem dX7_leastButBest_32 : decode cX7_leastButBest 32 = .ok (.iaload, 1) := by decide +kernel
theorem dX7_leastButBest_33 : decode cX7_leastButBest 33 = .ok (.if_icmp .ne 8, 3) := by decide +kernel
theorem dX7_leastButBest_36 : decode cX7_leastButBest 36 = .ok (.ldc 102, 2) := by decide +kernel
theorem dX7_leastButBest_38 : decode cX7_leastButBest 38 = .ok (.goto 25, 3) := by decide +kernel
theorem dX7_leastButBest_41 : decode cX7_leastButBest 41 = .ok (.aload_n 0, 1) := by decide +kernel
theorem dX7_leastButBest_42 : decode cX7_leastButBest 42 = .ok (.aload_n 0, 1) := by decide +kernel
theorem dX7_leastButBest_43 : decode cX7_leastButBest 43 = .ok (.getfield 28, 3) := by decide +kernel
theorem dX7_leastButBest_46 : decode cX7_leastButBest 46 = .ok (.iload 4, 2) := by decide +kernel
theorem dX7_leastButBest_48 : decode cX7_leastButBest 48 = .ok (.aload_n 0, 1) := by decide +kernel
theorem dX7_leastButBest_49 : decode cX7_leastButBest 49 = .ok (.getfield 37, 3) := by decide +kernel
theorem dX7_leastButBest_52 : decode cX7_leastButBest 52 = .ok (.iload_n 3, 1) := by decide +kernel
theorem dX7_leastButBest_53 : decode cX7_leastButBest 53 = .ok (.iaload, 1) := by decide +kernel
theorem dX7_leastButBest_54 : decode cX7_leastButBest 54 = .ok (.aload_n 0, 1) := by decide +kernel
theorem dX7_leastButBest_55 : decode cX7_leastButBest 55 = .ok (.getfield 40, 3) := by decide +kernel
theorem dX7_leastButBest_58 : decode cX7_leastButBest 58 = .ok (.iload_n 3, 1) := by decide +kernel
theorem dX7_leastButBest_59 : decode cX7_leastButBest 59 = .ok (.iaload, 1) := by decide +kernel
theorem dX7_leastButBest_60 : decode cX7_leastButBest 60 = .ok (.invokevirtual 165, 3) := by decide +kernel
theorem dX7_leastButBest_63 : decode cX7_leastButBest 63 = .ok (.istore 5, 2) := by decide +kernel
theorem dX7_leastButBest_65 : decode cX7_leastButBest 65 = .ok (.iload 5, 2) := by decide +kernel
theorem dX7_leastButBest_67 : decode cX7_leastButBest 67 = .ok (.ldc 102, 2) := by decide +kernel
theorem dX7_leastButBest_69 : decode cX7_leastButBest 69 = .ok (.if_icmp .ge 12, 3) := by decide +kernel
theorem dX7_leastButBest_72 : decode cX7_leastButBest 72 = .ok (.iload_n 1, 1) := by decide +kernel
theorem dX7_leastButBest_73 : decode cX7_leastButBest 73 = .ok (.iload_n 2, 1) := by decide +kernel
theorem dX7_leastButBest_74 : decode cX7_leastButBest 74 = .ok (.iload 5, 2) := by decide +kernel
theorem dX7_leastButBest_76 : decode cX7_leastButBest 76 = .ok (.iadd, 1) := by decide +kernel
theorem dX7_leastButBest_77 : decode cX7_leastButBest 77 = .ok (.invokestatic 129, 3) := by decide +kernel
theorem dX7_leastButBest_80 : decode cX7_leastButBest 80 = .ok (.istore_n 1, 1) := by decide +kernel
theorem dX7_leastButBest_81 : decode cX7_leastButBest 81 = .ok (.iinc 4 1, 3) := by decide +kernel
theorem dX7_leastButBest_84 : decode cX7_leastButBest 84 = .ok (.goto (-66), 3) := by decide +kernel
theorem dX7_leastButBest_87 : decode cX7_leastButBest 87 = .ok (.iload_n 2, 1) := by decide +kernel
theorem dX7_leastButBest_88 : decode cX7_leastButBest 88 = .ok (.aload_n 0, 1) := by decide +kernel
theorem dX7_leastButBest_89 : decode cX7_leastButBest 89 = .ok (.getfield 43, 3) := by decide +kernel
theorem dX7_leastButBest_92 : decode cX7_leastButBest 92 = .ok (.iload_n 3, 1) := by decide +kernel
theorem dX7_leastButBest_93 : decode cX7_leastButBest 93 = .ok (.iaload, 1) := by decide +kernel
theorem dX7_leastButBest_94 : decode cX7_leastButBest 94 = .ok (.iadd, 1) := by decide +kernel
theorem dX7_leastButBest_95 : decode cX7_leastButBest 95 = .ok (.istore_n 2, 1) := by decide +kernel
theorem dX7_leastButBest_96 : decode cX7_leastButBest 96 = .ok (.iinc 3 1, 3) := by decide +kernel
theorem dX7_leastButBest_99 : decode cX7_leastButBest 99 = .ok (.goto (-92), 3) := by decide +kernel
theorem dX7_leastButBest_102 : decode cX7_leastButBest 102 = .ok (.iload_n 1, 1) := by decide +kernel
theorem dX7_leastButBest_103 : decode cX7_leastButBest 103 = .ok (.ireturn, 1) := by decide +kernel
theorem dX7_leastWithout_0 : decode cX7_leastWithout 0 = .ok (.aload_n 0, 1) := by decide +kernel
theorem dX7_leastWithout_1 : decode cX7_leastWithout 1 = .ok (.aload_n 0, 1) := by decide +kernel
theorem dX7_leastWithout_2 : decode cX7_leastWithout 2 = .ok (.getfield 31, 3) := by decide +kernel
theorem dX7_leastWithout_5 : decode cX7_leastWithout 5 = .ok (.aload_n 0, 1) := by decide +kernel
theorem dX7_leastWithout_6 : decode cX7_leastWithout 6 = .ok (.getfield 34, 3) := by decide +kernel
theorem dX7_leastWithout_9 : decode cX7_leastWithout 9 = .ok (.iload_n 1, 1) := by decide +kernel
theorem dX7_leastWithout_10 : decode cX7_leastWithout 10 = .ok (.iaload, 1) := by decide +kernel
theorem dX7_leastWithout_11 : decode cX7_leastWithout 11 = .ok (.aload_n 0, 1) := by decide +kernel
theorem dX7_leastWithout_12 : decode cX7_leastWithout 12 = .ok (.getfield 37, 3) := by decide +kernel
theorem dX7_leastWithout_15 : decode cX7_leastWithout 15 = .ok (.iload_n 1, 1) := by decide +kernel
theorem dX7_leastWithout_16 : decode cX7_leastWithout 16 = .ok (.iaload, 1) := by decide +kernel
theorem dX7_leastWithout_17 : decode cX7_leastWithout 17 = .ok (.aload_n 0, 1) := by decide +kernel
theorem dX7_leastWithout_18 : decode cX7_leastWithout 18 = .ok (.getfield 40, 3) := by decide +kernel
theorem dX7_leastWithout_21 : decode cX7_leastWithout 21 = .ok (.iload_n 1, 1) := by decide +kernel
theorem dX7_leastWithout_22 : decode cX7_leastWithout 22 = .ok (.iaload, 1) := by decide +kernel
theorem dX7_leastWithout_23 : decode cX7_leastWithout 23 = .ok (.invokestatic 91, 3) := by decide +kernel
theorem dX7_leastWithout_26 : decode cX7_leastWithout 26 = .ok (.invokevirtual 172, 3) := by decide +kernel
theorem dX7_leastWithout_29 : decode cX7_leastWithout 29 = .ok (.aload_n 0, 1) := by decide +kernel
theorem dX7_leastWithout_30 : decode cX7_leastWithout 30 = .ok (.getfield 31, 3) := by decide +kernel
theorem dX7_leastWithout_33 : decode cX7_leastWithout 33 = .ok (.iconst 0, 1) := by decide +kernel
theorem dX7_leastWithout_34 : decode cX7_leastWithout 34 = .ok (.iaload, 1) := by decide +kernel
theorem dX7_leastWithout_35 : decode cX7_leastWithout 35 = .ok (.ireturn, 1) := by decide +kernel
theorem dX8_init_0 : decode cX8_init 0 = .ok (.aload_n 0, 1) := by decide +kernel
theorem dX8_init_1 : decode cX8_init 1 = .ok (.invokespecial 3, 3) := by decide +kernel
theorem dX8_init_4 : decode cX8_init 4 = .ok (.aload_n 0, 1) := by decide +kernel
theorem dX8_init_5 : decode cX8_init 5 = .ok (.iload_n 1, 1) := by decide +kernel
theorem dX8_init_6 : decode cX8_init 6 = .ok (.putfield 9, 3) := by decide +kernel
theorem dX8_init_9 : decode cX8_init 9 = .ok (.aload_n 0, 1) := by decide +kernel
theorem dX8_init_10 : decode cX8_init 10 = .ok (.iload_n 1, 1) := by decide +kernel
theorem dX8_init_11 : decode cX8_init 11 = .ok (.bipush 10, 2) := by decide +kernel
theorem dX8_init_13 : decode cX8_init 13 = .ok (.multianewarray 15 2, 4) := by decide +kernel
theorem dX8_init_17 : decode cX8_init 17 = .ok (.putfield 17, 3) := by decide +kernel
theorem dX8_init_20 : decode cX8_init 20 = .ok (.aload_n 0, 1) := by decide +kernel
theorem dX8_init_21 : decode cX8_init 21 = .ok (.iload_n 1, 1) := by decide +kernel
theorem dX8_init_22 : decode cX8_init 22 = .ok (.newarray .int, 2) := by decide +kernel
theorem dX8_init_24 : decode cX8_init 24 = .ok (.putfield 20, 3) := by decide +kernel
theorem dX8_init_27 : decode cX8_init 27 = .ok (.return_, 1) := by decide +kernel
theorem dX8_indexOf_0 : decode cX8_indexOf 0 = .ok (.iconst 0, 1) := by decide +kernel
theorem dX8_indexOf_1 : decode cX8_indexOf 1 = .ok (.istore_n 3, 1) := by decide +kernel
theorem dX8_indexOf_2 : decode cX8_indexOf 2 = .ok (.iload_n 3, 1) := by decide +kernel
theorem dX8_indexOf_3 : decode cX8_indexOf 3 = .ok (.aload_n 0, 1) := by decide +kernel
theorem dX8_indexOf_4 : decode cX8_indexOf 4 = .ok (.getfield 24, 3) := by decide +kernel
theorem dX8_indexOf_7 : decode cX8_indexOf 7 = .ok (.if_icmp .ge 21, 3) := by decide +kernel
theorem dX8_indexOf_10 : decode cX8_indexOf 10 = .ok (.aload_n 0, 1) := by decide +kernel
theorem dX8_indexOf_11 : decode cX8_indexOf 11 = .ok (.iload_n 3, 1) := by decide +kernel
theorem dX8_indexOf_12 : decode cX8_indexOf 12 = .ok (.aload_n 1, 1) := by decide +kernel
theorem dX8_indexOf_13 : decode cX8_indexOf 13 = .ok (.iload_n 2, 1) := by decide +kernel
theorem dX8_indexOf_14 : decode cX8_indexOf 14 = .ok (.invokevirtual 27, 3) := by decide +kernel
theorem dX8_indexOf_17 : decode cX8_indexOf 17 = .ok (.ifCond .eq 5, 3) := by decide +kernel
theorem dX8_indexOf_20 : decode cX8_indexOf 20 = .ok (.iload_n 3, 1) := by decide +kernel
theorem dX8_indexOf_21 : decode cX8_indexOf 21 = .ok (.ireturn, 1) := by decide +kernel
theorem dX8_indexOf_22 : decode cX8_indexOf 22 = .ok (.iinc 3 1, 3) := by decide +kernel
theorem dX8_indexOf_25 : decode cX8_indexOf 25 = .ok (.goto (-23), 3) := by decide +kernel
theorem dX8_indexOf_28 : decode cX8_indexOf 28 = .ok (.iconst (-1), 1) := by decide +kernel
theorem dX8_indexOf_29 : decode cX8_indexOf 29 = .ok (.ireturn, 1) := by decide +kernel
theorem dX8_isAt_0 : decode cX8_isAt 0 = .ok (.aload_n 0, 1) := by decide +kernel
theorem dX8_isAt_1 : decode cX8_isAt 1 = .ok (.getfield 20, 3) := by decide +kernel
theorem dX8_isAt_4 : decode cX8_isAt 4 = .ok (.iload_n 1, 1) := by decide +kernel
theorem dX8_isAt_5 : decode cX8_isAt 5 = .ok (.iaload, 1) := by decide +kernel
theorem dX8_isAt_6 : decode cX8_isAt 6 = .ok (.iload_n 3, 1) := by decide +kernel
theorem dX8_isAt_7 : decode cX8_isAt 7 = .ok (.if_icmp .eq 5, 3) := by decide +kernel
theorem dX8_isAt_10 : decode cX8_isAt 10 = .ok (.iconst 0, 1) := by decide +kernel
theorem dX8_isAt_11 : decode cX8_isAt 11 = .ok (.ireturn, 1) := by decide +kernel
theorem dX8_isAt_12 : decode cX8_isAt 12 = .ok (.iconst 0, 1) := by decide +kernel
theorem dX8_isAt_13 : decode cX8_isAt 13 = .ok (.istore 4, 2) := by decide +kernel
theorem dX8_isAt_15 : decode cX8_isAt 15 = .ok (.iload 4, 2) := by decide +kernel
theorem dX8_isAt_17 : decode cX8_isAt 17 = .ok (.iload_n 3, 1) := by decide +kernel
theorem dX8_isAt_18 : decode cX8_isAt 18 = .ok (.if_icmp .ge 27, 3) := by decide +kernel
theorem dX8_isAt_21 : decode cX8_isAt 21 = .ok (.aload_n 0, 1) := by decide +kernel
theorem dX8_isAt_22 : decode cX8_isAt 22 = .ok (.getfield 17, 3) := by decide +kernel
theorem dX8_isAt_25 : decode cX8_isAt 25 = .ok (.iload_n 1, 1) := by decide +kernel
theorem dX8_isAt_26 : decode cX8_isAt 26 = .ok (.aaload, 1) := by decide +kernel
theorem dX8_isAt_27 : decode cX8_isAt 27 = .ok (.iload 4, 2) := by decide +kernel
theorem dX8_isAt_29 : decode cX8_isAt 29 = .ok (.baload, 1) := by decide +kernel
theorem dX8_isAt_30 : decode cX8_isAt 30 = .ok (.aload_n 2, 1) := by decide +kernel
theorem dX8_isAt_31 : decode cX8_isAt 31 = .ok (.iload 4, 2) := by decide +kernel
theorem dX8_isAt_33 : decode cX8_isAt 33 = .ok (.baload, 1) := by decide +kernel
theorem dX8_isAt_34 : decode cX8_isAt 34 = .ok (.if_icmp .eq 5, 3) := by decide +kernel
theorem dX8_isAt_37 : decode cX8_isAt 37 = .ok (.iconst 0, 1) := by decide +kernel
theorem dX8_isAt_38 : decode cX8_isAt 38 = .ok (.ireturn, 1) := by decide +kernel
theorem dX8_isAt_39 : decode cX8_isAt 39 = .ok (.iinc 4 1, 3) := by decide +kernel
theorem dX8_isAt_42 : decode cX8_isAt 42 = .ok (.goto (-27), 3) := by decide +kernel
theorem dX8_isAt_45 : decode cX8_isAt 45 = .ok (.iconst 1, 1) := by decide +kernel
theorem dX8_isAt_46 : decode cX8_isAt 46 = .ok (.ireturn, 1) := by decide +kernel
theorem dX8_enter_0 : decode cX8_enter 0 = .ok (.aload_n 0, 1) := by decide +kernel
theorem dX8_enter_1 : decode cX8_enter 1 = .ok (.aload_n 1, 1) := by decide +kernel
theorem dX8_enter_2 : decode cX8_enter 2 = .ok (.iload_n 2, 1) := by decide +kernel
theorem dX8_enter_3 : decode cX8_enter 3 = .ok (.invokevirtual 31, 3) := by decide +kernel
theorem dX8_enter_6 : decode cX8_enter 6 = .ok (.istore_n 3, 1) := by decide +kernel
theorem dX8_enter_7 : decode cX8_enter 7 = .ok (.iload_n 3, 1) := by decide +kernel
theorem dX8_enter_8 : decode cX8_enter 8 = .ok (.iconst (-1), 1) := by decide +kernel
theorem dX8_enter_9 : decode cX8_enter 9 = .ok (.if_icmp .eq 5, 3) := by decide +kernel
theorem dX8_enter_12 : decode cX8_enter 12 = .ok (.iload_n 3, 1) := by decide +kernel
theorem dX8_enter_13 : decode cX8_enter 13 = .ok (.ireturn, 1) := by decide +kernel
theorem dX8_enter_14 : decode cX8_enter 14 = .ok (.aload_n 0, 1) := by decide +kernel
theorem dX8_enter_15 : decode cX8_enter 15 = .ok (.getfield 24, 3) := by decide +kernel
theorem dX8_enter_18 : decode cX8_enter 18 = .ok (.aload_n 0, 1) := by decide +kernel
theorem dX8_enter_19 : decode cX8_enter 19 = .ok (.getfield 9, 3) := by decide +kernel
theorem dX8_enter_22 : decode cX8_enter 22 = .ok (.if_icmp .lt 5, 3) := by decide +kernel
theorem dX8_enter_25 : decode cX8_enter 25 = .ok (.iconst (-1), 1) := by decide +kernel
theorem dX8_enter_26 : decode cX8_enter 26 = .ok (.ireturn, 1) := by decide +kernel
theorem dX8_enter_27 : decode cX8_enter 27 = .ok (.iconst 0, 1) := by decide +kernel
theorem dX8_enter_28 : decode cX8_enter 28 = .ok (.istore 4, 2) := by decide +kernel
theorem dX8_enter_30 : decode cX8_enter 30 = .ok (.iload 4, 2) := by decide +kernel
theorem dX8_enter_32 : decode cX8_enter 32 = .ok (.iload_n 2, 1) := by decide +kernel
theorem dX8_enter_33 : decode cX8_enter 33 = .ok (.if_icmp .ge 25, 3) := by decide +kernel
theorem dX8_enter_36 : decode cX8_enter 36 = .ok (.aload_n 0, 1) := by decide +kernel
theorem dX8_enter_37 : decode cX8_enter 37 = .ok (.getfield 17, 3) := by decide +kernel
theorem dX8_enter_40 : decode cX8_enter 40 = .ok (.aload_n 0, 1) := by decide +kernel
theorem dX8_enter_41 : decode cX8_enter 41 = .ok (.getfield 24, 3) := by decide +kernel
theorem dX8_enter_44 : decode cX8_enter 44 = .ok (.aaload, 1) := by decide +kernel
theorem dX8_enter_45 : decode cX8_enter 45 = .ok (.iload 4, 2) := by decide +kernel
theorem dX8_enter_47 : decode cX8_enter 47 = .ok (.aload_n 1, 1) := by decide +kernel
theorem dX8_enter_48 : decode cX8_enter 48 = .ok (.iload 4, 2) := by decide +kernel
theorem dX8_enter_50 : decode cX8_enter 50 = .ok (.baload, 1) := by decide +kernel
theorem dX8_enter_51 : decode cX8_enter 51 = .ok (.bastore, 1) := by decide +kernel
theorem dX8_enter_52 : decode cX8_enter 52 = .ok (.iinc 4 1, 3) := by decide +kernel
theorem dX8_enter_55 : decode cX8_enter 55 = .ok (.goto (-25), 3) := by decide +kernel
theorem dX8_enter_58 : decode cX8_enter 58 = .ok (.aload_n 0, 1) := by decide +kernel
theorem dX8_enter_59 : decode cX8_enter 59 = .ok (.getfield 20, 3) := by decide +kernel
theorem dX8_enter_62 : decode cX8_enter 62 = .ok (.aload_n 0, 1) := by decide +kernel
theorem dX8_enter_63 : decode cX8_enter 63 = .ok (.getfield 24, 3) := by decide +kernel
theorem dX8_enter_66 : decode cX8_enter 66 = .ok (.iload_n 2, 1) := by decide +kernel
theorem dX8_enter_67 : decode cX8_enter 67 = .ok (.iastore, 1) := by decide +kernel
theorem dX8_enter_68 : decode cX8_enter 68 = .ok (.aload_n 0, 1) := by decide +kernel
theorem dX8_enter_69 : decode cX8_enter 69 = .ok (.dup, 1) := by decide +kernel
theorem dX8_enter_70 : decode cX8_enter 70 = .ok (.getfield 24, 3) := by decide +kernel
theorem dX8_enter_73 : decode cX8_enter 73 = .ok (.iconst 1, 1) := by decide +kernel
theorem dX8_enter_74 : decode cX8_enter 74 = .ok (.iadd, 1) := by decide +kernel
theorem dX8_enter_75 : decode cX8_enter 75 = .ok (.putfield 24, 3) := by decide +kernel
theorem dX8_enter_78 : decode cX8_enter 78 = .ok (.aload_n 0, 1) := by decide +kernel
theorem dX8_enter_79 : decode cX8_enter 79 = .ok (.getfield 24, 3) := by decide +kernel
theorem dX8_enter_82 : decode cX8_enter 82 = .ok (.iconst 1, 1) := by decide +kernel
theorem dX8_enter_83 : decode cX8_enter 83 = .ok (.isub, 1) := by decide +kernel
theorem dX8_enter_84 : decode cX8_enter 84 = .ok (.ireturn, 1) := by decide +kernel
theorem dX8_letterAt_0 : decode cX8_letterAt 0 = .ok (.iload_n 2, 1) := by decide +kernel
theorem dX8_letterAt_1 : decode cX8_letterAt 1 = .ok (.ifCond .lt 24, 3) := by decide +kernel
theorem dX8_letterAt_4 : decode cX8_letterAt 4 = .ok (.iload_n 2, 1) := by decide +kernel
theorem dX8_letterAt_5 : decode cX8_letterAt 5 = .ok (.aload_n 0, 1) := by decide +kernel
theorem dX8_letterAt_6 : decode cX8_letterAt 6 = .ok (.getfield 20, 3) := by decide +kernel
theorem dX8_letterAt_9 : decode cX8_letterAt 9 = .ok (.iload_n 1, 1) := by decide +kernel
theorem dX8_letterAt_10 : decode cX8_letterAt 10 = .ok (.iaload, 1) := by decide +kernel
theorem dX8_letterAt_11 : decode cX8_letterAt 11 = .ok (.if_icmp .ge 14, 3) := by decide +kernel
theorem dX8_letterAt_14 : decode cX8_letterAt 14 = .ok (.aload_n 0, 1) := by decide +kernel
theorem dX8_letterAt_15 : decode cX8_letterAt 15 = .ok (.getfield 17, 3) := by decide +kernel
theorem dX8_letterAt_18 : decode cX8_letterAt 18 = .ok (.iload_n 1, 1) := by decide +kernel
theorem dX8_letterAt_19 : decode cX8_letterAt 19 = .ok (.aaload, 1) := by decide +kernel
theorem dX8_letterAt_20 : decode cX8_letterAt 20 = .ok (.iload_n 2, 1) := by decide +kernel
theorem dX8_letterAt_21 : decode cX8_letterAt 21 = .ok (.baload, 1) := by decide +kernel
theorem dX8_letterAt_22 : decode cX8_letterAt 22 = .ok (.goto 4, 3) := by decide +kernel
theorem dX8_letterAt_25 : decode cX8_letterAt 25 = .ok (.iconst (-1), 1) := by decide +kernel
theorem dX8_letterAt_26 : decode cX8_letterAt 26 = .ok (.ireturn, 1) := by decide +kernel
theorem dX8_lengthAt_0 : decode cX8_lengthAt 0 = .ok (.aload_n 0, 1) := by decide +kernel
theorem dX8_lengthAt_1 : decode cX8_lengthAt 1 = .ok (.getfield 20, 3) := by decide +kernel
theorem dX8_lengthAt_4 : decode cX8_lengthAt 4 = .ok (.iload_n 1, 1) := by decide +kernel
theorem dX8_lengthAt_5 : decode cX8_lengthAt 5 = .ok (.iaload, 1) := by decide +kernel
theorem dX8_lengthAt_6 : decode cX8_lengthAt 6 = .ok (.ireturn, 1) := by decide +kernel
theorem dX9_init_0 : decode cX9_init 0 = .ok (.aload_n 0, 1) := by decide +kernel
theorem dX9_init_1 : decode cX9_init 1 = .ok (.invokespecial 3, 3) := by decide +kernel
theorem dX9_init_4 : decode cX9_init 4 = .ok (.aload_n 0, 1) := by decide +kernel
theorem dX9_init_5 : decode cX9_init 5 = .ok (.new 9, 3) := by decide +kernel
theorem dX9_init_8 : decode cX9_init 8 = .ok (.dup, 1) := by decide +kernel
theorem dX9_init_9 : decode cX9_init 9 = .ok (.invokespecial 11, 3) := by decide +kernel
theorem dX9_init_12 : decode cX9_init 12 = .ok (.putfield 12, 3) := by decide +kernel
theorem dX9_init_15 : decode cX9_init 15 = .ok (.aload_n 0, 1) := by decide +kernel
theorem dX9_init_16 : decode cX9_init 16 = .ok (.new 16, 3) := by decide +kernel
theorem dX9_init_19 : decode cX9_init 19 = .ok (.dup, 1) := by decide +kernel
theorem dX9_init_20 : decode cX9_init 20 = .ok (.bipush 6, 2) := by decide +kernel
theorem dX9_init_22 : decode cX9_init 22 = .ok (.invokespecial 18, 3) := by decide +kernel
theorem dX9_init_25 : decode cX9_init 25 = .ok (.putfield 21, 3) := by decide +kernel
theorem dX9_init_28 : decode cX9_init 28 = .ok (.aload_n 0, 1) := by decide +kernel
theorem dX9_init_29 : decode cX9_init 29 = .ok (.new 25, 3) := by decide +kernel
theorem dX9_init_32 : decode cX9_init 32 = .ok (.dup, 1) := by decide +kernel
theorem dX9_init_33 : decode cX9_init 33 = .ok (.aload_n 0, 1) := by decide +kernel
theorem dX9_init_34 : decode cX9_init 34 = .ok (.getfield 12, 3) := by decide +kernel
theorem dX9_init_37 : decode cX9_init 37 = .ok (.aload_n 0, 1) := by decide +kernel
theorem dX9_init_38 : decode cX9_init 38 = .ok (.getfield 21, 3) := by decide +kernel
theorem dX9_init_41 : decode cX9_init 41 = .ok (.invokespecial 27, 3) := by decide +kernel
theorem dX9_init_44 : decode cX9_init 44 = .ok (.putfield 30, 3) := by decide +kernel
theorem dX9_init_47 : decode cX9_init 47 = .ok (.aload_n 0, 1) := by decide +kernel
theorem dX9_init_48 : decode cX9_init 48 = .ok (.iconst 2, 1) := by decide +kernel
theorem dX9_init_49 : decode cX9_init 49 = .ok (.anewarray 34, 3) := by decide +kernel
theorem dX9_init_52 : decode cX9_init 52 = .ok (.dup, 1) := by decide +kernel
theorem dX9_init_53 : decode cX9_init 53 = .ok (.iconst 0, 1) := by decide +kernel
theorem dX9_init_54 : decode cX9_init 54 = .ok (.new 34, 3) := by decide +kernel
theorem dX9_init_57 : decode cX9_init 57 = .ok (.dup, 1) := by decide +kernel
theorem dX9_init_58 : decode cX9_init 58 = .ok (.invokespecial 36, 3) := by decide +kernel
theorem dX9_init_61 : decode cX9_init 61 = .ok (.aastore, 1) := by decide +kernel
theorem dX9_init_62 : decode cX9_init 62 = .ok (.dup, 1) := by decide +kernel
theorem dX9_init_63 : decode cX9_init 63 = .ok (.iconst 1, 1) := by decide +kernel
theorem dX9_init_64 : decode cX9_init 64 = .ok (.new 34, 3) := by decide +kernel
theorem dX9_init_67 : decode cX9_init 67 = .ok (.dup, 1) := by decide +kernel
theorem dX9_init_68 : decode cX9_init 68 = .ok (.invokespecial 36, 3) := by decide +kernel
theorem dX9_init_71 : decode cX9_init 71 = .ok (.aastore, 1) := by decide +kernel
theorem dX9_init_72 : decode cX9_init 72 = .ok (.putfield 37, 3) := by decide +kernel
theorem dX9_init_75 : decode cX9_init 75 = .ok (.aload_n 0, 1) := by decide +kernel
theorem dX9_init_76 : decode cX9_init 76 = .ok (.new 34, 3) := by decide +kernel
theorem dX9_init_79 : decode cX9_init 79 = .ok (.dup, 1) := by decide +kernel
theorem dX9_init_80 : decode cX9_init 80 = .ok (.invokespecial 36, 3) := by decide +kernel
theorem dX9_init_83 : decode cX9_init 83 = .ok (.putfield 41, 3) := by decide +kernel
theorem dX9_init_86 : decode cX9_init 86 = .ok (.aload_n 0, 1) := by decide +kernel
theorem dX9_init_87 : decode cX9_init 87 = .ok (.new 45, 3) := by decide +kernel
theorem dX9_init_90 : decode cX9_init 90 = .ok (.dup, 1) := by decide +kernel
theorem dX9_init_91 : decode cX9_init 91 = .ok (.invokespecial 47, 3) := by decide +kernel
theorem dX9_init_94 : decode cX9_init 94 = .ok (.putfield 48, 3) := by decide +kernel
theorem dX9_init_97 : decode cX9_init 97 = .ok (.aload_n 0, 1) := by decide +kernel
theorem dX9_init_98 : decode cX9_init 98 = .ok (.new 52, 3) := by decide +kernel
theorem dX9_init_101 : decode cX9_init 101 = .ok (.dup, 1) := by decide +kernel
theorem dX9_init_102 : decode cX9_init 102 = .ok (.invokespecial 54, 3) := by decide +kernel
theorem dX9_init_105 : decode cX9_init 105 = .ok (.putfield 55, 3) := by decide +kernel
theorem dX9_init_108 : decode cX9_init 108 = .ok (.aload_n 0, 1) := by decide +kernel
theorem dX9_init_109 : decode cX9_init 109 = .ok (.new 59, 3) := by decide +kernel
theorem dX9_init_112 : decode cX9_init 112 = .ok (.dup, 1) := by decide +kernel
theorem dX9_init_113 : decode cX9_init 113 = .ok (.aload_n 0, 1) := by decide +kernel
theorem dX9_init_114 : decode cX9_init 114 = .ok (.getfield 37, 3) := by decide +kernel
theorem dX9_init_117 : decode cX9_init 117 = .ok (.aload_n 0, 1) := by decide +kernel
theorem dX9_init_118 : decode cX9_init 118 = .ok (.getfield 48, 3) := by decide +kernel
theorem dX9_init_121 : decode cX9_init 121 = .ok (.aload_n 0, 1) := by decide +kernel
theorem dX9_init_122 : decode cX9_init 122 = .ok (.getfield 55, 3) := by decide +kernel
theorem dX9_init_125 : decode cX9_init 125 = .ok (.invokespecial 61, 3) := by decide +kernel
theorem dX9_init_128 : decode cX9_init 128 = .ok (.putfield 64, 3) := by decide +kernel
theorem dX9_init_131 : decode cX9_init 131 = .ok (.aload_n 0, 1) := by decide +kernel
theorem dX9_init_132 : decode cX9_init 132 = .ok (.new 68, 3) := by decide +kernel
theorem dX9_init_135 : decode cX9_init 135 = .ok (.dup, 1) := by decide +kernel
theorem dX9_init_136 : decode cX9_init 136 = .ok (.aload_n 0, 1) := by decide +kernel
theorem dX9_init_137 : decode cX9_init 137 = .ok (.getfield 37, 3) := by decide +kernel
theorem dX9_init_140 : decode cX9_init 140 = .ok (.aload_n 0, 1) := by decide +kernel
theorem dX9_init_141 : decode cX9_init 141 = .ok (.getfield 64, 3) := by decide +kernel
theorem dX9_init_144 : decode cX9_init 144 = .ok (.aload_n 0, 1) := by decide +kernel
theorem dX9_init_145 : decode cX9_init 145 = .ok (.getfield 55, 3) := by decide +kernel
theorem dX9_init_148 : decode cX9_init 148 = .ok (.invokespecial 70, 3) := by decide +kernel
theorem dX9_init_151 : decode cX9_init 151 = .ok (.putfield 73, 3) := by decide +kernel
theorem dX9_init_154 : decode cX9_init 154 = .ok (.aload_n 0, 1) := by decide +kernel
theorem dX9_init_155 : decode cX9_init 155 = .ok (.bipush 8, 2) := by decide +kernel
theorem dX9_init_157 : decode cX9_init 157 = .ok (.anewarray 77, 3) := by decide +kernel
theorem dX9_init_160 : decode cX9_init 160 = .ok (.putfield 79, 3) := by decide +kernel
theorem dX9_init_163 : decode cX9_init 163 = .ok (.aload_n 0, 1) := by decide +kernel
theorem dX9_init_164 : decode cX9_init 164 = .ok (.iconst 0, 1) := by decide +kernel
theorem dX9_init_165 : decode cX9_init 165 = .ok (.putfield 83, 3) := by decide +kernel
theorem dX9_init_168 : decode cX9_init 168 = .ok (.aload_n 0, 1) := by decide +kernel
theorem dX9_init_169 : decode cX9_init 169 = .ok (.iconst 1, 1) := by decide +kernel
theorem dX9_init_170 : decode cX9_init 170 = .ok (.putfield 87, 3) := by decide +kernel
theorem dX9_init_173 : decode cX9_init 173 = .ok (.iconst 0, 1) := by decide +kernel
theorem dX9_init_174 : decode cX9_init 174 = .ok (.istore_n 1, 1) := by decide +kernel
theorem dX9_init_175 : decode cX9_init 175 = .ok (.iload_n 1, 1) := by decide +kernel
theorem dX9_init_176 : decode cX9_init 176 = .ok (.bipush 8, 2) := by decide +kernel
theorem dX9_init_178 : decode cX9_init 178 = .ok (.if_icmp .ge 22, 3) := by decide +kernel
theorem dX9_init_181 : decode cX9_init 181 = .ok (.aload_n 0, 1) := by decide +kernel
theorem dX9_init_182 : decode cX9_init 182 = .ok (.getfield 79, 3) := by decide +kernel
theorem dX9_init_185 : decode cX9_init 185 = .ok (.iload_n 1, 1) := by decide +kernel
theorem dX9_init_186 : decode cX9_init 186 = .ok (.new 77, 3) := by decide +kernel
theorem dX9_init_189 : decode cX9_init 189 = .ok (.dup, 1) := by decide +kernel
theorem dX9_init_190 : decode cX9_init 190 = .ok (.invokespecial 91, 3) := by decide +kernel
theorem dX9_init_193 : decode cX9_init 193 = .ok (.aastore, 1) := by decide +kernel
theorem dX9_init_194 : decode cX9_init 194 = .ok (.iinc 1 1, 3) := by decide +kernel
theorem dX9_init_197 : decode cX9_init 197 = .ok (.goto (-22), 3) := by decide +kernel
theorem dX9_init_200 : decode cX9_init 200 = .ok (.return_, 1) := by decide +kernel
theorem dX9_feed_0 : decode cX9_feed 0 = .ok (.aload_n 0, 1) := by decide +kernel
theorem dX9_feed_1 : decode cX9_feed 1 = .ok (.getfield 12, 3) := by decide +kernel
theorem dX9_feed_4 : decode cX9_feed 4 = .ok (.getfield 92, 3) := by decide +kernel
theorem dX9_feed_7 : decode cX9_feed 7 = .ok (.sipush 1580, 3) := by decide +kernel
theorem dX9_feed_10 : decode cX9_feed 10 = .ok (.if_icmp .le 6, 3) := by decide +kernel
theorem dX9_feed_13 : decode cX9_feed 13 = .ok (.ldc 95, 2) := by decide +kernel
theorem dX9_feed_15 : decode cX9_feed 15 = .ok (.ireturn, 1) := by decide +kernel
theorem dX9_feed_16 : decode cX9_feed 16 = .ok (.aload_n 0, 1) := by decide +kernel
theorem dX9_feed_17 : decode cX9_feed 17 = .ok (.getfield 12, 3) := by decide +kernel
theorem dX9_feed_20 : decode cX9_feed 20 = .ok (.iload_n 1, 1) := by decide +kernel
theorem dX9_feed_21 : decode cX9_feed 21 = .ok (.invokevirtual 96, 3) := by decide +kernel
theorem dX9_feed_24 : decode cX9_feed 24 = .ok (.aload_n 0, 1) := by decide +kernel
theorem dX9_feed_25 : decode cX9_feed 25 = .ok (.getfield 12, 3) := by decide +kernel
theorem dX9_feed_28 : decode cX9_feed 28 = .ok (.iload_n 2, 1) := by decide +kernel
theorem dX9_feed_29 : decode cX9_feed 29 = .ok (.invokevirtual 96, 3) := by decide +kernel
theorem dX9_feed_32 : decode cX9_feed 32 = .ok (.aload_n 0, 1) := by decide +kernel
theorem dX9_feed_33 : decode cX9_feed 33 = .ok (.getfield 12, 3) := by decide +kernel
theorem dX9_feed_36 : decode cX9_feed 36 = .ok (.iload_n 3, 1) := by decide +kernel
theorem dX9_feed_37 : decode cX9_feed 37 = .ok (.invokevirtual 96, 3) := by decide +kernel
theorem dX9_feed_40 : decode cX9_feed 40 = .ok (.aload_n 0, 1) := by decide +kernel
theorem dX9_feed_41 : decode cX9_feed 41 = .ok (.getfield 12, 3) := by decide +kernel
theorem dX9_feed_44 : decode cX9_feed 44 = .ok (.iload 4, 2) := by decide +kernel
theorem dX9_feed_46 : decode cX9_feed 46 = .ok (.invokevirtual 96, 3) := by decide +kernel
theorem dX9_feed_49 : decode cX9_feed 49 = .ok (.aload_n 0, 1) := by decide +kernel
theorem dX9_feed_50 : decode cX9_feed 50 = .ok (.getfield 12, 3) := by decide +kernel
theorem dX9_feed_53 : decode cX9_feed 53 = .ok (.iload 5, 2) := by decide +kernel
theorem dX9_feed_55 : decode cX9_feed 55 = .ok (.invokevirtual 96, 3) := by decide +kernel
theorem dX9_feed_58 : decode cX9_feed 58 = .ok (.aload_n 0, 1) := by decide +kernel
theorem dX9_feed_59 : decode cX9_feed 59 = .ok (.getfield 12, 3) := by decide +kernel
theorem dX9_feed_62 : decode cX9_feed 62 = .ok (.getfield 92, 3) := by decide +kernel
theorem dX9_feed_65 : decode cX9_feed 65 = .ok (.ireturn, 1) := by decide +kernel
theorem dX9_cut_0 : decode cX9_cut 0 = .ok (.iload_n 1, 1) := by decide +kernel
theorem dX9_cut_1 : decode cX9_cut 1 = .ok (.ifCond .lt 14, 3) := by decide +kernel
theorem dX9_cut_4 : decode cX9_cut 4 = .ok (.iload_n 1, 1) := by decide +kernel
theorem dX9_cut_5 : decode cX9_cut 5 = .ok (.aload_n 0, 1) := by decide +kernel
theorem dX9_cut_6 : decode cX9_cut 6 = .ok (.getfield 12, 3) := by decide +kernel
theorem dX9_cut_9 : decode cX9_cut 9 = .ok (.getfield 92, 3) := by decide +kernel
theorem dX9_cut_12 : decode cX9_cut 12 = .ok (.if_icmp .le 6, 3) := by decide +kernel
theorem dX9_cut_15 : decode cX9_cut 15 = .ok (.ldc 99, 2) := by decide +kernel
theorem dX9_cut_17 : decode cX9_cut 17 = .ok (.ireturn, 1) := by decide +kernel
theorem dX9_cut_18 : decode cX9_cut 18 = .ok (.aload_n 0, 1) := by decide +kernel
theorem dX9_cut_19 : decode cX9_cut 19 = .ok (.getfield 12, 3) := by decide +kernel
theorem dX9_cut_22 : decode cX9_cut 22 = .ok (.getfield 92, 3) := by decide +kernel
theorem dX9_cut_25 : decode cX9_cut 25 = .ok (.iload_n 1, 1) := by decide +kernel
