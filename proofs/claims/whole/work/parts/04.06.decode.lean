theorem dX10_prepare_9 : decode cX10_prepare 9 = .ok (.if_icmp .ge 20, 3) := by decide +kernel
theorem dX10_prepare_12 : decode cX10_prepare 12 = .ok (.aload_n 0, 1) := by decide +kernel
theorem dX10_prepare_13 : decode cX10_prepare 13 = .ok (.getfield 73, 3) := by decide +kernel
theorem dX10_prepare_16 : decode cX10_prepare 16 = .ok (.iload_n 1, 1) := by decide +kernel
theorem dX10_prepare_17 : decode cX10_prepare 17 = .ok (.aload_n 0, 1) := by decide +kernel
theorem dX10_prepare_18 : decode cX10_prepare 18 = .ok (.iload_n 1, 1) := by decide +kernel
theorem dX10_prepare_19 : decode cX10_prepare 19 = .ok (.invokevirtual 227, 3) := by decide +kernel
theorem dX10_prepare_22 : decode cX10_prepare 22 = .ok (.iastore, 1) := by decide +kernel
theorem dX10_prepare_23 : decode cX10_prepare 23 = .ok (.iinc 1 1, 3) := by decide +kernel
theorem dX10_prepare_26 : decode cX10_prepare 26 = .ok (.goto (-24), 3) := by decide +kernel
theorem dX10_prepare_29 : decode cX10_prepare 29 = .ok (.iconst 0, 1) := by decide +kernel
theorem dX10_prepare_30 : decode cX10_prepare 30 = .ok (.istore_n 1, 1) := by decide +kernel
theorem dX10_prepare_31 : decode cX10_prepare 31 = .ok (.iload_n 1, 1) := by decide +kernel
theorem dX10_prepare_32 : decode cX10_prepare 32 = .ok (.iconst 2, 1) := by decide +kernel
theorem dX10_prepare_33 : decode cX10_prepare 33 = .ok (.if_icmp .ge 44, 3) := by decide +kernel
theorem dX10_prepare_36 : decode cX10_prepare 36 = .ok (.iconst 0, 1) := by decide +kernel
theorem dX10_prepare_37 : decode cX10_prepare 37 = .ok (.istore_n 2, 1) := by decide +kernel
theorem dX10_prepare_38 : decode cX10_prepare 38 = .ok (.iload_n 2, 1) := by decide +kernel
theorem dX10_prepare_39 : decode cX10_prepare 39 = .ok (.aload_n 0, 1) := by decide +kernel
theorem dX10_prepare_40 : decode cX10_prepare 40 = .ok (.getfield 19, 3) := by decide +kernel
theorem dX10_prepare_43 : decode cX10_prepare 43 = .ok (.iload_n 1, 1) := by decide +kernel
theorem dX10_prepare_44 : decode cX10_prepare 44 = .ok (.iaload, 1) := by decide +kernel
theorem dX10_prepare_45 : decode cX10_prepare 45 = .ok (.if_icmp .ge 26, 3) := by decide +kernel
theorem dX10_prepare_48 : decode cX10_prepare 48 = .ok (.aload_n 0, 1) := by decide +kernel
theorem dX10_prepare_49 : decode cX10_prepare 49 = .ok (.getfield 76, 3) := by decide +kernel
theorem dX10_prepare_52 : decode cX10_prepare 52 = .ok (.bipush 20, 2) := by decide +kernel
theorem dX10_prepare_54 : decode cX10_prepare 54 = .ok (.iload_n 1, 1) := by decide +kernel
theorem dX10_prepare_55 : decode cX10_prepare 55 = .ok (.imul, 1) := by decide +kernel
theorem dX10_prepare_56 : decode cX10_prepare 56 = .ok (.iload_n 2, 1) := by decide +kernel
theorem dX10_prepare_57 : decode cX10_prepare 57 = .ok (.iadd, 1) := by decide +kernel
theorem dX10_prepare_58 : decode cX10_prepare 58 = .ok (.aload_n 0, 1) := by decide +kernel
theorem dX10_prepare_59 : decode cX10_prepare 59 = .ok (.iload_n 1, 1) := by decide +kernel
theorem dX10_prepare_60 : decode cX10_prepare 60 = .ok (.iload_n 2, 1) := by decide +kernel
theorem dX10_prepare_61 : decode cX10_prepare 61 = .ok (.invokevirtual 205, 3) := by decide +kernel
theorem dX10_prepare_64 : decode cX10_prepare 64 = .ok (.iastore, 1) := by decide +kernel
theorem dX10_prepare_65 : decode cX10_prepare 65 = .ok (.iinc 2 1, 3) := by decide +kernel
theorem dX10_prepare_68 : decode cX10_prepare 68 = .ok (.goto (-30), 3) := by decide +kernel
theorem dX10_prepare_71 : decode cX10_prepare 71 = .ok (.iinc 1 1, 3) := by decide +kernel
theorem dX10_prepare_74 : decode cX10_prepare 74 = .ok (.goto (-43), 3) := by decide +kernel
theorem dX10_prepare_77 : decode cX10_prepare 77 = .ok (.aload_n 0, 1) := by decide +kernel
theorem dX10_prepare_78 : decode cX10_prepare 78 = .ok (.aload_n 0, 1) := by decide +kernel
theorem dX10_prepare_79 : decode cX10_prepare 79 = .ok (.iconst 0, 1) := by decide +kernel
theorem dX10_prepare_80 : decode cX10_prepare 80 = .ok (.invokevirtual 209, 3) := by decide +kernel
theorem dX10_prepare_83 : decode cX10_prepare 83 = .ok (.i2l, 1) := by decide +kernel
theorem dX10_prepare_84 : decode cX10_prepare 84 = .ok (.putfield 230, 3) := by decide +kernel
theorem dX10_prepare_87 : decode cX10_prepare 87 = .ok (.aload_n 0, 1) := by decide +kernel
theorem dX10_prepare_88 : decode cX10_prepare 88 = .ok (.aload_n 0, 1) := by decide +kernel
theorem dX10_prepare_89 : decode cX10_prepare 89 = .ok (.iconst 1, 1) := by decide +kernel
theorem dX10_prepare_90 : decode cX10_prepare 90 = .ok (.invokevirtual 209, 3) := by decide +kernel
theorem dX10_prepare_93 : decode cX10_prepare 93 = .ok (.i2l, 1) := by decide +kernel
theorem dX10_prepare_94 : decode cX10_prepare 94 = .ok (.putfield 234, 3) := by decide +kernel
theorem dX10_prepare_97 : decode cX10_prepare 97 = .ok (.return_, 1) := by decide +kernel
theorem dX10_square_0 : decode cX10_square 0 = .ok (.aload_n 0, 1) := by decide +kernel
theorem dX10_square_1 : decode cX10_square 1 = .ok (.getfield 230, 3) := by decide +kernel
theorem dX10_square_4 : decode cX10_square 4 = .ok (.lstore 5, 2) := by decide +kernel
theorem dX10_square_6 : decode cX10_square 6 = .ok (.aload_n 0, 1) := by decide +kernel
theorem dX10_square_7 : decode cX10_square 7 = .ok (.getfield 234, 3) := by decide +kernel
theorem dX10_square_10 : decode cX10_square 10 = .ok (.lstore 7, 2) := by decide +kernel
theorem dX10_square_12 : decode cX10_square 12 = .ok (.lload_n 1, 1) := by decide +kernel
theorem dX10_square_13 : decode cX10_square 13 = .ok (.lload 7, 2) := by decide +kernel
theorem dX10_square_15 : decode cX10_square 15 = .ok (.lmul, 1) := by decide +kernel
theorem dX10_square_16 : decode cX10_square 16 = .ok (.lload_n 3, 1) := by decide +kernel
theorem dX10_square_17 : decode cX10_square 17 = .ok (.lload 5, 2) := by decide +kernel
theorem dX10_square_19 : decode cX10_square 19 = .ok (.lmul, 1) := by decide +kernel
theorem dX10_square_20 : decode cX10_square 20 = .ok (.lsub, 1) := by decide +kernel
theorem dX10_square_21 : decode cX10_square 21 = .ok (.lstore 9, 2) := by decide +kernel
theorem dX10_square_23 : decode cX10_square 23 = .ok (.lload 9, 2) := by decide +kernel
theorem dX10_square_25 : decode cX10_square 25 = .ok (.lconst 0, 1) := by decide +kernel
theorem dX10_square_26 : decode cX10_square 26 = .ok (.lcmp, 1) := by decide +kernel
theorem dX10_square_27 : decode cX10_square 27 = .ok (.ifCond .ge 9, 3) := by decide +kernel
theorem dX10_square_30 : decode cX10_square 30 = .ok (.lload 9, 2) := by decide +kernel
theorem dX10_square_32 : decode cX10_square 32 = .ok (.lneg, 1) := by decide +kernel
theorem dX10_square_33 : decode cX10_square 33 = .ok (.goto 5, 3) := by decide +kernel
theorem dX10_square_36 : decode cX10_square 36 = .ok (.lload 9, 2) := by decide +kernel
theorem dX10_square_38 : decode cX10_square 38 = .ok (.ldc2_w 237, 3) := by decide +kernel
theorem dX10_square_41 : decode cX10_square 41 = .ok (.lmul, 1) := by decide +kernel
theorem dX10_square_42 : decode cX10_square 42 = .ok (.lload_n 1, 1) := by decide +kernel
theorem dX10_square_43 : decode cX10_square 43 = .ok (.lload 7, 2) := by decide +kernel
theorem dX10_square_45 : decode cX10_square 45 = .ok (.lmul, 1) := by decide +kernel
theorem dX10_square_46 : decode cX10_square 46 = .ok (.lload_n 3, 1) := by decide +kernel
theorem dX10_square_47 : decode cX10_square 47 = .ok (.lload 5, 2) := by decide +kernel
theorem dX10_square_49 : decode cX10_square 49 = .ok (.lmul, 1) := by decide +kernel
theorem dX10_square_50 : decode cX10_square 50 = .ok (.ladd, 1) := by decide +kernel
theorem dX10_square_51 : decode cX10_square 51 = .ok (.ldiv, 1) := by decide +kernel
theorem dX10_square_52 : decode cX10_square 52 = .ok (.lstore 11, 2) := by decide +kernel
theorem dX10_square_54 : decode cX10_square 54 = .ok (.lload 11, 2) := by decide +kernel
theorem dX10_square_56 : decode cX10_square 56 = .ok (.lload 11, 2) := by decide +kernel
theorem dX10_square_58 : decode cX10_square 58 = .ok (.lmul, 1) := by decide +kernel
theorem dX10_square_59 : decode cX10_square 59 = .ok (.l2i, 1) := by decide +kernel
theorem dX10_square_60 : decode cX10_square 60 = .ok (.ireturn, 1) := by decide +kernel
theorem dX10_hasWord_0 : decode cX10_hasWord 0 = .ok (.iconst 0, 1) := by decide +kernel
theorem dX10_hasWord_1 : decode cX10_hasWord 1 = .ok (.istore 5, 2) := by decide +kernel
theorem dX10_hasWord_3 : decode cX10_hasWord 3 = .ok (.iload_n 2, 1) := by decide +kernel
theorem dX10_hasWord_4 : decode cX10_hasWord 4 = .ok (.istore 6, 2) := by decide +kernel
theorem dX10_hasWord_6 : decode cX10_hasWord 6 = .ok (.iload 6, 2) := by decide +kernel
theorem dX10_hasWord_8 : decode cX10_hasWord 8 = .ok (.iload_n 2, 1) := by decide +kernel
theorem dX10_hasWord_9 : decode cX10_hasWord 9 = .ok (.iload_n 3, 1) := by decide +kernel
theorem dX10_hasWord_10 : decode cX10_hasWord 10 = .ok (.iadd, 1) := by decide +kernel
theorem dX10_hasWord_11 : decode cX10_hasWord 11 = .ok (.if_icmp .ge 61, 3) := by decide +kernel
theorem dX10_hasWord_14 : decode cX10_hasWord 14 = .ok (.iconst 0, 1) := by decide +kernel
theorem dX10_hasWord_15 : decode cX10_hasWord 15 = .ok (.istore 7, 2) := by decide +kernel
theorem dX10_hasWord_17 : decode cX10_hasWord 17 = .ok (.iload 7, 2) := by decide +kernel
theorem dX10_hasWord_19 : decode cX10_hasWord 19 = .ok (.aload_n 0, 1) := by decide +kernel
theorem dX10_hasWord_20 : decode cX10_hasWord 20 = .ok (.getfield 22, 3) := by decide +kernel
theorem dX10_hasWord_23 : decode cX10_hasWord 23 = .ok (.bipush 20, 2) := by decide +kernel
theorem dX10_hasWord_25 : decode cX10_hasWord 25 = .ok (.iload_n 1, 1) := by decide +kernel
theorem dX10_hasWord_26 : decode cX10_hasWord 26 = .ok (.imul, 1) := by decide +kernel
theorem dX10_hasWord_27 : decode cX10_hasWord 27 = .ok (.iload 6, 2) := by decide +kernel
theorem dX10_hasWord_29 : decode cX10_hasWord 29 = .ok (.iadd, 1) := by decide +kernel
theorem dX10_hasWord_30 : decode cX10_hasWord 30 = .ok (.iaload, 1) := by decide +kernel
theorem dX10_hasWord_31 : decode cX10_hasWord 31 = .ok (.if_icmp .ge 35, 3) := by decide +kernel
theorem dX10_hasWord_34 : decode cX10_hasWord 34 = .ok (.iload 5, 2) := by decide +kernel
theorem dX10_hasWord_36 : decode cX10_hasWord 36 = .ok (.ifCond .ne 17, 3) := by decide +kernel
theorem dX10_hasWord_39 : decode cX10_hasWord 39 = .ok (.aload_n 0, 1) := by decide +kernel
theorem dX10_hasWord_40 : decode cX10_hasWord 40 = .ok (.iload_n 1, 1) := by decide +kernel
theorem dX10_hasWord_41 : decode cX10_hasWord 41 = .ok (.iload 6, 2) := by decide +kernel
theorem dX10_hasWord_43 : decode cX10_hasWord 43 = .ok (.iload 7, 2) := by decide +kernel
theorem dX10_hasWord_45 : decode cX10_hasWord 45 = .ok (.invokevirtual 201, 3) := by decide +kernel
theorem dX10_hasWord_48 : decode cX10_hasWord 48 = .ok (.iload 4, 2) := by decide +kernel
theorem dX10_hasWord_50 : decode cX10_hasWord 50 = .ok (.if_icmp .ne 7, 3) := by decide +kernel
theorem dX10_hasWord_53 : decode cX10_hasWord 53 = .ok (.iconst 1, 1) := by decide +kernel
theorem dX10_hasWord_54 : decode cX10_hasWord 54 = .ok (.goto 4, 3) := by decide +kernel
theorem dX10_hasWord_57 : decode cX10_hasWord 57 = .ok (.iconst 0, 1) := by decide +kernel
theorem dX10_hasWord_58 : decode cX10_hasWord 58 = .ok (.istore 5, 2) := by decide +kernel
theorem dX10_hasWord_60 : decode cX10_hasWord 60 = .ok (.iinc 7 1, 3) := by decide +kernel
theorem dX10_hasWord_63 : decode cX10_hasWord 63 = .ok (.goto (-46), 3) := by decide +kernel
theorem dX10_hasWord_66 : decode cX10_hasWord 66 = .ok (.iinc 6 1, 3) := by decide +kernel
theorem dX10_hasWord_69 : decode cX10_hasWord 69 = .ok (.goto (-63), 3) := by decide +kernel
theorem dX10_hasWord_72 : decode cX10_hasWord 72 = .ok (.iload 5, 2) := by decide +kernel
theorem dX10_hasWord_74 : decode cX10_hasWord 74 = .ok (.ireturn, 1) := by decide +kernel
theorem dX10_known_0 : decode cX10_known 0 = .ok (.iconst 0, 1) := by decide +kernel
theorem dX10_known_1 : decode cX10_known 1 = .ok (.istore 5, 2) := by decide +kernel
theorem dX10_known_3 : decode cX10_known 3 = .ok (.iload_n 1, 1) := by decide +kernel
theorem dX10_known_4 : decode cX10_known 4 = .ok (.istore 6, 2) := by decide +kernel
theorem dX10_known_6 : decode cX10_known 6 = .ok (.iload 6, 2) := by decide +kernel
theorem dX10_known_8 : decode cX10_known 8 = .ok (.iload_n 1, 1) := by decide +kernel
theorem dX10_known_9 : decode cX10_known 9 = .ok (.iload_n 2, 1) := by decide +kernel
theorem dX10_known_10 : decode cX10_known 10 = .ok (.iadd, 1) := by decide +kernel
theorem dX10_known_11 : decode cX10_known 11 = .ok (.if_icmp .ge 74, 3) := by decide +kernel
theorem dX10_known_14 : decode cX10_known 14 = .ok (.iconst 0, 1) := by decide +kernel
theorem dX10_known_15 : decode cX10_known 15 = .ok (.istore 7, 2) := by decide +kernel
theorem dX10_known_17 : decode cX10_known 17 = .ok (.iload 7, 2) := by decide +kernel
theorem dX10_known_19 : decode cX10_known 19 = .ok (.aload_n 0, 1) := by decide +kernel
theorem dX10_known_20 : decode cX10_known 20 = .ok (.getfield 22, 3) := by decide +kernel
theorem dX10_known_23 : decode cX10_known 23 = .ok (.iload 6, 2) := by decide +kernel
theorem dX10_known_25 : decode cX10_known 25 = .ok (.iaload, 1) := by decide +kernel
theorem dX10_known_26 : decode cX10_known 26 = .ok (.if_icmp .ge 53, 3) := by decide +kernel
theorem dX10_known_29 : decode cX10_known 29 = .ok (.aload_n 0, 1) := by decide +kernel
theorem dX10_known_30 : decode cX10_known 30 = .ok (.getfield 73, 3) := by decide +kernel
theorem dX10_known_33 : decode cX10_known 33 = .ok (.aload_n 0, 1) := by decide +kernel
theorem dX10_known_34 : decode cX10_known 34 = .ok (.iconst 0, 1) := by decide +kernel
theorem dX10_known_35 : decode cX10_known 35 = .ok (.iload 6, 2) := by decide +kernel
theorem dX10_known_37 : decode cX10_known 37 = .ok (.iload 7, 2) := by decide +kernel
theorem dX10_known_39 : decode cX10_known 39 = .ok (.invokevirtual 201, 3) := by decide +kernel
theorem dX10_known_42 : decode cX10_known 42 = .ok (.iaload, 1) := by decide +kernel
theorem dX10_known_43 : decode cX10_known 43 = .ok (.istore 8, 2) := by decide +kernel
theorem dX10_known_45 : decode cX10_known 45 = .ok (.iload 5, 2) := by decide +kernel
theorem dX10_known_47 : decode cX10_known 47 = .ok (.iload 8, 2) := by decide +kernel
theorem dX10_known_49 : decode cX10_known 49 = .ok (.ifCond .lt 20, 3) := by decide +kernel
theorem dX10_known_52 : decode cX10_known 52 = .ok (.aload_n 0, 1) := by decide +kernel
theorem dX10_known_53 : decode cX10_known 53 = .ok (.iconst 1, 1) := by decide +kernel
theorem dX10_known_54 : decode cX10_known 54 = .ok (.iload_n 3, 1) := by decide +kernel
theorem dX10_known_55 : decode cX10_known 55 = .ok (.iload 4, 2) := by decide +kernel
theorem dX10_known_57 : decode cX10_known 57 = .ok (.iload 8, 2) := by decide +kernel
theorem dX10_known_59 : decode cX10_known 59 = .ok (.invokevirtual 239, 3) := by decide +kernel
theorem dX10_known_62 : decode cX10_known 62 = .ok (.ifCond .eq 7, 3) := by decide +kernel
theorem dX10_known_65 : decode cX10_known 65 = .ok (.iconst 1, 1) := by decide +kernel
theorem dX10_known_66 : decode cX10_known 66 = .ok (.goto 4, 3) := by decide +kernel
theorem dX10_known_69 : decode cX10_known 69 = .ok (.iconst 0, 1) := by decide +kernel
theorem dX10_known_70 : decode cX10_known 70 = .ok (.iadd, 1) := by decide +kernel
theorem dX10_known_71 : decode cX10_known 71 = .ok (.istore 5, 2) := by decide +kernel
theorem dX10_known_73 : decode cX10_known 73 = .ok (.iinc 7 1, 3) := by decide +kernel
theorem dX10_known_76 : decode cX10_known 76 = .ok (.goto (-59), 3) := by decide +kernel
theorem dX10_known_79 : decode cX10_known 79 = .ok (.iinc 6 1, 3) := by decide +kernel
theorem dX10_known_82 : decode cX10_known 82 = .ok (.goto (-76), 3) := by decide +kernel
theorem dX10_known_85 : decode cX10_known 85 = .ok (.iload 5, 2) := by decide +kernel
theorem dX10_known_87 : decode cX10_known 87 = .ok (.ireturn, 1) := by decide +kernel
theorem dX10_price0_0 : decode cX10_price0 0 = .ok (.iload_n 0, 1) := by decide +kernel
theorem dX10_price0_1 : decode cX10_price0 1 = .ok (.ifCond .ne 7, 3) := by decide +kernel
theorem dX10_price0_4 : decode cX10_price0 4 = .ok (.iconst 0, 1) := by decide +kernel
theorem dX10_price0_5 : decode cX10_price0 5 = .ok (.goto 39, 3) := by decide +kernel
theorem dX10_price0_8 : decode cX10_price0 8 = .ok (.iload_n 0, 1) := by decide +kernel
theorem dX10_price0_9 : decode cX10_price0 9 = .ok (.iconst 3, 1) := by decide +kernel
theorem dX10_price0_10 : decode cX10_price0 10 = .ok (.if_icmp .ge 9, 3) := by decide +kernel
theorem dX10_price0_13 : decode cX10_price0 13 = .ok (.sipush 450, 3) := by decide +kernel
theorem dX10_price0_16 : decode cX10_price0 16 = .ok (.goto 28, 3) := by decide +kernel
theorem dX10_price0_19 : decode cX10_price0 19 = .ok (.iload_n 0, 1) := by decide +kernel
theorem dX10_price0_20 : decode cX10_price0 20 = .ok (.iconst 5, 1) := by decide +kernel
theorem dX10_price0_21 : decode cX10_price0 21 = .ok (.if_icmp .ge 9, 3) := by decide +kernel
theorem dX10_price0_24 : decode cX10_price0 24 = .ok (.sipush 230, 3) := by decide +kernel
theorem dX10_price0_27 : decode cX10_price0 27 = .ok (.goto 17, 3) := by decide +kernel
theorem dX10_price0_30 : decode cX10_price0 30 = .ok (.iload_n 0, 1) := by decide +kernel
theorem dX10_price0_31 : decode cX10_price0 31 = .ok (.iconst 5, 1) := by decide +kernel
theorem dX10_price0_32 : decode cX10_price0 32 = .ok (.if_icmp .ne 9, 3) := by decide +kernel
theorem dX10_price0_35 : decode cX10_price0 35 = .ok (.sipush 440, 3) := by decide +kernel
theorem dX10_price0_38 : decode cX10_price0 38 = .ok (.goto 6, 3) := by decide +kernel
theorem dX10_price0_41 : decode cX10_price0 41 = .ok (.sipush 480, 3) := by decide +kernel
theorem dX10_price0_44 : decode cX10_price0 44 = .ok (.ireturn, 1) := by decide +kernel
theorem dX10_priceOf_0 : decode cX10_priceOf 0 = .ok (.iload_n 1, 1) := by decide +kernel
theorem dX10_priceOf_1 : decode cX10_priceOf 1 = .ok (.invokestatic 243, 3) := by decide +kernel
theorem dX10_priceOf_4 : decode cX10_priceOf 4 = .ok (.istore 4, 2) := by decide +kernel
theorem dX10_priceOf_6 : decode cX10_priceOf 6 = .ok (.iload_n 1, 1) := by decide +kernel
theorem dX10_priceOf_7 : decode cX10_priceOf 7 = .ok (.iconst 1, 1) := by decide +kernel
theorem dX10_priceOf_8 : decode cX10_priceOf 8 = .ok (.if_icmp .eq 8, 3) := by decide +kernel
theorem dX10_priceOf_11 : decode cX10_priceOf 11 = .ok (.iload_n 1, 1) := by decide +kernel
theorem dX10_priceOf_12 : decode cX10_priceOf 12 = .ok (.iconst 2, 1) := by decide +kernel
theorem dX10_priceOf_13 : decode cX10_priceOf 13 = .ok (.if_icmp .ne 6, 3) := by decide +kernel
theorem dX10_priceOf_16 : decode cX10_priceOf 16 = .ok (.iload 4, 2) := by decide +kernel
theorem dX10_priceOf_18 : decode cX10_priceOf 18 = .ok (.ireturn, 1) := by decide +kernel
theorem dX10_priceOf_19 : decode cX10_priceOf 19 = .ok (.iload_n 1, 1) := by decide +kernel
theorem dX10_priceOf_20 : decode cX10_priceOf 20 = .ok (.bipush 6, 2) := by decide +kernel
theorem dX10_priceOf_22 : decode cX10_priceOf 22 = .ok (.if_icmp .ne 79, 3) := by decide +kernel
theorem dX10_priceOf_25 : decode cX10_priceOf 25 = .ok (.iload 4, 2) := by decide +kernel
theorem dX10_priceOf_27 : decode cX10_priceOf 27 = .ok (.aload_n 0, 1) := by decide +kernel
theorem dX10_priceOf_28 : decode cX10_priceOf 28 = .ok (.aload_n 0, 1) := by decide +kernel
theorem dX10_priceOf_29 : decode cX10_priceOf 29 = .ok (.getfield 76, 3) := by decide +kernel
theorem dX10_priceOf_32 : decode cX10_priceOf 32 = .ok (.iload_n 2, 1) := by decide +kernel
theorem dX10_priceOf_33 : decode cX10_priceOf 33 = .ok (.iaload, 1) := by decide +kernel
theorem dX10_priceOf_34 : decode cX10_priceOf 34 = .ok (.i2l, 1) := by decide +kernel
theorem dX10_priceOf_35 : decode cX10_priceOf 35 = .ok (.aload_n 0, 1) := by decide +kernel
theorem dX10_priceOf_36 : decode cX10_priceOf 36 = .ok (.getfield 76, 3) := by decide +kernel
theorem dX10_priceOf_39 : decode cX10_priceOf 39 = .ok (.bipush 21, 2) := by decide +kernel
theorem dX10_priceOf_41 : decode cX10_priceOf 41 = .ok (.iload_n 3, 1) := by decide +kernel
theorem dX10_priceOf_42 : decode cX10_priceOf 42 = .ok (.iadd, 1) := by decide +kernel
theorem dX10_priceOf_43 : decode cX10_priceOf 43 = .ok (.iaload, 1) := by decide +kernel
theorem dX10_priceOf_44 : decode cX10_priceOf 44 = .ok (.i2l, 1) := by decide +kernel
theorem dX10_priceOf_45 : decode cX10_priceOf 45 = .ok (.invokevirtual 246, 3) := by decide +kernel
theorem dX10_priceOf_48 : decode cX10_priceOf 48 = .ok (.aload_n 0, 1) := by decide +kernel
theorem dX10_priceOf_49 : decode cX10_priceOf 49 = .ok (.aload_n 0, 1) := by decide +kernel
theorem dX10_priceOf_50 : decode cX10_priceOf 50 = .ok (.getfield 76, 3) := by decide +kernel
theorem dX10_priceOf_53 : decode cX10_priceOf 53 = .ok (.iload_n 2, 1) := by decide +kernel
theorem dX10_priceOf_54 : decode cX10_priceOf 54 = .ok (.iconst 1, 1) := by decide +kernel
theorem dX10_priceOf_55 : decode cX10_priceOf 55 = .ok (.iadd, 1) := by decide +kernel
theorem dX10_priceOf_56 : decode cX10_priceOf 56 = .ok (.iaload, 1) := by decide +kernel
theorem dX10_priceOf_57 : decode cX10_priceOf 57 = .ok (.i2l, 1) := by decide +kernel
theorem dX10_priceOf_58 : decode cX10_priceOf 58 = .ok (.aload_n 0, 1) := by decide +kernel
theorem dX10_priceOf_59 : decode cX10_priceOf 59 = .ok (.getfield 76, 3) := by decide +kernel
theorem dX10_priceOf_62 : decode cX10_priceOf 62 = .ok (.bipush 20, 2) := by decide +kernel
theorem dX10_priceOf_64 : decode cX10_priceOf 64 = .ok (.iload_n 3, 1) := by decide +kernel
theorem dX10_priceOf_65 : decode cX10_priceOf 65 = .ok (.iadd, 1) := by decide +kernel
theorem dX10_priceOf_66 : decode cX10_priceOf 66 = .ok (.iaload, 1) := by decide +kernel
theorem dX10_priceOf_67 : decode cX10_priceOf 67 = .ok (.i2l, 1) := by decide +kernel
theorem dX10_priceOf_68 : decode cX10_priceOf 68 = .ok (.invokevirtual 246, 3) := by decide +kernel
theorem dX10_priceOf_71 : decode cX10_priceOf 71 = .ok (.iadd, 1) := by decide +kernel
theorem dX10_priceOf_72 : decode cX10_priceOf 72 = .ok (.iadd, 1) := by decide +kernel
theorem dX10_priceOf_73 : decode cX10_priceOf 73 = .ok (.istore 4, 2) := by decide +kernel
theorem dX10_priceOf_75 : decode cX10_priceOf 75 = .ok (.aload_n 0, 1) := by decide +kernel
theorem dX10_priceOf_76 : decode cX10_priceOf 76 = .ok (.iload_n 2, 1) := by decide +kernel
theorem dX10_priceOf_77 : decode cX10_priceOf 77 = .ok (.iconst 1, 1) := by decide +kernel
theorem dX10_priceOf_78 : decode cX10_priceOf 78 = .ok (.iload_n 3, 1) := by decide +kernel
theorem dX10_priceOf_79 : decode cX10_priceOf 79 = .ok (.iconst 1, 1) := by decide +kernel
theorem dX10_priceOf_80 : decode cX10_priceOf 80 = .ok (.iadd, 1) := by decide +kernel
theorem dX10_priceOf_81 : decode cX10_priceOf 81 = .ok (.iconst 1, 1) := by decide +kernel
theorem dX10_priceOf_82 : decode cX10_priceOf 82 = .ok (.invokevirtual 250, 3) := by decide +kernel
theorem dX10_priceOf_85 : decode cX10_priceOf 85 = .ok (.aload_n 0, 1) := by decide +kernel
theorem dX10_priceOf_86 : decode cX10_priceOf 86 = .ok (.iload_n 2, 1) := by decide +kernel
theorem dX10_priceOf_87 : decode cX10_priceOf 87 = .ok (.iconst 1, 1) := by decide +kernel
theorem dX10_priceOf_88 : decode cX10_priceOf 88 = .ok (.iadd, 1) := by decide +kernel
theorem dX10_priceOf_89 : decode cX10_priceOf 89 = .ok (.iconst 1, 1) := by decide +kernel
theorem dX10_priceOf_90 : decode cX10_priceOf 90 = .ok (.iload_n 3, 1) := by decide +kernel
theorem dX10_priceOf_91 : decode cX10_priceOf 91 = .ok (.iconst 1, 1) := by decide +kernel
theorem dX10_priceOf_92 : decode cX10_priceOf 92 = .ok (.invokevirtual 250, 3) := by decide +kernel
theorem dX10_priceOf_95 : decode cX10_priceOf 95 = .ok (.iadd, 1) := by decide +kernel
theorem dX10_priceOf_96 : decode cX10_priceOf 96 = .ok (.istore 5, 2) := by decide +kernel
theorem dX10_priceOf_98 : decode cX10_priceOf 98 = .ok (.goto 96, 3) := by decide +kernel
theorem dX10_priceOf_101 : decode cX10_priceOf 101 = .ok (.aload_n 0, 1) := by decide +kernel
theorem dX10_priceOf_102 : decode cX10_priceOf 102 = .ok (.getfield 76, 3) := by decide +kernel
theorem dX10_priceOf_105 : decode cX10_priceOf 105 = .ok (.iload_n 2, 1) := by decide +kernel
theorem dX10_priceOf_106 : decode cX10_priceOf 106 = .ok (.iaload, 1) := by decide +kernel
theorem dX10_priceOf_107 : decode cX10_priceOf 107 = .ok (.iload_n 1, 1) := by decide +kernel
theorem dX10_priceOf_108 : decode cX10_priceOf 108 = .ok (.invokestatic 254, 3) := by decide +kernel
theorem dX10_priceOf_111 : decode cX10_priceOf 111 = .ok (.iconst 2, 1) := by decide +kernel
theorem dX10_priceOf_112 : decode cX10_priceOf 112 = .ok (.if_icmp .ne 14, 3) := by decide +kernel
theorem dX10_priceOf_115 : decode cX10_priceOf 115 = .ok (.aload_n 0, 1) := by decide +kernel
theorem dX10_priceOf_116 : decode cX10_priceOf 116 = .ok (.getfield 76, 3) := by decide +kernel
theorem dX10_priceOf_119 : decode cX10_priceOf 119 = .ok (.iload_n 2, 1) := by decide +kernel
theorem dX10_priceOf_120 : decode cX10_priceOf 120 = .ok (.iconst 1, 1) := by decide +kernel
theorem dX10_priceOf_121 : decode cX10_priceOf 121 = .ok (.iadd, 1) := by decide +kernel
theorem dX10_priceOf_122 : decode cX10_priceOf 122 = .ok (.iaload, 1) := by decide +kernel
theorem dX10_priceOf_123 : decode cX10_priceOf 123 = .ok (.goto 4, 3) := by decide +kernel
theorem dX10_priceOf_126 : decode cX10_priceOf 126 = .ok (.iconst 0, 1) := by decide +kernel
theorem dX10_priceOf_127 : decode cX10_priceOf 127 = .ok (.iadd, 1) := by decide +kernel
theorem dX10_priceOf_128 : decode cX10_priceOf 128 = .ok (.istore 6, 2) := by decide +kernel
theorem dX10_priceOf_130 : decode cX10_priceOf 130 = .ok (.aload_n 0, 1) := by decide +kernel
theorem dX10_priceOf_131 : decode cX10_priceOf 131 = .ok (.getfield 76, 3) := by decide +kernel
theorem dX10_priceOf_134 : decode cX10_priceOf 134 = .ok (.bipush 20, 2) := by decide +kernel
theorem dX10_priceOf_136 : decode cX10_priceOf 136 = .ok (.iload_n 3, 1) := by decide +kernel
theorem dX10_priceOf_137 : decode cX10_priceOf 137 = .ok (.iadd, 1) := by decide +kernel
theorem dX10_priceOf_138 : decode cX10_priceOf 138 = .ok (.iaload, 1) := by decide +kernel
theorem dX10_priceOf_139 : decode cX10_priceOf 139 = .ok (.iload_n 1, 1) := by decide +kernel
theorem dX10_priceOf_140 : decode cX10_priceOf 140 = .ok (.invokestatic 257, 3) := by decide +kernel
theorem dX10_priceOf_143 : decode cX10_priceOf 143 = .ok (.iconst 2, 1) := by decide +kernel
theorem dX10_priceOf_144 : decode cX10_priceOf 144 = .ok (.if_icmp .ne 15, 3) := by decide +kernel
theorem dX10_priceOf_147 : decode cX10_priceOf 147 = .ok (.aload_n 0, 1) := by decide +kernel
theorem dX10_priceOf_148 : decode cX10_priceOf 148 = .ok (.getfield 76, 3) := by decide +kernel
theorem dX10_priceOf_151 : decode cX10_priceOf 151 = .ok (.bipush 21, 2) := by decide +kernel
theorem dX10_priceOf_153 : decode cX10_priceOf 153 = .ok (.iload_n 3, 1) := by decide +kernel
theorem dX10_priceOf_154 : decode cX10_priceOf 154 = .ok (.iadd, 1) := by decide +kernel
theorem dX10_priceOf_155 : decode cX10_priceOf 155 = .ok (.iaload, 1) := by decide +kernel
theorem dX10_priceOf_156 : decode cX10_priceOf 156 = .ok (.goto 4, 3) := by decide +kernel
theorem dX10_priceOf_159 : decode cX10_priceOf 159 = .ok (.iconst 0, 1) := by decide +kernel
theorem dX10_priceOf_160 : decode cX10_priceOf 160 = .ok (.iadd, 1) := by decide +kernel
theorem dX10_priceOf_161 : decode cX10_priceOf 161 = .ok (.istore 7, 2) := by decide +kernel
theorem dX10_priceOf_163 : decode cX10_priceOf 163 = .ok (.iload 4, 2) := by decide +kernel
theorem dX10_priceOf_165 : decode cX10_priceOf 165 = .ok (.aload_n 0, 1) := by decide +kernel
theorem dX10_priceOf_166 : decode cX10_priceOf 166 = .ok (.iload 6, 2) := by decide +kernel
theorem dX10_priceOf_168 : decode cX10_priceOf 168 = .ok (.i2l, 1) := by decide +kernel
theorem dX10_priceOf_169 : decode cX10_priceOf 169 = .ok (.iload 7, 2) := by decide +kernel
theorem dX10_priceOf_171 : decode cX10_priceOf 171 = .ok (.i2l, 1) := by decide +kernel
theorem dX10_priceOf_172 : decode cX10_priceOf 172 = .ok (.invokevirtual 246, 3) := by decide +kernel
theorem dX10_priceOf_175 : decode cX10_priceOf 175 = .ok (.iadd, 1) := by decide +kernel
theorem dX10_priceOf_176 : decode cX10_priceOf 176 = .ok (.istore 4, 2) := by decide +kernel
theorem dX10_priceOf_178 : decode cX10_priceOf 178 = .ok (.aload_n 0, 1) := by decide +kernel
theorem dX10_priceOf_179 : decode cX10_priceOf 179 = .ok (.iload_n 2, 1) := by decide +kernel
theorem dX10_priceOf_180 : decode cX10_priceOf 180 = .ok (.iload_n 1, 1) := by decide +kernel
theorem dX10_priceOf_181 : decode cX10_priceOf 181 = .ok (.invokestatic 254, 3) := by decide +kernel
theorem dX10_priceOf_184 : decode cX10_priceOf 184 = .ok (.iload_n 3, 1) := by decide +kernel
theorem dX10_priceOf_185 : decode cX10_priceOf 185 = .ok (.iload_n 1, 1) := by decide +kernel
theorem dX10_priceOf_186 : decode cX10_priceOf 186 = .ok (.invokestatic 257, 3) := by decide +kernel
theorem dX10_priceOf_189 : decode cX10_priceOf 189 = .ok (.invokevirtual 250, 3) := by decide +kernel
theorem dX10_priceOf_192 : decode cX10_priceOf 192 = .ok (.istore 5, 2) := by decide +kernel
theorem dX10_priceOf_194 : decode cX10_priceOf 194 = .ok (.iload 4, 2) := by decide +kernel
theorem dX10_priceOf_196 : decode cX10_priceOf 196 = .ok (.bipush 15, 2) := by decide +kernel
theorem dX10_priceOf_198 : decode cX10_priceOf 198 = .ok (.iload 5, 2) := by decide +kernel
theorem dX10_priceOf_200 : decode cX10_priceOf 200 = .ok (.bipush 6, 2) := by decide +kernel
theorem dX10_priceOf_202 : decode cX10_priceOf 202 = .ok (.if_icmp .ge 8, 3) := by decide +kernel
theorem dX10_priceOf_205 : decode cX10_priceOf 205 = .ok (.iload 5, 2) := by decide +kernel
theorem dX10_priceOf_207 : decode cX10_priceOf 207 = .ok (.goto 5, 3) := by decide +kernel
theorem dX10_priceOf_210 : decode cX10_priceOf 210 = .ok (.bipush 6, 2) := by decide +kernel
theorem dX10_priceOf_212 : decode cX10_priceOf 212 = .ok (.imul, 1) := by decide +kernel
theorem dX10_priceOf_213 : decode cX10_priceOf 213 = .ok (.isub, 1) := by decide +kernel
theorem dX10_priceOf_214 : decode cX10_priceOf 214 = .ok (.ireturn, 1) := by decide +kernel
theorem dX10_isFastKept_0 : decode cX10_isFastKept 0 = .ok (.iconst 1, 1) := by decide +kernel
theorem dX10_isFastKept_1 : decode cX10_isFastKept 1 = .ok (.istore 4, 2) := by decide +kernel
theorem dX10_isFastKept_3 : decode cX10_isFastKept 3 = .ok (.iload_n 2, 1) := by decide +kernel
theorem dX10_isFastKept_4 : decode cX10_isFastKept 4 = .ok (.istore 5, 2) := by decide +kernel
theorem dX10_isFastKept_6 : decode cX10_isFastKept 6 = .ok (.iload 5, 2) := by decide +kernel
theorem dX10_isFastKept_8 : decode cX10_isFastKept 8 = .ok (.iload_n 2, 1) := by decide +kernel
theorem dX10_isFastKept_9 : decode cX10_isFastKept 9 = .ok (.iload_n 1, 1) := by decide +kernel
theorem dX10_isFastKept_10 : decode cX10_isFastKept 10 = .ok (.invokestatic 254, 3) := by decide +kernel
theorem dX10_isFastKept_13 : decode cX10_isFastKept 13 = .ok (.iadd, 1) := by decide +kernel
theorem dX10_isFastKept_14 : decode cX10_isFastKept 14 = .ok (.if_icmp .ge 74, 3) := by decide +kernel
theorem dX10_isFastKept_17 : decode cX10_isFastKept 17 = .ok (.iload 4, 2) := by decide +kernel
theorem dX10_isFastKept_19 : decode cX10_isFastKept 19 = .ok (.ifCond .eq 69, 3) := by decide +kernel
theorem dX10_isFastKept_22 : decode cX10_isFastKept 22 = .ok (.aload_n 0, 1) := by decide +kernel
theorem dX10_isFastKept_23 : decode cX10_isFastKept 23 = .ok (.getfield 43, 3) := by decide +kernel
theorem dX10_isFastKept_26 : decode cX10_isFastKept 26 = .ok (.iload 5, 2) := by decide +kernel
theorem dX10_isFastKept_28 : decode cX10_isFastKept 28 = .ok (.iaload, 1) := by decide +kernel
theorem dX10_isFastKept_29 : decode cX10_isFastKept 29 = .ok (.istore 6, 2) := by decide +kernel
theorem dX10_isFastKept_31 : decode cX10_isFastKept 31 = .ok (.iload 6, 2) := by decide +kernel
theorem dX10_isFastKept_33 : decode cX10_isFastKept 33 = .ok (.ifCond .lt 42, 3) := by decide +kernel
theorem dX10_isFastKept_36 : decode cX10_isFastKept 36 = .ok (.iload_n 1, 1) := by decide +kernel
theorem dX10_isFastKept_37 : decode cX10_isFastKept 37 = .ok (.bipush 6, 2) := by decide +kernel
theorem dX10_isFastKept_39 : decode cX10_isFastKept 39 = .ok (.if_icmp .ne 19, 3) := by decide +kernel
theorem dX10_isFastKept_42 : decode cX10_isFastKept 42 = .ok (.iload 6, 2) := by decide +kernel
theorem dX10_isFastKept_44 : decode cX10_isFastKept 44 = .ok (.iload_n 3, 1) := by decide +kernel
theorem dX10_isFastKept_45 : decode cX10_isFastKept 45 = .ok (.iconst 1, 1) := by decide +kernel
theorem dX10_isFastKept_46 : decode cX10_isFastKept 46 = .ok (.iadd, 1) := by decide +kernel
theorem dX10_isFastKept_47 : decode cX10_isFastKept 47 = .ok (.iload 5, 2) := by decide +kernel
theorem dX10_isFastKept_49 : decode cX10_isFastKept 49 = .ok (.iload_n 2, 1) := by decide +kernel
theorem dX10_isFastKept_50 : decode cX10_isFastKept 50 = .ok (.isub, 1) := by decide +kernel
theorem dX10_isFastKept_51 : decode cX10_isFastKept 51 = .ok (.isub, 1) := by decide +kernel
theorem dX10_isFastKept_52 : decode cX10_isFastKept 52 = .ok (.if_icmp .ne 27, 3) := by decide +kernel
theorem dX10_isFastKept_55 : decode cX10_isFastKept 55 = .ok (.goto 20, 3) := by decide +kernel
theorem dX10_isFastKept_58 : decode cX10_isFastKept 58 = .ok (.iload 6, 2) := by decide +kernel
theorem dX10_isFastKept_60 : decode cX10_isFastKept 60 = .ok (.iload_n 3, 1) := by decide +kernel
theorem dX10_isFastKept_61 : decode cX10_isFastKept 61 = .ok (.if_icmp .lt 18, 3) := by decide +kernel
theorem dX10_isFastKept_64 : decode cX10_isFastKept 64 = .ok (.iload 6, 2) := by decide +kernel
theorem dX10_isFastKept_66 : decode cX10_isFastKept 66 = .ok (.iload_n 3, 1) := by decide +kernel
theorem dX10_isFastKept_67 : decode cX10_isFastKept 67 = .ok (.iload_n 1, 1) := by decide +kernel
theorem dX10_isFastKept_68 : decode cX10_isFastKept 68 = .ok (.invokestatic 257, 3) := by decide +kernel
theorem dX10_isFastKept_71 : decode cX10_isFastKept 71 = .ok (.iadd, 1) := by decide +kernel
theorem dX10_isFastKept_72 : decode cX10_isFastKept 72 = .ok (.if_icmp .ge 7, 3) := by decide +kernel
theorem dX10_isFastKept_75 : decode cX10_isFastKept 75 = .ok (.iconst 1, 1) := by decide +kernel
theorem dX10_isFastKept_76 : decode cX10_isFastKept 76 = .ok (.goto 4, 3) := by decide +kernel
theorem dX10_isFastKept_79 : decode cX10_isFastKept 79 = .ok (.iconst 0, 1) := by decide +kernel
theorem dX10_isFastKept_80 : decode cX10_isFastKept 80 = .ok (.istore 4, 2) := by decide +kernel
theorem dX10_isFastKept_82 : decode cX10_isFastKept 82 = .ok (.iinc 5 1, 3) := by decide +kernel
theorem dX10_isFastKept_85 : decode cX10_isFastKept 85 = .ok (.goto (-79), 3) := by decide +kernel
theorem dX10_isFastKept_88 : decode cX10_isFastKept 88 = .ok (.iload_n 3, 1) := by decide +kernel
theorem dX10_isFastKept_89 : decode cX10_isFastKept 89 = .ok (.istore 5, 2) := by decide +kernel
theorem dX10_isFastKept_91 : decode cX10_isFastKept 91 = .ok (.iload 5, 2) := by decide +kernel
theorem dX10_isFastKept_93 : decode cX10_isFastKept 93 = .ok (.iload_n 3, 1) := by decide +kernel
theorem dX10_isFastKept_94 : decode cX10_isFastKept 94 = .ok (.iload_n 1, 1) := by decide +kernel
theorem dX10_isFastKept_95 : decode cX10_isFastKept 95 = .ok (.invokestatic 257, 3) := by decide +kernel
theorem dX10_isFastKept_98 : decode cX10_isFastKept 98 = .ok (.iadd, 1) := by decide +kernel
theorem dX10_isFastKept_99 : decode cX10_isFastKept 99 = .ok (.if_icmp .ge 74, 3) := by decide +kernel
theorem dX10_isFastKept_102 : decode cX10_isFastKept 102 = .ok (.iload 4, 2) := by decide +kernel
theorem dX10_isFastKept_104 : decode cX10_isFastKept 104 = .ok (.ifCond .eq 69, 3) := by decide +kernel
theorem dX10_isFastKept_107 : decode cX10_isFastKept 107 = .ok (.aload_n 0, 1) := by decide +kernel
theorem dX10_isFastKept_108 : decode cX10_isFastKept 108 = .ok (.getfield 46, 3) := by decide +kernel
theorem dX10_isFastKept_111 : decode cX10_isFastKept 111 = .ok (.iload 5, 2) := by decide +kernel
theorem dX10_isFastKept_113 : decode cX10_isFastKept 113 = .ok (.iaload, 1) := by decide +kernel
theorem dX10_isFastKept_114 : decode cX10_isFastKept 114 = .ok (.istore 6, 2) := by decide +kernel
theorem dX10_isFastKept_116 : decode cX10_isFastKept 116 = .ok (.iload 6, 2) := by decide +kernel
theorem dX10_isFastKept_118 : decode cX10_isFastKept 118 = .ok (.ifCond .lt 42, 3) := by decide +kernel
theorem dX10_isFastKept_121 : decode cX10_isFastKept 121 = .ok (.iload_n 1, 1) := by decide +kernel
theorem dX10_isFastKept_122 : decode cX10_isFastKept 122 = .ok (.bipush 6, 2) := by decide +kernel
theorem dX10_isFastKept_124 : decode cX10_isFastKept 124 = .ok (.if_icmp .ne 19, 3) := by decide +kernel
theorem dX10_isFastKept_127 : decode cX10_isFastKept 127 = .ok (.iload 6, 2) := by decide +kernel
theorem dX10_isFastKept_129 : decode cX10_isFastKept 129 = .ok (.iload_n 2, 1) := by decide +kernel
theorem dX10_isFastKept_130 : decode cX10_isFastKept 130 = .ok (.iconst 1, 1) := by decide +kernel
theorem dX10_isFastKept_131 : decode cX10_isFastKept 131 = .ok (.iadd, 1) := by decide +kernel
theorem dX10_isFastKept_132 : decode cX10_isFastKept 132 = .ok (.iload 5, 2) := by decide +kernel
theorem dX10_isFastKept_134 : decode cX10_isFastKept 134 = .ok (.iload_n 3, 1) := by decide +kernel
theorem dX10_isFastKept_135 : decode cX10_isFastKept 135 = .ok (.isub, 1) := by decide +kernel
theorem dX10_isFastKept_136 : decode cX10_isFastKept 136 = .ok (.isub, 1) := by decide +kernel
theorem dX10_isFastKept_137 : decode cX10_isFastKept 137 = .ok (.if_icmp .ne 27, 3) := by decide +kernel
theorem dX10_isFastKept_140 : decode cX10_isFastKept 140 = .ok (.goto 20, 3) := by decide +kernel
theorem dX10_isFastKept_143 : decode cX10_isFastKept 143 = .ok (.iload 6, 2) := by decide +kernel
theorem dX10_isFastKept_145 : decode cX10_isFastKept 145 = .ok (.iload_n 2, 1) := by decide +kernel
theorem dX10_isFastKept_146 : decode cX10_isFastKept 146 = .ok (.if_icmp .lt 18, 3) := by decide +kernel
theorem dX10_isFastKept_149 : decode cX10_isFastKept 149 = .ok (.iload 6, 2) := by decide +kernel
theorem dX10_isFastKept_151 : decode cX10_isFastKept 151 = .ok (.iload_n 2, 1) := by decide +kernel
theorem dX10_isFastKept_152 : decode cX10_isFastKept 152 = .ok (.iload_n 1, 1) := by decide +kernel
theorem dX10_isFastKept_153 : decode cX10_isFastKept 153 = .ok (.invokestatic 254, 3) := by decide +kernel
theorem dX10_isFastKept_156 : decode cX10_isFastKept 156 = .ok (.iadd, 1) := by decide +kernel
theorem dX10_isFastKept_157 : decode cX10_isFastKept 157 = .ok (.if_icmp .ge 7, 3) := by decide +kernel
theorem dX10_isFastKept_160 : decode cX10_isFastKept 160 = .ok (.iconst 1, 1) := by decide +kernel
theorem dX10_isFastKept_161 : decode cX10_isFastKept 161 = .ok (.goto 4, 3) := by decide +kernel
theorem dX10_isFastKept_164 : decode cX10_isFastKept 164 = .ok (.iconst 0, 1) := by decide +kernel
theorem dX10_isFastKept_165 : decode cX10_isFastKept 165 = .ok (.istore 4, 2) := by decide +kernel
theorem dX10_isFastKept_167 : decode cX10_isFastKept 167 = .ok (.iinc 5 1, 3) := by decide +kernel
theorem dX10_isFastKept_170 : decode cX10_isFastKept 170 = .ok (.goto (-79), 3) := by decide +kernel
theorem dX10_isFastKept_173 : decode cX10_isFastKept 173 = .ok (.iload 4, 2) := by decide +kernel
theorem dX10_isFastKept_175 : decode cX10_isFastKept 175 = .ok (.ireturn, 1) := by decide +kernel
theorem dX10_isParagraphKept_0 : decode cX10_isParagraphKept 0 = .ok (.aload_n 0, 1) := by decide +kernel
theorem dX10_isParagraphKept_1 : decode cX10_isParagraphKept 1 = .ok (.getfield 31, 3) := by decide +kernel
theorem dX10_isParagraphKept_4 : decode cX10_isParagraphKept 4 = .ok (.iconst 0, 1) := by decide +kernel
theorem dX10_isParagraphKept_5 : decode cX10_isParagraphKept 5 = .ok (.iaload, 1) := by decide +kernel
theorem dX10_isParagraphKept_6 : decode cX10_isParagraphKept 6 = .ok (.aload_n 0, 1) := by decide +kernel
theorem dX10_isParagraphKept_7 : decode cX10_isParagraphKept 7 = .ok (.getfield 31, 3) := by decide +kernel
theorem dX10_isParagraphKept_10 : decode cX10_isParagraphKept 10 = .ok (.iconst 1, 1) := by decide +kernel
theorem dX10_isParagraphKept_11 : decode cX10_isParagraphKept 11 = .ok (.iaload, 1) := by decide +kernel
theorem dX10_isParagraphKept_12 : decode cX10_isParagraphKept 12 = .ok (.if_icmp .ge 12, 3) := by decide +kernel
theorem dX10_isParagraphKept_15 : decode cX10_isParagraphKept 15 = .ok (.aload_n 0, 1) := by decide +kernel
theorem dX10_isParagraphKept_16 : decode cX10_isParagraphKept 16 = .ok (.getfield 31, 3) := by decide +kernel
theorem dX10_isParagraphKept_19 : decode cX10_isParagraphKept 19 = .ok (.iconst 0, 1) := by decide +kernel
theorem dX10_isParagraphKept_20 : decode cX10_isParagraphKept 20 = .ok (.iaload, 1) := by decide +kernel
theorem dX10_isParagraphKept_21 : decode cX10_isParagraphKept 21 = .ok (.goto 9, 3) := by decide +kernel
theorem dX10_isParagraphKept_24 : decode cX10_isParagraphKept 24 = .ok (.aload_n 0, 1) := by decide +kernel
theorem dX10_isParagraphKept_25 : decode cX10_isParagraphKept 25 = .ok (.getfield 31, 3) := by decide +kernel
theorem dX10_isParagraphKept_28 : decode cX10_isParagraphKept 28 = .ok (.iconst 1, 1) := by decide +kernel
theorem dX10_isParagraphKept_29 : decode cX10_isParagraphKept 29 = .ok (.iaload, 1) := by decide +kernel
theorem dX10_isParagraphKept_30 : decode cX10_isParagraphKept 30 = .ok (.istore 5, 2) := by decide +kernel
theorem dX10_isParagraphKept_32 : decode cX10_isParagraphKept 32 = .ok (.iconst 1, 1) := by decide +kernel
theorem dX10_isParagraphKept_33 : decode cX10_isParagraphKept 33 = .ok (.istore 6, 2) := by decide +kernel
theorem dX10_isParagraphKept_35 : decode cX10_isParagraphKept 35 = .ok (.iconst 0, 1) := by decide +kernel
theorem dX10_isParagraphKept_36 : decode cX10_isParagraphKept 36 = .ok (.istore 7, 2) := by decide +kernel
theorem dX10_isParagraphKept_38 : decode cX10_isParagraphKept 38 = .ok (.iload 7, 2) := by decide +kernel
theorem dX10_isParagraphKept_40 : decode cX10_isParagraphKept 40 = .ok (.iload 5, 2) := by decide +kernel
theorem dX10_isParagraphKept_42 : decode cX10_isParagraphKept 42 = .ok (.if_icmp .ge 64, 3) := by decide +kernel
theorem dX10_isParagraphKept_45 : decode cX10_isParagraphKept 45 = .ok (.iload 6, 2) := by decide +kernel
theorem dX10_isParagraphKept_47 : decode cX10_isParagraphKept 47 = .ok (.ifCond .eq 59, 3) := by decide +kernel
theorem dX10_isParagraphKept_50 : decode cX10_isParagraphKept 50 = .ok (.aload_n 0, 1) := by decide +kernel
theorem dX10_isParagraphKept_51 : decode cX10_isParagraphKept 51 = .ok (.iconst 0, 1) := by decide +kernel
theorem dX10_isParagraphKept_52 : decode cX10_isParagraphKept 52 = .ok (.iload 7, 2) := by decide +kernel
theorem dX10_isParagraphKept_54 : decode cX10_isParagraphKept 54 = .ok (.invokevirtual 260, 3) := by decide +kernel
theorem dX10_isParagraphKept_57 : decode cX10_isParagraphKept 57 = .ok (.istore 8, 2) := by decide +kernel
theorem dX10_isParagraphKept_59 : decode cX10_isParagraphKept 59 = .ok (.aload_n 0, 1) := by decide +kernel
theorem dX10_isParagraphKept_60 : decode cX10_isParagraphKept 60 = .ok (.iconst 1, 1) := by decide +kernel
theorem dX10_isParagraphKept_61 : decode cX10_isParagraphKept 61 = .ok (.iload 7, 2) := by decide +kernel
theorem dX10_isParagraphKept_63 : decode cX10_isParagraphKept 63 = .ok (.invokevirtual 260, 3) := by decide +kernel
theorem dX10_isParagraphKept_66 : decode cX10_isParagraphKept 66 = .ok (.istore 9, 2) := by decide +kernel
theorem dX10_isParagraphKept_68 : decode cX10_isParagraphKept 68 = .ok (.iload_n 3, 1) := by decide +kernel
theorem dX10_isParagraphKept_69 : decode cX10_isParagraphKept 69 = .ok (.iload 8, 2) := by decide +kernel
theorem dX10_isParagraphKept_71 : decode cX10_isParagraphKept 71 = .ok (.if_icmp .gt 10, 3) := by decide +kernel
theorem dX10_isParagraphKept_74 : decode cX10_isParagraphKept 74 = .ok (.iload 4, 2) := by decide +kernel
theorem dX10_isParagraphKept_76 : decode cX10_isParagraphKept 76 = .ok (.iload 9, 2) := by decide +kernel
theorem dX10_isParagraphKept_78 : decode cX10_isParagraphKept 78 = .ok (.if_icmp .le 15, 3) := by decide +kernel
theorem dX10_isParagraphKept_81 : decode cX10_isParagraphKept 81 = .ok (.iload_n 1, 1) := by decide +kernel
theorem dX10_isParagraphKept_82 : decode cX10_isParagraphKept 82 = .ok (.iload 8, 2) := by decide +kernel
theorem dX10_isParagraphKept_84 : decode cX10_isParagraphKept 84 = .ok (.if_icmp .lt 13, 3) := by decide +kernel
theorem dX10_isParagraphKept_87 : decode cX10_isParagraphKept 87 = .ok (.iload_n 2, 1) := by decide +kernel
theorem dX10_isParagraphKept_88 : decode cX10_isParagraphKept 88 = .ok (.iload 9, 2) := by decide +kernel
theorem dX10_isParagraphKept_90 : decode cX10_isParagraphKept 90 = .ok (.if_icmp .lt 7, 3) := by decide +kernel
theorem dX10_isParagraphKept_93 : decode cX10_isParagraphKept 93 = .ok (.iconst 1, 1) := by decide +kernel
theorem dX10_isParagraphKept_94 : decode cX10_isParagraphKept 94 = .ok (.goto 4, 3) := by decide +kernel
theorem dX10_isParagraphKept_97 : decode cX10_isParagraphKept 97 = .ok (.iconst 0, 1) := by decide +kernel
theorem dX10_isParagraphKept_98 : decode cX10_isParagraphKept 98 = .ok (.istore 6, 2) := by decide +kernel
theorem dX10_isParagraphKept_100 : decode cX10_isParagraphKept 100 = .ok (.iinc 7 1, 3) := by decide +kernel
theorem dX10_isParagraphKept_103 : decode cX10_isParagraphKept 103 = .ok (.goto (-65), 3) := by decide +kernel
theorem dX10_isParagraphKept_106 : decode cX10_isParagraphKept 106 = .ok (.iload 6, 2) := by decide +kernel
theorem dX10_isParagraphKept_108 : decode cX10_isParagraphKept 108 = .ok (.ireturn, 1) := by decide +kernel
theorem dX10_upTo_0 : decode cX10_upTo 0 = .ok (.iconst 0, 1) := by decide +kernel
theorem dX10_upTo_1 : decode cX10_upTo 1 = .ok (.istore_n 3, 1) := by decide +kernel
theorem dX10_upTo_2 : decode cX10_upTo 2 = .ok (.iconst 0, 1) := by decide +kernel
theorem dX10_upTo_3 : decode cX10_upTo 3 = .ok (.istore 4, 2) := by decide +kernel
theorem dX10_upTo_5 : decode cX10_upTo 5 = .ok (.iload 4, 2) := by decide +kernel
theorem dX10_upTo_7 : decode cX10_upTo 7 = .ok (.aload_n 0, 1) := by decide +kernel
theorem dX10_upTo_8 : decode cX10_upTo 8 = .ok (.getfield 19, 3) := by decide +kernel
theorem dX10_upTo_11 : decode cX10_upTo 11 = .ok (.iload_n 1, 1) := by decide +kernel
theorem dX10_upTo_12 : decode cX10_upTo 12 = .ok (.iaload, 1) := by decide +kernel
theorem dX10_upTo_13 : decode cX10_upTo 13 = .ok (.if_icmp .ge 33, 3) := by decide +kernel
theorem dX10_upTo_16 : decode cX10_upTo 16 = .ok (.iload_n 3, 1) := by decide +kernel
theorem dX10_upTo_17 : decode cX10_upTo 17 = .ok (.aload_n 0, 1) := by decide +kernel
theorem dX10_upTo_18 : decode cX10_upTo 18 = .ok (.getfield 28, 3) := by decide +kernel
theorem dX10_upTo_21 : decode cX10_upTo 21 = .ok (.bipush 20, 2) := by decide +kernel
theorem dX10_upTo_23 : decode cX10_upTo 23 = .ok (.iload_n 1, 1) := by decide +kernel
theorem dX10_upTo_24 : decode cX10_upTo 24 = .ok (.imul, 1) := by decide +kernel
theorem dX10_upTo_25 : decode cX10_upTo 25 = .ok (.iload 4, 2) := by decide +kernel
theorem dX10_upTo_27 : decode cX10_upTo 27 = .ok (.iadd, 1) := by decide +kernel
theorem dX10_upTo_28 : decode cX10_upTo 28 = .ok (.iaload, 1) := by decide +kernel
theorem dX10_upTo_29 : decode cX10_upTo 29 = .ok (.iload_n 2, 1) := by decide +kernel
theorem dX10_upTo_30 : decode cX10_upTo 30 = .ok (.if_icmp .gt 7, 3) := by decide +kernel
theorem dX10_upTo_33 : decode cX10_upTo 33 = .ok (.iconst 1, 1) := by decide +kernel
theorem dX10_upTo_34 : decode cX10_upTo 34 = .ok (.goto 4, 3) := by decide +kernel
theorem dX10_upTo_37 : decode cX10_upTo 37 = .ok (.iconst 0, 1) := by decide +kernel
theorem dX10_upTo_38 : decode cX10_upTo 38 = .ok (.iadd, 1) := by decide +kernel
theorem dX10_upTo_39 : decode cX10_upTo 39 = .ok (.istore_n 3, 1) := by decide +kernel
theorem dX10_upTo_40 : decode cX10_upTo 40 = .ok (.iinc 4 1, 3) := by decide +kernel
theorem dX10_upTo_43 : decode cX10_upTo 43 = .ok (.goto (-38), 3) := by decide +kernel
theorem dX10_upTo_46 : decode cX10_upTo 46 = .ok (.iload_n 3, 1) := by decide +kernel
theorem dX10_upTo_47 : decode cX10_upTo 47 = .ok (.ireturn, 1) := by decide +kernel
theorem dX10_may_0 : decode cX10_may 0 = .ok (.iload_n 2, 1) := by decide +kernel
theorem dX10_may_1 : decode cX10_may 1 = .ok (.iload_n 1, 1) := by decide +kernel
theorem dX10_may_2 : decode cX10_may 2 = .ok (.invokestatic 254, 3) := by decide +kernel
theorem dX10_may_5 : decode cX10_may 5 = .ok (.iadd, 1) := by decide +kernel
theorem dX10_may_6 : decode cX10_may 6 = .ok (.istore 4, 2) := by decide +kernel
theorem dX10_may_8 : decode cX10_may 8 = .ok (.iload_n 3, 1) := by decide +kernel
theorem dX10_may_9 : decode cX10_may 9 = .ok (.iload_n 1, 1) := by decide +kernel
theorem dX10_may_10 : decode cX10_may 10 = .ok (.invokestatic 257, 3) := by decide +kernel
theorem dX10_may_13 : decode cX10_may 13 = .ok (.iadd, 1) := by decide +kernel
theorem dX10_may_14 : decode cX10_may 14 = .ok (.istore 5, 2) := by decide +kernel
theorem dX10_may_16 : decode cX10_may 16 = .ok (.iload 4, 2) := by decide +kernel
theorem dX10_may_18 : decode cX10_may 18 = .ok (.aload_n 0, 1) := by decide +kernel
theorem dX10_may_19 : decode cX10_may 19 = .ok (.getfield 19, 3) := by decide +kernel
theorem dX10_may_22 : decode cX10_may 22 = .ok (.iconst 0, 1) := by decide +kernel
theorem dX10_may_23 : decode cX10_may 23 = .ok (.iaload, 1) := by decide +kernel
theorem dX10_may_24 : decode cX10_may 24 = .ok (.if_icmp .gt 48, 3) := by decide +kernel
theorem dX10_may_27 : decode cX10_may 27 = .ok (.iload 5, 2) := by decide +kernel
theorem dX10_may_29 : decode cX10_may 29 = .ok (.aload_n 0, 1) := by decide +kernel
theorem dX10_may_30 : decode cX10_may 30 = .ok (.getfield 19, 3) := by decide +kernel
theorem dX10_may_33 : decode cX10_may 33 = .ok (.iconst 1, 1) := by decide +kernel
theorem dX10_may_34 : decode cX10_may 34 = .ok (.iaload, 1) := by decide +kernel
theorem dX10_may_35 : decode cX10_may 35 = .ok (.if_icmp .gt 37, 3) := by decide +kernel
theorem dX10_may_38 : decode cX10_may 38 = .ok (.aload_n 0, 1) := by decide +kernel
theorem dX10_may_39 : decode cX10_may 39 = .ok (.iload_n 1, 1) := by decide +kernel
theorem dX10_may_40 : decode cX10_may 40 = .ok (.iload_n 2, 1) := by decide +kernel
theorem dX10_may_41 : decode cX10_may 41 = .ok (.iload_n 3, 1) := by decide +kernel
theorem dX10_may_42 : decode cX10_may 42 = .ok (.invokevirtual 263, 3) := by decide +kernel
theorem dX10_may_45 : decode cX10_may 45 = .ok (.ifCond .eq 27, 3) := by decide +kernel
theorem dX10_may_48 : decode cX10_may 48 = .ok (.aload_n 0, 1) := by decide +kernel
theorem dX10_may_49 : decode cX10_may 49 = .ok (.getfield 223, 3) := by decide +kernel
theorem dX10_may_52 : decode cX10_may 52 = .ok (.ifCond .eq 16, 3) := by decide +kernel
theorem dX10_may_55 : decode cX10_may 55 = .ok (.aload_n 0, 1) := by decide +kernel
theorem dX10_may_56 : decode cX10_may 56 = .ok (.iload_n 2, 1) := by decide +kernel
theorem dX10_may_57 : decode cX10_may 57 = .ok (.iload_n 3, 1) := by decide +kernel
theorem dX10_may_58 : decode cX10_may 58 = .ok (.iload 4, 2) := by decide +kernel
theorem dX10_may_60 : decode cX10_may 60 = .ok (.iload 5, 2) := by decide +kernel
theorem dX10_may_62 : decode cX10_may 62 = .ok (.invokevirtual 266, 3) := by decide +kernel
theorem dX10_may_65 : decode cX10_may 65 = .ok (.ifCond .eq 7, 3) := by decide +kernel
theorem dX10_may_68 : decode cX10_may 68 = .ok (.iconst 1, 1) := by decide +kernel
theorem dX10_may_69 : decode cX10_may 69 = .ok (.goto 4, 3) := by decide +kernel
theorem dX10_may_72 : decode cX10_may 72 = .ok (.iconst 0, 1) := by decide +kernel
theorem dX10_may_73 : decode cX10_may 73 = .ok (.ireturn, 1) := by decide +kernel
theorem dX10_work_0 : decode cX10_work 0 = .ok (.aload_n 0, 1) := by decide +kernel
theorem dX10_work_1 : decode cX10_work 1 = .ok (.invokevirtual 269, 3) := by decide +kernel
theorem dX10_work_4 : decode cX10_work 4 = .ok (.aload_n 0, 1) := by decide +kernel
theorem dX10_work_5 : decode cX10_work 5 = .ok (.getfield 19, 3) := by decide +kernel
theorem dX10_work_8 : decode cX10_work 8 = .ok (.iconst 0, 1) := by decide +kernel
theorem dX10_work_9 : decode cX10_work 9 = .ok (.iaload, 1) := by decide +kernel
theorem dX10_work_10 : decode cX10_work 10 = .ok (.istore_n 1, 1) := by decide +kernel
theorem dX10_work_11 : decode cX10_work 11 = .ok (.iload_n 1, 1) := by decide +kernel
theorem dX10_work_12 : decode cX10_work 12 = .ok (.ifCond .lt 291, 3) := by decide +kernel
theorem dX10_work_15 : decode cX10_work 15 = .ok (.aload_n 0, 1) := by decide +kernel
theorem dX10_work_16 : decode cX10_work 16 = .ok (.getfield 19, 3) := by decide +kernel
theorem dX10_work_19 : decode cX10_work 19 = .ok (.iconst 1, 1) := by decide +kernel
theorem dX10_work_20 : decode cX10_work 20 = .ok (.iaload, 1) := by decide +kernel
theorem dX10_work_21 : decode cX10_work 21 = .ok (.istore_n 2, 1) := by decide +kernel
theorem dX10_work_22 : decode cX10_work 22 = .ok (.iload_n 2, 1) := by decide +kernel
theorem dX10_work_23 : decode cX10_work 23 = .ok (.ifCond .lt 274, 3) := by decide +kernel
theorem dX10_work_26 : decode cX10_work 26 = .ok (.ldc_w 272, 3) := by decide +kernel
theorem dX10_work_29 : decode cX10_work 29 = .ok (.istore_n 3, 1) := by decide +kernel
theorem dX10_work_30 : decode cX10_work 30 = .ok (.ldc_w 272, 3) := by decide +kernel
theorem dX10_work_33 : decode cX10_work 33 = .ok (.istore 4, 2) := by decide +kernel
theorem dX10_work_35 : decode cX10_work 35 = .ok (.iload_n 1, 1) := by decide +kernel
theorem dX10_work_36 : decode cX10_work 36 = .ok (.aload_n 0, 1) := by decide +kernel
theorem dX10_work_37 : decode cX10_work 37 = .ok (.getfield 19, 3) := by decide +kernel
theorem dX10_work_40 : decode cX10_work 40 = .ok (.iconst 0, 1) := by decide +kernel
theorem dX10_work_41 : decode cX10_work 41 = .ok (.iaload, 1) := by decide +kernel
theorem dX10_work_42 : decode cX10_work 42 = .ok (.if_icmp .ne 15, 3) := by decide +kernel
theorem dX10_work_45 : decode cX10_work 45 = .ok (.iload_n 2, 1) := by decide +kernel
theorem dX10_work_46 : decode cX10_work 46 = .ok (.aload_n 0, 1) := by decide +kernel
theorem dX10_work_47 : decode cX10_work 47 = .ok (.getfield 19, 3) := by decide +kernel
theorem dX10_work_50 : decode cX10_work 50 = .ok (.iconst 1, 1) := by decide +kernel
theorem dX10_work_51 : decode cX10_work 51 = .ok (.iaload, 1) := by decide +kernel
theorem dX10_work_52 : decode cX10_work 52 = .ok (.if_icmp .ne 5, 3) := by decide +kernel
theorem dX10_work_55 : decode cX10_work 55 = .ok (.iconst 0, 1) := by decide +kernel
theorem dX10_work_56 : decode cX10_work 56 = .ok (.istore_n 3, 1) := by decide +kernel
theorem dX10_work_57 : decode cX10_work 57 = .ok (.iconst 0, 1) := by decide +kernel
theorem dX10_work_58 : decode cX10_work 58 = .ok (.istore 5, 2) := by decide +kernel
theorem dX10_work_60 : decode cX10_work 60 = .ok (.iload 5, 2) := by decide +kernel
theorem dX10_work_62 : decode cX10_work 62 = .ok (.bipush 7, 2) := by decide +kernel
theorem dX10_work_64 : decode cX10_work 64 = .ok (.if_icmp .ge 202, 3) := by decide +kernel
theorem dX10_work_67 : decode cX10_work 67 = .ok (.aload_n 0, 1) := by decide +kernel
theorem dX10_work_68 : decode cX10_work 68 = .ok (.iload 5, 2) := by decide +kernel
theorem dX10_work_70 : decode cX10_work 70 = .ok (.iload_n 1, 1) := by decide +kernel
theorem dX10_work_71 : decode cX10_work 71 = .ok (.iload_n 2, 1) := by decide +kernel
theorem dX10_work_72 : decode cX10_work 72 = .ok (.invokevirtual 273, 3) := by decide +kernel
theorem dX10_work_75 : decode cX10_work 75 = .ok (.ifCond .eq 32, 3) := by decide +kernel
theorem dX10_work_78 : decode cX10_work 78 = .ok (.iload 5, 2) := by decide +kernel
theorem dX10_work_80 : decode cX10_work 80 = .ok (.aload_n 0, 1) := by decide +kernel
theorem dX10_work_81 : decode cX10_work 81 = .ok (.getfield 276, 3) := by decide +kernel
theorem dX10_work_84 : decode cX10_work 84 = .ok (.if_icmp .ne 19, 3) := by decide +kernel
theorem dX10_work_87 : decode cX10_work 87 = .ok (.iload_n 1, 1) := by decide +kernel
theorem dX10_work_88 : decode cX10_work 88 = .ok (.aload_n 0, 1) := by decide +kernel
theorem dX10_work_89 : decode cX10_work 89 = .ok (.getfield 279, 3) := by decide +kernel
theorem dX10_work_92 : decode cX10_work 92 = .ok (.if_icmp .ne 11, 3) := by decide +kernel
theorem dX10_work_95 : decode cX10_work 95 = .ok (.iload_n 2, 1) := by decide +kernel
theorem dX10_work_96 : decode cX10_work 96 = .ok (.aload_n 0, 1) := by decide +kernel
theorem dX10_work_97 : decode cX10_work 97 = .ok (.getfield 282, 3) := by decide +kernel
theorem dX10_work_100 : decode cX10_work 100 = .ok (.if_icmp .eq 7, 3) := by decide +kernel
theorem dX10_work_103 : decode cX10_work 103 = .ok (.iconst 1, 1) := by decide +kernel
theorem dX10_work_104 : decode cX10_work 104 = .ok (.goto 4, 3) := by decide +kernel
theorem dX10_work_107 : decode cX10_work 107 = .ok (.iconst 0, 1) := by decide +kernel
theorem dX10_work_108 : decode cX10_work 108 = .ok (.istore 6, 2) := by decide +kernel
theorem dX10_work_110 : decode cX10_work 110 = .ok (.iload 6, 2) := by decide +kernel
theorem dX10_work_112 : decode cX10_work 112 = .ok (.ifCond .eq 24, 3) := by decide +kernel
theorem dX10_work_115 : decode cX10_work 115 = .ok (.bipush 21, 2) := by decide +kernel
theorem dX10_work_117 : decode cX10_work 117 = .ok (.iload_n 1, 1) := by decide +kernel
theorem dX10_work_118 : decode cX10_work 118 = .ok (.iload 5, 2) := by decide +kernel
theorem dX10_work_120 : decode cX10_work 120 = .ok (.invokestatic 254, 3) := by decide +kernel
theorem dX10_work_123 : decode cX10_work 123 = .ok (.iadd, 1) := by decide +kernel
theorem dX10_work_124 : decode cX10_work 124 = .ok (.imul, 1) := by decide +kernel
theorem dX10_work_125 : decode cX10_work 125 = .ok (.iload_n 2, 1) := by decide +kernel
theorem dX10_work_126 : decode cX10_work 126 = .ok (.iadd, 1) := by decide +kernel
theorem dX10_work_127 : decode cX10_work 127 = .ok (.iload 5, 2) := by decide +kernel
theorem dX10_work_129 : decode cX10_work 129 = .ok (.invokestatic 257, 3) := by decide +kernel
theorem dX10_work_132 : decode cX10_work 132 = .ok (.iadd, 1) := by decide +kernel
theorem dX10_work_133 : decode cX10_work 133 = .ok (.goto 4, 3) := by decide +kernel
theorem dX10_work_136 : decode cX10_work 136 = .ok (.iconst 0, 1) := by decide +kernel
theorem dX10_work_137 : decode cX10_work 137 = .ok (.istore 7, 2) := by decide +kernel
theorem dX10_work_139 : decode cX10_work 139 = .ok (.iload 6, 2) := by decide +kernel
theorem dX10_work_141 : decode cX10_work 141 = .ok (.ifCond .eq 119, 3) := by decide +kernel
theorem dX10_work_144 : decode cX10_work 144 = .ok (.aload_n 0, 1) := by decide +kernel
theorem dX10_work_145 : decode cX10_work 145 = .ok (.getfield 79, 3) := by decide +kernel
theorem dX10_work_148 : decode cX10_work 148 = .ok (.iload 7, 2) := by decide +kernel
theorem dX10_work_150 : decode cX10_work 150 = .ok (.iaload, 1) := by decide +kernel
theorem dX10_work_151 : decode cX10_work 151 = .ok (.ldc_w 272, 3) := by decide +kernel
theorem dX10_work_154 : decode cX10_work 154 = .ok (.if_icmp .ge 106, 3) := by decide +kernel
theorem dX10_work_157 : decode cX10_work 157 = .ok (.aload_n 0, 1) := by decide +kernel
theorem dX10_work_158 : decode cX10_work 158 = .ok (.iload 5, 2) := by decide +kernel
theorem dX10_work_160 : decode cX10_work 160 = .ok (.iload_n 1, 1) := by decide +kernel
theorem dX10_work_161 : decode cX10_work 161 = .ok (.iload_n 2, 1) := by decide +kernel
theorem dX10_work_162 : decode cX10_work 162 = .ok (.invokevirtual 285, 3) := by decide +kernel
theorem dX10_work_165 : decode cX10_work 165 = .ok (.istore 8, 2) := by decide +kernel
theorem dX10_work_167 : decode cX10_work 167 = .ok (.iload 8, 2) := by decide +kernel
theorem dX10_work_169 : decode cX10_work 169 = .ok (.aload_n 0, 1) := by decide +kernel
theorem dX10_work_170 : decode cX10_work 170 = .ok (.getfield 79, 3) := by decide +kernel
theorem dX10_work_173 : decode cX10_work 173 = .ok (.iload 7, 2) := by decide +kernel
theorem dX10_work_175 : decode cX10_work 175 = .ok (.iaload, 1) := by decide +kernel
theorem dX10_work_176 : decode cX10_work 176 = .ok (.iadd, 1) := by decide +kernel
theorem dX10_work_177 : decode cX10_work 177 = .ok (.istore 9, 2) := by decide +kernel
theorem dX10_work_179 : decode cX10_work 179 = .ok (.aload_n 0, 1) := by decide +kernel
theorem dX10_work_180 : decode cX10_work 180 = .ok (.getfield 82, 3) := by decide +kernel
theorem dX10_work_183 : decode cX10_work 183 = .ok (.iload 7, 2) := by decide +kernel
theorem dX10_work_185 : decode cX10_work 185 = .ok (.iaload, 1) := by decide +kernel
theorem dX10_work_186 : decode cX10_work 186 = .ok (.ldc_w 272, 3) := by decide +kernel
theorem dX10_work_189 : decode cX10_work 189 = .ok (.if_icmp .ge 16, 3) := by decide +kernel
theorem dX10_work_192 : decode cX10_work 192 = .ok (.iload 8, 2) := by decide +kernel
theorem dX10_work_194 : decode cX10_work 194 = .ok (.aload_n 0, 1) := by decide +kernel
theorem dX10_work_195 : decode cX10_work 195 = .ok (.getfield 82, 3) := by decide +kernel
theorem dX10_work_198 : decode cX10_work 198 = .ok (.iload 7, 2) := by decide +kernel
theorem dX10_work_200 : decode cX10_work 200 = .ok (.iaload, 1) := by decide +kernel
theorem dX10_work_201 : decode cX10_work 201 = .ok (.iadd, 1) := by decide +kernel
theorem dX10_work_202 : decode cX10_work 202 = .ok (.goto 6, 3) := by decide +kernel
theorem dX10_work_205 : decode cX10_work 205 = .ok (.ldc_w 272, 3) := by decide +kernel
theorem dX10_work_208 : decode cX10_work 208 = .ok (.istore 10, 2) := by decide +kernel
theorem dX10_work_210 : decode cX10_work 210 = .ok (.iload 9, 2) := by decide +kernel
theorem dX10_work_212 : decode cX10_work 212 = .ok (.iload_n 3, 1) := by decide +kernel
theorem dX10_work_213 : decode cX10_work 213 = .ok (.if_icmp .ge 18, 3) := by decide +kernel
theorem dX10_work_216 : decode cX10_work 216 = .ok (.iload_n 3, 1) := by decide +kernel
theorem dX10_work_217 : decode cX10_work 217 = .ok (.iload 10, 2) := by decide +kernel
theorem dX10_work_219 : decode cX10_work 219 = .ok (.if_icmp .ge 7, 3) := by decide +kernel
theorem dX10_work_222 : decode cX10_work 222 = .ok (.iload_n 3, 1) := by decide +kernel
theorem dX10_work_223 : decode cX10_work 223 = .ok (.goto 22, 3) := by decide +kernel
theorem dX10_work_226 : decode cX10_work 226 = .ok (.iload 10, 2) := by decide +kernel
theorem dX10_work_228 : decode cX10_work 228 = .ok (.goto 17, 3) := by decide +kernel
theorem dX10_work_231 : decode cX10_work 231 = .ok (.iload 9, 2) := by decide +kernel
theorem dX10_work_233 : decode cX10_work 233 = .ok (.iload 4, 2) := by decide +kernel
theorem dX10_work_235 : decode cX10_work 235 = .ok (.if_icmp .ge 8, 3) := by decide +kernel
theorem dX10_work_238 : decode cX10_work 238 = .ok (.iload 9, 2) := by decide +kernel
theorem dX10_work_240 : decode cX10_work 240 = .ok (.goto 5, 3) := by decide +kernel
theorem dX10_work_243 : decode cX10_work 243 = .ok (.iload 4, 2) := by decide +kernel
theorem dX10_work_245 : decode cX10_work 245 = .ok (.istore 4, 2) := by decide +kernel
theorem dX10_work_247 : decode cX10_work 247 = .ok (.iload 9, 2) := by decide +kernel
theorem dX10_work_249 : decode cX10_work 249 = .ok (.iload_n 3, 1) := by decide +kernel
theorem dX10_work_250 : decode cX10_work 250 = .ok (.if_icmp .ge 8, 3) := by decide +kernel
theorem dX10_work_253 : decode cX10_work 253 = .ok (.iload 9, 2) := by decide +kernel
theorem dX10_work_255 : decode cX10_work 255 = .ok (.goto 4, 3) := by decide +kernel
theorem dX10_work_258 : decode cX10_work 258 = .ok (.iload_n 3, 1) := by decide +kernel
theorem dX10_work_259 : decode cX10_work 259 = .ok (.istore_n 3, 1) := by decide +kernel
theorem dX10_work_260 : decode cX10_work 260 = .ok (.iinc 5 1, 3) := by decide +kernel
theorem dX10_work_263 : decode cX10_work 263 = .ok (.goto (-203), 3) := by decide +kernel
theorem dX10_work_266 : decode cX10_work 266 = .ok (.aload_n 0, 1) := by decide +kernel
theorem dX10_work_267 : decode cX10_work 267 = .ok (.getfield 79, 3) := by decide +kernel
theorem dX10_work_270 : decode cX10_work 270 = .ok (.bipush 21, 2) := by decide +kernel
theorem dX10_work_272 : decode cX10_work 272 = .ok (.iload_n 1, 1) := by decide +kernel
theorem dX10_work_273 : decode cX10_work 273 = .ok (.imul, 1) := by decide +kernel
theorem dX10_work_274 : decode cX10_work 274 = .ok (.iload_n 2, 1) := by decide +kernel
theorem dX10_work_275 : decode cX10_work 275 = .ok (.iadd, 1) := by decide +kernel
theorem dX10_work_276 : decode cX10_work 276 = .ok (.iload_n 3, 1) := by decide +kernel
theorem dX10_work_277 : decode cX10_work 277 = .ok (.iastore, 1) := by decide +kernel
theorem dX10_work_278 : decode cX10_work 278 = .ok (.aload_n 0, 1) := by decide +kernel
theorem dX10_work_279 : decode cX10_work 279 = .ok (.getfield 82, 3) := by decide +kernel
theorem dX10_work_282 : decode cX10_work 282 = .ok (.bipush 21, 2) := by decide +kernel
theorem dX10_work_284 : decode cX10_work 284 = .ok (.iload_n 1, 1) := by decide +kernel
theorem dX10_work_285 : decode cX10_work 285 = .ok (.imul, 1) := by decide +kernel
theorem dX10_work_286 : decode cX10_work 286 = .ok (.iload_n 2, 1) := by decide +kernel
theorem dX10_work_287 : decode cX10_work 287 = .ok (.iadd, 1) := by decide +kernel
theorem dX10_work_288 : decode cX10_work 288 = .ok (.iload 4, 2) := by decide +kernel
theorem dX10_work_290 : decode cX10_work 290 = .ok (.iastore, 1) := by decide +kernel
theorem dX10_work_291 : decode cX10_work 291 = .ok (.iinc 2 (-1), 3) := by decide +kernel
theorem dX10_work_294 : decode cX10_work 294 = .ok (.goto (-272), 3) := by decide +kernel
theorem dX10_work_297 : decode cX10_work 297 = .ok (.iinc 1 (-1), 3) := by decide +kernel
theorem dX10_work_300 : decode cX10_work 300 = .ok (.goto (-289), 3) := by decide +kernel
theorem dX10_work_303 : decode cX10_work 303 = .ok (.return_, 1) := by decide +kernel
theorem dX10_best_0 : decode cX10_best 0 = .ok (.aload_n 0, 1) := by decide +kernel
theorem dX10_best_1 : decode cX10_best 1 = .ok (.iconst (-1), 1) := by decide +kernel
theorem dX10_best_2 : decode cX10_best 2 = .ok (.putfield 276, 3) := by decide +kernel
theorem dX10_best_5 : decode cX10_best 5 = .ok (.aload_n 0, 1) := by decide +kernel
theorem dX10_best_6 : decode cX10_best 6 = .ok (.invokevirtual 288, 3) := by decide +kernel
theorem dX10_best_9 : decode cX10_best 9 = .ok (.aload_n 0, 1) := by decide +kernel
theorem dX10_best_10 : decode cX10_best 10 = .ok (.iconst 0, 1) := by decide +kernel
theorem dX10_best_11 : decode cX10_best 11 = .ok (.putfield 291, 3) := by decide +kernel
theorem dX10_best_14 : decode cX10_best 14 = .ok (.aload_n 0, 1) := by decide +kernel
theorem dX10_best_15 : decode cX10_best 15 = .ok (.getfield 79, 3) := by decide +kernel
theorem dX10_best_18 : decode cX10_best 18 = .ok (.iconst 0, 1) := by decide +kernel
theorem dX10_best_19 : decode cX10_best 19 = .ok (.iaload, 1) := by decide +kernel
theorem dX10_best_20 : decode cX10_best 20 = .ok (.ldc_w 272, 3) := by decide +kernel
theorem dX10_best_23 : decode cX10_best 23 = .ok (.if_icmp .lt 5, 3) := by decide +kernel
theorem dX10_best_26 : decode cX10_best 26 = .ok (.iconst 0, 1) := by decide +kernel
theorem dX10_best_27 : decode cX10_best 27 = .ok (.ireturn, 1) := by decide +kernel
theorem dX10_best_28 : decode cX10_best 28 = .ok (.iconst 0, 1) := by decide +kernel
theorem dX10_best_29 : decode cX10_best 29 = .ok (.istore_n 1, 1) := by decide +kernel
theorem dX10_best_30 : decode cX10_best 30 = .ok (.iconst 0, 1) := by decide +kernel
theorem dX10_best_31 : decode cX10_best 31 = .ok (.istore_n 2, 1) := by decide +kernel
theorem dX10_best_32 : decode cX10_best 32 = .ok (.iload_n 1, 1) := by decide +kernel
theorem dX10_best_33 : decode cX10_best 33 = .ok (.aload_n 0, 1) := by decide +kernel
theorem dX10_best_34 : decode cX10_best 34 = .ok (.getfield 19, 3) := by decide +kernel
theorem dX10_best_37 : decode cX10_best 37 = .ok (.iconst 0, 1) := by decide +kernel
theorem dX10_best_38 : decode cX10_best 38 = .ok (.iaload, 1) := by decide +kernel
theorem dX10_best_39 : decode cX10_best 39 = .ok (.if_icmp .lt 13, 3) := by decide +kernel
theorem dX10_best_42 : decode cX10_best 42 = .ok (.iload_n 2, 1) := by decide +kernel
theorem dX10_best_43 : decode cX10_best 43 = .ok (.aload_n 0, 1) := by decide +kernel
theorem dX10_best_44 : decode cX10_best 44 = .ok (.getfield 19, 3) := by decide +kernel
theorem dX10_best_47 : decode cX10_best 47 = .ok (.iconst 1, 1) := by decide +kernel
theorem dX10_best_48 : decode cX10_best 48 = .ok (.iaload, 1) := by decide +kernel
theorem dX10_best_49 : decode cX10_best 49 = .ok (.if_icmp .ge 158, 3) := by decide +kernel
theorem dX10_best_52 : decode cX10_best 52 = .ok (.iconst (-1), 1) := by decide +kernel
theorem dX10_best_53 : decode cX10_best 53 = .ok (.istore_n 3, 1) := by decide +kernel
theorem dX10_best_54 : decode cX10_best 54 = .ok (.bipush 6, 2) := by decide +kernel
theorem dX10_best_56 : decode cX10_best 56 = .ok (.istore 4, 2) := by decide +kernel
theorem dX10_best_58 : decode cX10_best 58 = .ok (.iload 4, 2) := by decide +kernel
theorem dX10_best_60 : decode cX10_best 60 = .ok (.ifCond .lt 90, 3) := by decide +kernel
theorem dX10_best_63 : decode cX10_best 63 = .ok (.aload_n 0, 1) := by decide +kernel
theorem dX10_best_64 : decode cX10_best 64 = .ok (.iload 4, 2) := by decide +kernel
theorem dX10_best_66 : decode cX10_best 66 = .ok (.iload_n 1, 1) := by decide +kernel
theorem dX10_best_67 : decode cX10_best 67 = .ok (.iload_n 2, 1) := by decide +kernel
theorem dX10_best_68 : decode cX10_best 68 = .ok (.invokevirtual 273, 3) := by decide +kernel
theorem dX10_best_71 : decode cX10_best 71 = .ok (.ifCond .eq 73, 3) := by decide +kernel
theorem dX10_best_74 : decode cX10_best 74 = .ok (.bipush 21, 2) := by decide +kernel
theorem dX10_best_76 : decode cX10_best 76 = .ok (.iload_n 1, 1) := by decide +kernel
theorem dX10_best_77 : decode cX10_best 77 = .ok (.iload 4, 2) := by decide +kernel
theorem dX10_best_79 : decode cX10_best 79 = .ok (.invokestatic 254, 3) := by decide +kernel
theorem dX10_best_82 : decode cX10_best 82 = .ok (.iadd, 1) := by decide +kernel
theorem dX10_best_83 : decode cX10_best 83 = .ok (.imul, 1) := by decide +kernel
theorem dX10_best_84 : decode cX10_best 84 = .ok (.iload_n 2, 1) := by decide +kernel
theorem dX10_best_85 : decode cX10_best 85 = .ok (.iadd, 1) := by decide +kernel
theorem dX10_best_86 : decode cX10_best 86 = .ok (.iload 4, 2) := by decide +kernel
theorem dX10_best_88 : decode cX10_best 88 = .ok (.invokestatic 257, 3) := by decide +kernel
theorem dX10_best_91 : decode cX10_best 91 = .ok (.iadd, 1) := by decide +kernel
theorem dX10_best_92 : decode cX10_best 92 = .ok (.istore 5, 2) := by decide +kernel
theorem dX10_best_94 : decode cX10_best 94 = .ok (.aload_n 0, 1) := by decide +kernel
theorem dX10_best_95 : decode cX10_best 95 = .ok (.getfield 79, 3) := by decide +kernel
theorem dX10_best_98 : decode cX10_best 98 = .ok (.iload 5, 2) := by decide +kernel
theorem dX10_best_100 : decode cX10_best 100 = .ok (.iaload, 1) := by decide +kernel
theorem dX10_best_101 : decode cX10_best 101 = .ok (.ldc_w 272, 3) := by decide +kernel
theorem dX10_best_104 : decode cX10_best 104 = .ok (.if_icmp .ge 38, 3) := by decide +kernel
theorem dX10_best_107 : decode cX10_best 107 = .ok (.aload_n 0, 1) := by decide +kernel
theorem dX10_best_108 : decode cX10_best 108 = .ok (.iload 4, 2) := by decide +kernel
theorem dX10_best_110 : decode cX10_best 110 = .ok (.iload_n 1, 1) := by decide +kernel
theorem dX10_best_111 : decode cX10_best 111 = .ok (.iload_n 2, 1) := by decide +kernel
theorem dX10_best_112 : decode cX10_best 112 = .ok (.invokevirtual 285, 3) := by decide +kernel
theorem dX10_best_115 : decode cX10_best 115 = .ok (.aload_n 0, 1) := by decide +kernel
theorem dX10_best_116 : decode cX10_best 116 = .ok (.getfield 79, 3) := by decide +kernel
theorem dX10_best_119 : decode cX10_best 119 = .ok (.iload 5, 2) := by decide +kernel
theorem dX10_best_121 : decode cX10_best 121 = .ok (.iaload, 1) := by decide +kernel
theorem dX10_best_122 : decode cX10_best 122 = .ok (.iadd, 1) := by decide +kernel
theorem dX10_best_123 : decode cX10_best 123 = .ok (.aload_n 0, 1) := by decide +kernel
theorem dX10_best_124 : decode cX10_best 124 = .ok (.getfield 79, 3) := by decide +kernel
theorem dX10_best_127 : decode cX10_best 127 = .ok (.bipush 21, 2) := by decide +kernel
theorem dX10_best_129 : decode cX10_best 129 = .ok (.iload_n 1, 1) := by decide +kernel
theorem dX10_best_130 : decode cX10_best 130 = .ok (.imul, 1) := by decide +kernel
theorem dX10_best_131 : decode cX10_best 131 = .ok (.iload_n 2, 1) := by decide +kernel
theorem dX10_best_132 : decode cX10_best 132 = .ok (.iadd, 1) := by decide +kernel
theorem dX10_best_133 : decode cX10_best 133 = .ok (.iaload, 1) := by decide +kernel
theorem dX10_best_134 : decode cX10_best 134 = .ok (.if_icmp .ne 8, 3) := by decide +kernel
theorem dX10_best_137 : decode cX10_best 137 = .ok (.iload 4, 2) := by decide +kernel
theorem dX10_best_139 : decode cX10_best 139 = .ok (.goto 4, 3) := by decide +kernel
theorem dX10_best_142 : decode cX10_best 142 = .ok (.iload_n 3, 1) := by decide +kernel
theorem dX10_best_143 : decode cX10_best 143 = .ok (.istore_n 3, 1) := by decide +kernel
theorem dX10_best_144 : decode cX10_best 144 = .ok (.iinc 4 (-1), 3) := by decide +kernel
theorem dX10_best_147 : decode cX10_best 147 = .ok (.goto (-89), 3) := by decide +kernel
theorem dX10_best_150 : decode cX10_best 150 = .ok (.aload_n 0, 1) := by decide +kernel
theorem dX10_best_151 : decode cX10_best 151 = .ok (.getfield 85, 3) := by decide +kernel
theorem dX10_best_154 : decode cX10_best 154 = .ok (.aload_n 0, 1) := by decide +kernel
theorem dX10_best_155 : decode cX10_best 155 = .ok (.getfield 291, 3) := by decide +kernel
theorem dX10_best_158 : decode cX10_best 158 = .ok (.iload_n 3, 1) := by decide +kernel
theorem dX10_best_159 : decode cX10_best 159 = .ok (.iastore, 1) := by decide +kernel
theorem dX10_best_160 : decode cX10_best 160 = .ok (.aload_n 0, 1) := by decide +kernel
theorem dX10_best_161 : decode cX10_best 161 = .ok (.getfield 88, 3) := by decide +kernel
theorem dX10_best_164 : decode cX10_best 164 = .ok (.aload_n 0, 1) := by decide +kernel
theorem dX10_best_165 : decode cX10_best 165 = .ok (.getfield 291, 3) := by decide +kernel
theorem dX10_best_168 : decode cX10_best 168 = .ok (.iload_n 1, 1) := by decide +kernel
theorem dX10_best_169 : decode cX10_best 169 = .ok (.iastore, 1) := by decide +kernel
theorem dX10_best_170 : decode cX10_best 170 = .ok (.aload_n 0, 1) := by decide +kernel
theorem dX10_best_171 : decode cX10_best 171 = .ok (.getfield 91, 3) := by decide +kernel
theorem dX10_best_174 : decode cX10_best 174 = .ok (.aload_n 0, 1) := by decide +kernel
theorem dX10_best_175 : decode cX10_best 175 = .ok (.getfield 291, 3) := by decide +kernel
theorem dX10_best_178 : decode cX10_best 178 = .ok (.iload_n 2, 1) := by decide +kernel
theorem dX10_best_179 : decode cX10_best 179 = .ok (.iastore, 1) := by decide +kernel
theorem dX10_best_180 : decode cX10_best 180 = .ok (.aload_n 0, 1) := by decide +kernel
theorem dX10_best_181 : decode cX10_best 181 = .ok (.dup, 1) := by decide +kernel
theorem dX10_best_182 : decode cX10_best 182 = .ok (.getfield 291, 3) := by decide +kernel
theorem dX10_best_185 : decode cX10_best 185 = .ok (.iconst 1, 1) := by decide +kernel
theorem dX10_best_186 : decode cX10_best 186 = .ok (.iadd, 1) := by decide +kernel
theorem dX10_best_187 : decode cX10_best 187 = .ok (.putfield 291, 3) := by decide +kernel
theorem dX10_best_190 : decode cX10_best 190 = .ok (.iload_n 1, 1) := by decide +kernel
theorem dX10_best_191 : decode cX10_best 191 = .ok (.iload_n 3, 1) := by decide +kernel
theorem dX10_best_192 : decode cX10_best 192 = .ok (.invokestatic 254, 3) := by decide +kernel
theorem dX10_best_195 : decode cX10_best 195 = .ok (.iadd, 1) := by decide +kernel
theorem dX10_best_196 : decode cX10_best 196 = .ok (.istore_n 1, 1) := by decide +kernel
theorem dX10_best_197 : decode cX10_best 197 = .ok (.iload_n 2, 1) := by decide +kernel
theorem dX10_best_198 : decode cX10_best 198 = .ok (.iload_n 3, 1) := by decide +kernel
theorem dX10_best_199 : decode cX10_best 199 = .ok (.invokestatic 257, 3) := by decide +kernel
theorem dX10_best_202 : decode cX10_best 202 = .ok (.iadd, 1) := by decide +kernel
theorem dX10_best_203 : decode cX10_best 203 = .ok (.istore_n 2, 1) := by decide +kernel
theorem dX10_best_204 : decode cX10_best 204 = .ok (.goto (-172), 3) := by decide +kernel
theorem dX10_best_207 : decode cX10_best 207 = .ok (.iconst 1, 1) := by decide +kernel
theorem dX10_best_208 : decode cX10_best 208 = .ok (.ireturn, 1) := by decide +kernel
theorem dX10_lay_0 : decode cX10_lay 0 = .ok (.aload_n 0, 1) := by decide +kernel
theorem dX10_lay_1 : decode cX10_lay 1 = .ok (.invokevirtual 294, 3) := by decide +kernel
theorem dX10_lay_4 : decode cX10_lay 4 = .ok (.ifCond .eq 10, 3) := by decide +kernel
theorem dX10_lay_7 : decode cX10_lay 7 = .ok (.aload_n 0, 1) := by decide +kernel
theorem dX10_lay_8 : decode cX10_lay 8 = .ok (.getfield 291, 3) := by decide +kernel
theorem dX10_lay_11 : decode cX10_lay 11 = .ok (.goto 4, 3) := by decide +kernel
theorem dX10_lay_14 : decode cX10_lay 14 = .ok (.iconst (-1), 1) := by decide +kernel
theorem dX10_lay_15 : decode cX10_lay 15 = .ok (.ireturn, 1) := by decide +kernel
theorem dX10_isJoint_0 : decode cX10_isJoint 0 = .ok (.aload_n 0, 1) := by decide +kernel
theorem dX10_isJoint_1 : decode cX10_isJoint 1 = .ok (.invokevirtual 294, 3) := by decide +kernel
theorem dX10_isJoint_4 : decode cX10_isJoint 4 = .ok (.ifCond .eq 23, 3) := by decide +kernel
theorem dX10_isJoint_7 : decode cX10_isJoint 7 = .ok (.iload_n 1, 1) := by decide +kernel
theorem dX10_isJoint_8 : decode cX10_isJoint 8 = .ok (.i2l, 1) := by decide +kernel
theorem dX10_isJoint_9 : decode cX10_isJoint 9 = .ok (.lconst 0, 1) := by decide +kernel
theorem dX10_isJoint_10 : decode cX10_isJoint 10 = .ok (.aload_n 0, 1) := by decide +kernel
theorem dX10_isJoint_11 : decode cX10_isJoint 11 = .ok (.getfield 291, 3) := by decide +kernel
theorem dX10_isJoint_14 : decode cX10_isJoint 14 = .ok (.iconst 1, 1) := by decide +kernel
theorem dX10_isJoint_15 : decode cX10_isJoint 15 = .ok (.isub, 1) := by decide +kernel
theorem dX10_isJoint_16 : decode cX10_isJoint 16 = .ok (.i2l, 1) := by decide +kernel
theorem dX10_isJoint_17 : decode cX10_isJoint 17 = .ok (.invokestatic 131, 3) := by decide +kernel
theorem dX10_isJoint_20 : decode cX10_isJoint 20 = .ok (.ifCond .eq 7, 3) := by decide +kernel
theorem dX10_isJoint_23 : decode cX10_isJoint 23 = .ok (.iconst 1, 1) := by decide +kernel
theorem dX10_isJoint_24 : decode cX10_isJoint 24 = .ok (.goto 4, 3) := by decide +kernel
theorem dX10_isJoint_27 : decode cX10_isJoint 27 = .ok (.iconst 0, 1) := by decide +kernel
theorem dX10_isJoint_28 : decode cX10_isJoint 28 = .ok (.ireturn, 1) := by decide +kernel
theorem dX10_joint_0 : decode cX10_joint 0 = .ok (.aload_n 0, 1) := by decide +kernel
theorem dX10_joint_1 : decode cX10_joint 1 = .ok (.iload_n 1, 1) := by decide +kernel
theorem dX10_joint_2 : decode cX10_joint 2 = .ok (.invokevirtual 297, 3) := by decide +kernel
theorem dX10_joint_5 : decode cX10_joint 5 = .ok (.ifCond .ne 6, 3) := by decide +kernel
theorem dX10_joint_8 : decode cX10_joint 8 = .ok (.ldc 194, 2) := by decide +kernel
theorem dX10_joint_10 : decode cX10_joint 10 = .ok (.ireturn, 1) := by decide +kernel
theorem dX10_joint_11 : decode cX10_joint 11 = .ok (.iload_n 2, 1) := by decide +kernel
theorem dX10_joint_12 : decode cX10_joint 12 = .ok (.ifCond .ne 12, 3) := by decide +kernel
theorem dX10_joint_15 : decode cX10_joint 15 = .ok (.aload_n 0, 1) := by decide +kernel
theorem dX10_joint_16 : decode cX10_joint 16 = .ok (.getfield 85, 3) := by decide +kernel
theorem dX10_joint_19 : decode cX10_joint 19 = .ok (.iload_n 1, 1) := by decide +kernel
theorem dX10_joint_20 : decode cX10_joint 20 = .ok (.iaload, 1) := by decide +kernel
theorem dX10_joint_21 : decode cX10_joint 21 = .ok (.goto 63, 3) := by decide +kernel
theorem dX10_joint_24 : decode cX10_joint 24 = .ok (.iload_n 2, 1) := by decide +kernel
theorem dX10_joint_25 : decode cX10_joint 25 = .ok (.iconst 1, 1) := by decide +kernel
theorem dX10_joint_26 : decode cX10_joint 26 = .ok (.if_icmp .ne 12, 3) := by decide +kernel
theorem dX10_joint_29 : decode cX10_joint 29 = .ok (.aload_n 0, 1) := by decide +kernel
theorem dX10_joint_30 : decode cX10_joint 30 = .ok (.getfield 88, 3) := by decide +kernel
theorem dX10_joint_33 : decode cX10_joint 33 = .ok (.iload_n 1, 1) := by decide +kernel
theorem dX10_joint_34 : decode cX10_joint 34 = .ok (.iaload, 1) := by decide +kernel
theorem dX10_joint_35 : decode cX10_joint 35 = .ok (.goto 49, 3) := by decide +kernel
theorem dX10_joint_38 : decode cX10_joint 38 = .ok (.iload_n 2, 1) := by decide +kernel
theorem dX10_joint_39 : decode cX10_joint 39 = .ok (.iconst 2, 1) := by decide +kernel
theorem dX10_joint_40 : decode cX10_joint 40 = .ok (.if_icmp .ne 12, 3) := by decide +kernel
theorem dX10_joint_43 : decode cX10_joint 43 = .ok (.aload_n 0, 1) := by decide +kernel
theorem dX10_joint_44 : decode cX10_joint 44 = .ok (.getfield 91, 3) := by decide +kernel
theorem dX10_joint_47 : decode cX10_joint 47 = .ok (.iload_n 1, 1) := by decide +kernel
theorem dX10_joint_48 : decode cX10_joint 48 = .ok (.iaload, 1) := by decide +kernel
theorem dX10_joint_49 : decode cX10_joint 49 = .ok (.goto 35, 3) := by decide +kernel
theorem dX10_joint_52 : decode cX10_joint 52 = .ok (.iload_n 2, 1) := by decide +kernel
theorem dX10_joint_53 : decode cX10_joint 53 = .ok (.iconst 3, 1) := by decide +kernel
theorem dX10_joint_54 : decode cX10_joint 54 = .ok (.if_icmp .ne 28, 3) := by decide +kernel
theorem dX10_joint_57 : decode cX10_joint 57 = .ok (.aload_n 0, 1) := by decide +kernel
theorem dX10_joint_58 : decode cX10_joint 58 = .ok (.aload_n 0, 1) := by decide +kernel
theorem dX10_joint_59 : decode cX10_joint 59 = .ok (.getfield 85, 3) := by decide +kernel
theorem dX10_joint_62 : decode cX10_joint 62 = .ok (.iload_n 1, 1) := by decide +kernel
theorem dX10_joint_63 : decode cX10_joint 63 = .ok (.iaload, 1) := by decide +kernel
theorem dX10_joint_64 : decode cX10_joint 64 = .ok (.aload_n 0, 1) := by decide +kernel
theorem dX10_joint_65 : decode cX10_joint 65 = .ok (.getfield 88, 3) := by decide +kernel
theorem dX10_joint_68 : decode cX10_joint 68 = .ok (.iload_n 1, 1) := by decide +kernel
theorem dX10_joint_69 : decode cX10_joint 69 = .ok (.iaload, 1) := by decide +kernel
theorem dX10_joint_70 : decode cX10_joint 70 = .ok (.aload_n 0, 1) := by decide +kernel
theorem dX10_joint_71 : decode cX10_joint 71 = .ok (.getfield 91, 3) := by decide +kernel
theorem dX10_joint_74 : decode cX10_joint 74 = .ok (.iload_n 1, 1) := by decide +kernel
theorem dX10_joint_75 : decode cX10_joint 75 = .ok (.iaload, 1) := by decide +kernel
theorem dX10_joint_76 : decode cX10_joint 76 = .ok (.invokevirtual 285, 3) := by decide +kernel
theorem dX10_joint_79 : decode cX10_joint 79 = .ok (.goto 5, 3) := by decide +kernel
theorem dX10_joint_82 : decode cX10_joint 82 = .ok (.ldc 135, 2) := by decide +kernel
theorem dX10_joint_84 : decode cX10_joint 84 = .ok (.ireturn, 1) := by decide +kernel
theorem dX10_price_0 : decode cX10_price 0 = .ok (.iload_n 1, 1) := by decide +kernel
theorem dX10_price_1 : decode cX10_price 1 = .ok (.i2l, 1) := by decide +kernel
theorem dX10_price_2 : decode cX10_price 2 = .ok (.lconst 0, 1) := by decide +kernel
theorem dX10_price_3 : decode cX10_price 3 = .ok (.ldc2_w 300, 3) := by decide +kernel
theorem dX10_price_6 : decode cX10_price 6 = .ok (.invokestatic 131, 3) := by decide +kernel
theorem dX10_price_9 : decode cX10_price 9 = .ok (.ifCond .ne 6, 3) := by decide +kernel
theorem dX10_price_12 : decode cX10_price 12 = .ok (.ldc 135, 2) := by decide +kernel
theorem dX10_price_14 : decode cX10_price 14 = .ok (.ireturn, 1) := by decide +kernel
theorem dX10_price_15 : decode cX10_price 15 = .ok (.iload_n 1, 1) := by decide +kernel
theorem dX10_price_16 : decode cX10_price 16 = .ok (.invokestatic 254, 3) := by decide +kernel
theorem dX10_price_19 : decode cX10_price 19 = .ok (.ifCond .eq 26, 3) := by decide +kernel
theorem dX10_price_22 : decode cX10_price 22 = .ok (.iload_n 2, 1) := by decide +kernel
theorem dX10_price_23 : decode cX10_price 23 = .ok (.ifCond .lt 56, 3) := by decide +kernel
theorem dX10_price_26 : decode cX10_price 26 = .ok (.iload_n 2, 1) := by decide +kernel
theorem dX10_price_27 : decode cX10_price 27 = .ok (.i2l, 1) := by decide +kernel
theorem dX10_price_28 : decode cX10_price 28 = .ok (.iload_n 1, 1) := by decide +kernel
theorem dX10_price_29 : decode cX10_price 29 = .ok (.invokestatic 254, 3) := by decide +kernel
theorem dX10_price_32 : decode cX10_price 32 = .ok (.i2l, 1) := by decide +kernel
theorem dX10_price_33 : decode cX10_price 33 = .ok (.ladd, 1) := by decide +kernel
theorem dX10_price_34 : decode cX10_price 34 = .ok (.aload_n 0, 1) := by decide +kernel
theorem dX10_price_35 : decode cX10_price 35 = .ok (.getfield 19, 3) := by decide +kernel
theorem dX10_price_38 : decode cX10_price 38 = .ok (.iconst 0, 1) := by decide +kernel
theorem dX10_price_39 : decode cX10_price 39 = .ok (.iaload, 1) := by decide +kernel
theorem dX10_price_40 : decode cX10_price 40 = .ok (.i2l, 1) := by decide +kernel
theorem dX10_price_41 : decode cX10_price 41 = .ok (.lcmp, 1) := by decide +kernel
theorem dX10_price_42 : decode cX10_price 42 = .ok (.ifCond .gt 37, 3) := by decide +kernel
theorem dX10_price_45 : decode cX10_price 45 = .ok (.iload_n 1, 1) := by decide +kernel
theorem dX10_price_46 : decode cX10_price 46 = .ok (.invokestatic 257, 3) := by decide +kernel
theorem dX10_price_49 : decode cX10_price 49 = .ok (.ifCond .eq 26, 3) := by decide +kernel
theorem dX10_price_52 : decode cX10_price 52 = .ok (.iload_n 3, 1) := by decide +kernel
theorem dX10_price_53 : decode cX10_price 53 = .ok (.ifCond .lt 26, 3) := by decide +kernel
theorem dX10_price_56 : decode cX10_price 56 = .ok (.iload_n 3, 1) := by decide +kernel
theorem dX10_price_57 : decode cX10_price 57 = .ok (.i2l, 1) := by decide +kernel
theorem dX10_price_58 : decode cX10_price 58 = .ok (.iload_n 1, 1) := by decide +kernel
theorem dX10_price_59 : decode cX10_price 59 = .ok (.invokestatic 257, 3) := by decide +kernel
theorem dX10_price_62 : decode cX10_price 62 = .ok (.i2l, 1) := by decide +kernel
theorem dX10_price_63 : decode cX10_price 63 = .ok (.ladd, 1) := by decide +kernel
theorem dX10_price_64 : decode cX10_price 64 = .ok (.aload_n 0, 1) := by decide +kernel
theorem dX10_price_65 : decode cX10_price 65 = .ok (.getfield 19, 3) := by decide +kernel
theorem dX10_price_68 : decode cX10_price 68 = .ok (.iconst 1, 1) := by decide +kernel
theorem dX10_price_69 : decode cX10_price 69 = .ok (.iaload, 1) := by decide +kernel
theorem dX10_price_70 : decode cX10_price 70 = .ok (.i2l, 1) := by decide +kernel
theorem dX10_price_71 : decode cX10_price 71 = .ok (.lcmp, 1) := by decide +kernel
theorem dX10_price_72 : decode cX10_price 72 = .ok (.ifCond .gt 7, 3) := by decide +kernel
theorem dX10_price_75 : decode cX10_price 75 = .ok (.iconst 1, 1) := by decide +kernel
theorem dX10_price_76 : decode cX10_price 76 = .ok (.goto 4, 3) := by decide +kernel
theorem dX10_price_79 : decode cX10_price 79 = .ok (.iconst 0, 1) := by decide +kernel
theorem dX10_price_80 : decode cX10_price 80 = .ok (.istore 4, 2) := by decide +kernel
theorem dX10_price_82 : decode cX10_price 82 = .ok (.aload_n 0, 1) := by decide +kernel
theorem dX10_price_83 : decode cX10_price 83 = .ok (.invokevirtual 269, 3) := by decide +kernel
theorem dX10_price_86 : decode cX10_price 86 = .ok (.iload 4, 2) := by decide +kernel
theorem dX10_price_88 : decode cX10_price 88 = .ok (.ifCond .eq 13, 3) := by decide +kernel
theorem dX10_price_91 : decode cX10_price 91 = .ok (.aload_n 0, 1) := by decide +kernel
theorem dX10_price_92 : decode cX10_price 92 = .ok (.iload_n 1, 1) := by decide +kernel
theorem dX10_price_93 : decode cX10_price 93 = .ok (.iload_n 2, 1) := by decide +kernel
theorem dX10_price_94 : decode cX10_price 94 = .ok (.iload_n 3, 1) := by decide +kernel
theorem dX10_price_95 : decode cX10_price 95 = .ok (.invokevirtual 285, 3) := by decide +kernel
theorem dX10_price_98 : decode cX10_price 98 = .ok (.goto 5, 3) := by decide +kernel
theorem dX10_price_101 : decode cX10_price 101 = .ok (.ldc 194, 2) := by decide +kernel
theorem dX10_price_103 : decode cX10_price 103 = .ok (.ireturn, 1) := by decide +kernel
theorem dX10_rest_0 : decode cX10_rest 0 = .ok (.iload_n 1, 1) := by decide +kernel
theorem dX10_rest_1 : decode cX10_rest 1 = .ok (.i2l, 1) := by decide +kernel
theorem dX10_rest_2 : decode cX10_rest 2 = .ok (.lconst 0, 1) := by decide +kernel
theorem dX10_rest_3 : decode cX10_rest 3 = .ok (.aload_n 0, 1) := by decide +kernel
theorem dX10_rest_4 : decode cX10_rest 4 = .ok (.getfield 19, 3) := by decide +kernel
theorem dX10_rest_7 : decode cX10_rest 7 = .ok (.iconst 0, 1) := by decide +kernel
theorem dX10_rest_8 : decode cX10_rest 8 = .ok (.iaload, 1) := by decide +kernel
theorem dX10_rest_9 : decode cX10_rest 9 = .ok (.i2l, 1) := by decide +kernel
theorem dX10_rest_10 : decode cX10_rest 10 = .ok (.invokestatic 131, 3) := by decide +kernel
theorem dX10_rest_13 : decode cX10_rest 13 = .ok (.ifCond .eq 19, 3) := by decide +kernel
theorem dX10_rest_16 : decode cX10_rest 16 = .ok (.iload_n 2, 1) := by decide +kernel
theorem dX10_rest_17 : decode cX10_rest 17 = .ok (.i2l, 1) := by decide +kernel
theorem dX10_rest_18 : decode cX10_rest 18 = .ok (.lconst 0, 1) := by decide +kernel
theorem dX10_rest_19 : decode cX10_rest 19 = .ok (.aload_n 0, 1) := by decide +kernel
theorem dX10_rest_20 : decode cX10_rest 20 = .ok (.getfield 19, 3) := by decide +kernel
theorem dX10_rest_23 : decode cX10_rest 23 = .ok (.iconst 1, 1) := by decide +kernel
theorem dX10_rest_24 : decode cX10_rest 24 = .ok (.iaload, 1) := by decide +kernel
theorem dX10_rest_25 : decode cX10_rest 25 = .ok (.i2l, 1) := by decide +kernel
theorem dX10_rest_26 : decode cX10_rest 26 = .ok (.invokestatic 131, 3) := by decide +kernel
theorem dX10_rest_29 : decode cX10_rest 29 = .ok (.ifCond .ne 6, 3) := by decide +kernel
theorem dX10_rest_32 : decode cX10_rest 32 = .ok (.ldc 194, 2) := by decide +kernel
theorem dX10_rest_34 : decode cX10_rest 34 = .ok (.ireturn, 1) := by decide +kernel
theorem dX10_rest_35 : decode cX10_rest 35 = .ok (.aload_n 0, 1) := by decide +kernel
theorem dX10_rest_36 : decode cX10_rest 36 = .ok (.iconst (-1), 1) := by decide +kernel
