theorem dX9_cut_26 : decode cX9_cut 26 = .ok (.isub, 1) := by decide +kernel
theorem dX9_cut_27 : decode cX9_cut 27 = .ok (.istore_n 2, 1) := by decide +kernel
theorem dX9_cut_28 : decode cX9_cut 28 = .ok (.aload_n 0, 1) := by decide +kernel
theorem dX9_cut_29 : decode cX9_cut 29 = .ok (.getfield 12, 3) := by decide +kernel
theorem dX9_cut_32 : decode cX9_cut 32 = .ok (.iload_n 1, 1) := by decide +kernel
theorem dX9_cut_33 : decode cX9_cut 33 = .ok (.putfield 92, 3) := by decide +kernel
theorem dX9_cut_36 : decode cX9_cut 36 = .ok (.iload_n 2, 1) := by decide +kernel
theorem dX9_cut_37 : decode cX9_cut 37 = .ok (.ireturn, 1) := by decide +kernel
theorem dX9_abbreviate_0 : decode cX9_abbreviate 0 = .ok (.aload_n 0, 1) := by decide +kernel
theorem dX9_abbreviate_1 : decode cX9_abbreviate 1 = .ok (.getfield 30, 3) := by decide +kernel
theorem dX9_abbreviate_4 : decode cX9_abbreviate 4 = .ok (.invokevirtual 100, 3) := by decide +kernel
theorem dX9_abbreviate_7 : decode cX9_abbreviate 7 = .ok (.iconst 1, 1) := by decide +kernel
theorem dX9_abbreviate_8 : decode cX9_abbreviate 8 = .ok (.if_icmp .eq 6, 3) := by decide +kernel
theorem dX9_abbreviate_11 : decode cX9_abbreviate 11 = .ok (.ldc 104, 2) := by decide +kernel
theorem dX9_abbreviate_13 : decode cX9_abbreviate 13 = .ok (.ireturn, 1) := by decide +kernel
theorem dX9_abbreviate_14 : decode cX9_abbreviate 14 = .ok (.aload_n 0, 1) := by decide +kernel
theorem dX9_abbreviate_15 : decode cX9_abbreviate 15 = .ok (.getfield 21, 3) := by decide +kernel
theorem dX9_abbreviate_18 : decode cX9_abbreviate 18 = .ok (.aload_n 0, 1) := by decide +kernel
theorem dX9_abbreviate_19 : decode cX9_abbreviate 19 = .ok (.getfield 30, 3) := by decide +kernel
theorem dX9_abbreviate_22 : decode cX9_abbreviate 22 = .ok (.getfield 105, 3) := by decide +kernel
theorem dX9_abbreviate_25 : decode cX9_abbreviate 25 = .ok (.aload_n 0, 1) := by decide +kernel
theorem dX9_abbreviate_26 : decode cX9_abbreviate 26 = .ok (.getfield 30, 3) := by decide +kernel
theorem dX9_abbreviate_29 : decode cX9_abbreviate 29 = .ok (.getfield 109, 3) := by decide +kernel
theorem dX9_abbreviate_32 : decode cX9_abbreviate 32 = .ok (.invokevirtual 112, 3) := by decide +kernel
theorem dX9_abbreviate_35 : decode cX9_abbreviate 35 = .ok (.iconst (-1), 1) := by decide +kernel
theorem dX9_abbreviate_36 : decode cX9_abbreviate 36 = .ok (.if_icmp .ne 6, 3) := by decide +kernel
theorem dX9_abbreviate_39 : decode cX9_abbreviate 39 = .ok (.ldc 95, 2) := by decide +kernel
theorem dX9_abbreviate_41 : decode cX9_abbreviate 41 = .ok (.ireturn, 1) := by decide +kernel
theorem dX9_abbreviate_42 : decode cX9_abbreviate 42 = .ok (.aload_n 0, 1) := by decide +kernel
theorem dX9_abbreviate_43 : decode cX9_abbreviate 43 = .ok (.getfield 12, 3) := by decide +kernel
theorem dX9_abbreviate_46 : decode cX9_abbreviate 46 = .ok (.iconst 0, 1) := by decide +kernel
theorem dX9_abbreviate_47 : decode cX9_abbreviate 47 = .ok (.putfield 92, 3) := by decide +kernel
theorem dX9_abbreviate_50 : decode cX9_abbreviate 50 = .ok (.aload_n 0, 1) := by decide +kernel
theorem dX9_abbreviate_51 : decode cX9_abbreviate 51 = .ok (.getfield 21, 3) := by decide +kernel
theorem dX9_abbreviate_54 : decode cX9_abbreviate 54 = .ok (.getfield 116, 3) := by decide +kernel
theorem dX9_abbreviate_57 : decode cX9_abbreviate 57 = .ok (.ireturn, 1) := by decide +kernel
theorem dX9_take_0 : decode cX9_take 0 = .ok (.aload_n 0, 1) := by decide +kernel
theorem dX9_take_1 : decode cX9_take 1 = .ok (.iload_n 1, 1) := by decide +kernel
theorem dX9_take_2 : decode cX9_take 2 = .ok (.invokevirtual 119, 3) := by decide +kernel
theorem dX9_take_5 : decode cX9_take 5 = .ok (.ifCond .ne 6, 3) := by decide +kernel
theorem dX9_take_8 : decode cX9_take 8 = .ok (.ldc 123, 2) := by decide +kernel
theorem dX9_take_10 : decode cX9_take 10 = .ok (.ireturn, 1) := by decide +kernel
theorem dX9_take_11 : decode cX9_take 11 = .ok (.aload_n 0, 1) := by decide +kernel
theorem dX9_take_12 : decode cX9_take 12 = .ok (.getfield 30, 3) := by decide +kernel
theorem dX9_take_15 : decode cX9_take 15 = .ok (.aload_n 0, 1) := by decide +kernel
theorem dX9_take_16 : decode cX9_take 16 = .ok (.getfield 41, 3) := by decide +kernel
theorem dX9_take_19 : decode cX9_take 19 = .ok (.invokevirtual 124, 3) := by decide +kernel
theorem dX9_take_22 : decode cX9_take 22 = .ok (.ifCond .ne 6, 3) := by decide +kernel
theorem dX9_take_25 : decode cX9_take 25 = .ok (.ldc 95, 2) := by decide +kernel
theorem dX9_take_27 : decode cX9_take 27 = .ok (.ireturn, 1) := by decide +kernel
theorem dX9_take_28 : decode cX9_take 28 = .ok (.aload_n 0, 1) := by decide +kernel
theorem dX9_take_29 : decode cX9_take 29 = .ok (.getfield 37, 3) := by decide +kernel
theorem dX9_take_32 : decode cX9_take 32 = .ok (.iload_n 1, 1) := by decide +kernel
theorem dX9_take_33 : decode cX9_take 33 = .ok (.aaload, 1) := by decide +kernel
theorem dX9_take_34 : decode cX9_take 34 = .ok (.astore_n 2, 1) := by decide +kernel
theorem dX9_take_35 : decode cX9_take 35 = .ok (.aload_n 0, 1) := by decide +kernel
theorem dX9_take_36 : decode cX9_take 36 = .ok (.getfield 37, 3) := by decide +kernel
theorem dX9_take_39 : decode cX9_take 39 = .ok (.iload_n 1, 1) := by decide +kernel
theorem dX9_take_40 : decode cX9_take 40 = .ok (.aload_n 0, 1) := by decide +kernel
theorem dX9_take_41 : decode cX9_take 41 = .ok (.getfield 41, 3) := by decide +kernel
theorem dX9_take_44 : decode cX9_take 44 = .ok (.aastore, 1) := by decide +kernel
theorem dX9_take_45 : decode cX9_take 45 = .ok (.aload_n 0, 1) := by decide +kernel
theorem dX9_take_46 : decode cX9_take 46 = .ok (.aload_n 2, 1) := by decide +kernel
theorem dX9_take_47 : decode cX9_take 47 = .ok (.putfield 41, 3) := by decide +kernel
theorem dX9_take_50 : decode cX9_take 50 = .ok (.aload_n 0, 1) := by decide +kernel
theorem dX9_take_51 : decode cX9_take 51 = .ok (.getfield 12, 3) := by decide +kernel
theorem dX9_take_54 : decode cX9_take 54 = .ok (.iconst 0, 1) := by decide +kernel
theorem dX9_take_55 : decode cX9_take 55 = .ok (.putfield 92, 3) := by decide +kernel
theorem dX9_take_58 : decode cX9_take 58 = .ok (.aload_n 0, 1) := by decide +kernel
theorem dX9_take_59 : decode cX9_take 59 = .ok (.getfield 48, 3) := by decide +kernel
theorem dX9_take_62 : decode cX9_take 62 = .ok (.invokevirtual 128, 3) := by decide +kernel
theorem dX9_take_65 : decode cX9_take 65 = .ok (.aload_n 0, 1) := by decide +kernel
theorem dX9_take_66 : decode cX9_take 66 = .ok (.getfield 55, 3) := by decide +kernel
theorem dX9_take_69 : decode cX9_take 69 = .ok (.aload_n 0, 1) := by decide +kernel
theorem dX9_take_70 : decode cX9_take 70 = .ok (.getfield 37, 3) := by decide +kernel
theorem dX9_take_73 : decode cX9_take 73 = .ok (.iconst 0, 1) := by decide +kernel
theorem dX9_take_74 : decode cX9_take 74 = .ok (.aaload, 1) := by decide +kernel
theorem dX9_take_75 : decode cX9_take 75 = .ok (.getfield 131, 3) := by decide +kernel
theorem dX9_take_78 : decode cX9_take 78 = .ok (.getfield 116, 3) := by decide +kernel
theorem dX9_take_81 : decode cX9_take 81 = .ok (.aload_n 0, 1) := by decide +kernel
theorem dX9_take_82 : decode cX9_take 82 = .ok (.getfield 37, 3) := by decide +kernel
theorem dX9_take_85 : decode cX9_take 85 = .ok (.iconst 1, 1) := by decide +kernel
theorem dX9_take_86 : decode cX9_take 86 = .ok (.aaload, 1) := by decide +kernel
theorem dX9_take_87 : decode cX9_take 87 = .ok (.getfield 131, 3) := by decide +kernel
theorem dX9_take_90 : decode cX9_take 90 = .ok (.getfield 116, 3) := by decide +kernel
theorem dX9_take_93 : decode cX9_take 93 = .ok (.invokevirtual 134, 3) := by decide +kernel
theorem dX9_take_96 : decode cX9_take 96 = .ok (.aload_n 0, 1) := by decide +kernel
theorem dX9_take_97 : decode cX9_take 97 = .ok (.iconst 1, 1) := by decide +kernel
theorem dX9_take_98 : decode cX9_take 98 = .ok (.putfield 87, 3) := by decide +kernel
theorem dX9_take_101 : decode cX9_take 101 = .ok (.aload_n 0, 1) := by decide +kernel
theorem dX9_take_102 : decode cX9_take 102 = .ok (.getfield 37, 3) := by decide +kernel
theorem dX9_take_105 : decode cX9_take 105 = .ok (.iload_n 1, 1) := by decide +kernel
theorem dX9_take_106 : decode cX9_take 106 = .ok (.aaload, 1) := by decide +kernel
theorem dX9_take_107 : decode cX9_take 107 = .ok (.getfield 138, 3) := by decide +kernel
theorem dX9_take_110 : decode cX9_take 110 = .ok (.ireturn, 1) := by decide +kernel
theorem dX9_count_0 : decode cX9_count 0 = .ok (.aload_n 0, 1) := by decide +kernel
theorem dX9_count_1 : decode cX9_count 1 = .ok (.iload_n 1, 1) := by decide +kernel
theorem dX9_count_2 : decode cX9_count 2 = .ok (.invokevirtual 119, 3) := by decide +kernel
theorem dX9_count_5 : decode cX9_count 5 = .ok (.ifCond .ne 6, 3) := by decide +kernel
theorem dX9_count_8 : decode cX9_count 8 = .ok (.ldc 123, 2) := by decide +kernel
theorem dX9_count_10 : decode cX9_count 10 = .ok (.ireturn, 1) := by decide +kernel
theorem dX9_count_11 : decode cX9_count 11 = .ok (.iload_n 2, 1) := by decide +kernel
theorem dX9_count_12 : decode cX9_count 12 = .ok (.tableswitch 109 0 4 #[36, 46, 56, 69, 89], 36) := by decide +kernel
theorem dX9_count_48 : decode cX9_count 48 = .ok (.aload_n 0, 1) := by decide +kernel
theorem dX9_count_49 : decode cX9_count 49 = .ok (.getfield 37, 3) := by decide +kernel
theorem dX9_count_52 : decode cX9_count 52 = .ok (.iload_n 1, 1) := by decide +kernel
theorem dX9_count_53 : decode cX9_count 53 = .ok (.aaload, 1) := by decide +kernel
theorem dX9_count_54 : decode cX9_count 54 = .ok (.getfield 138, 3) := by decide +kernel
theorem dX9_count_57 : decode cX9_count 57 = .ok (.ireturn, 1) := by decide +kernel
theorem dX9_count_58 : decode cX9_count 58 = .ok (.aload_n 0, 1) := by decide +kernel
theorem dX9_count_59 : decode cX9_count 59 = .ok (.getfield 37, 3) := by decide +kernel
theorem dX9_count_62 : decode cX9_count 62 = .ok (.iload_n 1, 1) := by decide +kernel
theorem dX9_count_63 : decode cX9_count 63 = .ok (.aaload, 1) := by decide +kernel
theorem dX9_count_64 : decode cX9_count 64 = .ok (.getfield 141, 3) := by decide +kernel
theorem dX9_count_67 : decode cX9_count 67 = .ok (.ireturn, 1) := by decide +kernel
theorem dX9_count_68 : decode cX9_count 68 = .ok (.aload_n 0, 1) := by decide +kernel
theorem dX9_count_69 : decode cX9_count 69 = .ok (.getfield 37, 3) := by decide +kernel
theorem dX9_count_72 : decode cX9_count 72 = .ok (.iload_n 1, 1) := by decide +kernel
theorem dX9_count_73 : decode cX9_count 73 = .ok (.aaload, 1) := by decide +kernel
theorem dX9_count_74 : decode cX9_count 74 = .ok (.getfield 131, 3) := by decide +kernel
theorem dX9_count_77 : decode cX9_count 77 = .ok (.getfield 116, 3) := by decide +kernel
theorem dX9_count_80 : decode cX9_count 80 = .ok (.ireturn, 1) := by decide +kernel
theorem dX9_count_81 : decode cX9_count 81 = .ok (.aload_n 0, 1) := by decide +kernel
theorem dX9_count_82 : decode cX9_count 82 = .ok (.getfield 37, 3) := by decide +kernel
theorem dX9_count_85 : decode cX9_count 85 = .ok (.iload_n 1, 1) := by decide +kernel
theorem dX9_count_86 : decode cX9_count 86 = .ok (.aaload, 1) := by decide +kernel
theorem dX9_count_87 : decode cX9_count 87 = .ok (.iconst 0, 1) := by decide +kernel
theorem dX9_count_88 : decode cX9_count 88 = .ok (.aload_n 0, 1) := by decide +kernel
theorem dX9_count_89 : decode cX9_count 89 = .ok (.getfield 37, 3) := by decide +kernel
theorem dX9_count_92 : decode cX9_count 92 = .ok (.iload_n 1, 1) := by decide +kernel
theorem dX9_count_93 : decode cX9_count 93 = .ok (.aaload, 1) := by decide +kernel
theorem dX9_count_94 : decode cX9_count 94 = .ok (.getfield 138, 3) := by decide +kernel
theorem dX9_count_97 : decode cX9_count 97 = .ok (.invokevirtual 144, 3) := by decide +kernel
theorem dX9_count_100 : decode cX9_count 100 = .ok (.ireturn, 1) := by decide +kernel
theorem dX9_count_101 : decode cX9_count 101 = .ok (.aload_n 0, 1) := by decide +kernel
theorem dX9_count_102 : decode cX9_count 102 = .ok (.getfield 37, 3) := by decide +kernel
theorem dX9_count_105 : decode cX9_count 105 = .ok (.iload_n 1, 1) := by decide +kernel
theorem dX9_count_106 : decode cX9_count 106 = .ok (.aaload, 1) := by decide +kernel
theorem dX9_count_107 : decode cX9_count 107 = .ok (.iconst 0, 1) := by decide +kernel
theorem dX9_count_108 : decode cX9_count 108 = .ok (.aload_n 0, 1) := by decide +kernel
theorem dX9_count_109 : decode cX9_count 109 = .ok (.getfield 37, 3) := by decide +kernel
theorem dX9_count_112 : decode cX9_count 112 = .ok (.iload_n 1, 1) := by decide +kernel
theorem dX9_count_113 : decode cX9_count 113 = .ok (.aaload, 1) := by decide +kernel
theorem dX9_count_114 : decode cX9_count 114 = .ok (.getfield 138, 3) := by decide +kernel
theorem dX9_count_117 : decode cX9_count 117 = .ok (.invokevirtual 148, 3) := by decide +kernel
theorem dX9_count_120 : decode cX9_count 120 = .ok (.ireturn, 1) := by decide +kernel
theorem dX9_count_121 : decode cX9_count 121 = .ok (.ldc 99, 2) := by decide +kernel
theorem dX9_count_123 : decode cX9_count 123 = .ok (.ireturn, 1) := by decide +kernel
theorem dX9_sentence_0 : decode cX9_sentence 0 = .ok (.aload_n 0, 1) := by decide +kernel
theorem dX9_sentence_1 : decode cX9_sentence 1 = .ok (.iload_n 1, 1) := by decide +kernel
theorem dX9_sentence_2 : decode cX9_sentence 2 = .ok (.iload_n 2, 1) := by decide +kernel
theorem dX9_sentence_3 : decode cX9_sentence 3 = .ok (.invokevirtual 151, 3) := by decide +kernel
theorem dX9_sentence_6 : decode cX9_sentence 6 = .ok (.ifCond .ne 6, 3) := by decide +kernel
theorem dX9_sentence_9 : decode cX9_sentence 9 = .ok (.ldc 123, 2) := by decide +kernel
theorem dX9_sentence_11 : decode cX9_sentence 11 = .ok (.ireturn, 1) := by decide +kernel
theorem dX9_sentence_12 : decode cX9_sentence 12 = .ok (.iload_n 3, 1) := by decide +kernel
theorem dX9_sentence_13 : decode cX9_sentence 13 = .ok (.tableswitch 63 0 2 #[27, 39, 51], 27) := by decide +kernel
theorem dX9_sentence_40 : decode cX9_sentence 40 = .ok (.aload_n 0, 1) := by decide +kernel
theorem dX9_sentence_41 : decode cX9_sentence 41 = .ok (.getfield 37, 3) := by decide +kernel
theorem dX9_sentence_44 : decode cX9_sentence 44 = .ok (.iload_n 1, 1) := by decide +kernel
theorem dX9_sentence_45 : decode cX9_sentence 45 = .ok (.aaload, 1) := by decide +kernel
theorem dX9_sentence_46 : decode cX9_sentence 46 = .ok (.getfield 155, 3) := by decide +kernel
theorem dX9_sentence_49 : decode cX9_sentence 49 = .ok (.iload_n 2, 1) := by decide +kernel
theorem dX9_sentence_50 : decode cX9_sentence 50 = .ok (.iaload, 1) := by decide +kernel
theorem dX9_sentence_51 : decode cX9_sentence 51 = .ok (.ireturn, 1) := by decide +kernel
theorem dX9_sentence_52 : decode cX9_sentence 52 = .ok (.aload_n 0, 1) := by decide +kernel
theorem dX9_sentence_53 : decode cX9_sentence 53 = .ok (.getfield 37, 3) := by decide +kernel
theorem dX9_sentence_56 : decode cX9_sentence 56 = .ok (.iload_n 1, 1) := by decide +kernel
theorem dX9_sentence_57 : decode cX9_sentence 57 = .ok (.aaload, 1) := by decide +kernel
theorem dX9_sentence_58 : decode cX9_sentence 58 = .ok (.iload_n 2, 1) := by decide +kernel
theorem dX9_sentence_59 : decode cX9_sentence 59 = .ok (.iconst 1, 1) := by decide +kernel
theorem dX9_sentence_60 : decode cX9_sentence 60 = .ok (.invokevirtual 148, 3) := by decide +kernel
theorem dX9_sentence_63 : decode cX9_sentence 63 = .ok (.ireturn, 1) := by decide +kernel
theorem dX9_sentence_64 : decode cX9_sentence 64 = .ok (.aload_n 0, 1) := by decide +kernel
theorem dX9_sentence_65 : decode cX9_sentence 65 = .ok (.getfield 37, 3) := by decide +kernel
theorem dX9_sentence_68 : decode cX9_sentence 68 = .ok (.iload_n 1, 1) := by decide +kernel
theorem dX9_sentence_69 : decode cX9_sentence 69 = .ok (.aaload, 1) := by decide +kernel
theorem dX9_sentence_70 : decode cX9_sentence 70 = .ok (.getfield 159, 3) := by decide +kernel
theorem dX9_sentence_73 : decode cX9_sentence 73 = .ok (.iload_n 2, 1) := by decide +kernel
theorem dX9_sentence_74 : decode cX9_sentence 74 = .ok (.iaload, 1) := by decide +kernel
theorem dX9_sentence_75 : decode cX9_sentence 75 = .ok (.ireturn, 1) := by decide +kernel
theorem dX9_sentence_76 : decode cX9_sentence 76 = .ok (.ldc 99, 2) := by decide +kernel
theorem dX9_sentence_78 : decode cX9_sentence 78 = .ok (.ireturn, 1) := by decide +kernel
theorem dX9_word_0 : decode cX9_word 0 = .ok (.aload_n 0, 1) := by decide +kernel
theorem dX9_word_1 : decode cX9_word 1 = .ok (.iload_n 1, 1) := by decide +kernel
theorem dX9_word_2 : decode cX9_word 2 = .ok (.iload_n 2, 1) := by decide +kernel
theorem dX9_word_3 : decode cX9_word 3 = .ok (.iload_n 3, 1) := by decide +kernel
theorem dX9_word_4 : decode cX9_word 4 = .ok (.invokevirtual 162, 3) := by decide +kernel
theorem dX9_word_7 : decode cX9_word 7 = .ok (.ifCond .ne 6, 3) := by decide +kernel
theorem dX9_word_10 : decode cX9_word 10 = .ok (.ldc 123, 2) := by decide +kernel
theorem dX9_word_12 : decode cX9_word 12 = .ok (.ireturn, 1) := by decide +kernel
theorem dX9_word_13 : decode cX9_word 13 = .ok (.aload_n 0, 1) := by decide +kernel
theorem dX9_word_14 : decode cX9_word 14 = .ok (.getfield 37, 3) := by decide +kernel
theorem dX9_word_17 : decode cX9_word 17 = .ok (.iload_n 1, 1) := by decide +kernel
theorem dX9_word_18 : decode cX9_word 18 = .ok (.aaload, 1) := by decide +kernel
theorem dX9_word_19 : decode cX9_word 19 = .ok (.getfield 166, 3) := by decide +kernel
theorem dX9_word_22 : decode cX9_word 22 = .ok (.iload_n 2, 1) := by decide +kernel
theorem dX9_word_23 : decode cX9_word 23 = .ok (.aaload, 1) := by decide +kernel
theorem dX9_word_24 : decode cX9_word 24 = .ok (.iload_n 3, 1) := by decide +kernel
theorem dX9_word_25 : decode cX9_word 25 = .ok (.iaload, 1) := by decide +kernel
theorem dX9_word_26 : decode cX9_word 26 = .ok (.ireturn, 1) := by decide +kernel
theorem dX9_letter_0 : decode cX9_letter 0 = .ok (.aload_n 0, 1) := by decide +kernel
theorem dX9_letter_1 : decode cX9_letter 1 = .ok (.iload_n 1, 1) := by decide +kernel
theorem dX9_letter_2 : decode cX9_letter 2 = .ok (.invokevirtual 119, 3) := by decide +kernel
theorem dX9_letter_5 : decode cX9_letter 5 = .ok (.ifCond .eq 12, 3) := by decide +kernel
theorem dX9_letter_8 : decode cX9_letter 8 = .ok (.aload_n 0, 1) := by decide +kernel
theorem dX9_letter_9 : decode cX9_letter 9 = .ok (.iload_n 1, 1) := by decide +kernel
theorem dX9_letter_10 : decode cX9_letter 10 = .ok (.iload_n 2, 1) := by decide +kernel
theorem dX9_letter_11 : decode cX9_letter 11 = .ok (.invokevirtual 170, 3) := by decide +kernel
theorem dX9_letter_14 : decode cX9_letter 14 = .ok (.ifCond .ne 6, 3) := by decide +kernel
theorem dX9_letter_17 : decode cX9_letter 17 = .ok (.ldc 123, 2) := by decide +kernel
theorem dX9_letter_19 : decode cX9_letter 19 = .ok (.ireturn, 1) := by decide +kernel
theorem dX9_letter_20 : decode cX9_letter 20 = .ok (.aload_n 0, 1) := by decide +kernel
theorem dX9_letter_21 : decode cX9_letter 21 = .ok (.getfield 37, 3) := by decide +kernel
theorem dX9_letter_24 : decode cX9_letter 24 = .ok (.iload_n 1, 1) := by decide +kernel
theorem dX9_letter_25 : decode cX9_letter 25 = .ok (.aaload, 1) := by decide +kernel
theorem dX9_letter_26 : decode cX9_letter 26 = .ok (.getfield 131, 3) := by decide +kernel
theorem dX9_letter_29 : decode cX9_letter 29 = .ok (.iload_n 2, 1) := by decide +kernel
theorem dX9_letter_30 : decode cX9_letter 30 = .ok (.iload_n 3, 1) := by decide +kernel
theorem dX9_letter_31 : decode cX9_letter 31 = .ok (.invokevirtual 173, 3) := by decide +kernel
theorem dX9_letter_34 : decode cX9_letter 34 = .ok (.ireturn, 1) := by decide +kernel
theorem dX9_change_0 : decode cX9_change 0 = .ok (.aload_n 0, 1) := by decide +kernel
theorem dX9_change_1 : decode cX9_change 1 = .ok (.iload_n 1, 1) := by decide +kernel
theorem dX9_change_2 : decode cX9_change 2 = .ok (.iload_n 2, 1) := by decide +kernel
theorem dX9_change_3 : decode cX9_change 3 = .ok (.iload_n 3, 1) := by decide +kernel
theorem dX9_change_4 : decode cX9_change 4 = .ok (.invokevirtual 162, 3) := by decide +kernel
theorem dX9_change_7 : decode cX9_change 7 = .ok (.ifCond .eq 13, 3) := by decide +kernel
theorem dX9_change_10 : decode cX9_change 10 = .ok (.aload_n 0, 1) := by decide +kernel
theorem dX9_change_11 : decode cX9_change 11 = .ok (.iload_n 1, 1) := by decide +kernel
theorem dX9_change_12 : decode cX9_change 12 = .ok (.iload 4, 2) := by decide +kernel
theorem dX9_change_14 : decode cX9_change 14 = .ok (.invokevirtual 170, 3) := by decide +kernel
theorem dX9_change_17 : decode cX9_change 17 = .ok (.ifCond .ne 6, 3) := by decide +kernel
theorem dX9_change_20 : decode cX9_change 20 = .ok (.ldc 123, 2) := by decide +kernel
theorem dX9_change_22 : decode cX9_change 22 = .ok (.ireturn, 1) := by decide +kernel
theorem dX9_change_23 : decode cX9_change 23 = .ok (.aload_n 0, 1) := by decide +kernel
theorem dX9_change_24 : decode cX9_change 24 = .ok (.getfield 37, 3) := by decide +kernel
theorem dX9_change_27 : decode cX9_change 27 = .ok (.iload_n 1, 1) := by decide +kernel
theorem dX9_change_28 : decode cX9_change 28 = .ok (.aaload, 1) := by decide +kernel
theorem dX9_change_29 : decode cX9_change 29 = .ok (.getfield 166, 3) := by decide +kernel
theorem dX9_change_32 : decode cX9_change 32 = .ok (.iload_n 2, 1) := by decide +kernel
theorem dX9_change_33 : decode cX9_change 33 = .ok (.aaload, 1) := by decide +kernel
theorem dX9_change_34 : decode cX9_change 34 = .ok (.iload_n 3, 1) := by decide +kernel
theorem dX9_change_35 : decode cX9_change 35 = .ok (.iaload, 1) := by decide +kernel
theorem dX9_change_36 : decode cX9_change 36 = .ok (.istore 5, 2) := by decide +kernel
theorem dX9_change_38 : decode cX9_change 38 = .ok (.aload_n 0, 1) := by decide +kernel
theorem dX9_change_39 : decode cX9_change 39 = .ok (.getfield 37, 3) := by decide +kernel
theorem dX9_change_42 : decode cX9_change 42 = .ok (.iload_n 1, 1) := by decide +kernel
theorem dX9_change_43 : decode cX9_change 43 = .ok (.aaload, 1) := by decide +kernel
theorem dX9_change_44 : decode cX9_change 44 = .ok (.getfield 166, 3) := by decide +kernel
theorem dX9_change_47 : decode cX9_change 47 = .ok (.iload_n 2, 1) := by decide +kernel
theorem dX9_change_48 : decode cX9_change 48 = .ok (.aaload, 1) := by decide +kernel
theorem dX9_change_49 : decode cX9_change 49 = .ok (.iload_n 3, 1) := by decide +kernel
theorem dX9_change_50 : decode cX9_change 50 = .ok (.iload 4, 2) := by decide +kernel
theorem dX9_change_52 : decode cX9_change 52 = .ok (.iastore, 1) := by decide +kernel
theorem dX9_change_53 : decode cX9_change 53 = .ok (.aload_n 0, 1) := by decide +kernel
theorem dX9_change_54 : decode cX9_change 54 = .ok (.iconst 1, 1) := by decide +kernel
theorem dX9_change_55 : decode cX9_change 55 = .ok (.putfield 87, 3) := by decide +kernel
theorem dX9_change_58 : decode cX9_change 58 = .ok (.iload 5, 2) := by decide +kernel
theorem dX9_change_60 : decode cX9_change 60 = .ok (.ireturn, 1) := by decide +kernel
theorem dX9_fast_0 : decode cX9_fast 0 = .ok (.aload_n 0, 1) := by decide +kernel
theorem dX9_fast_1 : decode cX9_fast 1 = .ok (.iconst 0, 1) := by decide +kernel
theorem dX9_fast_2 : decode cX9_fast 2 = .ok (.iload_n 1, 1) := by decide +kernel
theorem dX9_fast_3 : decode cX9_fast 3 = .ok (.invokevirtual 151, 3) := by decide +kernel
theorem dX9_fast_6 : decode cX9_fast 6 = .ok (.ifCond .eq 12, 3) := by decide +kernel
theorem dX9_fast_9 : decode cX9_fast 9 = .ok (.aload_n 0, 1) := by decide +kernel
theorem dX9_fast_10 : decode cX9_fast 10 = .ok (.iconst 1, 1) := by decide +kernel
theorem dX9_fast_11 : decode cX9_fast 11 = .ok (.iload_n 2, 1) := by decide +kernel
theorem dX9_fast_12 : decode cX9_fast 12 = .ok (.invokevirtual 151, 3) := by decide +kernel
theorem dX9_fast_15 : decode cX9_fast 15 = .ok (.ifCond .ne 6, 3) := by decide +kernel
theorem dX9_fast_18 : decode cX9_fast 18 = .ok (.ldc 123, 2) := by decide +kernel
theorem dX9_fast_20 : decode cX9_fast 20 = .ok (.ireturn, 1) := by decide +kernel
theorem dX9_fast_21 : decode cX9_fast 21 = .ok (.aload_n 0, 1) := by decide +kernel
theorem dX9_fast_22 : decode cX9_fast 22 = .ok (.getfield 48, 3) := by decide +kernel
theorem dX9_fast_25 : decode cX9_fast 25 = .ok (.iload_n 1, 1) := by decide +kernel
theorem dX9_fast_26 : decode cX9_fast 26 = .ok (.iload_n 2, 1) := by decide +kernel
theorem dX9_fast_27 : decode cX9_fast 27 = .ok (.invokevirtual 176, 3) := by decide +kernel
theorem dX9_fast_30 : decode cX9_fast 30 = .ok (.ifCond .ne 6, 3) := by decide +kernel
theorem dX9_fast_33 : decode cX9_fast 33 = .ok (.ldc 104, 2) := by decide +kernel
theorem dX9_fast_35 : decode cX9_fast 35 = .ok (.ireturn, 1) := by decide +kernel
theorem dX9_fast_36 : decode cX9_fast 36 = .ok (.aload_n 0, 1) := by decide +kernel
theorem dX9_fast_37 : decode cX9_fast 37 = .ok (.getfield 48, 3) := by decide +kernel
theorem dX9_fast_40 : decode cX9_fast 40 = .ok (.getfield 179, 3) := by decide +kernel
theorem dX9_fast_43 : decode cX9_fast 43 = .ok (.bipush 20, 2) := by decide +kernel
theorem dX9_fast_45 : decode cX9_fast 45 = .ok (.if_icmp .lt 6, 3) := by decide +kernel
theorem dX9_fast_48 : decode cX9_fast 48 = .ok (.ldc 95, 2) := by decide +kernel
theorem dX9_fast_50 : decode cX9_fast 50 = .ok (.ireturn, 1) := by decide +kernel
theorem dX9_fast_51 : decode cX9_fast 51 = .ok (.aload_n 0, 1) := by decide +kernel
theorem dX9_fast_52 : decode cX9_fast 52 = .ok (.getfield 48, 3) := by decide +kernel
theorem dX9_fast_55 : decode cX9_fast 55 = .ok (.iload_n 1, 1) := by decide +kernel
theorem dX9_fast_56 : decode cX9_fast 56 = .ok (.iload_n 2, 1) := by decide +kernel
theorem dX9_fast_57 : decode cX9_fast 57 = .ok (.invokevirtual 180, 3) := by decide +kernel
theorem dX9_fast_60 : decode cX9_fast 60 = .ok (.aload_n 0, 1) := by decide +kernel
theorem dX9_fast_61 : decode cX9_fast 61 = .ok (.iconst 1, 1) := by decide +kernel
theorem dX9_fast_62 : decode cX9_fast 62 = .ok (.putfield 87, 3) := by decide +kernel
theorem dX9_fast_65 : decode cX9_fast 65 = .ok (.aload_n 0, 1) := by decide +kernel
theorem dX9_fast_66 : decode cX9_fast 66 = .ok (.getfield 48, 3) := by decide +kernel
theorem dX9_fast_69 : decode cX9_fast 69 = .ok (.getfield 179, 3) := by decide +kernel
theorem dX9_fast_72 : decode cX9_fast 72 = .ok (.ireturn, 1) := by decide +kernel
theorem dX9_loosen_0 : decode cX9_loosen 0 = .ok (.aload_n 0, 1) := by decide +kernel
theorem dX9_loosen_1 : decode cX9_loosen 1 = .ok (.iconst 0, 1) := by decide +kernel
theorem dX9_loosen_2 : decode cX9_loosen 2 = .ok (.iload_n 1, 1) := by decide +kernel
theorem dX9_loosen_3 : decode cX9_loosen 3 = .ok (.invokevirtual 151, 3) := by decide +kernel
theorem dX9_loosen_6 : decode cX9_loosen 6 = .ok (.ifCond .ne 6, 3) := by decide +kernel
theorem dX9_loosen_9 : decode cX9_loosen 9 = .ok (.ldc 123, 2) := by decide +kernel
theorem dX9_loosen_11 : decode cX9_loosen 11 = .ok (.ireturn, 1) := by decide +kernel
theorem dX9_loosen_12 : decode cX9_loosen 12 = .ok (.aload_n 0, 1) := by decide +kernel
theorem dX9_loosen_13 : decode cX9_loosen 13 = .ok (.getfield 48, 3) := by decide +kernel
theorem dX9_loosen_16 : decode cX9_loosen 16 = .ok (.iload_n 1, 1) := by decide +kernel
theorem dX9_loosen_17 : decode cX9_loosen 17 = .ok (.invokevirtual 183, 3) := by decide +kernel
theorem dX9_loosen_20 : decode cX9_loosen 20 = .ok (.ifCond .ne 5, 3) := by decide +kernel
theorem dX9_loosen_23 : decode cX9_loosen 23 = .ok (.iconst 0, 1) := by decide +kernel
theorem dX9_loosen_24 : decode cX9_loosen 24 = .ok (.ireturn, 1) := by decide +kernel
theorem dX9_loosen_25 : decode cX9_loosen 25 = .ok (.aload_n 0, 1) := by decide +kernel
theorem dX9_loosen_26 : decode cX9_loosen 26 = .ok (.iconst 1, 1) := by decide +kernel
theorem dX9_loosen_27 : decode cX9_loosen 27 = .ok (.putfield 87, 3) := by decide +kernel
theorem dX9_loosen_30 : decode cX9_loosen 30 = .ok (.iconst 1, 1) := by decide +kernel
theorem dX9_loosen_31 : decode cX9_loosen 31 = .ok (.ireturn, 1) := by decide +kernel
theorem dX9_keep_0 : decode cX9_keep 0 = .ok (.aload_n 0, 1) := by decide +kernel
theorem dX9_keep_1 : decode cX9_keep 1 = .ok (.getfield 64, 3) := by decide +kernel
theorem dX9_keep_4 : decode cX9_keep 4 = .ok (.getfield 186, 3) := by decide +kernel
theorem dX9_keep_7 : decode cX9_keep 7 = .ok (.ifCond .eq 7, 3) := by decide +kernel
theorem dX9_keep_10 : decode cX9_keep 10 = .ok (.iconst 1, 1) := by decide +kernel
theorem dX9_keep_11 : decode cX9_keep 11 = .ok (.goto 4, 3) := by decide +kernel
theorem dX9_keep_14 : decode cX9_keep 14 = .ok (.iconst 0, 1) := by decide +kernel
theorem dX9_keep_15 : decode cX9_keep 15 = .ok (.istore_n 2, 1) := by decide +kernel
theorem dX9_keep_16 : decode cX9_keep 16 = .ok (.aload_n 0, 1) := by decide +kernel
theorem dX9_keep_17 : decode cX9_keep 17 = .ok (.getfield 64, 3) := by decide +kernel
theorem dX9_keep_20 : decode cX9_keep 20 = .ok (.iload_n 1, 1) := by decide +kernel
theorem dX9_keep_21 : decode cX9_keep 21 = .ok (.putfield 186, 3) := by decide +kernel
theorem dX9_keep_24 : decode cX9_keep 24 = .ok (.aload_n 0, 1) := by decide +kernel
theorem dX9_keep_25 : decode cX9_keep 25 = .ok (.iconst 1, 1) := by decide +kernel
theorem dX9_keep_26 : decode cX9_keep 26 = .ok (.putfield 87, 3) := by decide +kernel
theorem dX9_keep_29 : decode cX9_keep 29 = .ok (.iload_n 2, 1) := by decide +kernel
theorem dX9_keep_30 : decode cX9_keep 30 = .ok (.ireturn, 1) := by decide +kernel
theorem dX9_lay_0 : decode cX9_lay 0 = .ok (.aload_n 0, 1) := by decide +kernel
theorem dX9_lay_1 : decode cX9_lay 1 = .ok (.invokevirtual 188, 3) := by decide +kernel
theorem dX9_lay_4 : decode cX9_lay 4 = .ok (.aload_n 0, 1) := by decide +kernel
theorem dX9_lay_5 : decode cX9_lay 5 = .ok (.getfield 64, 3) := by decide +kernel
theorem dX9_lay_8 : decode cX9_lay 8 = .ok (.getfield 191, 3) := by decide +kernel
theorem dX9_lay_11 : decode cX9_lay 11 = .ok (.ifCond .eq 13, 3) := by decide +kernel
theorem dX9_lay_14 : decode cX9_lay 14 = .ok (.aload_n 0, 1) := by decide +kernel
theorem dX9_lay_15 : decode cX9_lay 15 = .ok (.getfield 64, 3) := by decide +kernel
theorem dX9_lay_18 : decode cX9_lay 18 = .ok (.getfield 194, 3) := by decide +kernel
theorem dX9_lay_21 : decode cX9_lay 21 = .ok (.goto 4, 3) := by decide +kernel
theorem dX9_lay_24 : decode cX9_lay 24 = .ok (.iconst (-1), 1) := by decide +kernel
theorem dX9_lay_25 : decode cX9_lay 25 = .ok (.ireturn, 1) := by decide +kernel
theorem dX9_joint_0 : decode cX9_joint 0 = .ok (.aload_n 0, 1) := by decide +kernel
theorem dX9_joint_1 : decode cX9_joint 1 = .ok (.invokevirtual 188, 3) := by decide +kernel
theorem dX9_joint_4 : decode cX9_joint 4 = .ok (.aload_n 0, 1) := by decide +kernel
theorem dX9_joint_5 : decode cX9_joint 5 = .ok (.getfield 64, 3) := by decide +kernel
theorem dX9_joint_8 : decode cX9_joint 8 = .ok (.iload_n 1, 1) := by decide +kernel
theorem dX9_joint_9 : decode cX9_joint 9 = .ok (.invokevirtual 197, 3) := by decide +kernel
theorem dX9_joint_12 : decode cX9_joint 12 = .ok (.ifCond .ne 6, 3) := by decide +kernel
theorem dX9_joint_15 : decode cX9_joint 15 = .ok (.ldc 123, 2) := by decide +kernel
theorem dX9_joint_17 : decode cX9_joint 17 = .ok (.ireturn, 1) := by decide +kernel
theorem dX9_joint_18 : decode cX9_joint 18 = .ok (.iload_n 2, 1) := by decide +kernel
theorem dX9_joint_19 : decode cX9_joint 19 = .ok (.tableswitch 69 0 3 #[29, 39, 49, 59], 29) := by decide +kernel
theorem dX9_joint_48 : decode cX9_joint 48 = .ok (.aload_n 0, 1) := by decide +kernel
theorem dX9_joint_49 : decode cX9_joint 49 = .ok (.getfield 64, 3) := by decide +kernel
theorem dX9_joint_52 : decode cX9_joint 52 = .ok (.getfield 200, 3) := by decide +kernel
theorem dX9_joint_55 : decode cX9_joint 55 = .ok (.iload_n 1, 1) := by decide +kernel
theorem dX9_joint_56 : decode cX9_joint 56 = .ok (.iaload, 1) := by decide +kernel
theorem dX9_joint_57 : decode cX9_joint 57 = .ok (.ireturn, 1) := by decide +kernel
theorem dX9_joint_58 : decode cX9_joint 58 = .ok (.aload_n 0, 1) := by decide +kernel
theorem dX9_joint_59 : decode cX9_joint 59 = .ok (.getfield 64, 3) := by decide +kernel
theorem dX9_joint_62 : decode cX9_joint 62 = .ok (.getfield 203, 3) := by decide +kernel
theorem dX9_joint_65 : decode cX9_joint 65 = .ok (.iload_n 1, 1) := by decide +kernel
theorem dX9_joint_66 : decode cX9_joint 66 = .ok (.iaload, 1) := by decide +kernel
theorem dX9_joint_67 : decode cX9_joint 67 = .ok (.ireturn, 1) := by decide +kernel
theorem dX9_joint_68 : decode cX9_joint 68 = .ok (.aload_n 0, 1) := by decide +kernel
theorem dX9_joint_69 : decode cX9_joint 69 = .ok (.getfield 64, 3) := by decide +kernel
theorem dX9_joint_72 : decode cX9_joint 72 = .ok (.getfield 206, 3) := by decide +kernel
theorem dX9_joint_75 : decode cX9_joint 75 = .ok (.iload_n 1, 1) := by decide +kernel
theorem dX9_joint_76 : decode cX9_joint 76 = .ok (.iaload, 1) := by decide +kernel
theorem dX9_joint_77 : decode cX9_joint 77 = .ok (.ireturn, 1) := by decide +kernel
theorem dX9_joint_78 : decode cX9_joint 78 = .ok (.aload_n 0, 1) := by decide +kernel
theorem dX9_joint_79 : decode cX9_joint 79 = .ok (.getfield 64, 3) := by decide +kernel
theorem dX9_joint_82 : decode cX9_joint 82 = .ok (.getfield 209, 3) := by decide +kernel
theorem dX9_joint_85 : decode cX9_joint 85 = .ok (.iload_n 1, 1) := by decide +kernel
theorem dX9_joint_86 : decode cX9_joint 86 = .ok (.iaload, 1) := by decide +kernel
theorem dX9_joint_87 : decode cX9_joint 87 = .ok (.ireturn, 1) := by decide +kernel
theorem dX9_joint_88 : decode cX9_joint 88 = .ok (.ldc 99, 2) := by decide +kernel
theorem dX9_joint_90 : decode cX9_joint 90 = .ok (.ireturn, 1) := by decide +kernel
theorem dX9_price_0 : decode cX9_price 0 = .ok (.iload_n 1, 1) := by decide +kernel
theorem dX9_price_1 : decode cX9_price 1 = .ok (.ifCond .lt 9, 3) := by decide +kernel
theorem dX9_price_4 : decode cX9_price 4 = .ok (.iload_n 1, 1) := by decide +kernel
theorem dX9_price_5 : decode cX9_price 5 = .ok (.bipush 7, 2) := by decide +kernel
theorem dX9_price_7 : decode cX9_price 7 = .ok (.if_icmp .lt 6, 3) := by decide +kernel
theorem dX9_price_10 : decode cX9_price 10 = .ok (.ldc 99, 2) := by decide +kernel
theorem dX9_price_12 : decode cX9_price 12 = .ok (.ireturn, 1) := by decide +kernel
theorem dX9_price_13 : decode cX9_price 13 = .ok (.aload_n 0, 1) := by decide +kernel
theorem dX9_price_14 : decode cX9_price 14 = .ok (.getfield 37, 3) := by decide +kernel
theorem dX9_price_17 : decode cX9_price 17 = .ok (.iconst 0, 1) := by decide +kernel
theorem dX9_price_18 : decode cX9_price 18 = .ok (.aaload, 1) := by decide +kernel
theorem dX9_price_19 : decode cX9_price 19 = .ok (.iload_n 2, 1) := by decide +kernel
theorem dX9_price_20 : decode cX9_price 20 = .ok (.getstatic 212, 3) := by decide +kernel
theorem dX9_price_23 : decode cX9_price 23 = .ok (.iload_n 1, 1) := by decide +kernel
theorem dX9_price_24 : decode cX9_price 24 = .ok (.iaload, 1) := by decide +kernel
theorem dX9_price_25 : decode cX9_price 25 = .ok (.invokevirtual 215, 3) := by decide +kernel
theorem dX9_price_28 : decode cX9_price 28 = .ok (.ifCond .eq 21, 3) := by decide +kernel
theorem dX9_price_31 : decode cX9_price 31 = .ok (.aload_n 0, 1) := by decide +kernel
theorem dX9_price_32 : decode cX9_price 32 = .ok (.getfield 37, 3) := by decide +kernel
theorem dX9_price_35 : decode cX9_price 35 = .ok (.iconst 1, 1) := by decide +kernel
theorem dX9_price_36 : decode cX9_price 36 = .ok (.aaload, 1) := by decide +kernel
theorem dX9_price_37 : decode cX9_price 37 = .ok (.iload_n 3, 1) := by decide +kernel
theorem dX9_price_38 : decode cX9_price 38 = .ok (.getstatic 218, 3) := by decide +kernel
theorem dX9_price_41 : decode cX9_price 41 = .ok (.iload_n 1, 1) := by decide +kernel
theorem dX9_price_42 : decode cX9_price 42 = .ok (.iaload, 1) := by decide +kernel
theorem dX9_price_43 : decode cX9_price 43 = .ok (.invokevirtual 215, 3) := by decide +kernel
theorem dX9_price_46 : decode cX9_price 46 = .ok (.ifCond .ne 6, 3) := by decide +kernel
theorem dX9_price_49 : decode cX9_price 49 = .ok (.ldc 123, 2) := by decide +kernel
theorem dX9_price_51 : decode cX9_price 51 = .ok (.ireturn, 1) := by decide +kernel
theorem dX9_price_52 : decode cX9_price 52 = .ok (.aload_n 0, 1) := by decide +kernel
theorem dX9_price_53 : decode cX9_price 53 = .ok (.invokevirtual 188, 3) := by decide +kernel
theorem dX9_price_56 : decode cX9_price 56 = .ok (.aload_n 0, 1) := by decide +kernel
theorem dX9_price_57 : decode cX9_price 57 = .ok (.getfield 64, 3) := by decide +kernel
theorem dX9_price_60 : decode cX9_price 60 = .ok (.iload_n 1, 1) := by decide +kernel
theorem dX9_price_61 : decode cX9_price 61 = .ok (.iload_n 2, 1) := by decide +kernel
theorem dX9_price_62 : decode cX9_price 62 = .ok (.iload_n 3, 1) := by decide +kernel
theorem dX9_price_63 : decode cX9_price 63 = .ok (.invokevirtual 221, 3) := by decide +kernel
theorem dX9_price_66 : decode cX9_price 66 = .ok (.ireturn, 1) := by decide +kernel
theorem dX9_rest_0 : decode cX9_rest 0 = .ok (.iload_n 1, 1) := by decide +kernel
theorem dX9_rest_1 : decode cX9_rest 1 = .ok (.ifCond .lt 33, 3) := by decide +kernel
theorem dX9_rest_4 : decode cX9_rest 4 = .ok (.iload_n 1, 1) := by decide +kernel
theorem dX9_rest_5 : decode cX9_rest 5 = .ok (.aload_n 0, 1) := by decide +kernel
theorem dX9_rest_6 : decode cX9_rest 6 = .ok (.getfield 37, 3) := by decide +kernel
theorem dX9_rest_9 : decode cX9_rest 9 = .ok (.iconst 0, 1) := by decide +kernel
theorem dX9_rest_10 : decode cX9_rest 10 = .ok (.aaload, 1) := by decide +kernel
theorem dX9_rest_11 : decode cX9_rest 11 = .ok (.getfield 138, 3) := by decide +kernel
theorem dX9_rest_14 : decode cX9_rest 14 = .ok (.if_icmp .gt 20, 3) := by decide +kernel
theorem dX9_rest_17 : decode cX9_rest 17 = .ok (.iload_n 2, 1) := by decide +kernel
theorem dX9_rest_18 : decode cX9_rest 18 = .ok (.ifCond .lt 16, 3) := by decide +kernel
theorem dX9_rest_21 : decode cX9_rest 21 = .ok (.iload_n 2, 1) := by decide +kernel
theorem dX9_rest_22 : decode cX9_rest 22 = .ok (.aload_n 0, 1) := by decide +kernel
theorem dX9_rest_23 : decode cX9_rest 23 = .ok (.getfield 37, 3) := by decide +kernel
theorem dX9_rest_26 : decode cX9_rest 26 = .ok (.iconst 1, 1) := by decide +kernel
theorem dX9_rest_27 : decode cX9_rest 27 = .ok (.aaload, 1) := by decide +kernel
theorem dX9_rest_28 : decode cX9_rest 28 = .ok (.getfield 138, 3) := by decide +kernel
theorem dX9_rest_31 : decode cX9_rest 31 = .ok (.if_icmp .le 6, 3) := by decide +kernel
theorem dX9_rest_34 : decode cX9_rest 34 = .ok (.ldc 123, 2) := by decide +kernel
theorem dX9_rest_36 : decode cX9_rest 36 = .ok (.ireturn, 1) := by decide +kernel
theorem dX9_rest_37 : decode cX9_rest 37 = .ok (.aload_n 0, 1) := by decide +kernel
theorem dX9_rest_38 : decode cX9_rest 38 = .ok (.invokevirtual 188, 3) := by decide +kernel
theorem dX9_rest_41 : decode cX9_rest 41 = .ok (.aload_n 0, 1) := by decide +kernel
theorem dX9_rest_42 : decode cX9_rest 42 = .ok (.getfield 64, 3) := by decide +kernel
theorem dX9_rest_45 : decode cX9_rest 45 = .ok (.iload_n 1, 1) := by decide +kernel
theorem dX9_rest_46 : decode cX9_rest 46 = .ok (.iload_n 2, 1) := by decide +kernel
theorem dX9_rest_47 : decode cX9_rest 47 = .ok (.invokevirtual 225, 3) := by decide +kernel
theorem dX9_rest_50 : decode cX9_rest 50 = .ok (.istore_n 3, 1) := by decide +kernel
theorem dX9_rest_51 : decode cX9_rest 51 = .ok (.iload_n 3, 1) := by decide +kernel
theorem dX9_rest_52 : decode cX9_rest 52 = .ok (.ldc 228, 2) := by decide +kernel
theorem dX9_rest_54 : decode cX9_rest 54 = .ok (.if_icmp .lt 8, 3) := by decide +kernel
theorem dX9_rest_57 : decode cX9_rest 57 = .ok (.ldc 104, 2) := by decide +kernel
theorem dX9_rest_59 : decode cX9_rest 59 = .ok (.goto 4, 3) := by decide +kernel
theorem dX9_rest_62 : decode cX9_rest 62 = .ok (.iload_n 3, 1) := by decide +kernel
theorem dX9_rest_63 : decode cX9_rest 63 = .ok (.ireturn, 1) := by decide +kernel
theorem dX9_second_0 : decode cX9_second 0 = .ok (.aload_n 0, 1) := by decide +kernel
theorem dX9_second_1 : decode cX9_second 1 = .ok (.invokevirtual 188, 3) := by decide +kernel
theorem dX9_second_4 : decode cX9_second 4 = .ok (.aload_n 0, 1) := by decide +kernel
theorem dX9_second_5 : decode cX9_second 5 = .ok (.getfield 64, 3) := by decide +kernel
theorem dX9_second_8 : decode cX9_second 8 = .ok (.invokevirtual 229, 3) := by decide +kernel
theorem dX9_second_11 : decode cX9_second 11 = .ok (.istore_n 1, 1) := by decide +kernel
theorem dX9_second_12 : decode cX9_second 12 = .ok (.iload_n 1, 1) := by decide +kernel
theorem dX9_second_13 : decode cX9_second 13 = .ok (.ldc 228, 2) := by decide +kernel
theorem dX9_second_15 : decode cX9_second 15 = .ok (.if_icmp .lt 8, 3) := by decide +kernel
theorem dX9_second_18 : decode cX9_second 18 = .ok (.ldc 104, 2) := by decide +kernel
theorem dX9_second_20 : decode cX9_second 20 = .ok (.goto 4, 3) := by decide +kernel
theorem dX9_second_23 : decode cX9_second 23 = .ok (.iload_n 1, 1) := by decide +kernel
theorem dX9_second_24 : decode cX9_second 24 = .ok (.ireturn, 1) := by decide +kernel
theorem dX9_sure_0 : decode cX9_sure 0 = .ok (.aload_n 0, 1) := by decide +kernel
theorem dX9_sure_1 : decode cX9_sure 1 = .ok (.invokevirtual 188, 3) := by decide +kernel
theorem dX9_sure_4 : decode cX9_sure 4 = .ok (.aload_n 0, 1) := by decide +kernel
theorem dX9_sure_5 : decode cX9_sure 5 = .ok (.getfield 64, 3) := by decide +kernel
theorem dX9_sure_8 : decode cX9_sure 8 = .ok (.iload_n 1, 1) := by decide +kernel
theorem dX9_sure_9 : decode cX9_sure 9 = .ok (.invokevirtual 197, 3) := by decide +kernel
theorem dX9_sure_12 : decode cX9_sure 12 = .ok (.ifCond .ne 6, 3) := by decide +kernel
theorem dX9_sure_15 : decode cX9_sure 15 = .ok (.ldc 123, 2) := by decide +kernel
theorem dX9_sure_17 : decode cX9_sure 17 = .ok (.ireturn, 1) := by decide +kernel
theorem dX9_sure_18 : decode cX9_sure 18 = .ok (.iload_n 2, 1) := by decide +kernel
theorem dX9_sure_19 : decode cX9_sure 19 = .ok (.ifCond .lt 10, 3) := by decide +kernel
theorem dX9_sure_22 : decode cX9_sure 22 = .ok (.iload_n 2, 1) := by decide +kernel
theorem dX9_sure_23 : decode cX9_sure 23 = .ok (.sipush 10000, 3) := by decide +kernel
theorem dX9_sure_26 : decode cX9_sure 26 = .ok (.if_icmp .le 6, 3) := by decide +kernel
theorem dX9_sure_29 : decode cX9_sure 29 = .ok (.ldc 99, 2) := by decide +kernel
theorem dX9_sure_31 : decode cX9_sure 31 = .ok (.ireturn, 1) := by decide +kernel
theorem dX9_sure_32 : decode cX9_sure 32 = .ok (.aload_n 0, 1) := by decide +kernel
theorem dX9_sure_33 : decode cX9_sure 33 = .ok (.getfield 64, 3) := by decide +kernel
theorem dX9_sure_36 : decode cX9_sure 36 = .ok (.iload_n 1, 1) := by decide +kernel
theorem dX9_sure_37 : decode cX9_sure 37 = .ok (.invokevirtual 232, 3) := by decide +kernel
theorem dX9_sure_40 : decode cX9_sure 40 = .ok (.aload_n 0, 1) := by decide +kernel
theorem dX9_sure_41 : decode cX9_sure 41 = .ok (.getfield 64, 3) := by decide +kernel
theorem dX9_sure_44 : decode cX9_sure 44 = .ok (.iconst 0, 1) := by decide +kernel
theorem dX9_sure_45 : decode cX9_sure 45 = .ok (.iconst 0, 1) := by decide +kernel
theorem dX9_sure_46 : decode cX9_sure 46 = .ok (.invokevirtual 225, 3) := by decide +kernel
theorem dX9_sure_49 : decode cX9_sure 49 = .ok (.iload_n 2, 1) := by decide +kernel
theorem dX9_sure_50 : decode cX9_sure 50 = .ok (.iadd, 1) := by decide +kernel
theorem dX9_sure_51 : decode cX9_sure 51 = .ok (.if_icmp .le 7, 3) := by decide +kernel
theorem dX9_sure_54 : decode cX9_sure 54 = .ok (.iconst 1, 1) := by decide +kernel
theorem dX9_sure_55 : decode cX9_sure 55 = .ok (.goto 4, 3) := by decide +kernel
theorem dX9_sure_58 : decode cX9_sure 58 = .ok (.iconst 0, 1) := by decide +kernel
theorem dX9_sure_59 : decode cX9_sure 59 = .ok (.ireturn, 1) := by decide +kernel
theorem dX9_rounds_0 : decode cX9_rounds 0 = .ok (.iload_n 1, 1) := by decide +kernel
theorem dX9_rounds_1 : decode cX9_rounds 1 = .ok (.ifCond .lt 9, 3) := by decide +kernel
theorem dX9_rounds_4 : decode cX9_rounds 4 = .ok (.iload_n 1, 1) := by decide +kernel
theorem dX9_rounds_5 : decode cX9_rounds 5 = .ok (.bipush 10, 2) := by decide +kernel
theorem dX9_rounds_7 : decode cX9_rounds 7 = .ok (.if_icmp .le 6, 3) := by decide +kernel
theorem dX9_rounds_10 : decode cX9_rounds 10 = .ok (.ldc 99, 2) := by decide +kernel
theorem dX9_rounds_12 : decode cX9_rounds 12 = .ok (.ireturn, 1) := by decide +kernel
theorem dX9_rounds_13 : decode cX9_rounds 13 = .ok (.aload_n 0, 1) := by decide +kernel
theorem dX9_rounds_14 : decode cX9_rounds 14 = .ok (.invokevirtual 188, 3) := by decide +kernel
theorem dX9_rounds_17 : decode cX9_rounds 17 = .ok (.aload_n 0, 1) := by decide +kernel
theorem dX9_rounds_18 : decode cX9_rounds 18 = .ok (.getfield 64, 3) := by decide +kernel
theorem dX9_rounds_21 : decode cX9_rounds 21 = .ok (.getfield 191, 3) := by decide +kernel
theorem dX9_rounds_24 : decode cX9_rounds 24 = .ok (.ifCond .ne 5, 3) := by decide +kernel
theorem dX9_rounds_27 : decode cX9_rounds 27 = .ok (.iconst 0, 1) := by decide +kernel
theorem dX9_rounds_28 : decode cX9_rounds 28 = .ok (.ireturn, 1) := by decide +kernel
theorem dX9_rounds_29 : decode cX9_rounds 29 = .ok (.iconst 0, 1) := by decide +kernel
theorem dX9_rounds_30 : decode cX9_rounds 30 = .ok (.istore_n 2, 1) := by decide +kernel
theorem dX9_rounds_31 : decode cX9_rounds 31 = .ok (.iload_n 2, 1) := by decide +kernel
theorem dX9_rounds_32 : decode cX9_rounds 32 = .ok (.iload_n 1, 1) := by decide +kernel
theorem dX9_rounds_33 : decode cX9_rounds 33 = .ok (.if_icmp .ge 17, 3) := by decide +kernel
theorem dX9_rounds_36 : decode cX9_rounds 36 = .ok (.aload_n 0, 1) := by decide +kernel
theorem dX9_rounds_37 : decode cX9_rounds 37 = .ok (.invokevirtual 188, 3) := by decide +kernel
theorem dX9_rounds_40 : decode cX9_rounds 40 = .ok (.aload_n 0, 1) := by decide +kernel
theorem dX9_rounds_41 : decode cX9_rounds 41 = .ok (.invokevirtual 236, 3) := by decide +kernel
theorem dX9_rounds_44 : decode cX9_rounds 44 = .ok (.iinc 2 1, 3) := by decide +kernel
theorem dX9_rounds_47 : decode cX9_rounds 47 = .ok (.goto (-16), 3) := by decide +kernel
theorem dX9_rounds_50 : decode cX9_rounds 50 = .ok (.iload_n 1, 1) := by decide +kernel
theorem dX9_rounds_51 : decode cX9_rounds 51 = .ok (.ireturn, 1) := by decide +kernel
theorem dX9_share_0 : decode cX9_share 0 = .ok (.aload_n 0, 1) := by decide +kernel
theorem dX9_share_1 : decode cX9_share 1 = .ok (.iconst 0, 1) := by decide +kernel
theorem dX9_share_2 : decode cX9_share 2 = .ok (.iload_n 1, 1) := by decide +kernel
theorem dX9_share_3 : decode cX9_share 3 = .ok (.invokevirtual 170, 3) := by decide +kernel
theorem dX9_share_6 : decode cX9_share 6 = .ok (.ifCond .eq 17, 3) := by decide +kernel
theorem dX9_share_9 : decode cX9_share 9 = .ok (.iload_n 2, 1) := by decide +kernel
theorem dX9_share_10 : decode cX9_share 10 = .ok (.iconst (-1), 1) := by decide +kernel
theorem dX9_share_11 : decode cX9_share 11 = .ok (.if_icmp .eq 15, 3) := by decide +kernel
theorem dX9_share_14 : decode cX9_share 14 = .ok (.aload_n 0, 1) := by decide +kernel
theorem dX9_share_15 : decode cX9_share 15 = .ok (.iconst 1, 1) := by decide +kernel
theorem dX9_share_16 : decode cX9_share 16 = .ok (.iload_n 2, 1) := by decide +kernel
theorem dX9_share_17 : decode cX9_share 17 = .ok (.invokevirtual 170, 3) := by decide +kernel
theorem dX9_share_20 : decode cX9_share 20 = .ok (.ifCond .ne 6, 3) := by decide +kernel
theorem dX9_share_23 : decode cX9_share 23 = .ok (.ldc 123, 2) := by decide +kernel
theorem dX9_share_25 : decode cX9_share 25 = .ok (.ireturn, 1) := by decide +kernel
theorem dX9_share_26 : decode cX9_share 26 = .ok (.aload_n 0, 1) := by decide +kernel
theorem dX9_share_27 : decode cX9_share 27 = .ok (.getfield 55, 3) := by decide +kernel
theorem dX9_share_30 : decode cX9_share 30 = .ok (.getfield 239, 3) := by decide +kernel
theorem dX9_share_33 : decode cX9_share 33 = .ok (.iload_n 1, 1) := by decide +kernel
theorem dX9_share_34 : decode cX9_share 34 = .ok (.aaload, 1) := by decide +kernel
theorem dX9_share_35 : decode cX9_share 35 = .ok (.iload_n 2, 1) := by decide +kernel
theorem dX9_share_36 : decode cX9_share 36 = .ok (.iconst (-1), 1) := by decide +kernel
theorem dX9_share_37 : decode cX9_share 37 = .ok (.if_icmp .ne 8, 3) := by decide +kernel
theorem dX9_share_40 : decode cX9_share 40 = .ok (.bipush 40, 2) := by decide +kernel
theorem dX9_share_42 : decode cX9_share 42 = .ok (.goto 4, 3) := by decide +kernel
theorem dX9_share_45 : decode cX9_share 45 = .ok (.iload_n 2, 1) := by decide +kernel
theorem dX9_share_46 : decode cX9_share 46 = .ok (.iaload, 1) := by decide +kernel
theorem dX9_share_47 : decode cX9_share 47 = .ok (.ireturn, 1) := by decide +kernel
theorem dX9_partner_0 : decode cX9_partner 0 = .ok (.aload_n 0, 1) := by decide +kernel
theorem dX9_partner_1 : decode cX9_partner 1 = .ok (.iconst 0, 1) := by decide +kernel
theorem dX9_partner_2 : decode cX9_partner 2 = .ok (.iload_n 1, 1) := by decide +kernel
theorem dX9_partner_3 : decode cX9_partner 3 = .ok (.invokevirtual 170, 3) := by decide +kernel
theorem dX9_partner_6 : decode cX9_partner 6 = .ok (.ifCond .ne 6, 3) := by decide +kernel
theorem dX9_partner_9 : decode cX9_partner 9 = .ok (.ldc 123, 2) := by decide +kernel
theorem dX9_partner_11 : decode cX9_partner 11 = .ok (.ireturn, 1) := by decide +kernel
theorem dX9_partner_12 : decode cX9_partner 12 = .ok (.iload_n 2, 1) := by decide +kernel
theorem dX9_partner_13 : decode cX9_partner 13 = .ok (.tableswitch 55 0 2 #[27, 36, 45], 27) := by decide +kernel
theorem dX9_partner_40 : decode cX9_partner 40 = .ok (.aload_n 0, 1) := by decide +kernel
theorem dX9_partner_41 : decode cX9_partner 41 = .ok (.getfield 55, 3) := by decide +kernel
theorem dX9_partner_44 : decode cX9_partner 44 = .ok (.iload_n 1, 1) := by decide +kernel
theorem dX9_partner_45 : decode cX9_partner 45 = .ok (.invokevirtual 242, 3) := by decide +kernel
theorem dX9_partner_48 : decode cX9_partner 48 = .ok (.ireturn, 1) := by decide +kernel
theorem dX9_partner_49 : decode cX9_partner 49 = .ok (.aload_n 0, 1) := by decide +kernel
theorem dX9_partner_50 : decode cX9_partner 50 = .ok (.getfield 55, 3) := by decide +kernel
theorem dX9_partner_53 : decode cX9_partner 53 = .ok (.iload_n 1, 1) := by decide +kernel
theorem dX9_partner_54 : decode cX9_partner 54 = .ok (.invokevirtual 245, 3) := by decide +kernel
theorem dX9_partner_57 : decode cX9_partner 57 = .ok (.ireturn, 1) := by decide +kernel
theorem dX9_partner_58 : decode cX9_partner 58 = .ok (.aload_n 0, 1) := by decide +kernel
theorem dX9_partner_59 : decode cX9_partner 59 = .ok (.getfield 55, 3) := by decide +kernel
theorem dX9_partner_62 : decode cX9_partner 62 = .ok (.getfield 248, 3) := by decide +kernel
theorem dX9_partner_65 : decode cX9_partner 65 = .ok (.iload_n 1, 1) := by decide +kernel
theorem dX9_partner_66 : decode cX9_partner 66 = .ok (.iaload, 1) := by decide +kernel
theorem dX9_partner_67 : decode cX9_partner 67 = .ok (.ireturn, 1) := by decide +kernel
theorem dX9_partner_68 : decode cX9_partner 68 = .ok (.ldc 99, 2) := by decide +kernel
theorem dX9_partner_70 : decode cX9_partner 70 = .ok (.ireturn, 1) := by decide +kernel
theorem dX9_term_0 : decode cX9_term 0 = .ok (.aload_n 0, 1) := by decide +kernel
theorem dX9_term_1 : decode cX9_term 1 = .ok (.iconst 0, 1) := by decide +kernel
theorem dX9_term_2 : decode cX9_term 2 = .ok (.iload_n 1, 1) := by decide +kernel
theorem dX9_term_3 : decode cX9_term 3 = .ok (.invokevirtual 170, 3) := by decide +kernel
theorem dX9_term_6 : decode cX9_term 6 = .ok (.ifCond .eq 12, 3) := by decide +kernel
theorem dX9_term_9 : decode cX9_term 9 = .ok (.aload_n 0, 1) := by decide +kernel
theorem dX9_term_10 : decode cX9_term 10 = .ok (.iconst 1, 1) := by decide +kernel
theorem dX9_term_11 : decode cX9_term 11 = .ok (.iload_n 2, 1) := by decide +kernel
theorem dX9_term_12 : decode cX9_term 12 = .ok (.invokevirtual 170, 3) := by decide +kernel
theorem dX9_term_15 : decode cX9_term 15 = .ok (.ifCond .ne 6, 3) := by decide +kernel
theorem dX9_term_18 : decode cX9_term 18 = .ok (.ldc 123, 2) := by decide +kernel
theorem dX9_term_20 : decode cX9_term 20 = .ok (.ireturn, 1) := by decide +kernel
theorem dX9_term_21 : decode cX9_term 21 = .ok (.aload_n 0, 1) := by decide +kernel
theorem dX9_term_22 : decode cX9_term 22 = .ok (.getfield 55, 3) := by decide +kernel
theorem dX9_term_25 : decode cX9_term 25 = .ok (.getfield 248, 3) := by decide +kernel
theorem dX9_term_28 : decode cX9_term 28 = .ok (.iload_n 1, 1) := by decide +kernel
theorem dX9_term_29 : decode cX9_term 29 = .ok (.iaload, 1) := by decide +kernel
theorem dX9_term_30 : decode cX9_term 30 = .ok (.iconst (-1), 1) := by decide +kernel
theorem dX9_term_31 : decode cX9_term 31 = .ok (.if_icmp .eq 15, 3) := by decide +kernel
theorem dX9_term_34 : decode cX9_term 34 = .ok (.aload_n 0, 1) := by decide +kernel
theorem dX9_term_35 : decode cX9_term 35 = .ok (.getfield 55, 3) := by decide +kernel
theorem dX9_term_38 : decode cX9_term 38 = .ok (.getfield 248, 3) := by decide +kernel
theorem dX9_term_41 : decode cX9_term 41 = .ok (.iload_n 1, 1) := by decide +kernel
theorem dX9_term_42 : decode cX9_term 42 = .ok (.iconst (-1), 1) := by decide +kernel
theorem dX9_term_43 : decode cX9_term 43 = .ok (.iastore, 1) := by decide +kernel
theorem dX9_term_44 : decode cX9_term 44 = .ok (.iconst 0, 1) := by decide +kernel
theorem dX9_term_45 : decode cX9_term 45 = .ok (.ireturn, 1) := by decide +kernel
theorem dX9_term_46 : decode cX9_term 46 = .ok (.aload_n 0, 1) := by decide +kernel
theorem dX9_term_47 : decode cX9_term 47 = .ok (.getfield 55, 3) := by decide +kernel
theorem dX9_term_50 : decode cX9_term 50 = .ok (.getfield 248, 3) := by decide +kernel
theorem dX9_term_53 : decode cX9_term 53 = .ok (.iload_n 1, 1) := by decide +kernel
theorem dX9_term_54 : decode cX9_term 54 = .ok (.iload_n 2, 1) := by decide +kernel
theorem dX9_term_55 : decode cX9_term 55 = .ok (.iastore, 1) := by decide +kernel
theorem dX9_term_56 : decode cX9_term 56 = .ok (.aload_n 0, 1) := by decide +kernel
theorem dX9_term_57 : decode cX9_term 57 = .ok (.getfield 55, 3) := by decide +kernel
theorem dX9_term_60 : decode cX9_term 60 = .ok (.iload_n 1, 1) := by decide +kernel
theorem dX9_term_61 : decode cX9_term 61 = .ok (.invokevirtual 251, 3) := by decide +kernel
theorem dX9_term_64 : decode cX9_term 64 = .ok (.aload_n 0, 1) := by decide +kernel
theorem dX9_term_65 : decode cX9_term 65 = .ok (.iconst 1, 1) := by decide +kernel
theorem dX9_term_66 : decode cX9_term 66 = .ok (.putfield 87, 3) := by decide +kernel
theorem dX9_term_69 : decode cX9_term 69 = .ok (.iconst 1, 1) := by decide +kernel
theorem dX9_term_70 : decode cX9_term 70 = .ok (.ireturn, 1) := by decide +kernel
theorem dX9_broken_0 : decode cX9_broken 0 = .ok (.aload_n 0, 1) := by decide +kernel
theorem dX9_broken_1 : decode cX9_broken 1 = .ok (.invokevirtual 188, 3) := by decide +kernel
theorem dX9_broken_4 : decode cX9_broken 4 = .ok (.iconst 0, 1) := by decide +kernel
theorem dX9_broken_5 : decode cX9_broken 5 = .ok (.istore_n 1, 1) := by decide +kernel
theorem dX9_broken_6 : decode cX9_broken 6 = .ok (.iconst 0, 1) := by decide +kernel
theorem dX9_broken_7 : decode cX9_broken 7 = .ok (.istore_n 2, 1) := by decide +kernel
theorem dX9_broken_8 : decode cX9_broken 8 = .ok (.iload_n 2, 1) := by decide +kernel
theorem dX9_broken_9 : decode cX9_broken 9 = .ok (.aload_n 0, 1) := by decide +kernel
theorem dX9_broken_10 : decode cX9_broken 10 = .ok (.getfield 64, 3) := by decide +kernel
theorem dX9_broken_13 : decode cX9_broken 13 = .ok (.getfield 194, 3) := by decide +kernel
theorem dX9_broken_16 : decode cX9_broken 16 = .ok (.if_icmp .ge 20, 3) := by decide +kernel
theorem dX9_broken_19 : decode cX9_broken 19 = .ok (.aload_n 0, 1) := by decide +kernel
theorem dX9_broken_20 : decode cX9_broken 20 = .ok (.iload_n 2, 1) := by decide +kernel
theorem dX9_broken_21 : decode cX9_broken 21 = .ok (.invokevirtual 254, 3) := by decide +kernel
theorem dX9_broken_24 : decode cX9_broken 24 = .ok (.ifCond .eq 6, 3) := by decide +kernel
theorem dX9_broken_27 : decode cX9_broken 27 = .ok (.iinc 1 1, 3) := by decide +kernel
theorem dX9_broken_30 : decode cX9_broken 30 = .ok (.iinc 2 1, 3) := by decide +kernel
theorem dX9_broken_33 : decode cX9_broken 33 = .ok (.goto (-25), 3) := by decide +kernel
theorem dX9_broken_36 : decode cX9_broken 36 = .ok (.iload_n 1, 1) := by decide +kernel
theorem dX9_broken_37 : decode cX9_broken 37 = .ok (.ireturn, 1) := by decide +kernel
theorem dX9_link_0 : decode cX9_link 0 = .ok (.aload_n 0, 1) := by decide +kernel
theorem dX9_link_1 : decode cX9_link 1 = .ok (.invokevirtual 188, 3) := by decide +kernel
theorem dX9_link_4 : decode cX9_link 4 = .ok (.aload_n 0, 1) := by decide +kernel
theorem dX9_link_5 : decode cX9_link 5 = .ok (.getfield 64, 3) := by decide +kernel
theorem dX9_link_8 : decode cX9_link 8 = .ok (.iload_n 1, 1) := by decide +kernel
theorem dX9_link_9 : decode cX9_link 9 = .ok (.invokevirtual 197, 3) := by decide +kernel
theorem dX9_link_12 : decode cX9_link 12 = .ok (.ifCond .ne 6, 3) := by decide +kernel
theorem dX9_link_15 : decode cX9_link 15 = .ok (.ldc 123, 2) := by decide +kernel
theorem dX9_link_17 : decode cX9_link 17 = .ok (.ireturn, 1) := by decide +kernel
theorem dX9_link_18 : decode cX9_link 18 = .ok (.iload_n 2, 1) := by decide +kernel
theorem dX9_link_19 : decode cX9_link 19 = .ok (.ifCond .eq 11, 3) := by decide +kernel
theorem dX9_link_22 : decode cX9_link 22 = .ok (.iload_n 2, 1) := by decide +kernel
theorem dX9_link_23 : decode cX9_link 23 = .ok (.iconst 1, 1) := by decide +kernel
theorem dX9_link_24 : decode cX9_link 24 = .ok (.if_icmp .eq 6, 3) := by decide +kernel
theorem dX9_link_27 : decode cX9_link 27 = .ok (.ldc 99, 2) := by decide +kernel
theorem dX9_link_29 : decode cX9_link 29 = .ok (.ireturn, 1) := by decide +kernel
theorem dX9_link_30 : decode cX9_link 30 = .ok (.aload_n 0, 1) := by decide +kernel
theorem dX9_link_31 : decode cX9_link 31 = .ok (.getfield 73, 3) := by decide +kernel
theorem dX9_link_34 : decode cX9_link 34 = .ok (.iload_n 1, 1) := by decide +kernel
theorem dX9_link_35 : decode cX9_link 35 = .ok (.invokevirtual 257, 3) := by decide +kernel
theorem dX9_link_38 : decode cX9_link 38 = .ok (.iload_n 2, 1) := by decide +kernel
theorem dX9_link_39 : decode cX9_link 39 = .ok (.ifCond .ne 14, 3) := by decide +kernel
theorem dX9_link_42 : decode cX9_link 42 = .ok (.aload_n 0, 1) := by decide +kernel
theorem dX9_link_43 : decode cX9_link 43 = .ok (.getfield 73, 3) := by decide +kernel
theorem dX9_link_46 : decode cX9_link 46 = .ok (.iload_n 3, 1) := by decide +kernel
theorem dX9_link_47 : decode cX9_link 47 = .ok (.invokevirtual 260, 3) := by decide +kernel
theorem dX9_link_50 : decode cX9_link 50 = .ok (.goto 11, 3) := by decide +kernel
theorem dX9_link_53 : decode cX9_link 53 = .ok (.aload_n 0, 1) := by decide +kernel
theorem dX9_link_54 : decode cX9_link 54 = .ok (.getfield 73, 3) := by decide +kernel
theorem dX9_link_57 : decode cX9_link 57 = .ok (.iload_n 3, 1) := by decide +kernel
theorem dX9_link_58 : decode cX9_link 58 = .ok (.invokevirtual 263, 3) := by decide +kernel
theorem dX9_link_61 : decode cX9_link 61 = .ok (.istore 4, 2) := by decide +kernel
theorem dX9_link_63 : decode cX9_link 63 = .ok (.iload 4, 2) := by decide +kernel
theorem dX9_link_65 : decode cX9_link 65 = .ok (.ifCond .ne 6, 3) := by decide +kernel
theorem dX9_link_68 : decode cX9_link 68 = .ok (.ldc 123, 2) := by decide +kernel
theorem dX9_link_70 : decode cX9_link 70 = .ok (.ireturn, 1) := by decide +kernel
theorem dX9_link_71 : decode cX9_link 71 = .ok (.aload_n 0, 1) := by decide +kernel
theorem dX9_link_72 : decode cX9_link 72 = .ok (.iload_n 1, 1) := by decide +kernel
theorem dX9_link_73 : decode cX9_link 73 = .ok (.invokevirtual 266, 3) := by decide +kernel
theorem dX9_link_76 : decode cX9_link 76 = .ok (.ifCond .ne 6, 3) := by decide +kernel
theorem dX9_link_79 : decode cX9_link 79 = .ok (.ldc 104, 2) := by decide +kernel
theorem dX9_link_81 : decode cX9_link 81 = .ok (.ireturn, 1) := by decide +kernel
theorem dX9_link_82 : decode cX9_link 82 = .ok (.aload_n 0, 1) := by decide +kernel
theorem dX9_link_83 : decode cX9_link 83 = .ok (.getfield 73, 3) := by decide +kernel
theorem dX9_link_86 : decode cX9_link 86 = .ok (.invokevirtual 269, 3) := by decide +kernel
theorem dX9_link_89 : decode cX9_link 89 = .ok (.iload_n 2, 1) := by decide +kernel
theorem dX9_link_90 : decode cX9_link 90 = .ok (.ifCond .ne 15, 3) := by decide +kernel
theorem dX9_link_93 : decode cX9_link 93 = .ok (.aload_n 0, 1) := by decide +kernel
theorem dX9_link_94 : decode cX9_link 94 = .ok (.getfield 73, 3) := by decide +kernel
theorem dX9_link_97 : decode cX9_link 97 = .ok (.getfield 272, 3) := by decide +kernel
theorem dX9_link_100 : decode cX9_link 100 = .ok (.iload_n 3, 1) := by decide +kernel
theorem dX9_link_101 : decode cX9_link 101 = .ok (.iaload, 1) := by decide +kernel
theorem dX9_link_102 : decode cX9_link 102 = .ok (.goto 12, 3) := by decide +kernel
theorem dX9_link_105 : decode cX9_link 105 = .ok (.aload_n 0, 1) := by decide +kernel
theorem dX9_link_106 : decode cX9_link 106 = .ok (.getfield 73, 3) := by decide +kernel
theorem dX9_link_109 : decode cX9_link 109 = .ok (.getfield 275, 3) := by decide +kernel
theorem dX9_link_112 : decode cX9_link 112 = .ok (.iload_n 3, 1) := by decide +kernel
theorem dX9_link_113 : decode cX9_link 113 = .ok (.iaload, 1) := by decide +kernel
theorem dX9_link_114 : decode cX9_link 114 = .ok (.ireturn, 1) := by decide +kernel
theorem dX9_linked_0 : decode cX9_linked 0 = .ok (.aload_n 0, 1) := by decide +kernel
theorem dX9_linked_1 : decode cX9_linked 1 = .ok (.invokevirtual 188, 3) := by decide +kernel
theorem dX9_linked_4 : decode cX9_linked 4 = .ok (.aload_n 0, 1) := by decide +kernel
theorem dX9_linked_5 : decode cX9_linked 5 = .ok (.getfield 64, 3) := by decide +kernel
theorem dX9_linked_8 : decode cX9_linked 8 = .ok (.iload_n 1, 1) := by decide +kernel
theorem dX9_linked_9 : decode cX9_linked 9 = .ok (.invokevirtual 197, 3) := by decide +kernel
theorem dX9_linked_12 : decode cX9_linked 12 = .ok (.ifCond .ne 6, 3) := by decide +kernel
theorem dX9_linked_15 : decode cX9_linked 15 = .ok (.ldc 123, 2) := by decide +kernel
theorem dX9_linked_17 : decode cX9_linked 17 = .ok (.ireturn, 1) := by decide +kernel
theorem dX9_linked_18 : decode cX9_linked 18 = .ok (.aload_n 0, 1) := by decide +kernel
theorem dX9_linked_19 : decode cX9_linked 19 = .ok (.getfield 73, 3) := by decide +kernel
theorem dX9_linked_22 : decode cX9_linked 22 = .ok (.iload_n 1, 1) := by decide +kernel
theorem dX9_linked_23 : decode cX9_linked 23 = .ok (.invokevirtual 257, 3) := by decide +kernel
theorem dX9_linked_26 : decode cX9_linked 26 = .ok (.aload_n 0, 1) := by decide +kernel
theorem dX9_linked_27 : decode cX9_linked 27 = .ok (.getfield 73, 3) := by decide +kernel
theorem dX9_linked_30 : decode cX9_linked 30 = .ok (.iload_n 3, 1) := by decide +kernel
theorem dX9_linked_31 : decode cX9_linked 31 = .ok (.invokevirtual 260, 3) := by decide +kernel
theorem dX9_linked_34 : decode cX9_linked 34 = .ok (.ifCond .eq 15, 3) := by decide +kernel
theorem dX9_linked_37 : decode cX9_linked 37 = .ok (.aload_n 0, 1) := by decide +kernel
theorem dX9_linked_38 : decode cX9_linked 38 = .ok (.getfield 73, 3) := by decide +kernel
theorem dX9_linked_41 : decode cX9_linked 41 = .ok (.iload 4, 2) := by decide +kernel
theorem dX9_linked_43 : decode cX9_linked 43 = .ok (.invokevirtual 263, 3) := by decide +kernel
theorem dX9_linked_46 : decode cX9_linked 46 = .ok (.ifCond .ne 6, 3) := by decide +kernel
theorem dX9_linked_49 : decode cX9_linked 49 = .ok (.ldc 123, 2) := by decide +kernel
theorem dX9_linked_51 : decode cX9_linked 51 = .ok (.ireturn, 1) := by decide +kernel
theorem dX9_linked_52 : decode cX9_linked 52 = .ok (.iload_n 2, 1) := by decide +kernel
theorem dX9_linked_53 : decode cX9_linked 53 = .ok (.ifCond .eq 11, 3) := by decide +kernel
theorem dX9_linked_56 : decode cX9_linked 56 = .ok (.iload_n 2, 1) := by decide +kernel
theorem dX9_linked_57 : decode cX9_linked 57 = .ok (.iconst 1, 1) := by decide +kernel
theorem dX9_linked_58 : decode cX9_linked 58 = .ok (.if_icmp .eq 6, 3) := by decide +kernel
theorem dX9_linked_61 : decode cX9_linked 61 = .ok (.ldc 99, 2) := by decide +kernel
theorem dX9_linked_63 : decode cX9_linked 63 = .ok (.ireturn, 1) := by decide +kernel
theorem dX9_linked_64 : decode cX9_linked 64 = .ok (.aload_n 0, 1) := by decide +kernel
theorem dX9_linked_65 : decode cX9_linked 65 = .ok (.iload_n 1, 1) := by decide +kernel
theorem dX9_linked_66 : decode cX9_linked 66 = .ok (.invokevirtual 266, 3) := by decide +kernel
theorem dX9_linked_69 : decode cX9_linked 69 = .ok (.ifCond .ne 6, 3) := by decide +kernel
theorem dX9_linked_72 : decode cX9_linked 72 = .ok (.ldc 104, 2) := by decide +kernel
theorem dX9_linked_74 : decode cX9_linked 74 = .ok (.ireturn, 1) := by decide +kernel
theorem dX9_linked_75 : decode cX9_linked 75 = .ok (.aload_n 0, 1) := by decide +kernel
theorem dX9_linked_76 : decode cX9_linked 76 = .ok (.getfield 73, 3) := by decide +kernel
theorem dX9_linked_79 : decode cX9_linked 79 = .ok (.invokevirtual 269, 3) := by decide +kernel
theorem dX9_linked_82 : decode cX9_linked 82 = .ok (.iload_n 2, 1) := by decide +kernel
theorem dX9_linked_83 : decode cX9_linked 83 = .ok (.ifCond .ne 16, 3) := by decide +kernel
theorem dX9_linked_86 : decode cX9_linked 86 = .ok (.aload_n 0, 1) := by decide +kernel
theorem dX9_linked_87 : decode cX9_linked 87 = .ok (.getfield 73, 3) := by decide +kernel
theorem dX9_linked_90 : decode cX9_linked 90 = .ok (.iload_n 3, 1) := by decide +kernel
theorem dX9_linked_91 : decode cX9_linked 91 = .ok (.iload 4, 2) := by decide +kernel
theorem dX9_linked_93 : decode cX9_linked 93 = .ok (.invokevirtual 278, 3) := by decide +kernel
theorem dX9_linked_96 : decode cX9_linked 96 = .ok (.goto 13, 3) := by decide +kernel
theorem dX9_linked_99 : decode cX9_linked 99 = .ok (.aload_n 0, 1) := by decide +kernel
theorem dX9_linked_100 : decode cX9_linked 100 = .ok (.getfield 73, 3) := by decide +kernel
theorem dX9_linked_103 : decode cX9_linked 103 = .ok (.iload_n 3, 1) := by decide +kernel
theorem dX9_linked_104 : decode cX9_linked 104 = .ok (.iload 4, 2) := by decide +kernel
theorem dX9_linked_106 : decode cX9_linked 106 = .ok (.invokevirtual 281, 3) := by decide +kernel
theorem dX9_linked_109 : decode cX9_linked 109 = .ok (.istore 5, 2) := by decide +kernel
theorem dX9_linked_111 : decode cX9_linked 111 = .ok (.iload 5, 2) := by decide +kernel
theorem dX9_linked_113 : decode cX9_linked 113 = .ok (.ifCond .eq 7, 3) := by decide +kernel
theorem dX9_linked_116 : decode cX9_linked 116 = .ok (.iconst 1, 1) := by decide +kernel
theorem dX9_linked_117 : decode cX9_linked 117 = .ok (.goto 4, 3) := by decide +kernel
theorem dX9_linked_120 : decode cX9_linked 120 = .ok (.iconst 0, 1) := by decide +kernel
theorem dX9_linked_121 : decode cX9_linked 121 = .ok (.ireturn, 1) := by decide +kernel
theorem dX9_phrases_0 : decode cX9_phrases 0 = .ok (.aload_n 0, 1) := by decide +kernel
theorem dX9_phrases_1 : decode cX9_phrases 1 = .ok (.invokevirtual 188, 3) := by decide +kernel
theorem dX9_phrases_4 : decode cX9_phrases 4 = .ok (.aload_n 0, 1) := by decide +kernel
theorem dX9_phrases_5 : decode cX9_phrases 5 = .ok (.getfield 64, 3) := by decide +kernel
theorem dX9_phrases_8 : decode cX9_phrases 8 = .ok (.iload_n 1, 1) := by decide +kernel
theorem dX9_phrases_9 : decode cX9_phrases 9 = .ok (.invokevirtual 197, 3) := by decide +kernel
theorem dX9_phrases_12 : decode cX9_phrases 12 = .ok (.ifCond .ne 6, 3) := by decide +kernel
theorem dX9_phrases_15 : decode cX9_phrases 15 = .ok (.ldc 123, 2) := by decide +kernel
theorem dX9_phrases_17 : decode cX9_phrases 17 = .ok (.ireturn, 1) := by decide +kernel
theorem dX9_phrases_18 : decode cX9_phrases 18 = .ok (.aload_n 0, 1) := by decide +kernel
theorem dX9_phrases_19 : decode cX9_phrases 19 = .ok (.iload_n 1, 1) := by decide +kernel
theorem dX9_phrases_20 : decode cX9_phrases 20 = .ok (.invokevirtual 266, 3) := by decide +kernel
theorem dX9_phrases_23 : decode cX9_phrases 23 = .ok (.ifCond .ne 6, 3) := by decide +kernel
theorem dX9_phrases_26 : decode cX9_phrases 26 = .ok (.ldc 104, 2) := by decide +kernel
theorem dX9_phrases_28 : decode cX9_phrases 28 = .ok (.ireturn, 1) := by decide +kernel
theorem dX9_phrases_29 : decode cX9_phrases 29 = .ok (.aload_n 0, 1) := by decide +kernel
theorem dX9_phrases_30 : decode cX9_phrases 30 = .ok (.getfield 73, 3) := by decide +kernel
theorem dX9_phrases_33 : decode cX9_phrases 33 = .ok (.iload_n 1, 1) := by decide +kernel
theorem dX9_phrases_34 : decode cX9_phrases 34 = .ok (.invokevirtual 257, 3) := by decide +kernel
theorem dX9_phrases_37 : decode cX9_phrases 37 = .ok (.aload_n 0, 1) := by decide +kernel
theorem dX9_phrases_38 : decode cX9_phrases 38 = .ok (.getfield 73, 3) := by decide +kernel
theorem dX9_phrases_41 : decode cX9_phrases 41 = .ok (.invokevirtual 269, 3) := by decide +kernel
theorem dX9_phrases_44 : decode cX9_phrases 44 = .ok (.aload_n 0, 1) := by decide +kernel
theorem dX9_phrases_45 : decode cX9_phrases 45 = .ok (.getfield 73, 3) := by decide +kernel
theorem dX9_phrases_48 : decode cX9_phrases 48 = .ok (.invokevirtual 284, 3) := by decide +kernel
theorem dX9_phrases_51 : decode cX9_phrases 51 = .ok (.ireturn, 1) := by decide +kernel
theorem dX9_putSentence_0 : decode cX9_putSentence 0 = .ok (.aload_n 0, 1) := by decide +kernel
theorem dX9_putSentence_1 : decode cX9_putSentence 1 = .ok (.iload_n 1, 1) := by decide +kernel
theorem dX9_putSentence_2 : decode cX9_putSentence 2 = .ok (.invokevirtual 287, 3) := by decide +kernel
theorem dX9_putSentence_5 : decode cX9_putSentence 5 = .ok (.ifCond .eq 12, 3) := by decide +kernel
theorem dX9_putSentence_8 : decode cX9_putSentence 8 = .ok (.aload_n 0, 1) := by decide +kernel
theorem dX9_putSentence_9 : decode cX9_putSentence 9 = .ok (.iload_n 2, 1) := by decide +kernel
theorem dX9_putSentence_10 : decode cX9_putSentence 10 = .ok (.iload_n 3, 1) := by decide +kernel
theorem dX9_putSentence_11 : decode cX9_putSentence 11 = .ok (.invokevirtual 151, 3) := by decide +kernel
theorem dX9_putSentence_14 : decode cX9_putSentence 14 = .ok (.ifCond .ne 6, 3) := by decide +kernel
theorem dX9_putSentence_17 : decode cX9_putSentence 17 = .ok (.ldc 123, 2) := by decide +kernel
theorem dX9_putSentence_19 : decode cX9_putSentence 19 = .ok (.ireturn, 1) := by decide +kernel
theorem dX9_putSentence_20 : decode cX9_putSentence 20 = .ok (.aload_n 0, 1) := by decide +kernel
theorem dX9_putSentence_21 : decode cX9_putSentence 21 = .ok (.getfield 79, 3) := by decide +kernel
theorem dX9_putSentence_24 : decode cX9_putSentence 24 = .ok (.iload_n 1, 1) := by decide +kernel
theorem dX9_putSentence_25 : decode cX9_putSentence 25 = .ok (.aaload, 1) := by decide +kernel
theorem dX9_putSentence_26 : decode cX9_putSentence 26 = .ok (.aload_n 0, 1) := by decide +kernel
theorem dX9_putSentence_27 : decode cX9_putSentence 27 = .ok (.getfield 37, 3) := by decide +kernel
theorem dX9_putSentence_30 : decode cX9_putSentence 30 = .ok (.iload_n 2, 1) := by decide +kernel
theorem dX9_putSentence_31 : decode cX9_putSentence 31 = .ok (.aaload, 1) := by decide +kernel
theorem dX9_putSentence_32 : decode cX9_putSentence 32 = .ok (.getfield 166, 3) := by decide +kernel
theorem dX9_putSentence_35 : decode cX9_putSentence 35 = .ok (.iload_n 3, 1) := by decide +kernel
theorem dX9_putSentence_36 : decode cX9_putSentence 36 = .ok (.aaload, 1) := by decide +kernel
theorem dX9_putSentence_37 : decode cX9_putSentence 37 = .ok (.aload_n 0, 1) := by decide +kernel
theorem dX9_putSentence_38 : decode cX9_putSentence 38 = .ok (.getfield 37, 3) := by decide +kernel
theorem dX9_putSentence_41 : decode cX9_putSentence 41 = .ok (.iload_n 2, 1) := by decide +kernel
theorem dX9_putSentence_42 : decode cX9_putSentence 42 = .ok (.aaload, 1) := by decide +kernel
theorem dX9_putSentence_43 : decode cX9_putSentence 43 = .ok (.getfield 155, 3) := by decide +kernel
theorem dX9_putSentence_46 : decode cX9_putSentence 46 = .ok (.iload_n 3, 1) := by decide +kernel
theorem dX9_putSentence_47 : decode cX9_putSentence 47 = .ok (.iaload, 1) := by decide +kernel
theorem dX9_putSentence_48 : decode cX9_putSentence 48 = .ok (.invokevirtual 290, 3) := by decide +kernel
theorem dX9_putSentence_51 : decode cX9_putSentence 51 = .ok (.iconst 1, 1) := by decide +kernel
theorem dX9_putSentence_52 : decode cX9_putSentence 52 = .ok (.ireturn, 1) := by decide +kernel
theorem dX9_putJoint_0 : decode cX9_putJoint 0 = .ok (.aload_n 0, 1) := by decide +kernel
theorem dX9_putJoint_1 : decode cX9_putJoint 1 = .ok (.invokevirtual 188, 3) := by decide +kernel
theorem dX9_putJoint_4 : decode cX9_putJoint 4 = .ok (.aload_n 0, 1) := by decide +kernel
theorem dX9_putJoint_5 : decode cX9_putJoint 5 = .ok (.iload_n 1, 1) := by decide +kernel
theorem dX9_putJoint_6 : decode cX9_putJoint 6 = .ok (.invokevirtual 287, 3) := by decide +kernel
theorem dX9_putJoint_9 : decode cX9_putJoint 9 = .ok (.ifCond .eq 14, 3) := by decide +kernel
theorem dX9_putJoint_12 : decode cX9_putJoint 12 = .ok (.aload_n 0, 1) := by decide +kernel
theorem dX9_putJoint_13 : decode cX9_putJoint 13 = .ok (.getfield 64, 3) := by decide +kernel
theorem dX9_putJoint_16 : decode cX9_putJoint 16 = .ok (.iload_n 2, 1) := by decide +kernel
theorem dX9_putJoint_17 : decode cX9_putJoint 17 = .ok (.invokevirtual 197, 3) := by decide +kernel
theorem dX9_putJoint_20 : decode cX9_putJoint 20 = .ok (.ifCond .ne 6, 3) := by decide +kernel
theorem dX9_putJoint_23 : decode cX9_putJoint 23 = .ok (.ldc 123, 2) := by decide +kernel
theorem dX9_putJoint_25 : decode cX9_putJoint 25 = .ok (.ireturn, 1) := by decide +kernel
theorem dX9_putJoint_26 : decode cX9_putJoint 26 = .ok (.aload_n 0, 1) := by decide +kernel
theorem dX9_putJoint_27 : decode cX9_putJoint 27 = .ok (.getfield 37, 3) := by decide +kernel
theorem dX9_putJoint_30 : decode cX9_putJoint 30 = .ok (.iconst 0, 1) := by decide +kernel
theorem dX9_putJoint_31 : decode cX9_putJoint 31 = .ok (.aaload, 1) := by decide +kernel
theorem dX9_putJoint_32 : decode cX9_putJoint 32 = .ok (.aload_n 0, 1) := by decide +kernel
theorem dX9_putJoint_33 : decode cX9_putJoint 33 = .ok (.getfield 64, 3) := by decide +kernel
theorem dX9_putJoint_36 : decode cX9_putJoint 36 = .ok (.getfield 203, 3) := by decide +kernel
theorem dX9_putJoint_39 : decode cX9_putJoint 39 = .ok (.iload_n 2, 1) := by decide +kernel
theorem dX9_putJoint_40 : decode cX9_putJoint 40 = .ok (.iaload, 1) := by decide +kernel
theorem dX9_putJoint_41 : decode cX9_putJoint 41 = .ok (.getstatic 212, 3) := by decide +kernel
theorem dX9_putJoint_44 : decode cX9_putJoint 44 = .ok (.aload_n 0, 1) := by decide +kernel
theorem dX9_putJoint_45 : decode cX9_putJoint 45 = .ok (.getfield 64, 3) := by decide +kernel
theorem dX9_putJoint_48 : decode cX9_putJoint 48 = .ok (.getfield 200, 3) := by decide +kernel
theorem dX9_putJoint_51 : decode cX9_putJoint 51 = .ok (.iload_n 2, 1) := by decide +kernel
theorem dX9_putJoint_52 : decode cX9_putJoint 52 = .ok (.iaload, 1) := by decide +kernel
theorem dX9_putJoint_53 : decode cX9_putJoint 53 = .ok (.iaload, 1) := by decide +kernel
theorem dX9_putJoint_54 : decode cX9_putJoint 54 = .ok (.invokevirtual 144, 3) := by decide +kernel
theorem dX9_putJoint_57 : decode cX9_putJoint 57 = .ok (.istore_n 3, 1) := by decide +kernel
theorem dX9_putJoint_58 : decode cX9_putJoint 58 = .ok (.aload_n 0, 1) := by decide +kernel
theorem dX9_putJoint_59 : decode cX9_putJoint 59 = .ok (.getfield 79, 3) := by decide +kernel
theorem dX9_putJoint_62 : decode cX9_putJoint 62 = .ok (.iload_n 1, 1) := by decide +kernel
theorem dX9_putJoint_63 : decode cX9_putJoint 63 = .ok (.aaload, 1) := by decide +kernel
theorem dX9_putJoint_64 : decode cX9_putJoint 64 = .ok (.aload_n 0, 1) := by decide +kernel
theorem dX9_putJoint_65 : decode cX9_putJoint 65 = .ok (.getfield 64, 3) := by decide +kernel
theorem dX9_putJoint_68 : decode cX9_putJoint 68 = .ok (.getfield 209, 3) := by decide +kernel
theorem dX9_putJoint_71 : decode cX9_putJoint 71 = .ok (.iload_n 2, 1) := by decide +kernel
theorem dX9_putJoint_72 : decode cX9_putJoint 72 = .ok (.iaload, 1) := by decide +kernel
theorem dX9_putJoint_73 : decode cX9_putJoint 73 = .ok (.iload_n 3, 1) := by decide +kernel
theorem dX9_putJoint_74 : decode cX9_putJoint 74 = .ok (.invokevirtual 294, 3) := by decide +kernel
theorem dX9_putJoint_77 : decode cX9_putJoint 77 = .ok (.iconst 1, 1) := by decide +kernel
theorem dX9_putJoint_78 : decode cX9_putJoint 78 = .ok (.ireturn, 1) := by decide +kernel
theorem dX9_putRow_0 : decode cX9_putRow 0 = .ok (.aload_n 0, 1) := by decide +kernel
theorem dX9_putRow_1 : decode cX9_putRow 1 = .ok (.iload_n 1, 1) := by decide +kernel
theorem dX9_putRow_2 : decode cX9_putRow 2 = .ok (.invokevirtual 287, 3) := by decide +kernel
theorem dX9_putRow_5 : decode cX9_putRow 5 = .ok (.ifCond .ne 6, 3) := by decide +kernel
theorem dX9_putRow_8 : decode cX9_putRow 8 = .ok (.ldc 123, 2) := by decide +kernel
theorem dX9_putRow_10 : decode cX9_putRow 10 = .ok (.ireturn, 1) := by decide +kernel
theorem dX9_putRow_11 : decode cX9_putRow 11 = .ok (.iload_n 2, 1) := by decide +kernel
theorem dX9_putRow_12 : decode cX9_putRow 12 = .ok (.bipush 30, 2) := by decide +kernel
theorem dX9_putRow_14 : decode cX9_putRow 14 = .ok (.if_icmp .le 6, 3) := by decide +kernel
theorem dX9_putRow_17 : decode cX9_putRow 17 = .ok (.ldc 99, 2) := by decide +kernel
theorem dX9_putRow_19 : decode cX9_putRow 19 = .ok (.ireturn, 1) := by decide +kernel
theorem dX9_putRow_20 : decode cX9_putRow 20 = .ok (.iload_n 2, 1) := by decide +kernel
theorem dX9_putRow_21 : decode cX9_putRow 21 = .ok (.ifCond .ge 9, 3) := by decide +kernel
theorem dX9_putRow_24 : decode cX9_putRow 24 = .ok (.aload_n 0, 1) := by decide +kernel
theorem dX9_putRow_25 : decode cX9_putRow 25 = .ok (.iconst 4, 1) := by decide +kernel
theorem dX9_putRow_26 : decode cX9_putRow 26 = .ok (.invokevirtual 297, 3) := by decide +kernel
theorem dX9_putRow_29 : decode cX9_putRow 29 = .ok (.ireturn, 1) := by decide +kernel
theorem dX9_putRow_30 : decode cX9_putRow 30 = .ok (.aload_n 0, 1) := by decide +kernel
theorem dX9_putRow_31 : decode cX9_putRow 31 = .ok (.getfield 79, 3) := by decide +kernel
theorem dX9_putRow_34 : decode cX9_putRow 34 = .ok (.iload_n 1, 1) := by decide +kernel
theorem dX9_putRow_35 : decode cX9_putRow 35 = .ok (.aaload, 1) := by decide +kernel
theorem dX9_putRow_36 : decode cX9_putRow 36 = .ok (.iload_n 2, 1) := by decide +kernel
theorem dX9_putRow_37 : decode cX9_putRow 37 = .ok (.invokevirtual 300, 3) := by decide +kernel
theorem dX9_putRow_40 : decode cX9_putRow 40 = .ok (.aload_n 0, 1) := by decide +kernel
theorem dX9_putRow_41 : decode cX9_putRow 41 = .ok (.iload_n 2, 1) := by decide +kernel
theorem dX9_putRow_42 : decode cX9_putRow 42 = .ok (.invokevirtual 303, 3) := by decide +kernel
theorem dX9_putRow_45 : decode cX9_putRow 45 = .ok (.ireturn, 1) := by decide +kernel
theorem dX9_clear_0 : decode cX9_clear 0 = .ok (.aload_n 0, 1) := by decide +kernel
theorem dX9_clear_1 : decode cX9_clear 1 = .ok (.iload_n 1, 1) := by decide +kernel
theorem dX9_clear_2 : decode cX9_clear 2 = .ok (.invokevirtual 287, 3) := by decide +kernel
theorem dX9_clear_5 : decode cX9_clear 5 = .ok (.ifCond .ne 6, 3) := by decide +kernel
theorem dX9_clear_8 : decode cX9_clear 8 = .ok (.ldc 123, 2) := by decide +kernel
theorem dX9_clear_10 : decode cX9_clear 10 = .ok (.ireturn, 1) := by decide +kernel
theorem dX9_clear_11 : decode cX9_clear 11 = .ok (.aload_n 0, 1) := by decide +kernel
theorem dX9_clear_12 : decode cX9_clear 12 = .ok (.getfield 79, 3) := by decide +kernel
theorem dX9_clear_15 : decode cX9_clear 15 = .ok (.iload_n 1, 1) := by decide +kernel
theorem dX9_clear_16 : decode cX9_clear 16 = .ok (.aaload, 1) := by decide +kernel
theorem dX9_clear_17 : decode cX9_clear 17 = .ok (.getfield 306, 3) := by decide +kernel
theorem dX9_clear_20 : decode cX9_clear 20 = .ok (.ifCond .ne 7, 3) := by decide +kernel
theorem dX9_clear_23 : decode cX9_clear 23 = .ok (.iconst 0, 1) := by decide +kernel
theorem dX9_clear_24 : decode cX9_clear 24 = .ok (.goto 4, 3) := by decide +kernel
theorem dX9_clear_27 : decode cX9_clear 27 = .ok (.iconst 1, 1) := by decide +kernel
theorem dX9_clear_28 : decode cX9_clear 28 = .ok (.istore_n 2, 1) := by decide +kernel
theorem dX9_clear_29 : decode cX9_clear 29 = .ok (.aload_n 0, 1) := by decide +kernel
theorem dX9_clear_30 : decode cX9_clear 30 = .ok (.getfield 79, 3) := by decide +kernel
theorem dX9_clear_33 : decode cX9_clear 33 = .ok (.iload_n 1, 1) := by decide +kernel
theorem dX9_clear_34 : decode cX9_clear 34 = .ok (.aaload, 1) := by decide +kernel
theorem dX9_clear_35 : decode cX9_clear 35 = .ok (.iconst 0, 1) := by decide +kernel
theorem dX9_clear_36 : decode cX9_clear 36 = .ok (.putfield 306, 3) := by decide +kernel
theorem dX9_clear_39 : decode cX9_clear 39 = .ok (.iload_n 2, 1) := by decide +kernel
theorem dX9_clear_40 : decode cX9_clear 40 = .ok (.ireturn, 1) := by decide +kernel
theorem dX9_sort_0 : decode cX9_sort 0 = .ok (.aload_n 0, 1) := by decide +kernel
theorem dX9_sort_1 : decode cX9_sort 1 = .ok (.iload_n 1, 1) := by decide +kernel
theorem dX9_sort_2 : decode cX9_sort 2 = .ok (.invokevirtual 287, 3) := by decide +kernel
theorem dX9_sort_5 : decode cX9_sort 5 = .ok (.ifCond .eq 15, 3) := by decide +kernel
theorem dX9_sort_8 : decode cX9_sort 8 = .ok (.aload_n 0, 1) := by decide +kernel
theorem dX9_sort_9 : decode cX9_sort 9 = .ok (.getfield 79, 3) := by decide +kernel
theorem dX9_sort_12 : decode cX9_sort 12 = .ok (.iload_n 1, 1) := by decide +kernel
theorem dX9_sort_13 : decode cX9_sort 13 = .ok (.aaload, 1) := by decide +kernel
theorem dX9_sort_14 : decode cX9_sort 14 = .ok (.getfield 306, 3) := by decide +kernel
theorem dX9_sort_17 : decode cX9_sort 17 = .ok (.goto 5, 3) := by decide +kernel
theorem dX9_sort_20 : decode cX9_sort 20 = .ok (.ldc 123, 2) := by decide +kernel
theorem dX9_sort_22 : decode cX9_sort 22 = .ok (.ireturn, 1) := by decide +kernel
theorem dX9_write_0 : decode cX9_write 0 = .ok (.aload_n 0, 1) := by decide +kernel
theorem dX9_write_1 : decode cX9_write 1 = .ok (.iload_n 1, 1) := by decide +kernel
theorem dX9_write_2 : decode cX9_write 2 = .ok (.invokevirtual 287, 3) := by decide +kernel
theorem dX9_write_5 : decode cX9_write 5 = .ok (.ifCond .ne 6, 3) := by decide +kernel
theorem dX9_write_8 : decode cX9_write 8 = .ok (.ldc 123, 2) := by decide +kernel
theorem dX9_write_10 : decode cX9_write 10 = .ok (.ireturn, 1) := by decide +kernel
theorem dX9_write_11 : decode cX9_write 11 = .ok (.aload_n 0, 1) := by decide +kernel
theorem dX9_write_12 : decode cX9_write 12 = .ok (.iload_n 1, 1) := by decide +kernel
theorem dX9_write_13 : decode cX9_write 13 = .ok (.iload_n 2, 1) := by decide +kernel
theorem dX9_write_14 : decode cX9_write 14 = .ok (.invokevirtual 309, 3) := by decide +kernel
theorem dX9_write_17 : decode cX9_write 17 = .ok (.istore 4, 2) := by decide +kernel
theorem dX9_write_19 : decode cX9_write 19 = .ok (.iload 4, 2) := by decide +kernel
theorem dX9_write_21 : decode cX9_write 21 = .ok (.ifCond .eq 10, 3) := by decide +kernel
theorem dX9_write_24 : decode cX9_write 24 = .ok (.aload_n 0, 1) := by decide +kernel
theorem dX9_write_25 : decode cX9_write 25 = .ok (.iload 4, 2) := by decide +kernel
theorem dX9_write_27 : decode cX9_write 27 = .ok (.invokevirtual 297, 3) := by decide +kernel
theorem dX9_write_30 : decode cX9_write 30 = .ok (.ireturn, 1) := by decide +kernel
theorem dX9_write_31 : decode cX9_write 31 = .ok (.aload_n 0, 1) := by decide +kernel
theorem dX9_write_32 : decode cX9_write 32 = .ok (.getfield 79, 3) := by decide +kernel
theorem dX9_write_35 : decode cX9_write 35 = .ok (.iload_n 1, 1) := by decide +kernel
theorem dX9_write_36 : decode cX9_write 36 = .ok (.aaload, 1) := by decide +kernel
theorem dX9_write_37 : decode cX9_write 37 = .ok (.getfield 312, 3) := by decide +kernel
theorem dX9_write_40 : decode cX9_write 40 = .ok (.iload_n 2, 1) := by decide +kernel
theorem dX9_write_41 : decode cX9_write 41 = .ok (.iaload, 1) := by decide +kernel
theorem dX9_write_42 : decode cX9_write 42 = .ok (.istore 5, 2) := by decide +kernel
theorem dX9_write_44 : decode cX9_write 44 = .ok (.aload_n 0, 1) := by decide +kernel
theorem dX9_write_45 : decode cX9_write 45 = .ok (.getfield 79, 3) := by decide +kernel
theorem dX9_write_48 : decode cX9_write 48 = .ok (.iload_n 1, 1) := by decide +kernel
theorem dX9_write_49 : decode cX9_write 49 = .ok (.aaload, 1) := by decide +kernel
theorem dX9_write_50 : decode cX9_write 50 = .ok (.getfield 312, 3) := by decide +kernel
theorem dX9_write_53 : decode cX9_write 53 = .ok (.iload_n 2, 1) := by decide +kernel
theorem dX9_write_54 : decode cX9_write 54 = .ok (.iload_n 3, 1) := by decide +kernel
theorem dX9_write_55 : decode cX9_write 55 = .ok (.iastore, 1) := by decide +kernel
theorem dX9_write_56 : decode cX9_write 56 = .ok (.aload_n 0, 1) := by decide +kernel
theorem dX9_write_57 : decode cX9_write 57 = .ok (.iload 5, 2) := by decide +kernel
theorem dX9_write_59 : decode cX9_write 59 = .ok (.invokevirtual 303, 3) := by decide +kernel
theorem dX9_write_62 : decode cX9_write 62 = .ok (.ireturn, 1) := by decide +kernel
theorem dX9_read_0 : decode cX9_read 0 = .ok (.aload_n 0, 1) := by decide +kernel
theorem dX9_read_1 : decode cX9_read 1 = .ok (.iload_n 1, 1) := by decide +kernel
theorem dX9_read_2 : decode cX9_read 2 = .ok (.invokevirtual 287, 3) := by decide +kernel
theorem dX9_read_5 : decode cX9_read 5 = .ok (.ifCond .ne 6, 3) := by decide +kernel
theorem dX9_read_8 : decode cX9_read 8 = .ok (.ldc 123, 2) := by decide +kernel
theorem dX9_read_10 : decode cX9_read 10 = .ok (.ireturn, 1) := by decide +kernel
theorem dX9_read_11 : decode cX9_read 11 = .ok (.aload_n 0, 1) := by decide +kernel
theorem dX9_read_12 : decode cX9_read 12 = .ok (.iload_n 1, 1) := by decide +kernel
theorem dX9_read_13 : decode cX9_read 13 = .ok (.iload_n 2, 1) := by decide +kernel
theorem dX9_read_14 : decode cX9_read 14 = .ok (.invokevirtual 309, 3) := by decide +kernel
theorem dX9_read_17 : decode cX9_read 17 = .ok (.istore_n 3, 1) := by decide +kernel
theorem dX9_read_18 : decode cX9_read 18 = .ok (.iload_n 3, 1) := by decide +kernel
theorem dX9_read_19 : decode cX9_read 19 = .ok (.ifCond .ne 21, 3) := by decide +kernel
theorem dX9_read_22 : decode cX9_read 22 = .ok (.aload_n 0, 1) := by decide +kernel
theorem dX9_read_23 : decode cX9_read 23 = .ok (.aload_n 0, 1) := by decide +kernel
theorem dX9_read_24 : decode cX9_read 24 = .ok (.getfield 79, 3) := by decide +kernel
theorem dX9_read_27 : decode cX9_read 27 = .ok (.iload_n 1, 1) := by decide +kernel
theorem dX9_read_28 : decode cX9_read 28 = .ok (.aaload, 1) := by decide +kernel
theorem dX9_read_29 : decode cX9_read 29 = .ok (.getfield 312, 3) := by decide +kernel
theorem dX9_read_32 : decode cX9_read 32 = .ok (.iload_n 2, 1) := by decide +kernel
theorem dX9_read_33 : decode cX9_read 33 = .ok (.iaload, 1) := by decide +kernel
theorem dX9_read_34 : decode cX9_read 34 = .ok (.invokevirtual 303, 3) := by decide +kernel
theorem dX9_read_37 : decode cX9_read 37 = .ok (.goto 8, 3) := by decide +kernel
theorem dX9_read_40 : decode cX9_read 40 = .ok (.aload_n 0, 1) := by decide +kernel
theorem dX9_read_41 : decode cX9_read 41 = .ok (.iload_n 3, 1) := by decide +kernel
theorem dX9_read_42 : decode cX9_read 42 = .ok (.invokevirtual 297, 3) := by decide +kernel
theorem dX9_read_45 : decode cX9_read 45 = .ok (.ireturn, 1) := by decide +kernel
theorem dX9_spell_0 : decode cX9_spell 0 = .ok (.aload_n 0, 1) := by decide +kernel
theorem dX9_spell_1 : decode cX9_spell 1 = .ok (.iload_n 1, 1) := by decide +kernel
theorem dX9_spell_2 : decode cX9_spell 2 = .ok (.invokevirtual 287, 3) := by decide +kernel
theorem dX9_spell_5 : decode cX9_spell 5 = .ok (.ifCond .eq 11, 3) := by decide +kernel
theorem dX9_spell_8 : decode cX9_spell 8 = .ok (.aload_n 0, 1) := by decide +kernel
