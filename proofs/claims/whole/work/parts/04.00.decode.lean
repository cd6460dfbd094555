theorem dX0_init_0 : decode cX0_init 0 = .ok (.aload_n 0, 1) := by decide +kernel
theorem dX0_init_1 : decode cX0_init 1 = .ok (.invokespecial 3, 3) := by decide +kernel
theorem dX0_init_4 : decode cX0_init 4 = .ok (.aload_n 0, 1) := by decide +kernel
theorem dX0_init_5 : decode cX0_init 5 = .ok (.new 9, 3) := by decide +kernel
theorem dX0_init_8 : decode cX0_init 8 = .ok (.dup, 1) := by decide +kernel
theorem dX0_init_9 : decode cX0_init 9 = .ok (.bipush 40, 2) := by decide +kernel
theorem dX0_init_11 : decode cX0_init 11 = .ok (.invokespecial 11, 3) := by decide +kernel
theorem dX0_init_14 : decode cX0_init 14 = .ok (.putfield 14, 3) := by decide +kernel
theorem dX0_init_17 : decode cX0_init 17 = .ok (.aload_n 0, 1) := by decide +kernel
theorem dX0_init_18 : decode cX0_init 18 = .ok (.bipush 20, 2) := by decide +kernel
theorem dX0_init_20 : decode cX0_init 20 = .ok (.bipush 10, 2) := by decide +kernel
theorem dX0_init_22 : decode cX0_init 22 = .ok (.multianewarray 20 2, 4) := by decide +kernel
theorem dX0_init_26 : decode cX0_init 26 = .ok (.putfield 22, 3) := by decide +kernel
theorem dX0_init_29 : decode cX0_init 29 = .ok (.aload_n 0, 1) := by decide +kernel
theorem dX0_init_30 : decode cX0_init 30 = .ok (.bipush 20, 2) := by decide +kernel
theorem dX0_init_32 : decode cX0_init 32 = .ok (.newarray .int, 2) := by decide +kernel
theorem dX0_init_34 : decode cX0_init 34 = .ok (.putfield 25, 3) := by decide +kernel
theorem dX0_init_37 : decode cX0_init 37 = .ok (.aload_n 0, 1) := by decide +kernel
theorem dX0_init_38 : decode cX0_init 38 = .ok (.bipush 20, 2) := by decide +kernel
theorem dX0_init_40 : decode cX0_init 40 = .ok (.newarray .int, 2) := by decide +kernel
theorem dX0_init_42 : decode cX0_init 42 = .ok (.putfield 29, 3) := by decide +kernel
theorem dX0_init_45 : decode cX0_init 45 = .ok (.aload_n 0, 1) := by decide +kernel
theorem dX0_init_46 : decode cX0_init 46 = .ok (.bipush 20, 2) := by decide +kernel
theorem dX0_init_48 : decode cX0_init 48 = .ok (.newarray .int, 2) := by decide +kernel
theorem dX0_init_50 : decode cX0_init 50 = .ok (.putfield 32, 3) := by decide +kernel
theorem dX0_init_53 : decode cX0_init 53 = .ok (.return_, 1) := by decide +kernel
theorem dX0_makeEmpty_0 : decode cX0_makeEmpty 0 = .ok (.aload_n 0, 1) := by decide +kernel
theorem dX0_makeEmpty_1 : decode cX0_makeEmpty 1 = .ok (.getfield 14, 3) := by decide +kernel
theorem dX0_makeEmpty_4 : decode cX0_makeEmpty 4 = .ok (.iconst 0, 1) := by decide +kernel
theorem dX0_makeEmpty_5 : decode cX0_makeEmpty 5 = .ok (.putfield 35, 3) := by decide +kernel
theorem dX0_makeEmpty_8 : decode cX0_makeEmpty 8 = .ok (.aload_n 0, 1) := by decide +kernel
theorem dX0_makeEmpty_9 : decode cX0_makeEmpty 9 = .ok (.iconst 0, 1) := by decide +kernel
theorem dX0_makeEmpty_10 : decode cX0_makeEmpty 10 = .ok (.putfield 39, 3) := by decide +kernel
theorem dX0_makeEmpty_13 : decode cX0_makeEmpty 13 = .ok (.aload_n 0, 1) := by decide +kernel
theorem dX0_makeEmpty_14 : decode cX0_makeEmpty 14 = .ok (.iconst 0, 1) := by decide +kernel
theorem dX0_makeEmpty_15 : decode cX0_makeEmpty 15 = .ok (.putfield 42, 3) := by decide +kernel
theorem dX0_makeEmpty_18 : decode cX0_makeEmpty 18 = .ok (.aload_n 0, 1) := by decide +kernel
theorem dX0_makeEmpty_19 : decode cX0_makeEmpty 19 = .ok (.iconst 0, 1) := by decide +kernel
theorem dX0_makeEmpty_20 : decode cX0_makeEmpty 20 = .ok (.putfield 45, 3) := by decide +kernel
theorem dX0_makeEmpty_23 : decode cX0_makeEmpty 23 = .ok (.return_, 1) := by decide +kernel
theorem dX0_addWord_0 : decode cX0_addWord 0 = .ok (.aload_n 0, 1) := by decide +kernel
theorem dX0_addWord_1 : decode cX0_addWord 1 = .ok (.getfield 39, 3) := by decide +kernel
theorem dX0_addWord_4 : decode cX0_addWord 4 = .ok (.bipush 20, 2) := by decide +kernel
theorem dX0_addWord_6 : decode cX0_addWord 6 = .ok (.if_icmp .ge 12, 3) := by decide +kernel
theorem dX0_addWord_9 : decode cX0_addWord 9 = .ok (.aload_n 0, 1) := by decide +kernel
theorem dX0_addWord_10 : decode cX0_addWord 10 = .ok (.getfield 45, 3) := by decide +kernel
theorem dX0_addWord_13 : decode cX0_addWord 13 = .ok (.bipush 10, 2) := by decide +kernel
theorem dX0_addWord_15 : decode cX0_addWord 15 = .ok (.if_icmp .lt 5, 3) := by decide +kernel
theorem dX0_addWord_18 : decode cX0_addWord 18 = .ok (.iconst 0, 1) := by decide +kernel
theorem dX0_addWord_19 : decode cX0_addWord 19 = .ok (.ireturn, 1) := by decide +kernel
theorem dX0_addWord_20 : decode cX0_addWord 20 = .ok (.aload_n 0, 1) := by decide +kernel
theorem dX0_addWord_21 : decode cX0_addWord 21 = .ok (.getfield 14, 3) := by decide +kernel
theorem dX0_addWord_24 : decode cX0_addWord 24 = .ok (.aload_n 1, 1) := by decide +kernel
theorem dX0_addWord_25 : decode cX0_addWord 25 = .ok (.iload_n 2, 1) := by decide +kernel
theorem dX0_addWord_26 : decode cX0_addWord 26 = .ok (.invokevirtual 48, 3) := by decide +kernel
theorem dX0_addWord_29 : decode cX0_addWord 29 = .ok (.istore_n 3, 1) := by decide +kernel
theorem dX0_addWord_30 : decode cX0_addWord 30 = .ok (.iload_n 3, 1) := by decide +kernel
theorem dX0_addWord_31 : decode cX0_addWord 31 = .ok (.iconst (-1), 1) := by decide +kernel
theorem dX0_addWord_32 : decode cX0_addWord 32 = .ok (.if_icmp .ne 5, 3) := by decide +kernel
theorem dX0_addWord_35 : decode cX0_addWord 35 = .ok (.iconst 0, 1) := by decide +kernel
theorem dX0_addWord_36 : decode cX0_addWord 36 = .ok (.ireturn, 1) := by decide +kernel
theorem dX0_addWord_37 : decode cX0_addWord 37 = .ok (.aload_n 0, 1) := by decide +kernel
theorem dX0_addWord_38 : decode cX0_addWord 38 = .ok (.getfield 22, 3) := by decide +kernel
theorem dX0_addWord_41 : decode cX0_addWord 41 = .ok (.aload_n 0, 1) := by decide +kernel
theorem dX0_addWord_42 : decode cX0_addWord 42 = .ok (.getfield 39, 3) := by decide +kernel
theorem dX0_addWord_45 : decode cX0_addWord 45 = .ok (.aaload, 1) := by decide +kernel
theorem dX0_addWord_46 : decode cX0_addWord 46 = .ok (.aload_n 0, 1) := by decide +kernel
theorem dX0_addWord_47 : decode cX0_addWord 47 = .ok (.getfield 45, 3) := by decide +kernel
theorem dX0_addWord_50 : decode cX0_addWord 50 = .ok (.iload_n 3, 1) := by decide +kernel
theorem dX0_addWord_51 : decode cX0_addWord 51 = .ok (.iastore, 1) := by decide +kernel
theorem dX0_addWord_52 : decode cX0_addWord 52 = .ok (.aload_n 0, 1) := by decide +kernel
theorem dX0_addWord_53 : decode cX0_addWord 53 = .ok (.dup, 1) := by decide +kernel
theorem dX0_addWord_54 : decode cX0_addWord 54 = .ok (.getfield 45, 3) := by decide +kernel
theorem dX0_addWord_57 : decode cX0_addWord 57 = .ok (.iconst 1, 1) := by decide +kernel
theorem dX0_addWord_58 : decode cX0_addWord 58 = .ok (.iadd, 1) := by decide +kernel
theorem dX0_addWord_59 : decode cX0_addWord 59 = .ok (.putfield 45, 3) := by decide +kernel
theorem dX0_addWord_62 : decode cX0_addWord 62 = .ok (.iconst 1, 1) := by decide +kernel
theorem dX0_addWord_63 : decode cX0_addWord 63 = .ok (.ireturn, 1) := by decide +kernel
theorem dX0_endSentence_0 : decode cX0_endSentence 0 = .ok (.aload_n 0, 1) := by decide +kernel
theorem dX0_endSentence_1 : decode cX0_endSentence 1 = .ok (.getfield 45, 3) := by decide +kernel
theorem dX0_endSentence_4 : decode cX0_endSentence 4 = .ok (.ifCond .le 53, 3) := by decide +kernel
theorem dX0_endSentence_7 : decode cX0_endSentence 7 = .ok (.aload_n 0, 1) := by decide +kernel
theorem dX0_endSentence_8 : decode cX0_endSentence 8 = .ok (.getfield 39, 3) := by decide +kernel
theorem dX0_endSentence_11 : decode cX0_endSentence 11 = .ok (.bipush 20, 2) := by decide +kernel
theorem dX0_endSentence_13 : decode cX0_endSentence 13 = .ok (.if_icmp .ge 44, 3) := by decide +kernel
theorem dX0_endSentence_16 : decode cX0_endSentence 16 = .ok (.aload_n 0, 1) := by decide +kernel
theorem dX0_endSentence_17 : decode cX0_endSentence 17 = .ok (.getfield 25, 3) := by decide +kernel
theorem dX0_endSentence_20 : decode cX0_endSentence 20 = .ok (.aload_n 0, 1) := by decide +kernel
theorem dX0_endSentence_21 : decode cX0_endSentence 21 = .ok (.getfield 39, 3) := by decide +kernel
theorem dX0_endSentence_24 : decode cX0_endSentence 24 = .ok (.aload_n 0, 1) := by decide +kernel
theorem dX0_endSentence_25 : decode cX0_endSentence 25 = .ok (.getfield 45, 3) := by decide +kernel
theorem dX0_endSentence_28 : decode cX0_endSentence 28 = .ok (.iastore, 1) := by decide +kernel
theorem dX0_endSentence_29 : decode cX0_endSentence 29 = .ok (.aload_n 0, 1) := by decide +kernel
theorem dX0_endSentence_30 : decode cX0_endSentence 30 = .ok (.getfield 29, 3) := by decide +kernel
theorem dX0_endSentence_33 : decode cX0_endSentence 33 = .ok (.aload_n 0, 1) := by decide +kernel
theorem dX0_endSentence_34 : decode cX0_endSentence 34 = .ok (.getfield 39, 3) := by decide +kernel
theorem dX0_endSentence_37 : decode cX0_endSentence 37 = .ok (.aload_n 0, 1) := by decide +kernel
theorem dX0_endSentence_38 : decode cX0_endSentence 38 = .ok (.getfield 42, 3) := by decide +kernel
theorem dX0_endSentence_41 : decode cX0_endSentence 41 = .ok (.iastore, 1) := by decide +kernel
theorem dX0_endSentence_42 : decode cX0_endSentence 42 = .ok (.aload_n 0, 1) := by decide +kernel
theorem dX0_endSentence_43 : decode cX0_endSentence 43 = .ok (.dup, 1) := by decide +kernel
theorem dX0_endSentence_44 : decode cX0_endSentence 44 = .ok (.getfield 39, 3) := by decide +kernel
theorem dX0_endSentence_47 : decode cX0_endSentence 47 = .ok (.iconst 1, 1) := by decide +kernel
theorem dX0_endSentence_48 : decode cX0_endSentence 48 = .ok (.iadd, 1) := by decide +kernel
theorem dX0_endSentence_49 : decode cX0_endSentence 49 = .ok (.putfield 39, 3) := by decide +kernel
theorem dX0_endSentence_52 : decode cX0_endSentence 52 = .ok (.aload_n 0, 1) := by decide +kernel
theorem dX0_endSentence_53 : decode cX0_endSentence 53 = .ok (.iconst 0, 1) := by decide +kernel
theorem dX0_endSentence_54 : decode cX0_endSentence 54 = .ok (.putfield 45, 3) := by decide +kernel
theorem dX0_endSentence_57 : decode cX0_endSentence 57 = .ok (.return_, 1) := by decide +kernel
theorem dX0_endParagraph_0 : decode cX0_endParagraph 0 = .ok (.aload_n 0, 1) := by decide +kernel
theorem dX0_endParagraph_1 : decode cX0_endParagraph 1 = .ok (.invokevirtual 52, 3) := by decide +kernel
theorem dX0_endParagraph_4 : decode cX0_endParagraph 4 = .ok (.aload_n 0, 1) := by decide +kernel
theorem dX0_endParagraph_5 : decode cX0_endParagraph 5 = .ok (.getfield 42, 3) := by decide +kernel
theorem dX0_endParagraph_8 : decode cX0_endParagraph 8 = .ok (.ifCond .ne 7, 3) := by decide +kernel
theorem dX0_endParagraph_11 : decode cX0_endParagraph 11 = .ok (.iconst 0, 1) := by decide +kernel
theorem dX0_endParagraph_12 : decode cX0_endParagraph 12 = .ok (.goto 14, 3) := by decide +kernel
theorem dX0_endParagraph_15 : decode cX0_endParagraph 15 = .ok (.aload_n 0, 1) := by decide +kernel
theorem dX0_endParagraph_16 : decode cX0_endParagraph 16 = .ok (.getfield 32, 3) := by decide +kernel
theorem dX0_endParagraph_19 : decode cX0_endParagraph 19 = .ok (.aload_n 0, 1) := by decide +kernel
theorem dX0_endParagraph_20 : decode cX0_endParagraph 20 = .ok (.getfield 42, 3) := by decide +kernel
theorem dX0_endParagraph_23 : decode cX0_endParagraph 23 = .ok (.iconst 1, 1) := by decide +kernel
theorem dX0_endParagraph_24 : decode cX0_endParagraph 24 = .ok (.isub, 1) := by decide +kernel
theorem dX0_endParagraph_25 : decode cX0_endParagraph 25 = .ok (.iaload, 1) := by decide +kernel
theorem dX0_endParagraph_26 : decode cX0_endParagraph 26 = .ok (.istore_n 1, 1) := by decide +kernel
theorem dX0_endParagraph_27 : decode cX0_endParagraph 27 = .ok (.aload_n 0, 1) := by decide +kernel
theorem dX0_endParagraph_28 : decode cX0_endParagraph 28 = .ok (.getfield 39, 3) := by decide +kernel
theorem dX0_endParagraph_31 : decode cX0_endParagraph 31 = .ok (.iload_n 1, 1) := by decide +kernel
theorem dX0_endParagraph_32 : decode cX0_endParagraph 32 = .ok (.if_icmp .le 26, 3) := by decide +kernel
theorem dX0_endParagraph_35 : decode cX0_endParagraph 35 = .ok (.aload_n 0, 1) := by decide +kernel
theorem dX0_endParagraph_36 : decode cX0_endParagraph 36 = .ok (.getfield 32, 3) := by decide +kernel
theorem dX0_endParagraph_39 : decode cX0_endParagraph 39 = .ok (.aload_n 0, 1) := by decide +kernel
theorem dX0_endParagraph_40 : decode cX0_endParagraph 40 = .ok (.getfield 42, 3) := by decide +kernel
theorem dX0_endParagraph_43 : decode cX0_endParagraph 43 = .ok (.aload_n 0, 1) := by decide +kernel
theorem dX0_endParagraph_44 : decode cX0_endParagraph 44 = .ok (.getfield 39, 3) := by decide +kernel
theorem dX0_endParagraph_47 : decode cX0_endParagraph 47 = .ok (.iastore, 1) := by decide +kernel
theorem dX0_endParagraph_48 : decode cX0_endParagraph 48 = .ok (.aload_n 0, 1) := by decide +kernel
theorem dX0_endParagraph_49 : decode cX0_endParagraph 49 = .ok (.dup, 1) := by decide +kernel
theorem dX0_endParagraph_50 : decode cX0_endParagraph 50 = .ok (.getfield 42, 3) := by decide +kernel
theorem dX0_endParagraph_53 : decode cX0_endParagraph 53 = .ok (.iconst 1, 1) := by decide +kernel
theorem dX0_endParagraph_54 : decode cX0_endParagraph 54 = .ok (.iadd, 1) := by decide +kernel
theorem dX0_endParagraph_55 : decode cX0_endParagraph 55 = .ok (.putfield 42, 3) := by decide +kernel
theorem dX0_endParagraph_58 : decode cX0_endParagraph 58 = .ok (.return_, 1) := by decide +kernel
theorem dX0_hasRun_0 : decode cX0_hasRun 0 = .ok (.iload_n 2, 1) := by decide +kernel
theorem dX0_hasRun_1 : decode cX0_hasRun 1 = .ok (.ifCond .eq 17, 3) := by decide +kernel
theorem dX0_hasRun_4 : decode cX0_hasRun 4 = .ok (.iload_n 1, 1) := by decide +kernel
theorem dX0_hasRun_5 : decode cX0_hasRun 5 = .ok (.ifCond .lt 17, 3) := by decide +kernel
theorem dX0_hasRun_8 : decode cX0_hasRun 8 = .ok (.iload_n 1, 1) := by decide +kernel
theorem dX0_hasRun_9 : decode cX0_hasRun 9 = .ok (.aload_n 0, 1) := by decide +kernel
theorem dX0_hasRun_10 : decode cX0_hasRun 10 = .ok (.getfield 39, 3) := by decide +kernel
theorem dX0_hasRun_13 : decode cX0_hasRun 13 = .ok (.iload_n 2, 1) := by decide +kernel
theorem dX0_hasRun_14 : decode cX0_hasRun 14 = .ok (.isub, 1) := by decide +kernel
theorem dX0_hasRun_15 : decode cX0_hasRun 15 = .ok (.if_icmp .gt 7, 3) := by decide +kernel
theorem dX0_hasRun_18 : decode cX0_hasRun 18 = .ok (.iconst 1, 1) := by decide +kernel
theorem dX0_hasRun_19 : decode cX0_hasRun 19 = .ok (.goto 4, 3) := by decide +kernel
theorem dX0_hasRun_22 : decode cX0_hasRun 22 = .ok (.iconst 0, 1) := by decide +kernel
theorem dX0_hasRun_23 : decode cX0_hasRun 23 = .ok (.ireturn, 1) := by decide +kernel
theorem dX0_wordsOf_0 : decode cX0_wordsOf 0 = .ok (.iconst 0, 1) := by decide +kernel
theorem dX0_wordsOf_1 : decode cX0_wordsOf 1 = .ok (.istore_n 3, 1) := by decide +kernel
theorem dX0_wordsOf_2 : decode cX0_wordsOf 2 = .ok (.iload_n 1, 1) := by decide +kernel
theorem dX0_wordsOf_3 : decode cX0_wordsOf 3 = .ok (.istore 4, 2) := by decide +kernel
theorem dX0_wordsOf_5 : decode cX0_wordsOf 5 = .ok (.iload 4, 2) := by decide +kernel
theorem dX0_wordsOf_7 : decode cX0_wordsOf 7 = .ok (.iload_n 1, 1) := by decide +kernel
theorem dX0_wordsOf_8 : decode cX0_wordsOf 8 = .ok (.iload_n 2, 1) := by decide +kernel
theorem dX0_wordsOf_9 : decode cX0_wordsOf 9 = .ok (.iadd, 1) := by decide +kernel
theorem dX0_wordsOf_10 : decode cX0_wordsOf 10 = .ok (.if_icmp .ge 19, 3) := by decide +kernel
theorem dX0_wordsOf_13 : decode cX0_wordsOf 13 = .ok (.iload_n 3, 1) := by decide +kernel
theorem dX0_wordsOf_14 : decode cX0_wordsOf 14 = .ok (.aload_n 0, 1) := by decide +kernel
theorem dX0_wordsOf_15 : decode cX0_wordsOf 15 = .ok (.getfield 25, 3) := by decide +kernel
theorem dX0_wordsOf_18 : decode cX0_wordsOf 18 = .ok (.iload 4, 2) := by decide +kernel
theorem dX0_wordsOf_20 : decode cX0_wordsOf 20 = .ok (.iaload, 1) := by decide +kernel
theorem dX0_wordsOf_21 : decode cX0_wordsOf 21 = .ok (.iadd, 1) := by decide +kernel
theorem dX0_wordsOf_22 : decode cX0_wordsOf 22 = .ok (.istore_n 3, 1) := by decide +kernel
theorem dX0_wordsOf_23 : decode cX0_wordsOf 23 = .ok (.iinc 4 1, 3) := by decide +kernel
theorem dX0_wordsOf_26 : decode cX0_wordsOf 26 = .ok (.goto (-21), 3) := by decide +kernel
theorem dX0_wordsOf_29 : decode cX0_wordsOf 29 = .ok (.iload_n 3, 1) := by decide +kernel
theorem dX0_wordsOf_30 : decode cX0_wordsOf 30 = .ok (.ireturn, 1) := by decide +kernel
theorem dX0_lengthOf_0 : decode cX0_lengthOf 0 = .ok (.iconst 0, 1) := by decide +kernel
theorem dX0_lengthOf_1 : decode cX0_lengthOf 1 = .ok (.istore_n 3, 1) := by decide +kernel
theorem dX0_lengthOf_2 : decode cX0_lengthOf 2 = .ok (.iload_n 1, 1) := by decide +kernel
theorem dX0_lengthOf_3 : decode cX0_lengthOf 3 = .ok (.istore 4, 2) := by decide +kernel
theorem dX0_lengthOf_5 : decode cX0_lengthOf 5 = .ok (.iload 4, 2) := by decide +kernel
theorem dX0_lengthOf_7 : decode cX0_lengthOf 7 = .ok (.iload_n 1, 1) := by decide +kernel
theorem dX0_lengthOf_8 : decode cX0_lengthOf 8 = .ok (.iload_n 2, 1) := by decide +kernel
theorem dX0_lengthOf_9 : decode cX0_lengthOf 9 = .ok (.iadd, 1) := by decide +kernel
theorem dX0_lengthOf_10 : decode cX0_lengthOf 10 = .ok (.if_icmp .ge 50, 3) := by decide +kernel
theorem dX0_lengthOf_13 : decode cX0_lengthOf 13 = .ok (.iconst 0, 1) := by decide +kernel
theorem dX0_lengthOf_14 : decode cX0_lengthOf 14 = .ok (.istore 5, 2) := by decide +kernel
theorem dX0_lengthOf_16 : decode cX0_lengthOf 16 = .ok (.iload 5, 2) := by decide +kernel
theorem dX0_lengthOf_18 : decode cX0_lengthOf 18 = .ok (.aload_n 0, 1) := by decide +kernel
theorem dX0_lengthOf_19 : decode cX0_lengthOf 19 = .ok (.getfield 25, 3) := by decide +kernel
theorem dX0_lengthOf_22 : decode cX0_lengthOf 22 = .ok (.iload 4, 2) := by decide +kernel
theorem dX0_lengthOf_24 : decode cX0_lengthOf 24 = .ok (.iaload, 1) := by decide +kernel
theorem dX0_lengthOf_25 : decode cX0_lengthOf 25 = .ok (.if_icmp .ge 29, 3) := by decide +kernel
theorem dX0_lengthOf_28 : decode cX0_lengthOf 28 = .ok (.iload_n 3, 1) := by decide +kernel
theorem dX0_lengthOf_29 : decode cX0_lengthOf 29 = .ok (.aload_n 0, 1) := by decide +kernel
theorem dX0_lengthOf_30 : decode cX0_lengthOf 30 = .ok (.getfield 14, 3) := by decide +kernel
theorem dX0_lengthOf_33 : decode cX0_lengthOf 33 = .ok (.aload_n 0, 1) := by decide +kernel
theorem dX0_lengthOf_34 : decode cX0_lengthOf 34 = .ok (.getfield 22, 3) := by decide +kernel
theorem dX0_lengthOf_37 : decode cX0_lengthOf 37 = .ok (.iload 4, 2) := by decide +kernel
theorem dX0_lengthOf_39 : decode cX0_lengthOf 39 = .ok (.aaload, 1) := by decide +kernel
theorem dX0_lengthOf_40 : decode cX0_lengthOf 40 = .ok (.iload 5, 2) := by decide +kernel
theorem dX0_lengthOf_42 : decode cX0_lengthOf 42 = .ok (.iaload, 1) := by decide +kernel
theorem dX0_lengthOf_43 : decode cX0_lengthOf 43 = .ok (.invokevirtual 55, 3) := by decide +kernel
theorem dX0_lengthOf_46 : decode cX0_lengthOf 46 = .ok (.iadd, 1) := by decide +kernel
theorem dX0_lengthOf_47 : decode cX0_lengthOf 47 = .ok (.istore_n 3, 1) := by decide +kernel
theorem dX0_lengthOf_48 : decode cX0_lengthOf 48 = .ok (.iinc 5 1, 3) := by decide +kernel
theorem dX0_lengthOf_51 : decode cX0_lengthOf 51 = .ok (.goto (-35), 3) := by decide +kernel
theorem dX0_lengthOf_54 : decode cX0_lengthOf 54 = .ok (.iinc 4 1, 3) := by decide +kernel
theorem dX0_lengthOf_57 : decode cX0_lengthOf 57 = .ok (.goto (-52), 3) := by decide +kernel
theorem dX0_lengthOf_60 : decode cX0_lengthOf 60 = .ok (.iload_n 3, 1) := by decide +kernel
theorem dX0_lengthOf_61 : decode cX0_lengthOf 61 = .ok (.ireturn, 1) := by decide +kernel
theorem dX0_kindsIn_0 : decode cX0_kindsIn 0 = .ok (.lconst 0, 1) := by decide +kernel
theorem dX0_kindsIn_1 : decode cX0_kindsIn 1 = .ok (.lstore_n 3, 1) := by decide +kernel
theorem dX0_kindsIn_2 : decode cX0_kindsIn 2 = .ok (.iload_n 1, 1) := by decide +kernel
theorem dX0_kindsIn_3 : decode cX0_kindsIn 3 = .ok (.istore 5, 2) := by decide +kernel
theorem dX0_kindsIn_5 : decode cX0_kindsIn 5 = .ok (.iload 5, 2) := by decide +kernel
theorem dX0_kindsIn_7 : decode cX0_kindsIn 7 = .ok (.iload_n 1, 1) := by decide +kernel
theorem dX0_kindsIn_8 : decode cX0_kindsIn 8 = .ok (.iload_n 2, 1) := by decide +kernel
theorem dX0_kindsIn_9 : decode cX0_kindsIn 9 = .ok (.iadd, 1) := by decide +kernel
theorem dX0_kindsIn_10 : decode cX0_kindsIn 10 = .ok (.if_icmp .ge 45, 3) := by decide +kernel
theorem dX0_kindsIn_13 : decode cX0_kindsIn 13 = .ok (.iconst 0, 1) := by decide +kernel
theorem dX0_kindsIn_14 : decode cX0_kindsIn 14 = .ok (.istore 6, 2) := by decide +kernel
theorem dX0_kindsIn_16 : decode cX0_kindsIn 16 = .ok (.iload 6, 2) := by decide +kernel
theorem dX0_kindsIn_18 : decode cX0_kindsIn 18 = .ok (.aload_n 0, 1) := by decide +kernel
theorem dX0_kindsIn_19 : decode cX0_kindsIn 19 = .ok (.getfield 25, 3) := by decide +kernel
theorem dX0_kindsIn_22 : decode cX0_kindsIn 22 = .ok (.iload 5, 2) := by decide +kernel
theorem dX0_kindsIn_24 : decode cX0_kindsIn 24 = .ok (.iaload, 1) := by decide +kernel
theorem dX0_kindsIn_25 : decode cX0_kindsIn 25 = .ok (.if_icmp .ge 24, 3) := by decide +kernel
theorem dX0_kindsIn_28 : decode cX0_kindsIn 28 = .ok (.lload_n 3, 1) := by decide +kernel
theorem dX0_kindsIn_29 : decode cX0_kindsIn 29 = .ok (.lconst 1, 1) := by decide +kernel
theorem dX0_kindsIn_30 : decode cX0_kindsIn 30 = .ok (.aload_n 0, 1) := by decide +kernel
theorem dX0_kindsIn_31 : decode cX0_kindsIn 31 = .ok (.getfield 22, 3) := by decide +kernel
theorem dX0_kindsIn_34 : decode cX0_kindsIn 34 = .ok (.iload 5, 2) := by decide +kernel
theorem dX0_kindsIn_36 : decode cX0_kindsIn 36 = .ok (.aaload, 1) := by decide +kernel
theorem dX0_kindsIn_37 : decode cX0_kindsIn 37 = .ok (.iload 6, 2) := by decide +kernel
theorem dX0_kindsIn_39 : decode cX0_kindsIn 39 = .ok (.iaload, 1) := by decide +kernel
theorem dX0_kindsIn_40 : decode cX0_kindsIn 40 = .ok (.lshl, 1) := by decide +kernel
theorem dX0_kindsIn_41 : decode cX0_kindsIn 41 = .ok (.lor, 1) := by decide +kernel
theorem dX0_kindsIn_42 : decode cX0_kindsIn 42 = .ok (.lstore_n 3, 1) := by decide +kernel
theorem dX0_kindsIn_43 : decode cX0_kindsIn 43 = .ok (.iinc 6 1, 3) := by decide +kernel
theorem dX0_kindsIn_46 : decode cX0_kindsIn 46 = .ok (.goto (-30), 3) := by decide +kernel
theorem dX0_kindsIn_49 : decode cX0_kindsIn 49 = .ok (.iinc 5 1, 3) := by decide +kernel
theorem dX0_kindsIn_52 : decode cX0_kindsIn 52 = .ok (.goto (-47), 3) := by decide +kernel
theorem dX0_kindsIn_55 : decode cX0_kindsIn 55 = .ok (.lload_n 3, 1) := by decide +kernel
theorem dX0_kindsIn_56 : decode cX0_kindsIn 56 = .ok (.lreturn, 1) := by decide +kernel
theorem dX1_init_0 : decode cX1_init 0 = .ok (.aload_n 0, 1) := by decide +kernel
theorem dX1_init_1 : decode cX1_init 1 = .ok (.invokespecial 3, 3) := by decide +kernel
theorem dX1_init_4 : decode cX1_init 4 = .ok (.aload_n 0, 1) := by decide +kernel
theorem dX1_init_5 : decode cX1_init 5 = .ok (.bipush 10, 2) := by decide +kernel
theorem dX1_init_7 : decode cX1_init 7 = .ok (.newarray .byte, 2) := by decide +kernel
theorem dX1_init_9 : decode cX1_init 9 = .ok (.putfield 9, 3) := by decide +kernel
theorem dX1_init_12 : decode cX1_init 12 = .ok (.aload_n 0, 1) := by decide +kernel
theorem dX1_init_13 : decode cX1_init 13 = .ok (.aload_n 1, 1) := by decide +kernel
theorem dX1_init_14 : decode cX1_init 14 = .ok (.putfield 15, 3) := by decide +kernel
theorem dX1_init_17 : decode cX1_init 17 = .ok (.aload_n 0, 1) := by decide +kernel
theorem dX1_init_18 : decode cX1_init 18 = .ok (.aload_n 2, 1) := by decide +kernel
theorem dX1_init_19 : decode cX1_init 19 = .ok (.putfield 19, 3) := by decide +kernel
theorem dX1_init_22 : decode cX1_init 22 = .ok (.return_, 1) := by decide +kernel
theorem dX1_readWords_0 : decode cX1_readWords 0 = .ok (.iconst 0, 1) := by decide +kernel
theorem dX1_readWords_1 : decode cX1_readWords 1 = .ok (.istore_n 1, 1) := by decide +kernel
theorem dX1_readWords_2 : decode cX1_readWords 2 = .ok (.iconst 0, 1) := by decide +kernel
theorem dX1_readWords_3 : decode cX1_readWords 3 = .ok (.istore_n 2, 1) := by decide +kernel
theorem dX1_readWords_4 : decode cX1_readWords 4 = .ok (.iload_n 2, 1) := by decide +kernel
theorem dX1_readWords_5 : decode cX1_readWords 5 = .ok (.aload_n 0, 1) := by decide +kernel
theorem dX1_readWords_6 : decode cX1_readWords 6 = .ok (.getfield 15, 3) := by decide +kernel
theorem dX1_readWords_9 : decode cX1_readWords 9 = .ok (.getfield 23, 3) := by decide +kernel
theorem dX1_readWords_12 : decode cX1_readWords 12 = .ok (.if_icmp .ge 46, 3) := by decide +kernel
theorem dX1_readWords_15 : decode cX1_readWords 15 = .ok (.aload_n 0, 1) := by decide +kernel
theorem dX1_readWords_16 : decode cX1_readWords 16 = .ok (.getfield 15, 3) := by decide +kernel
theorem dX1_readWords_19 : decode cX1_readWords 19 = .ok (.iload_n 2, 1) := by decide +kernel
theorem dX1_readWords_20 : decode cX1_readWords 20 = .ok (.invokevirtual 29, 3) := by decide +kernel
theorem dX1_readWords_23 : decode cX1_readWords 23 = .ok (.ifCond .eq 29, 3) := by decide +kernel
theorem dX1_readWords_26 : decode cX1_readWords 26 = .ok (.aload_n 0, 1) := by decide +kernel
theorem dX1_readWords_27 : decode cX1_readWords 27 = .ok (.getfield 15, 3) := by decide +kernel
theorem dX1_readWords_30 : decode cX1_readWords 30 = .ok (.iload_n 2, 1) := by decide +kernel
theorem dX1_readWords_31 : decode cX1_readWords 31 = .ok (.iconst 1, 1) := by decide +kernel
theorem dX1_readWords_32 : decode cX1_readWords 32 = .ok (.isub, 1) := by decide +kernel
theorem dX1_readWords_33 : decode cX1_readWords 33 = .ok (.invokevirtual 29, 3) := by decide +kernel
theorem dX1_readWords_36 : decode cX1_readWords 36 = .ok (.ifCond .ne 11, 3) := by decide +kernel
theorem dX1_readWords_39 : decode cX1_readWords 39 = .ok (.iinc 1 1, 3) := by decide +kernel
theorem dX1_readWords_42 : decode cX1_readWords 42 = .ok (.aload_n 0, 1) := by decide +kernel
theorem dX1_readWords_43 : decode cX1_readWords 43 = .ok (.iconst 0, 1) := by decide +kernel
theorem dX1_readWords_44 : decode cX1_readWords 44 = .ok (.putfield 33, 3) := by decide +kernel
theorem dX1_readWords_47 : decode cX1_readWords 47 = .ok (.aload_n 0, 1) := by decide +kernel
theorem dX1_readWords_48 : decode cX1_readWords 48 = .ok (.iload_n 2, 1) := by decide +kernel
theorem dX1_readWords_49 : decode cX1_readWords 49 = .ok (.invokevirtual 36, 3) := by decide +kernel
theorem dX1_readWords_52 : decode cX1_readWords 52 = .ok (.iinc 2 1, 3) := by decide +kernel
theorem dX1_readWords_55 : decode cX1_readWords 55 = .ok (.goto (-51), 3) := by decide +kernel
theorem dX1_readWords_58 : decode cX1_readWords 58 = .ok (.iload_n 1, 1) := by decide +kernel
theorem dX1_readWords_59 : decode cX1_readWords 59 = .ok (.ireturn, 1) := by decide +kernel
theorem dX1_fill_0 : decode cX1_fill 0 = .ok (.aload_n 1, 1) := by decide +kernel
theorem dX1_fill_1 : decode cX1_fill 1 = .ok (.invokevirtual 40, 3) := by decide +kernel
theorem dX1_fill_4 : decode cX1_fill 4 = .ok (.aload_n 0, 1) := by decide +kernel
theorem dX1_fill_5 : decode cX1_fill 5 = .ok (.iconst 0, 1) := by decide +kernel
theorem dX1_fill_6 : decode cX1_fill 6 = .ok (.putfield 33, 3) := by decide +kernel
theorem dX1_fill_9 : decode cX1_fill 9 = .ok (.iconst 0, 1) := by decide +kernel
theorem dX1_fill_10 : decode cX1_fill 10 = .ok (.istore_n 2, 1) := by decide +kernel
theorem dX1_fill_11 : decode cX1_fill 11 = .ok (.iload_n 2, 1) := by decide +kernel
theorem dX1_fill_12 : decode cX1_fill 12 = .ok (.aload_n 0, 1) := by decide +kernel
theorem dX1_fill_13 : decode cX1_fill 13 = .ok (.getfield 15, 3) := by decide +kernel
theorem dX1_fill_16 : decode cX1_fill 16 = .ok (.getfield 23, 3) := by decide +kernel
theorem dX1_fill_19 : decode cX1_fill 19 = .ok (.if_icmp .ge 46, 3) := by decide +kernel
theorem dX1_fill_22 : decode cX1_fill 22 = .ok (.aload_n 0, 1) := by decide +kernel
theorem dX1_fill_23 : decode cX1_fill 23 = .ok (.getfield 15, 3) := by decide +kernel
theorem dX1_fill_26 : decode cX1_fill 26 = .ok (.iload_n 2, 1) := by decide +kernel
theorem dX1_fill_27 : decode cX1_fill 27 = .ok (.invokevirtual 29, 3) := by decide +kernel
theorem dX1_fill_30 : decode cX1_fill 30 = .ok (.ifCond .eq 11, 3) := by decide +kernel
theorem dX1_fill_33 : decode cX1_fill 33 = .ok (.aload_n 0, 1) := by decide +kernel
theorem dX1_fill_34 : decode cX1_fill 34 = .ok (.iload_n 2, 1) := by decide +kernel
theorem dX1_fill_35 : decode cX1_fill 35 = .ok (.invokevirtual 36, 3) := by decide +kernel
theorem dX1_fill_38 : decode cX1_fill 38 = .ok (.goto 21, 3) := by decide +kernel
theorem dX1_fill_41 : decode cX1_fill 41 = .ok (.aload_n 0, 1) := by decide +kernel
theorem dX1_fill_42 : decode cX1_fill 42 = .ok (.aload_n 1, 1) := by decide +kernel
theorem dX1_fill_43 : decode cX1_fill 43 = .ok (.aload_n 0, 1) := by decide +kernel
theorem dX1_fill_44 : decode cX1_fill 44 = .ok (.getfield 15, 3) := by decide +kernel
theorem dX1_fill_47 : decode cX1_fill 47 = .ok (.iload_n 2, 1) := by decide +kernel
theorem dX1_fill_48 : decode cX1_fill 48 = .ok (.invokevirtual 45, 3) := by decide +kernel
theorem dX1_fill_51 : decode cX1_fill 51 = .ok (.invokevirtual 49, 3) := by decide +kernel
theorem dX1_fill_54 : decode cX1_fill 54 = .ok (.ifCond .ne 5, 3) := by decide +kernel
theorem dX1_fill_57 : decode cX1_fill 57 = .ok (.iconst 0, 1) := by decide +kernel
theorem dX1_fill_58 : decode cX1_fill 58 = .ok (.ireturn, 1) := by decide +kernel
theorem dX1_fill_59 : decode cX1_fill 59 = .ok (.iinc 2 1, 3) := by decide +kernel
theorem dX1_fill_62 : decode cX1_fill 62 = .ok (.goto (-51), 3) := by decide +kernel
theorem dX1_fill_65 : decode cX1_fill 65 = .ok (.aload_n 0, 1) := by decide +kernel
theorem dX1_fill_66 : decode cX1_fill 66 = .ok (.aload_n 1, 1) := by decide +kernel
theorem dX1_fill_67 : decode cX1_fill 67 = .ok (.bipush 10, 2) := by decide +kernel
theorem dX1_fill_69 : decode cX1_fill 69 = .ok (.invokevirtual 49, 3) := by decide +kernel
theorem dX1_fill_72 : decode cX1_fill 72 = .ok (.ireturn, 1) := by decide +kernel
theorem dX1_keepLetter_0 : decode cX1_keepLetter 0 = .ok (.aload_n 0, 1) := by decide +kernel
theorem dX1_keepLetter_1 : decode cX1_keepLetter 1 = .ok (.getfield 33, 3) := by decide +kernel
theorem dX1_keepLetter_4 : decode cX1_keepLetter 4 = .ok (.bipush 10, 2) := by decide +kernel
theorem dX1_keepLetter_6 : decode cX1_keepLetter 6 = .ok (.if_icmp .ge 31, 3) := by decide +kernel
theorem dX1_keepLetter_9 : decode cX1_keepLetter 9 = .ok (.aload_n 0, 1) := by decide +kernel
theorem dX1_keepLetter_10 : decode cX1_keepLetter 10 = .ok (.getfield 9, 3) := by decide +kernel
theorem dX1_keepLetter_13 : decode cX1_keepLetter 13 = .ok (.aload_n 0, 1) := by decide +kernel
theorem dX1_keepLetter_14 : decode cX1_keepLetter 14 = .ok (.getfield 33, 3) := by decide +kernel
theorem dX1_keepLetter_17 : decode cX1_keepLetter 17 = .ok (.aload_n 0, 1) := by decide +kernel
theorem dX1_keepLetter_18 : decode cX1_keepLetter 18 = .ok (.getfield 15, 3) := by decide +kernel
theorem dX1_keepLetter_21 : decode cX1_keepLetter 21 = .ok (.iload_n 1, 1) := by decide +kernel
theorem dX1_keepLetter_22 : decode cX1_keepLetter 22 = .ok (.invokevirtual 45, 3) := by decide +kernel
theorem dX1_keepLetter_25 : decode cX1_keepLetter 25 = .ok (.i2b, 1) := by decide +kernel
theorem dX1_keepLetter_26 : decode cX1_keepLetter 26 = .ok (.bastore, 1) := by decide +kernel
theorem dX1_keepLetter_27 : decode cX1_keepLetter 27 = .ok (.aload_n 0, 1) := by decide +kernel
theorem dX1_keepLetter_28 : decode cX1_keepLetter 28 = .ok (.dup, 1) := by decide +kernel
theorem dX1_keepLetter_29 : decode cX1_keepLetter 29 = .ok (.getfield 33, 3) := by decide +kernel
theorem dX1_keepLetter_32 : decode cX1_keepLetter 32 = .ok (.iconst 1, 1) := by decide +kernel
theorem dX1_keepLetter_33 : decode cX1_keepLetter 33 = .ok (.iadd, 1) := by decide +kernel
theorem dX1_keepLetter_34 : decode cX1_keepLetter 34 = .ok (.putfield 33, 3) := by decide +kernel
theorem dX1_keepLetter_37 : decode cX1_keepLetter 37 = .ok (.return_, 1) := by decide +kernel
theorem dX1_part_0 : decode cX1_part 0 = .ok (.aload_n 0, 1) := by decide +kernel
theorem dX1_part_1 : decode cX1_part 1 = .ok (.getfield 33, 3) := by decide +kernel
theorem dX1_part_4 : decode cX1_part 4 = .ok (.ifCond .le 26, 3) := by decide +kernel
theorem dX1_part_7 : decode cX1_part 7 = .ok (.aload_n 0, 1) := by decide +kernel
theorem dX1_part_8 : decode cX1_part 8 = .ok (.getfield 19, 3) := by decide +kernel
theorem dX1_part_11 : decode cX1_part 11 = .ok (.aload_n 0, 1) := by decide +kernel
theorem dX1_part_12 : decode cX1_part 12 = .ok (.getfield 9, 3) := by decide +kernel
theorem dX1_part_15 : decode cX1_part 15 = .ok (.aload_n 0, 1) := by decide +kernel
theorem dX1_part_16 : decode cX1_part 16 = .ok (.getfield 33, 3) := by decide +kernel
theorem dX1_part_19 : decode cX1_part 19 = .ok (.invokevirtual 53, 3) := by decide +kernel
theorem dX1_part_22 : decode cX1_part 22 = .ok (.iconst (-1), 1) := by decide +kernel
theorem dX1_part_23 : decode cX1_part 23 = .ok (.if_icmp .eq 7, 3) := by decide +kernel
theorem dX1_part_26 : decode cX1_part 26 = .ok (.iconst 1, 1) := by decide +kernel
theorem dX1_part_27 : decode cX1_part 27 = .ok (.goto 4, 3) := by decide +kernel
theorem dX1_part_30 : decode cX1_part 30 = .ok (.iconst 0, 1) := by decide +kernel
theorem dX1_part_31 : decode cX1_part 31 = .ok (.istore_n 3, 1) := by decide +kernel
theorem dX1_part_32 : decode cX1_part 32 = .ok (.aload_n 0, 1) := by decide +kernel
theorem dX1_part_33 : decode cX1_part 33 = .ok (.getfield 33, 3) := by decide +kernel
theorem dX1_part_36 : decode cX1_part 36 = .ok (.ifCond .le 20, 3) := by decide +kernel
theorem dX1_part_39 : decode cX1_part 39 = .ok (.aload_n 1, 1) := by decide +kernel
theorem dX1_part_40 : decode cX1_part 40 = .ok (.aload_n 0, 1) := by decide +kernel
theorem dX1_part_41 : decode cX1_part 41 = .ok (.getfield 9, 3) := by decide +kernel
theorem dX1_part_44 : decode cX1_part 44 = .ok (.aload_n 0, 1) := by decide +kernel
theorem dX1_part_45 : decode cX1_part 45 = .ok (.getfield 33, 3) := by decide +kernel
theorem dX1_part_48 : decode cX1_part 48 = .ok (.invokevirtual 59, 3) := by decide +kernel
theorem dX1_part_51 : decode cX1_part 51 = .ok (.ifCond .ne 5, 3) := by decide +kernel
theorem dX1_part_54 : decode cX1_part 54 = .ok (.iconst 0, 1) := by decide +kernel
theorem dX1_part_55 : decode cX1_part 55 = .ok (.ireturn, 1) := by decide +kernel
theorem dX1_part_56 : decode cX1_part 56 = .ok (.aload_n 0, 1) := by decide +kernel
theorem dX1_part_57 : decode cX1_part 57 = .ok (.iconst 0, 1) := by decide +kernel
theorem dX1_part_58 : decode cX1_part 58 = .ok (.putfield 33, 3) := by decide +kernel
theorem dX1_part_61 : decode cX1_part 61 = .ok (.iload_n 2, 1) := by decide +kernel
theorem dX1_part_62 : decode cX1_part 62 = .ok (.bipush 10, 2) := by decide +kernel
theorem dX1_part_64 : decode cX1_part 64 = .ok (.if_icmp .ne 10, 3) := by decide +kernel
theorem dX1_part_67 : decode cX1_part 67 = .ok (.aload_n 1, 1) := by decide +kernel
theorem dX1_part_68 : decode cX1_part 68 = .ok (.invokevirtual 63, 3) := by decide +kernel
theorem dX1_part_71 : decode cX1_part 71 = .ok (.goto 29, 3) := by decide +kernel
theorem dX1_part_74 : decode cX1_part 74 = .ok (.iload_n 2, 1) := by decide +kernel
theorem dX1_part_75 : decode cX1_part 75 = .ok (.bipush 33, 2) := by decide +kernel
theorem dX1_part_77 : decode cX1_part 77 = .ok (.if_icmp .eq 19, 3) := by decide +kernel
theorem dX1_part_80 : decode cX1_part 80 = .ok (.iload_n 2, 1) := by decide +kernel
theorem dX1_part_81 : decode cX1_part 81 = .ok (.bipush 63, 2) := by decide +kernel
theorem dX1_part_83 : decode cX1_part 83 = .ok (.if_icmp .eq 13, 3) := by decide +kernel
theorem dX1_part_86 : decode cX1_part 86 = .ok (.iload_n 2, 1) := by decide +kernel
theorem dX1_part_87 : decode cX1_part 87 = .ok (.bipush 46, 2) := by decide +kernel
theorem dX1_part_89 : decode cX1_part 89 = .ok (.if_icmp .ne 11, 3) := by decide +kernel
theorem dX1_part_92 : decode cX1_part 92 = .ok (.iload_n 3, 1) := by decide +kernel
theorem dX1_part_93 : decode cX1_part 93 = .ok (.ifCond .ne 7, 3) := by decide +kernel
theorem dX1_part_96 : decode cX1_part 96 = .ok (.aload_n 1, 1) := by decide +kernel
theorem dX1_part_97 : decode cX1_part 97 = .ok (.invokevirtual 66, 3) := by decide +kernel
theorem dX1_part_100 : decode cX1_part 100 = .ok (.iconst 1, 1) := by decide +kernel
theorem dX1_part_101 : decode cX1_part 101 = .ok (.ireturn, 1) := by decide +kernel
theorem dX2_init_0 : decode cX2_init 0 = .ok (.aload_n 0, 1) := by decide +kernel
theorem dX2_init_1 : decode cX2_init 1 = .ok (.invokespecial 3, 3) := by decide +kernel
theorem dX2_init_4 : decode cX2_init 4 = .ok (.aload_n 0, 1) := by decide +kernel
theorem dX2_init_5 : decode cX2_init 5 = .ok (.bipush 20, 2) := by decide +kernel
theorem dX2_init_7 : decode cX2_init 7 = .ok (.newarray .int, 2) := by decide +kernel
theorem dX2_init_9 : decode cX2_init 9 = .ok (.putfield 9, 3) := by decide +kernel
theorem dX2_init_12 : decode cX2_init 12 = .ok (.aload_n 0, 1) := by decide +kernel
theorem dX2_init_13 : decode cX2_init 13 = .ok (.bipush 20, 2) := by decide +kernel
theorem dX2_init_15 : decode cX2_init 15 = .ok (.newarray .int, 2) := by decide +kernel
theorem dX2_init_17 : decode cX2_init 17 = .ok (.putfield 15, 3) := by decide +kernel
theorem dX2_init_20 : decode cX2_init 20 = .ok (.aload_n 0, 1) := by decide +kernel
theorem dX2_init_21 : decode cX2_init 21 = .ok (.bipush 20, 2) := by decide +kernel
theorem dX2_init_23 : decode cX2_init 23 = .ok (.newarray .int, 2) := by decide +kernel
theorem dX2_init_25 : decode cX2_init 25 = .ok (.putfield 18, 3) := by decide +kernel
theorem dX2_init_28 : decode cX2_init 28 = .ok (.aload_n 0, 1) := by decide +kernel
theorem dX2_init_29 : decode cX2_init 29 = .ok (.bipush 20, 2) := by decide +kernel
theorem dX2_init_31 : decode cX2_init 31 = .ok (.newarray .int, 2) := by decide +kernel
theorem dX2_init_33 : decode cX2_init 33 = .ok (.putfield 21, 3) := by decide +kernel
theorem dX2_init_36 : decode cX2_init 36 = .ok (.aload_n 0, 1) := by decide +kernel
theorem dX2_init_37 : decode cX2_init 37 = .ok (.bipush 20, 2) := by decide +kernel
theorem dX2_init_39 : decode cX2_init 39 = .ok (.newarray .int, 2) := by decide +kernel
theorem dX2_init_41 : decode cX2_init 41 = .ok (.putfield 24, 3) := by decide +kernel
theorem dX2_init_44 : decode cX2_init 44 = .ok (.aload_n 0, 1) := by decide +kernel
theorem dX2_init_45 : decode cX2_init 45 = .ok (.bipush 20, 2) := by decide +kernel
theorem dX2_init_47 : decode cX2_init 47 = .ok (.newarray .int, 2) := by decide +kernel
theorem dX2_init_49 : decode cX2_init 49 = .ok (.putfield 27, 3) := by decide +kernel
theorem dX2_init_52 : decode cX2_init 52 = .ok (.aload_n 0, 1) := by decide +kernel
theorem dX2_init_53 : decode cX2_init 53 = .ok (.aload_n 1, 1) := by decide +kernel
theorem dX2_init_54 : decode cX2_init 54 = .ok (.putfield 30, 3) := by decide +kernel
theorem dX2_init_57 : decode cX2_init 57 = .ok (.aload_n 0, 1) := by decide +kernel
theorem dX2_init_58 : decode cX2_init 58 = .ok (.aload_n 2, 1) := by decide +kernel
theorem dX2_init_59 : decode cX2_init 59 = .ok (.putfield 34, 3) := by decide +kernel
theorem dX2_init_62 : decode cX2_init 62 = .ok (.aload_n 0, 1) := by decide +kernel
theorem dX2_init_63 : decode cX2_init 63 = .ok (.aload_n 3, 1) := by decide +kernel
theorem dX2_init_64 : decode cX2_init 64 = .ok (.putfield 38, 3) := by decide +kernel
theorem dX2_init_67 : decode cX2_init 67 = .ok (.return_, 1) := by decide +kernel
theorem dX2_gather_0 : decode cX2_gather 0 = .ok (.aload_n 0, 1) := by decide +kernel
theorem dX2_gather_1 : decode cX2_gather 1 = .ok (.getfield 34, 3) := by decide +kernel
theorem dX2_gather_4 : decode cX2_gather 4 = .ok (.getfield 42, 3) := by decide +kernel
theorem dX2_gather_7 : decode cX2_gather 7 = .ok (.iload_n 1, 1) := by decide +kernel
theorem dX2_gather_8 : decode cX2_gather 8 = .ok (.iaload, 1) := by decide +kernel
theorem dX2_gather_9 : decode cX2_gather 9 = .ok (.istore_n 2, 1) := by decide +kernel
theorem dX2_gather_10 : decode cX2_gather 10 = .ok (.aload_n 0, 1) := by decide +kernel
theorem dX2_gather_11 : decode cX2_gather 11 = .ok (.aload_n 0, 1) := by decide +kernel
theorem dX2_gather_12 : decode cX2_gather 12 = .ok (.getfield 30, 3) := by decide +kernel
theorem dX2_gather_15 : decode cX2_gather 15 = .ok (.iconst 0, 1) := by decide +kernel
theorem dX2_gather_16 : decode cX2_gather 16 = .ok (.aaload, 1) := by decide +kernel
theorem dX2_gather_17 : decode cX2_gather 17 = .ok (.aload_n 0, 1) := by decide +kernel
theorem dX2_gather_18 : decode cX2_gather 18 = .ok (.getfield 34, 3) := by decide +kernel
theorem dX2_gather_21 : decode cX2_gather 21 = .ok (.getfield 47, 3) := by decide +kernel
theorem dX2_gather_24 : decode cX2_gather 24 = .ok (.iload_n 1, 1) := by decide +kernel
theorem dX2_gather_25 : decode cX2_gather 25 = .ok (.iaload, 1) := by decide +kernel
theorem dX2_gather_26 : decode cX2_gather 26 = .ok (.getstatic 50, 3) := by decide +kernel
theorem dX2_gather_29 : decode cX2_gather 29 = .ok (.iload_n 2, 1) := by decide +kernel
theorem dX2_gather_30 : decode cX2_gather 30 = .ok (.iaload, 1) := by decide +kernel
theorem dX2_gather_31 : decode cX2_gather 31 = .ok (.aload_n 0, 1) := by decide +kernel
theorem dX2_gather_32 : decode cX2_gather 32 = .ok (.getfield 9, 3) := by decide +kernel
theorem dX2_gather_35 : decode cX2_gather 35 = .ok (.invokestatic 53, 3) := by decide +kernel
theorem dX2_gather_38 : decode cX2_gather 38 = .ok (.putfield 57, 3) := by decide +kernel
theorem dX2_gather_41 : decode cX2_gather 41 = .ok (.aload_n 0, 1) := by decide +kernel
theorem dX2_gather_42 : decode cX2_gather 42 = .ok (.aload_n 0, 1) := by decide +kernel
theorem dX2_gather_43 : decode cX2_gather 43 = .ok (.getfield 30, 3) := by decide +kernel
theorem dX2_gather_46 : decode cX2_gather 46 = .ok (.iconst 1, 1) := by decide +kernel
theorem dX2_gather_47 : decode cX2_gather 47 = .ok (.aaload, 1) := by decide +kernel
theorem dX2_gather_48 : decode cX2_gather 48 = .ok (.aload_n 0, 1) := by decide +kernel
theorem dX2_gather_49 : decode cX2_gather 49 = .ok (.getfield 34, 3) := by decide +kernel
theorem dX2_gather_52 : decode cX2_gather 52 = .ok (.getfield 61, 3) := by decide +kernel
theorem dX2_gather_55 : decode cX2_gather 55 = .ok (.iload_n 1, 1) := by decide +kernel
theorem dX2_gather_56 : decode cX2_gather 56 = .ok (.iaload, 1) := by decide +kernel
theorem dX2_gather_57 : decode cX2_gather 57 = .ok (.getstatic 64, 3) := by decide +kernel
theorem dX2_gather_60 : decode cX2_gather 60 = .ok (.iload_n 2, 1) := by decide +kernel
theorem dX2_gather_61 : decode cX2_gather 61 = .ok (.iaload, 1) := by decide +kernel
theorem dX2_gather_62 : decode cX2_gather 62 = .ok (.aload_n 0, 1) := by decide +kernel
theorem dX2_gather_63 : decode cX2_gather 63 = .ok (.getfield 15, 3) := by decide +kernel
theorem dX2_gather_66 : decode cX2_gather 66 = .ok (.invokestatic 53, 3) := by decide +kernel
theorem dX2_gather_69 : decode cX2_gather 69 = .ok (.putfield 67, 3) := by decide +kernel
theorem dX2_gather_72 : decode cX2_gather 72 = .ok (.return_, 1) := by decide +kernel
theorem dX2_gatherSide_0 : decode cX2_gatherSide 0 = .ok (.iconst 0, 1) := by decide +kernel
theorem dX2_gatherSide_1 : decode cX2_gatherSide 1 = .ok (.istore 4, 2) := by decide +kernel
theorem dX2_gatherSide_3 : decode cX2_gatherSide 3 = .ok (.iload_n 1, 1) := by decide +kernel
theorem dX2_gatherSide_4 : decode cX2_gatherSide 4 = .ok (.istore 5, 2) := by decide +kernel
theorem dX2_gatherSide_6 : decode cX2_gatherSide 6 = .ok (.iload 5, 2) := by decide +kernel
theorem dX2_gatherSide_8 : decode cX2_gatherSide 8 = .ok (.iload_n 1, 1) := by decide +kernel
theorem dX2_gatherSide_9 : decode cX2_gatherSide 9 = .ok (.iload_n 2, 1) := by decide +kernel
theorem dX2_gatherSide_10 : decode cX2_gatherSide 10 = .ok (.iadd, 1) := by decide +kernel
theorem dX2_gatherSide_11 : decode cX2_gatherSide 11 = .ok (.if_icmp .ge 54, 3) := by decide +kernel
theorem dX2_gatherSide_14 : decode cX2_gatherSide 14 = .ok (.iconst 0, 1) := by decide +kernel
theorem dX2_gatherSide_15 : decode cX2_gatherSide 15 = .ok (.istore 6, 2) := by decide +kernel
theorem dX2_gatherSide_17 : decode cX2_gatherSide 17 = .ok (.iload 6, 2) := by decide +kernel
theorem dX2_gatherSide_19 : decode cX2_gatherSide 19 = .ok (.aload_n 0, 1) := by decide +kernel
theorem dX2_gatherSide_20 : decode cX2_gatherSide 20 = .ok (.getfield 70, 3) := by decide +kernel
theorem dX2_gatherSide_23 : decode cX2_gatherSide 23 = .ok (.iload 5, 2) := by decide +kernel
theorem dX2_gatherSide_25 : decode cX2_gatherSide 25 = .ok (.iaload, 1) := by decide +kernel
theorem dX2_gatherSide_26 : decode cX2_gatherSide 26 = .ok (.if_icmp .ge 33, 3) := by decide +kernel
theorem dX2_gatherSide_29 : decode cX2_gatherSide 29 = .ok (.iload 4, 2) := by decide +kernel
theorem dX2_gatherSide_31 : decode cX2_gatherSide 31 = .ok (.bipush 20, 2) := by decide +kernel
theorem dX2_gatherSide_33 : decode cX2_gatherSide 33 = .ok (.if_icmp .ge 26, 3) := by decide +kernel
theorem dX2_gatherSide_36 : decode cX2_gatherSide 36 = .ok (.aload_n 3, 1) := by decide +kernel
theorem dX2_gatherSide_37 : decode cX2_gatherSide 37 = .ok (.iload 4, 2) := by decide +kernel
theorem dX2_gatherSide_39 : decode cX2_gatherSide 39 = .ok (.aload_n 0, 1) := by decide +kernel
theorem dX2_gatherSide_40 : decode cX2_gatherSide 40 = .ok (.getfield 75, 3) := by decide +kernel
theorem dX2_gatherSide_43 : decode cX2_gatherSide 43 = .ok (.iload 5, 2) := by decide +kernel
theorem dX2_gatherSide_45 : decode cX2_gatherSide 45 = .ok (.aaload, 1) := by decide +kernel
theorem dX2_gatherSide_46 : decode cX2_gatherSide 46 = .ok (.iload 6, 2) := by decide +kernel
theorem dX2_gatherSide_48 : decode cX2_gatherSide 48 = .ok (.iaload, 1) := by decide +kernel
theorem dX2_gatherSide_49 : decode cX2_gatherSide 49 = .ok (.iastore, 1) := by decide +kernel
theorem dX2_gatherSide_50 : decode cX2_gatherSide 50 = .ok (.iinc 4 1, 3) := by decide +kernel
theorem dX2_gatherSide_53 : decode cX2_gatherSide 53 = .ok (.iinc 6 1, 3) := by decide +kernel
theorem dX2_gatherSide_56 : decode cX2_gatherSide 56 = .ok (.goto (-39), 3) := by decide +kernel
theorem dX2_gatherSide_59 : decode cX2_gatherSide 59 = .ok (.iinc 5 1, 3) := by decide +kernel
theorem dX2_gatherSide_62 : decode cX2_gatherSide 62 = .ok (.goto (-56), 3) := by decide +kernel
theorem dX2_gatherSide_65 : decode cX2_gatherSide 65 = .ok (.iload 4, 2) := by decide +kernel
theorem dX2_gatherSide_67 : decode cX2_gatherSide 67 = .ok (.ireturn, 1) := by decide +kernel
theorem dX2_hasLeft_0 : decode cX2_hasLeft 0 = .ok (.iload_n 1, 1) := by decide +kernel
theorem dX2_hasLeft_1 : decode cX2_hasLeft 1 = .ok (.ifCond .lt 15, 3) := by decide +kernel
theorem dX2_hasLeft_4 : decode cX2_hasLeft 4 = .ok (.iload_n 1, 1) := by decide +kernel
theorem dX2_hasLeft_5 : decode cX2_hasLeft 5 = .ok (.aload_n 0, 1) := by decide +kernel
theorem dX2_hasLeft_6 : decode cX2_hasLeft 6 = .ok (.getfield 57, 3) := by decide +kernel
theorem dX2_hasLeft_9 : decode cX2_hasLeft 9 = .ok (.if_icmp .ge 7, 3) := by decide +kernel
theorem dX2_hasLeft_12 : decode cX2_hasLeft 12 = .ok (.iconst 1, 1) := by decide +kernel
theorem dX2_hasLeft_13 : decode cX2_hasLeft 13 = .ok (.goto 4, 3) := by decide +kernel
theorem dX2_hasLeft_16 : decode cX2_hasLeft 16 = .ok (.iconst 0, 1) := by decide +kernel
theorem dX2_hasLeft_17 : decode cX2_hasLeft 17 = .ok (.ireturn, 1) := by decide +kernel
theorem dX2_hasRight_0 : decode cX2_hasRight 0 = .ok (.iload_n 1, 1) := by decide +kernel
theorem dX2_hasRight_1 : decode cX2_hasRight 1 = .ok (.ifCond .lt 15, 3) := by decide +kernel
theorem dX2_hasRight_4 : decode cX2_hasRight 4 = .ok (.iload_n 1, 1) := by decide +kernel
theorem dX2_hasRight_5 : decode cX2_hasRight 5 = .ok (.aload_n 0, 1) := by decide +kernel
theorem dX2_hasRight_6 : decode cX2_hasRight 6 = .ok (.getfield 67, 3) := by decide +kernel
theorem dX2_hasRight_9 : decode cX2_hasRight 9 = .ok (.if_icmp .ge 7, 3) := by decide +kernel
theorem dX2_hasRight_12 : decode cX2_hasRight 12 = .ok (.iconst 1, 1) := by decide +kernel
theorem dX2_hasRight_13 : decode cX2_hasRight 13 = .ok (.goto 4, 3) := by decide +kernel
theorem dX2_hasRight_16 : decode cX2_hasRight 16 = .ok (.iconst 0, 1) := by decide +kernel
theorem dX2_hasRight_17 : decode cX2_hasRight 17 = .ok (.ireturn, 1) := by decide +kernel
theorem dX2_work_0 : decode cX2_work 0 = .ok (.iconst 0, 1) := by decide +kernel
theorem dX2_work_1 : decode cX2_work 1 = .ok (.istore_n 1, 1) := by decide +kernel
theorem dX2_work_2 : decode cX2_work 2 = .ok (.iload_n 1, 1) := by decide +kernel
theorem dX2_work_3 : decode cX2_work 3 = .ok (.aload_n 0, 1) := by decide +kernel
theorem dX2_work_4 : decode cX2_work 4 = .ok (.getfield 57, 3) := by decide +kernel
theorem dX2_work_7 : decode cX2_work 7 = .ok (.if_icmp .ge 27, 3) := by decide +kernel
theorem dX2_work_10 : decode cX2_work 10 = .ok (.aload_n 0, 1) := by decide +kernel
theorem dX2_work_11 : decode cX2_work 11 = .ok (.getfield 18, 3) := by decide +kernel
theorem dX2_work_14 : decode cX2_work 14 = .ok (.iload_n 1, 1) := by decide +kernel
theorem dX2_work_15 : decode cX2_work 15 = .ok (.aload_n 0, 1) := by decide +kernel
theorem dX2_work_16 : decode cX2_work 16 = .ok (.iload_n 1, 1) := by decide +kernel
theorem dX2_work_17 : decode cX2_work 17 = .ok (.invokevirtual 79, 3) := by decide +kernel
theorem dX2_work_20 : decode cX2_work 20 = .ok (.iastore, 1) := by decide +kernel
theorem dX2_work_21 : decode cX2_work 21 = .ok (.aload_n 0, 1) := by decide +kernel
theorem dX2_work_22 : decode cX2_work 22 = .ok (.getfield 24, 3) := by decide +kernel
theorem dX2_work_25 : decode cX2_work 25 = .ok (.iload_n 1, 1) := by decide +kernel
theorem dX2_work_26 : decode cX2_work 26 = .ok (.iconst 0, 1) := by decide +kernel
theorem dX2_work_27 : decode cX2_work 27 = .ok (.iastore, 1) := by decide +kernel
theorem dX2_work_28 : decode cX2_work 28 = .ok (.iinc 1 1, 3) := by decide +kernel
theorem dX2_work_31 : decode cX2_work 31 = .ok (.goto (-29), 3) := by decide +kernel
theorem dX2_work_34 : decode cX2_work 34 = .ok (.iconst 0, 1) := by decide +kernel
theorem dX2_work_35 : decode cX2_work 35 = .ok (.istore_n 1, 1) := by decide +kernel
theorem dX2_work_36 : decode cX2_work 36 = .ok (.iload_n 1, 1) := by decide +kernel
theorem dX2_work_37 : decode cX2_work 37 = .ok (.aload_n 0, 1) := by decide +kernel
theorem dX2_work_38 : decode cX2_work 38 = .ok (.getfield 67, 3) := by decide +kernel
theorem dX2_work_41 : decode cX2_work 41 = .ok (.if_icmp .ge 27, 3) := by decide +kernel
theorem dX2_work_44 : decode cX2_work 44 = .ok (.aload_n 0, 1) := by decide +kernel
theorem dX2_work_45 : decode cX2_work 45 = .ok (.getfield 21, 3) := by decide +kernel
theorem dX2_work_48 : decode cX2_work 48 = .ok (.iload_n 1, 1) := by decide +kernel
theorem dX2_work_49 : decode cX2_work 49 = .ok (.aload_n 0, 1) := by decide +kernel
theorem dX2_work_50 : decode cX2_work 50 = .ok (.iload_n 1, 1) := by decide +kernel
theorem dX2_work_51 : decode cX2_work 51 = .ok (.invokevirtual 83, 3) := by decide +kernel
theorem dX2_work_54 : decode cX2_work 54 = .ok (.iastore, 1) := by decide +kernel
theorem dX2_work_55 : decode cX2_work 55 = .ok (.aload_n 0, 1) := by decide +kernel
theorem dX2_work_56 : decode cX2_work 56 = .ok (.getfield 27, 3) := by decide +kernel
theorem dX2_work_59 : decode cX2_work 59 = .ok (.iload_n 1, 1) := by decide +kernel
theorem dX2_work_60 : decode cX2_work 60 = .ok (.iconst 0, 1) := by decide +kernel
theorem dX2_work_61 : decode cX2_work 61 = .ok (.iastore, 1) := by decide +kernel
theorem dX2_work_62 : decode cX2_work 62 = .ok (.iinc 1 1, 3) := by decide +kernel
theorem dX2_work_65 : decode cX2_work 65 = .ok (.goto (-29), 3) := by decide +kernel
theorem dX2_work_68 : decode cX2_work 68 = .ok (.aload_n 0, 1) := by decide +kernel
theorem dX2_work_69 : decode cX2_work 69 = .ok (.invokevirtual 86, 3) := by decide +kernel
theorem dX2_work_72 : decode cX2_work 72 = .ok (.iconst 1, 1) := by decide +kernel
theorem dX2_work_73 : decode cX2_work 73 = .ok (.istore_n 1, 1) := by decide +kernel
theorem dX2_work_74 : decode cX2_work 74 = .ok (.iconst 0, 1) := by decide +kernel
theorem dX2_work_75 : decode cX2_work 75 = .ok (.istore_n 2, 1) := by decide +kernel
theorem dX2_work_76 : decode cX2_work 76 = .ok (.iload_n 1, 1) := by decide +kernel
theorem dX2_work_77 : decode cX2_work 77 = .ok (.ifCond .eq 21, 3) := by decide +kernel
theorem dX2_work_80 : decode cX2_work 80 = .ok (.iload_n 2, 1) := by decide +kernel
theorem dX2_work_81 : decode cX2_work 81 = .ok (.sipush 400, 3) := by decide +kernel
theorem dX2_work_84 : decode cX2_work 84 = .ok (.if_icmp .ge 14, 3) := by decide +kernel
theorem dX2_work_87 : decode cX2_work 87 = .ok (.aload_n 0, 1) := by decide +kernel
theorem dX2_work_88 : decode cX2_work 88 = .ok (.invokevirtual 89, 3) := by decide +kernel
theorem dX2_work_91 : decode cX2_work 91 = .ok (.istore_n 1, 1) := by decide +kernel
theorem dX2_work_92 : decode cX2_work 92 = .ok (.iinc 2 1, 3) := by decide +kernel
theorem dX2_work_95 : decode cX2_work 95 = .ok (.goto (-19), 3) := by decide +kernel
theorem dX2_work_98 : decode cX2_work 98 = .ok (.return_, 1) := by decide +kernel
theorem dX2_leadFromLeft_0 : decode cX2_leadFromLeft 0 = .ok (.iconst (-1), 1) := by decide +kernel
theorem dX2_leadFromLeft_1 : decode cX2_leadFromLeft 1 = .ok (.istore_n 2, 1) := by decide +kernel
theorem dX2_leadFromLeft_2 : decode cX2_leadFromLeft 2 = .ok (.aload_n 0, 1) := by decide +kernel
theorem dX2_leadFromLeft_3 : decode cX2_leadFromLeft 3 = .ok (.getfield 38, 3) := by decide +kernel
theorem dX2_leadFromLeft_6 : decode cX2_leadFromLeft 6 = .ok (.getfield 93, 3) := by decide +kernel
theorem dX2_leadFromLeft_9 : decode cX2_leadFromLeft 9 = .ok (.aload_n 0, 1) := by decide +kernel
theorem dX2_leadFromLeft_10 : decode cX2_leadFromLeft 10 = .ok (.getfield 9, 3) := by decide +kernel
theorem dX2_leadFromLeft_13 : decode cX2_leadFromLeft 13 = .ok (.iload_n 1, 1) := by decide +kernel
theorem dX2_leadFromLeft_14 : decode cX2_leadFromLeft 14 = .ok (.iaload, 1) := by decide +kernel
theorem dX2_leadFromLeft_15 : decode cX2_leadFromLeft 15 = .ok (.aaload, 1) := by decide +kernel
theorem dX2_leadFromLeft_16 : decode cX2_leadFromLeft 16 = .ok (.bipush 40, 2) := by decide +kernel
theorem dX2_leadFromLeft_18 : decode cX2_leadFromLeft 18 = .ok (.iaload, 1) := by decide +kernel
theorem dX2_leadFromLeft_19 : decode cX2_leadFromLeft 19 = .ok (.istore_n 3, 1) := by decide +kernel
theorem dX2_leadFromLeft_20 : decode cX2_leadFromLeft 20 = .ok (.iconst 0, 1) := by decide +kernel
theorem dX2_leadFromLeft_21 : decode cX2_leadFromLeft 21 = .ok (.istore 4, 2) := by decide +kernel
theorem dX2_leadFromLeft_23 : decode cX2_leadFromLeft 23 = .ok (.iload 4, 2) := by decide +kernel
theorem dX2_leadFromLeft_25 : decode cX2_leadFromLeft 25 = .ok (.aload_n 0, 1) := by decide +kernel
theorem dX2_leadFromLeft_26 : decode cX2_leadFromLeft 26 = .ok (.getfield 67, 3) := by decide +kernel
theorem dX2_leadFromLeft_29 : decode cX2_leadFromLeft 29 = .ok (.if_icmp .ge 66, 3) := by decide +kernel
theorem dX2_leadFromLeft_32 : decode cX2_leadFromLeft 32 = .ok (.aload_n 0, 1) := by decide +kernel
theorem dX2_leadFromLeft_33 : decode cX2_leadFromLeft 33 = .ok (.getfield 38, 3) := by decide +kernel
theorem dX2_leadFromLeft_36 : decode cX2_leadFromLeft 36 = .ok (.getfield 93, 3) := by decide +kernel
theorem dX2_leadFromLeft_39 : decode cX2_leadFromLeft 39 = .ok (.aload_n 0, 1) := by decide +kernel
theorem dX2_leadFromLeft_40 : decode cX2_leadFromLeft 40 = .ok (.getfield 9, 3) := by decide +kernel
theorem dX2_leadFromLeft_43 : decode cX2_leadFromLeft 43 = .ok (.iload_n 1, 1) := by decide +kernel
theorem dX2_leadFromLeft_44 : decode cX2_leadFromLeft 44 = .ok (.iaload, 1) := by decide +kernel
theorem dX2_leadFromLeft_45 : decode cX2_leadFromLeft 45 = .ok (.aaload, 1) := by decide +kernel
theorem dX2_leadFromLeft_46 : decode cX2_leadFromLeft 46 = .ok (.aload_n 0, 1) := by decide +kernel
theorem dX2_leadFromLeft_47 : decode cX2_leadFromLeft 47 = .ok (.getfield 15, 3) := by decide +kernel
theorem dX2_leadFromLeft_50 : decode cX2_leadFromLeft 50 = .ok (.iload 4, 2) := by decide +kernel
theorem dX2_leadFromLeft_52 : decode cX2_leadFromLeft 52 = .ok (.iaload, 1) := by decide +kernel
theorem dX2_leadFromLeft_53 : decode cX2_leadFromLeft 53 = .ok (.iaload, 1) := by decide +kernel
theorem dX2_leadFromLeft_54 : decode cX2_leadFromLeft 54 = .ok (.istore 5, 2) := by decide +kernel
theorem dX2_leadFromLeft_56 : decode cX2_leadFromLeft 56 = .ok (.iload 5, 2) := by decide +kernel
theorem dX2_leadFromLeft_58 : decode cX2_leadFromLeft 58 = .ok (.iload_n 3, 1) := by decide +kernel
theorem dX2_leadFromLeft_59 : decode cX2_leadFromLeft 59 = .ok (.if_icmp .gt 24, 3) := by decide +kernel
theorem dX2_leadFromLeft_62 : decode cX2_leadFromLeft 62 = .ok (.iload_n 2, 1) := by decide +kernel
theorem dX2_leadFromLeft_63 : decode cX2_leadFromLeft 63 = .ok (.iconst (-1), 1) := by decide +kernel
theorem dX2_leadFromLeft_64 : decode cX2_leadFromLeft 64 = .ok (.if_icmp .eq 25, 3) := by decide +kernel
theorem dX2_leadFromLeft_67 : decode cX2_leadFromLeft 67 = .ok (.iload 5, 2) := by decide +kernel
theorem dX2_leadFromLeft_69 : decode cX2_leadFromLeft 69 = .ok (.iload_n 3, 1) := by decide +kernel
theorem dX2_leadFromLeft_70 : decode cX2_leadFromLeft 70 = .ok (.if_icmp .ne 19, 3) := by decide +kernel
theorem dX2_leadFromLeft_73 : decode cX2_leadFromLeft 73 = .ok (.iload_n 1, 1) := by decide +kernel
theorem dX2_leadFromLeft_74 : decode cX2_leadFromLeft 74 = .ok (.iload 4, 2) := by decide +kernel
theorem dX2_leadFromLeft_76 : decode cX2_leadFromLeft 76 = .ok (.iload_n 2, 1) := by decide +kernel
theorem dX2_leadFromLeft_77 : decode cX2_leadFromLeft 77 = .ok (.invokestatic 98, 3) := by decide +kernel
theorem dX2_leadFromLeft_80 : decode cX2_leadFromLeft 80 = .ok (.ifCond .eq 9, 3) := by decide +kernel
theorem dX2_leadFromLeft_83 : decode cX2_leadFromLeft 83 = .ok (.iload 5, 2) := by decide +kernel
theorem dX2_leadFromLeft_85 : decode cX2_leadFromLeft 85 = .ok (.istore_n 3, 1) := by decide +kernel
theorem dX2_leadFromLeft_86 : decode cX2_leadFromLeft 86 = .ok (.iload 4, 2) := by decide +kernel
theorem dX2_leadFromLeft_88 : decode cX2_leadFromLeft 88 = .ok (.istore_n 2, 1) := by decide +kernel
theorem dX2_leadFromLeft_89 : decode cX2_leadFromLeft 89 = .ok (.iinc 4 1, 3) := by decide +kernel
theorem dX2_leadFromLeft_92 : decode cX2_leadFromLeft 92 = .ok (.goto (-69), 3) := by decide +kernel
theorem dX2_leadFromLeft_95 : decode cX2_leadFromLeft 95 = .ok (.iload_n 2, 1) := by decide +kernel
theorem dX2_leadFromLeft_96 : decode cX2_leadFromLeft 96 = .ok (.ireturn, 1) := by decide +kernel
theorem dX2_leadFromRight_0 : decode cX2_leadFromRight 0 = .ok (.iconst (-1), 1) := by decide +kernel
theorem dX2_leadFromRight_1 : decode cX2_leadFromRight 1 = .ok (.istore_n 2, 1) := by decide +kernel
theorem dX2_leadFromRight_2 : decode cX2_leadFromRight 2 = .ok (.iconst 0, 1) := by decide +kernel
theorem dX2_leadFromRight_3 : decode cX2_leadFromRight 3 = .ok (.istore_n 3, 1) := by decide +kernel
theorem dX2_leadFromRight_4 : decode cX2_leadFromRight 4 = .ok (.iconst 0, 1) := by decide +kernel
theorem dX2_leadFromRight_5 : decode cX2_leadFromRight 5 = .ok (.istore 4, 2) := by decide +kernel
theorem dX2_leadFromRight_7 : decode cX2_leadFromRight 7 = .ok (.iload 4, 2) := by decide +kernel
theorem dX2_leadFromRight_9 : decode cX2_leadFromRight 9 = .ok (.aload_n 0, 1) := by decide +kernel
theorem dX2_leadFromRight_10 : decode cX2_leadFromRight 10 = .ok (.getfield 57, 3) := by decide +kernel
theorem dX2_leadFromRight_13 : decode cX2_leadFromRight 13 = .ok (.if_icmp .ge 66, 3) := by decide +kernel
theorem dX2_leadFromRight_16 : decode cX2_leadFromRight 16 = .ok (.aload_n 0, 1) := by decide +kernel
theorem dX2_leadFromRight_17 : decode cX2_leadFromRight 17 = .ok (.getfield 38, 3) := by decide +kernel
theorem dX2_leadFromRight_20 : decode cX2_leadFromRight 20 = .ok (.getfield 93, 3) := by decide +kernel
theorem dX2_leadFromRight_23 : decode cX2_leadFromRight 23 = .ok (.aload_n 0, 1) := by decide +kernel
theorem dX2_leadFromRight_24 : decode cX2_leadFromRight 24 = .ok (.getfield 9, 3) := by decide +kernel
theorem dX2_leadFromRight_27 : decode cX2_leadFromRight 27 = .ok (.iload 4, 2) := by decide +kernel
theorem dX2_leadFromRight_29 : decode cX2_leadFromRight 29 = .ok (.iaload, 1) := by decide +kernel
theorem dX2_leadFromRight_30 : decode cX2_leadFromRight 30 = .ok (.aaload, 1) := by decide +kernel
theorem dX2_leadFromRight_31 : decode cX2_leadFromRight 31 = .ok (.aload_n 0, 1) := by decide +kernel
theorem dX2_leadFromRight_32 : decode cX2_leadFromRight 32 = .ok (.getfield 15, 3) := by decide +kernel
theorem dX2_leadFromRight_35 : decode cX2_leadFromRight 35 = .ok (.iload_n 1, 1) := by decide +kernel
theorem dX2_leadFromRight_36 : decode cX2_leadFromRight 36 = .ok (.iaload, 1) := by decide +kernel
theorem dX2_leadFromRight_37 : decode cX2_leadFromRight 37 = .ok (.iaload, 1) := by decide +kernel
theorem dX2_leadFromRight_38 : decode cX2_leadFromRight 38 = .ok (.istore 5, 2) := by decide +kernel
theorem dX2_leadFromRight_40 : decode cX2_leadFromRight 40 = .ok (.iload 5, 2) := by decide +kernel
theorem dX2_leadFromRight_42 : decode cX2_leadFromRight 42 = .ok (.iload_n 3, 1) := by decide +kernel
theorem dX2_leadFromRight_43 : decode cX2_leadFromRight 43 = .ok (.if_icmp .gt 24, 3) := by decide +kernel
theorem dX2_leadFromRight_46 : decode cX2_leadFromRight 46 = .ok (.iload_n 2, 1) := by decide +kernel
theorem dX2_leadFromRight_47 : decode cX2_leadFromRight 47 = .ok (.iconst (-1), 1) := by decide +kernel
theorem dX2_leadFromRight_48 : decode cX2_leadFromRight 48 = .ok (.if_icmp .eq 25, 3) := by decide +kernel
theorem dX2_leadFromRight_51 : decode cX2_leadFromRight 51 = .ok (.iload 5, 2) := by decide +kernel
theorem dX2_leadFromRight_53 : decode cX2_leadFromRight 53 = .ok (.iload_n 3, 1) := by decide +kernel
theorem dX2_leadFromRight_54 : decode cX2_leadFromRight 54 = .ok (.if_icmp .ne 19, 3) := by decide +kernel
theorem dX2_leadFromRight_57 : decode cX2_leadFromRight 57 = .ok (.iload_n 1, 1) := by decide +kernel
theorem dX2_leadFromRight_58 : decode cX2_leadFromRight 58 = .ok (.iload 4, 2) := by decide +kernel
theorem dX2_leadFromRight_60 : decode cX2_leadFromRight 60 = .ok (.iload_n 2, 1) := by decide +kernel
theorem dX2_leadFromRight_61 : decode cX2_leadFromRight 61 = .ok (.invokestatic 98, 3) := by decide +kernel
theorem dX2_leadFromRight_64 : decode cX2_leadFromRight 64 = .ok (.ifCond .eq 9, 3) := by decide +kernel
theorem dX2_leadFromRight_67 : decode cX2_leadFromRight 67 = .ok (.iload 5, 2) := by decide +kernel
theorem dX2_leadFromRight_69 : decode cX2_leadFromRight 69 = .ok (.istore_n 3, 1) := by decide +kernel
theorem dX2_leadFromRight_70 : decode cX2_leadFromRight 70 = .ok (.iload 4, 2) := by decide +kernel
theorem dX2_leadFromRight_72 : decode cX2_leadFromRight 72 = .ok (.istore_n 2, 1) := by decide +kernel
theorem dX2_leadFromRight_73 : decode cX2_leadFromRight 73 = .ok (.iinc 4 1, 3) := by decide +kernel
theorem dX2_leadFromRight_76 : decode cX2_leadFromRight 76 = .ok (.goto (-69), 3) := by decide +kernel
theorem dX2_leadFromRight_79 : decode cX2_leadFromRight 79 = .ok (.iload_n 2, 1) := by decide +kernel
theorem dX2_leadFromRight_80 : decode cX2_leadFromRight 80 = .ok (.ireturn, 1) := by decide +kernel
theorem dX2_isNearer_0 : decode cX2_isNearer 0 = .ok (.iload_n 0, 1) := by decide +kernel
theorem dX2_isNearer_1 : decode cX2_isNearer 1 = .ok (.iload_n 1, 1) := by decide +kernel
theorem dX2_isNearer_2 : decode cX2_isNearer 2 = .ok (.isub, 1) := by decide +kernel
theorem dX2_isNearer_3 : decode cX2_isNearer 3 = .ok (.invokestatic 102, 3) := by decide +kernel
theorem dX2_isNearer_6 : decode cX2_isNearer 6 = .ok (.iload_n 0, 1) := by decide +kernel
theorem dX2_isNearer_7 : decode cX2_isNearer 7 = .ok (.iload_n 2, 1) := by decide +kernel
theorem dX2_isNearer_8 : decode cX2_isNearer 8 = .ok (.isub, 1) := by decide +kernel
theorem dX2_isNearer_9 : decode cX2_isNearer 9 = .ok (.invokestatic 102, 3) := by decide +kernel
theorem dX2_isNearer_12 : decode cX2_isNearer 12 = .ok (.if_icmp .ge 7, 3) := by decide +kernel
theorem dX2_isNearer_15 : decode cX2_isNearer 15 = .ok (.iconst 1, 1) := by decide +kernel
theorem dX2_isNearer_16 : decode cX2_isNearer 16 = .ok (.goto 4, 3) := by decide +kernel
theorem dX2_isNearer_19 : decode cX2_isNearer 19 = .ok (.iconst 0, 1) := by decide +kernel
theorem dX2_isNearer_20 : decode cX2_isNearer 20 = .ok (.ireturn, 1) := by decide +kernel
theorem dX2_isBoth_0 : decode cX2_isBoth 0 = .ok (.aload_n 0, 1) := by decide +kernel
theorem dX2_isBoth_1 : decode cX2_isBoth 1 = .ok (.getfield 18, 3) := by decide +kernel
theorem dX2_isBoth_4 : decode cX2_isBoth 4 = .ok (.iload_n 1, 1) := by decide +kernel
theorem dX2_isBoth_5 : decode cX2_isBoth 5 = .ok (.iaload, 1) := by decide +kernel
theorem dX2_isBoth_6 : decode cX2_isBoth 6 = .ok (.iload_n 2, 1) := by decide +kernel
theorem dX2_isBoth_7 : decode cX2_isBoth 7 = .ok (.if_icmp .ne 17, 3) := by decide +kernel
theorem dX2_isBoth_10 : decode cX2_isBoth 10 = .ok (.aload_n 0, 1) := by decide +kernel
theorem dX2_isBoth_11 : decode cX2_isBoth 11 = .ok (.getfield 21, 3) := by decide +kernel
theorem dX2_isBoth_14 : decode cX2_isBoth 14 = .ok (.iload_n 2, 1) := by decide +kernel
theorem dX2_isBoth_15 : decode cX2_isBoth 15 = .ok (.iaload, 1) := by decide +kernel
theorem dX2_isBoth_16 : decode cX2_isBoth 16 = .ok (.iload_n 1, 1) := by decide +kernel
theorem dX2_isBoth_17 : decode cX2_isBoth 17 = .ok (.if_icmp .ne 7, 3) := by decide +kernel
theorem dX2_isBoth_20 : decode cX2_isBoth 20 = .ok (.iconst 1, 1) := by decide +kernel
theorem dX2_isBoth_21 : decode cX2_isBoth 21 = .ok (.goto 4, 3) := by decide +kernel
theorem dX2_isBoth_24 : decode cX2_isBoth 24 = .ok (.iconst 0, 1) := by decide +kernel
theorem dX2_isBoth_25 : decode cX2_isBoth 25 = .ok (.ireturn, 1) := by decide +kernel
theorem dX2_isGrown_0 : decode cX2_isGrown 0 = .ok (.aload_n 0, 1) := by decide +kernel
theorem dX2_isGrown_1 : decode cX2_isGrown 1 = .ok (.getfield 24, 3) := by decide +kernel
theorem dX2_isGrown_4 : decode cX2_isGrown 4 = .ok (.iload_n 1, 1) := by decide +kernel
theorem dX2_isGrown_5 : decode cX2_isGrown 5 = .ok (.iaload, 1) := by decide +kernel
theorem dX2_isGrown_6 : decode cX2_isGrown 6 = .ok (.iload_n 2, 1) := by decide +kernel
theorem dX2_isGrown_7 : decode cX2_isGrown 7 = .ok (.iushr, 1) := by decide +kernel
theorem dX2_isGrown_8 : decode cX2_isGrown 8 = .ok (.iconst 1, 1) := by decide +kernel
theorem dX2_isGrown_9 : decode cX2_isGrown 9 = .ok (.iand, 1) := by decide +kernel
theorem dX2_isGrown_10 : decode cX2_isGrown 10 = .ok (.ifCond .eq 7, 3) := by decide +kernel
theorem dX2_isGrown_13 : decode cX2_isGrown 13 = .ok (.iconst 1, 1) := by decide +kernel
theorem dX2_isGrown_14 : decode cX2_isGrown 14 = .ok (.goto 4, 3) := by decide +kernel
theorem dX2_isGrown_17 : decode cX2_isGrown 17 = .ok (.iconst 0, 1) := by decide +kernel
theorem dX2_isGrown_18 : decode cX2_isGrown 18 = .ok (.ireturn, 1) := by decide +kernel
theorem dX2_addGrown_0 : decode cX2_addGrown 0 = .ok (.aload_n 0, 1) := by decide +kernel
theorem dX2_addGrown_1 : decode cX2_addGrown 1 = .ok (.getfield 24, 3) := by decide +kernel
theorem dX2_addGrown_4 : decode cX2_addGrown 4 = .ok (.iload_n 1, 1) := by decide +kernel
theorem dX2_addGrown_5 : decode cX2_addGrown 5 = .ok (.dup2, 1) := by decide +kernel
theorem dX2_addGrown_6 : decode cX2_addGrown 6 = .ok (.iaload, 1) := by decide +kernel
theorem dX2_addGrown_7 : decode cX2_addGrown 7 = .ok (.iconst 1, 1) := by decide +kernel
theorem dX2_addGrown_8 : decode cX2_addGrown 8 = .ok (.iload_n 2, 1) := by decide +kernel
theorem dX2_addGrown_9 : decode cX2_addGrown 9 = .ok (.ishl, 1) := by decide +kernel
theorem dX2_addGrown_10 : decode cX2_addGrown 10 = .ok (.ior, 1) := by decide +kernel
theorem dX2_addGrown_11 : decode cX2_addGrown 11 = .ok (.iastore, 1) := by decide +kernel
theorem dX2_addGrown_12 : decode cX2_addGrown 12 = .ok (.aload_n 0, 1) := by decide +kernel
theorem dX2_addGrown_13 : decode cX2_addGrown 13 = .ok (.getfield 27, 3) := by decide +kernel
theorem dX2_addGrown_16 : decode cX2_addGrown 16 = .ok (.iload_n 2, 1) := by decide +kernel
theorem dX2_addGrown_17 : decode cX2_addGrown 17 = .ok (.dup2, 1) := by decide +kernel
theorem dX2_addGrown_18 : decode cX2_addGrown 18 = .ok (.iaload, 1) := by decide +kernel
theorem dX2_addGrown_19 : decode cX2_addGrown 19 = .ok (.iconst 1, 1) := by decide +kernel
theorem dX2_addGrown_20 : decode cX2_addGrown 20 = .ok (.iload_n 1, 1) := by decide +kernel
theorem dX2_addGrown_21 : decode cX2_addGrown 21 = .ok (.ishl, 1) := by decide +kernel
theorem dX2_addGrown_22 : decode cX2_addGrown 22 = .ok (.ior, 1) := by decide +kernel
theorem dX2_addGrown_23 : decode cX2_addGrown 23 = .ok (.iastore, 1) := by decide +kernel
theorem dX2_addGrown_24 : decode cX2_addGrown 24 = .ok (.return_, 1) := by decide +kernel
theorem dX2_growBoth_0 : decode cX2_growBoth 0 = .ok (.iconst 0, 1) := by decide +kernel
theorem dX2_growBoth_1 : decode cX2_growBoth 1 = .ok (.istore_n 1, 1) := by decide +kernel
theorem dX2_growBoth_2 : decode cX2_growBoth 2 = .ok (.iload_n 1, 1) := by decide +kernel
theorem dX2_growBoth_3 : decode cX2_growBoth 3 = .ok (.aload_n 0, 1) := by decide +kernel
theorem dX2_growBoth_4 : decode cX2_growBoth 4 = .ok (.getfield 57, 3) := by decide +kernel
theorem dX2_growBoth_7 : decode cX2_growBoth 7 = .ok (.if_icmp .ge 36, 3) := by decide +kernel
theorem dX2_growBoth_10 : decode cX2_growBoth 10 = .ok (.aload_n 0, 1) := by decide +kernel
theorem dX2_growBoth_11 : decode cX2_growBoth 11 = .ok (.getfield 18, 3) := by decide +kernel
theorem dX2_growBoth_14 : decode cX2_growBoth 14 = .ok (.iload_n 1, 1) := by decide +kernel
theorem dX2_growBoth_15 : decode cX2_growBoth 15 = .ok (.iaload, 1) := by decide +kernel
theorem dX2_growBoth_16 : decode cX2_growBoth 16 = .ok (.istore_n 2, 1) := by decide +kernel
theorem dX2_growBoth_17 : decode cX2_growBoth 17 = .ok (.iload_n 2, 1) := by decide +kernel
theorem dX2_growBoth_18 : decode cX2_growBoth 18 = .ok (.iconst (-1), 1) := by decide +kernel
theorem dX2_growBoth_19 : decode cX2_growBoth 19 = .ok (.if_icmp .eq 18, 3) := by decide +kernel
theorem dX2_growBoth_22 : decode cX2_growBoth 22 = .ok (.aload_n 0, 1) := by decide +kernel
theorem dX2_growBoth_23 : decode cX2_growBoth 23 = .ok (.iload_n 1, 1) := by decide +kernel
theorem dX2_growBoth_24 : decode cX2_growBoth 24 = .ok (.iload_n 2, 1) := by decide +kernel
theorem dX2_growBoth_25 : decode cX2_growBoth 25 = .ok (.invokevirtual 107, 3) := by decide +kernel
theorem dX2_growBoth_28 : decode cX2_growBoth 28 = .ok (.ifCond .eq 9, 3) := by decide +kernel
theorem dX2_growBoth_31 : decode cX2_growBoth 31 = .ok (.aload_n 0, 1) := by decide +kernel
theorem dX2_growBoth_32 : decode cX2_growBoth 32 = .ok (.iload_n 1, 1) := by decide +kernel
theorem dX2_growBoth_33 : decode cX2_growBoth 33 = .ok (.iload_n 2, 1) := by decide +kernel
theorem dX2_growBoth_34 : decode cX2_growBoth 34 = .ok (.invokevirtual 111, 3) := by decide +kernel
theorem dX2_growBoth_37 : decode cX2_growBoth 37 = .ok (.iinc 1 1, 3) := by decide +kernel
theorem dX2_growBoth_40 : decode cX2_growBoth 40 = .ok (.goto (-38), 3) := by decide +kernel
theorem dX2_growBoth_43 : decode cX2_growBoth 43 = .ok (.return_, 1) := by decide +kernel
theorem dX2_growOnce_0 : decode cX2_growOnce 0 = .ok (.iconst 0, 1) := by decide +kernel
theorem dX2_growOnce_1 : decode cX2_growOnce 1 = .ok (.istore_n 1, 1) := by decide +kernel
theorem dX2_growOnce_2 : decode cX2_growOnce 2 = .ok (.iconst 0, 1) := by decide +kernel
theorem dX2_growOnce_3 : decode cX2_growOnce 3 = .ok (.istore_n 2, 1) := by decide +kernel
theorem dX2_growOnce_4 : decode cX2_growOnce 4 = .ok (.iload_n 2, 1) := by decide +kernel
theorem dX2_growOnce_5 : decode cX2_growOnce 5 = .ok (.aload_n 0, 1) := by decide +kernel
theorem dX2_growOnce_6 : decode cX2_growOnce 6 = .ok (.getfield 57, 3) := by decide +kernel
theorem dX2_growOnce_9 : decode cX2_growOnce 9 = .ok (.if_icmp .ge 42, 3) := by decide +kernel
theorem dX2_growOnce_12 : decode cX2_growOnce 12 = .ok (.iconst 0, 1) := by decide +kernel
theorem dX2_growOnce_13 : decode cX2_growOnce 13 = .ok (.istore_n 3, 1) := by decide +kernel
theorem dX2_growOnce_14 : decode cX2_growOnce 14 = .ok (.iload_n 3, 1) := by decide +kernel
theorem dX2_growOnce_15 : decode cX2_growOnce 15 = .ok (.aload_n 0, 1) := by decide +kernel
theorem dX2_growOnce_16 : decode cX2_growOnce 16 = .ok (.getfield 67, 3) := by decide +kernel
theorem dX2_growOnce_19 : decode cX2_growOnce 19 = .ok (.if_icmp .ge 26, 3) := by decide +kernel
theorem dX2_growOnce_22 : decode cX2_growOnce 22 = .ok (.aload_n 0, 1) := by decide +kernel
theorem dX2_growOnce_23 : decode cX2_growOnce 23 = .ok (.iload_n 2, 1) := by decide +kernel
theorem dX2_growOnce_24 : decode cX2_growOnce 24 = .ok (.iload_n 3, 1) := by decide +kernel
theorem dX2_growOnce_25 : decode cX2_growOnce 25 = .ok (.invokevirtual 115, 3) := by decide +kernel
theorem dX2_growOnce_28 : decode cX2_growOnce 28 = .ok (.ifCond .eq 11, 3) := by decide +kernel
theorem dX2_growOnce_31 : decode cX2_growOnce 31 = .ok (.aload_n 0, 1) := by decide +kernel
theorem dX2_growOnce_32 : decode cX2_growOnce 32 = .ok (.iload_n 2, 1) := by decide +kernel
theorem dX2_growOnce_33 : decode cX2_growOnce 33 = .ok (.iload_n 3, 1) := by decide +kernel
theorem dX2_growOnce_34 : decode cX2_growOnce 34 = .ok (.invokevirtual 111, 3) := by decide +kernel
theorem dX2_growOnce_37 : decode cX2_growOnce 37 = .ok (.iconst 1, 1) := by decide +kernel
theorem dX2_growOnce_38 : decode cX2_growOnce 38 = .ok (.istore_n 1, 1) := by decide +kernel
theorem dX2_growOnce_39 : decode cX2_growOnce 39 = .ok (.iinc 3 1, 3) := by decide +kernel
theorem dX2_growOnce_42 : decode cX2_growOnce 42 = .ok (.goto (-28), 3) := by decide +kernel
theorem dX2_growOnce_45 : decode cX2_growOnce 45 = .ok (.iinc 2 1, 3) := by decide +kernel
theorem dX2_growOnce_48 : decode cX2_growOnce 48 = .ok (.goto (-44), 3) := by decide +kernel
theorem dX2_growOnce_51 : decode cX2_growOnce 51 = .ok (.iload_n 1, 1) := by decide +kernel
theorem dX2_growOnce_52 : decode cX2_growOnce 52 = .ok (.ireturn, 1) := by decide +kernel
theorem dX2_mayGrow_0 : decode cX2_mayGrow 0 = .ok (.aload_n 0, 1) := by decide +kernel
theorem dX2_mayGrow_1 : decode cX2_mayGrow 1 = .ok (.getfield 18, 3) := by decide +kernel
theorem dX2_mayGrow_4 : decode cX2_mayGrow 4 = .ok (.iload_n 1, 1) := by decide +kernel
theorem dX2_mayGrow_5 : decode cX2_mayGrow 5 = .ok (.iaload, 1) := by decide +kernel
theorem dX2_mayGrow_6 : decode cX2_mayGrow 6 = .ok (.iload_n 2, 1) := by decide +kernel
theorem dX2_mayGrow_7 : decode cX2_mayGrow 7 = .ok (.if_icmp .eq 13, 3) := by decide +kernel
theorem dX2_mayGrow_10 : decode cX2_mayGrow 10 = .ok (.aload_n 0, 1) := by decide +kernel
theorem dX2_mayGrow_11 : decode cX2_mayGrow 11 = .ok (.getfield 21, 3) := by decide +kernel
theorem dX2_mayGrow_14 : decode cX2_mayGrow 14 = .ok (.iload_n 2, 1) := by decide +kernel
theorem dX2_mayGrow_15 : decode cX2_mayGrow 15 = .ok (.iaload, 1) := by decide +kernel
theorem dX2_mayGrow_16 : decode cX2_mayGrow 16 = .ok (.iload_n 1, 1) := by decide +kernel
theorem dX2_mayGrow_17 : decode cX2_mayGrow 17 = .ok (.if_icmp .ne 7, 3) := by decide +kernel
theorem dX2_mayGrow_20 : decode cX2_mayGrow 20 = .ok (.iconst 1, 1) := by decide +kernel
theorem dX2_mayGrow_21 : decode cX2_mayGrow 21 = .ok (.goto 4, 3) := by decide +kernel
theorem dX2_mayGrow_24 : decode cX2_mayGrow 24 = .ok (.iconst 0, 1) := by decide +kernel
theorem dX2_mayGrow_25 : decode cX2_mayGrow 25 = .ok (.istore_n 3, 1) := by decide +kernel
theorem dX2_mayGrow_26 : decode cX2_mayGrow 26 = .ok (.aload_n 0, 1) := by decide +kernel
theorem dX2_mayGrow_27 : decode cX2_mayGrow 27 = .ok (.getfield 24, 3) := by decide +kernel
theorem dX2_mayGrow_30 : decode cX2_mayGrow 30 = .ok (.iload_n 1, 1) := by decide +kernel
theorem dX2_mayGrow_31 : decode cX2_mayGrow 31 = .ok (.iaload, 1) := by decide +kernel
theorem dX2_mayGrow_32 : decode cX2_mayGrow 32 = .ok (.ifCond .eq 12, 3) := by decide +kernel
theorem dX2_mayGrow_35 : decode cX2_mayGrow 35 = .ok (.aload_n 0, 1) := by decide +kernel
theorem dX2_mayGrow_36 : decode cX2_mayGrow 36 = .ok (.getfield 27, 3) := by decide +kernel
theorem dX2_mayGrow_39 : decode cX2_mayGrow 39 = .ok (.iload_n 2, 1) := by decide +kernel
theorem dX2_mayGrow_40 : decode cX2_mayGrow 40 = .ok (.iaload, 1) := by decide +kernel
theorem dX2_mayGrow_41 : decode cX2_mayGrow 41 = .ok (.ifCond .ne 7, 3) := by decide +kernel
theorem dX2_mayGrow_44 : decode cX2_mayGrow 44 = .ok (.iconst 1, 1) := by decide +kernel
theorem dX2_mayGrow_45 : decode cX2_mayGrow 45 = .ok (.goto 4, 3) := by decide +kernel
theorem dX2_mayGrow_48 : decode cX2_mayGrow 48 = .ok (.iconst 0, 1) := by decide +kernel
theorem dX2_mayGrow_49 : decode cX2_mayGrow 49 = .ok (.istore 4, 2) := by decide +kernel
theorem dX2_mayGrow_51 : decode cX2_mayGrow 51 = .ok (.iload_n 3, 1) := by decide +kernel
theorem dX2_mayGrow_52 : decode cX2_mayGrow 52 = .ok (.ifCond .eq 30, 3) := by decide +kernel
theorem dX2_mayGrow_55 : decode cX2_mayGrow 55 = .ok (.iload 4, 2) := by decide +kernel
theorem dX2_mayGrow_57 : decode cX2_mayGrow 57 = .ok (.ifCond .eq 25, 3) := by decide +kernel
theorem dX2_mayGrow_60 : decode cX2_mayGrow 60 = .ok (.aload_n 0, 1) := by decide +kernel
theorem dX2_mayGrow_61 : decode cX2_mayGrow 61 = .ok (.iload_n 1, 1) := by decide +kernel
theorem dX2_mayGrow_62 : decode cX2_mayGrow 62 = .ok (.iload_n 2, 1) := by decide +kernel
theorem dX2_mayGrow_63 : decode cX2_mayGrow 63 = .ok (.invokevirtual 118, 3) := by decide +kernel
theorem dX2_mayGrow_66 : decode cX2_mayGrow 66 = .ok (.ifCond .ne 16, 3) := by decide +kernel
theorem dX2_mayGrow_69 : decode cX2_mayGrow 69 = .ok (.aload_n 0, 1) := by decide +kernel
theorem dX2_mayGrow_70 : decode cX2_mayGrow 70 = .ok (.iload_n 1, 1) := by decide +kernel
theorem dX2_mayGrow_71 : decode cX2_mayGrow 71 = .ok (.iload_n 2, 1) := by decide +kernel
theorem dX2_mayGrow_72 : decode cX2_mayGrow 72 = .ok (.invokevirtual 121, 3) := by decide +kernel
theorem dX2_mayGrow_75 : decode cX2_mayGrow 75 = .ok (.ifCond .eq 7, 3) := by decide +kernel
theorem dX2_mayGrow_78 : decode cX2_mayGrow 78 = .ok (.iconst 1, 1) := by decide +kernel
theorem dX2_mayGrow_79 : decode cX2_mayGrow 79 = .ok (.goto 4, 3) := by decide +kernel
theorem dX2_mayGrow_82 : decode cX2_mayGrow 82 = .ok (.iconst 0, 1) := by decide +kernel
theorem dX2_mayGrow_83 : decode cX2_mayGrow 83 = .ok (.ireturn, 1) := by decide +kernel
theorem dX2_touchesGrown_0 : decode cX2_touchesGrown 0 = .ok (.bipush 7, 2) := by decide +kernel
theorem dX2_touchesGrown_2 : decode cX2_touchesGrown 2 = .ok (.iload_n 2, 1) := by decide +kernel
theorem dX2_touchesGrown_3 : decode cX2_touchesGrown 3 = .ok (.ishl, 1) := by decide +kernel
theorem dX2_touchesGrown_4 : decode cX2_touchesGrown 4 = .ok (.iconst 1, 1) := by decide +kernel
theorem dX2_touchesGrown_5 : decode cX2_touchesGrown 5 = .ok (.iushr, 1) := by decide +kernel
theorem dX2_touchesGrown_6 : decode cX2_touchesGrown 6 = .ok (.istore_n 3, 1) := by decide +kernel
theorem dX2_touchesGrown_7 : decode cX2_touchesGrown 7 = .ok (.iload_n 1, 1) := by decide +kernel
theorem dX2_touchesGrown_8 : decode cX2_touchesGrown 8 = .ok (.iconst 1, 1) := by decide +kernel
theorem dX2_touchesGrown_9 : decode cX2_touchesGrown 9 = .ok (.isub, 1) := by decide +kernel
theorem dX2_touchesGrown_10 : decode cX2_touchesGrown 10 = .ok (.iconst 0, 1) := by decide +kernel
theorem dX2_touchesGrown_11 : decode cX2_touchesGrown 11 = .ok (.invokestatic 124, 3) := by decide +kernel
theorem dX2_touchesGrown_14 : decode cX2_touchesGrown 14 = .ok (.istore 4, 2) := by decide +kernel
theorem dX2_touchesGrown_16 : decode cX2_touchesGrown 16 = .ok (.iload 4, 2) := by decide +kernel
theorem dX2_touchesGrown_18 : decode cX2_touchesGrown 18 = .ok (.iload_n 1, 1) := by decide +kernel
theorem dX2_touchesGrown_19 : decode cX2_touchesGrown 19 = .ok (.iconst 1, 1) := by decide +kernel
theorem dX2_touchesGrown_20 : decode cX2_touchesGrown 20 = .ok (.iadd, 1) := by decide +kernel
theorem dX2_touchesGrown_21 : decode cX2_touchesGrown 21 = .ok (.if_icmp .gt 32, 3) := by decide +kernel
theorem dX2_touchesGrown_24 : decode cX2_touchesGrown 24 = .ok (.iload 4, 2) := by decide +kernel
theorem dX2_touchesGrown_26 : decode cX2_touchesGrown 26 = .ok (.aload_n 0, 1) := by decide +kernel
theorem dX2_touchesGrown_27 : decode cX2_touchesGrown 27 = .ok (.getfield 57, 3) := by decide +kernel
theorem dX2_touchesGrown_30 : decode cX2_touchesGrown 30 = .ok (.if_icmp .ge 23, 3) := by decide +kernel
theorem dX2_touchesGrown_33 : decode cX2_touchesGrown 33 = .ok (.aload_n 0, 1) := by decide +kernel
theorem dX2_touchesGrown_34 : decode cX2_touchesGrown 34 = .ok (.getfield 24, 3) := by decide +kernel
theorem dX2_touchesGrown_37 : decode cX2_touchesGrown 37 = .ok (.iload 4, 2) := by decide +kernel
theorem dX2_touchesGrown_39 : decode cX2_touchesGrown 39 = .ok (.iaload, 1) := by decide +kernel
theorem dX2_touchesGrown_40 : decode cX2_touchesGrown 40 = .ok (.iload_n 3, 1) := by decide +kernel
theorem dX2_touchesGrown_41 : decode cX2_touchesGrown 41 = .ok (.iand, 1) := by decide +kernel
theorem dX2_touchesGrown_42 : decode cX2_touchesGrown 42 = .ok (.ifCond .eq 5, 3) := by decide +kernel
theorem dX2_touchesGrown_45 : decode cX2_touchesGrown 45 = .ok (.iconst 1, 1) := by decide +kernel
theorem dX2_touchesGrown_46 : decode cX2_touchesGrown 46 = .ok (.ireturn, 1) := by decide +kernel
theorem dX2_touchesGrown_47 : decode cX2_touchesGrown 47 = .ok (.iinc 4 1, 3) := by decide +kernel
theorem dX2_touchesGrown_50 : decode cX2_touchesGrown 50 = .ok (.goto (-34), 3) := by decide +kernel
theorem dX2_touchesGrown_53 : decode cX2_touchesGrown 53 = .ok (.iconst 0, 1) := by decide +kernel
theorem dX2_touchesGrown_54 : decode cX2_touchesGrown 54 = .ok (.ireturn, 1) := by decide +kernel
theorem dX2_countRowPairs_0 : decode cX2_countRowPairs 0 = .ok (.iconst 0, 1) := by decide +kernel
theorem dX2_countRowPairs_1 : decode cX2_countRowPairs 1 = .ok (.istore_n 1, 1) := by decide +kernel
theorem dX2_countRowPairs_2 : decode cX2_countRowPairs 2 = .ok (.iconst 0, 1) := by decide +kernel
theorem dX2_countRowPairs_3 : decode cX2_countRowPairs 3 = .ok (.istore_n 2, 1) := by decide +kernel
theorem dX2_countRowPairs_4 : decode cX2_countRowPairs 4 = .ok (.iload_n 2, 1) := by decide +kernel
theorem dX2_countRowPairs_5 : decode cX2_countRowPairs 5 = .ok (.aload_n 0, 1) := by decide +kernel
theorem dX2_countRowPairs_6 : decode cX2_countRowPairs 6 = .ok (.getfield 57, 3) := by decide +kernel
theorem dX2_countRowPairs_9 : decode cX2_countRowPairs 9 = .ok (.if_icmp .ge 41, 3) := by decide +kernel
theorem dX2_countRowPairs_12 : decode cX2_countRowPairs 12 = .ok (.iconst 0, 1) := by decide +kernel
theorem dX2_countRowPairs_13 : decode cX2_countRowPairs 13 = .ok (.istore_n 3, 1) := by decide +kernel
theorem dX2_countRowPairs_14 : decode cX2_countRowPairs 14 = .ok (.iload_n 3, 1) := by decide +kernel
theorem dX2_countRowPairs_15 : decode cX2_countRowPairs 15 = .ok (.iconst 3, 1) := by decide +kernel
theorem dX2_countRowPairs_16 : decode cX2_countRowPairs 16 = .ok (.if_icmp .gt 28, 3) := by decide +kernel
theorem dX2_countRowPairs_19 : decode cX2_countRowPairs 19 = .ok (.iload_n 2, 1) := by decide +kernel
theorem dX2_countRowPairs_20 : decode cX2_countRowPairs 20 = .ok (.iload_n 3, 1) := by decide +kernel
theorem dX2_countRowPairs_21 : decode cX2_countRowPairs 21 = .ok (.iadd, 1) := by decide +kernel
theorem dX2_countRowPairs_22 : decode cX2_countRowPairs 22 = .ok (.aload_n 0, 1) := by decide +kernel
theorem dX2_countRowPairs_23 : decode cX2_countRowPairs 23 = .ok (.getfield 57, 3) := by decide +kernel
theorem dX2_countRowPairs_26 : decode cX2_countRowPairs 26 = .ok (.if_icmp .ge 18, 3) := by decide +kernel
theorem dX2_countRowPairs_29 : decode cX2_countRowPairs 29 = .ok (.iload_n 1, 1) := by decide +kernel
theorem dX2_countRowPairs_30 : decode cX2_countRowPairs 30 = .ok (.aload_n 0, 1) := by decide +kernel
theorem dX2_countRowPairs_31 : decode cX2_countRowPairs 31 = .ok (.iload_n 2, 1) := by decide +kernel
theorem dX2_countRowPairs_32 : decode cX2_countRowPairs 32 = .ok (.iload_n 3, 1) := by decide +kernel
theorem dX2_countRowPairs_33 : decode cX2_countRowPairs 33 = .ok (.invokevirtual 128, 3) := by decide +kernel
theorem dX2_countRowPairs_36 : decode cX2_countRowPairs 36 = .ok (.iadd, 1) := by decide +kernel
theorem dX2_countRowPairs_37 : decode cX2_countRowPairs 37 = .ok (.istore_n 1, 1) := by decide +kernel
theorem dX2_countRowPairs_38 : decode cX2_countRowPairs 38 = .ok (.iinc 3 1, 3) := by decide +kernel
theorem dX2_countRowPairs_41 : decode cX2_countRowPairs 41 = .ok (.goto (-27), 3) := by decide +kernel
theorem dX2_countRowPairs_44 : decode cX2_countRowPairs 44 = .ok (.iinc 2 1, 3) := by decide +kernel
theorem dX2_countRowPairs_47 : decode cX2_countRowPairs 47 = .ok (.goto (-43), 3) := by decide +kernel
theorem dX2_countRowPairs_50 : decode cX2_countRowPairs 50 = .ok (.iload_n 1, 1) := by decide +kernel
theorem dX2_countRowPairs_51 : decode cX2_countRowPairs 51 = .ok (.ireturn, 1) := by decide +kernel
theorem dX2_countPartners_0 : decode cX2_countPartners 0 = .ok (.aload_n 0, 1) := by decide +kernel
theorem dX2_countPartners_1 : decode cX2_countPartners 1 = .ok (.getfield 24, 3) := by decide +kernel
theorem dX2_countPartners_4 : decode cX2_countPartners 4 = .ok (.iload_n 1, 1) := by decide +kernel
theorem dX2_countPartners_5 : decode cX2_countPartners 5 = .ok (.iload_n 2, 1) := by decide +kernel
theorem dX2_countPartners_6 : decode cX2_countPartners 6 = .ok (.invokestatic 131, 3) := by decide +kernel
theorem dX2_countPartners_9 : decode cX2_countPartners 9 = .ok (.istore_n 3, 1) := by decide +kernel
theorem dX2_countPartners_10 : decode cX2_countPartners 10 = .ok (.iload_n 3, 1) := by decide +kernel
theorem dX2_countPartners_11 : decode cX2_countPartners 11 = .ok (.ifCond .ne 5, 3) := by decide +kernel
theorem dX2_countPartners_14 : decode cX2_countPartners 14 = .ok (.iconst 0, 1) := by decide +kernel
theorem dX2_countPartners_15 : decode cX2_countPartners 15 = .ok (.ireturn, 1) := by decide +kernel
theorem dX2_countPartners_16 : decode cX2_countPartners 16 = .ok (.iconst 0, 1) := by decide +kernel
theorem dX2_countPartners_17 : decode cX2_countPartners 17 = .ok (.istore 4, 2) := by decide +kernel
theorem dX2_countPartners_19 : decode cX2_countPartners 19 = .ok (.iconst 0, 1) := by decide +kernel
theorem dX2_countPartners_20 : decode cX2_countPartners 20 = .ok (.istore 5, 2) := by decide +kernel
theorem dX2_countPartners_22 : decode cX2_countPartners 22 = .ok (.iload 5, 2) := by decide +kernel
theorem dX2_countPartners_24 : decode cX2_countPartners 24 = .ok (.aload_n 0, 1) := by decide +kernel
theorem dX2_countPartners_25 : decode cX2_countPartners 25 = .ok (.getfield 67, 3) := by decide +kernel
theorem dX2_countPartners_28 : decode cX2_countPartners 28 = .ok (.if_icmp .ge 87, 3) := by decide +kernel
theorem dX2_countPartners_31 : decode cX2_countPartners 31 = .ok (.iconst 0, 1) := by decide +kernel
theorem dX2_countPartners_32 : decode cX2_countPartners 32 = .ok (.istore 6, 2) := by decide +kernel
theorem dX2_countPartners_34 : decode cX2_countPartners 34 = .ok (.iload 6, 2) := by decide +kernel
theorem dX2_countPartners_36 : decode cX2_countPartners 36 = .ok (.iconst 3, 1) := by decide +kernel
theorem dX2_countPartners_37 : decode cX2_countPartners 37 = .ok (.if_icmp .gt 72, 3) := by decide +kernel
theorem dX2_countPartners_40 : decode cX2_countPartners 40 = .ok (.iload 5, 2) := by decide +kernel
theorem dX2_countPartners_42 : decode cX2_countPartners 42 = .ok (.iload 6, 2) := by decide +kernel
theorem dX2_countPartners_44 : decode cX2_countPartners 44 = .ok (.iadd, 1) := by decide +kernel
theorem dX2_countPartners_45 : decode cX2_countPartners 45 = .ok (.aload_n 0, 1) := by decide +kernel
theorem dX2_countPartners_46 : decode cX2_countPartners 46 = .ok (.getfield 67, 3) := by decide +kernel
theorem dX2_countPartners_49 : decode cX2_countPartners 49 = .ok (.if_icmp .ge 60, 3) := by decide +kernel
theorem dX2_countPartners_52 : decode cX2_countPartners 52 = .ok (.iload_n 3, 1) := by decide +kernel
theorem dX2_countPartners_53 : decode cX2_countPartners 53 = .ok (.iload 5, 2) := by decide +kernel
theorem dX2_countPartners_55 : decode cX2_countPartners 55 = .ok (.iload 6, 2) := by decide +kernel
theorem dX2_countPartners_57 : decode cX2_countPartners 57 = .ok (.invokestatic 135, 3) := by decide +kernel
theorem dX2_countPartners_60 : decode cX2_countPartners 60 = .ok (.iconst (-1), 1) := by decide +kernel
theorem dX2_countPartners_61 : decode cX2_countPartners 61 = .ok (.ixor, 1) := by decide +kernel
theorem dX2_countPartners_62 : decode cX2_countPartners 62 = .ok (.iand, 1) := by decide +kernel
theorem dX2_countPartners_63 : decode cX2_countPartners 63 = .ok (.ifCond .ne 7, 3) := by decide +kernel
theorem dX2_countPartners_66 : decode cX2_countPartners 66 = .ok (.iconst 1, 1) := by decide +kernel
theorem dX2_countPartners_67 : decode cX2_countPartners 67 = .ok (.goto 4, 3) := by decide +kernel
theorem dX2_countPartners_70 : decode cX2_countPartners 70 = .ok (.iconst 0, 1) := by decide +kernel
theorem dX2_countPartners_71 : decode cX2_countPartners 71 = .ok (.istore 7, 2) := by decide +kernel
theorem dX2_countPartners_73 : decode cX2_countPartners 73 = .ok (.iload 7, 2) := by decide +kernel
theorem dX2_countPartners_75 : decode cX2_countPartners 75 = .ok (.ifCond .eq 28, 3) := by decide +kernel
theorem dX2_countPartners_78 : decode cX2_countPartners 78 = .ok (.aload_n 0, 1) := by decide +kernel
theorem dX2_countPartners_79 : decode cX2_countPartners 79 = .ok (.getfield 27, 3) := by decide +kernel
theorem dX2_countPartners_82 : decode cX2_countPartners 82 = .ok (.iload 5, 2) := by decide +kernel
theorem dX2_countPartners_84 : decode cX2_countPartners 84 = .ok (.iload 6, 2) := by decide +kernel
theorem dX2_countPartners_86 : decode cX2_countPartners 86 = .ok (.invokestatic 131, 3) := by decide +kernel
theorem dX2_countPartners_89 : decode cX2_countPartners 89 = .ok (.iload_n 1, 1) := by decide +kernel
theorem dX2_countPartners_90 : decode cX2_countPartners 90 = .ok (.iload_n 2, 1) := by decide +kernel
theorem dX2_countPartners_91 : decode cX2_countPartners 91 = .ok (.invokestatic 135, 3) := by decide +kernel
theorem dX2_countPartners_94 : decode cX2_countPartners 94 = .ok (.iconst (-1), 1) := by decide +kernel
theorem dX2_countPartners_95 : decode cX2_countPartners 95 = .ok (.ixor, 1) := by decide +kernel
theorem dX2_countPartners_96 : decode cX2_countPartners 96 = .ok (.iand, 1) := by decide +kernel
theorem dX2_countPartners_97 : decode cX2_countPartners 97 = .ok (.ifCond .ne 6, 3) := by decide +kernel
theorem dX2_countPartners_100 : decode cX2_countPartners 100 = .ok (.iinc 4 1, 3) := by decide +kernel
theorem dX2_countPartners_103 : decode cX2_countPartners 103 = .ok (.iinc 6 1, 3) := by decide +kernel
theorem dX2_countPartners_106 : decode cX2_countPartners 106 = .ok (.goto (-72), 3) := by decide +kernel
theorem dX2_countPartners_109 : decode cX2_countPartners 109 = .ok (.iinc 5 1, 3) := by decide +kernel
theorem dX2_countPartners_112 : decode cX2_countPartners 112 = .ok (.goto (-90), 3) := by decide +kernel
theorem dX2_countPartners_115 : decode cX2_countPartners 115 = .ok (.iload 4, 2) := by decide +kernel
theorem dX2_countPartners_117 : decode cX2_countPartners 117 = .ok (.ireturn, 1) := by decide +kernel
theorem dX2_union_0 : decode cX2_union 0 = .ok (.iconst 0, 1) := by decide +kernel
theorem dX2_union_1 : decode cX2_union 1 = .ok (.istore_n 3, 1) := by decide +kernel
theorem dX2_union_2 : decode cX2_union 2 = .ok (.iload_n 1, 1) := by decide +kernel
theorem dX2_union_3 : decode cX2_union 3 = .ok (.istore 4, 2) := by decide +kernel
theorem dX2_union_5 : decode cX2_union 5 = .ok (.iload 4, 2) := by decide +kernel
theorem dX2_union_7 : decode cX2_union 7 = .ok (.iload_n 1, 1) := by decide +kernel
theorem dX2_union_8 : decode cX2_union 8 = .ok (.iload_n 2, 1) := by decide +kernel
theorem dX2_union_9 : decode cX2_union 9 = .ok (.iadd, 1) := by decide +kernel
theorem dX2_union_10 : decode cX2_union 10 = .ok (.if_icmp .gt 16, 3) := by decide +kernel
theorem dX2_union_13 : decode cX2_union 13 = .ok (.iload_n 3, 1) := by decide +kernel
theorem dX2_union_14 : decode cX2_union 14 = .ok (.aload_n 0, 1) := by decide +kernel
theorem dX2_union_15 : decode cX2_union 15 = .ok (.iload 4, 2) := by decide +kernel
