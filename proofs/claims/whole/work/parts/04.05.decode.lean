theorem dX10_newKind_106 : decode cX10_newKind 106 = .ok (.aload_n 0, 1) := by decide +kernel
theorem dX10_newKind_107 : decode cX10_newKind 107 = .ok (.getfield 140, 3) := by decide +kernel
theorem dX10_newKind_110 : decode cX10_newKind 110 = .ok (.iastore, 1) := by decide +kernel
theorem dX10_newKind_111 : decode cX10_newKind 111 = .ok (.iconst 0, 1) := by decide +kernel
theorem dX10_newKind_112 : decode cX10_newKind 112 = .ok (.istore_n 1, 1) := by decide +kernel
theorem dX10_newKind_113 : decode cX10_newKind 113 = .ok (.iload_n 1, 1) := by decide +kernel
theorem dX10_newKind_114 : decode cX10_newKind 114 = .ok (.aload_n 0, 1) := by decide +kernel
theorem dX10_newKind_115 : decode cX10_newKind 115 = .ok (.getfield 140, 3) := by decide +kernel
theorem dX10_newKind_118 : decode cX10_newKind 118 = .ok (.if_icmp .ge 29, 3) := by decide +kernel
theorem dX10_newKind_121 : decode cX10_newKind 121 = .ok (.aload_n 0, 1) := by decide +kernel
theorem dX10_newKind_122 : decode cX10_newKind 122 = .ok (.getfield 70, 3) := by decide +kernel
theorem dX10_newKind_125 : decode cX10_newKind 125 = .ok (.bipush 10, 2) := by decide +kernel
theorem dX10_newKind_127 : decode cX10_newKind 127 = .ok (.aload_n 0, 1) := by decide +kernel
theorem dX10_newKind_128 : decode cX10_newKind 128 = .ok (.getfield 161, 3) := by decide +kernel
theorem dX10_newKind_131 : decode cX10_newKind 131 = .ok (.imul, 1) := by decide +kernel
theorem dX10_newKind_132 : decode cX10_newKind 132 = .ok (.iload_n 1, 1) := by decide +kernel
theorem dX10_newKind_133 : decode cX10_newKind 133 = .ok (.iadd, 1) := by decide +kernel
theorem dX10_newKind_134 : decode cX10_newKind 134 = .ok (.aload_n 0, 1) := by decide +kernel
theorem dX10_newKind_135 : decode cX10_newKind 135 = .ok (.getfield 55, 3) := by decide +kernel
theorem dX10_newKind_138 : decode cX10_newKind 138 = .ok (.iload_n 1, 1) := by decide +kernel
theorem dX10_newKind_139 : decode cX10_newKind 139 = .ok (.iaload, 1) := by decide +kernel
theorem dX10_newKind_140 : decode cX10_newKind 140 = .ok (.iastore, 1) := by decide +kernel
theorem dX10_newKind_141 : decode cX10_newKind 141 = .ok (.iinc 1 1, 3) := by decide +kernel
theorem dX10_newKind_144 : decode cX10_newKind 144 = .ok (.goto (-31), 3) := by decide +kernel
theorem dX10_newKind_147 : decode cX10_newKind 147 = .ok (.aload_n 0, 1) := by decide +kernel
theorem dX10_newKind_148 : decode cX10_newKind 148 = .ok (.dup, 1) := by decide +kernel
theorem dX10_newKind_149 : decode cX10_newKind 149 = .ok (.getfield 161, 3) := by decide +kernel
theorem dX10_newKind_152 : decode cX10_newKind 152 = .ok (.iconst 1, 1) := by decide +kernel
theorem dX10_newKind_153 : decode cX10_newKind 153 = .ok (.iadd, 1) := by decide +kernel
theorem dX10_newKind_154 : decode cX10_newKind 154 = .ok (.putfield 161, 3) := by decide +kernel
theorem dX10_newKind_157 : decode cX10_newKind 157 = .ok (.aload_n 0, 1) := by decide +kernel
theorem dX10_newKind_158 : decode cX10_newKind 158 = .ok (.getfield 161, 3) := by decide +kernel
theorem dX10_newKind_161 : decode cX10_newKind 161 = .ok (.iconst 1, 1) := by decide +kernel
theorem dX10_newKind_162 : decode cX10_newKind 162 = .ok (.isub, 1) := by decide +kernel
theorem dX10_newKind_163 : decode cX10_newKind 163 = .ok (.ireturn, 1) := by decide +kernel
theorem dX10_addWord_0 : decode cX10_addWord 0 = .ok (.aload_n 0, 1) := by decide +kernel
theorem dX10_addWord_1 : decode cX10_addWord 1 = .ok (.getfield 164, 3) := by decide +kernel
theorem dX10_addWord_4 : decode cX10_addWord 4 = .ok (.bipush 20, 2) := by decide +kernel
theorem dX10_addWord_6 : decode cX10_addWord 6 = .ok (.if_icmp .eq 17, 3) := by decide +kernel
theorem dX10_addWord_9 : decode cX10_addWord 9 = .ok (.aload_n 0, 1) := by decide +kernel
theorem dX10_addWord_10 : decode cX10_addWord 10 = .ok (.getfield 58, 3) := by decide +kernel
theorem dX10_addWord_13 : decode cX10_addWord 13 = .ok (.aload_n 0, 1) := by decide +kernel
theorem dX10_addWord_14 : decode cX10_addWord 14 = .ok (.getfield 164, 3) := by decide +kernel
theorem dX10_addWord_17 : decode cX10_addWord 17 = .ok (.iaload, 1) := by decide +kernel
theorem dX10_addWord_18 : decode cX10_addWord 18 = .ok (.bipush 10, 2) := by decide +kernel
theorem dX10_addWord_20 : decode cX10_addWord 20 = .ok (.if_icmp .ne 9, 3) := by decide +kernel
theorem dX10_addWord_23 : decode cX10_addWord 23 = .ok (.aload_n 0, 1) := by decide +kernel
theorem dX10_addWord_24 : decode cX10_addWord 24 = .ok (.iconst 1, 1) := by decide +kernel
theorem dX10_addWord_25 : decode cX10_addWord 25 = .ok (.putfield 167, 3) := by decide +kernel
theorem dX10_addWord_28 : decode cX10_addWord 28 = .ok (.return_, 1) := by decide +kernel
theorem dX10_addWord_29 : decode cX10_addWord 29 = .ok (.aload_n 0, 1) := by decide +kernel
theorem dX10_addWord_30 : decode cX10_addWord 30 = .ok (.invokevirtual 171, 3) := by decide +kernel
theorem dX10_addWord_33 : decode cX10_addWord 33 = .ok (.istore_n 1, 1) := by decide +kernel
theorem dX10_addWord_34 : decode cX10_addWord 34 = .ok (.aload_n 0, 1) := by decide +kernel
theorem dX10_addWord_35 : decode cX10_addWord 35 = .ok (.iload_n 1, 1) := by decide +kernel
theorem dX10_addWord_36 : decode cX10_addWord 36 = .ok (.ifCond .ge 7, 3) := by decide +kernel
theorem dX10_addWord_39 : decode cX10_addWord 39 = .ok (.iconst 1, 1) := by decide +kernel
theorem dX10_addWord_40 : decode cX10_addWord 40 = .ok (.goto 4, 3) := by decide +kernel
theorem dX10_addWord_43 : decode cX10_addWord 43 = .ok (.iconst 0, 1) := by decide +kernel
theorem dX10_addWord_44 : decode cX10_addWord 44 = .ok (.putfield 167, 3) := by decide +kernel
theorem dX10_addWord_47 : decode cX10_addWord 47 = .ok (.aload_n 0, 1) := by decide +kernel
theorem dX10_addWord_48 : decode cX10_addWord 48 = .ok (.getfield 61, 3) := by decide +kernel
theorem dX10_addWord_51 : decode cX10_addWord 51 = .ok (.bipush 10, 2) := by decide +kernel
theorem dX10_addWord_53 : decode cX10_addWord 53 = .ok (.aload_n 0, 1) := by decide +kernel
theorem dX10_addWord_54 : decode cX10_addWord 54 = .ok (.getfield 164, 3) := by decide +kernel
theorem dX10_addWord_57 : decode cX10_addWord 57 = .ok (.imul, 1) := by decide +kernel
theorem dX10_addWord_58 : decode cX10_addWord 58 = .ok (.aload_n 0, 1) := by decide +kernel
theorem dX10_addWord_59 : decode cX10_addWord 59 = .ok (.getfield 58, 3) := by decide +kernel
theorem dX10_addWord_62 : decode cX10_addWord 62 = .ok (.aload_n 0, 1) := by decide +kernel
theorem dX10_addWord_63 : decode cX10_addWord 63 = .ok (.getfield 164, 3) := by decide +kernel
theorem dX10_addWord_66 : decode cX10_addWord 66 = .ok (.iaload, 1) := by decide +kernel
theorem dX10_addWord_67 : decode cX10_addWord 67 = .ok (.iadd, 1) := by decide +kernel
theorem dX10_addWord_68 : decode cX10_addWord 68 = .ok (.iload_n 1, 1) := by decide +kernel
theorem dX10_addWord_69 : decode cX10_addWord 69 = .ok (.iastore, 1) := by decide +kernel
theorem dX10_addWord_70 : decode cX10_addWord 70 = .ok (.aload_n 0, 1) := by decide +kernel
theorem dX10_addWord_71 : decode cX10_addWord 71 = .ok (.getfield 58, 3) := by decide +kernel
theorem dX10_addWord_74 : decode cX10_addWord 74 = .ok (.aload_n 0, 1) := by decide +kernel
theorem dX10_addWord_75 : decode cX10_addWord 75 = .ok (.getfield 164, 3) := by decide +kernel
theorem dX10_addWord_78 : decode cX10_addWord 78 = .ok (.dup2, 1) := by decide +kernel
theorem dX10_addWord_79 : decode cX10_addWord 79 = .ok (.iaload, 1) := by decide +kernel
theorem dX10_addWord_80 : decode cX10_addWord 80 = .ok (.iconst 1, 1) := by decide +kernel
theorem dX10_addWord_81 : decode cX10_addWord 81 = .ok (.iadd, 1) := by decide +kernel
theorem dX10_addWord_82 : decode cX10_addWord 82 = .ok (.iastore, 1) := by decide +kernel
theorem dX10_addWord_83 : decode cX10_addWord 83 = .ok (.return_, 1) := by decide +kernel
theorem dX10_endSentence_0 : decode cX10_endSentence 0 = .ok (.aload_n 0, 1) := by decide +kernel
theorem dX10_endSentence_1 : decode cX10_endSentence 1 = .ok (.getfield 58, 3) := by decide +kernel
theorem dX10_endSentence_4 : decode cX10_endSentence 4 = .ok (.aload_n 0, 1) := by decide +kernel
theorem dX10_endSentence_5 : decode cX10_endSentence 5 = .ok (.getfield 164, 3) := by decide +kernel
theorem dX10_endSentence_8 : decode cX10_endSentence 8 = .ok (.iaload, 1) := by decide +kernel
theorem dX10_endSentence_9 : decode cX10_endSentence 9 = .ok (.ifCond .le 41, 3) := by decide +kernel
theorem dX10_endSentence_12 : decode cX10_endSentence 12 = .ok (.aload_n 0, 1) := by decide +kernel
theorem dX10_endSentence_13 : decode cX10_endSentence 13 = .ok (.getfield 64, 3) := by decide +kernel
theorem dX10_endSentence_16 : decode cX10_endSentence 16 = .ok (.aload_n 0, 1) := by decide +kernel
theorem dX10_endSentence_17 : decode cX10_endSentence 17 = .ok (.getfield 164, 3) := by decide +kernel
theorem dX10_endSentence_20 : decode cX10_endSentence 20 = .ok (.aload_n 0, 1) := by decide +kernel
theorem dX10_endSentence_21 : decode cX10_endSentence 21 = .ok (.getfield 175, 3) := by decide +kernel
theorem dX10_endSentence_24 : decode cX10_endSentence 24 = .ok (.iastore, 1) := by decide +kernel
theorem dX10_endSentence_25 : decode cX10_endSentence 25 = .ok (.aload_n 0, 1) := by decide +kernel
theorem dX10_endSentence_26 : decode cX10_endSentence 26 = .ok (.dup, 1) := by decide +kernel
theorem dX10_endSentence_27 : decode cX10_endSentence 27 = .ok (.getfield 164, 3) := by decide +kernel
theorem dX10_endSentence_30 : decode cX10_endSentence 30 = .ok (.iconst 1, 1) := by decide +kernel
theorem dX10_endSentence_31 : decode cX10_endSentence 31 = .ok (.iadd, 1) := by decide +kernel
theorem dX10_endSentence_32 : decode cX10_endSentence 32 = .ok (.putfield 164, 3) := by decide +kernel
theorem dX10_endSentence_35 : decode cX10_endSentence 35 = .ok (.aload_n 0, 1) := by decide +kernel
theorem dX10_endSentence_36 : decode cX10_endSentence 36 = .ok (.getfield 58, 3) := by decide +kernel
theorem dX10_endSentence_39 : decode cX10_endSentence 39 = .ok (.aload_n 0, 1) := by decide +kernel
theorem dX10_endSentence_40 : decode cX10_endSentence 40 = .ok (.getfield 164, 3) := by decide +kernel
theorem dX10_endSentence_43 : decode cX10_endSentence 43 = .ok (.iconst 0, 1) := by decide +kernel
theorem dX10_endSentence_44 : decode cX10_endSentence 44 = .ok (.iastore, 1) := by decide +kernel
theorem dX10_endSentence_45 : decode cX10_endSentence 45 = .ok (.aload_n 0, 1) := by decide +kernel
theorem dX10_endSentence_46 : decode cX10_endSentence 46 = .ok (.iconst 1, 1) := by decide +kernel
theorem dX10_endSentence_47 : decode cX10_endSentence 47 = .ok (.putfield 178, 3) := by decide +kernel
theorem dX10_endSentence_50 : decode cX10_endSentence 50 = .ok (.return_, 1) := by decide +kernel
theorem dX10_endParagraph_0 : decode cX10_endParagraph 0 = .ok (.aload_n 0, 1) := by decide +kernel
theorem dX10_endParagraph_1 : decode cX10_endParagraph 1 = .ok (.invokevirtual 181, 3) := by decide +kernel
theorem dX10_endParagraph_4 : decode cX10_endParagraph 4 = .ok (.aload_n 0, 1) := by decide +kernel
theorem dX10_endParagraph_5 : decode cX10_endParagraph 5 = .ok (.dup, 1) := by decide +kernel
theorem dX10_endParagraph_6 : decode cX10_endParagraph 6 = .ok (.getfield 175, 3) := by decide +kernel
theorem dX10_endParagraph_9 : decode cX10_endParagraph 9 = .ok (.aload_n 0, 1) := by decide +kernel
theorem dX10_endParagraph_10 : decode cX10_endParagraph 10 = .ok (.getfield 178, 3) := by decide +kernel
theorem dX10_endParagraph_13 : decode cX10_endParagraph 13 = .ok (.ifCond .eq 7, 3) := by decide +kernel
theorem dX10_endParagraph_16 : decode cX10_endParagraph 16 = .ok (.iconst 1, 1) := by decide +kernel
theorem dX10_endParagraph_17 : decode cX10_endParagraph 17 = .ok (.goto 4, 3) := by decide +kernel
theorem dX10_endParagraph_20 : decode cX10_endParagraph 20 = .ok (.iconst 0, 1) := by decide +kernel
theorem dX10_endParagraph_21 : decode cX10_endParagraph 21 = .ok (.iadd, 1) := by decide +kernel
theorem dX10_endParagraph_22 : decode cX10_endParagraph 22 = .ok (.putfield 175, 3) := by decide +kernel
theorem dX10_endParagraph_25 : decode cX10_endParagraph 25 = .ok (.aload_n 0, 1) := by decide +kernel
theorem dX10_endParagraph_26 : decode cX10_endParagraph 26 = .ok (.iconst 0, 1) := by decide +kernel
theorem dX10_endParagraph_27 : decode cX10_endParagraph 27 = .ok (.putfield 178, 3) := by decide +kernel
theorem dX10_endParagraph_30 : decode cX10_endParagraph 30 = .ok (.return_, 1) := by decide +kernel
theorem dX10_cutBook_0 : decode cX10_cutBook 0 = .ok (.aload_n 0, 1) := by decide +kernel
theorem dX10_cutBook_1 : decode cX10_cutBook 1 = .ok (.iconst 0, 1) := by decide +kernel
theorem dX10_cutBook_2 : decode cX10_cutBook 2 = .ok (.putfield 164, 3) := by decide +kernel
theorem dX10_cutBook_5 : decode cX10_cutBook 5 = .ok (.aload_n 0, 1) := by decide +kernel
theorem dX10_cutBook_6 : decode cX10_cutBook 6 = .ok (.getfield 58, 3) := by decide +kernel
theorem dX10_cutBook_9 : decode cX10_cutBook 9 = .ok (.iconst 0, 1) := by decide +kernel
theorem dX10_cutBook_10 : decode cX10_cutBook 10 = .ok (.iconst 0, 1) := by decide +kernel
theorem dX10_cutBook_11 : decode cX10_cutBook 11 = .ok (.iastore, 1) := by decide +kernel
theorem dX10_cutBook_12 : decode cX10_cutBook 12 = .ok (.aload_n 0, 1) := by decide +kernel
theorem dX10_cutBook_13 : decode cX10_cutBook 13 = .ok (.iconst 0, 1) := by decide +kernel
theorem dX10_cutBook_14 : decode cX10_cutBook 14 = .ok (.putfield 161, 3) := by decide +kernel
theorem dX10_cutBook_17 : decode cX10_cutBook 17 = .ok (.aload_n 0, 1) := by decide +kernel
theorem dX10_cutBook_18 : decode cX10_cutBook 18 = .ok (.iconst 0, 1) := by decide +kernel
theorem dX10_cutBook_19 : decode cX10_cutBook 19 = .ok (.putfield 175, 3) := by decide +kernel
theorem dX10_cutBook_22 : decode cX10_cutBook 22 = .ok (.aload_n 0, 1) := by decide +kernel
theorem dX10_cutBook_23 : decode cX10_cutBook 23 = .ok (.iconst 0, 1) := by decide +kernel
theorem dX10_cutBook_24 : decode cX10_cutBook 24 = .ok (.putfield 178, 3) := by decide +kernel
theorem dX10_cutBook_27 : decode cX10_cutBook 27 = .ok (.aload_n 0, 1) := by decide +kernel
theorem dX10_cutBook_28 : decode cX10_cutBook 28 = .ok (.iconst 0, 1) := by decide +kernel
theorem dX10_cutBook_29 : decode cX10_cutBook 29 = .ok (.putfield 167, 3) := by decide +kernel
theorem dX10_cutBook_32 : decode cX10_cutBook 32 = .ok (.aload_n 0, 1) := by decide +kernel
theorem dX10_cutBook_33 : decode cX10_cutBook 33 = .ok (.iconst 0, 1) := by decide +kernel
theorem dX10_cutBook_34 : decode cX10_cutBook 34 = .ok (.putfield 143, 3) := by decide +kernel
theorem dX10_cutBook_37 : decode cX10_cutBook 37 = .ok (.aload_n 0, 1) := by decide +kernel
theorem dX10_cutBook_38 : decode cX10_cutBook 38 = .ok (.getfield 143, 3) := by decide +kernel
theorem dX10_cutBook_41 : decode cX10_cutBook 41 = .ok (.aload_n 0, 1) := by decide +kernel
theorem dX10_cutBook_42 : decode cX10_cutBook 42 = .ok (.getfield 126, 3) := by decide +kernel
theorem dX10_cutBook_45 : decode cX10_cutBook 45 = .ok (.if_icmp .ge 132, 3) := by decide +kernel
theorem dX10_cutBook_48 : decode cX10_cutBook 48 = .ok (.aload_n 0, 1) := by decide +kernel
theorem dX10_cutBook_49 : decode cX10_cutBook 49 = .ok (.getfield 167, 3) := by decide +kernel
theorem dX10_cutBook_52 : decode cX10_cutBook 52 = .ok (.ifCond .ne 125, 3) := by decide +kernel
theorem dX10_cutBook_55 : decode cX10_cutBook 55 = .ok (.aload_n 0, 1) := by decide +kernel
theorem dX10_cutBook_56 : decode cX10_cutBook 56 = .ok (.aload_n 0, 1) := by decide +kernel
theorem dX10_cutBook_57 : decode cX10_cutBook 57 = .ok (.getfield 143, 3) := by decide +kernel
theorem dX10_cutBook_60 : decode cX10_cutBook 60 = .ok (.invokevirtual 146, 3) := by decide +kernel
theorem dX10_cutBook_63 : decode cX10_cutBook 63 = .ok (.ifCond .eq 56, 3) := by decide +kernel
theorem dX10_cutBook_66 : decode cX10_cutBook 66 = .ok (.aload_n 0, 1) := by decide +kernel
theorem dX10_cutBook_67 : decode cX10_cutBook 67 = .ok (.invokevirtual 153, 3) := by decide +kernel
theorem dX10_cutBook_70 : decode cX10_cutBook 70 = .ok (.aload_n 0, 1) := by decide +kernel
theorem dX10_cutBook_71 : decode cX10_cutBook 71 = .ok (.invokevirtual 184, 3) := by decide +kernel
theorem dX10_cutBook_74 : decode cX10_cutBook 74 = .ok (.aload_n 0, 1) := by decide +kernel
theorem dX10_cutBook_75 : decode cX10_cutBook 75 = .ok (.getfield 143, 3) := by decide +kernel
theorem dX10_cutBook_78 : decode cX10_cutBook 78 = .ok (.aload_n 0, 1) := by decide +kernel
theorem dX10_cutBook_79 : decode cX10_cutBook 79 = .ok (.getfield 126, 3) := by decide +kernel
theorem dX10_cutBook_82 : decode cX10_cutBook 82 = .ok (.if_icmp .ge (-45), 3) := by decide +kernel
theorem dX10_cutBook_85 : decode cX10_cutBook 85 = .ok (.aload_n 0, 1) := by decide +kernel
theorem dX10_cutBook_86 : decode cX10_cutBook 86 = .ok (.getfield 7, 3) := by decide +kernel
theorem dX10_cutBook_89 : decode cX10_cutBook 89 = .ok (.aload_n 0, 1) := by decide +kernel
theorem dX10_cutBook_90 : decode cX10_cutBook 90 = .ok (.getfield 143, 3) := by decide +kernel
theorem dX10_cutBook_93 : decode cX10_cutBook 93 = .ok (.iaload, 1) := by decide +kernel
theorem dX10_cutBook_94 : decode cX10_cutBook 94 = .ok (.bipush 46, 2) := by decide +kernel
theorem dX10_cutBook_96 : decode cX10_cutBook 96 = .ok (.if_icmp .ne (-59), 3) := by decide +kernel
theorem dX10_cutBook_99 : decode cX10_cutBook 99 = .ok (.aload_n 0, 1) := by decide +kernel
theorem dX10_cutBook_100 : decode cX10_cutBook 100 = .ok (.invokevirtual 157, 3) := by decide +kernel
theorem dX10_cutBook_103 : decode cX10_cutBook 103 = .ok (.ifCond .eq (-66), 3) := by decide +kernel
theorem dX10_cutBook_106 : decode cX10_cutBook 106 = .ok (.aload_n 0, 1) := by decide +kernel
theorem dX10_cutBook_107 : decode cX10_cutBook 107 = .ok (.dup, 1) := by decide +kernel
theorem dX10_cutBook_108 : decode cX10_cutBook 108 = .ok (.getfield 143, 3) := by decide +kernel
theorem dX10_cutBook_111 : decode cX10_cutBook 111 = .ok (.iconst 1, 1) := by decide +kernel
theorem dX10_cutBook_112 : decode cX10_cutBook 112 = .ok (.iadd, 1) := by decide +kernel
theorem dX10_cutBook_113 : decode cX10_cutBook 113 = .ok (.putfield 143, 3) := by decide +kernel
theorem dX10_cutBook_116 : decode cX10_cutBook 116 = .ok (.goto (-79), 3) := by decide +kernel
theorem dX10_cutBook_119 : decode cX10_cutBook 119 = .ok (.aload_n 0, 1) := by decide +kernel
theorem dX10_cutBook_120 : decode cX10_cutBook 120 = .ok (.getfield 7, 3) := by decide +kernel
theorem dX10_cutBook_123 : decode cX10_cutBook 123 = .ok (.aload_n 0, 1) := by decide +kernel
theorem dX10_cutBook_124 : decode cX10_cutBook 124 = .ok (.getfield 143, 3) := by decide +kernel
theorem dX10_cutBook_127 : decode cX10_cutBook 127 = .ok (.iaload, 1) := by decide +kernel
theorem dX10_cutBook_128 : decode cX10_cutBook 128 = .ok (.istore_n 1, 1) := by decide +kernel
theorem dX10_cutBook_129 : decode cX10_cutBook 129 = .ok (.iload_n 1, 1) := by decide +kernel
theorem dX10_cutBook_130 : decode cX10_cutBook 130 = .ok (.bipush 33, 2) := by decide +kernel
theorem dX10_cutBook_132 : decode cX10_cutBook 132 = .ok (.if_icmp .eq 15, 3) := by decide +kernel
theorem dX10_cutBook_135 : decode cX10_cutBook 135 = .ok (.iload_n 1, 1) := by decide +kernel
theorem dX10_cutBook_136 : decode cX10_cutBook 136 = .ok (.bipush 46, 2) := by decide +kernel
theorem dX10_cutBook_138 : decode cX10_cutBook 138 = .ok (.if_icmp .eq 9, 3) := by decide +kernel
theorem dX10_cutBook_141 : decode cX10_cutBook 141 = .ok (.iload_n 1, 1) := by decide +kernel
theorem dX10_cutBook_142 : decode cX10_cutBook 142 = .ok (.bipush 63, 2) := by decide +kernel
theorem dX10_cutBook_144 : decode cX10_cutBook 144 = .ok (.if_icmp .ne 10, 3) := by decide +kernel
theorem dX10_cutBook_147 : decode cX10_cutBook 147 = .ok (.aload_n 0, 1) := by decide +kernel
theorem dX10_cutBook_148 : decode cX10_cutBook 148 = .ok (.invokevirtual 181, 3) := by decide +kernel
theorem dX10_cutBook_151 : decode cX10_cutBook 151 = .ok (.goto 13, 3) := by decide +kernel
theorem dX10_cutBook_154 : decode cX10_cutBook 154 = .ok (.iload_n 1, 1) := by decide +kernel
theorem dX10_cutBook_155 : decode cX10_cutBook 155 = .ok (.bipush 10, 2) := by decide +kernel
theorem dX10_cutBook_157 : decode cX10_cutBook 157 = .ok (.if_icmp .ne 7, 3) := by decide +kernel
theorem dX10_cutBook_160 : decode cX10_cutBook 160 = .ok (.aload_n 0, 1) := by decide +kernel
theorem dX10_cutBook_161 : decode cX10_cutBook 161 = .ok (.invokevirtual 187, 3) := by decide +kernel
theorem dX10_cutBook_164 : decode cX10_cutBook 164 = .ok (.aload_n 0, 1) := by decide +kernel
theorem dX10_cutBook_165 : decode cX10_cutBook 165 = .ok (.dup, 1) := by decide +kernel
theorem dX10_cutBook_166 : decode cX10_cutBook 166 = .ok (.getfield 143, 3) := by decide +kernel
theorem dX10_cutBook_169 : decode cX10_cutBook 169 = .ok (.iconst 1, 1) := by decide +kernel
theorem dX10_cutBook_170 : decode cX10_cutBook 170 = .ok (.iadd, 1) := by decide +kernel
theorem dX10_cutBook_171 : decode cX10_cutBook 171 = .ok (.putfield 143, 3) := by decide +kernel
theorem dX10_cutBook_174 : decode cX10_cutBook 174 = .ok (.goto (-137), 3) := by decide +kernel
theorem dX10_cutBook_177 : decode cX10_cutBook 177 = .ok (.aload_n 0, 1) := by decide +kernel
theorem dX10_cutBook_178 : decode cX10_cutBook 178 = .ok (.invokevirtual 187, 3) := by decide +kernel
theorem dX10_cutBook_181 : decode cX10_cutBook 181 = .ok (.return_, 1) := by decide +kernel
theorem dX10_loseTies_0 : decode cX10_loseTies 0 = .ok (.iconst 0, 1) := by decide +kernel
theorem dX10_loseTies_1 : decode cX10_loseTies 1 = .ok (.istore_n 1, 1) := by decide +kernel
theorem dX10_loseTies_2 : decode cX10_loseTies 2 = .ok (.iload_n 1, 1) := by decide +kernel
theorem dX10_loseTies_3 : decode cX10_loseTies 3 = .ok (.bipush 20, 2) := by decide +kernel
theorem dX10_loseTies_5 : decode cX10_loseTies 5 = .ok (.if_icmp .ge 23, 3) := by decide +kernel
theorem dX10_loseTies_8 : decode cX10_loseTies 8 = .ok (.aload_n 0, 1) := by decide +kernel
theorem dX10_loseTies_9 : decode cX10_loseTies 9 = .ok (.getfield 43, 3) := by decide +kernel
theorem dX10_loseTies_12 : decode cX10_loseTies 12 = .ok (.iload_n 1, 1) := by decide +kernel
theorem dX10_loseTies_13 : decode cX10_loseTies 13 = .ok (.iconst (-1), 1) := by decide +kernel
theorem dX10_loseTies_14 : decode cX10_loseTies 14 = .ok (.iastore, 1) := by decide +kernel
theorem dX10_loseTies_15 : decode cX10_loseTies 15 = .ok (.aload_n 0, 1) := by decide +kernel
theorem dX10_loseTies_16 : decode cX10_loseTies 16 = .ok (.getfield 46, 3) := by decide +kernel
theorem dX10_loseTies_19 : decode cX10_loseTies 19 = .ok (.iload_n 1, 1) := by decide +kernel
theorem dX10_loseTies_20 : decode cX10_loseTies 20 = .ok (.iconst (-1), 1) := by decide +kernel
theorem dX10_loseTies_21 : decode cX10_loseTies 21 = .ok (.iastore, 1) := by decide +kernel
theorem dX10_loseTies_22 : decode cX10_loseTies 22 = .ok (.iinc 1 1, 3) := by decide +kernel
theorem dX10_loseTies_25 : decode cX10_loseTies 25 = .ok (.goto (-23), 3) := by decide +kernel
theorem dX10_loseTies_28 : decode cX10_loseTies 28 = .ok (.aload_n 0, 1) := by decide +kernel
theorem dX10_loseTies_29 : decode cX10_loseTies 29 = .ok (.iconst 0, 1) := by decide +kernel
theorem dX10_loseTies_30 : decode cX10_loseTies 30 = .ok (.putfield 190, 3) := by decide +kernel
theorem dX10_loseTies_33 : decode cX10_loseTies 33 = .ok (.iconst 0, 1) := by decide +kernel
theorem dX10_loseTies_34 : decode cX10_loseTies 34 = .ok (.istore_n 1, 1) := by decide +kernel
theorem dX10_loseTies_35 : decode cX10_loseTies 35 = .ok (.iload_n 1, 1) := by decide +kernel
theorem dX10_loseTies_36 : decode cX10_loseTies 36 = .ok (.bipush 40, 2) := by decide +kernel
theorem dX10_loseTies_38 : decode cX10_loseTies 38 = .ok (.if_icmp .ge 52, 3) := by decide +kernel
theorem dX10_loseTies_41 : decode cX10_loseTies 41 = .ok (.aload_n 0, 1) := by decide +kernel
theorem dX10_loseTies_42 : decode cX10_loseTies 42 = .ok (.getfield 49, 3) := by decide +kernel
theorem dX10_loseTies_45 : decode cX10_loseTies 45 = .ok (.iload_n 1, 1) := by decide +kernel
theorem dX10_loseTies_46 : decode cX10_loseTies 46 = .ok (.iconst (-1), 1) := by decide +kernel
theorem dX10_loseTies_47 : decode cX10_loseTies 47 = .ok (.iastore, 1) := by decide +kernel
theorem dX10_loseTies_48 : decode cX10_loseTies 48 = .ok (.iconst 0, 1) := by decide +kernel
theorem dX10_loseTies_49 : decode cX10_loseTies 49 = .ok (.istore_n 2, 1) := by decide +kernel
theorem dX10_loseTies_50 : decode cX10_loseTies 50 = .ok (.iload_n 2, 1) := by decide +kernel
theorem dX10_loseTies_51 : decode cX10_loseTies 51 = .ok (.bipush 40, 2) := by decide +kernel
theorem dX10_loseTies_53 : decode cX10_loseTies 53 = .ok (.if_icmp .gt 31, 3) := by decide +kernel
theorem dX10_loseTies_56 : decode cX10_loseTies 56 = .ok (.aload_n 0, 1) := by decide +kernel
theorem dX10_loseTies_57 : decode cX10_loseTies 57 = .ok (.getfield 52, 3) := by decide +kernel
theorem dX10_loseTies_60 : decode cX10_loseTies 60 = .ok (.bipush 41, 2) := by decide +kernel
theorem dX10_loseTies_62 : decode cX10_loseTies 62 = .ok (.iload_n 1, 1) := by decide +kernel
theorem dX10_loseTies_63 : decode cX10_loseTies 63 = .ok (.imul, 1) := by decide +kernel
theorem dX10_loseTies_64 : decode cX10_loseTies 64 = .ok (.iload_n 2, 1) := by decide +kernel
theorem dX10_loseTies_65 : decode cX10_loseTies 65 = .ok (.iadd, 1) := by decide +kernel
theorem dX10_loseTies_66 : decode cX10_loseTies 66 = .ok (.ldc 193, 2) := by decide +kernel
theorem dX10_loseTies_68 : decode cX10_loseTies 68 = .ok (.aload_n 0, 1) := by decide +kernel
theorem dX10_loseTies_69 : decode cX10_loseTies 69 = .ok (.getfield 34, 3) := by decide +kernel
theorem dX10_loseTies_72 : decode cX10_loseTies 72 = .ok (.iconst 1, 1) := by decide +kernel
theorem dX10_loseTies_73 : decode cX10_loseTies 73 = .ok (.iaload, 1) := by decide +kernel
theorem dX10_loseTies_74 : decode cX10_loseTies 74 = .ok (.iconst 1, 1) := by decide +kernel
theorem dX10_loseTies_75 : decode cX10_loseTies 75 = .ok (.iadd, 1) := by decide +kernel
theorem dX10_loseTies_76 : decode cX10_loseTies 76 = .ok (.idiv, 1) := by decide +kernel
theorem dX10_loseTies_77 : decode cX10_loseTies 77 = .ok (.iastore, 1) := by decide +kernel
theorem dX10_loseTies_78 : decode cX10_loseTies 78 = .ok (.iinc 2 1, 3) := by decide +kernel
theorem dX10_loseTies_81 : decode cX10_loseTies 81 = .ok (.goto (-31), 3) := by decide +kernel
theorem dX10_loseTies_84 : decode cX10_loseTies 84 = .ok (.iinc 1 1, 3) := by decide +kernel
theorem dX10_loseTies_87 : decode cX10_loseTies 87 = .ok (.goto (-52), 3) := by decide +kernel
theorem dX10_loseTies_90 : decode cX10_loseTies 90 = .ok (.return_, 1) := by decide +kernel
theorem dX10_take_0 : decode cX10_take 0 = .ok (.iload_n 1, 1) := by decide +kernel
theorem dX10_take_1 : decode cX10_take 1 = .ok (.i2l, 1) := by decide +kernel
theorem dX10_take_2 : decode cX10_take 2 = .ok (.lconst 0, 1) := by decide +kernel
theorem dX10_take_3 : decode cX10_take 3 = .ok (.lconst 1, 1) := by decide +kernel
theorem dX10_take_4 : decode cX10_take 4 = .ok (.invokestatic 131, 3) := by decide +kernel
theorem dX10_take_7 : decode cX10_take 7 = .ok (.ifCond .ne 6, 3) := by decide +kernel
theorem dX10_take_10 : decode cX10_take 10 = .ok (.ldc 194, 2) := by decide +kernel
theorem dX10_take_12 : decode cX10_take 12 = .ok (.ireturn, 1) := by decide +kernel
theorem dX10_take_13 : decode cX10_take 13 = .ok (.aload_n 0, 1) := by decide +kernel
theorem dX10_take_14 : decode cX10_take 14 = .ok (.invokevirtual 195, 3) := by decide +kernel
theorem dX10_take_17 : decode cX10_take 17 = .ok (.aload_n 0, 1) := by decide +kernel
theorem dX10_take_18 : decode cX10_take 18 = .ok (.getfield 167, 3) := by decide +kernel
theorem dX10_take_21 : decode cX10_take 21 = .ok (.ifCond .eq 6, 3) := by decide +kernel
theorem dX10_take_24 : decode cX10_take 24 = .ok (.ldc 130, 2) := by decide +kernel
theorem dX10_take_26 : decode cX10_take 26 = .ok (.ireturn, 1) := by decide +kernel
theorem dX10_take_27 : decode cX10_take 27 = .ok (.aload_n 0, 1) := by decide +kernel
theorem dX10_take_28 : decode cX10_take 28 = .ok (.getfield 19, 3) := by decide +kernel
theorem dX10_take_31 : decode cX10_take 31 = .ok (.iload_n 1, 1) := by decide +kernel
theorem dX10_take_32 : decode cX10_take 32 = .ok (.aload_n 0, 1) := by decide +kernel
theorem dX10_take_33 : decode cX10_take 33 = .ok (.getfield 164, 3) := by decide +kernel
theorem dX10_take_36 : decode cX10_take 36 = .ok (.iastore, 1) := by decide +kernel
theorem dX10_take_37 : decode cX10_take 37 = .ok (.aload_n 0, 1) := by decide +kernel
theorem dX10_take_38 : decode cX10_take 38 = .ok (.getfield 31, 3) := by decide +kernel
theorem dX10_take_41 : decode cX10_take 41 = .ok (.iload_n 1, 1) := by decide +kernel
theorem dX10_take_42 : decode cX10_take 42 = .ok (.aload_n 0, 1) := by decide +kernel
theorem dX10_take_43 : decode cX10_take 43 = .ok (.getfield 175, 3) := by decide +kernel
theorem dX10_take_46 : decode cX10_take 46 = .ok (.iastore, 1) := by decide +kernel
theorem dX10_take_47 : decode cX10_take 47 = .ok (.aload_n 0, 1) := by decide +kernel
theorem dX10_take_48 : decode cX10_take 48 = .ok (.getfield 34, 3) := by decide +kernel
theorem dX10_take_51 : decode cX10_take 51 = .ok (.iload_n 1, 1) := by decide +kernel
theorem dX10_take_52 : decode cX10_take 52 = .ok (.aload_n 0, 1) := by decide +kernel
theorem dX10_take_53 : decode cX10_take 53 = .ok (.getfield 161, 3) := by decide +kernel
theorem dX10_take_56 : decode cX10_take 56 = .ok (.iastore, 1) := by decide +kernel
theorem dX10_take_57 : decode cX10_take 57 = .ok (.iconst 0, 1) := by decide +kernel
theorem dX10_take_58 : decode cX10_take 58 = .ok (.istore_n 2, 1) := by decide +kernel
theorem dX10_take_59 : decode cX10_take 59 = .ok (.iload_n 2, 1) := by decide +kernel
theorem dX10_take_60 : decode cX10_take 60 = .ok (.aload_n 0, 1) := by decide +kernel
theorem dX10_take_61 : decode cX10_take 61 = .ok (.getfield 164, 3) := by decide +kernel
theorem dX10_take_64 : decode cX10_take 64 = .ok (.if_icmp .ge 43, 3) := by decide +kernel
theorem dX10_take_67 : decode cX10_take 67 = .ok (.aload_n 0, 1) := by decide +kernel
theorem dX10_take_68 : decode cX10_take 68 = .ok (.getfield 22, 3) := by decide +kernel
theorem dX10_take_71 : decode cX10_take 71 = .ok (.bipush 20, 2) := by decide +kernel
theorem dX10_take_73 : decode cX10_take 73 = .ok (.iload_n 1, 1) := by decide +kernel
theorem dX10_take_74 : decode cX10_take 74 = .ok (.imul, 1) := by decide +kernel
theorem dX10_take_75 : decode cX10_take 75 = .ok (.iload_n 2, 1) := by decide +kernel
theorem dX10_take_76 : decode cX10_take 76 = .ok (.iadd, 1) := by decide +kernel
theorem dX10_take_77 : decode cX10_take 77 = .ok (.aload_n 0, 1) := by decide +kernel
theorem dX10_take_78 : decode cX10_take 78 = .ok (.getfield 58, 3) := by decide +kernel
theorem dX10_take_81 : decode cX10_take 81 = .ok (.iload_n 2, 1) := by decide +kernel
theorem dX10_take_82 : decode cX10_take 82 = .ok (.iaload, 1) := by decide +kernel
theorem dX10_take_83 : decode cX10_take 83 = .ok (.iastore, 1) := by decide +kernel
theorem dX10_take_84 : decode cX10_take 84 = .ok (.aload_n 0, 1) := by decide +kernel
theorem dX10_take_85 : decode cX10_take 85 = .ok (.getfield 28, 3) := by decide +kernel
theorem dX10_take_88 : decode cX10_take 88 = .ok (.bipush 20, 2) := by decide +kernel
theorem dX10_take_90 : decode cX10_take 90 = .ok (.iload_n 1, 1) := by decide +kernel
theorem dX10_take_91 : decode cX10_take 91 = .ok (.imul, 1) := by decide +kernel
theorem dX10_take_92 : decode cX10_take 92 = .ok (.iload_n 2, 1) := by decide +kernel
theorem dX10_take_93 : decode cX10_take 93 = .ok (.iadd, 1) := by decide +kernel
theorem dX10_take_94 : decode cX10_take 94 = .ok (.aload_n 0, 1) := by decide +kernel
theorem dX10_take_95 : decode cX10_take 95 = .ok (.getfield 64, 3) := by decide +kernel
theorem dX10_take_98 : decode cX10_take 98 = .ok (.iload_n 2, 1) := by decide +kernel
theorem dX10_take_99 : decode cX10_take 99 = .ok (.iaload, 1) := by decide +kernel
theorem dX10_take_100 : decode cX10_take 100 = .ok (.iastore, 1) := by decide +kernel
theorem dX10_take_101 : decode cX10_take 101 = .ok (.iinc 2 1, 3) := by decide +kernel
theorem dX10_take_104 : decode cX10_take 104 = .ok (.goto (-45), 3) := by decide +kernel
theorem dX10_take_107 : decode cX10_take 107 = .ok (.iconst 0, 1) := by decide +kernel
theorem dX10_take_108 : decode cX10_take 108 = .ok (.istore_n 2, 1) := by decide +kernel
theorem dX10_take_109 : decode cX10_take 109 = .ok (.iload_n 2, 1) := by decide +kernel
theorem dX10_take_110 : decode cX10_take 110 = .ok (.sipush 200, 3) := by decide +kernel
theorem dX10_take_113 : decode cX10_take 113 = .ok (.if_icmp .ge 27, 3) := by decide +kernel
theorem dX10_take_116 : decode cX10_take 116 = .ok (.aload_n 0, 1) := by decide +kernel
theorem dX10_take_117 : decode cX10_take 117 = .ok (.getfield 25, 3) := by decide +kernel
theorem dX10_take_120 : decode cX10_take 120 = .ok (.sipush 200, 3) := by decide +kernel
theorem dX10_take_123 : decode cX10_take 123 = .ok (.iload_n 1, 1) := by decide +kernel
theorem dX10_take_124 : decode cX10_take 124 = .ok (.imul, 1) := by decide +kernel
theorem dX10_take_125 : decode cX10_take 125 = .ok (.iload_n 2, 1) := by decide +kernel
theorem dX10_take_126 : decode cX10_take 126 = .ok (.iadd, 1) := by decide +kernel
theorem dX10_take_127 : decode cX10_take 127 = .ok (.aload_n 0, 1) := by decide +kernel
theorem dX10_take_128 : decode cX10_take 128 = .ok (.getfield 61, 3) := by decide +kernel
theorem dX10_take_131 : decode cX10_take 131 = .ok (.iload_n 2, 1) := by decide +kernel
theorem dX10_take_132 : decode cX10_take 132 = .ok (.iaload, 1) := by decide +kernel
theorem dX10_take_133 : decode cX10_take 133 = .ok (.iastore, 1) := by decide +kernel
theorem dX10_take_134 : decode cX10_take 134 = .ok (.iinc 2 1, 3) := by decide +kernel
theorem dX10_take_137 : decode cX10_take 137 = .ok (.goto (-28), 3) := by decide +kernel
theorem dX10_take_140 : decode cX10_take 140 = .ok (.iconst 0, 1) := by decide +kernel
theorem dX10_take_141 : decode cX10_take 141 = .ok (.istore_n 2, 1) := by decide +kernel
theorem dX10_take_142 : decode cX10_take 142 = .ok (.iload_n 2, 1) := by decide +kernel
theorem dX10_take_143 : decode cX10_take 143 = .ok (.aload_n 0, 1) := by decide +kernel
theorem dX10_take_144 : decode cX10_take 144 = .ok (.getfield 161, 3) := by decide +kernel
theorem dX10_take_147 : decode cX10_take 147 = .ok (.if_icmp .ge 26, 3) := by decide +kernel
theorem dX10_take_150 : decode cX10_take 150 = .ok (.aload_n 0, 1) := by decide +kernel
theorem dX10_take_151 : decode cX10_take 151 = .ok (.getfield 37, 3) := by decide +kernel
theorem dX10_take_154 : decode cX10_take 154 = .ok (.bipush 40, 2) := by decide +kernel
theorem dX10_take_156 : decode cX10_take 156 = .ok (.iload_n 1, 1) := by decide +kernel
theorem dX10_take_157 : decode cX10_take 157 = .ok (.imul, 1) := by decide +kernel
theorem dX10_take_158 : decode cX10_take 158 = .ok (.iload_n 2, 1) := by decide +kernel
theorem dX10_take_159 : decode cX10_take 159 = .ok (.iadd, 1) := by decide +kernel
theorem dX10_take_160 : decode cX10_take 160 = .ok (.aload_n 0, 1) := by decide +kernel
theorem dX10_take_161 : decode cX10_take 161 = .ok (.getfield 67, 3) := by decide +kernel
theorem dX10_take_164 : decode cX10_take 164 = .ok (.iload_n 2, 1) := by decide +kernel
theorem dX10_take_165 : decode cX10_take 165 = .ok (.iaload, 1) := by decide +kernel
theorem dX10_take_166 : decode cX10_take 166 = .ok (.iastore, 1) := by decide +kernel
theorem dX10_take_167 : decode cX10_take 167 = .ok (.iinc 2 1, 3) := by decide +kernel
theorem dX10_take_170 : decode cX10_take 170 = .ok (.goto (-28), 3) := by decide +kernel
theorem dX10_take_173 : decode cX10_take 173 = .ok (.iconst 0, 1) := by decide +kernel
theorem dX10_take_174 : decode cX10_take 174 = .ok (.istore_n 2, 1) := by decide +kernel
theorem dX10_take_175 : decode cX10_take 175 = .ok (.iload_n 2, 1) := by decide +kernel
theorem dX10_take_176 : decode cX10_take 176 = .ok (.sipush 400, 3) := by decide +kernel
theorem dX10_take_179 : decode cX10_take 179 = .ok (.if_icmp .ge 27, 3) := by decide +kernel
theorem dX10_take_182 : decode cX10_take 182 = .ok (.aload_n 0, 1) := by decide +kernel
theorem dX10_take_183 : decode cX10_take 183 = .ok (.getfield 40, 3) := by decide +kernel
theorem dX10_take_186 : decode cX10_take 186 = .ok (.sipush 400, 3) := by decide +kernel
theorem dX10_take_189 : decode cX10_take 189 = .ok (.iload_n 1, 1) := by decide +kernel
theorem dX10_take_190 : decode cX10_take 190 = .ok (.imul, 1) := by decide +kernel
theorem dX10_take_191 : decode cX10_take 191 = .ok (.iload_n 2, 1) := by decide +kernel
theorem dX10_take_192 : decode cX10_take 192 = .ok (.iadd, 1) := by decide +kernel
theorem dX10_take_193 : decode cX10_take 193 = .ok (.aload_n 0, 1) := by decide +kernel
theorem dX10_take_194 : decode cX10_take 194 = .ok (.getfield 70, 3) := by decide +kernel
theorem dX10_take_197 : decode cX10_take 197 = .ok (.iload_n 2, 1) := by decide +kernel
theorem dX10_take_198 : decode cX10_take 198 = .ok (.iaload, 1) := by decide +kernel
theorem dX10_take_199 : decode cX10_take 199 = .ok (.iastore, 1) := by decide +kernel
theorem dX10_take_200 : decode cX10_take 200 = .ok (.iinc 2 1, 3) := by decide +kernel
theorem dX10_take_203 : decode cX10_take 203 = .ok (.goto (-28), 3) := by decide +kernel
theorem dX10_take_206 : decode cX10_take 206 = .ok (.aload_n 0, 1) := by decide +kernel
theorem dX10_take_207 : decode cX10_take 207 = .ok (.iconst 0, 1) := by decide +kernel
theorem dX10_take_208 : decode cX10_take 208 = .ok (.putfield 126, 3) := by decide +kernel
theorem dX10_take_211 : decode cX10_take 211 = .ok (.aload_n 0, 1) := by decide +kernel
theorem dX10_take_212 : decode cX10_take 212 = .ok (.invokevirtual 123, 3) := by decide +kernel
theorem dX10_take_215 : decode cX10_take 215 = .ok (.aload_n 0, 1) := by decide +kernel
theorem dX10_take_216 : decode cX10_take 216 = .ok (.getfield 164, 3) := by decide +kernel
theorem dX10_take_219 : decode cX10_take 219 = .ok (.ireturn, 1) := by decide +kernel
theorem dX10_isBook_0 : decode cX10_isBook 0 = .ok (.iload_n 0, 1) := by decide +kernel
theorem dX10_isBook_1 : decode cX10_isBook 1 = .ok (.ifCond .eq 8, 3) := by decide +kernel
theorem dX10_isBook_4 : decode cX10_isBook 4 = .ok (.iload_n 0, 1) := by decide +kernel
theorem dX10_isBook_5 : decode cX10_isBook 5 = .ok (.iconst 1, 1) := by decide +kernel
theorem dX10_isBook_6 : decode cX10_isBook 6 = .ok (.if_icmp .ne 7, 3) := by decide +kernel
theorem dX10_isBook_9 : decode cX10_isBook 9 = .ok (.iconst 1, 1) := by decide +kernel
theorem dX10_isBook_10 : decode cX10_isBook 10 = .ok (.goto 4, 3) := by decide +kernel
theorem dX10_isBook_13 : decode cX10_isBook 13 = .ok (.iconst 0, 1) := by decide +kernel
theorem dX10_isBook_14 : decode cX10_isBook 14 = .ok (.ireturn, 1) := by decide +kernel
theorem dX10_isSentence_0 : decode cX10_isSentence 0 = .ok (.iload_n 1, 1) := by decide +kernel
theorem dX10_isSentence_1 : decode cX10_isSentence 1 = .ok (.invokestatic 198, 3) := by decide +kernel
theorem dX10_isSentence_4 : decode cX10_isSentence 4 = .ok (.ifCond .eq 25, 3) := by decide +kernel
theorem dX10_isSentence_7 : decode cX10_isSentence 7 = .ok (.iload_n 2, 1) := by decide +kernel
theorem dX10_isSentence_8 : decode cX10_isSentence 8 = .ok (.i2l, 1) := by decide +kernel
theorem dX10_isSentence_9 : decode cX10_isSentence 9 = .ok (.lconst 0, 1) := by decide +kernel
theorem dX10_isSentence_10 : decode cX10_isSentence 10 = .ok (.aload_n 0, 1) := by decide +kernel
theorem dX10_isSentence_11 : decode cX10_isSentence 11 = .ok (.getfield 19, 3) := by decide +kernel
theorem dX10_isSentence_14 : decode cX10_isSentence 14 = .ok (.iload_n 1, 1) := by decide +kernel
theorem dX10_isSentence_15 : decode cX10_isSentence 15 = .ok (.iaload, 1) := by decide +kernel
theorem dX10_isSentence_16 : decode cX10_isSentence 16 = .ok (.iconst 1, 1) := by decide +kernel
theorem dX10_isSentence_17 : decode cX10_isSentence 17 = .ok (.isub, 1) := by decide +kernel
theorem dX10_isSentence_18 : decode cX10_isSentence 18 = .ok (.i2l, 1) := by decide +kernel
theorem dX10_isSentence_19 : decode cX10_isSentence 19 = .ok (.invokestatic 131, 3) := by decide +kernel
theorem dX10_isSentence_22 : decode cX10_isSentence 22 = .ok (.ifCond .eq 7, 3) := by decide +kernel
theorem dX10_isSentence_25 : decode cX10_isSentence 25 = .ok (.iconst 1, 1) := by decide +kernel
theorem dX10_isSentence_26 : decode cX10_isSentence 26 = .ok (.goto 4, 3) := by decide +kernel
theorem dX10_isSentence_29 : decode cX10_isSentence 29 = .ok (.iconst 0, 1) := by decide +kernel
theorem dX10_isSentence_30 : decode cX10_isSentence 30 = .ok (.ireturn, 1) := by decide +kernel
theorem dX10_kindOf_0 : decode cX10_kindOf 0 = .ok (.aload_n 0, 1) := by decide +kernel
theorem dX10_kindOf_1 : decode cX10_kindOf 1 = .ok (.getfield 25, 3) := by decide +kernel
theorem dX10_kindOf_4 : decode cX10_kindOf 4 = .ok (.sipush 200, 3) := by decide +kernel
theorem dX10_kindOf_7 : decode cX10_kindOf 7 = .ok (.iload_n 1, 1) := by decide +kernel
theorem dX10_kindOf_8 : decode cX10_kindOf 8 = .ok (.imul, 1) := by decide +kernel
theorem dX10_kindOf_9 : decode cX10_kindOf 9 = .ok (.bipush 10, 2) := by decide +kernel
theorem dX10_kindOf_11 : decode cX10_kindOf 11 = .ok (.iload_n 2, 1) := by decide +kernel
theorem dX10_kindOf_12 : decode cX10_kindOf 12 = .ok (.imul, 1) := by decide +kernel
theorem dX10_kindOf_13 : decode cX10_kindOf 13 = .ok (.iadd, 1) := by decide +kernel
theorem dX10_kindOf_14 : decode cX10_kindOf 14 = .ok (.iload_n 3, 1) := by decide +kernel
theorem dX10_kindOf_15 : decode cX10_kindOf 15 = .ok (.iadd, 1) := by decide +kernel
theorem dX10_kindOf_16 : decode cX10_kindOf 16 = .ok (.iaload, 1) := by decide +kernel
theorem dX10_kindOf_17 : decode cX10_kindOf 17 = .ok (.ireturn, 1) := by decide +kernel
theorem dX10_lengthOf_0 : decode cX10_lengthOf 0 = .ok (.iconst 0, 1) := by decide +kernel
theorem dX10_lengthOf_1 : decode cX10_lengthOf 1 = .ok (.istore_n 3, 1) := by decide +kernel
theorem dX10_lengthOf_2 : decode cX10_lengthOf 2 = .ok (.iconst 0, 1) := by decide +kernel
theorem dX10_lengthOf_3 : decode cX10_lengthOf 3 = .ok (.istore 4, 2) := by decide +kernel
theorem dX10_lengthOf_5 : decode cX10_lengthOf 5 = .ok (.iload 4, 2) := by decide +kernel
theorem dX10_lengthOf_7 : decode cX10_lengthOf 7 = .ok (.aload_n 0, 1) := by decide +kernel
theorem dX10_lengthOf_8 : decode cX10_lengthOf 8 = .ok (.getfield 22, 3) := by decide +kernel
theorem dX10_lengthOf_11 : decode cX10_lengthOf 11 = .ok (.bipush 20, 2) := by decide +kernel
theorem dX10_lengthOf_13 : decode cX10_lengthOf 13 = .ok (.iload_n 1, 1) := by decide +kernel
theorem dX10_lengthOf_14 : decode cX10_lengthOf 14 = .ok (.imul, 1) := by decide +kernel
theorem dX10_lengthOf_15 : decode cX10_lengthOf 15 = .ok (.iload_n 2, 1) := by decide +kernel
theorem dX10_lengthOf_16 : decode cX10_lengthOf 16 = .ok (.iadd, 1) := by decide +kernel
theorem dX10_lengthOf_17 : decode cX10_lengthOf 17 = .ok (.iaload, 1) := by decide +kernel
theorem dX10_lengthOf_18 : decode cX10_lengthOf 18 = .ok (.if_icmp .ge 30, 3) := by decide +kernel
theorem dX10_lengthOf_21 : decode cX10_lengthOf 21 = .ok (.iload_n 3, 1) := by decide +kernel
theorem dX10_lengthOf_22 : decode cX10_lengthOf 22 = .ok (.aload_n 0, 1) := by decide +kernel
theorem dX10_lengthOf_23 : decode cX10_lengthOf 23 = .ok (.getfield 37, 3) := by decide +kernel
theorem dX10_lengthOf_26 : decode cX10_lengthOf 26 = .ok (.bipush 40, 2) := by decide +kernel
theorem dX10_lengthOf_28 : decode cX10_lengthOf 28 = .ok (.iload_n 1, 1) := by decide +kernel
theorem dX10_lengthOf_29 : decode cX10_lengthOf 29 = .ok (.imul, 1) := by decide +kernel
theorem dX10_lengthOf_30 : decode cX10_lengthOf 30 = .ok (.aload_n 0, 1) := by decide +kernel
theorem dX10_lengthOf_31 : decode cX10_lengthOf 31 = .ok (.iload_n 1, 1) := by decide +kernel
theorem dX10_lengthOf_32 : decode cX10_lengthOf 32 = .ok (.iload_n 2, 1) := by decide +kernel
theorem dX10_lengthOf_33 : decode cX10_lengthOf 33 = .ok (.iload 4, 2) := by decide +kernel
theorem dX10_lengthOf_35 : decode cX10_lengthOf 35 = .ok (.invokevirtual 201, 3) := by decide +kernel
theorem dX10_lengthOf_38 : decode cX10_lengthOf 38 = .ok (.iadd, 1) := by decide +kernel
theorem dX10_lengthOf_39 : decode cX10_lengthOf 39 = .ok (.iaload, 1) := by decide +kernel
theorem dX10_lengthOf_40 : decode cX10_lengthOf 40 = .ok (.iadd, 1) := by decide +kernel
theorem dX10_lengthOf_41 : decode cX10_lengthOf 41 = .ok (.istore_n 3, 1) := by decide +kernel
theorem dX10_lengthOf_42 : decode cX10_lengthOf 42 = .ok (.iinc 4 1, 3) := by decide +kernel
theorem dX10_lengthOf_45 : decode cX10_lengthOf 45 = .ok (.goto (-40), 3) := by decide +kernel
theorem dX10_lengthOf_48 : decode cX10_lengthOf 48 = .ok (.iload_n 3, 1) := by decide +kernel
theorem dX10_lengthOf_49 : decode cX10_lengthOf 49 = .ok (.ireturn, 1) := by decide +kernel
theorem dX10_lengthOfAll_0 : decode cX10_lengthOfAll 0 = .ok (.iconst 0, 1) := by decide +kernel
theorem dX10_lengthOfAll_1 : decode cX10_lengthOfAll 1 = .ok (.istore_n 2, 1) := by decide +kernel
theorem dX10_lengthOfAll_2 : decode cX10_lengthOfAll 2 = .ok (.iconst 0, 1) := by decide +kernel
theorem dX10_lengthOfAll_3 : decode cX10_lengthOfAll 3 = .ok (.istore_n 3, 1) := by decide +kernel
theorem dX10_lengthOfAll_4 : decode cX10_lengthOfAll 4 = .ok (.iload_n 3, 1) := by decide +kernel
theorem dX10_lengthOfAll_5 : decode cX10_lengthOfAll 5 = .ok (.aload_n 0, 1) := by decide +kernel
theorem dX10_lengthOfAll_6 : decode cX10_lengthOfAll 6 = .ok (.getfield 19, 3) := by decide +kernel
theorem dX10_lengthOfAll_9 : decode cX10_lengthOfAll 9 = .ok (.iload_n 1, 1) := by decide +kernel
theorem dX10_lengthOfAll_10 : decode cX10_lengthOfAll 10 = .ok (.iaload, 1) := by decide +kernel
theorem dX10_lengthOfAll_11 : decode cX10_lengthOfAll 11 = .ok (.if_icmp .ge 18, 3) := by decide +kernel
theorem dX10_lengthOfAll_14 : decode cX10_lengthOfAll 14 = .ok (.iload_n 2, 1) := by decide +kernel
theorem dX10_lengthOfAll_15 : decode cX10_lengthOfAll 15 = .ok (.aload_n 0, 1) := by decide +kernel
theorem dX10_lengthOfAll_16 : decode cX10_lengthOfAll 16 = .ok (.iload_n 1, 1) := by decide +kernel
theorem dX10_lengthOfAll_17 : decode cX10_lengthOfAll 17 = .ok (.iload_n 3, 1) := by decide +kernel
theorem dX10_lengthOfAll_18 : decode cX10_lengthOfAll 18 = .ok (.invokevirtual 205, 3) := by decide +kernel
theorem dX10_lengthOfAll_21 : decode cX10_lengthOfAll 21 = .ok (.iadd, 1) := by decide +kernel
theorem dX10_lengthOfAll_22 : decode cX10_lengthOfAll 22 = .ok (.istore_n 2, 1) := by decide +kernel
theorem dX10_lengthOfAll_23 : decode cX10_lengthOfAll 23 = .ok (.iinc 3 1, 3) := by decide +kernel
theorem dX10_lengthOfAll_26 : decode cX10_lengthOfAll 26 = .ok (.goto (-22), 3) := by decide +kernel
theorem dX10_lengthOfAll_29 : decode cX10_lengthOfAll 29 = .ok (.iload_n 2, 1) := by decide +kernel
theorem dX10_lengthOfAll_30 : decode cX10_lengthOfAll 30 = .ok (.ireturn, 1) := by decide +kernel
theorem dX10_count_0 : decode cX10_count 0 = .ok (.iload_n 1, 1) := by decide +kernel
theorem dX10_count_1 : decode cX10_count 1 = .ok (.invokestatic 198, 3) := by decide +kernel
theorem dX10_count_4 : decode cX10_count 4 = .ok (.ifCond .ne 6, 3) := by decide +kernel
theorem dX10_count_7 : decode cX10_count 7 = .ok (.ldc 194, 2) := by decide +kernel
theorem dX10_count_9 : decode cX10_count 9 = .ok (.ireturn, 1) := by decide +kernel
theorem dX10_count_10 : decode cX10_count 10 = .ok (.iconst 0, 1) := by decide +kernel
theorem dX10_count_11 : decode cX10_count 11 = .ok (.istore_n 3, 1) := by decide +kernel
theorem dX10_count_12 : decode cX10_count 12 = .ok (.iconst 0, 1) := by decide +kernel
theorem dX10_count_13 : decode cX10_count 13 = .ok (.istore 4, 2) := by decide +kernel
theorem dX10_count_15 : decode cX10_count 15 = .ok (.iload 4, 2) := by decide +kernel
theorem dX10_count_17 : decode cX10_count 17 = .ok (.aload_n 0, 1) := by decide +kernel
theorem dX10_count_18 : decode cX10_count 18 = .ok (.getfield 19, 3) := by decide +kernel
theorem dX10_count_21 : decode cX10_count 21 = .ok (.iload_n 1, 1) := by decide +kernel
theorem dX10_count_22 : decode cX10_count 22 = .ok (.iaload, 1) := by decide +kernel
theorem dX10_count_23 : decode cX10_count 23 = .ok (.if_icmp .ge 24, 3) := by decide +kernel
theorem dX10_count_26 : decode cX10_count 26 = .ok (.iload_n 3, 1) := by decide +kernel
theorem dX10_count_27 : decode cX10_count 27 = .ok (.aload_n 0, 1) := by decide +kernel
theorem dX10_count_28 : decode cX10_count 28 = .ok (.getfield 22, 3) := by decide +kernel
theorem dX10_count_31 : decode cX10_count 31 = .ok (.bipush 20, 2) := by decide +kernel
theorem dX10_count_33 : decode cX10_count 33 = .ok (.iload_n 1, 1) := by decide +kernel
theorem dX10_count_34 : decode cX10_count 34 = .ok (.imul, 1) := by decide +kernel
theorem dX10_count_35 : decode cX10_count 35 = .ok (.iload 4, 2) := by decide +kernel
theorem dX10_count_37 : decode cX10_count 37 = .ok (.iadd, 1) := by decide +kernel
theorem dX10_count_38 : decode cX10_count 38 = .ok (.iaload, 1) := by decide +kernel
theorem dX10_count_39 : decode cX10_count 39 = .ok (.iadd, 1) := by decide +kernel
theorem dX10_count_40 : decode cX10_count 40 = .ok (.istore_n 3, 1) := by decide +kernel
theorem dX10_count_41 : decode cX10_count 41 = .ok (.iinc 4 1, 3) := by decide +kernel
theorem dX10_count_44 : decode cX10_count 44 = .ok (.goto (-29), 3) := by decide +kernel
theorem dX10_count_47 : decode cX10_count 47 = .ok (.iload_n 2, 1) := by decide +kernel
theorem dX10_count_48 : decode cX10_count 48 = .ok (.ifCond .ne 12, 3) := by decide +kernel
theorem dX10_count_51 : decode cX10_count 51 = .ok (.aload_n 0, 1) := by decide +kernel
theorem dX10_count_52 : decode cX10_count 52 = .ok (.getfield 19, 3) := by decide +kernel
theorem dX10_count_55 : decode cX10_count 55 = .ok (.iload_n 1, 1) := by decide +kernel
theorem dX10_count_56 : decode cX10_count 56 = .ok (.iaload, 1) := by decide +kernel
theorem dX10_count_57 : decode cX10_count 57 = .ok (.goto 55, 3) := by decide +kernel
theorem dX10_count_60 : decode cX10_count 60 = .ok (.iload_n 2, 1) := by decide +kernel
theorem dX10_count_61 : decode cX10_count 61 = .ok (.iconst 1, 1) := by decide +kernel
theorem dX10_count_62 : decode cX10_count 62 = .ok (.if_icmp .ne 12, 3) := by decide +kernel
theorem dX10_count_65 : decode cX10_count 65 = .ok (.aload_n 0, 1) := by decide +kernel
theorem dX10_count_66 : decode cX10_count 66 = .ok (.getfield 31, 3) := by decide +kernel
theorem dX10_count_69 : decode cX10_count 69 = .ok (.iload_n 1, 1) := by decide +kernel
theorem dX10_count_70 : decode cX10_count 70 = .ok (.iaload, 1) := by decide +kernel
theorem dX10_count_71 : decode cX10_count 71 = .ok (.goto 41, 3) := by decide +kernel
theorem dX10_count_74 : decode cX10_count 74 = .ok (.iload_n 2, 1) := by decide +kernel
theorem dX10_count_75 : decode cX10_count 75 = .ok (.iconst 2, 1) := by decide +kernel
theorem dX10_count_76 : decode cX10_count 76 = .ok (.if_icmp .ne 12, 3) := by decide +kernel
theorem dX10_count_79 : decode cX10_count 79 = .ok (.aload_n 0, 1) := by decide +kernel
theorem dX10_count_80 : decode cX10_count 80 = .ok (.getfield 34, 3) := by decide +kernel
theorem dX10_count_83 : decode cX10_count 83 = .ok (.iload_n 1, 1) := by decide +kernel
theorem dX10_count_84 : decode cX10_count 84 = .ok (.iaload, 1) := by decide +kernel
theorem dX10_count_85 : decode cX10_count 85 = .ok (.goto 27, 3) := by decide +kernel
theorem dX10_count_88 : decode cX10_count 88 = .ok (.iload_n 2, 1) := by decide +kernel
theorem dX10_count_89 : decode cX10_count 89 = .ok (.iconst 3, 1) := by decide +kernel
theorem dX10_count_90 : decode cX10_count 90 = .ok (.if_icmp .ne 7, 3) := by decide +kernel
theorem dX10_count_93 : decode cX10_count 93 = .ok (.iload_n 3, 1) := by decide +kernel
theorem dX10_count_94 : decode cX10_count 94 = .ok (.goto 18, 3) := by decide +kernel
theorem dX10_count_97 : decode cX10_count 97 = .ok (.iload_n 2, 1) := by decide +kernel
theorem dX10_count_98 : decode cX10_count 98 = .ok (.iconst 4, 1) := by decide +kernel
theorem dX10_count_99 : decode cX10_count 99 = .ok (.if_icmp .ne 11, 3) := by decide +kernel
theorem dX10_count_102 : decode cX10_count 102 = .ok (.aload_n 0, 1) := by decide +kernel
theorem dX10_count_103 : decode cX10_count 103 = .ok (.iload_n 1, 1) := by decide +kernel
theorem dX10_count_104 : decode cX10_count 104 = .ok (.invokevirtual 209, 3) := by decide +kernel
theorem dX10_count_107 : decode cX10_count 107 = .ok (.goto 5, 3) := by decide +kernel
theorem dX10_count_110 : decode cX10_count 110 = .ok (.ldc 135, 2) := by decide +kernel
theorem dX10_count_112 : decode cX10_count 112 = .ok (.ireturn, 1) := by decide +kernel
theorem dX10_sentence_0 : decode cX10_sentence 0 = .ok (.aload_n 0, 1) := by decide +kernel
theorem dX10_sentence_1 : decode cX10_sentence 1 = .ok (.iload_n 1, 1) := by decide +kernel
theorem dX10_sentence_2 : decode cX10_sentence 2 = .ok (.iload_n 2, 1) := by decide +kernel
theorem dX10_sentence_3 : decode cX10_sentence 3 = .ok (.invokevirtual 212, 3) := by decide +kernel
theorem dX10_sentence_6 : decode cX10_sentence 6 = .ok (.ifCond .ne 6, 3) := by decide +kernel
theorem dX10_sentence_9 : decode cX10_sentence 9 = .ok (.ldc 194, 2) := by decide +kernel
theorem dX10_sentence_11 : decode cX10_sentence 11 = .ok (.ireturn, 1) := by decide +kernel
theorem dX10_sentence_12 : decode cX10_sentence 12 = .ok (.iload_n 3, 1) := by decide +kernel
theorem dX10_sentence_13 : decode cX10_sentence 13 = .ok (.ifCond .ne 17, 3) := by decide +kernel
theorem dX10_sentence_16 : decode cX10_sentence 16 = .ok (.aload_n 0, 1) := by decide +kernel
theorem dX10_sentence_17 : decode cX10_sentence 17 = .ok (.getfield 22, 3) := by decide +kernel
theorem dX10_sentence_20 : decode cX10_sentence 20 = .ok (.bipush 20, 2) := by decide +kernel
theorem dX10_sentence_22 : decode cX10_sentence 22 = .ok (.iload_n 1, 1) := by decide +kernel
theorem dX10_sentence_23 : decode cX10_sentence 23 = .ok (.imul, 1) := by decide +kernel
theorem dX10_sentence_24 : decode cX10_sentence 24 = .ok (.iload_n 2, 1) := by decide +kernel
theorem dX10_sentence_25 : decode cX10_sentence 25 = .ok (.iadd, 1) := by decide +kernel
theorem dX10_sentence_26 : decode cX10_sentence 26 = .ok (.iaload, 1) := by decide +kernel
theorem dX10_sentence_27 : decode cX10_sentence 27 = .ok (.goto 38, 3) := by decide +kernel
theorem dX10_sentence_30 : decode cX10_sentence 30 = .ok (.iload_n 3, 1) := by decide +kernel
theorem dX10_sentence_31 : decode cX10_sentence 31 = .ok (.iconst 1, 1) := by decide +kernel
theorem dX10_sentence_32 : decode cX10_sentence 32 = .ok (.if_icmp .ne 12, 3) := by decide +kernel
theorem dX10_sentence_35 : decode cX10_sentence 35 = .ok (.aload_n 0, 1) := by decide +kernel
theorem dX10_sentence_36 : decode cX10_sentence 36 = .ok (.iload_n 1, 1) := by decide +kernel
theorem dX10_sentence_37 : decode cX10_sentence 37 = .ok (.iload_n 2, 1) := by decide +kernel
theorem dX10_sentence_38 : decode cX10_sentence 38 = .ok (.invokevirtual 205, 3) := by decide +kernel
theorem dX10_sentence_41 : decode cX10_sentence 41 = .ok (.goto 24, 3) := by decide +kernel
theorem dX10_sentence_44 : decode cX10_sentence 44 = .ok (.iload_n 3, 1) := by decide +kernel
theorem dX10_sentence_45 : decode cX10_sentence 45 = .ok (.iconst 2, 1) := by decide +kernel
theorem dX10_sentence_46 : decode cX10_sentence 46 = .ok (.if_icmp .ne 17, 3) := by decide +kernel
theorem dX10_sentence_49 : decode cX10_sentence 49 = .ok (.aload_n 0, 1) := by decide +kernel
theorem dX10_sentence_50 : decode cX10_sentence 50 = .ok (.getfield 28, 3) := by decide +kernel
theorem dX10_sentence_53 : decode cX10_sentence 53 = .ok (.bipush 20, 2) := by decide +kernel
theorem dX10_sentence_55 : decode cX10_sentence 55 = .ok (.iload_n 1, 1) := by decide +kernel
theorem dX10_sentence_56 : decode cX10_sentence 56 = .ok (.imul, 1) := by decide +kernel
theorem dX10_sentence_57 : decode cX10_sentence 57 = .ok (.iload_n 2, 1) := by decide +kernel
theorem dX10_sentence_58 : decode cX10_sentence 58 = .ok (.iadd, 1) := by decide +kernel
theorem dX10_sentence_59 : decode cX10_sentence 59 = .ok (.iaload, 1) := by decide +kernel
theorem dX10_sentence_60 : decode cX10_sentence 60 = .ok (.goto 5, 3) := by decide +kernel
theorem dX10_sentence_63 : decode cX10_sentence 63 = .ok (.ldc 135, 2) := by decide +kernel
theorem dX10_sentence_65 : decode cX10_sentence 65 = .ok (.ireturn, 1) := by decide +kernel
theorem dX10_isWord_0 : decode cX10_isWord 0 = .ok (.aload_n 0, 1) := by decide +kernel
theorem dX10_isWord_1 : decode cX10_isWord 1 = .ok (.iload_n 1, 1) := by decide +kernel
theorem dX10_isWord_2 : decode cX10_isWord 2 = .ok (.iload_n 2, 1) := by decide +kernel
theorem dX10_isWord_3 : decode cX10_isWord 3 = .ok (.invokevirtual 212, 3) := by decide +kernel
theorem dX10_isWord_6 : decode cX10_isWord 6 = .ok (.ifCond .eq 30, 3) := by decide +kernel
theorem dX10_isWord_9 : decode cX10_isWord 9 = .ok (.iload_n 3, 1) := by decide +kernel
theorem dX10_isWord_10 : decode cX10_isWord 10 = .ok (.i2l, 1) := by decide +kernel
theorem dX10_isWord_11 : decode cX10_isWord 11 = .ok (.lconst 0, 1) := by decide +kernel
theorem dX10_isWord_12 : decode cX10_isWord 12 = .ok (.aload_n 0, 1) := by decide +kernel
theorem dX10_isWord_13 : decode cX10_isWord 13 = .ok (.getfield 22, 3) := by decide +kernel
theorem dX10_isWord_16 : decode cX10_isWord 16 = .ok (.bipush 20, 2) := by decide +kernel
theorem dX10_isWord_18 : decode cX10_isWord 18 = .ok (.iload_n 1, 1) := by decide +kernel
theorem dX10_isWord_19 : decode cX10_isWord 19 = .ok (.imul, 1) := by decide +kernel
theorem dX10_isWord_20 : decode cX10_isWord 20 = .ok (.iload_n 2, 1) := by decide +kernel
theorem dX10_isWord_21 : decode cX10_isWord 21 = .ok (.iadd, 1) := by decide +kernel
theorem dX10_isWord_22 : decode cX10_isWord 22 = .ok (.iaload, 1) := by decide +kernel
theorem dX10_isWord_23 : decode cX10_isWord 23 = .ok (.iconst 1, 1) := by decide +kernel
theorem dX10_isWord_24 : decode cX10_isWord 24 = .ok (.isub, 1) := by decide +kernel
theorem dX10_isWord_25 : decode cX10_isWord 25 = .ok (.i2l, 1) := by decide +kernel
theorem dX10_isWord_26 : decode cX10_isWord 26 = .ok (.invokestatic 131, 3) := by decide +kernel
theorem dX10_isWord_29 : decode cX10_isWord 29 = .ok (.ifCond .eq 7, 3) := by decide +kernel
theorem dX10_isWord_32 : decode cX10_isWord 32 = .ok (.iconst 1, 1) := by decide +kernel
theorem dX10_isWord_33 : decode cX10_isWord 33 = .ok (.goto 4, 3) := by decide +kernel
theorem dX10_isWord_36 : decode cX10_isWord 36 = .ok (.iconst 0, 1) := by decide +kernel
theorem dX10_isWord_37 : decode cX10_isWord 37 = .ok (.ireturn, 1) := by decide +kernel
theorem dX10_word_0 : decode cX10_word 0 = .ok (.aload_n 0, 1) := by decide +kernel
theorem dX10_word_1 : decode cX10_word 1 = .ok (.iload_n 1, 1) := by decide +kernel
theorem dX10_word_2 : decode cX10_word 2 = .ok (.iload_n 2, 1) := by decide +kernel
theorem dX10_word_3 : decode cX10_word 3 = .ok (.iload_n 3, 1) := by decide +kernel
theorem dX10_word_4 : decode cX10_word 4 = .ok (.invokevirtual 216, 3) := by decide +kernel
theorem dX10_word_7 : decode cX10_word 7 = .ok (.ifCond .eq 13, 3) := by decide +kernel
theorem dX10_word_10 : decode cX10_word 10 = .ok (.aload_n 0, 1) := by decide +kernel
theorem dX10_word_11 : decode cX10_word 11 = .ok (.iload_n 1, 1) := by decide +kernel
theorem dX10_word_12 : decode cX10_word 12 = .ok (.iload_n 2, 1) := by decide +kernel
theorem dX10_word_13 : decode cX10_word 13 = .ok (.iload_n 3, 1) := by decide +kernel
theorem dX10_word_14 : decode cX10_word 14 = .ok (.invokevirtual 201, 3) := by decide +kernel
theorem dX10_word_17 : decode cX10_word 17 = .ok (.goto 5, 3) := by decide +kernel
theorem dX10_word_20 : decode cX10_word 20 = .ok (.ldc 194, 2) := by decide +kernel
theorem dX10_word_22 : decode cX10_word 22 = .ok (.ireturn, 1) := by decide +kernel
theorem dX10_isKind_0 : decode cX10_isKind 0 = .ok (.iload_n 1, 1) := by decide +kernel
theorem dX10_isKind_1 : decode cX10_isKind 1 = .ok (.invokestatic 198, 3) := by decide +kernel
theorem dX10_isKind_4 : decode cX10_isKind 4 = .ok (.ifCond .eq 25, 3) := by decide +kernel
theorem dX10_isKind_7 : decode cX10_isKind 7 = .ok (.iload_n 2, 1) := by decide +kernel
theorem dX10_isKind_8 : decode cX10_isKind 8 = .ok (.i2l, 1) := by decide +kernel
theorem dX10_isKind_9 : decode cX10_isKind 9 = .ok (.lconst 0, 1) := by decide +kernel
theorem dX10_isKind_10 : decode cX10_isKind 10 = .ok (.aload_n 0, 1) := by decide +kernel
theorem dX10_isKind_11 : decode cX10_isKind 11 = .ok (.getfield 34, 3) := by decide +kernel
theorem dX10_isKind_14 : decode cX10_isKind 14 = .ok (.iload_n 1, 1) := by decide +kernel
theorem dX10_isKind_15 : decode cX10_isKind 15 = .ok (.iaload, 1) := by decide +kernel
theorem dX10_isKind_16 : decode cX10_isKind 16 = .ok (.iconst 1, 1) := by decide +kernel
theorem dX10_isKind_17 : decode cX10_isKind 17 = .ok (.isub, 1) := by decide +kernel
theorem dX10_isKind_18 : decode cX10_isKind 18 = .ok (.i2l, 1) := by decide +kernel
theorem dX10_isKind_19 : decode cX10_isKind 19 = .ok (.invokestatic 131, 3) := by decide +kernel
theorem dX10_isKind_22 : decode cX10_isKind 22 = .ok (.ifCond .eq 7, 3) := by decide +kernel
theorem dX10_isKind_25 : decode cX10_isKind 25 = .ok (.iconst 1, 1) := by decide +kernel
theorem dX10_isKind_26 : decode cX10_isKind 26 = .ok (.goto 4, 3) := by decide +kernel
theorem dX10_isKind_29 : decode cX10_isKind 29 = .ok (.iconst 0, 1) := by decide +kernel
theorem dX10_isKind_30 : decode cX10_isKind 30 = .ok (.ireturn, 1) := by decide +kernel
theorem dX10_letter_0 : decode cX10_letter 0 = .ok (.aload_n 0, 1) := by decide +kernel
theorem dX10_letter_1 : decode cX10_letter 1 = .ok (.iload_n 1, 1) := by decide +kernel
theorem dX10_letter_2 : decode cX10_letter 2 = .ok (.iload_n 2, 1) := by decide +kernel
theorem dX10_letter_3 : decode cX10_letter 3 = .ok (.invokevirtual 220, 3) := by decide +kernel
theorem dX10_letter_6 : decode cX10_letter 6 = .ok (.ifCond .ne 6, 3) := by decide +kernel
theorem dX10_letter_9 : decode cX10_letter 9 = .ok (.ldc 194, 2) := by decide +kernel
theorem dX10_letter_11 : decode cX10_letter 11 = .ok (.ireturn, 1) := by decide +kernel
theorem dX10_letter_12 : decode cX10_letter 12 = .ok (.iload_n 3, 1) := by decide +kernel
theorem dX10_letter_13 : decode cX10_letter 13 = .ok (.i2l, 1) := by decide +kernel
theorem dX10_letter_14 : decode cX10_letter 14 = .ok (.lconst 0, 1) := by decide +kernel
theorem dX10_letter_15 : decode cX10_letter 15 = .ok (.aload_n 0, 1) := by decide +kernel
theorem dX10_letter_16 : decode cX10_letter 16 = .ok (.getfield 37, 3) := by decide +kernel
theorem dX10_letter_19 : decode cX10_letter 19 = .ok (.bipush 40, 2) := by decide +kernel
theorem dX10_letter_21 : decode cX10_letter 21 = .ok (.iload_n 1, 1) := by decide +kernel
theorem dX10_letter_22 : decode cX10_letter 22 = .ok (.imul, 1) := by decide +kernel
theorem dX10_letter_23 : decode cX10_letter 23 = .ok (.iload_n 2, 1) := by decide +kernel
theorem dX10_letter_24 : decode cX10_letter 24 = .ok (.iadd, 1) := by decide +kernel
theorem dX10_letter_25 : decode cX10_letter 25 = .ok (.iaload, 1) := by decide +kernel
theorem dX10_letter_26 : decode cX10_letter 26 = .ok (.iconst 1, 1) := by decide +kernel
theorem dX10_letter_27 : decode cX10_letter 27 = .ok (.isub, 1) := by decide +kernel
theorem dX10_letter_28 : decode cX10_letter 28 = .ok (.i2l, 1) := by decide +kernel
theorem dX10_letter_29 : decode cX10_letter 29 = .ok (.invokestatic 131, 3) := by decide +kernel
theorem dX10_letter_32 : decode cX10_letter 32 = .ok (.ifCond .eq 23, 3) := by decide +kernel
theorem dX10_letter_35 : decode cX10_letter 35 = .ok (.aload_n 0, 1) := by decide +kernel
theorem dX10_letter_36 : decode cX10_letter 36 = .ok (.getfield 40, 3) := by decide +kernel
theorem dX10_letter_39 : decode cX10_letter 39 = .ok (.sipush 400, 3) := by decide +kernel
theorem dX10_letter_42 : decode cX10_letter 42 = .ok (.iload_n 1, 1) := by decide +kernel
theorem dX10_letter_43 : decode cX10_letter 43 = .ok (.imul, 1) := by decide +kernel
theorem dX10_letter_44 : decode cX10_letter 44 = .ok (.bipush 10, 2) := by decide +kernel
theorem dX10_letter_46 : decode cX10_letter 46 = .ok (.iload_n 2, 1) := by decide +kernel
theorem dX10_letter_47 : decode cX10_letter 47 = .ok (.imul, 1) := by decide +kernel
theorem dX10_letter_48 : decode cX10_letter 48 = .ok (.iadd, 1) := by decide +kernel
theorem dX10_letter_49 : decode cX10_letter 49 = .ok (.iload_n 3, 1) := by decide +kernel
theorem dX10_letter_50 : decode cX10_letter 50 = .ok (.iadd, 1) := by decide +kernel
theorem dX10_letter_51 : decode cX10_letter 51 = .ok (.iaload, 1) := by decide +kernel
theorem dX10_letter_52 : decode cX10_letter 52 = .ok (.goto 4, 3) := by decide +kernel
theorem dX10_letter_55 : decode cX10_letter 55 = .ok (.iconst (-1), 1) := by decide +kernel
theorem dX10_letter_56 : decode cX10_letter 56 = .ok (.ireturn, 1) := by decide +kernel
theorem dX10_change_0 : decode cX10_change 0 = .ok (.aload_n 0, 1) := by decide +kernel
theorem dX10_change_1 : decode cX10_change 1 = .ok (.iload_n 1, 1) := by decide +kernel
theorem dX10_change_2 : decode cX10_change 2 = .ok (.iload_n 2, 1) := by decide +kernel
theorem dX10_change_3 : decode cX10_change 3 = .ok (.iload_n 3, 1) := by decide +kernel
theorem dX10_change_4 : decode cX10_change 4 = .ok (.invokevirtual 216, 3) := by decide +kernel
theorem dX10_change_7 : decode cX10_change 7 = .ok (.ifCond .eq 13, 3) := by decide +kernel
theorem dX10_change_10 : decode cX10_change 10 = .ok (.aload_n 0, 1) := by decide +kernel
theorem dX10_change_11 : decode cX10_change 11 = .ok (.iload_n 1, 1) := by decide +kernel
theorem dX10_change_12 : decode cX10_change 12 = .ok (.iload 4, 2) := by decide +kernel
theorem dX10_change_14 : decode cX10_change 14 = .ok (.invokevirtual 220, 3) := by decide +kernel
theorem dX10_change_17 : decode cX10_change 17 = .ok (.ifCond .ne 6, 3) := by decide +kernel
theorem dX10_change_20 : decode cX10_change 20 = .ok (.ldc 194, 2) := by decide +kernel
theorem dX10_change_22 : decode cX10_change 22 = .ok (.ireturn, 1) := by decide +kernel
theorem dX10_change_23 : decode cX10_change 23 = .ok (.aload_n 0, 1) := by decide +kernel
theorem dX10_change_24 : decode cX10_change 24 = .ok (.iload_n 1, 1) := by decide +kernel
theorem dX10_change_25 : decode cX10_change 25 = .ok (.iload_n 2, 1) := by decide +kernel
theorem dX10_change_26 : decode cX10_change 26 = .ok (.iload_n 3, 1) := by decide +kernel
theorem dX10_change_27 : decode cX10_change 27 = .ok (.invokevirtual 201, 3) := by decide +kernel
theorem dX10_change_30 : decode cX10_change 30 = .ok (.istore 5, 2) := by decide +kernel
theorem dX10_change_32 : decode cX10_change 32 = .ok (.aload_n 0, 1) := by decide +kernel
theorem dX10_change_33 : decode cX10_change 33 = .ok (.getfield 25, 3) := by decide +kernel
theorem dX10_change_36 : decode cX10_change 36 = .ok (.sipush 200, 3) := by decide +kernel
theorem dX10_change_39 : decode cX10_change 39 = .ok (.iload_n 1, 1) := by decide +kernel
theorem dX10_change_40 : decode cX10_change 40 = .ok (.imul, 1) := by decide +kernel
theorem dX10_change_41 : decode cX10_change 41 = .ok (.bipush 10, 2) := by decide +kernel
theorem dX10_change_43 : decode cX10_change 43 = .ok (.iload_n 2, 1) := by decide +kernel
theorem dX10_change_44 : decode cX10_change 44 = .ok (.imul, 1) := by decide +kernel
theorem dX10_change_45 : decode cX10_change 45 = .ok (.iadd, 1) := by decide +kernel
theorem dX10_change_46 : decode cX10_change 46 = .ok (.iload_n 3, 1) := by decide +kernel
theorem dX10_change_47 : decode cX10_change 47 = .ok (.iadd, 1) := by decide +kernel
theorem dX10_change_48 : decode cX10_change 48 = .ok (.iload 4, 2) := by decide +kernel
theorem dX10_change_50 : decode cX10_change 50 = .ok (.iastore, 1) := by decide +kernel
theorem dX10_change_51 : decode cX10_change 51 = .ok (.iload 5, 2) := by decide +kernel
theorem dX10_change_53 : decode cX10_change 53 = .ok (.ireturn, 1) := by decide +kernel
theorem dX10_fast_0 : decode cX10_fast 0 = .ok (.aload_n 0, 1) := by decide +kernel
theorem dX10_fast_1 : decode cX10_fast 1 = .ok (.iconst 0, 1) := by decide +kernel
theorem dX10_fast_2 : decode cX10_fast 2 = .ok (.iload_n 1, 1) := by decide +kernel
theorem dX10_fast_3 : decode cX10_fast 3 = .ok (.invokevirtual 212, 3) := by decide +kernel
theorem dX10_fast_6 : decode cX10_fast 6 = .ok (.ifCond .eq 12, 3) := by decide +kernel
theorem dX10_fast_9 : decode cX10_fast 9 = .ok (.aload_n 0, 1) := by decide +kernel
theorem dX10_fast_10 : decode cX10_fast 10 = .ok (.iconst 1, 1) := by decide +kernel
theorem dX10_fast_11 : decode cX10_fast 11 = .ok (.iload_n 2, 1) := by decide +kernel
theorem dX10_fast_12 : decode cX10_fast 12 = .ok (.invokevirtual 212, 3) := by decide +kernel
theorem dX10_fast_15 : decode cX10_fast 15 = .ok (.ifCond .ne 6, 3) := by decide +kernel
theorem dX10_fast_18 : decode cX10_fast 18 = .ok (.ldc 194, 2) := by decide +kernel
theorem dX10_fast_20 : decode cX10_fast 20 = .ok (.ireturn, 1) := by decide +kernel
theorem dX10_fast_21 : decode cX10_fast 21 = .ok (.aload_n 0, 1) := by decide +kernel
theorem dX10_fast_22 : decode cX10_fast 22 = .ok (.getfield 43, 3) := by decide +kernel
theorem dX10_fast_25 : decode cX10_fast 25 = .ok (.iload_n 1, 1) := by decide +kernel
theorem dX10_fast_26 : decode cX10_fast 26 = .ok (.iaload, 1) := by decide +kernel
theorem dX10_fast_27 : decode cX10_fast 27 = .ok (.ifCond .ge 12, 3) := by decide +kernel
theorem dX10_fast_30 : decode cX10_fast 30 = .ok (.aload_n 0, 1) := by decide +kernel
theorem dX10_fast_31 : decode cX10_fast 31 = .ok (.getfield 46, 3) := by decide +kernel
theorem dX10_fast_34 : decode cX10_fast 34 = .ok (.iload_n 2, 1) := by decide +kernel
theorem dX10_fast_35 : decode cX10_fast 35 = .ok (.iaload, 1) := by decide +kernel
theorem dX10_fast_36 : decode cX10_fast 36 = .ok (.ifCond .lt 7, 3) := by decide +kernel
theorem dX10_fast_39 : decode cX10_fast 39 = .ok (.iconst 1, 1) := by decide +kernel
theorem dX10_fast_40 : decode cX10_fast 40 = .ok (.goto 4, 3) := by decide +kernel
theorem dX10_fast_43 : decode cX10_fast 43 = .ok (.iconst 0, 1) := by decide +kernel
theorem dX10_fast_44 : decode cX10_fast 44 = .ok (.istore_n 3, 1) := by decide +kernel
theorem dX10_fast_45 : decode cX10_fast 45 = .ok (.iconst 0, 1) := by decide +kernel
theorem dX10_fast_46 : decode cX10_fast 46 = .ok (.istore 4, 2) := by decide +kernel
theorem dX10_fast_48 : decode cX10_fast 48 = .ok (.iload 4, 2) := by decide +kernel
theorem dX10_fast_50 : decode cX10_fast 50 = .ok (.bipush 20, 2) := by decide +kernel
theorem dX10_fast_52 : decode cX10_fast 52 = .ok (.if_icmp .ge 101, 3) := by decide +kernel
theorem dX10_fast_55 : decode cX10_fast 55 = .ok (.aload_n 0, 1) := by decide +kernel
theorem dX10_fast_56 : decode cX10_fast 56 = .ok (.getfield 43, 3) := by decide +kernel
theorem dX10_fast_59 : decode cX10_fast 59 = .ok (.iload 4, 2) := by decide +kernel
theorem dX10_fast_61 : decode cX10_fast 61 = .ok (.iaload, 1) := by decide +kernel
theorem dX10_fast_62 : decode cX10_fast 62 = .ok (.istore 5, 2) := by decide +kernel
theorem dX10_fast_64 : decode cX10_fast 64 = .ok (.iload 5, 2) := by decide +kernel
theorem dX10_fast_66 : decode cX10_fast 66 = .ok (.ifCond .lt 81, 3) := by decide +kernel
theorem dX10_fast_69 : decode cX10_fast 69 = .ok (.iload_n 1, 1) := by decide +kernel
theorem dX10_fast_70 : decode cX10_fast 70 = .ok (.iload 4, 2) := by decide +kernel
theorem dX10_fast_72 : decode cX10_fast 72 = .ok (.isub, 1) := by decide +kernel
theorem dX10_fast_73 : decode cX10_fast 73 = .ok (.istore 6, 2) := by decide +kernel
theorem dX10_fast_75 : decode cX10_fast 75 = .ok (.iload_n 2, 1) := by decide +kernel
theorem dX10_fast_76 : decode cX10_fast 76 = .ok (.iload 5, 2) := by decide +kernel
theorem dX10_fast_78 : decode cX10_fast 78 = .ok (.isub, 1) := by decide +kernel
theorem dX10_fast_79 : decode cX10_fast 79 = .ok (.istore 7, 2) := by decide +kernel
theorem dX10_fast_81 : decode cX10_fast 81 = .ok (.iload 6, 2) := by decide +kernel
theorem dX10_fast_83 : decode cX10_fast 83 = .ok (.iconst 1, 1) := by decide +kernel
theorem dX10_fast_84 : decode cX10_fast 84 = .ok (.if_icmp .ne 9, 3) := by decide +kernel
theorem dX10_fast_87 : decode cX10_fast 87 = .ok (.iload 7, 2) := by decide +kernel
theorem dX10_fast_89 : decode cX10_fast 89 = .ok (.iconst (-1), 1) := by decide +kernel
theorem dX10_fast_90 : decode cX10_fast 90 = .ok (.if_icmp .eq 15, 3) := by decide +kernel
theorem dX10_fast_93 : decode cX10_fast 93 = .ok (.iload 6, 2) := by decide +kernel
theorem dX10_fast_95 : decode cX10_fast 95 = .ok (.iconst (-1), 1) := by decide +kernel
theorem dX10_fast_96 : decode cX10_fast 96 = .ok (.if_icmp .ne 13, 3) := by decide +kernel
theorem dX10_fast_99 : decode cX10_fast 99 = .ok (.iload 7, 2) := by decide +kernel
theorem dX10_fast_101 : decode cX10_fast 101 = .ok (.iconst 1, 1) := by decide +kernel
theorem dX10_fast_102 : decode cX10_fast 102 = .ok (.if_icmp .ne 7, 3) := by decide +kernel
theorem dX10_fast_105 : decode cX10_fast 105 = .ok (.iconst 1, 1) := by decide +kernel
theorem dX10_fast_106 : decode cX10_fast 106 = .ok (.goto 4, 3) := by decide +kernel
theorem dX10_fast_109 : decode cX10_fast 109 = .ok (.iconst 0, 1) := by decide +kernel
theorem dX10_fast_110 : decode cX10_fast 110 = .ok (.istore 8, 2) := by decide +kernel
theorem dX10_fast_112 : decode cX10_fast 112 = .ok (.iload_n 3, 1) := by decide +kernel
theorem dX10_fast_113 : decode cX10_fast 113 = .ok (.ifCond .ne 28, 3) := by decide +kernel
theorem dX10_fast_116 : decode cX10_fast 116 = .ok (.iload 6, 2) := by decide +kernel
theorem dX10_fast_118 : decode cX10_fast 118 = .ok (.ifCond .ge 8, 3) := by decide +kernel
theorem dX10_fast_121 : decode cX10_fast 121 = .ok (.iload 7, 2) := by decide +kernel
theorem dX10_fast_123 : decode cX10_fast 123 = .ok (.ifCond .gt 13, 3) := by decide +kernel
theorem dX10_fast_126 : decode cX10_fast 126 = .ok (.iload 6, 2) := by decide +kernel
theorem dX10_fast_128 : decode cX10_fast 128 = .ok (.ifCond .le 17, 3) := by decide +kernel
theorem dX10_fast_131 : decode cX10_fast 131 = .ok (.iload 7, 2) := by decide +kernel
theorem dX10_fast_133 : decode cX10_fast 133 = .ok (.ifCond .ge 12, 3) := by decide +kernel
theorem dX10_fast_136 : decode cX10_fast 136 = .ok (.iload 8, 2) := by decide +kernel
theorem dX10_fast_138 : decode cX10_fast 138 = .ok (.ifCond .ne 7, 3) := by decide +kernel
theorem dX10_fast_141 : decode cX10_fast 141 = .ok (.iconst 1, 1) := by decide +kernel
theorem dX10_fast_142 : decode cX10_fast 142 = .ok (.goto 4, 3) := by decide +kernel
theorem dX10_fast_145 : decode cX10_fast 145 = .ok (.iconst 0, 1) := by decide +kernel
theorem dX10_fast_146 : decode cX10_fast 146 = .ok (.istore_n 3, 1) := by decide +kernel
theorem dX10_fast_147 : decode cX10_fast 147 = .ok (.iinc 4 1, 3) := by decide +kernel
theorem dX10_fast_150 : decode cX10_fast 150 = .ok (.goto (-102), 3) := by decide +kernel
theorem dX10_fast_153 : decode cX10_fast 153 = .ok (.iload_n 3, 1) := by decide +kernel
theorem dX10_fast_154 : decode cX10_fast 154 = .ok (.ifCond .eq 6, 3) := by decide +kernel
theorem dX10_fast_157 : decode cX10_fast 157 = .ok (.ldc 156, 2) := by decide +kernel
theorem dX10_fast_159 : decode cX10_fast 159 = .ok (.ireturn, 1) := by decide +kernel
theorem dX10_fast_160 : decode cX10_fast 160 = .ok (.aload_n 0, 1) := by decide +kernel
theorem dX10_fast_161 : decode cX10_fast 161 = .ok (.getfield 190, 3) := by decide +kernel
theorem dX10_fast_164 : decode cX10_fast 164 = .ok (.bipush 20, 2) := by decide +kernel
theorem dX10_fast_166 : decode cX10_fast 166 = .ok (.if_icmp .ne 6, 3) := by decide +kernel
theorem dX10_fast_169 : decode cX10_fast 169 = .ok (.ldc 130, 2) := by decide +kernel
theorem dX10_fast_171 : decode cX10_fast 171 = .ok (.ireturn, 1) := by decide +kernel
theorem dX10_fast_172 : decode cX10_fast 172 = .ok (.aload_n 0, 1) := by decide +kernel
theorem dX10_fast_173 : decode cX10_fast 173 = .ok (.getfield 43, 3) := by decide +kernel
theorem dX10_fast_176 : decode cX10_fast 176 = .ok (.iload_n 1, 1) := by decide +kernel
theorem dX10_fast_177 : decode cX10_fast 177 = .ok (.iload_n 2, 1) := by decide +kernel
theorem dX10_fast_178 : decode cX10_fast 178 = .ok (.iastore, 1) := by decide +kernel
theorem dX10_fast_179 : decode cX10_fast 179 = .ok (.aload_n 0, 1) := by decide +kernel
theorem dX10_fast_180 : decode cX10_fast 180 = .ok (.getfield 46, 3) := by decide +kernel
theorem dX10_fast_183 : decode cX10_fast 183 = .ok (.iload_n 2, 1) := by decide +kernel
theorem dX10_fast_184 : decode cX10_fast 184 = .ok (.iload_n 1, 1) := by decide +kernel
theorem dX10_fast_185 : decode cX10_fast 185 = .ok (.iastore, 1) := by decide +kernel
theorem dX10_fast_186 : decode cX10_fast 186 = .ok (.aload_n 0, 1) := by decide +kernel
theorem dX10_fast_187 : decode cX10_fast 187 = .ok (.dup, 1) := by decide +kernel
theorem dX10_fast_188 : decode cX10_fast 188 = .ok (.getfield 190, 3) := by decide +kernel
theorem dX10_fast_191 : decode cX10_fast 191 = .ok (.iconst 1, 1) := by decide +kernel
theorem dX10_fast_192 : decode cX10_fast 192 = .ok (.iadd, 1) := by decide +kernel
theorem dX10_fast_193 : decode cX10_fast 193 = .ok (.putfield 190, 3) := by decide +kernel
theorem dX10_fast_196 : decode cX10_fast 196 = .ok (.aload_n 0, 1) := by decide +kernel
theorem dX10_fast_197 : decode cX10_fast 197 = .ok (.getfield 190, 3) := by decide +kernel
theorem dX10_fast_200 : decode cX10_fast 200 = .ok (.ireturn, 1) := by decide +kernel
theorem dX10_loosen_0 : decode cX10_loosen 0 = .ok (.aload_n 0, 1) := by decide +kernel
theorem dX10_loosen_1 : decode cX10_loosen 1 = .ok (.iconst 0, 1) := by decide +kernel
theorem dX10_loosen_2 : decode cX10_loosen 2 = .ok (.iload_n 1, 1) := by decide +kernel
theorem dX10_loosen_3 : decode cX10_loosen 3 = .ok (.invokevirtual 212, 3) := by decide +kernel
theorem dX10_loosen_6 : decode cX10_loosen 6 = .ok (.ifCond .ne 6, 3) := by decide +kernel
theorem dX10_loosen_9 : decode cX10_loosen 9 = .ok (.ldc 194, 2) := by decide +kernel
theorem dX10_loosen_11 : decode cX10_loosen 11 = .ok (.ireturn, 1) := by decide +kernel
theorem dX10_loosen_12 : decode cX10_loosen 12 = .ok (.aload_n 0, 1) := by decide +kernel
theorem dX10_loosen_13 : decode cX10_loosen 13 = .ok (.getfield 43, 3) := by decide +kernel
theorem dX10_loosen_16 : decode cX10_loosen 16 = .ok (.iload_n 1, 1) := by decide +kernel
theorem dX10_loosen_17 : decode cX10_loosen 17 = .ok (.iaload, 1) := by decide +kernel
theorem dX10_loosen_18 : decode cX10_loosen 18 = .ok (.ifCond .ge 5, 3) := by decide +kernel
theorem dX10_loosen_21 : decode cX10_loosen 21 = .ok (.iconst 0, 1) := by decide +kernel
theorem dX10_loosen_22 : decode cX10_loosen 22 = .ok (.ireturn, 1) := by decide +kernel
theorem dX10_loosen_23 : decode cX10_loosen 23 = .ok (.aload_n 0, 1) := by decide +kernel
theorem dX10_loosen_24 : decode cX10_loosen 24 = .ok (.getfield 46, 3) := by decide +kernel
theorem dX10_loosen_27 : decode cX10_loosen 27 = .ok (.aload_n 0, 1) := by decide +kernel
theorem dX10_loosen_28 : decode cX10_loosen 28 = .ok (.getfield 43, 3) := by decide +kernel
theorem dX10_loosen_31 : decode cX10_loosen 31 = .ok (.iload_n 1, 1) := by decide +kernel
theorem dX10_loosen_32 : decode cX10_loosen 32 = .ok (.iaload, 1) := by decide +kernel
theorem dX10_loosen_33 : decode cX10_loosen 33 = .ok (.iconst (-1), 1) := by decide +kernel
theorem dX10_loosen_34 : decode cX10_loosen 34 = .ok (.iastore, 1) := by decide +kernel
theorem dX10_loosen_35 : decode cX10_loosen 35 = .ok (.aload_n 0, 1) := by decide +kernel
theorem dX10_loosen_36 : decode cX10_loosen 36 = .ok (.getfield 43, 3) := by decide +kernel
theorem dX10_loosen_39 : decode cX10_loosen 39 = .ok (.iload_n 1, 1) := by decide +kernel
theorem dX10_loosen_40 : decode cX10_loosen 40 = .ok (.iconst (-1), 1) := by decide +kernel
theorem dX10_loosen_41 : decode cX10_loosen 41 = .ok (.iastore, 1) := by decide +kernel
theorem dX10_loosen_42 : decode cX10_loosen 42 = .ok (.aload_n 0, 1) := by decide +kernel
theorem dX10_loosen_43 : decode cX10_loosen 43 = .ok (.dup, 1) := by decide +kernel
theorem dX10_loosen_44 : decode cX10_loosen 44 = .ok (.getfield 190, 3) := by decide +kernel
theorem dX10_loosen_47 : decode cX10_loosen 47 = .ok (.iconst 1, 1) := by decide +kernel
theorem dX10_loosen_48 : decode cX10_loosen 48 = .ok (.isub, 1) := by decide +kernel
theorem dX10_loosen_49 : decode cX10_loosen 49 = .ok (.putfield 190, 3) := by decide +kernel
theorem dX10_loosen_52 : decode cX10_loosen 52 = .ok (.iconst 1, 1) := by decide +kernel
theorem dX10_loosen_53 : decode cX10_loosen 53 = .ok (.ireturn, 1) := by decide +kernel
theorem dX10_keep_0 : decode cX10_keep 0 = .ok (.aload_n 0, 1) := by decide +kernel
theorem dX10_keep_1 : decode cX10_keep 1 = .ok (.getfield 223, 3) := by decide +kernel
theorem dX10_keep_4 : decode cX10_keep 4 = .ok (.ifCond .eq 7, 3) := by decide +kernel
theorem dX10_keep_7 : decode cX10_keep 7 = .ok (.iconst 1, 1) := by decide +kernel
theorem dX10_keep_8 : decode cX10_keep 8 = .ok (.goto 4, 3) := by decide +kernel
theorem dX10_keep_11 : decode cX10_keep 11 = .ok (.iconst 0, 1) := by decide +kernel
theorem dX10_keep_12 : decode cX10_keep 12 = .ok (.istore_n 2, 1) := by decide +kernel
theorem dX10_keep_13 : decode cX10_keep 13 = .ok (.aload_n 0, 1) := by decide +kernel
theorem dX10_keep_14 : decode cX10_keep 14 = .ok (.iload_n 1, 1) := by decide +kernel
theorem dX10_keep_15 : decode cX10_keep 15 = .ok (.putfield 223, 3) := by decide +kernel
theorem dX10_keep_18 : decode cX10_keep 18 = .ok (.iload_n 2, 1) := by decide +kernel
theorem dX10_keep_19 : decode cX10_keep 19 = .ok (.ireturn, 1) := by decide +kernel
theorem dX10_leftOf_0 : decode cX10_leftOf 0 = .ok (.iload_n 0, 1) := by decide +kernel
theorem dX10_leftOf_1 : decode cX10_leftOf 1 = .ok (.iconst 2, 1) := by decide +kernel
theorem dX10_leftOf_2 : decode cX10_leftOf 2 = .ok (.if_icmp .ne 7, 3) := by decide +kernel
theorem dX10_leftOf_5 : decode cX10_leftOf 5 = .ok (.iconst 0, 1) := by decide +kernel
theorem dX10_leftOf_6 : decode cX10_leftOf 6 = .ok (.goto 18, 3) := by decide +kernel
theorem dX10_leftOf_9 : decode cX10_leftOf 9 = .ok (.iload_n 0, 1) := by decide +kernel
theorem dX10_leftOf_10 : decode cX10_leftOf 10 = .ok (.iconst 3, 1) := by decide +kernel
theorem dX10_leftOf_11 : decode cX10_leftOf 11 = .ok (.if_icmp .eq 8, 3) := by decide +kernel
theorem dX10_leftOf_14 : decode cX10_leftOf 14 = .ok (.iload_n 0, 1) := by decide +kernel
theorem dX10_leftOf_15 : decode cX10_leftOf 15 = .ok (.iconst 4, 1) := by decide +kernel
theorem dX10_leftOf_16 : decode cX10_leftOf 16 = .ok (.if_icmp .le 7, 3) := by decide +kernel
theorem dX10_leftOf_19 : decode cX10_leftOf 19 = .ok (.iconst 2, 1) := by decide +kernel
theorem dX10_leftOf_20 : decode cX10_leftOf 20 = .ok (.goto 4, 3) := by decide +kernel
theorem dX10_leftOf_23 : decode cX10_leftOf 23 = .ok (.iconst 1, 1) := by decide +kernel
theorem dX10_leftOf_24 : decode cX10_leftOf 24 = .ok (.ireturn, 1) := by decide +kernel
theorem dX10_rightOf_0 : decode cX10_rightOf 0 = .ok (.iload_n 0, 1) := by decide +kernel
theorem dX10_rightOf_1 : decode cX10_rightOf 1 = .ok (.iconst 1, 1) := by decide +kernel
theorem dX10_rightOf_2 : decode cX10_rightOf 2 = .ok (.if_icmp .ne 7, 3) := by decide +kernel
theorem dX10_rightOf_5 : decode cX10_rightOf 5 = .ok (.iconst 0, 1) := by decide +kernel
theorem dX10_rightOf_6 : decode cX10_rightOf 6 = .ok (.goto 13, 3) := by decide +kernel
theorem dX10_rightOf_9 : decode cX10_rightOf 9 = .ok (.iload_n 0, 1) := by decide +kernel
theorem dX10_rightOf_10 : decode cX10_rightOf 10 = .ok (.iconst 3, 1) := by decide +kernel
theorem dX10_rightOf_11 : decode cX10_rightOf 11 = .ok (.if_icmp .le 7, 3) := by decide +kernel
theorem dX10_rightOf_14 : decode cX10_rightOf 14 = .ok (.iconst 2, 1) := by decide +kernel
theorem dX10_rightOf_15 : decode cX10_rightOf 15 = .ok (.goto 4, 3) := by decide +kernel
theorem dX10_rightOf_18 : decode cX10_rightOf 18 = .ok (.iconst 1, 1) := by decide +kernel
theorem dX10_rightOf_19 : decode cX10_rightOf 19 = .ok (.ireturn, 1) := by decide +kernel
theorem dX10_partnerOf_0 : decode cX10_partnerOf 0 = .ok (.iconst (-1), 1) := by decide +kernel
theorem dX10_partnerOf_1 : decode cX10_partnerOf 1 = .ok (.istore_n 2, 1) := by decide +kernel
theorem dX10_partnerOf_2 : decode cX10_partnerOf 2 = .ok (.iconst 0, 1) := by decide +kernel
theorem dX10_partnerOf_3 : decode cX10_partnerOf 3 = .ok (.istore_n 3, 1) := by decide +kernel
theorem dX10_partnerOf_4 : decode cX10_partnerOf 4 = .ok (.iload_n 3, 1) := by decide +kernel
theorem dX10_partnerOf_5 : decode cX10_partnerOf 5 = .ok (.aload_n 0, 1) := by decide +kernel
theorem dX10_partnerOf_6 : decode cX10_partnerOf 6 = .ok (.getfield 34, 3) := by decide +kernel
theorem dX10_partnerOf_9 : decode cX10_partnerOf 9 = .ok (.iconst 1, 1) := by decide +kernel
theorem dX10_partnerOf_10 : decode cX10_partnerOf 10 = .ok (.iaload, 1) := by decide +kernel
theorem dX10_partnerOf_11 : decode cX10_partnerOf 11 = .ok (.if_icmp .ge 44, 3) := by decide +kernel
theorem dX10_partnerOf_14 : decode cX10_partnerOf 14 = .ok (.iload_n 2, 1) := by decide +kernel
theorem dX10_partnerOf_15 : decode cX10_partnerOf 15 = .ok (.ifCond .lt 28, 3) := by decide +kernel
theorem dX10_partnerOf_18 : decode cX10_partnerOf 18 = .ok (.aload_n 0, 1) := by decide +kernel
theorem dX10_partnerOf_19 : decode cX10_partnerOf 19 = .ok (.getfield 52, 3) := by decide +kernel
theorem dX10_partnerOf_22 : decode cX10_partnerOf 22 = .ok (.bipush 41, 2) := by decide +kernel
theorem dX10_partnerOf_24 : decode cX10_partnerOf 24 = .ok (.iload_n 1, 1) := by decide +kernel
theorem dX10_partnerOf_25 : decode cX10_partnerOf 25 = .ok (.imul, 1) := by decide +kernel
theorem dX10_partnerOf_26 : decode cX10_partnerOf 26 = .ok (.iload_n 3, 1) := by decide +kernel
theorem dX10_partnerOf_27 : decode cX10_partnerOf 27 = .ok (.iadd, 1) := by decide +kernel
theorem dX10_partnerOf_28 : decode cX10_partnerOf 28 = .ok (.iaload, 1) := by decide +kernel
theorem dX10_partnerOf_29 : decode cX10_partnerOf 29 = .ok (.aload_n 0, 1) := by decide +kernel
theorem dX10_partnerOf_30 : decode cX10_partnerOf 30 = .ok (.getfield 52, 3) := by decide +kernel
theorem dX10_partnerOf_33 : decode cX10_partnerOf 33 = .ok (.bipush 41, 2) := by decide +kernel
theorem dX10_partnerOf_35 : decode cX10_partnerOf 35 = .ok (.iload_n 1, 1) := by decide +kernel
theorem dX10_partnerOf_36 : decode cX10_partnerOf 36 = .ok (.imul, 1) := by decide +kernel
theorem dX10_partnerOf_37 : decode cX10_partnerOf 37 = .ok (.iload_n 2, 1) := by decide +kernel
theorem dX10_partnerOf_38 : decode cX10_partnerOf 38 = .ok (.iadd, 1) := by decide +kernel
theorem dX10_partnerOf_39 : decode cX10_partnerOf 39 = .ok (.iaload, 1) := by decide +kernel
theorem dX10_partnerOf_40 : decode cX10_partnerOf 40 = .ok (.if_icmp .le 7, 3) := by decide +kernel
theorem dX10_partnerOf_43 : decode cX10_partnerOf 43 = .ok (.iload_n 3, 1) := by decide +kernel
theorem dX10_partnerOf_44 : decode cX10_partnerOf 44 = .ok (.goto 4, 3) := by decide +kernel
theorem dX10_partnerOf_47 : decode cX10_partnerOf 47 = .ok (.iload_n 2, 1) := by decide +kernel
theorem dX10_partnerOf_48 : decode cX10_partnerOf 48 = .ok (.istore_n 2, 1) := by decide +kernel
theorem dX10_partnerOf_49 : decode cX10_partnerOf 49 = .ok (.iinc 3 1, 3) := by decide +kernel
theorem dX10_partnerOf_52 : decode cX10_partnerOf 52 = .ok (.goto (-48), 3) := by decide +kernel
theorem dX10_partnerOf_55 : decode cX10_partnerOf 55 = .ok (.iload_n 2, 1) := by decide +kernel
theorem dX10_partnerOf_56 : decode cX10_partnerOf 56 = .ok (.ifCond .lt 49, 3) := by decide +kernel
theorem dX10_partnerOf_59 : decode cX10_partnerOf 59 = .ok (.aload_n 0, 1) := by decide +kernel
theorem dX10_partnerOf_60 : decode cX10_partnerOf 60 = .ok (.getfield 52, 3) := by decide +kernel
theorem dX10_partnerOf_63 : decode cX10_partnerOf 63 = .ok (.bipush 41, 2) := by decide +kernel
theorem dX10_partnerOf_65 : decode cX10_partnerOf 65 = .ok (.iload_n 1, 1) := by decide +kernel
theorem dX10_partnerOf_66 : decode cX10_partnerOf 66 = .ok (.imul, 1) := by decide +kernel
theorem dX10_partnerOf_67 : decode cX10_partnerOf 67 = .ok (.iload_n 2, 1) := by decide +kernel
theorem dX10_partnerOf_68 : decode cX10_partnerOf 68 = .ok (.iadd, 1) := by decide +kernel
theorem dX10_partnerOf_69 : decode cX10_partnerOf 69 = .ok (.iaload, 1) := by decide +kernel
theorem dX10_partnerOf_70 : decode cX10_partnerOf 70 = .ok (.aload_n 0, 1) := by decide +kernel
theorem dX10_partnerOf_71 : decode cX10_partnerOf 71 = .ok (.getfield 52, 3) := by decide +kernel
theorem dX10_partnerOf_74 : decode cX10_partnerOf 74 = .ok (.bipush 41, 2) := by decide +kernel
theorem dX10_partnerOf_76 : decode cX10_partnerOf 76 = .ok (.iload_n 1, 1) := by decide +kernel
theorem dX10_partnerOf_77 : decode cX10_partnerOf 77 = .ok (.imul, 1) := by decide +kernel
theorem dX10_partnerOf_78 : decode cX10_partnerOf 78 = .ok (.bipush 40, 2) := by decide +kernel
theorem dX10_partnerOf_80 : decode cX10_partnerOf 80 = .ok (.iadd, 1) := by decide +kernel
theorem dX10_partnerOf_81 : decode cX10_partnerOf 81 = .ok (.iaload, 1) := by decide +kernel
theorem dX10_partnerOf_82 : decode cX10_partnerOf 82 = .ok (.if_icmp .le 23, 3) := by decide +kernel
theorem dX10_partnerOf_85 : decode cX10_partnerOf 85 = .ok (.aload_n 0, 1) := by decide +kernel
theorem dX10_partnerOf_86 : decode cX10_partnerOf 86 = .ok (.getfield 52, 3) := by decide +kernel
theorem dX10_partnerOf_89 : decode cX10_partnerOf 89 = .ok (.bipush 41, 2) := by decide +kernel
theorem dX10_partnerOf_91 : decode cX10_partnerOf 91 = .ok (.iload_n 1, 1) := by decide +kernel
theorem dX10_partnerOf_92 : decode cX10_partnerOf 92 = .ok (.imul, 1) := by decide +kernel
theorem dX10_partnerOf_93 : decode cX10_partnerOf 93 = .ok (.iload_n 2, 1) := by decide +kernel
theorem dX10_partnerOf_94 : decode cX10_partnerOf 94 = .ok (.iadd, 1) := by decide +kernel
theorem dX10_partnerOf_95 : decode cX10_partnerOf 95 = .ok (.iaload, 1) := by decide +kernel
theorem dX10_partnerOf_96 : decode cX10_partnerOf 96 = .ok (.ldc 226, 2) := by decide +kernel
theorem dX10_partnerOf_98 : decode cX10_partnerOf 98 = .ok (.if_icmp .lt 7, 3) := by decide +kernel
theorem dX10_partnerOf_101 : decode cX10_partnerOf 101 = .ok (.iload_n 2, 1) := by decide +kernel
theorem dX10_partnerOf_102 : decode cX10_partnerOf 102 = .ok (.goto 4, 3) := by decide +kernel
theorem dX10_partnerOf_105 : decode cX10_partnerOf 105 = .ok (.iconst (-1), 1) := by decide +kernel
theorem dX10_partnerOf_106 : decode cX10_partnerOf 106 = .ok (.ireturn, 1) := by decide +kernel
theorem dX10_prepare_0 : decode cX10_prepare 0 = .ok (.iconst 0, 1) := by decide +kernel
theorem dX10_prepare_1 : decode cX10_prepare 1 = .ok (.istore_n 1, 1) := by decide +kernel
theorem dX10_prepare_2 : decode cX10_prepare 2 = .ok (.iload_n 1, 1) := by decide +kernel
theorem dX10_prepare_3 : decode cX10_prepare 3 = .ok (.aload_n 0, 1) := by decide +kernel
theorem dX10_prepare_4 : decode cX10_prepare 4 = .ok (.getfield 34, 3) := by decide +kernel
theorem dX10_prepare_7 : decode cX10_prepare 7 = .ok (.iconst 0, 1) := by decide +kernel
theorem dX10_prepare_8 : decode cX10_prepare 8 = .ok (.iaload, 1) := by decide +kernel
