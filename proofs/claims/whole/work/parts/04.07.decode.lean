theorem dX10_rest_37 : decode cX10_rest 37 = .ok (.putfield 276, 3) := by decide +kernel
theorem dX10_rest_40 : decode cX10_rest 40 = .ok (.aload_n 0, 1) := by decide +kernel
theorem dX10_rest_41 : decode cX10_rest 41 = .ok (.invokevirtual 288, 3) := by decide +kernel
theorem dX10_rest_44 : decode cX10_rest 44 = .ok (.aload_n 0, 1) := by decide +kernel
theorem dX10_rest_45 : decode cX10_rest 45 = .ok (.getfield 79, 3) := by decide +kernel
theorem dX10_rest_48 : decode cX10_rest 48 = .ok (.bipush 21, 2) := by decide +kernel
theorem dX10_rest_50 : decode cX10_rest 50 = .ok (.iload_n 1, 1) := by decide +kernel
theorem dX10_rest_51 : decode cX10_rest 51 = .ok (.imul, 1) := by decide +kernel
theorem dX10_rest_52 : decode cX10_rest 52 = .ok (.iload_n 2, 1) := by decide +kernel
theorem dX10_rest_53 : decode cX10_rest 53 = .ok (.iadd, 1) := by decide +kernel
theorem dX10_rest_54 : decode cX10_rest 54 = .ok (.iaload, 1) := by decide +kernel
theorem dX10_rest_55 : decode cX10_rest 55 = .ok (.ldc_w 272, 3) := by decide +kernel
theorem dX10_rest_58 : decode cX10_rest 58 = .ok (.if_icmp .ge 17, 3) := by decide +kernel
theorem dX10_rest_61 : decode cX10_rest 61 = .ok (.aload_n 0, 1) := by decide +kernel
theorem dX10_rest_62 : decode cX10_rest 62 = .ok (.getfield 79, 3) := by decide +kernel
theorem dX10_rest_65 : decode cX10_rest 65 = .ok (.bipush 21, 2) := by decide +kernel
theorem dX10_rest_67 : decode cX10_rest 67 = .ok (.iload_n 1, 1) := by decide +kernel
theorem dX10_rest_68 : decode cX10_rest 68 = .ok (.imul, 1) := by decide +kernel
theorem dX10_rest_69 : decode cX10_rest 69 = .ok (.iload_n 2, 1) := by decide +kernel
theorem dX10_rest_70 : decode cX10_rest 70 = .ok (.iadd, 1) := by decide +kernel
theorem dX10_rest_71 : decode cX10_rest 71 = .ok (.iaload, 1) := by decide +kernel
theorem dX10_rest_72 : decode cX10_rest 72 = .ok (.goto 5, 3) := by decide +kernel
theorem dX10_rest_75 : decode cX10_rest 75 = .ok (.ldc 156, 2) := by decide +kernel
theorem dX10_rest_77 : decode cX10_rest 77 = .ok (.ireturn, 1) := by decide +kernel
theorem dX10_second_0 : decode cX10_second 0 = .ok (.aload_n 0, 1) := by decide +kernel
theorem dX10_second_1 : decode cX10_second 1 = .ok (.iconst (-1), 1) := by decide +kernel
theorem dX10_second_2 : decode cX10_second 2 = .ok (.putfield 276, 3) := by decide +kernel
theorem dX10_second_5 : decode cX10_second 5 = .ok (.aload_n 0, 1) := by decide +kernel
theorem dX10_second_6 : decode cX10_second 6 = .ok (.invokevirtual 288, 3) := by decide +kernel
theorem dX10_second_9 : decode cX10_second 9 = .ok (.aload_n 0, 1) := by decide +kernel
theorem dX10_second_10 : decode cX10_second 10 = .ok (.getfield 82, 3) := by decide +kernel
theorem dX10_second_13 : decode cX10_second 13 = .ok (.iconst 0, 1) := by decide +kernel
theorem dX10_second_14 : decode cX10_second 14 = .ok (.iaload, 1) := by decide +kernel
theorem dX10_second_15 : decode cX10_second 15 = .ok (.ldc_w 272, 3) := by decide +kernel
theorem dX10_second_18 : decode cX10_second 18 = .ok (.if_icmp .ge 12, 3) := by decide +kernel
theorem dX10_second_21 : decode cX10_second 21 = .ok (.aload_n 0, 1) := by decide +kernel
theorem dX10_second_22 : decode cX10_second 22 = .ok (.getfield 82, 3) := by decide +kernel
theorem dX10_second_25 : decode cX10_second 25 = .ok (.iconst 0, 1) := by decide +kernel
theorem dX10_second_26 : decode cX10_second 26 = .ok (.iaload, 1) := by decide +kernel
theorem dX10_second_27 : decode cX10_second 27 = .ok (.goto 5, 3) := by decide +kernel
theorem dX10_second_30 : decode cX10_second 30 = .ok (.ldc 156, 2) := by decide +kernel
theorem dX10_second_32 : decode cX10_second 32 = .ok (.ireturn, 1) := by decide +kernel
theorem dX10_sure_0 : decode cX10_sure 0 = .ok (.aload_n 0, 1) := by decide +kernel
theorem dX10_sure_1 : decode cX10_sure 1 = .ok (.iload_n 1, 1) := by decide +kernel
theorem dX10_sure_2 : decode cX10_sure 2 = .ok (.invokevirtual 297, 3) := by decide +kernel
theorem dX10_sure_5 : decode cX10_sure 5 = .ok (.ifCond .ne 6, 3) := by decide +kernel
theorem dX10_sure_8 : decode cX10_sure 8 = .ok (.ldc 194, 2) := by decide +kernel
theorem dX10_sure_10 : decode cX10_sure 10 = .ok (.ireturn, 1) := by decide +kernel
theorem dX10_sure_11 : decode cX10_sure 11 = .ok (.iload_n 2, 1) := by decide +kernel
theorem dX10_sure_12 : decode cX10_sure 12 = .ok (.i2l, 1) := by decide +kernel
theorem dX10_sure_13 : decode cX10_sure 13 = .ok (.lconst 0, 1) := by decide +kernel
theorem dX10_sure_14 : decode cX10_sure 14 = .ok (.ldc2_w 302, 3) := by decide +kernel
theorem dX10_sure_17 : decode cX10_sure 17 = .ok (.invokestatic 131, 3) := by decide +kernel
theorem dX10_sure_20 : decode cX10_sure 20 = .ok (.ifCond .ne 6, 3) := by decide +kernel
theorem dX10_sure_23 : decode cX10_sure 23 = .ok (.ldc 135, 2) := by decide +kernel
theorem dX10_sure_25 : decode cX10_sure 25 = .ok (.ireturn, 1) := by decide +kernel
theorem dX10_sure_26 : decode cX10_sure 26 = .ok (.aload_n 0, 1) := by decide +kernel
theorem dX10_sure_27 : decode cX10_sure 27 = .ok (.getfield 79, 3) := by decide +kernel
theorem dX10_sure_30 : decode cX10_sure 30 = .ok (.iconst 0, 1) := by decide +kernel
theorem dX10_sure_31 : decode cX10_sure 31 = .ok (.iaload, 1) := by decide +kernel
theorem dX10_sure_32 : decode cX10_sure 32 = .ok (.istore_n 3, 1) := by decide +kernel
theorem dX10_sure_33 : decode cX10_sure 33 = .ok (.aload_n 0, 1) := by decide +kernel
theorem dX10_sure_34 : decode cX10_sure 34 = .ok (.aload_n 0, 1) := by decide +kernel
theorem dX10_sure_35 : decode cX10_sure 35 = .ok (.getfield 85, 3) := by decide +kernel
theorem dX10_sure_38 : decode cX10_sure 38 = .ok (.iload_n 1, 1) := by decide +kernel
theorem dX10_sure_39 : decode cX10_sure 39 = .ok (.iaload, 1) := by decide +kernel
theorem dX10_sure_40 : decode cX10_sure 40 = .ok (.putfield 276, 3) := by decide +kernel
theorem dX10_sure_43 : decode cX10_sure 43 = .ok (.aload_n 0, 1) := by decide +kernel
theorem dX10_sure_44 : decode cX10_sure 44 = .ok (.aload_n 0, 1) := by decide +kernel
theorem dX10_sure_45 : decode cX10_sure 45 = .ok (.getfield 88, 3) := by decide +kernel
theorem dX10_sure_48 : decode cX10_sure 48 = .ok (.iload_n 1, 1) := by decide +kernel
theorem dX10_sure_49 : decode cX10_sure 49 = .ok (.iaload, 1) := by decide +kernel
theorem dX10_sure_50 : decode cX10_sure 50 = .ok (.putfield 279, 3) := by decide +kernel
theorem dX10_sure_53 : decode cX10_sure 53 = .ok (.aload_n 0, 1) := by decide +kernel
theorem dX10_sure_54 : decode cX10_sure 54 = .ok (.aload_n 0, 1) := by decide +kernel
theorem dX10_sure_55 : decode cX10_sure 55 = .ok (.getfield 91, 3) := by decide +kernel
theorem dX10_sure_58 : decode cX10_sure 58 = .ok (.iload_n 1, 1) := by decide +kernel
theorem dX10_sure_59 : decode cX10_sure 59 = .ok (.iaload, 1) := by decide +kernel
theorem dX10_sure_60 : decode cX10_sure 60 = .ok (.putfield 282, 3) := by decide +kernel
theorem dX10_sure_63 : decode cX10_sure 63 = .ok (.aload_n 0, 1) := by decide +kernel
theorem dX10_sure_64 : decode cX10_sure 64 = .ok (.invokevirtual 288, 3) := by decide +kernel
theorem dX10_sure_67 : decode cX10_sure 67 = .ok (.aload_n 0, 1) := by decide +kernel
theorem dX10_sure_68 : decode cX10_sure 68 = .ok (.iconst (-1), 1) := by decide +kernel
theorem dX10_sure_69 : decode cX10_sure 69 = .ok (.putfield 276, 3) := by decide +kernel
theorem dX10_sure_72 : decode cX10_sure 72 = .ok (.aload_n 0, 1) := by decide +kernel
theorem dX10_sure_73 : decode cX10_sure 73 = .ok (.getfield 79, 3) := by decide +kernel
theorem dX10_sure_76 : decode cX10_sure 76 = .ok (.iconst 0, 1) := by decide +kernel
theorem dX10_sure_77 : decode cX10_sure 77 = .ok (.iaload, 1) := by decide +kernel
theorem dX10_sure_78 : decode cX10_sure 78 = .ok (.ldc_w 272, 3) := by decide +kernel
theorem dX10_sure_81 : decode cX10_sure 81 = .ok (.if_icmp .ge 15, 3) := by decide +kernel
theorem dX10_sure_84 : decode cX10_sure 84 = .ok (.aload_n 0, 1) := by decide +kernel
theorem dX10_sure_85 : decode cX10_sure 85 = .ok (.getfield 79, 3) := by decide +kernel
theorem dX10_sure_88 : decode cX10_sure 88 = .ok (.iconst 0, 1) := by decide +kernel
theorem dX10_sure_89 : decode cX10_sure 89 = .ok (.iaload, 1) := by decide +kernel
theorem dX10_sure_90 : decode cX10_sure 90 = .ok (.iload_n 3, 1) := by decide +kernel
theorem dX10_sure_91 : decode cX10_sure 91 = .ok (.iload_n 2, 1) := by decide +kernel
theorem dX10_sure_92 : decode cX10_sure 92 = .ok (.iadd, 1) := by decide +kernel
theorem dX10_sure_93 : decode cX10_sure 93 = .ok (.if_icmp .le 7, 3) := by decide +kernel
theorem dX10_sure_96 : decode cX10_sure 96 = .ok (.iconst 1, 1) := by decide +kernel
theorem dX10_sure_97 : decode cX10_sure 97 = .ok (.goto 4, 3) := by decide +kernel
theorem dX10_sure_100 : decode cX10_sure 100 = .ok (.iconst 0, 1) := by decide +kernel
theorem dX10_sure_101 : decode cX10_sure 101 = .ok (.ireturn, 1) := by decide +kernel
theorem dX10_deal_0 : decode cX10_deal 0 = .ok (.iconst 0, 1) := by decide +kernel
theorem dX10_deal_1 : decode cX10_deal 1 = .ok (.istore 4, 2) := by decide +kernel
theorem dX10_deal_3 : decode cX10_deal 3 = .ok (.iload 4, 2) := by decide +kernel
theorem dX10_deal_5 : decode cX10_deal 5 = .ok (.aload_n 0, 1) := by decide +kernel
theorem dX10_deal_6 : decode cX10_deal 6 = .ok (.getfield 22, 3) := by decide +kernel
theorem dX10_deal_9 : decode cX10_deal 9 = .ok (.iload_n 1, 1) := by decide +kernel
theorem dX10_deal_10 : decode cX10_deal 10 = .ok (.iaload, 1) := by decide +kernel
theorem dX10_deal_11 : decode cX10_deal 11 = .ok (.if_icmp .ge 232, 3) := by decide +kernel
theorem dX10_deal_14 : decode cX10_deal 14 = .ok (.aload_n 0, 1) := by decide +kernel
theorem dX10_deal_15 : decode cX10_deal 15 = .ok (.iconst 0, 1) := by decide +kernel
theorem dX10_deal_16 : decode cX10_deal 16 = .ok (.iload_n 1, 1) := by decide +kernel
theorem dX10_deal_17 : decode cX10_deal 17 = .ok (.iload 4, 2) := by decide +kernel
theorem dX10_deal_19 : decode cX10_deal 19 = .ok (.invokevirtual 201, 3) := by decide +kernel
theorem dX10_deal_22 : decode cX10_deal 22 = .ok (.istore 5, 2) := by decide +kernel
theorem dX10_deal_24 : decode cX10_deal 24 = .ok (.aload_n 0, 1) := by decide +kernel
theorem dX10_deal_25 : decode cX10_deal 25 = .ok (.getfield 52, 3) := by decide +kernel
theorem dX10_deal_28 : decode cX10_deal 28 = .ok (.bipush 41, 2) := by decide +kernel
theorem dX10_deal_30 : decode cX10_deal 30 = .ok (.iload 5, 2) := by decide +kernel
theorem dX10_deal_32 : decode cX10_deal 32 = .ok (.imul, 1) := by decide +kernel
theorem dX10_deal_33 : decode cX10_deal 33 = .ok (.bipush 40, 2) := by decide +kernel
theorem dX10_deal_35 : decode cX10_deal 35 = .ok (.iadd, 1) := by decide +kernel
theorem dX10_deal_36 : decode cX10_deal 36 = .ok (.iaload, 1) := by decide +kernel
theorem dX10_deal_37 : decode cX10_deal 37 = .ok (.i2l, 1) := by decide +kernel
theorem dX10_deal_38 : decode cX10_deal 38 = .ok (.lstore 6, 2) := by decide +kernel
theorem dX10_deal_40 : decode cX10_deal 40 = .ok (.iload_n 2, 1) := by decide +kernel
theorem dX10_deal_41 : decode cX10_deal 41 = .ok (.istore 8, 2) := by decide +kernel
theorem dX10_deal_43 : decode cX10_deal 43 = .ok (.iload 8, 2) := by decide +kernel
theorem dX10_deal_45 : decode cX10_deal 45 = .ok (.iload_n 2, 1) := by decide +kernel
theorem dX10_deal_46 : decode cX10_deal 46 = .ok (.iload_n 3, 1) := by decide +kernel
theorem dX10_deal_47 : decode cX10_deal 47 = .ok (.iadd, 1) := by decide +kernel
theorem dX10_deal_48 : decode cX10_deal 48 = .ok (.if_icmp .ge 59, 3) := by decide +kernel
theorem dX10_deal_51 : decode cX10_deal 51 = .ok (.iconst 0, 1) := by decide +kernel
theorem dX10_deal_52 : decode cX10_deal 52 = .ok (.istore 9, 2) := by decide +kernel
theorem dX10_deal_54 : decode cX10_deal 54 = .ok (.iload 9, 2) := by decide +kernel
theorem dX10_deal_56 : decode cX10_deal 56 = .ok (.aload_n 0, 1) := by decide +kernel
theorem dX10_deal_57 : decode cX10_deal 57 = .ok (.getfield 22, 3) := by decide +kernel
theorem dX10_deal_60 : decode cX10_deal 60 = .ok (.bipush 20, 2) := by decide +kernel
theorem dX10_deal_62 : decode cX10_deal 62 = .ok (.iload 8, 2) := by decide +kernel
theorem dX10_deal_64 : decode cX10_deal 64 = .ok (.iadd, 1) := by decide +kernel
theorem dX10_deal_65 : decode cX10_deal 65 = .ok (.iaload, 1) := by decide +kernel
theorem dX10_deal_66 : decode cX10_deal 66 = .ok (.if_icmp .ge 35, 3) := by decide +kernel
theorem dX10_deal_69 : decode cX10_deal 69 = .ok (.lload 6, 2) := by decide +kernel
theorem dX10_deal_71 : decode cX10_deal 71 = .ok (.aload_n 0, 1) := by decide +kernel
theorem dX10_deal_72 : decode cX10_deal 72 = .ok (.getfield 52, 3) := by decide +kernel
theorem dX10_deal_75 : decode cX10_deal 75 = .ok (.bipush 41, 2) := by decide +kernel
theorem dX10_deal_77 : decode cX10_deal 77 = .ok (.iload 5, 2) := by decide +kernel
theorem dX10_deal_79 : decode cX10_deal 79 = .ok (.imul, 1) := by decide +kernel
theorem dX10_deal_80 : decode cX10_deal 80 = .ok (.aload_n 0, 1) := by decide +kernel
theorem dX10_deal_81 : decode cX10_deal 81 = .ok (.iconst 1, 1) := by decide +kernel
theorem dX10_deal_82 : decode cX10_deal 82 = .ok (.iload 8, 2) := by decide +kernel
theorem dX10_deal_84 : decode cX10_deal 84 = .ok (.iload 9, 2) := by decide +kernel
theorem dX10_deal_86 : decode cX10_deal 86 = .ok (.invokevirtual 201, 3) := by decide +kernel
theorem dX10_deal_89 : decode cX10_deal 89 = .ok (.iadd, 1) := by decide +kernel
theorem dX10_deal_90 : decode cX10_deal 90 = .ok (.iaload, 1) := by decide +kernel
theorem dX10_deal_91 : decode cX10_deal 91 = .ok (.i2l, 1) := by decide +kernel
theorem dX10_deal_92 : decode cX10_deal 92 = .ok (.ladd, 1) := by decide +kernel
theorem dX10_deal_93 : decode cX10_deal 93 = .ok (.lstore 6, 2) := by decide +kernel
theorem dX10_deal_95 : decode cX10_deal 95 = .ok (.iinc 9 1, 3) := by decide +kernel
theorem dX10_deal_98 : decode cX10_deal 98 = .ok (.goto (-44), 3) := by decide +kernel
theorem dX10_deal_101 : decode cX10_deal 101 = .ok (.iinc 8 1, 3) := by decide +kernel
theorem dX10_deal_104 : decode cX10_deal 104 = .ok (.goto (-61), 3) := by decide +kernel
theorem dX10_deal_107 : decode cX10_deal 107 = .ok (.lload 6, 2) := by decide +kernel
theorem dX10_deal_109 : decode cX10_deal 109 = .ok (.lconst 0, 1) := by decide +kernel
theorem dX10_deal_110 : decode cX10_deal 110 = .ok (.lcmp, 1) := by decide +kernel
theorem dX10_deal_111 : decode cX10_deal 111 = .ok (.ifCond .gt 6, 3) := by decide +kernel
theorem dX10_deal_114 : decode cX10_deal 114 = .ok (.goto 123, 3) := by decide +kernel
theorem dX10_deal_117 : decode cX10_deal 117 = .ok (.iload_n 2, 1) := by decide +kernel
theorem dX10_deal_118 : decode cX10_deal 118 = .ok (.istore 8, 2) := by decide +kernel
theorem dX10_deal_120 : decode cX10_deal 120 = .ok (.iload 8, 2) := by decide +kernel
theorem dX10_deal_122 : decode cX10_deal 122 = .ok (.iload_n 2, 1) := by decide +kernel
theorem dX10_deal_123 : decode cX10_deal 123 = .ok (.iload_n 3, 1) := by decide +kernel
theorem dX10_deal_124 : decode cX10_deal 124 = .ok (.iadd, 1) := by decide +kernel
theorem dX10_deal_125 : decode cX10_deal 125 = .ok (.if_icmp .ge 75, 3) := by decide +kernel
theorem dX10_deal_128 : decode cX10_deal 128 = .ok (.iconst 0, 1) := by decide +kernel
theorem dX10_deal_129 : decode cX10_deal 129 = .ok (.istore 9, 2) := by decide +kernel
theorem dX10_deal_131 : decode cX10_deal 131 = .ok (.iload 9, 2) := by decide +kernel
theorem dX10_deal_133 : decode cX10_deal 133 = .ok (.aload_n 0, 1) := by decide +kernel
theorem dX10_deal_134 : decode cX10_deal 134 = .ok (.getfield 22, 3) := by decide +kernel
theorem dX10_deal_137 : decode cX10_deal 137 = .ok (.bipush 20, 2) := by decide +kernel
theorem dX10_deal_139 : decode cX10_deal 139 = .ok (.iload 8, 2) := by decide +kernel
theorem dX10_deal_141 : decode cX10_deal 141 = .ok (.iadd, 1) := by decide +kernel
theorem dX10_deal_142 : decode cX10_deal 142 = .ok (.iaload, 1) := by decide +kernel
theorem dX10_deal_143 : decode cX10_deal 143 = .ok (.if_icmp .ge 51, 3) := by decide +kernel
theorem dX10_deal_146 : decode cX10_deal 146 = .ok (.bipush 41, 2) := by decide +kernel
theorem dX10_deal_148 : decode cX10_deal 148 = .ok (.iload 5, 2) := by decide +kernel
theorem dX10_deal_150 : decode cX10_deal 150 = .ok (.imul, 1) := by decide +kernel
theorem dX10_deal_151 : decode cX10_deal 151 = .ok (.aload_n 0, 1) := by decide +kernel
theorem dX10_deal_152 : decode cX10_deal 152 = .ok (.iconst 1, 1) := by decide +kernel
theorem dX10_deal_153 : decode cX10_deal 153 = .ok (.iload 8, 2) := by decide +kernel
theorem dX10_deal_155 : decode cX10_deal 155 = .ok (.iload 9, 2) := by decide +kernel
theorem dX10_deal_157 : decode cX10_deal 157 = .ok (.invokevirtual 201, 3) := by decide +kernel
theorem dX10_deal_160 : decode cX10_deal 160 = .ok (.iadd, 1) := by decide +kernel
theorem dX10_deal_161 : decode cX10_deal 161 = .ok (.istore 10, 2) := by decide +kernel
theorem dX10_deal_163 : decode cX10_deal 163 = .ok (.aload_n 0, 1) := by decide +kernel
theorem dX10_deal_164 : decode cX10_deal 164 = .ok (.getfield 94, 3) := by decide +kernel
theorem dX10_deal_167 : decode cX10_deal 167 = .ok (.iload 10, 2) := by decide +kernel
theorem dX10_deal_169 : decode cX10_deal 169 = .ok (.dup2, 1) := by decide +kernel
theorem dX10_deal_170 : decode cX10_deal 170 = .ok (.laload, 1) := by decide +kernel
theorem dX10_deal_171 : decode cX10_deal 171 = .ok (.ldc2_w 304, 3) := by decide +kernel
theorem dX10_deal_174 : decode cX10_deal 174 = .ok (.aload_n 0, 1) := by decide +kernel
theorem dX10_deal_175 : decode cX10_deal 175 = .ok (.getfield 52, 3) := by decide +kernel
theorem dX10_deal_178 : decode cX10_deal 178 = .ok (.iload 10, 2) := by decide +kernel
theorem dX10_deal_180 : decode cX10_deal 180 = .ok (.iaload, 1) := by decide +kernel
theorem dX10_deal_181 : decode cX10_deal 181 = .ok (.i2l, 1) := by decide +kernel
theorem dX10_deal_182 : decode cX10_deal 182 = .ok (.lmul, 1) := by decide +kernel
theorem dX10_deal_183 : decode cX10_deal 183 = .ok (.lload 6, 2) := by decide +kernel
theorem dX10_deal_185 : decode cX10_deal 185 = .ok (.ldiv, 1) := by decide +kernel
theorem dX10_deal_186 : decode cX10_deal 186 = .ok (.ladd, 1) := by decide +kernel
theorem dX10_deal_187 : decode cX10_deal 187 = .ok (.lastore, 1) := by decide +kernel
theorem dX10_deal_188 : decode cX10_deal 188 = .ok (.iinc 9 1, 3) := by decide +kernel
theorem dX10_deal_191 : decode cX10_deal 191 = .ok (.goto (-60), 3) := by decide +kernel
theorem dX10_deal_194 : decode cX10_deal 194 = .ok (.iinc 8 1, 3) := by decide +kernel
theorem dX10_deal_197 : decode cX10_deal 197 = .ok (.goto (-77), 3) := by decide +kernel
theorem dX10_deal_200 : decode cX10_deal 200 = .ok (.aload_n 0, 1) := by decide +kernel
theorem dX10_deal_201 : decode cX10_deal 201 = .ok (.getfield 94, 3) := by decide +kernel
theorem dX10_deal_204 : decode cX10_deal 204 = .ok (.bipush 41, 2) := by decide +kernel
theorem dX10_deal_206 : decode cX10_deal 206 = .ok (.iload 5, 2) := by decide +kernel
theorem dX10_deal_208 : decode cX10_deal 208 = .ok (.imul, 1) := by decide +kernel
theorem dX10_deal_209 : decode cX10_deal 209 = .ok (.bipush 40, 2) := by decide +kernel
theorem dX10_deal_211 : decode cX10_deal 211 = .ok (.iadd, 1) := by decide +kernel
theorem dX10_deal_212 : decode cX10_deal 212 = .ok (.dup2, 1) := by decide +kernel
theorem dX10_deal_213 : decode cX10_deal 213 = .ok (.laload, 1) := by decide +kernel
theorem dX10_deal_214 : decode cX10_deal 214 = .ok (.ldc2_w 304, 3) := by decide +kernel
theorem dX10_deal_217 : decode cX10_deal 217 = .ok (.aload_n 0, 1) := by decide +kernel
theorem dX10_deal_218 : decode cX10_deal 218 = .ok (.getfield 52, 3) := by decide +kernel
theorem dX10_deal_221 : decode cX10_deal 221 = .ok (.bipush 41, 2) := by decide +kernel
theorem dX10_deal_223 : decode cX10_deal 223 = .ok (.iload 5, 2) := by decide +kernel
theorem dX10_deal_225 : decode cX10_deal 225 = .ok (.imul, 1) := by decide +kernel
theorem dX10_deal_226 : decode cX10_deal 226 = .ok (.bipush 40, 2) := by decide +kernel
theorem dX10_deal_228 : decode cX10_deal 228 = .ok (.iadd, 1) := by decide +kernel
theorem dX10_deal_229 : decode cX10_deal 229 = .ok (.iaload, 1) := by decide +kernel
theorem dX10_deal_230 : decode cX10_deal 230 = .ok (.i2l, 1) := by decide +kernel
theorem dX10_deal_231 : decode cX10_deal 231 = .ok (.lmul, 1) := by decide +kernel
theorem dX10_deal_232 : decode cX10_deal 232 = .ok (.lload 6, 2) := by decide +kernel
theorem dX10_deal_234 : decode cX10_deal 234 = .ok (.ldiv, 1) := by decide +kernel
theorem dX10_deal_235 : decode cX10_deal 235 = .ok (.ladd, 1) := by decide +kernel
theorem dX10_deal_236 : decode cX10_deal 236 = .ok (.lastore, 1) := by decide +kernel
theorem dX10_deal_237 : decode cX10_deal 237 = .ok (.iinc 4 1, 3) := by decide +kernel
theorem dX10_deal_240 : decode cX10_deal 240 = .ok (.goto (-237), 3) := by decide +kernel
theorem dX10_deal_243 : decode cX10_deal 243 = .ok (.return_, 1) := by decide +kernel
theorem dX10_round_0 : decode cX10_round 0 = .ok (.aload_n 0, 1) := by decide +kernel
theorem dX10_round_1 : decode cX10_round 1 = .ok (.invokevirtual 294, 3) := by decide +kernel
theorem dX10_round_4 : decode cX10_round 4 = .ok (.ifCond .ne 5, 3) := by decide +kernel
theorem dX10_round_7 : decode cX10_round 7 = .ok (.iconst 0, 1) := by decide +kernel
theorem dX10_round_8 : decode cX10_round 8 = .ok (.ireturn, 1) := by decide +kernel
theorem dX10_round_9 : decode cX10_round 9 = .ok (.iconst 0, 1) := by decide +kernel
theorem dX10_round_10 : decode cX10_round 10 = .ok (.istore_n 1, 1) := by decide +kernel
theorem dX10_round_11 : decode cX10_round 11 = .ok (.iload_n 1, 1) := by decide +kernel
theorem dX10_round_12 : decode cX10_round 12 = .ok (.sipush 1640, 3) := by decide +kernel
theorem dX10_round_15 : decode cX10_round 15 = .ok (.if_icmp .ge 16, 3) := by decide +kernel
theorem dX10_round_18 : decode cX10_round 18 = .ok (.aload_n 0, 1) := by decide +kernel
theorem dX10_round_19 : decode cX10_round 19 = .ok (.getfield 94, 3) := by decide +kernel
theorem dX10_round_22 : decode cX10_round 22 = .ok (.iload_n 1, 1) := by decide +kernel
theorem dX10_round_23 : decode cX10_round 23 = .ok (.lconst 0, 1) := by decide +kernel
theorem dX10_round_24 : decode cX10_round 24 = .ok (.lastore, 1) := by decide +kernel
theorem dX10_round_25 : decode cX10_round 25 = .ok (.iinc 1 1, 3) := by decide +kernel
theorem dX10_round_28 : decode cX10_round 28 = .ok (.goto (-17), 3) := by decide +kernel
theorem dX10_round_31 : decode cX10_round 31 = .ok (.iconst 0, 1) := by decide +kernel
theorem dX10_round_32 : decode cX10_round 32 = .ok (.istore_n 1, 1) := by decide +kernel
theorem dX10_round_33 : decode cX10_round 33 = .ok (.iload_n 1, 1) := by decide +kernel
theorem dX10_round_34 : decode cX10_round 34 = .ok (.aload_n 0, 1) := by decide +kernel
theorem dX10_round_35 : decode cX10_round 35 = .ok (.getfield 291, 3) := by decide +kernel
theorem dX10_round_38 : decode cX10_round 38 = .ok (.if_icmp .ge 102, 3) := by decide +kernel
theorem dX10_round_41 : decode cX10_round 41 = .ok (.aload_n 0, 1) := by decide +kernel
theorem dX10_round_42 : decode cX10_round 42 = .ok (.getfield 85, 3) := by decide +kernel
theorem dX10_round_45 : decode cX10_round 45 = .ok (.iload_n 1, 1) := by decide +kernel
theorem dX10_round_46 : decode cX10_round 46 = .ok (.iaload, 1) := by decide +kernel
theorem dX10_round_47 : decode cX10_round 47 = .ok (.istore_n 2, 1) := by decide +kernel
theorem dX10_round_48 : decode cX10_round 48 = .ok (.aload_n 0, 1) := by decide +kernel
theorem dX10_round_49 : decode cX10_round 49 = .ok (.getfield 88, 3) := by decide +kernel
theorem dX10_round_52 : decode cX10_round 52 = .ok (.iload_n 1, 1) := by decide +kernel
theorem dX10_round_53 : decode cX10_round 53 = .ok (.iaload, 1) := by decide +kernel
theorem dX10_round_54 : decode cX10_round 54 = .ok (.istore_n 3, 1) := by decide +kernel
theorem dX10_round_55 : decode cX10_round 55 = .ok (.aload_n 0, 1) := by decide +kernel
theorem dX10_round_56 : decode cX10_round 56 = .ok (.getfield 91, 3) := by decide +kernel
theorem dX10_round_59 : decode cX10_round 59 = .ok (.iload_n 1, 1) := by decide +kernel
theorem dX10_round_60 : decode cX10_round 60 = .ok (.iaload, 1) := by decide +kernel
theorem dX10_round_61 : decode cX10_round 61 = .ok (.istore 4, 2) := by decide +kernel
theorem dX10_round_63 : decode cX10_round 63 = .ok (.iload_n 2, 1) := by decide +kernel
theorem dX10_round_64 : decode cX10_round 64 = .ok (.bipush 6, 2) := by decide +kernel
theorem dX10_round_66 : decode cX10_round 66 = .ok (.if_icmp .ne 26, 3) := by decide +kernel
theorem dX10_round_69 : decode cX10_round 69 = .ok (.aload_n 0, 1) := by decide +kernel
theorem dX10_round_70 : decode cX10_round 70 = .ok (.iload_n 3, 1) := by decide +kernel
theorem dX10_round_71 : decode cX10_round 71 = .ok (.iload 4, 2) := by decide +kernel
theorem dX10_round_73 : decode cX10_round 73 = .ok (.iconst 1, 1) := by decide +kernel
theorem dX10_round_74 : decode cX10_round 74 = .ok (.iadd, 1) := by decide +kernel
theorem dX10_round_75 : decode cX10_round 75 = .ok (.iconst 1, 1) := by decide +kernel
theorem dX10_round_76 : decode cX10_round 76 = .ok (.invokevirtual 306, 3) := by decide +kernel
theorem dX10_round_79 : decode cX10_round 79 = .ok (.aload_n 0, 1) := by decide +kernel
theorem dX10_round_80 : decode cX10_round 80 = .ok (.iload_n 3, 1) := by decide +kernel
theorem dX10_round_81 : decode cX10_round 81 = .ok (.iconst 1, 1) := by decide +kernel
theorem dX10_round_82 : decode cX10_round 82 = .ok (.iadd, 1) := by decide +kernel
theorem dX10_round_83 : decode cX10_round 83 = .ok (.iload 4, 2) := by decide +kernel
theorem dX10_round_85 : decode cX10_round 85 = .ok (.iconst 1, 1) := by decide +kernel
theorem dX10_round_86 : decode cX10_round 86 = .ok (.invokevirtual 306, 3) := by decide +kernel
theorem dX10_round_89 : decode cX10_round 89 = .ok (.goto 45, 3) := by decide +kernel
theorem dX10_round_92 : decode cX10_round 92 = .ok (.iload_n 2, 1) := by decide +kernel
theorem dX10_round_93 : decode cX10_round 93 = .ok (.iconst 1, 1) := by decide +kernel
theorem dX10_round_94 : decode cX10_round 94 = .ok (.if_icmp .eq 40, 3) := by decide +kernel
theorem dX10_round_97 : decode cX10_round 97 = .ok (.iload_n 2, 1) := by decide +kernel
theorem dX10_round_98 : decode cX10_round 98 = .ok (.iconst 2, 1) := by decide +kernel
theorem dX10_round_99 : decode cX10_round 99 = .ok (.if_icmp .eq 35, 3) := by decide +kernel
theorem dX10_round_102 : decode cX10_round 102 = .ok (.iload_n 3, 1) := by decide +kernel
theorem dX10_round_103 : decode cX10_round 103 = .ok (.istore 5, 2) := by decide +kernel
theorem dX10_round_105 : decode cX10_round 105 = .ok (.iload 5, 2) := by decide +kernel
theorem dX10_round_107 : decode cX10_round 107 = .ok (.iload_n 3, 1) := by decide +kernel
theorem dX10_round_108 : decode cX10_round 108 = .ok (.iload_n 2, 1) := by decide +kernel
theorem dX10_round_109 : decode cX10_round 109 = .ok (.invokestatic 254, 3) := by decide +kernel
theorem dX10_round_112 : decode cX10_round 112 = .ok (.iadd, 1) := by decide +kernel
theorem dX10_round_113 : decode cX10_round 113 = .ok (.if_icmp .ge 21, 3) := by decide +kernel
theorem dX10_round_116 : decode cX10_round 116 = .ok (.aload_n 0, 1) := by decide +kernel
theorem dX10_round_117 : decode cX10_round 117 = .ok (.iload 5, 2) := by decide +kernel
theorem dX10_round_119 : decode cX10_round 119 = .ok (.iload 4, 2) := by decide +kernel
theorem dX10_round_121 : decode cX10_round 121 = .ok (.iload_n 2, 1) := by decide +kernel
theorem dX10_round_122 : decode cX10_round 122 = .ok (.invokestatic 257, 3) := by decide +kernel
theorem dX10_round_125 : decode cX10_round 125 = .ok (.invokevirtual 306, 3) := by decide +kernel
theorem dX10_round_128 : decode cX10_round 128 = .ok (.iinc 5 1, 3) := by decide +kernel
theorem dX10_round_131 : decode cX10_round 131 = .ok (.goto (-26), 3) := by decide +kernel
theorem dX10_round_134 : decode cX10_round 134 = .ok (.iinc 1 1, 3) := by decide +kernel
theorem dX10_round_137 : decode cX10_round 137 = .ok (.goto (-104), 3) := by decide +kernel
theorem dX10_round_140 : decode cX10_round 140 = .ok (.iconst 0, 1) := by decide +kernel
theorem dX10_round_141 : decode cX10_round 141 = .ok (.istore_n 1, 1) := by decide +kernel
theorem dX10_round_142 : decode cX10_round 142 = .ok (.iload_n 1, 1) := by decide +kernel
theorem dX10_round_143 : decode cX10_round 143 = .ok (.aload_n 0, 1) := by decide +kernel
theorem dX10_round_144 : decode cX10_round 144 = .ok (.getfield 34, 3) := by decide +kernel
theorem dX10_round_147 : decode cX10_round 147 = .ok (.iconst 0, 1) := by decide +kernel
theorem dX10_round_148 : decode cX10_round 148 = .ok (.iaload, 1) := by decide +kernel
theorem dX10_round_149 : decode cX10_round 149 = .ok (.if_icmp .ge 100, 3) := by decide +kernel
theorem dX10_round_152 : decode cX10_round 152 = .ok (.lconst 0, 1) := by decide +kernel
theorem dX10_round_153 : decode cX10_round 153 = .ok (.lstore_n 2, 1) := by decide +kernel
theorem dX10_round_154 : decode cX10_round 154 = .ok (.iconst 0, 1) := by decide +kernel
theorem dX10_round_155 : decode cX10_round 155 = .ok (.istore 4, 2) := by decide +kernel
theorem dX10_round_157 : decode cX10_round 157 = .ok (.iload 4, 2) := by decide +kernel
theorem dX10_round_159 : decode cX10_round 159 = .ok (.bipush 40, 2) := by decide +kernel
theorem dX10_round_161 : decode cX10_round 161 = .ok (.if_icmp .gt 24, 3) := by decide +kernel
theorem dX10_round_164 : decode cX10_round 164 = .ok (.lload_n 2, 1) := by decide +kernel
theorem dX10_round_165 : decode cX10_round 165 = .ok (.aload_n 0, 1) := by decide +kernel
theorem dX10_round_166 : decode cX10_round 166 = .ok (.getfield 94, 3) := by decide +kernel
theorem dX10_round_169 : decode cX10_round 169 = .ok (.bipush 41, 2) := by decide +kernel
theorem dX10_round_171 : decode cX10_round 171 = .ok (.iload_n 1, 1) := by decide +kernel
theorem dX10_round_172 : decode cX10_round 172 = .ok (.imul, 1) := by decide +kernel
theorem dX10_round_173 : decode cX10_round 173 = .ok (.iload 4, 2) := by decide +kernel
theorem dX10_round_175 : decode cX10_round 175 = .ok (.iadd, 1) := by decide +kernel
theorem dX10_round_176 : decode cX10_round 176 = .ok (.laload, 1) := by decide +kernel
theorem dX10_round_177 : decode cX10_round 177 = .ok (.ladd, 1) := by decide +kernel
theorem dX10_round_178 : decode cX10_round 178 = .ok (.lstore_n 2, 1) := by decide +kernel
theorem dX10_round_179 : decode cX10_round 179 = .ok (.iinc 4 1, 3) := by decide +kernel
theorem dX10_round_182 : decode cX10_round 182 = .ok (.goto (-25), 3) := by decide +kernel
theorem dX10_round_185 : decode cX10_round 185 = .ok (.iconst 0, 1) := by decide +kernel
theorem dX10_round_186 : decode cX10_round 186 = .ok (.istore 4, 2) := by decide +kernel
theorem dX10_round_188 : decode cX10_round 188 = .ok (.iload 4, 2) := by decide +kernel
theorem dX10_round_190 : decode cX10_round 190 = .ok (.bipush 40, 2) := by decide +kernel
theorem dX10_round_192 : decode cX10_round 192 = .ok (.if_icmp .gt 46, 3) := by decide +kernel
theorem dX10_round_195 : decode cX10_round 195 = .ok (.lload_n 2, 1) := by decide +kernel
theorem dX10_round_196 : decode cX10_round 196 = .ok (.lconst 0, 1) := by decide +kernel
theorem dX10_round_197 : decode cX10_round 197 = .ok (.lcmp, 1) := by decide +kernel
theorem dX10_round_198 : decode cX10_round 198 = .ok (.ifCond .le 40, 3) := by decide +kernel
theorem dX10_round_201 : decode cX10_round 201 = .ok (.aload_n 0, 1) := by decide +kernel
theorem dX10_round_202 : decode cX10_round 202 = .ok (.getfield 52, 3) := by decide +kernel
theorem dX10_round_205 : decode cX10_round 205 = .ok (.bipush 41, 2) := by decide +kernel
theorem dX10_round_207 : decode cX10_round 207 = .ok (.iload_n 1, 1) := by decide +kernel
theorem dX10_round_208 : decode cX10_round 208 = .ok (.imul, 1) := by decide +kernel
theorem dX10_round_209 : decode cX10_round 209 = .ok (.iload 4, 2) := by decide +kernel
theorem dX10_round_211 : decode cX10_round 211 = .ok (.iadd, 1) := by decide +kernel
theorem dX10_round_212 : decode cX10_round 212 = .ok (.ldc2_w 304, 3) := by decide +kernel
theorem dX10_round_215 : decode cX10_round 215 = .ok (.aload_n 0, 1) := by decide +kernel
theorem dX10_round_216 : decode cX10_round 216 = .ok (.getfield 94, 3) := by decide +kernel
theorem dX10_round_219 : decode cX10_round 219 = .ok (.bipush 41, 2) := by decide +kernel
theorem dX10_round_221 : decode cX10_round 221 = .ok (.iload_n 1, 1) := by decide +kernel
theorem dX10_round_222 : decode cX10_round 222 = .ok (.imul, 1) := by decide +kernel
theorem dX10_round_223 : decode cX10_round 223 = .ok (.iload 4, 2) := by decide +kernel
theorem dX10_round_225 : decode cX10_round 225 = .ok (.iadd, 1) := by decide +kernel
theorem dX10_round_226 : decode cX10_round 226 = .ok (.laload, 1) := by decide +kernel
theorem dX10_round_227 : decode cX10_round 227 = .ok (.lmul, 1) := by decide +kernel
theorem dX10_round_228 : decode cX10_round 228 = .ok (.lload_n 2, 1) := by decide +kernel
theorem dX10_round_229 : decode cX10_round 229 = .ok (.ldiv, 1) := by decide +kernel
theorem dX10_round_230 : decode cX10_round 230 = .ok (.l2i, 1) := by decide +kernel
theorem dX10_round_231 : decode cX10_round 231 = .ok (.iastore, 1) := by decide +kernel
theorem dX10_round_232 : decode cX10_round 232 = .ok (.iinc 4 1, 3) := by decide +kernel
theorem dX10_round_235 : decode cX10_round 235 = .ok (.goto (-47), 3) := by decide +kernel
theorem dX10_round_238 : decode cX10_round 238 = .ok (.aload_n 0, 1) := by decide +kernel
theorem dX10_round_239 : decode cX10_round 239 = .ok (.iload_n 1, 1) := by decide +kernel
theorem dX10_round_240 : decode cX10_round 240 = .ok (.invokevirtual 310, 3) := by decide +kernel
theorem dX10_round_243 : decode cX10_round 243 = .ok (.iinc 1 1, 3) := by decide +kernel
theorem dX10_round_246 : decode cX10_round 246 = .ok (.goto (-104), 3) := by decide +kernel
theorem dX10_round_249 : decode cX10_round 249 = .ok (.iconst 1, 1) := by decide +kernel
theorem dX10_round_250 : decode cX10_round 250 = .ok (.ireturn, 1) := by decide +kernel
theorem dX10_tie_0 : decode cX10_tie 0 = .ok (.iconst 0, 1) := by decide +kernel
theorem dX10_tie_1 : decode cX10_tie 1 = .ok (.istore_n 2, 1) := by decide +kernel
theorem dX10_tie_2 : decode cX10_tie 2 = .ok (.iload_n 2, 1) := by decide +kernel
theorem dX10_tie_3 : decode cX10_tie 3 = .ok (.bipush 40, 2) := by decide +kernel
theorem dX10_tie_5 : decode cX10_tie 5 = .ok (.if_icmp .gt 45, 3) := by decide +kernel
theorem dX10_tie_8 : decode cX10_tie 8 = .ok (.aload_n 0, 1) := by decide +kernel
theorem dX10_tie_9 : decode cX10_tie 9 = .ok (.getfield 49, 3) := by decide +kernel
theorem dX10_tie_12 : decode cX10_tie 12 = .ok (.iload_n 1, 1) := by decide +kernel
theorem dX10_tie_13 : decode cX10_tie 13 = .ok (.iaload, 1) := by decide +kernel
theorem dX10_tie_14 : decode cX10_tie 14 = .ok (.ifCond .lt 36, 3) := by decide +kernel
theorem dX10_tie_17 : decode cX10_tie 17 = .ok (.aload_n 0, 1) := by decide +kernel
theorem dX10_tie_18 : decode cX10_tie 18 = .ok (.getfield 52, 3) := by decide +kernel
theorem dX10_tie_21 : decode cX10_tie 21 = .ok (.bipush 41, 2) := by decide +kernel
theorem dX10_tie_23 : decode cX10_tie 23 = .ok (.iload_n 1, 1) := by decide +kernel
theorem dX10_tie_24 : decode cX10_tie 24 = .ok (.imul, 1) := by decide +kernel
theorem dX10_tie_25 : decode cX10_tie 25 = .ok (.iload_n 2, 1) := by decide +kernel
theorem dX10_tie_26 : decode cX10_tie 26 = .ok (.iadd, 1) := by decide +kernel
theorem dX10_tie_27 : decode cX10_tie 27 = .ok (.iload_n 2, 1) := by decide +kernel
theorem dX10_tie_28 : decode cX10_tie 28 = .ok (.aload_n 0, 1) := by decide +kernel
theorem dX10_tie_29 : decode cX10_tie 29 = .ok (.getfield 49, 3) := by decide +kernel
theorem dX10_tie_32 : decode cX10_tie 32 = .ok (.iload_n 1, 1) := by decide +kernel
theorem dX10_tie_33 : decode cX10_tie 33 = .ok (.iaload, 1) := by decide +kernel
theorem dX10_tie_34 : decode cX10_tie 34 = .ok (.if_icmp .ne 8, 3) := by decide +kernel
theorem dX10_tie_37 : decode cX10_tie 37 = .ok (.ldc 193, 2) := by decide +kernel
theorem dX10_tie_39 : decode cX10_tie 39 = .ok (.goto 4, 3) := by decide +kernel
theorem dX10_tie_42 : decode cX10_tie 42 = .ok (.iconst 0, 1) := by decide +kernel
theorem dX10_tie_43 : decode cX10_tie 43 = .ok (.iastore, 1) := by decide +kernel
theorem dX10_tie_44 : decode cX10_tie 44 = .ok (.iinc 2 1, 3) := by decide +kernel
theorem dX10_tie_47 : decode cX10_tie 47 = .ok (.goto (-45), 3) := by decide +kernel
theorem dX10_tie_50 : decode cX10_tie 50 = .ok (.return_, 1) := by decide +kernel
theorem dX10_rounds_0 : decode cX10_rounds 0 = .ok (.iload_n 1, 1) := by decide +kernel
theorem dX10_rounds_1 : decode cX10_rounds 1 = .ok (.i2l, 1) := by decide +kernel
theorem dX10_rounds_2 : decode cX10_rounds 2 = .ok (.lconst 0, 1) := by decide +kernel
theorem dX10_rounds_3 : decode cX10_rounds 3 = .ok (.ldc2_w 314, 3) := by decide +kernel
theorem dX10_rounds_6 : decode cX10_rounds 6 = .ok (.invokestatic 131, 3) := by decide +kernel
theorem dX10_rounds_9 : decode cX10_rounds 9 = .ok (.ifCond .ne 6, 3) := by decide +kernel
theorem dX10_rounds_12 : decode cX10_rounds 12 = .ok (.ldc 135, 2) := by decide +kernel
theorem dX10_rounds_14 : decode cX10_rounds 14 = .ok (.ireturn, 1) := by decide +kernel
theorem dX10_rounds_15 : decode cX10_rounds 15 = .ok (.iconst 0, 1) := by decide +kernel
theorem dX10_rounds_16 : decode cX10_rounds 16 = .ok (.istore_n 2, 1) := by decide +kernel
theorem dX10_rounds_17 : decode cX10_rounds 17 = .ok (.iload_n 2, 1) := by decide +kernel
theorem dX10_rounds_18 : decode cX10_rounds 18 = .ok (.iload_n 1, 1) := by decide +kernel
theorem dX10_rounds_19 : decode cX10_rounds 19 = .ok (.if_icmp .ge 16, 3) := by decide +kernel
theorem dX10_rounds_22 : decode cX10_rounds 22 = .ok (.aload_n 0, 1) := by decide +kernel
theorem dX10_rounds_23 : decode cX10_rounds 23 = .ok (.invokevirtual 316, 3) := by decide +kernel
theorem dX10_rounds_26 : decode cX10_rounds 26 = .ok (.ifCond .eq 9, 3) := by decide +kernel
theorem dX10_rounds_29 : decode cX10_rounds 29 = .ok (.iinc 2 1, 3) := by decide +kernel
theorem dX10_rounds_32 : decode cX10_rounds 32 = .ok (.goto (-15), 3) := by decide +kernel
theorem dX10_rounds_35 : decode cX10_rounds 35 = .ok (.iload_n 2, 1) := by decide +kernel
theorem dX10_rounds_36 : decode cX10_rounds 36 = .ok (.ireturn, 1) := by decide +kernel
theorem dX10_share_0 : decode cX10_share 0 = .ok (.aload_n 0, 1) := by decide +kernel
theorem dX10_share_1 : decode cX10_share 1 = .ok (.iconst 0, 1) := by decide +kernel
theorem dX10_share_2 : decode cX10_share 2 = .ok (.iload_n 1, 1) := by decide +kernel
theorem dX10_share_3 : decode cX10_share 3 = .ok (.invokevirtual 220, 3) := by decide +kernel
theorem dX10_share_6 : decode cX10_share 6 = .ok (.ifCond .eq 17, 3) := by decide +kernel
theorem dX10_share_9 : decode cX10_share 9 = .ok (.iload_n 2, 1) := by decide +kernel
theorem dX10_share_10 : decode cX10_share 10 = .ok (.iconst (-1), 1) := by decide +kernel
theorem dX10_share_11 : decode cX10_share 11 = .ok (.if_icmp .eq 15, 3) := by decide +kernel
theorem dX10_share_14 : decode cX10_share 14 = .ok (.aload_n 0, 1) := by decide +kernel
theorem dX10_share_15 : decode cX10_share 15 = .ok (.iconst 1, 1) := by decide +kernel
theorem dX10_share_16 : decode cX10_share 16 = .ok (.iload_n 2, 1) := by decide +kernel
theorem dX10_share_17 : decode cX10_share 17 = .ok (.invokevirtual 220, 3) := by decide +kernel
theorem dX10_share_20 : decode cX10_share 20 = .ok (.ifCond .ne 6, 3) := by decide +kernel
theorem dX10_share_23 : decode cX10_share 23 = .ok (.ldc 194, 2) := by decide +kernel
theorem dX10_share_25 : decode cX10_share 25 = .ok (.ireturn, 1) := by decide +kernel
theorem dX10_share_26 : decode cX10_share 26 = .ok (.aload_n 0, 1) := by decide +kernel
theorem dX10_share_27 : decode cX10_share 27 = .ok (.getfield 52, 3) := by decide +kernel
theorem dX10_share_30 : decode cX10_share 30 = .ok (.bipush 41, 2) := by decide +kernel
theorem dX10_share_32 : decode cX10_share 32 = .ok (.iload_n 1, 1) := by decide +kernel
theorem dX10_share_33 : decode cX10_share 33 = .ok (.imul, 1) := by decide +kernel
theorem dX10_share_34 : decode cX10_share 34 = .ok (.iload_n 2, 1) := by decide +kernel
theorem dX10_share_35 : decode cX10_share 35 = .ok (.ifCond .ge 8, 3) := by decide +kernel
theorem dX10_share_38 : decode cX10_share 38 = .ok (.bipush 40, 2) := by decide +kernel
theorem dX10_share_40 : decode cX10_share 40 = .ok (.goto 4, 3) := by decide +kernel
theorem dX10_share_43 : decode cX10_share 43 = .ok (.iload_n 2, 1) := by decide +kernel
theorem dX10_share_44 : decode cX10_share 44 = .ok (.iadd, 1) := by decide +kernel
theorem dX10_share_45 : decode cX10_share 45 = .ok (.iaload, 1) := by decide +kernel
theorem dX10_share_46 : decode cX10_share 46 = .ok (.ireturn, 1) := by decide +kernel
theorem dX10_partner_0 : decode cX10_partner 0 = .ok (.aload_n 0, 1) := by decide +kernel
theorem dX10_partner_1 : decode cX10_partner 1 = .ok (.iconst 0, 1) := by decide +kernel
theorem dX10_partner_2 : decode cX10_partner 2 = .ok (.iload_n 1, 1) := by decide +kernel
theorem dX10_partner_3 : decode cX10_partner 3 = .ok (.invokevirtual 220, 3) := by decide +kernel
theorem dX10_partner_6 : decode cX10_partner 6 = .ok (.ifCond .ne 6, 3) := by decide +kernel
theorem dX10_partner_9 : decode cX10_partner 9 = .ok (.ldc 194, 2) := by decide +kernel
theorem dX10_partner_11 : decode cX10_partner 11 = .ok (.ireturn, 1) := by decide +kernel
theorem dX10_partner_12 : decode cX10_partner 12 = .ok (.aload_n 0, 1) := by decide +kernel
theorem dX10_partner_13 : decode cX10_partner 13 = .ok (.getfield 52, 3) := by decide +kernel
theorem dX10_partner_16 : decode cX10_partner 16 = .ok (.bipush 41, 2) := by decide +kernel
theorem dX10_partner_18 : decode cX10_partner 18 = .ok (.iload_n 1, 1) := by decide +kernel
theorem dX10_partner_19 : decode cX10_partner 19 = .ok (.imul, 1) := by decide +kernel
theorem dX10_partner_20 : decode cX10_partner 20 = .ok (.bipush 40, 2) := by decide +kernel
theorem dX10_partner_22 : decode cX10_partner 22 = .ok (.iadd, 1) := by decide +kernel
theorem dX10_partner_23 : decode cX10_partner 23 = .ok (.iaload, 1) := by decide +kernel
theorem dX10_partner_24 : decode cX10_partner 24 = .ok (.istore_n 3, 1) := by decide +kernel
theorem dX10_partner_25 : decode cX10_partner 25 = .ok (.iconst 0, 1) := by decide +kernel
theorem dX10_partner_26 : decode cX10_partner 26 = .ok (.istore 4, 2) := by decide +kernel
theorem dX10_partner_28 : decode cX10_partner 28 = .ok (.iload 4, 2) := by decide +kernel
theorem dX10_partner_30 : decode cX10_partner 30 = .ok (.aload_n 0, 1) := by decide +kernel
theorem dX10_partner_31 : decode cX10_partner 31 = .ok (.getfield 34, 3) := by decide +kernel
theorem dX10_partner_34 : decode cX10_partner 34 = .ok (.iconst 1, 1) := by decide +kernel
theorem dX10_partner_35 : decode cX10_partner 35 = .ok (.iaload, 1) := by decide +kernel
theorem dX10_partner_36 : decode cX10_partner 36 = .ok (.if_icmp .ge 24, 3) := by decide +kernel
theorem dX10_partner_39 : decode cX10_partner 39 = .ok (.iload_n 3, 1) := by decide +kernel
theorem dX10_partner_40 : decode cX10_partner 40 = .ok (.aload_n 0, 1) := by decide +kernel
theorem dX10_partner_41 : decode cX10_partner 41 = .ok (.getfield 52, 3) := by decide +kernel
theorem dX10_partner_44 : decode cX10_partner 44 = .ok (.bipush 41, 2) := by decide +kernel
theorem dX10_partner_46 : decode cX10_partner 46 = .ok (.iload_n 1, 1) := by decide +kernel
theorem dX10_partner_47 : decode cX10_partner 47 = .ok (.imul, 1) := by decide +kernel
theorem dX10_partner_48 : decode cX10_partner 48 = .ok (.iload 4, 2) := by decide +kernel
theorem dX10_partner_50 : decode cX10_partner 50 = .ok (.iadd, 1) := by decide +kernel
theorem dX10_partner_51 : decode cX10_partner 51 = .ok (.iaload, 1) := by decide +kernel
theorem dX10_partner_52 : decode cX10_partner 52 = .ok (.iadd, 1) := by decide +kernel
theorem dX10_partner_53 : decode cX10_partner 53 = .ok (.istore_n 3, 1) := by decide +kernel
theorem dX10_partner_54 : decode cX10_partner 54 = .ok (.iinc 4 1, 3) := by decide +kernel
theorem dX10_partner_57 : decode cX10_partner 57 = .ok (.goto (-29), 3) := by decide +kernel
theorem dX10_partner_60 : decode cX10_partner 60 = .ok (.iload_n 2, 1) := by decide +kernel
theorem dX10_partner_61 : decode cX10_partner 61 = .ok (.ifCond .ne 11, 3) := by decide +kernel
theorem dX10_partner_64 : decode cX10_partner 64 = .ok (.aload_n 0, 1) := by decide +kernel
theorem dX10_partner_65 : decode cX10_partner 65 = .ok (.iload_n 1, 1) := by decide +kernel
theorem dX10_partner_66 : decode cX10_partner 66 = .ok (.invokevirtual 227, 3) := by decide +kernel
theorem dX10_partner_69 : decode cX10_partner 69 = .ok (.goto 31, 3) := by decide +kernel
theorem dX10_partner_72 : decode cX10_partner 72 = .ok (.iload_n 2, 1) := by decide +kernel
theorem dX10_partner_73 : decode cX10_partner 73 = .ok (.iconst 1, 1) := by decide +kernel
theorem dX10_partner_74 : decode cX10_partner 74 = .ok (.if_icmp .ne 10, 3) := by decide +kernel
theorem dX10_partner_77 : decode cX10_partner 77 = .ok (.ldc 193, 2) := by decide +kernel
theorem dX10_partner_79 : decode cX10_partner 79 = .ok (.iload_n 3, 1) := by decide +kernel
theorem dX10_partner_80 : decode cX10_partner 80 = .ok (.isub, 1) := by decide +kernel
theorem dX10_partner_81 : decode cX10_partner 81 = .ok (.goto 19, 3) := by decide +kernel
theorem dX10_partner_84 : decode cX10_partner 84 = .ok (.iload_n 2, 1) := by decide +kernel
theorem dX10_partner_85 : decode cX10_partner 85 = .ok (.iconst 2, 1) := by decide +kernel
theorem dX10_partner_86 : decode cX10_partner 86 = .ok (.if_icmp .ne 12, 3) := by decide +kernel
theorem dX10_partner_89 : decode cX10_partner 89 = .ok (.aload_n 0, 1) := by decide +kernel
theorem dX10_partner_90 : decode cX10_partner 90 = .ok (.getfield 49, 3) := by decide +kernel
theorem dX10_partner_93 : decode cX10_partner 93 = .ok (.iload_n 1, 1) := by decide +kernel
theorem dX10_partner_94 : decode cX10_partner 94 = .ok (.iaload, 1) := by decide +kernel
theorem dX10_partner_95 : decode cX10_partner 95 = .ok (.goto 5, 3) := by decide +kernel
theorem dX10_partner_98 : decode cX10_partner 98 = .ok (.ldc 135, 2) := by decide +kernel
theorem dX10_partner_100 : decode cX10_partner 100 = .ok (.ireturn, 1) := by decide +kernel
theorem dX10_term_0 : decode cX10_term 0 = .ok (.aload_n 0, 1) := by decide +kernel
theorem dX10_term_1 : decode cX10_term 1 = .ok (.iconst 0, 1) := by decide +kernel
theorem dX10_term_2 : decode cX10_term 2 = .ok (.iload_n 1, 1) := by decide +kernel
theorem dX10_term_3 : decode cX10_term 3 = .ok (.invokevirtual 220, 3) := by decide +kernel
theorem dX10_term_6 : decode cX10_term 6 = .ok (.ifCond .eq 12, 3) := by decide +kernel
theorem dX10_term_9 : decode cX10_term 9 = .ok (.aload_n 0, 1) := by decide +kernel
theorem dX10_term_10 : decode cX10_term 10 = .ok (.iconst 1, 1) := by decide +kernel
theorem dX10_term_11 : decode cX10_term 11 = .ok (.iload_n 2, 1) := by decide +kernel
theorem dX10_term_12 : decode cX10_term 12 = .ok (.invokevirtual 220, 3) := by decide +kernel
theorem dX10_term_15 : decode cX10_term 15 = .ok (.ifCond .ne 6, 3) := by decide +kernel
theorem dX10_term_18 : decode cX10_term 18 = .ok (.ldc 194, 2) := by decide +kernel
theorem dX10_term_20 : decode cX10_term 20 = .ok (.ireturn, 1) := by decide +kernel
theorem dX10_term_21 : decode cX10_term 21 = .ok (.aload_n 0, 1) := by decide +kernel
theorem dX10_term_22 : decode cX10_term 22 = .ok (.getfield 49, 3) := by decide +kernel
theorem dX10_term_25 : decode cX10_term 25 = .ok (.iload_n 1, 1) := by decide +kernel
theorem dX10_term_26 : decode cX10_term 26 = .ok (.iaload, 1) := by decide +kernel
theorem dX10_term_27 : decode cX10_term 27 = .ok (.ifCond .lt 12, 3) := by decide +kernel
theorem dX10_term_30 : decode cX10_term 30 = .ok (.aload_n 0, 1) := by decide +kernel
theorem dX10_term_31 : decode cX10_term 31 = .ok (.getfield 49, 3) := by decide +kernel
theorem dX10_term_34 : decode cX10_term 34 = .ok (.iload_n 1, 1) := by decide +kernel
theorem dX10_term_35 : decode cX10_term 35 = .ok (.iconst (-1), 1) := by decide +kernel
theorem dX10_term_36 : decode cX10_term 36 = .ok (.iastore, 1) := by decide +kernel
theorem dX10_term_37 : decode cX10_term 37 = .ok (.iconst 0, 1) := by decide +kernel
theorem dX10_term_38 : decode cX10_term 38 = .ok (.ireturn, 1) := by decide +kernel
theorem dX10_term_39 : decode cX10_term 39 = .ok (.aload_n 0, 1) := by decide +kernel
theorem dX10_term_40 : decode cX10_term 40 = .ok (.getfield 49, 3) := by decide +kernel
theorem dX10_term_43 : decode cX10_term 43 = .ok (.iload_n 1, 1) := by decide +kernel
theorem dX10_term_44 : decode cX10_term 44 = .ok (.iload_n 2, 1) := by decide +kernel
theorem dX10_term_45 : decode cX10_term 45 = .ok (.iastore, 1) := by decide +kernel
theorem dX10_term_46 : decode cX10_term 46 = .ok (.aload_n 0, 1) := by decide +kernel
theorem dX10_term_47 : decode cX10_term 47 = .ok (.iload_n 1, 1) := by decide +kernel
theorem dX10_term_48 : decode cX10_term 48 = .ok (.invokevirtual 310, 3) := by decide +kernel
theorem dX10_term_51 : decode cX10_term 51 = .ok (.iconst 1, 1) := by decide +kernel
theorem dX10_term_52 : decode cX10_term 52 = .ok (.ireturn, 1) := by decide +kernel
theorem dX10_broken_0 : decode cX10_broken 0 = .ok (.aload_n 0, 1) := by decide +kernel
theorem dX10_broken_1 : decode cX10_broken 1 = .ok (.invokevirtual 294, 3) := by decide +kernel
theorem dX10_broken_4 : decode cX10_broken 4 = .ok (.ifCond .ne 5, 3) := by decide +kernel
theorem dX10_broken_7 : decode cX10_broken 7 = .ok (.iconst 0, 1) := by decide +kernel
theorem dX10_broken_8 : decode cX10_broken 8 = .ok (.ireturn, 1) := by decide +kernel
theorem dX10_broken_9 : decode cX10_broken 9 = .ok (.iconst 0, 1) := by decide +kernel
theorem dX10_broken_10 : decode cX10_broken 10 = .ok (.istore_n 1, 1) := by decide +kernel
theorem dX10_broken_11 : decode cX10_broken 11 = .ok (.iconst 0, 1) := by decide +kernel
theorem dX10_broken_12 : decode cX10_broken 12 = .ok (.istore_n 2, 1) := by decide +kernel
theorem dX10_broken_13 : decode cX10_broken 13 = .ok (.iload_n 2, 1) := by decide +kernel
theorem dX10_broken_14 : decode cX10_broken 14 = .ok (.aload_n 0, 1) := by decide +kernel
theorem dX10_broken_15 : decode cX10_broken 15 = .ok (.getfield 291, 3) := by decide +kernel
theorem dX10_broken_18 : decode cX10_broken 18 = .ok (.if_icmp .ge 143, 3) := by decide +kernel
theorem dX10_broken_21 : decode cX10_broken 21 = .ok (.aload_n 0, 1) := by decide +kernel
theorem dX10_broken_22 : decode cX10_broken 22 = .ok (.getfield 85, 3) := by decide +kernel
theorem dX10_broken_25 : decode cX10_broken 25 = .ok (.iload_n 2, 1) := by decide +kernel
theorem dX10_broken_26 : decode cX10_broken 26 = .ok (.iaload, 1) := by decide +kernel
theorem dX10_broken_27 : decode cX10_broken 27 = .ok (.istore_n 3, 1) := by decide +kernel
theorem dX10_broken_28 : decode cX10_broken 28 = .ok (.iconst 0, 1) := by decide +kernel
theorem dX10_broken_29 : decode cX10_broken 29 = .ok (.istore 4, 2) := by decide +kernel
theorem dX10_broken_31 : decode cX10_broken 31 = .ok (.aload_n 0, 1) := by decide +kernel
theorem dX10_broken_32 : decode cX10_broken 32 = .ok (.getfield 88, 3) := by decide +kernel
theorem dX10_broken_35 : decode cX10_broken 35 = .ok (.iload_n 2, 1) := by decide +kernel
theorem dX10_broken_36 : decode cX10_broken 36 = .ok (.iaload, 1) := by decide +kernel
theorem dX10_broken_37 : decode cX10_broken 37 = .ok (.istore 5, 2) := by decide +kernel
theorem dX10_broken_39 : decode cX10_broken 39 = .ok (.iload 5, 2) := by decide +kernel
theorem dX10_broken_41 : decode cX10_broken 41 = .ok (.aload_n 0, 1) := by decide +kernel
theorem dX10_broken_42 : decode cX10_broken 42 = .ok (.getfield 88, 3) := by decide +kernel
theorem dX10_broken_45 : decode cX10_broken 45 = .ok (.iload_n 2, 1) := by decide +kernel
theorem dX10_broken_46 : decode cX10_broken 46 = .ok (.iaload, 1) := by decide +kernel
theorem dX10_broken_47 : decode cX10_broken 47 = .ok (.iload_n 3, 1) := by decide +kernel
theorem dX10_broken_48 : decode cX10_broken 48 = .ok (.invokestatic 254, 3) := by decide +kernel
theorem dX10_broken_51 : decode cX10_broken 51 = .ok (.iadd, 1) := by decide +kernel
theorem dX10_broken_52 : decode cX10_broken 52 = .ok (.if_icmp .ge 90, 3) := by decide +kernel
theorem dX10_broken_55 : decode cX10_broken 55 = .ok (.iload_n 3, 1) := by decide +kernel
theorem dX10_broken_56 : decode cX10_broken 56 = .ok (.invokestatic 257, 3) := by decide +kernel
theorem dX10_broken_59 : decode cX10_broken 59 = .ok (.ifCond .le 83, 3) := by decide +kernel
theorem dX10_broken_62 : decode cX10_broken 62 = .ok (.iconst 0, 1) := by decide +kernel
theorem dX10_broken_63 : decode cX10_broken 63 = .ok (.istore 6, 2) := by decide +kernel
theorem dX10_broken_65 : decode cX10_broken 65 = .ok (.iload 6, 2) := by decide +kernel
theorem dX10_broken_67 : decode cX10_broken 67 = .ok (.aload_n 0, 1) := by decide +kernel
theorem dX10_broken_68 : decode cX10_broken 68 = .ok (.getfield 22, 3) := by decide +kernel
theorem dX10_broken_71 : decode cX10_broken 71 = .ok (.iload 5, 2) := by decide +kernel
theorem dX10_broken_73 : decode cX10_broken 73 = .ok (.iaload, 1) := by decide +kernel
theorem dX10_broken_74 : decode cX10_broken 74 = .ok (.if_icmp .ge 62, 3) := by decide +kernel
theorem dX10_broken_77 : decode cX10_broken 77 = .ok (.aload_n 0, 1) := by decide +kernel
theorem dX10_broken_78 : decode cX10_broken 78 = .ok (.getfield 49, 3) := by decide +kernel
theorem dX10_broken_81 : decode cX10_broken 81 = .ok (.aload_n 0, 1) := by decide +kernel
theorem dX10_broken_82 : decode cX10_broken 82 = .ok (.iconst 0, 1) := by decide +kernel
theorem dX10_broken_83 : decode cX10_broken 83 = .ok (.iload 5, 2) := by decide +kernel
theorem dX10_broken_85 : decode cX10_broken 85 = .ok (.iload 6, 2) := by decide +kernel
theorem dX10_broken_87 : decode cX10_broken 87 = .ok (.invokevirtual 201, 3) := by decide +kernel
theorem dX10_broken_90 : decode cX10_broken 90 = .ok (.iaload, 1) := by decide +kernel
theorem dX10_broken_91 : decode cX10_broken 91 = .ok (.istore 7, 2) := by decide +kernel
theorem dX10_broken_93 : decode cX10_broken 93 = .ok (.iload 4, 2) := by decide +kernel
theorem dX10_broken_95 : decode cX10_broken 95 = .ok (.ifCond .ne 28, 3) := by decide +kernel
theorem dX10_broken_98 : decode cX10_broken 98 = .ok (.iload 7, 2) := by decide +kernel
theorem dX10_broken_100 : decode cX10_broken 100 = .ok (.ifCond .lt 27, 3) := by decide +kernel
theorem dX10_broken_103 : decode cX10_broken 103 = .ok (.aload_n 0, 1) := by decide +kernel
theorem dX10_broken_104 : decode cX10_broken 104 = .ok (.iconst 1, 1) := by decide +kernel
theorem dX10_broken_105 : decode cX10_broken 105 = .ok (.aload_n 0, 1) := by decide +kernel
theorem dX10_broken_106 : decode cX10_broken 106 = .ok (.getfield 91, 3) := by decide +kernel
theorem dX10_broken_109 : decode cX10_broken 109 = .ok (.iload_n 2, 1) := by decide +kernel
theorem dX10_broken_110 : decode cX10_broken 110 = .ok (.iaload, 1) := by decide +kernel
theorem dX10_broken_111 : decode cX10_broken 111 = .ok (.iload_n 3, 1) := by decide +kernel
theorem dX10_broken_112 : decode cX10_broken 112 = .ok (.invokestatic 257, 3) := by decide +kernel
theorem dX10_broken_115 : decode cX10_broken 115 = .ok (.iload 7, 2) := by decide +kernel
theorem dX10_broken_117 : decode cX10_broken 117 = .ok (.invokevirtual 239, 3) := by decide +kernel
theorem dX10_broken_120 : decode cX10_broken 120 = .ok (.ifCond .ne 7, 3) := by decide +kernel
theorem dX10_broken_123 : decode cX10_broken 123 = .ok (.iconst 1, 1) := by decide +kernel
theorem dX10_broken_124 : decode cX10_broken 124 = .ok (.goto 4, 3) := by decide +kernel
theorem dX10_broken_127 : decode cX10_broken 127 = .ok (.iconst 0, 1) := by decide +kernel
theorem dX10_broken_128 : decode cX10_broken 128 = .ok (.istore 4, 2) := by decide +kernel
theorem dX10_broken_130 : decode cX10_broken 130 = .ok (.iinc 6 1, 3) := by decide +kernel
theorem dX10_broken_133 : decode cX10_broken 133 = .ok (.goto (-68), 3) := by decide +kernel
theorem dX10_broken_136 : decode cX10_broken 136 = .ok (.iinc 5 1, 3) := by decide +kernel
theorem dX10_broken_139 : decode cX10_broken 139 = .ok (.goto (-100), 3) := by decide +kernel
theorem dX10_broken_142 : decode cX10_broken 142 = .ok (.iload_n 1, 1) := by decide +kernel
theorem dX10_broken_143 : decode cX10_broken 143 = .ok (.iload 4, 2) := by decide +kernel
theorem dX10_broken_145 : decode cX10_broken 145 = .ok (.ifCond .eq 7, 3) := by decide +kernel
theorem dX10_broken_148 : decode cX10_broken 148 = .ok (.iconst 1, 1) := by decide +kernel
theorem dX10_broken_149 : decode cX10_broken 149 = .ok (.goto 4, 3) := by decide +kernel
theorem dX10_broken_152 : decode cX10_broken 152 = .ok (.iconst 0, 1) := by decide +kernel
theorem dX10_broken_153 : decode cX10_broken 153 = .ok (.iadd, 1) := by decide +kernel
theorem dX10_broken_154 : decode cX10_broken 154 = .ok (.istore_n 1, 1) := by decide +kernel
theorem dX10_broken_155 : decode cX10_broken 155 = .ok (.iinc 2 1, 3) := by decide +kernel
theorem dX10_broken_158 : decode cX10_broken 158 = .ok (.goto (-145), 3) := by decide +kernel
theorem dX10_broken_161 : decode cX10_broken 161 = .ok (.iload_n 1, 1) := by decide +kernel
theorem dX10_broken_162 : decode cX10_broken 162 = .ok (.ireturn, 1) := by decide +kernel
theorem dX10_gather_0 : decode cX10_gather 0 = .ok (.aload_n 0, 1) := by decide +kernel
theorem dX10_gather_1 : decode cX10_gather 1 = .ok (.iconst 0, 1) := by decide +kernel
theorem dX10_gather_2 : decode cX10_gather 2 = .ok (.putfield 319, 3) := by decide +kernel
theorem dX10_gather_5 : decode cX10_gather 5 = .ok (.aload_n 0, 1) := by decide +kernel
theorem dX10_gather_6 : decode cX10_gather 6 = .ok (.iconst 0, 1) := by decide +kernel
theorem dX10_gather_7 : decode cX10_gather 7 = .ok (.putfield 322, 3) := by decide +kernel
theorem dX10_gather_10 : decode cX10_gather 10 = .ok (.aload_n 0, 1) := by decide +kernel
theorem dX10_gather_11 : decode cX10_gather 11 = .ok (.getfield 88, 3) := by decide +kernel
theorem dX10_gather_14 : decode cX10_gather 14 = .ok (.iload_n 1, 1) := by decide +kernel
theorem dX10_gather_15 : decode cX10_gather 15 = .ok (.iaload, 1) := by decide +kernel
theorem dX10_gather_16 : decode cX10_gather 16 = .ok (.istore_n 2, 1) := by decide +kernel
theorem dX10_gather_17 : decode cX10_gather 17 = .ok (.iload_n 2, 1) := by decide +kernel
theorem dX10_gather_18 : decode cX10_gather 18 = .ok (.aload_n 0, 1) := by decide +kernel
theorem dX10_gather_19 : decode cX10_gather 19 = .ok (.getfield 88, 3) := by decide +kernel
theorem dX10_gather_22 : decode cX10_gather 22 = .ok (.iload_n 1, 1) := by decide +kernel
theorem dX10_gather_23 : decode cX10_gather 23 = .ok (.iaload, 1) := by decide +kernel
theorem dX10_gather_24 : decode cX10_gather 24 = .ok (.aload_n 0, 1) := by decide +kernel
theorem dX10_gather_25 : decode cX10_gather 25 = .ok (.getfield 85, 3) := by decide +kernel
theorem dX10_gather_28 : decode cX10_gather 28 = .ok (.iload_n 1, 1) := by decide +kernel
theorem dX10_gather_29 : decode cX10_gather 29 = .ok (.iaload, 1) := by decide +kernel
theorem dX10_gather_30 : decode cX10_gather 30 = .ok (.invokestatic 254, 3) := by decide +kernel
theorem dX10_gather_33 : decode cX10_gather 33 = .ok (.iadd, 1) := by decide +kernel
theorem dX10_gather_34 : decode cX10_gather 34 = .ok (.if_icmp .ge 53, 3) := by decide +kernel
theorem dX10_gather_37 : decode cX10_gather 37 = .ok (.iconst 0, 1) := by decide +kernel
theorem dX10_gather_38 : decode cX10_gather 38 = .ok (.istore_n 3, 1) := by decide +kernel
theorem dX10_gather_39 : decode cX10_gather 39 = .ok (.iload_n 3, 1) := by decide +kernel
theorem dX10_gather_40 : decode cX10_gather 40 = .ok (.aload_n 0, 1) := by decide +kernel
theorem dX10_gather_41 : decode cX10_gather 41 = .ok (.getfield 22, 3) := by decide +kernel
theorem dX10_gather_44 : decode cX10_gather 44 = .ok (.iload_n 2, 1) := by decide +kernel
theorem dX10_gather_45 : decode cX10_gather 45 = .ok (.iaload, 1) := by decide +kernel
theorem dX10_gather_46 : decode cX10_gather 46 = .ok (.if_icmp .ge 35, 3) := by decide +kernel
theorem dX10_gather_49 : decode cX10_gather 49 = .ok (.aload_n 0, 1) := by decide +kernel
theorem dX10_gather_50 : decode cX10_gather 50 = .ok (.getfield 98, 3) := by decide +kernel
theorem dX10_gather_53 : decode cX10_gather 53 = .ok (.aload_n 0, 1) := by decide +kernel
theorem dX10_gather_54 : decode cX10_gather 54 = .ok (.getfield 319, 3) := by decide +kernel
theorem dX10_gather_57 : decode cX10_gather 57 = .ok (.aload_n 0, 1) := by decide +kernel
theorem dX10_gather_58 : decode cX10_gather 58 = .ok (.iconst 0, 1) := by decide +kernel
theorem dX10_gather_59 : decode cX10_gather 59 = .ok (.iload_n 2, 1) := by decide +kernel
theorem dX10_gather_60 : decode cX10_gather 60 = .ok (.iload_n 3, 1) := by decide +kernel
theorem dX10_gather_61 : decode cX10_gather 61 = .ok (.invokevirtual 201, 3) := by decide +kernel
theorem dX10_gather_64 : decode cX10_gather 64 = .ok (.iastore, 1) := by decide +kernel
theorem dX10_gather_65 : decode cX10_gather 65 = .ok (.aload_n 0, 1) := by decide +kernel
theorem dX10_gather_66 : decode cX10_gather 66 = .ok (.dup, 1) := by decide +kernel
theorem dX10_gather_67 : decode cX10_gather 67 = .ok (.getfield 319, 3) := by decide +kernel
theorem dX10_gather_70 : decode cX10_gather 70 = .ok (.iconst 1, 1) := by decide +kernel
theorem dX10_gather_71 : decode cX10_gather 71 = .ok (.iadd, 1) := by decide +kernel
theorem dX10_gather_72 : decode cX10_gather 72 = .ok (.putfield 319, 3) := by decide +kernel
theorem dX10_gather_75 : decode cX10_gather 75 = .ok (.iinc 3 1, 3) := by decide +kernel
theorem dX10_gather_78 : decode cX10_gather 78 = .ok (.goto (-39), 3) := by decide +kernel
theorem dX10_gather_81 : decode cX10_gather 81 = .ok (.iinc 2 1, 3) := by decide +kernel
theorem dX10_gather_84 : decode cX10_gather 84 = .ok (.goto (-67), 3) := by decide +kernel
theorem dX10_gather_87 : decode cX10_gather 87 = .ok (.aload_n 0, 1) := by decide +kernel
theorem dX10_gather_88 : decode cX10_gather 88 = .ok (.getfield 91, 3) := by decide +kernel
theorem dX10_gather_91 : decode cX10_gather 91 = .ok (.iload_n 1, 1) := by decide +kernel
theorem dX10_gather_92 : decode cX10_gather 92 = .ok (.iaload, 1) := by decide +kernel
theorem dX10_gather_93 : decode cX10_gather 93 = .ok (.istore_n 2, 1) := by decide +kernel
theorem dX10_gather_94 : decode cX10_gather 94 = .ok (.iload_n 2, 1) := by decide +kernel
theorem dX10_gather_95 : decode cX10_gather 95 = .ok (.aload_n 0, 1) := by decide +kernel
theorem dX10_gather_96 : decode cX10_gather 96 = .ok (.getfield 91, 3) := by decide +kernel
theorem dX10_gather_99 : decode cX10_gather 99 = .ok (.iload_n 1, 1) := by decide +kernel
theorem dX10_gather_100 : decode cX10_gather 100 = .ok (.iaload, 1) := by decide +kernel
theorem dX10_gather_101 : decode cX10_gather 101 = .ok (.aload_n 0, 1) := by decide +kernel
theorem dX10_gather_102 : decode cX10_gather 102 = .ok (.getfield 85, 3) := by decide +kernel
theorem dX10_gather_105 : decode cX10_gather 105 = .ok (.iload_n 1, 1) := by decide +kernel
theorem dX10_gather_106 : decode cX10_gather 106 = .ok (.iaload, 1) := by decide +kernel
theorem dX10_gather_107 : decode cX10_gather 107 = .ok (.invokestatic 257, 3) := by decide +kernel
theorem dX10_gather_110 : decode cX10_gather 110 = .ok (.iadd, 1) := by decide +kernel
theorem dX10_gather_111 : decode cX10_gather 111 = .ok (.if_icmp .ge 56, 3) := by decide +kernel
theorem dX10_gather_114 : decode cX10_gather 114 = .ok (.iconst 0, 1) := by decide +kernel
theorem dX10_gather_115 : decode cX10_gather 115 = .ok (.istore_n 3, 1) := by decide +kernel
theorem dX10_gather_116 : decode cX10_gather 116 = .ok (.iload_n 3, 1) := by decide +kernel
theorem dX10_gather_117 : decode cX10_gather 117 = .ok (.aload_n 0, 1) := by decide +kernel
theorem dX10_gather_118 : decode cX10_gather 118 = .ok (.getfield 22, 3) := by decide +kernel
theorem dX10_gather_121 : decode cX10_gather 121 = .ok (.bipush 20, 2) := by decide +kernel
theorem dX10_gather_123 : decode cX10_gather 123 = .ok (.iload_n 2, 1) := by decide +kernel
theorem dX10_gather_124 : decode cX10_gather 124 = .ok (.iadd, 1) := by decide +kernel
theorem dX10_gather_125 : decode cX10_gather 125 = .ok (.iaload, 1) := by decide +kernel
theorem dX10_gather_126 : decode cX10_gather 126 = .ok (.if_icmp .ge 35, 3) := by decide +kernel
theorem dX10_gather_129 : decode cX10_gather 129 = .ok (.aload_n 0, 1) := by decide +kernel
theorem dX10_gather_130 : decode cX10_gather 130 = .ok (.getfield 101, 3) := by decide +kernel
theorem dX10_gather_133 : decode cX10_gather 133 = .ok (.aload_n 0, 1) := by decide +kernel
theorem dX10_gather_134 : decode cX10_gather 134 = .ok (.getfield 322, 3) := by decide +kernel
theorem dX10_gather_137 : decode cX10_gather 137 = .ok (.aload_n 0, 1) := by decide +kernel
theorem dX10_gather_138 : decode cX10_gather 138 = .ok (.iconst 1, 1) := by decide +kernel
theorem dX10_gather_139 : decode cX10_gather 139 = .ok (.iload_n 2, 1) := by decide +kernel
theorem dX10_gather_140 : decode cX10_gather 140 = .ok (.iload_n 3, 1) := by decide +kernel
theorem dX10_gather_141 : decode cX10_gather 141 = .ok (.invokevirtual 201, 3) := by decide +kernel
theorem dX10_gather_144 : decode cX10_gather 144 = .ok (.iastore, 1) := by decide +kernel
theorem dX10_gather_145 : decode cX10_gather 145 = .ok (.aload_n 0, 1) := by decide +kernel
theorem dX10_gather_146 : decode cX10_gather 146 = .ok (.dup, 1) := by decide +kernel
theorem dX10_gather_147 : decode cX10_gather 147 = .ok (.getfield 322, 3) := by decide +kernel
theorem dX10_gather_150 : decode cX10_gather 150 = .ok (.iconst 1, 1) := by decide +kernel
theorem dX10_gather_151 : decode cX10_gather 151 = .ok (.iadd, 1) := by decide +kernel
theorem dX10_gather_152 : decode cX10_gather 152 = .ok (.putfield 322, 3) := by decide +kernel
theorem dX10_gather_155 : decode cX10_gather 155 = .ok (.iinc 3 1, 3) := by decide +kernel
theorem dX10_gather_158 : decode cX10_gather 158 = .ok (.goto (-42), 3) := by decide +kernel
theorem dX10_gather_161 : decode cX10_gather 161 = .ok (.iinc 2 1, 3) := by decide +kernel
theorem dX10_gather_164 : decode cX10_gather 164 = .ok (.goto (-70), 3) := by decide +kernel
theorem dX10_gather_167 : decode cX10_gather 167 = .ok (.return_, 1) := by decide +kernel
theorem dX10_size_0 : decode cX10_size 0 = .ok (.iload_n 0, 1) := by decide +kernel
theorem dX10_size_1 : decode cX10_size 1 = .ok (.ifCond .ge 8, 3) := by decide +kernel
theorem dX10_size_4 : decode cX10_size 4 = .ok (.iload_n 0, 1) := by decide +kernel
theorem dX10_size_5 : decode cX10_size 5 = .ok (.ineg, 1) := by decide +kernel
theorem dX10_size_6 : decode cX10_size 6 = .ok (.goto 4, 3) := by decide +kernel
theorem dX10_size_9 : decode cX10_size 9 = .ok (.iload_n 0, 1) := by decide +kernel
theorem dX10_size_10 : decode cX10_size 10 = .ok (.ireturn, 1) := by decide +kernel
theorem dX10_linkAll_0 : decode cX10_linkAll 0 = .ok (.iconst 0, 1) := by decide +kernel
theorem dX10_linkAll_1 : decode cX10_linkAll 1 = .ok (.istore_n 1, 1) := by decide +kernel
theorem dX10_linkAll_2 : decode cX10_linkAll 2 = .ok (.iload_n 1, 1) := by decide +kernel
theorem dX10_linkAll_3 : decode cX10_linkAll 3 = .ok (.aload_n 0, 1) := by decide +kernel
theorem dX10_linkAll_4 : decode cX10_linkAll 4 = .ok (.getfield 319, 3) := by decide +kernel
theorem dX10_linkAll_7 : decode cX10_linkAll 7 = .ok (.if_icmp .ge 172, 3) := by decide +kernel
theorem dX10_linkAll_10 : decode cX10_linkAll 10 = .ok (.iconst (-1), 1) := by decide +kernel
theorem dX10_linkAll_11 : decode cX10_linkAll 11 = .ok (.istore_n 2, 1) := by decide +kernel
theorem dX10_linkAll_12 : decode cX10_linkAll 12 = .ok (.iconst 0, 1) := by decide +kernel
theorem dX10_linkAll_13 : decode cX10_linkAll 13 = .ok (.istore_n 3, 1) := by decide +kernel
theorem dX10_linkAll_14 : decode cX10_linkAll 14 = .ok (.iload_n 3, 1) := by decide +kernel
theorem dX10_linkAll_15 : decode cX10_linkAll 15 = .ok (.aload_n 0, 1) := by decide +kernel
theorem dX10_linkAll_16 : decode cX10_linkAll 16 = .ok (.getfield 322, 3) := by decide +kernel
theorem dX10_linkAll_19 : decode cX10_linkAll 19 = .ok (.if_icmp .ge 98, 3) := by decide +kernel
theorem dX10_linkAll_22 : decode cX10_linkAll 22 = .ok (.aload_n 0, 1) := by decide +kernel
theorem dX10_linkAll_23 : decode cX10_linkAll 23 = .ok (.getfield 52, 3) := by decide +kernel
theorem dX10_linkAll_26 : decode cX10_linkAll 26 = .ok (.bipush 41, 2) := by decide +kernel
theorem dX10_linkAll_28 : decode cX10_linkAll 28 = .ok (.aload_n 0, 1) := by decide +kernel
theorem dX10_linkAll_29 : decode cX10_linkAll 29 = .ok (.getfield 98, 3) := by decide +kernel
theorem dX10_linkAll_32 : decode cX10_linkAll 32 = .ok (.iload_n 1, 1) := by decide +kernel
theorem dX10_linkAll_33 : decode cX10_linkAll 33 = .ok (.iaload, 1) := by decide +kernel
theorem dX10_linkAll_34 : decode cX10_linkAll 34 = .ok (.imul, 1) := by decide +kernel
theorem dX10_linkAll_35 : decode cX10_linkAll 35 = .ok (.aload_n 0, 1) := by decide +kernel
theorem dX10_linkAll_36 : decode cX10_linkAll 36 = .ok (.getfield 101, 3) := by decide +kernel
theorem dX10_linkAll_39 : decode cX10_linkAll 39 = .ok (.iload_n 3, 1) := by decide +kernel
theorem dX10_linkAll_40 : decode cX10_linkAll 40 = .ok (.iaload, 1) := by decide +kernel
theorem dX10_linkAll_41 : decode cX10_linkAll 41 = .ok (.iadd, 1) := by decide +kernel
theorem dX10_linkAll_42 : decode cX10_linkAll 42 = .ok (.iaload, 1) := by decide +kernel
theorem dX10_linkAll_43 : decode cX10_linkAll 43 = .ok (.istore 4, 2) := by decide +kernel
theorem dX10_linkAll_45 : decode cX10_linkAll 45 = .ok (.iload_n 2, 1) := by decide +kernel
theorem dX10_linkAll_46 : decode cX10_linkAll 46 = .ok (.ifCond .ge 7, 3) := by decide +kernel
theorem dX10_linkAll_49 : decode cX10_linkAll 49 = .ok (.iconst (-1), 1) := by decide +kernel
theorem dX10_linkAll_50 : decode cX10_linkAll 50 = .ok (.goto 24, 3) := by decide +kernel
theorem dX10_linkAll_53 : decode cX10_linkAll 53 = .ok (.aload_n 0, 1) := by decide +kernel
theorem dX10_linkAll_54 : decode cX10_linkAll 54 = .ok (.getfield 52, 3) := by decide +kernel
theorem dX10_linkAll_57 : decode cX10_linkAll 57 = .ok (.bipush 41, 2) := by decide +kernel
theorem dX10_linkAll_59 : decode cX10_linkAll 59 = .ok (.aload_n 0, 1) := by decide +kernel
theorem dX10_linkAll_60 : decode cX10_linkAll 60 = .ok (.getfield 98, 3) := by decide +kernel
theorem dX10_linkAll_63 : decode cX10_linkAll 63 = .ok (.iload_n 1, 1) := by decide +kernel
theorem dX10_linkAll_64 : decode cX10_linkAll 64 = .ok (.iaload, 1) := by decide +kernel
theorem dX10_linkAll_65 : decode cX10_linkAll 65 = .ok (.imul, 1) := by decide +kernel
theorem dX10_linkAll_66 : decode cX10_linkAll 66 = .ok (.aload_n 0, 1) := by decide +kernel
theorem dX10_linkAll_67 : decode cX10_linkAll 67 = .ok (.getfield 101, 3) := by decide +kernel
theorem dX10_linkAll_70 : decode cX10_linkAll 70 = .ok (.iload_n 2, 1) := by decide +kernel
theorem dX10_linkAll_71 : decode cX10_linkAll 71 = .ok (.iaload, 1) := by decide +kernel
theorem dX10_linkAll_72 : decode cX10_linkAll 72 = .ok (.iadd, 1) := by decide +kernel
theorem dX10_linkAll_73 : decode cX10_linkAll 73 = .ok (.iaload, 1) := by decide +kernel
theorem dX10_linkAll_74 : decode cX10_linkAll 74 = .ok (.istore 5, 2) := by decide +kernel
theorem dX10_linkAll_76 : decode cX10_linkAll 76 = .ok (.iload 4, 2) := by decide +kernel
theorem dX10_linkAll_78 : decode cX10_linkAll 78 = .ok (.iload 5, 2) := by decide +kernel
theorem dX10_linkAll_80 : decode cX10_linkAll 80 = .ok (.if_icmp .gt 25, 3) := by decide +kernel
theorem dX10_linkAll_83 : decode cX10_linkAll 83 = .ok (.iload 4, 2) := by decide +kernel
theorem dX10_linkAll_85 : decode cX10_linkAll 85 = .ok (.iload 5, 2) := by decide +kernel
theorem dX10_linkAll_87 : decode cX10_linkAll 87 = .ok (.if_icmp .ne 22, 3) := by decide +kernel
theorem dX10_linkAll_90 : decode cX10_linkAll 90 = .ok (.iload_n 1, 1) := by decide +kernel
theorem dX10_linkAll_91 : decode cX10_linkAll 91 = .ok (.iload_n 3, 1) := by decide +kernel
theorem dX10_linkAll_92 : decode cX10_linkAll 92 = .ok (.isub, 1) := by decide +kernel
theorem dX10_linkAll_93 : decode cX10_linkAll 93 = .ok (.invokestatic 325, 3) := by decide +kernel
theorem dX10_linkAll_96 : decode cX10_linkAll 96 = .ok (.iload_n 1, 1) := by decide +kernel
theorem dX10_linkAll_97 : decode cX10_linkAll 97 = .ok (.iload_n 2, 1) := by decide +kernel
theorem dX10_linkAll_98 : decode cX10_linkAll 98 = .ok (.isub, 1) := by decide +kernel
theorem dX10_linkAll_99 : decode cX10_linkAll 99 = .ok (.invokestatic 325, 3) := by decide +kernel
theorem dX10_linkAll_102 : decode cX10_linkAll 102 = .ok (.if_icmp .ge 7, 3) := by decide +kernel
theorem dX10_linkAll_105 : decode cX10_linkAll 105 = .ok (.iload_n 3, 1) := by decide +kernel
theorem dX10_linkAll_106 : decode cX10_linkAll 106 = .ok (.goto 4, 3) := by decide +kernel
theorem dX10_linkAll_109 : decode cX10_linkAll 109 = .ok (.iload_n 2, 1) := by decide +kernel
theorem dX10_linkAll_110 : decode cX10_linkAll 110 = .ok (.istore_n 2, 1) := by decide +kernel
theorem dX10_linkAll_111 : decode cX10_linkAll 111 = .ok (.iinc 3 1, 3) := by decide +kernel
theorem dX10_linkAll_114 : decode cX10_linkAll 114 = .ok (.goto (-100), 3) := by decide +kernel
theorem dX10_linkAll_117 : decode cX10_linkAll 117 = .ok (.aload_n 0, 1) := by decide +kernel
theorem dX10_linkAll_118 : decode cX10_linkAll 118 = .ok (.getfield 104, 3) := by decide +kernel
theorem dX10_linkAll_121 : decode cX10_linkAll 121 = .ok (.iload_n 1, 1) := by decide +kernel
theorem dX10_linkAll_122 : decode cX10_linkAll 122 = .ok (.iload_n 2, 1) := by decide +kernel
theorem dX10_linkAll_123 : decode cX10_linkAll 123 = .ok (.ifCond .lt 48, 3) := by decide +kernel
theorem dX10_linkAll_126 : decode cX10_linkAll 126 = .ok (.aload_n 0, 1) := by decide +kernel
theorem dX10_linkAll_127 : decode cX10_linkAll 127 = .ok (.getfield 52, 3) := by decide +kernel
theorem dX10_linkAll_130 : decode cX10_linkAll 130 = .ok (.bipush 41, 2) := by decide +kernel
theorem dX10_linkAll_132 : decode cX10_linkAll 132 = .ok (.aload_n 0, 1) := by decide +kernel
theorem dX10_linkAll_133 : decode cX10_linkAll 133 = .ok (.getfield 98, 3) := by decide +kernel
theorem dX10_linkAll_136 : decode cX10_linkAll 136 = .ok (.iload_n 1, 1) := by decide +kernel
theorem dX10_linkAll_137 : decode cX10_linkAll 137 = .ok (.iaload, 1) := by decide +kernel
theorem dX10_linkAll_138 : decode cX10_linkAll 138 = .ok (.imul, 1) := by decide +kernel
theorem dX10_linkAll_139 : decode cX10_linkAll 139 = .ok (.aload_n 0, 1) := by decide +kernel
theorem dX10_linkAll_140 : decode cX10_linkAll 140 = .ok (.getfield 101, 3) := by decide +kernel
theorem dX10_linkAll_143 : decode cX10_linkAll 143 = .ok (.iload_n 2, 1) := by decide +kernel
theorem dX10_linkAll_144 : decode cX10_linkAll 144 = .ok (.iaload, 1) := by decide +kernel
theorem dX10_linkAll_145 : decode cX10_linkAll 145 = .ok (.iadd, 1) := by decide +kernel
theorem dX10_linkAll_146 : decode cX10_linkAll 146 = .ok (.iaload, 1) := by decide +kernel
theorem dX10_linkAll_147 : decode cX10_linkAll 147 = .ok (.aload_n 0, 1) := by decide +kernel
theorem dX10_linkAll_148 : decode cX10_linkAll 148 = .ok (.getfield 52, 3) := by decide +kernel
theorem dX10_linkAll_151 : decode cX10_linkAll 151 = .ok (.bipush 41, 2) := by decide +kernel
theorem dX10_linkAll_153 : decode cX10_linkAll 153 = .ok (.aload_n 0, 1) := by decide +kernel
theorem dX10_linkAll_154 : decode cX10_linkAll 154 = .ok (.getfield 98, 3) := by decide +kernel
theorem dX10_linkAll_157 : decode cX10_linkAll 157 = .ok (.iload_n 1, 1) := by decide +kernel
theorem dX10_linkAll_158 : decode cX10_linkAll 158 = .ok (.iaload, 1) := by decide +kernel
theorem dX10_linkAll_159 : decode cX10_linkAll 159 = .ok (.imul, 1) := by decide +kernel
theorem dX10_linkAll_160 : decode cX10_linkAll 160 = .ok (.bipush 40, 2) := by decide +kernel
theorem dX10_linkAll_162 : decode cX10_linkAll 162 = .ok (.iadd, 1) := by decide +kernel
theorem dX10_linkAll_163 : decode cX10_linkAll 163 = .ok (.iaload, 1) := by decide +kernel
theorem dX10_linkAll_164 : decode cX10_linkAll 164 = .ok (.if_icmp .le 7, 3) := by decide +kernel
theorem dX10_linkAll_167 : decode cX10_linkAll 167 = .ok (.iload_n 2, 1) := by decide +kernel
theorem dX10_linkAll_168 : decode cX10_linkAll 168 = .ok (.goto 4, 3) := by decide +kernel
theorem dX10_linkAll_171 : decode cX10_linkAll 171 = .ok (.iconst (-1), 1) := by decide +kernel
theorem dX10_linkAll_172 : decode cX10_linkAll 172 = .ok (.iastore, 1) := by decide +kernel
theorem dX10_linkAll_173 : decode cX10_linkAll 173 = .ok (.iinc 1 1, 3) := by decide +kernel
theorem dX10_linkAll_176 : decode cX10_linkAll 176 = .ok (.goto (-174), 3) := by decide +kernel
theorem dX10_linkAll_179 : decode cX10_linkAll 179 = .ok (.iconst 0, 1) := by decide +kernel
theorem dX10_linkAll_180 : decode cX10_linkAll 180 = .ok (.istore_n 1, 1) := by decide +kernel
theorem dX10_linkAll_181 : decode cX10_linkAll 181 = .ok (.iload_n 1, 1) := by decide +kernel
theorem dX10_linkAll_182 : decode cX10_linkAll 182 = .ok (.aload_n 0, 1) := by decide +kernel
theorem dX10_linkAll_183 : decode cX10_linkAll 183 = .ok (.getfield 322, 3) := by decide +kernel
theorem dX10_linkAll_186 : decode cX10_linkAll 186 = .ok (.if_icmp .ge 155, 3) := by decide +kernel
theorem dX10_linkAll_189 : decode cX10_linkAll 189 = .ok (.iconst (-1), 1) := by decide +kernel
theorem dX10_linkAll_190 : decode cX10_linkAll 190 = .ok (.istore_n 2, 1) := by decide +kernel
theorem dX10_linkAll_191 : decode cX10_linkAll 191 = .ok (.iconst 0, 1) := by decide +kernel
theorem dX10_linkAll_192 : decode cX10_linkAll 192 = .ok (.istore_n 3, 1) := by decide +kernel
theorem dX10_linkAll_193 : decode cX10_linkAll 193 = .ok (.iload_n 3, 1) := by decide +kernel
theorem dX10_linkAll_194 : decode cX10_linkAll 194 = .ok (.aload_n 0, 1) := by decide +kernel
theorem dX10_linkAll_195 : decode cX10_linkAll 195 = .ok (.getfield 319, 3) := by decide +kernel
theorem dX10_linkAll_198 : decode cX10_linkAll 198 = .ok (.if_icmp .ge 98, 3) := by decide +kernel
theorem dX10_linkAll_201 : decode cX10_linkAll 201 = .ok (.aload_n 0, 1) := by decide +kernel
theorem dX10_linkAll_202 : decode cX10_linkAll 202 = .ok (.getfield 52, 3) := by decide +kernel
theorem dX10_linkAll_205 : decode cX10_linkAll 205 = .ok (.bipush 41, 2) := by decide +kernel
theorem dX10_linkAll_207 : decode cX10_linkAll 207 = .ok (.aload_n 0, 1) := by decide +kernel
theorem dX10_linkAll_208 : decode cX10_linkAll 208 = .ok (.getfield 98, 3) := by decide +kernel
theorem dX10_linkAll_211 : decode cX10_linkAll 211 = .ok (.iload_n 3, 1) := by decide +kernel
theorem dX10_linkAll_212 : decode cX10_linkAll 212 = .ok (.iaload, 1) := by decide +kernel
theorem dX10_linkAll_213 : decode cX10_linkAll 213 = .ok (.imul, 1) := by decide +kernel
theorem dX10_linkAll_214 : decode cX10_linkAll 214 = .ok (.aload_n 0, 1) := by decide +kernel
theorem dX10_linkAll_215 : decode cX10_linkAll 215 = .ok (.getfield 101, 3) := by decide +kernel
theorem dX10_linkAll_218 : decode cX10_linkAll 218 = .ok (.iload_n 1, 1) := by decide +kernel
theorem dX10_linkAll_219 : decode cX10_linkAll 219 = .ok (.iaload, 1) := by decide +kernel
theorem dX10_linkAll_220 : decode cX10_linkAll 220 = .ok (.iadd, 1) := by decide +kernel
theorem dX10_linkAll_221 : decode cX10_linkAll 221 = .ok (.iaload, 1) := by decide +kernel
theorem dX10_linkAll_222 : decode cX10_linkAll 222 = .ok (.istore 4, 2) := by decide +kernel
theorem dX10_linkAll_224 : decode cX10_linkAll 224 = .ok (.iload_n 2, 1) := by decide +kernel
theorem dX10_linkAll_225 : decode cX10_linkAll 225 = .ok (.ifCond .ge 7, 3) := by decide +kernel
theorem dX10_linkAll_228 : decode cX10_linkAll 228 = .ok (.iconst (-1), 1) := by decide +kernel
theorem dX10_linkAll_229 : decode cX10_linkAll 229 = .ok (.goto 24, 3) := by decide +kernel
theorem dX10_linkAll_232 : decode cX10_linkAll 232 = .ok (.aload_n 0, 1) := by decide +kernel
theorem dX10_linkAll_233 : decode cX10_linkAll 233 = .ok (.getfield 52, 3) := by decide +kernel
theorem dX10_linkAll_236 : decode cX10_linkAll 236 = .ok (.bipush 41, 2) := by decide +kernel
theorem dX10_linkAll_238 : decode cX10_linkAll 238 = .ok (.aload_n 0, 1) := by decide +kernel
theorem dX10_linkAll_239 : decode cX10_linkAll 239 = .ok (.getfield 98, 3) := by decide +kernel
theorem dX10_linkAll_242 : decode cX10_linkAll 242 = .ok (.iload_n 2, 1) := by decide +kernel
theorem dX10_linkAll_243 : decode cX10_linkAll 243 = .ok (.iaload, 1) := by decide +kernel
theorem dX10_linkAll_244 : decode cX10_linkAll 244 = .ok (.imul, 1) := by decide +kernel
theorem dX10_linkAll_245 : decode cX10_linkAll 245 = .ok (.aload_n 0, 1) := by decide +kernel
theorem dX10_linkAll_246 : decode cX10_linkAll 246 = .ok (.getfield 101, 3) := by decide +kernel
theorem dX10_linkAll_249 : decode cX10_linkAll 249 = .ok (.iload_n 1, 1) := by decide +kernel
theorem dX10_linkAll_250 : decode cX10_linkAll 250 = .ok (.iaload, 1) := by decide +kernel
theorem dX10_linkAll_251 : decode cX10_linkAll 251 = .ok (.iadd, 1) := by decide +kernel
theorem dX10_linkAll_252 : decode cX10_linkAll 252 = .ok (.iaload, 1) := by decide +kernel
theorem dX10_linkAll_253 : decode cX10_linkAll 253 = .ok (.istore 5, 2) := by decide +kernel
theorem dX10_linkAll_255 : decode cX10_linkAll 255 = .ok (.iload 4, 2) := by decide +kernel
theorem dX10_linkAll_257 : decode cX10_linkAll 257 = .ok (.iload 5, 2) := by decide +kernel
theorem dX10_linkAll_259 : decode cX10_linkAll 259 = .ok (.if_icmp .gt 25, 3) := by decide +kernel
theorem dX10_linkAll_262 : decode cX10_linkAll 262 = .ok (.iload 4, 2) := by decide +kernel
theorem dX10_linkAll_264 : decode cX10_linkAll 264 = .ok (.iload 5, 2) := by decide +kernel
theorem dX10_linkAll_266 : decode cX10_linkAll 266 = .ok (.if_icmp .ne 22, 3) := by decide +kernel
theorem dX10_linkAll_269 : decode cX10_linkAll 269 = .ok (.iload_n 3, 1) := by decide +kernel
theorem dX10_linkAll_270 : decode cX10_linkAll 270 = .ok (.iload_n 1, 1) := by decide +kernel
theorem dX10_linkAll_271 : decode cX10_linkAll 271 = .ok (.isub, 1) := by decide +kernel
theorem dX10_linkAll_272 : decode cX10_linkAll 272 = .ok (.invokestatic 325, 3) := by decide +kernel
theorem dX10_linkAll_275 : decode cX10_linkAll 275 = .ok (.iload_n 2, 1) := by decide +kernel
theorem dX10_linkAll_276 : decode cX10_linkAll 276 = .ok (.iload_n 1, 1) := by decide +kernel
theorem dX10_linkAll_277 : decode cX10_linkAll 277 = .ok (.isub, 1) := by decide +kernel
theorem dX10_linkAll_278 : decode cX10_linkAll 278 = .ok (.invokestatic 325, 3) := by decide +kernel
theorem dX10_linkAll_281 : decode cX10_linkAll 281 = .ok (.if_icmp .ge 7, 3) := by decide +kernel
theorem dX10_linkAll_284 : decode cX10_linkAll 284 = .ok (.iload_n 3, 1) := by decide +kernel
theorem dX10_linkAll_285 : decode cX10_linkAll 285 = .ok (.goto 4, 3) := by decide +kernel
theorem dX10_linkAll_288 : decode cX10_linkAll 288 = .ok (.iload_n 2, 1) := by decide +kernel
theorem dX10_linkAll_289 : decode cX10_linkAll 289 = .ok (.istore_n 2, 1) := by decide +kernel
theorem dX10_linkAll_290 : decode cX10_linkAll 290 = .ok (.iinc 3 1, 3) := by decide +kernel
theorem dX10_linkAll_293 : decode cX10_linkAll 293 = .ok (.goto (-100), 3) := by decide +kernel
theorem dX10_linkAll_296 : decode cX10_linkAll 296 = .ok (.aload_n 0, 1) := by decide +kernel
theorem dX10_linkAll_297 : decode cX10_linkAll 297 = .ok (.getfield 107, 3) := by decide +kernel
theorem dX10_linkAll_300 : decode cX10_linkAll 300 = .ok (.iload_n 1, 1) := by decide +kernel
theorem dX10_linkAll_301 : decode cX10_linkAll 301 = .ok (.iload_n 2, 1) := by decide +kernel
theorem dX10_linkAll_302 : decode cX10_linkAll 302 = .ok (.ifCond .lt 31, 3) := by decide +kernel
theorem dX10_linkAll_305 : decode cX10_linkAll 305 = .ok (.aload_n 0, 1) := by decide +kernel
theorem dX10_linkAll_306 : decode cX10_linkAll 306 = .ok (.getfield 52, 3) := by decide +kernel
theorem dX10_linkAll_309 : decode cX10_linkAll 309 = .ok (.bipush 41, 2) := by decide +kernel
theorem dX10_linkAll_311 : decode cX10_linkAll 311 = .ok (.aload_n 0, 1) := by decide +kernel
theorem dX10_linkAll_312 : decode cX10_linkAll 312 = .ok (.getfield 98, 3) := by decide +kernel
theorem dX10_linkAll_315 : decode cX10_linkAll 315 = .ok (.iload_n 2, 1) := by decide +kernel
theorem dX10_linkAll_316 : decode cX10_linkAll 316 = .ok (.iaload, 1) := by decide +kernel
theorem dX10_linkAll_317 : decode cX10_linkAll 317 = .ok (.imul, 1) := by decide +kernel
theorem dX10_linkAll_318 : decode cX10_linkAll 318 = .ok (.aload_n 0, 1) := by decide +kernel
theorem dX10_linkAll_319 : decode cX10_linkAll 319 = .ok (.getfield 101, 3) := by decide +kernel
theorem dX10_linkAll_322 : decode cX10_linkAll 322 = .ok (.iload_n 1, 1) := by decide +kernel
theorem dX10_linkAll_323 : decode cX10_linkAll 323 = .ok (.iaload, 1) := by decide +kernel
theorem dX10_linkAll_324 : decode cX10_linkAll 324 = .ok (.iadd, 1) := by decide +kernel
theorem dX10_linkAll_325 : decode cX10_linkAll 325 = .ok (.iaload, 1) := by decide +kernel
theorem dX10_linkAll_326 : decode cX10_linkAll 326 = .ok (.ifCond .le 7, 3) := by decide +kernel
theorem dX10_linkAll_329 : decode cX10_linkAll 329 = .ok (.iload_n 2, 1) := by decide +kernel
theorem dX10_linkAll_330 : decode cX10_linkAll 330 = .ok (.goto 4, 3) := by decide +kernel
theorem dX10_linkAll_333 : decode cX10_linkAll 333 = .ok (.iconst (-1), 1) := by decide +kernel
theorem dX10_linkAll_334 : decode cX10_linkAll 334 = .ok (.iastore, 1) := by decide +kernel
theorem dX10_linkAll_335 : decode cX10_linkAll 335 = .ok (.iinc 1 1, 3) := by decide +kernel
theorem dX10_linkAll_338 : decode cX10_linkAll 338 = .ok (.goto (-157), 3) := by decide +kernel
theorem dX10_linkAll_341 : decode cX10_linkAll 341 = .ok (.return_, 1) := by decide +kernel
theorem dX10_isBoth_0 : decode cX10_isBoth 0 = .ok (.aload_n 0, 1) := by decide +kernel
theorem dX10_isBoth_1 : decode cX10_isBoth 1 = .ok (.getfield 104, 3) := by decide +kernel
theorem dX10_isBoth_4 : decode cX10_isBoth 4 = .ok (.iload_n 1, 1) := by decide +kernel
theorem dX10_isBoth_5 : decode cX10_isBoth 5 = .ok (.iaload, 1) := by decide +kernel
theorem dX10_isBoth_6 : decode cX10_isBoth 6 = .ok (.iload_n 2, 1) := by decide +kernel
theorem dX10_isBoth_7 : decode cX10_isBoth 7 = .ok (.if_icmp .ne 17, 3) := by decide +kernel
theorem dX10_isBoth_10 : decode cX10_isBoth 10 = .ok (.aload_n 0, 1) := by decide +kernel
theorem dX10_isBoth_11 : decode cX10_isBoth 11 = .ok (.getfield 107, 3) := by decide +kernel
theorem dX10_isBoth_14 : decode cX10_isBoth 14 = .ok (.iload_n 2, 1) := by decide +kernel
theorem dX10_isBoth_15 : decode cX10_isBoth 15 = .ok (.iaload, 1) := by decide +kernel
theorem dX10_isBoth_16 : decode cX10_isBoth 16 = .ok (.iload_n 1, 1) := by decide +kernel
theorem dX10_isBoth_17 : decode cX10_isBoth 17 = .ok (.if_icmp .ne 7, 3) := by decide +kernel
theorem dX10_isBoth_20 : decode cX10_isBoth 20 = .ok (.iconst 1, 1) := by decide +kernel
theorem dX10_isBoth_21 : decode cX10_isBoth 21 = .ok (.goto 4, 3) := by decide +kernel
theorem dX10_isBoth_24 : decode cX10_isBoth 24 = .ok (.iconst 0, 1) := by decide +kernel
theorem dX10_isBoth_25 : decode cX10_isBoth 25 = .ok (.ireturn, 1) := by decide +kernel
theorem dX10_hasNear_0 : decode cX10_hasNear 0 = .ok (.iconst 0, 1) := by decide +kernel
theorem dX10_hasNear_1 : decode cX10_hasNear 1 = .ok (.istore_n 3, 1) := by decide +kernel
theorem dX10_hasNear_2 : decode cX10_hasNear 2 = .ok (.iload_n 1, 1) := by decide +kernel
theorem dX10_hasNear_3 : decode cX10_hasNear 3 = .ok (.iconst 1, 1) := by decide +kernel
theorem dX10_hasNear_4 : decode cX10_hasNear 4 = .ok (.isub, 1) := by decide +kernel
theorem dX10_hasNear_5 : decode cX10_hasNear 5 = .ok (.istore 4, 2) := by decide +kernel
theorem dX10_hasNear_7 : decode cX10_hasNear 7 = .ok (.iload 4, 2) := by decide +kernel
theorem dX10_hasNear_9 : decode cX10_hasNear 9 = .ok (.iload_n 1, 1) := by decide +kernel
theorem dX10_hasNear_10 : decode cX10_hasNear 10 = .ok (.iconst 1, 1) := by decide +kernel
theorem dX10_hasNear_11 : decode cX10_hasNear 11 = .ok (.iadd, 1) := by decide +kernel
theorem dX10_hasNear_12 : decode cX10_hasNear 12 = .ok (.if_icmp .gt 88, 3) := by decide +kernel
theorem dX10_hasNear_15 : decode cX10_hasNear 15 = .ok (.iload_n 2, 1) := by decide +kernel
theorem dX10_hasNear_16 : decode cX10_hasNear 16 = .ok (.iconst 1, 1) := by decide +kernel
theorem dX10_hasNear_17 : decode cX10_hasNear 17 = .ok (.isub, 1) := by decide +kernel
theorem dX10_hasNear_18 : decode cX10_hasNear 18 = .ok (.istore 5, 2) := by decide +kernel
theorem dX10_hasNear_20 : decode cX10_hasNear 20 = .ok (.iload 5, 2) := by decide +kernel
theorem dX10_hasNear_22 : decode cX10_hasNear 22 = .ok (.iload_n 2, 1) := by decide +kernel
theorem dX10_hasNear_23 : decode cX10_hasNear 23 = .ok (.iconst 1, 1) := by decide +kernel
theorem dX10_hasNear_24 : decode cX10_hasNear 24 = .ok (.iadd, 1) := by decide +kernel
theorem dX10_hasNear_25 : decode cX10_hasNear 25 = .ok (.if_icmp .gt 69, 3) := by decide +kernel
theorem dX10_hasNear_28 : decode cX10_hasNear 28 = .ok (.iload_n 3, 1) := by decide +kernel
theorem dX10_hasNear_29 : decode cX10_hasNear 29 = .ok (.ifCond .ne 53, 3) := by decide +kernel
theorem dX10_hasNear_32 : decode cX10_hasNear 32 = .ok (.iload 4, 2) := by decide +kernel
theorem dX10_hasNear_34 : decode cX10_hasNear 34 = .ok (.i2l, 1) := by decide +kernel
theorem dX10_hasNear_35 : decode cX10_hasNear 35 = .ok (.lconst 0, 1) := by decide +kernel
theorem dX10_hasNear_36 : decode cX10_hasNear 36 = .ok (.aload_n 0, 1) := by decide +kernel
