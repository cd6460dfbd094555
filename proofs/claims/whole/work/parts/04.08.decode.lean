theorem dX10_hasNear_37 : decode cX10_hasNear 37 = .ok (.getfield 319, 3) := by decide +kernel
theorem dX10_hasNear_40 : decode cX10_hasNear 40 = .ok (.iconst 1, 1) := by decide +kernel
theorem dX10_hasNear_41 : decode cX10_hasNear 41 = .ok (.isub, 1) := by decide +kernel
theorem dX10_hasNear_42 : decode cX10_hasNear 42 = .ok (.i2l, 1) := by decide +kernel
theorem dX10_hasNear_43 : decode cX10_hasNear 43 = .ok (.invokestatic 131, 3) := by decide +kernel
theorem dX10_hasNear_46 : decode cX10_hasNear 46 = .ok (.ifCond .eq 40, 3) := by decide +kernel
theorem dX10_hasNear_49 : decode cX10_hasNear 49 = .ok (.iload 5, 2) := by decide +kernel
theorem dX10_hasNear_51 : decode cX10_hasNear 51 = .ok (.i2l, 1) := by decide +kernel
theorem dX10_hasNear_52 : decode cX10_hasNear 52 = .ok (.lconst 0, 1) := by decide +kernel
theorem dX10_hasNear_53 : decode cX10_hasNear 53 = .ok (.aload_n 0, 1) := by decide +kernel
theorem dX10_hasNear_54 : decode cX10_hasNear 54 = .ok (.getfield 322, 3) := by decide +kernel
theorem dX10_hasNear_57 : decode cX10_hasNear 57 = .ok (.iconst 1, 1) := by decide +kernel
theorem dX10_hasNear_58 : decode cX10_hasNear 58 = .ok (.isub, 1) := by decide +kernel
theorem dX10_hasNear_59 : decode cX10_hasNear 59 = .ok (.i2l, 1) := by decide +kernel
theorem dX10_hasNear_60 : decode cX10_hasNear 60 = .ok (.invokestatic 131, 3) := by decide +kernel
theorem dX10_hasNear_63 : decode cX10_hasNear 63 = .ok (.ifCond .eq 23, 3) := by decide +kernel
theorem dX10_hasNear_66 : decode cX10_hasNear 66 = .ok (.aload_n 0, 1) := by decide +kernel
theorem dX10_hasNear_67 : decode cX10_hasNear 67 = .ok (.getfield 110, 3) := by decide +kernel
theorem dX10_hasNear_70 : decode cX10_hasNear 70 = .ok (.bipush 20, 2) := by decide +kernel
theorem dX10_hasNear_72 : decode cX10_hasNear 72 = .ok (.iload 4, 2) := by decide +kernel
theorem dX10_hasNear_74 : decode cX10_hasNear 74 = .ok (.imul, 1) := by decide +kernel
theorem dX10_hasNear_75 : decode cX10_hasNear 75 = .ok (.iload 5, 2) := by decide +kernel
theorem dX10_hasNear_77 : decode cX10_hasNear 77 = .ok (.iadd, 1) := by decide +kernel
theorem dX10_hasNear_78 : decode cX10_hasNear 78 = .ok (.baload, 1) := by decide +kernel
theorem dX10_hasNear_79 : decode cX10_hasNear 79 = .ok (.ifCond .eq 7, 3) := by decide +kernel
theorem dX10_hasNear_82 : decode cX10_hasNear 82 = .ok (.iconst 1, 1) := by decide +kernel
theorem dX10_hasNear_83 : decode cX10_hasNear 83 = .ok (.goto 4, 3) := by decide +kernel
theorem dX10_hasNear_86 : decode cX10_hasNear 86 = .ok (.iconst 0, 1) := by decide +kernel
theorem dX10_hasNear_87 : decode cX10_hasNear 87 = .ok (.istore_n 3, 1) := by decide +kernel
theorem dX10_hasNear_88 : decode cX10_hasNear 88 = .ok (.iinc 5 1, 3) := by decide +kernel
theorem dX10_hasNear_91 : decode cX10_hasNear 91 = .ok (.goto (-71), 3) := by decide +kernel
theorem dX10_hasNear_94 : decode cX10_hasNear 94 = .ok (.iinc 4 1, 3) := by decide +kernel
theorem dX10_hasNear_97 : decode cX10_hasNear 97 = .ok (.goto (-90), 3) := by decide +kernel
theorem dX10_hasNear_100 : decode cX10_hasNear 100 = .ok (.iload_n 3, 1) := by decide +kernel
theorem dX10_hasNear_101 : decode cX10_hasNear 101 = .ok (.ireturn, 1) := by decide +kernel
theorem dX10_isFree_0 : decode cX10_isFree 0 = .ok (.iconst 1, 1) := by decide +kernel
theorem dX10_isFree_1 : decode cX10_isFree 1 = .ok (.istore_n 3, 1) := by decide +kernel
theorem dX10_isFree_2 : decode cX10_isFree 2 = .ok (.iconst 1, 1) := by decide +kernel
theorem dX10_isFree_3 : decode cX10_isFree 3 = .ok (.istore 4, 2) := by decide +kernel
theorem dX10_isFree_5 : decode cX10_isFree 5 = .ok (.iconst 0, 1) := by decide +kernel
theorem dX10_isFree_6 : decode cX10_isFree 6 = .ok (.istore 5, 2) := by decide +kernel
theorem dX10_isFree_8 : decode cX10_isFree 8 = .ok (.iload 5, 2) := by decide +kernel
theorem dX10_isFree_10 : decode cX10_isFree 10 = .ok (.aload_n 0, 1) := by decide +kernel
theorem dX10_isFree_11 : decode cX10_isFree 11 = .ok (.getfield 322, 3) := by decide +kernel
theorem dX10_isFree_14 : decode cX10_isFree 14 = .ok (.if_icmp .ge 34, 3) := by decide +kernel
theorem dX10_isFree_17 : decode cX10_isFree 17 = .ok (.iload_n 3, 1) := by decide +kernel
theorem dX10_isFree_18 : decode cX10_isFree 18 = .ok (.ifCond .eq 22, 3) := by decide +kernel
theorem dX10_isFree_21 : decode cX10_isFree 21 = .ok (.aload_n 0, 1) := by decide +kernel
theorem dX10_isFree_22 : decode cX10_isFree 22 = .ok (.getfield 110, 3) := by decide +kernel
theorem dX10_isFree_25 : decode cX10_isFree 25 = .ok (.bipush 20, 2) := by decide +kernel
theorem dX10_isFree_27 : decode cX10_isFree 27 = .ok (.iload_n 1, 1) := by decide +kernel
theorem dX10_isFree_28 : decode cX10_isFree 28 = .ok (.imul, 1) := by decide +kernel
theorem dX10_isFree_29 : decode cX10_isFree 29 = .ok (.iload 5, 2) := by decide +kernel
theorem dX10_isFree_31 : decode cX10_isFree 31 = .ok (.iadd, 1) := by decide +kernel
theorem dX10_isFree_32 : decode cX10_isFree 32 = .ok (.baload, 1) := by decide +kernel
theorem dX10_isFree_33 : decode cX10_isFree 33 = .ok (.ifCond .ne 7, 3) := by decide +kernel
theorem dX10_isFree_36 : decode cX10_isFree 36 = .ok (.iconst 1, 1) := by decide +kernel
theorem dX10_isFree_37 : decode cX10_isFree 37 = .ok (.goto 4, 3) := by decide +kernel
theorem dX10_isFree_40 : decode cX10_isFree 40 = .ok (.iconst 0, 1) := by decide +kernel
theorem dX10_isFree_41 : decode cX10_isFree 41 = .ok (.istore_n 3, 1) := by decide +kernel
theorem dX10_isFree_42 : decode cX10_isFree 42 = .ok (.iinc 5 1, 3) := by decide +kernel
theorem dX10_isFree_45 : decode cX10_isFree 45 = .ok (.goto (-37), 3) := by decide +kernel
theorem dX10_isFree_48 : decode cX10_isFree 48 = .ok (.iconst 0, 1) := by decide +kernel
theorem dX10_isFree_49 : decode cX10_isFree 49 = .ok (.istore 5, 2) := by decide +kernel
theorem dX10_isFree_51 : decode cX10_isFree 51 = .ok (.iload 5, 2) := by decide +kernel
theorem dX10_isFree_53 : decode cX10_isFree 53 = .ok (.aload_n 0, 1) := by decide +kernel
theorem dX10_isFree_54 : decode cX10_isFree 54 = .ok (.getfield 319, 3) := by decide +kernel
theorem dX10_isFree_57 : decode cX10_isFree 57 = .ok (.if_icmp .ge 36, 3) := by decide +kernel
theorem dX10_isFree_60 : decode cX10_isFree 60 = .ok (.iload 4, 2) := by decide +kernel
theorem dX10_isFree_62 : decode cX10_isFree 62 = .ok (.ifCond .eq 22, 3) := by decide +kernel
theorem dX10_isFree_65 : decode cX10_isFree 65 = .ok (.aload_n 0, 1) := by decide +kernel
theorem dX10_isFree_66 : decode cX10_isFree 66 = .ok (.getfield 110, 3) := by decide +kernel
theorem dX10_isFree_69 : decode cX10_isFree 69 = .ok (.bipush 20, 2) := by decide +kernel
theorem dX10_isFree_71 : decode cX10_isFree 71 = .ok (.iload 5, 2) := by decide +kernel
theorem dX10_isFree_73 : decode cX10_isFree 73 = .ok (.imul, 1) := by decide +kernel
theorem dX10_isFree_74 : decode cX10_isFree 74 = .ok (.iload_n 2, 1) := by decide +kernel
theorem dX10_isFree_75 : decode cX10_isFree 75 = .ok (.iadd, 1) := by decide +kernel
theorem dX10_isFree_76 : decode cX10_isFree 76 = .ok (.baload, 1) := by decide +kernel
theorem dX10_isFree_77 : decode cX10_isFree 77 = .ok (.ifCond .ne 7, 3) := by decide +kernel
theorem dX10_isFree_80 : decode cX10_isFree 80 = .ok (.iconst 1, 1) := by decide +kernel
theorem dX10_isFree_81 : decode cX10_isFree 81 = .ok (.goto 4, 3) := by decide +kernel
theorem dX10_isFree_84 : decode cX10_isFree 84 = .ok (.iconst 0, 1) := by decide +kernel
theorem dX10_isFree_85 : decode cX10_isFree 85 = .ok (.istore 4, 2) := by decide +kernel
theorem dX10_isFree_87 : decode cX10_isFree 87 = .ok (.iinc 5 1, 3) := by decide +kernel
theorem dX10_isFree_90 : decode cX10_isFree 90 = .ok (.goto (-39), 3) := by decide +kernel
theorem dX10_isFree_93 : decode cX10_isFree 93 = .ok (.iload_n 3, 1) := by decide +kernel
theorem dX10_isFree_94 : decode cX10_isFree 94 = .ok (.ifCond .ne 8, 3) := by decide +kernel
theorem dX10_isFree_97 : decode cX10_isFree 97 = .ok (.iload 4, 2) := by decide +kernel
theorem dX10_isFree_99 : decode cX10_isFree 99 = .ok (.ifCond .eq 7, 3) := by decide +kernel
theorem dX10_isFree_102 : decode cX10_isFree 102 = .ok (.iconst 1, 1) := by decide +kernel
theorem dX10_isFree_103 : decode cX10_isFree 103 = .ok (.goto 4, 3) := by decide +kernel
theorem dX10_isFree_106 : decode cX10_isFree 106 = .ok (.iconst 0, 1) := by decide +kernel
theorem dX10_isFree_107 : decode cX10_isFree 107 = .ok (.ireturn, 1) := by decide +kernel
theorem dX10_grow_0 : decode cX10_grow 0 = .ok (.iconst 0, 1) := by decide +kernel
theorem dX10_grow_1 : decode cX10_grow 1 = .ok (.istore_n 1, 1) := by decide +kernel
theorem dX10_grow_2 : decode cX10_grow 2 = .ok (.iload_n 1, 1) := by decide +kernel
theorem dX10_grow_3 : decode cX10_grow 3 = .ok (.aload_n 0, 1) := by decide +kernel
theorem dX10_grow_4 : decode cX10_grow 4 = .ok (.getfield 319, 3) := by decide +kernel
theorem dX10_grow_7 : decode cX10_grow 7 = .ok (.if_icmp .ge 42, 3) := by decide +kernel
theorem dX10_grow_10 : decode cX10_grow 10 = .ok (.iconst 0, 1) := by decide +kernel
theorem dX10_grow_11 : decode cX10_grow 11 = .ok (.istore_n 2, 1) := by decide +kernel
theorem dX10_grow_12 : decode cX10_grow 12 = .ok (.iload_n 2, 1) := by decide +kernel
theorem dX10_grow_13 : decode cX10_grow 13 = .ok (.aload_n 0, 1) := by decide +kernel
theorem dX10_grow_14 : decode cX10_grow 14 = .ok (.getfield 322, 3) := by decide +kernel
theorem dX10_grow_17 : decode cX10_grow 17 = .ok (.if_icmp .ge 26, 3) := by decide +kernel
theorem dX10_grow_20 : decode cX10_grow 20 = .ok (.aload_n 0, 1) := by decide +kernel
theorem dX10_grow_21 : decode cX10_grow 21 = .ok (.getfield 110, 3) := by decide +kernel
theorem dX10_grow_24 : decode cX10_grow 24 = .ok (.bipush 20, 2) := by decide +kernel
theorem dX10_grow_26 : decode cX10_grow 26 = .ok (.iload_n 1, 1) := by decide +kernel
theorem dX10_grow_27 : decode cX10_grow 27 = .ok (.imul, 1) := by decide +kernel
theorem dX10_grow_28 : decode cX10_grow 28 = .ok (.iload_n 2, 1) := by decide +kernel
theorem dX10_grow_29 : decode cX10_grow 29 = .ok (.iadd, 1) := by decide +kernel
theorem dX10_grow_30 : decode cX10_grow 30 = .ok (.aload_n 0, 1) := by decide +kernel
theorem dX10_grow_31 : decode cX10_grow 31 = .ok (.iload_n 1, 1) := by decide +kernel
theorem dX10_grow_32 : decode cX10_grow 32 = .ok (.iload_n 2, 1) := by decide +kernel
theorem dX10_grow_33 : decode cX10_grow 33 = .ok (.invokevirtual 328, 3) := by decide +kernel
theorem dX10_grow_36 : decode cX10_grow 36 = .ok (.bastore, 1) := by decide +kernel
theorem dX10_grow_37 : decode cX10_grow 37 = .ok (.iinc 2 1, 3) := by decide +kernel
theorem dX10_grow_40 : decode cX10_grow 40 = .ok (.goto (-28), 3) := by decide +kernel
theorem dX10_grow_43 : decode cX10_grow 43 = .ok (.iinc 1 1, 3) := by decide +kernel
theorem dX10_grow_46 : decode cX10_grow 46 = .ok (.goto (-44), 3) := by decide +kernel
theorem dX10_grow_49 : decode cX10_grow 49 = .ok (.iconst 1, 1) := by decide +kernel
theorem dX10_grow_50 : decode cX10_grow 50 = .ok (.istore_n 1, 1) := by decide +kernel
theorem dX10_grow_51 : decode cX10_grow 51 = .ok (.iload_n 1, 1) := by decide +kernel
theorem dX10_grow_52 : decode cX10_grow 52 = .ok (.ifCond .eq 106, 3) := by decide +kernel
theorem dX10_grow_55 : decode cX10_grow 55 = .ok (.iconst 0, 1) := by decide +kernel
theorem dX10_grow_56 : decode cX10_grow 56 = .ok (.istore_n 1, 1) := by decide +kernel
theorem dX10_grow_57 : decode cX10_grow 57 = .ok (.iconst 0, 1) := by decide +kernel
theorem dX10_grow_58 : decode cX10_grow 58 = .ok (.istore_n 2, 1) := by decide +kernel
theorem dX10_grow_59 : decode cX10_grow 59 = .ok (.iload_n 2, 1) := by decide +kernel
theorem dX10_grow_60 : decode cX10_grow 60 = .ok (.aload_n 0, 1) := by decide +kernel
theorem dX10_grow_61 : decode cX10_grow 61 = .ok (.getfield 319, 3) := by decide +kernel
theorem dX10_grow_64 : decode cX10_grow 64 = .ok (.if_icmp .ge 91, 3) := by decide +kernel
theorem dX10_grow_67 : decode cX10_grow 67 = .ok (.iconst 0, 1) := by decide +kernel
theorem dX10_grow_68 : decode cX10_grow 68 = .ok (.istore_n 3, 1) := by decide +kernel
theorem dX10_grow_69 : decode cX10_grow 69 = .ok (.iload_n 3, 1) := by decide +kernel
theorem dX10_grow_70 : decode cX10_grow 70 = .ok (.aload_n 0, 1) := by decide +kernel
theorem dX10_grow_71 : decode cX10_grow 71 = .ok (.getfield 322, 3) := by decide +kernel
theorem dX10_grow_74 : decode cX10_grow 74 = .ok (.if_icmp .ge 75, 3) := by decide +kernel
theorem dX10_grow_77 : decode cX10_grow 77 = .ok (.aload_n 0, 1) := by decide +kernel
theorem dX10_grow_78 : decode cX10_grow 78 = .ok (.getfield 104, 3) := by decide +kernel
theorem dX10_grow_81 : decode cX10_grow 81 = .ok (.iload_n 2, 1) := by decide +kernel
theorem dX10_grow_82 : decode cX10_grow 82 = .ok (.iaload, 1) := by decide +kernel
theorem dX10_grow_83 : decode cX10_grow 83 = .ok (.iload_n 3, 1) := by decide +kernel
theorem dX10_grow_84 : decode cX10_grow 84 = .ok (.if_icmp .eq 13, 3) := by decide +kernel
theorem dX10_grow_87 : decode cX10_grow 87 = .ok (.aload_n 0, 1) := by decide +kernel
theorem dX10_grow_88 : decode cX10_grow 88 = .ok (.getfield 107, 3) := by decide +kernel
theorem dX10_grow_91 : decode cX10_grow 91 = .ok (.iload_n 3, 1) := by decide +kernel
theorem dX10_grow_92 : decode cX10_grow 92 = .ok (.iaload, 1) := by decide +kernel
theorem dX10_grow_93 : decode cX10_grow 93 = .ok (.iload_n 2, 1) := by decide +kernel
theorem dX10_grow_94 : decode cX10_grow 94 = .ok (.if_icmp .ne 49, 3) := by decide +kernel
theorem dX10_grow_97 : decode cX10_grow 97 = .ok (.aload_n 0, 1) := by decide +kernel
theorem dX10_grow_98 : decode cX10_grow 98 = .ok (.getfield 110, 3) := by decide +kernel
theorem dX10_grow_101 : decode cX10_grow 101 = .ok (.bipush 20, 2) := by decide +kernel
theorem dX10_grow_103 : decode cX10_grow 103 = .ok (.iload_n 2, 1) := by decide +kernel
theorem dX10_grow_104 : decode cX10_grow 104 = .ok (.imul, 1) := by decide +kernel
theorem dX10_grow_105 : decode cX10_grow 105 = .ok (.iload_n 3, 1) := by decide +kernel
theorem dX10_grow_106 : decode cX10_grow 106 = .ok (.iadd, 1) := by decide +kernel
theorem dX10_grow_107 : decode cX10_grow 107 = .ok (.baload, 1) := by decide +kernel
theorem dX10_grow_108 : decode cX10_grow 108 = .ok (.ifCond .ne 35, 3) := by decide +kernel
theorem dX10_grow_111 : decode cX10_grow 111 = .ok (.aload_n 0, 1) := by decide +kernel
theorem dX10_grow_112 : decode cX10_grow 112 = .ok (.iload_n 2, 1) := by decide +kernel
theorem dX10_grow_113 : decode cX10_grow 113 = .ok (.iload_n 3, 1) := by decide +kernel
theorem dX10_grow_114 : decode cX10_grow 114 = .ok (.invokevirtual 331, 3) := by decide +kernel
theorem dX10_grow_117 : decode cX10_grow 117 = .ok (.ifCond .eq 26, 3) := by decide +kernel
theorem dX10_grow_120 : decode cX10_grow 120 = .ok (.aload_n 0, 1) := by decide +kernel
theorem dX10_grow_121 : decode cX10_grow 121 = .ok (.iload_n 2, 1) := by decide +kernel
theorem dX10_grow_122 : decode cX10_grow 122 = .ok (.iload_n 3, 1) := by decide +kernel
theorem dX10_grow_123 : decode cX10_grow 123 = .ok (.invokevirtual 334, 3) := by decide +kernel
theorem dX10_grow_126 : decode cX10_grow 126 = .ok (.ifCond .eq 17, 3) := by decide +kernel
theorem dX10_grow_129 : decode cX10_grow 129 = .ok (.aload_n 0, 1) := by decide +kernel
theorem dX10_grow_130 : decode cX10_grow 130 = .ok (.getfield 110, 3) := by decide +kernel
theorem dX10_grow_133 : decode cX10_grow 133 = .ok (.bipush 20, 2) := by decide +kernel
theorem dX10_grow_135 : decode cX10_grow 135 = .ok (.iload_n 2, 1) := by decide +kernel
theorem dX10_grow_136 : decode cX10_grow 136 = .ok (.imul, 1) := by decide +kernel
theorem dX10_grow_137 : decode cX10_grow 137 = .ok (.iload_n 3, 1) := by decide +kernel
theorem dX10_grow_138 : decode cX10_grow 138 = .ok (.iadd, 1) := by decide +kernel
theorem dX10_grow_139 : decode cX10_grow 139 = .ok (.iconst 1, 1) := by decide +kernel
theorem dX10_grow_140 : decode cX10_grow 140 = .ok (.bastore, 1) := by decide +kernel
theorem dX10_grow_141 : decode cX10_grow 141 = .ok (.iconst 1, 1) := by decide +kernel
theorem dX10_grow_142 : decode cX10_grow 142 = .ok (.istore_n 1, 1) := by decide +kernel
theorem dX10_grow_143 : decode cX10_grow 143 = .ok (.iinc 3 1, 3) := by decide +kernel
theorem dX10_grow_146 : decode cX10_grow 146 = .ok (.goto (-77), 3) := by decide +kernel
theorem dX10_grow_149 : decode cX10_grow 149 = .ok (.iinc 2 1, 3) := by decide +kernel
theorem dX10_grow_152 : decode cX10_grow 152 = .ok (.goto (-93), 3) := by decide +kernel
theorem dX10_grow_155 : decode cX10_grow 155 = .ok (.goto (-104), 3) := by decide +kernel
theorem dX10_grow_158 : decode cX10_grow 158 = .ok (.return_, 1) := by decide +kernel
theorem dX10_isLinkable_0 : decode cX10_isLinkable 0 = .ok (.aload_n 0, 1) := by decide +kernel
theorem dX10_isLinkable_1 : decode cX10_isLinkable 1 = .ok (.getfield 85, 3) := by decide +kernel
theorem dX10_isLinkable_4 : decode cX10_isLinkable 4 = .ok (.iload_n 1, 1) := by decide +kernel
theorem dX10_isLinkable_5 : decode cX10_isLinkable 5 = .ok (.iaload, 1) := by decide +kernel
theorem dX10_isLinkable_6 : decode cX10_isLinkable 6 = .ok (.ifCond .eq 22, 3) := by decide +kernel
theorem dX10_isLinkable_9 : decode cX10_isLinkable 9 = .ok (.aload_n 0, 1) := by decide +kernel
theorem dX10_isLinkable_10 : decode cX10_isLinkable 10 = .ok (.getfield 85, 3) := by decide +kernel
theorem dX10_isLinkable_13 : decode cX10_isLinkable 13 = .ok (.iload_n 1, 1) := by decide +kernel
theorem dX10_isLinkable_14 : decode cX10_isLinkable 14 = .ok (.iaload, 1) := by decide +kernel
theorem dX10_isLinkable_15 : decode cX10_isLinkable 15 = .ok (.i2l, 1) := by decide +kernel
theorem dX10_isLinkable_16 : decode cX10_isLinkable 16 = .ok (.ldc2_w 337, 3) := by decide +kernel
theorem dX10_isLinkable_19 : decode cX10_isLinkable 19 = .ok (.ldc2_w 339, 3) := by decide +kernel
theorem dX10_isLinkable_22 : decode cX10_isLinkable 22 = .ok (.invokestatic 131, 3) := by decide +kernel
theorem dX10_isLinkable_25 : decode cX10_isLinkable 25 = .ok (.ifCond .eq 7, 3) := by decide +kernel
theorem dX10_isLinkable_28 : decode cX10_isLinkable 28 = .ok (.iconst 1, 1) := by decide +kernel
theorem dX10_isLinkable_29 : decode cX10_isLinkable 29 = .ok (.goto 4, 3) := by decide +kernel
theorem dX10_isLinkable_32 : decode cX10_isLinkable 32 = .ok (.iconst 0, 1) := by decide +kernel
theorem dX10_isLinkable_33 : decode cX10_isLinkable 33 = .ok (.ireturn, 1) := by decide +kernel
theorem dX10_link_0 : decode cX10_link 0 = .ok (.aload_n 0, 1) := by decide +kernel
theorem dX10_link_1 : decode cX10_link 1 = .ok (.iload_n 1, 1) := by decide +kernel
theorem dX10_link_2 : decode cX10_link 2 = .ok (.invokevirtual 297, 3) := by decide +kernel
theorem dX10_link_5 : decode cX10_link 5 = .ok (.ifCond .ne 6, 3) := by decide +kernel
theorem dX10_link_8 : decode cX10_link 8 = .ok (.ldc 194, 2) := by decide +kernel
theorem dX10_link_10 : decode cX10_link 10 = .ok (.ireturn, 1) := by decide +kernel
theorem dX10_link_11 : decode cX10_link 11 = .ok (.iload_n 2, 1) := by decide +kernel
theorem dX10_link_12 : decode cX10_link 12 = .ok (.i2l, 1) := by decide +kernel
theorem dX10_link_13 : decode cX10_link 13 = .ok (.lconst 0, 1) := by decide +kernel
theorem dX10_link_14 : decode cX10_link 14 = .ok (.lconst 1, 1) := by decide +kernel
theorem dX10_link_15 : decode cX10_link 15 = .ok (.invokestatic 131, 3) := by decide +kernel
theorem dX10_link_18 : decode cX10_link 18 = .ok (.ifCond .ne 6, 3) := by decide +kernel
theorem dX10_link_21 : decode cX10_link 21 = .ok (.ldc 135, 2) := by decide +kernel
theorem dX10_link_23 : decode cX10_link 23 = .ok (.ireturn, 1) := by decide +kernel
theorem dX10_link_24 : decode cX10_link 24 = .ok (.aload_n 0, 1) := by decide +kernel
theorem dX10_link_25 : decode cX10_link 25 = .ok (.iload_n 1, 1) := by decide +kernel
theorem dX10_link_26 : decode cX10_link 26 = .ok (.invokevirtual 341, 3) := by decide +kernel
theorem dX10_link_29 : decode cX10_link 29 = .ok (.iload_n 3, 1) := by decide +kernel
theorem dX10_link_30 : decode cX10_link 30 = .ok (.i2l, 1) := by decide +kernel
theorem dX10_link_31 : decode cX10_link 31 = .ok (.lconst 0, 1) := by decide +kernel
theorem dX10_link_32 : decode cX10_link 32 = .ok (.iload_n 2, 1) := by decide +kernel
theorem dX10_link_33 : decode cX10_link 33 = .ok (.ifCond .ne 10, 3) := by decide +kernel
theorem dX10_link_36 : decode cX10_link 36 = .ok (.aload_n 0, 1) := by decide +kernel
theorem dX10_link_37 : decode cX10_link 37 = .ok (.getfield 319, 3) := by decide +kernel
theorem dX10_link_40 : decode cX10_link 40 = .ok (.goto 7, 3) := by decide +kernel
theorem dX10_link_43 : decode cX10_link 43 = .ok (.aload_n 0, 1) := by decide +kernel
theorem dX10_link_44 : decode cX10_link 44 = .ok (.getfield 322, 3) := by decide +kernel
theorem dX10_link_47 : decode cX10_link 47 = .ok (.iconst 1, 1) := by decide +kernel
theorem dX10_link_48 : decode cX10_link 48 = .ok (.isub, 1) := by decide +kernel
theorem dX10_link_49 : decode cX10_link 49 = .ok (.i2l, 1) := by decide +kernel
theorem dX10_link_50 : decode cX10_link 50 = .ok (.invokestatic 131, 3) := by decide +kernel
theorem dX10_link_53 : decode cX10_link 53 = .ok (.ifCond .ne 6, 3) := by decide +kernel
theorem dX10_link_56 : decode cX10_link 56 = .ok (.ldc 194, 2) := by decide +kernel
theorem dX10_link_58 : decode cX10_link 58 = .ok (.ireturn, 1) := by decide +kernel
theorem dX10_link_59 : decode cX10_link 59 = .ok (.aload_n 0, 1) := by decide +kernel
theorem dX10_link_60 : decode cX10_link 60 = .ok (.iload_n 1, 1) := by decide +kernel
theorem dX10_link_61 : decode cX10_link 61 = .ok (.invokevirtual 344, 3) := by decide +kernel
theorem dX10_link_64 : decode cX10_link 64 = .ok (.ifCond .ne 6, 3) := by decide +kernel
theorem dX10_link_67 : decode cX10_link 67 = .ok (.ldc 156, 2) := by decide +kernel
theorem dX10_link_69 : decode cX10_link 69 = .ok (.ireturn, 1) := by decide +kernel
theorem dX10_link_70 : decode cX10_link 70 = .ok (.aload_n 0, 1) := by decide +kernel
theorem dX10_link_71 : decode cX10_link 71 = .ok (.invokevirtual 347, 3) := by decide +kernel
theorem dX10_link_74 : decode cX10_link 74 = .ok (.iload_n 2, 1) := by decide +kernel
theorem dX10_link_75 : decode cX10_link 75 = .ok (.ifCond .ne 12, 3) := by decide +kernel
theorem dX10_link_78 : decode cX10_link 78 = .ok (.aload_n 0, 1) := by decide +kernel
theorem dX10_link_79 : decode cX10_link 79 = .ok (.getfield 104, 3) := by decide +kernel
theorem dX10_link_82 : decode cX10_link 82 = .ok (.iload_n 3, 1) := by decide +kernel
theorem dX10_link_83 : decode cX10_link 83 = .ok (.iaload, 1) := by decide +kernel
theorem dX10_link_84 : decode cX10_link 84 = .ok (.goto 9, 3) := by decide +kernel
theorem dX10_link_87 : decode cX10_link 87 = .ok (.aload_n 0, 1) := by decide +kernel
theorem dX10_link_88 : decode cX10_link 88 = .ok (.getfield 107, 3) := by decide +kernel
theorem dX10_link_91 : decode cX10_link 91 = .ok (.iload_n 3, 1) := by decide +kernel
theorem dX10_link_92 : decode cX10_link 92 = .ok (.iaload, 1) := by decide +kernel
theorem dX10_link_93 : decode cX10_link 93 = .ok (.ireturn, 1) := by decide +kernel
theorem dX10_linked_0 : decode cX10_linked 0 = .ok (.aload_n 0, 1) := by decide +kernel
theorem dX10_linked_1 : decode cX10_linked 1 = .ok (.iload_n 1, 1) := by decide +kernel
theorem dX10_linked_2 : decode cX10_linked 2 = .ok (.invokevirtual 297, 3) := by decide +kernel
theorem dX10_linked_5 : decode cX10_linked 5 = .ok (.ifCond .ne 6, 3) := by decide +kernel
theorem dX10_linked_8 : decode cX10_linked 8 = .ok (.ldc 194, 2) := by decide +kernel
theorem dX10_linked_10 : decode cX10_linked 10 = .ok (.ireturn, 1) := by decide +kernel
theorem dX10_linked_11 : decode cX10_linked 11 = .ok (.aload_n 0, 1) := by decide +kernel
theorem dX10_linked_12 : decode cX10_linked 12 = .ok (.iload_n 1, 1) := by decide +kernel
theorem dX10_linked_13 : decode cX10_linked 13 = .ok (.invokevirtual 341, 3) := by decide +kernel
theorem dX10_linked_16 : decode cX10_linked 16 = .ok (.iload_n 3, 1) := by decide +kernel
theorem dX10_linked_17 : decode cX10_linked 17 = .ok (.i2l, 1) := by decide +kernel
theorem dX10_linked_18 : decode cX10_linked 18 = .ok (.lconst 0, 1) := by decide +kernel
theorem dX10_linked_19 : decode cX10_linked 19 = .ok (.aload_n 0, 1) := by decide +kernel
theorem dX10_linked_20 : decode cX10_linked 20 = .ok (.getfield 319, 3) := by decide +kernel
theorem dX10_linked_23 : decode cX10_linked 23 = .ok (.iconst 1, 1) := by decide +kernel
theorem dX10_linked_24 : decode cX10_linked 24 = .ok (.isub, 1) := by decide +kernel
theorem dX10_linked_25 : decode cX10_linked 25 = .ok (.i2l, 1) := by decide +kernel
theorem dX10_linked_26 : decode cX10_linked 26 = .ok (.invokestatic 131, 3) := by decide +kernel
theorem dX10_linked_29 : decode cX10_linked 29 = .ok (.ifCond .eq 20, 3) := by decide +kernel
theorem dX10_linked_32 : decode cX10_linked 32 = .ok (.iload 4, 2) := by decide +kernel
theorem dX10_linked_34 : decode cX10_linked 34 = .ok (.i2l, 1) := by decide +kernel
theorem dX10_linked_35 : decode cX10_linked 35 = .ok (.lconst 0, 1) := by decide +kernel
theorem dX10_linked_36 : decode cX10_linked 36 = .ok (.aload_n 0, 1) := by decide +kernel
theorem dX10_linked_37 : decode cX10_linked 37 = .ok (.getfield 322, 3) := by decide +kernel
theorem dX10_linked_40 : decode cX10_linked 40 = .ok (.iconst 1, 1) := by decide +kernel
theorem dX10_linked_41 : decode cX10_linked 41 = .ok (.isub, 1) := by decide +kernel
theorem dX10_linked_42 : decode cX10_linked 42 = .ok (.i2l, 1) := by decide +kernel
theorem dX10_linked_43 : decode cX10_linked 43 = .ok (.invokestatic 131, 3) := by decide +kernel
theorem dX10_linked_46 : decode cX10_linked 46 = .ok (.ifCond .ne 6, 3) := by decide +kernel
theorem dX10_linked_49 : decode cX10_linked 49 = .ok (.ldc 194, 2) := by decide +kernel
theorem dX10_linked_51 : decode cX10_linked 51 = .ok (.ireturn, 1) := by decide +kernel
theorem dX10_linked_52 : decode cX10_linked 52 = .ok (.iload_n 2, 1) := by decide +kernel
theorem dX10_linked_53 : decode cX10_linked 53 = .ok (.i2l, 1) := by decide +kernel
theorem dX10_linked_54 : decode cX10_linked 54 = .ok (.lconst 0, 1) := by decide +kernel
theorem dX10_linked_55 : decode cX10_linked 55 = .ok (.lconst 1, 1) := by decide +kernel
theorem dX10_linked_56 : decode cX10_linked 56 = .ok (.invokestatic 131, 3) := by decide +kernel
theorem dX10_linked_59 : decode cX10_linked 59 = .ok (.ifCond .ne 6, 3) := by decide +kernel
theorem dX10_linked_62 : decode cX10_linked 62 = .ok (.ldc 135, 2) := by decide +kernel
theorem dX10_linked_64 : decode cX10_linked 64 = .ok (.ireturn, 1) := by decide +kernel
theorem dX10_linked_65 : decode cX10_linked 65 = .ok (.aload_n 0, 1) := by decide +kernel
theorem dX10_linked_66 : decode cX10_linked 66 = .ok (.iload_n 1, 1) := by decide +kernel
theorem dX10_linked_67 : decode cX10_linked 67 = .ok (.invokevirtual 344, 3) := by decide +kernel
theorem dX10_linked_70 : decode cX10_linked 70 = .ok (.ifCond .ne 6, 3) := by decide +kernel
theorem dX10_linked_73 : decode cX10_linked 73 = .ok (.ldc 156, 2) := by decide +kernel
theorem dX10_linked_75 : decode cX10_linked 75 = .ok (.ireturn, 1) := by decide +kernel
theorem dX10_linked_76 : decode cX10_linked 76 = .ok (.aload_n 0, 1) := by decide +kernel
theorem dX10_linked_77 : decode cX10_linked 77 = .ok (.invokevirtual 347, 3) := by decide +kernel
theorem dX10_linked_80 : decode cX10_linked 80 = .ok (.aload_n 0, 1) := by decide +kernel
theorem dX10_linked_81 : decode cX10_linked 81 = .ok (.invokevirtual 350, 3) := by decide +kernel
theorem dX10_linked_84 : decode cX10_linked 84 = .ok (.iload_n 2, 1) := by decide +kernel
theorem dX10_linked_85 : decode cX10_linked 85 = .ok (.ifCond .ne 16, 3) := by decide +kernel
theorem dX10_linked_88 : decode cX10_linked 88 = .ok (.aload_n 0, 1) := by decide +kernel
theorem dX10_linked_89 : decode cX10_linked 89 = .ok (.iload_n 3, 1) := by decide +kernel
theorem dX10_linked_90 : decode cX10_linked 90 = .ok (.iload 4, 2) := by decide +kernel
theorem dX10_linked_92 : decode cX10_linked 92 = .ok (.invokevirtual 328, 3) := by decide +kernel
theorem dX10_linked_95 : decode cX10_linked 95 = .ok (.ifCond .eq 25, 3) := by decide +kernel
theorem dX10_linked_98 : decode cX10_linked 98 = .ok (.goto 18, 3) := by decide +kernel
theorem dX10_linked_101 : decode cX10_linked 101 = .ok (.aload_n 0, 1) := by decide +kernel
theorem dX10_linked_102 : decode cX10_linked 102 = .ok (.getfield 110, 3) := by decide +kernel
theorem dX10_linked_105 : decode cX10_linked 105 = .ok (.bipush 20, 2) := by decide +kernel
theorem dX10_linked_107 : decode cX10_linked 107 = .ok (.iload_n 3, 1) := by decide +kernel
theorem dX10_linked_108 : decode cX10_linked 108 = .ok (.imul, 1) := by decide +kernel
theorem dX10_linked_109 : decode cX10_linked 109 = .ok (.iload 4, 2) := by decide +kernel
theorem dX10_linked_111 : decode cX10_linked 111 = .ok (.iadd, 1) := by decide +kernel
theorem dX10_linked_112 : decode cX10_linked 112 = .ok (.baload, 1) := by decide +kernel
theorem dX10_linked_113 : decode cX10_linked 113 = .ok (.ifCond .eq 7, 3) := by decide +kernel
theorem dX10_linked_116 : decode cX10_linked 116 = .ok (.iconst 1, 1) := by decide +kernel
theorem dX10_linked_117 : decode cX10_linked 117 = .ok (.goto 4, 3) := by decide +kernel
theorem dX10_linked_120 : decode cX10_linked 120 = .ok (.iconst 0, 1) := by decide +kernel
theorem dX10_linked_121 : decode cX10_linked 121 = .ok (.ireturn, 1) := by decide +kernel
theorem dX10_goTogether_0 : decode cX10_goTogether 0 = .ok (.iconst 0, 1) := by decide +kernel
theorem dX10_goTogether_1 : decode cX10_goTogether 1 = .ok (.istore 5, 2) := by decide +kernel
theorem dX10_goTogether_3 : decode cX10_goTogether 3 = .ok (.iconst 0, 1) := by decide +kernel
theorem dX10_goTogether_4 : decode cX10_goTogether 4 = .ok (.istore 6, 2) := by decide +kernel
theorem dX10_goTogether_6 : decode cX10_goTogether 6 = .ok (.iload 6, 2) := by decide +kernel
theorem dX10_goTogether_8 : decode cX10_goTogether 8 = .ok (.aload_n 0, 1) := by decide +kernel
theorem dX10_goTogether_9 : decode cX10_goTogether 9 = .ok (.getfield 319, 3) := by decide +kernel
theorem dX10_goTogether_12 : decode cX10_goTogether 12 = .ok (.if_icmp .ge 128, 3) := by decide +kernel
theorem dX10_goTogether_15 : decode cX10_goTogether 15 = .ok (.iconst 0, 1) := by decide +kernel
theorem dX10_goTogether_16 : decode cX10_goTogether 16 = .ok (.istore 7, 2) := by decide +kernel
theorem dX10_goTogether_18 : decode cX10_goTogether 18 = .ok (.iload 7, 2) := by decide +kernel
theorem dX10_goTogether_20 : decode cX10_goTogether 20 = .ok (.aload_n 0, 1) := by decide +kernel
theorem dX10_goTogether_21 : decode cX10_goTogether 21 = .ok (.getfield 322, 3) := by decide +kernel
theorem dX10_goTogether_24 : decode cX10_goTogether 24 = .ok (.if_icmp .ge 110, 3) := by decide +kernel
theorem dX10_goTogether_27 : decode cX10_goTogether 27 = .ok (.iload 6, 2) := by decide +kernel
theorem dX10_goTogether_29 : decode cX10_goTogether 29 = .ok (.iload_n 1, 1) := by decide +kernel
theorem dX10_goTogether_30 : decode cX10_goTogether 30 = .ok (.if_icmp .lt 15, 3) := by decide +kernel
theorem dX10_goTogether_33 : decode cX10_goTogether 33 = .ok (.iload 6, 2) := by decide +kernel
theorem dX10_goTogether_35 : decode cX10_goTogether 35 = .ok (.iload_n 1, 1) := by decide +kernel
theorem dX10_goTogether_36 : decode cX10_goTogether 36 = .ok (.iload_n 2, 1) := by decide +kernel
theorem dX10_goTogether_37 : decode cX10_goTogether 37 = .ok (.iadd, 1) := by decide +kernel
theorem dX10_goTogether_38 : decode cX10_goTogether 38 = .ok (.if_icmp .gt 7, 3) := by decide +kernel
theorem dX10_goTogether_41 : decode cX10_goTogether 41 = .ok (.iconst 1, 1) := by decide +kernel
theorem dX10_goTogether_42 : decode cX10_goTogether 42 = .ok (.goto 4, 3) := by decide +kernel
theorem dX10_goTogether_45 : decode cX10_goTogether 45 = .ok (.iconst 0, 1) := by decide +kernel
theorem dX10_goTogether_46 : decode cX10_goTogether 46 = .ok (.istore 8, 2) := by decide +kernel
theorem dX10_goTogether_48 : decode cX10_goTogether 48 = .ok (.iload 7, 2) := by decide +kernel
theorem dX10_goTogether_50 : decode cX10_goTogether 50 = .ok (.iload_n 3, 1) := by decide +kernel
theorem dX10_goTogether_51 : decode cX10_goTogether 51 = .ok (.if_icmp .lt 16, 3) := by decide +kernel
theorem dX10_goTogether_54 : decode cX10_goTogether 54 = .ok (.iload 7, 2) := by decide +kernel
theorem dX10_goTogether_56 : decode cX10_goTogether 56 = .ok (.iload_n 3, 1) := by decide +kernel
theorem dX10_goTogether_57 : decode cX10_goTogether 57 = .ok (.iload 4, 2) := by decide +kernel
theorem dX10_goTogether_59 : decode cX10_goTogether 59 = .ok (.iadd, 1) := by decide +kernel
theorem dX10_goTogether_60 : decode cX10_goTogether 60 = .ok (.if_icmp .gt 7, 3) := by decide +kernel
theorem dX10_goTogether_63 : decode cX10_goTogether 63 = .ok (.iconst 1, 1) := by decide +kernel
theorem dX10_goTogether_64 : decode cX10_goTogether 64 = .ok (.goto 4, 3) := by decide +kernel
theorem dX10_goTogether_67 : decode cX10_goTogether 67 = .ok (.iconst 0, 1) := by decide +kernel
theorem dX10_goTogether_68 : decode cX10_goTogether 68 = .ok (.istore 9, 2) := by decide +kernel
theorem dX10_goTogether_70 : decode cX10_goTogether 70 = .ok (.aload_n 0, 1) := by decide +kernel
theorem dX10_goTogether_71 : decode cX10_goTogether 71 = .ok (.getfield 110, 3) := by decide +kernel
theorem dX10_goTogether_74 : decode cX10_goTogether 74 = .ok (.bipush 20, 2) := by decide +kernel
theorem dX10_goTogether_76 : decode cX10_goTogether 76 = .ok (.iload 6, 2) := by decide +kernel
theorem dX10_goTogether_78 : decode cX10_goTogether 78 = .ok (.imul, 1) := by decide +kernel
theorem dX10_goTogether_79 : decode cX10_goTogether 79 = .ok (.iload 7, 2) := by decide +kernel
theorem dX10_goTogether_81 : decode cX10_goTogether 81 = .ok (.iadd, 1) := by decide +kernel
theorem dX10_goTogether_82 : decode cX10_goTogether 82 = .ok (.baload, 1) := by decide +kernel
theorem dX10_goTogether_83 : decode cX10_goTogether 83 = .ok (.ifCond .eq 12, 3) := by decide +kernel
theorem dX10_goTogether_86 : decode cX10_goTogether 86 = .ok (.iload 8, 2) := by decide +kernel
theorem dX10_goTogether_88 : decode cX10_goTogether 88 = .ok (.iload 9, 2) := by decide +kernel
theorem dX10_goTogether_90 : decode cX10_goTogether 90 = .ok (.if_icmp .eq 5, 3) := by decide +kernel
theorem dX10_goTogether_93 : decode cX10_goTogether 93 = .ok (.iconst 0, 1) := by decide +kernel
theorem dX10_goTogether_94 : decode cX10_goTogether 94 = .ok (.ireturn, 1) := by decide +kernel
theorem dX10_goTogether_95 : decode cX10_goTogether 95 = .ok (.iload 5, 2) := by decide +kernel
theorem dX10_goTogether_97 : decode cX10_goTogether 97 = .ok (.ifCond .ne 24, 3) := by decide +kernel
theorem dX10_goTogether_100 : decode cX10_goTogether 100 = .ok (.aload_n 0, 1) := by decide +kernel
theorem dX10_goTogether_101 : decode cX10_goTogether 101 = .ok (.getfield 110, 3) := by decide +kernel
theorem dX10_goTogether_104 : decode cX10_goTogether 104 = .ok (.bipush 20, 2) := by decide +kernel
theorem dX10_goTogether_106 : decode cX10_goTogether 106 = .ok (.iload 6, 2) := by decide +kernel
theorem dX10_goTogether_108 : decode cX10_goTogether 108 = .ok (.imul, 1) := by decide +kernel
theorem dX10_goTogether_109 : decode cX10_goTogether 109 = .ok (.iload 7, 2) := by decide +kernel
theorem dX10_goTogether_111 : decode cX10_goTogether 111 = .ok (.iadd, 1) := by decide +kernel
theorem dX10_goTogether_112 : decode cX10_goTogether 112 = .ok (.baload, 1) := by decide +kernel
theorem dX10_goTogether_113 : decode cX10_goTogether 113 = .ok (.ifCond .eq 12, 3) := by decide +kernel
theorem dX10_goTogether_116 : decode cX10_goTogether 116 = .ok (.iload 8, 2) := by decide +kernel
theorem dX10_goTogether_118 : decode cX10_goTogether 118 = .ok (.ifCond .eq 7, 3) := by decide +kernel
theorem dX10_goTogether_121 : decode cX10_goTogether 121 = .ok (.iconst 1, 1) := by decide +kernel
theorem dX10_goTogether_122 : decode cX10_goTogether 122 = .ok (.goto 4, 3) := by decide +kernel
theorem dX10_goTogether_125 : decode cX10_goTogether 125 = .ok (.iconst 0, 1) := by decide +kernel
theorem dX10_goTogether_126 : decode cX10_goTogether 126 = .ok (.istore 5, 2) := by decide +kernel
theorem dX10_goTogether_128 : decode cX10_goTogether 128 = .ok (.iinc 7 1, 3) := by decide +kernel
theorem dX10_goTogether_131 : decode cX10_goTogether 131 = .ok (.goto (-113), 3) := by decide +kernel
theorem dX10_goTogether_134 : decode cX10_goTogether 134 = .ok (.iinc 6 1, 3) := by decide +kernel
theorem dX10_goTogether_137 : decode cX10_goTogether 137 = .ok (.goto (-131), 3) := by decide +kernel
theorem dX10_goTogether_140 : decode cX10_goTogether 140 = .ok (.iload 5, 2) := by decide +kernel
theorem dX10_goTogether_142 : decode cX10_goTogether 142 = .ok (.ireturn, 1) := by decide +kernel
theorem dX10_phrases_0 : decode cX10_phrases 0 = .ok (.aload_n 0, 1) := by decide +kernel
theorem dX10_phrases_1 : decode cX10_phrases 1 = .ok (.iload_n 1, 1) := by decide +kernel
theorem dX10_phrases_2 : decode cX10_phrases 2 = .ok (.invokevirtual 297, 3) := by decide +kernel
theorem dX10_phrases_5 : decode cX10_phrases 5 = .ok (.ifCond .ne 6, 3) := by decide +kernel
theorem dX10_phrases_8 : decode cX10_phrases 8 = .ok (.ldc 194, 2) := by decide +kernel
theorem dX10_phrases_10 : decode cX10_phrases 10 = .ok (.ireturn, 1) := by decide +kernel
theorem dX10_phrases_11 : decode cX10_phrases 11 = .ok (.aload_n 0, 1) := by decide +kernel
theorem dX10_phrases_12 : decode cX10_phrases 12 = .ok (.iload_n 1, 1) := by decide +kernel
theorem dX10_phrases_13 : decode cX10_phrases 13 = .ok (.invokevirtual 344, 3) := by decide +kernel
theorem dX10_phrases_16 : decode cX10_phrases 16 = .ok (.ifCond .ne 6, 3) := by decide +kernel
theorem dX10_phrases_19 : decode cX10_phrases 19 = .ok (.ldc 156, 2) := by decide +kernel
theorem dX10_phrases_21 : decode cX10_phrases 21 = .ok (.ireturn, 1) := by decide +kernel
theorem dX10_phrases_22 : decode cX10_phrases 22 = .ok (.aload_n 0, 1) := by decide +kernel
theorem dX10_phrases_23 : decode cX10_phrases 23 = .ok (.iload_n 1, 1) := by decide +kernel
theorem dX10_phrases_24 : decode cX10_phrases 24 = .ok (.invokevirtual 341, 3) := by decide +kernel
theorem dX10_phrases_27 : decode cX10_phrases 27 = .ok (.aload_n 0, 1) := by decide +kernel
theorem dX10_phrases_28 : decode cX10_phrases 28 = .ok (.invokevirtual 347, 3) := by decide +kernel
theorem dX10_phrases_31 : decode cX10_phrases 31 = .ok (.aload_n 0, 1) := by decide +kernel
theorem dX10_phrases_32 : decode cX10_phrases 32 = .ok (.invokevirtual 350, 3) := by decide +kernel
theorem dX10_phrases_35 : decode cX10_phrases 35 = .ok (.iconst 0, 1) := by decide +kernel
theorem dX10_phrases_36 : decode cX10_phrases 36 = .ok (.istore_n 2, 1) := by decide +kernel
theorem dX10_phrases_37 : decode cX10_phrases 37 = .ok (.iconst 0, 1) := by decide +kernel
theorem dX10_phrases_38 : decode cX10_phrases 38 = .ok (.istore_n 3, 1) := by decide +kernel
theorem dX10_phrases_39 : decode cX10_phrases 39 = .ok (.iload_n 3, 1) := by decide +kernel
theorem dX10_phrases_40 : decode cX10_phrases 40 = .ok (.aload_n 0, 1) := by decide +kernel
theorem dX10_phrases_41 : decode cX10_phrases 41 = .ok (.getfield 319, 3) := by decide +kernel
theorem dX10_phrases_44 : decode cX10_phrases 44 = .ok (.if_icmp .ge 102, 3) := by decide +kernel
theorem dX10_phrases_47 : decode cX10_phrases 47 = .ok (.iconst 0, 1) := by decide +kernel
theorem dX10_phrases_48 : decode cX10_phrases 48 = .ok (.istore 4, 2) := by decide +kernel
theorem dX10_phrases_50 : decode cX10_phrases 50 = .ok (.iload 4, 2) := by decide +kernel
theorem dX10_phrases_52 : decode cX10_phrases 52 = .ok (.iconst 4, 1) := by decide +kernel
theorem dX10_phrases_53 : decode cX10_phrases 53 = .ok (.if_icmp .ge 87, 3) := by decide +kernel
theorem dX10_phrases_56 : decode cX10_phrases 56 = .ok (.iload_n 3, 1) := by decide +kernel
theorem dX10_phrases_57 : decode cX10_phrases 57 = .ok (.iload 4, 2) := by decide +kernel
theorem dX10_phrases_59 : decode cX10_phrases 59 = .ok (.iadd, 1) := by decide +kernel
theorem dX10_phrases_60 : decode cX10_phrases 60 = .ok (.aload_n 0, 1) := by decide +kernel
theorem dX10_phrases_61 : decode cX10_phrases 61 = .ok (.getfield 319, 3) := by decide +kernel
theorem dX10_phrases_64 : decode cX10_phrases 64 = .ok (.if_icmp .ge 76, 3) := by decide +kernel
theorem dX10_phrases_67 : decode cX10_phrases 67 = .ok (.iconst 0, 1) := by decide +kernel
theorem dX10_phrases_68 : decode cX10_phrases 68 = .ok (.istore 5, 2) := by decide +kernel
theorem dX10_phrases_70 : decode cX10_phrases 70 = .ok (.iload 5, 2) := by decide +kernel
theorem dX10_phrases_72 : decode cX10_phrases 72 = .ok (.aload_n 0, 1) := by decide +kernel
theorem dX10_phrases_73 : decode cX10_phrases 73 = .ok (.getfield 322, 3) := by decide +kernel
theorem dX10_phrases_76 : decode cX10_phrases 76 = .ok (.if_icmp .ge 58, 3) := by decide +kernel
theorem dX10_phrases_79 : decode cX10_phrases 79 = .ok (.iconst 0, 1) := by decide +kernel
theorem dX10_phrases_80 : decode cX10_phrases 80 = .ok (.istore 6, 2) := by decide +kernel
theorem dX10_phrases_82 : decode cX10_phrases 82 = .ok (.iload 6, 2) := by decide +kernel
theorem dX10_phrases_84 : decode cX10_phrases 84 = .ok (.iconst 4, 1) := by decide +kernel
theorem dX10_phrases_85 : decode cX10_phrases 85 = .ok (.if_icmp .ge 43, 3) := by decide +kernel
theorem dX10_phrases_88 : decode cX10_phrases 88 = .ok (.iload 5, 2) := by decide +kernel
theorem dX10_phrases_90 : decode cX10_phrases 90 = .ok (.iload 6, 2) := by decide +kernel
theorem dX10_phrases_92 : decode cX10_phrases 92 = .ok (.iadd, 1) := by decide +kernel
theorem dX10_phrases_93 : decode cX10_phrases 93 = .ok (.aload_n 0, 1) := by decide +kernel
theorem dX10_phrases_94 : decode cX10_phrases 94 = .ok (.getfield 322, 3) := by decide +kernel
theorem dX10_phrases_97 : decode cX10_phrases 97 = .ok (.if_icmp .ge 31, 3) := by decide +kernel
theorem dX10_phrases_100 : decode cX10_phrases 100 = .ok (.iload_n 2, 1) := by decide +kernel
theorem dX10_phrases_101 : decode cX10_phrases 101 = .ok (.aload_n 0, 1) := by decide +kernel
theorem dX10_phrases_102 : decode cX10_phrases 102 = .ok (.iload_n 3, 1) := by decide +kernel
theorem dX10_phrases_103 : decode cX10_phrases 103 = .ok (.iload 4, 2) := by decide +kernel
theorem dX10_phrases_105 : decode cX10_phrases 105 = .ok (.iload 5, 2) := by decide +kernel
theorem dX10_phrases_107 : decode cX10_phrases 107 = .ok (.iload 6, 2) := by decide +kernel
theorem dX10_phrases_109 : decode cX10_phrases 109 = .ok (.invokevirtual 353, 3) := by decide +kernel
theorem dX10_phrases_112 : decode cX10_phrases 112 = .ok (.ifCond .eq 7, 3) := by decide +kernel
theorem dX10_phrases_115 : decode cX10_phrases 115 = .ok (.iconst 1, 1) := by decide +kernel
theorem dX10_phrases_116 : decode cX10_phrases 116 = .ok (.goto 4, 3) := by decide +kernel
theorem dX10_phrases_119 : decode cX10_phrases 119 = .ok (.iconst 0, 1) := by decide +kernel
theorem dX10_phrases_120 : decode cX10_phrases 120 = .ok (.iadd, 1) := by decide +kernel
theorem dX10_phrases_121 : decode cX10_phrases 121 = .ok (.istore_n 2, 1) := by decide +kernel
theorem dX10_phrases_122 : decode cX10_phrases 122 = .ok (.iinc 6 1, 3) := by decide +kernel
theorem dX10_phrases_125 : decode cX10_phrases 125 = .ok (.goto (-43), 3) := by decide +kernel
theorem dX10_phrases_128 : decode cX10_phrases 128 = .ok (.iinc 5 1, 3) := by decide +kernel
theorem dX10_phrases_131 : decode cX10_phrases 131 = .ok (.goto (-61), 3) := by decide +kernel
theorem dX10_phrases_134 : decode cX10_phrases 134 = .ok (.iinc 4 1, 3) := by decide +kernel
theorem dX10_phrases_137 : decode cX10_phrases 137 = .ok (.goto (-87), 3) := by decide +kernel
theorem dX10_phrases_140 : decode cX10_phrases 140 = .ok (.iinc 3 1, 3) := by decide +kernel
theorem dX10_phrases_143 : decode cX10_phrases 143 = .ok (.goto (-104), 3) := by decide +kernel
theorem dX10_phrases_146 : decode cX10_phrases 146 = .ok (.iload_n 2, 1) := by decide +kernel
theorem dX10_phrases_147 : decode cX10_phrases 147 = .ok (.ireturn, 1) := by decide +kernel
theorem dX10_isSlot_0 : decode cX10_isSlot 0 = .ok (.iload_n 0, 1) := by decide +kernel
theorem dX10_isSlot_1 : decode cX10_isSlot 1 = .ok (.i2l, 1) := by decide +kernel
theorem dX10_isSlot_2 : decode cX10_isSlot 2 = .ok (.lconst 0, 1) := by decide +kernel
theorem dX10_isSlot_3 : decode cX10_isSlot 3 = .ok (.ldc2_w 356, 3) := by decide +kernel
theorem dX10_isSlot_6 : decode cX10_isSlot 6 = .ok (.invokestatic 131, 3) := by decide +kernel
theorem dX10_isSlot_9 : decode cX10_isSlot 9 = .ok (.ireturn, 1) := by decide +kernel
theorem dX10_putSentence_0 : decode cX10_putSentence 0 = .ok (.iload_n 1, 1) := by decide +kernel
theorem dX10_putSentence_1 : decode cX10_putSentence 1 = .ok (.invokestatic 358, 3) := by decide +kernel
theorem dX10_putSentence_4 : decode cX10_putSentence 4 = .ok (.ifCond .eq 12, 3) := by decide +kernel
theorem dX10_putSentence_7 : decode cX10_putSentence 7 = .ok (.aload_n 0, 1) := by decide +kernel
theorem dX10_putSentence_8 : decode cX10_putSentence 8 = .ok (.iload_n 2, 1) := by decide +kernel
theorem dX10_putSentence_9 : decode cX10_putSentence 9 = .ok (.iload_n 3, 1) := by decide +kernel
theorem dX10_putSentence_10 : decode cX10_putSentence 10 = .ok (.invokevirtual 212, 3) := by decide +kernel
theorem dX10_putSentence_13 : decode cX10_putSentence 13 = .ok (.ifCond .ne 6, 3) := by decide +kernel
theorem dX10_putSentence_16 : decode cX10_putSentence 16 = .ok (.ldc 194, 2) := by decide +kernel
theorem dX10_putSentence_18 : decode cX10_putSentence 18 = .ok (.ireturn, 1) := by decide +kernel
theorem dX10_putSentence_19 : decode cX10_putSentence 19 = .ok (.aload_n 0, 1) := by decide +kernel
theorem dX10_putSentence_20 : decode cX10_putSentence 20 = .ok (.getfield 114, 3) := by decide +kernel
theorem dX10_putSentence_23 : decode cX10_putSentence 23 = .ok (.iload_n 1, 1) := by decide +kernel
theorem dX10_putSentence_24 : decode cX10_putSentence 24 = .ok (.iconst 1, 1) := by decide +kernel
theorem dX10_putSentence_25 : decode cX10_putSentence 25 = .ok (.iastore, 1) := by decide +kernel
theorem dX10_putSentence_26 : decode cX10_putSentence 26 = .ok (.aload_n 0, 1) := by decide +kernel
theorem dX10_putSentence_27 : decode cX10_putSentence 27 = .ok (.getfield 117, 3) := by decide +kernel
theorem dX10_putSentence_30 : decode cX10_putSentence 30 = .ok (.iload_n 1, 1) := by decide +kernel
theorem dX10_putSentence_31 : decode cX10_putSentence 31 = .ok (.aload_n 0, 1) := by decide +kernel
theorem dX10_putSentence_32 : decode cX10_putSentence 32 = .ok (.getfield 22, 3) := by decide +kernel
theorem dX10_putSentence_35 : decode cX10_putSentence 35 = .ok (.bipush 20, 2) := by decide +kernel
theorem dX10_putSentence_37 : decode cX10_putSentence 37 = .ok (.iload_n 2, 1) := by decide +kernel
theorem dX10_putSentence_38 : decode cX10_putSentence 38 = .ok (.imul, 1) := by decide +kernel
theorem dX10_putSentence_39 : decode cX10_putSentence 39 = .ok (.iload_n 3, 1) := by decide +kernel
theorem dX10_putSentence_40 : decode cX10_putSentence 40 = .ok (.iadd, 1) := by decide +kernel
theorem dX10_putSentence_41 : decode cX10_putSentence 41 = .ok (.iaload, 1) := by decide +kernel
theorem dX10_putSentence_42 : decode cX10_putSentence 42 = .ok (.iastore, 1) := by decide +kernel
theorem dX10_putSentence_43 : decode cX10_putSentence 43 = .ok (.iconst 0, 1) := by decide +kernel
theorem dX10_putSentence_44 : decode cX10_putSentence 44 = .ok (.istore 4, 2) := by decide +kernel
theorem dX10_putSentence_46 : decode cX10_putSentence 46 = .ok (.iload 4, 2) := by decide +kernel
theorem dX10_putSentence_48 : decode cX10_putSentence 48 = .ok (.aload_n 0, 1) := by decide +kernel
theorem dX10_putSentence_49 : decode cX10_putSentence 49 = .ok (.getfield 117, 3) := by decide +kernel
theorem dX10_putSentence_52 : decode cX10_putSentence 52 = .ok (.iload_n 1, 1) := by decide +kernel
theorem dX10_putSentence_53 : decode cX10_putSentence 53 = .ok (.iaload, 1) := by decide +kernel
theorem dX10_putSentence_54 : decode cX10_putSentence 54 = .ok (.if_icmp .ge 29, 3) := by decide +kernel
theorem dX10_putSentence_57 : decode cX10_putSentence 57 = .ok (.aload_n 0, 1) := by decide +kernel
theorem dX10_putSentence_58 : decode cX10_putSentence 58 = .ok (.getfield 120, 3) := by decide +kernel
theorem dX10_putSentence_61 : decode cX10_putSentence 61 = .ok (.bipush 30, 2) := by decide +kernel
theorem dX10_putSentence_63 : decode cX10_putSentence 63 = .ok (.iload_n 1, 1) := by decide +kernel
theorem dX10_putSentence_64 : decode cX10_putSentence 64 = .ok (.imul, 1) := by decide +kernel
theorem dX10_putSentence_65 : decode cX10_putSentence 65 = .ok (.iload 4, 2) := by decide +kernel
theorem dX10_putSentence_67 : decode cX10_putSentence 67 = .ok (.iadd, 1) := by decide +kernel
theorem dX10_putSentence_68 : decode cX10_putSentence 68 = .ok (.aload_n 0, 1) := by decide +kernel
theorem dX10_putSentence_69 : decode cX10_putSentence 69 = .ok (.iload_n 2, 1) := by decide +kernel
theorem dX10_putSentence_70 : decode cX10_putSentence 70 = .ok (.iload_n 3, 1) := by decide +kernel
theorem dX10_putSentence_71 : decode cX10_putSentence 71 = .ok (.iload 4, 2) := by decide +kernel
theorem dX10_putSentence_73 : decode cX10_putSentence 73 = .ok (.invokevirtual 201, 3) := by decide +kernel
theorem dX10_putSentence_76 : decode cX10_putSentence 76 = .ok (.iastore, 1) := by decide +kernel
theorem dX10_putSentence_77 : decode cX10_putSentence 77 = .ok (.iinc 4 1, 3) := by decide +kernel
theorem dX10_putSentence_80 : decode cX10_putSentence 80 = .ok (.goto (-34), 3) := by decide +kernel
theorem dX10_putSentence_83 : decode cX10_putSentence 83 = .ok (.iconst 1, 1) := by decide +kernel
theorem dX10_putSentence_84 : decode cX10_putSentence 84 = .ok (.ireturn, 1) := by decide +kernel
theorem dX10_putJoint_0 : decode cX10_putJoint 0 = .ok (.iload_n 1, 1) := by decide +kernel
theorem dX10_putJoint_1 : decode cX10_putJoint 1 = .ok (.invokestatic 358, 3) := by decide +kernel
theorem dX10_putJoint_4 : decode cX10_putJoint 4 = .ok (.ifCond .eq 11, 3) := by decide +kernel
theorem dX10_putJoint_7 : decode cX10_putJoint 7 = .ok (.aload_n 0, 1) := by decide +kernel
theorem dX10_putJoint_8 : decode cX10_putJoint 8 = .ok (.iload_n 2, 1) := by decide +kernel
theorem dX10_putJoint_9 : decode cX10_putJoint 9 = .ok (.invokevirtual 297, 3) := by decide +kernel
theorem dX10_putJoint_12 : decode cX10_putJoint 12 = .ok (.ifCond .ne 6, 3) := by decide +kernel
theorem dX10_putJoint_15 : decode cX10_putJoint 15 = .ok (.ldc 194, 2) := by decide +kernel
theorem dX10_putJoint_17 : decode cX10_putJoint 17 = .ok (.ireturn, 1) := by decide +kernel
theorem dX10_putJoint_18 : decode cX10_putJoint 18 = .ok (.aload_n 0, 1) := by decide +kernel
theorem dX10_putJoint_19 : decode cX10_putJoint 19 = .ok (.iload_n 2, 1) := by decide +kernel
theorem dX10_putJoint_20 : decode cX10_putJoint 20 = .ok (.invokevirtual 341, 3) := by decide +kernel
theorem dX10_putJoint_23 : decode cX10_putJoint 23 = .ok (.aload_n 0, 1) := by decide +kernel
theorem dX10_putJoint_24 : decode cX10_putJoint 24 = .ok (.getfield 114, 3) := by decide +kernel
theorem dX10_putJoint_27 : decode cX10_putJoint 27 = .ok (.iload_n 1, 1) := by decide +kernel
theorem dX10_putJoint_28 : decode cX10_putJoint 28 = .ok (.iconst 2, 1) := by decide +kernel
theorem dX10_putJoint_29 : decode cX10_putJoint 29 = .ok (.iastore, 1) := by decide +kernel
theorem dX10_putJoint_30 : decode cX10_putJoint 30 = .ok (.aload_n 0, 1) := by decide +kernel
theorem dX10_putJoint_31 : decode cX10_putJoint 31 = .ok (.getfield 120, 3) := by decide +kernel
theorem dX10_putJoint_34 : decode cX10_putJoint 34 = .ok (.bipush 30, 2) := by decide +kernel
theorem dX10_putJoint_36 : decode cX10_putJoint 36 = .ok (.iload_n 1, 1) := by decide +kernel
theorem dX10_putJoint_37 : decode cX10_putJoint 37 = .ok (.imul, 1) := by decide +kernel
theorem dX10_putJoint_38 : decode cX10_putJoint 38 = .ok (.aload_n 0, 1) := by decide +kernel
theorem dX10_putJoint_39 : decode cX10_putJoint 39 = .ok (.aload_n 0, 1) := by decide +kernel
theorem dX10_putJoint_40 : decode cX10_putJoint 40 = .ok (.getfield 85, 3) := by decide +kernel
theorem dX10_putJoint_43 : decode cX10_putJoint 43 = .ok (.iload_n 2, 1) := by decide +kernel
theorem dX10_putJoint_44 : decode cX10_putJoint 44 = .ok (.iaload, 1) := by decide +kernel
theorem dX10_putJoint_45 : decode cX10_putJoint 45 = .ok (.aload_n 0, 1) := by decide +kernel
theorem dX10_putJoint_46 : decode cX10_putJoint 46 = .ok (.getfield 88, 3) := by decide +kernel
theorem dX10_putJoint_49 : decode cX10_putJoint 49 = .ok (.iload_n 2, 1) := by decide +kernel
theorem dX10_putJoint_50 : decode cX10_putJoint 50 = .ok (.iaload, 1) := by decide +kernel
theorem dX10_putJoint_51 : decode cX10_putJoint 51 = .ok (.aload_n 0, 1) := by decide +kernel
theorem dX10_putJoint_52 : decode cX10_putJoint 52 = .ok (.getfield 91, 3) := by decide +kernel
theorem dX10_putJoint_55 : decode cX10_putJoint 55 = .ok (.iload_n 2, 1) := by decide +kernel
theorem dX10_putJoint_56 : decode cX10_putJoint 56 = .ok (.iaload, 1) := by decide +kernel
theorem dX10_putJoint_57 : decode cX10_putJoint 57 = .ok (.invokevirtual 285, 3) := by decide +kernel
theorem dX10_putJoint_60 : decode cX10_putJoint 60 = .ok (.iastore, 1) := by decide +kernel
theorem dX10_putJoint_61 : decode cX10_putJoint 61 = .ok (.aload_n 0, 1) := by decide +kernel
theorem dX10_putJoint_62 : decode cX10_putJoint 62 = .ok (.getfield 120, 3) := by decide +kernel
theorem dX10_putJoint_65 : decode cX10_putJoint 65 = .ok (.bipush 30, 2) := by decide +kernel
theorem dX10_putJoint_67 : decode cX10_putJoint 67 = .ok (.iload_n 1, 1) := by decide +kernel
theorem dX10_putJoint_68 : decode cX10_putJoint 68 = .ok (.imul, 1) := by decide +kernel
theorem dX10_putJoint_69 : decode cX10_putJoint 69 = .ok (.iconst 1, 1) := by decide +kernel
theorem dX10_putJoint_70 : decode cX10_putJoint 70 = .ok (.iadd, 1) := by decide +kernel
theorem dX10_putJoint_71 : decode cX10_putJoint 71 = .ok (.aload_n 0, 1) := by decide +kernel
theorem dX10_putJoint_72 : decode cX10_putJoint 72 = .ok (.getfield 319, 3) := by decide +kernel
theorem dX10_putJoint_75 : decode cX10_putJoint 75 = .ok (.iastore, 1) := by decide +kernel
theorem dX10_putJoint_76 : decode cX10_putJoint 76 = .ok (.iconst 1, 1) := by decide +kernel
theorem dX10_putJoint_77 : decode cX10_putJoint 77 = .ok (.ireturn, 1) := by decide +kernel
theorem dX10_putRow_0 : decode cX10_putRow 0 = .ok (.iload_n 1, 1) := by decide +kernel
theorem dX10_putRow_1 : decode cX10_putRow 1 = .ok (.invokestatic 358, 3) := by decide +kernel
theorem dX10_putRow_4 : decode cX10_putRow 4 = .ok (.ifCond .ne 6, 3) := by decide +kernel
theorem dX10_putRow_7 : decode cX10_putRow 7 = .ok (.ldc 194, 2) := by decide +kernel
theorem dX10_putRow_9 : decode cX10_putRow 9 = .ok (.ireturn, 1) := by decide +kernel
theorem dX10_putRow_10 : decode cX10_putRow 10 = .ok (.iload_n 2, 1) := by decide +kernel
theorem dX10_putRow_11 : decode cX10_putRow 11 = .ok (.bipush 30, 2) := by decide +kernel
theorem dX10_putRow_13 : decode cX10_putRow 13 = .ok (.if_icmp .le 6, 3) := by decide +kernel
theorem dX10_putRow_16 : decode cX10_putRow 16 = .ok (.ldc 135, 2) := by decide +kernel
theorem dX10_putRow_18 : decode cX10_putRow 18 = .ok (.ireturn, 1) := by decide +kernel
theorem dX10_putRow_19 : decode cX10_putRow 19 = .ok (.aload_n 0, 1) := by decide +kernel
theorem dX10_putRow_20 : decode cX10_putRow 20 = .ok (.iload_n 2, 1) := by decide +kernel
theorem dX10_putRow_21 : decode cX10_putRow 21 = .ok (.ifCond .ge 7, 3) := by decide +kernel
theorem dX10_putRow_24 : decode cX10_putRow 24 = .ok (.iconst 4, 1) := by decide +kernel
theorem dX10_putRow_25 : decode cX10_putRow 25 = .ok (.goto 4, 3) := by decide +kernel
theorem dX10_putRow_28 : decode cX10_putRow 28 = .ok (.iconst 0, 1) := by decide +kernel
theorem dX10_putRow_29 : decode cX10_putRow 29 = .ok (.putfield 361, 3) := by decide +kernel
theorem dX10_putRow_32 : decode cX10_putRow 32 = .ok (.aload_n 0, 1) := by decide +kernel
theorem dX10_putRow_33 : decode cX10_putRow 33 = .ok (.getfield 361, 3) := by decide +kernel
theorem dX10_putRow_36 : decode cX10_putRow 36 = .ok (.ifCond .le 5, 3) := by decide +kernel
theorem dX10_putRow_39 : decode cX10_putRow 39 = .ok (.iconst 0, 1) := by decide +kernel
theorem dX10_putRow_40 : decode cX10_putRow 40 = .ok (.ireturn, 1) := by decide +kernel
theorem dX10_putRow_41 : decode cX10_putRow 41 = .ok (.aload_n 0, 1) := by decide +kernel
theorem dX10_putRow_42 : decode cX10_putRow 42 = .ok (.getfield 114, 3) := by decide +kernel
theorem dX10_putRow_45 : decode cX10_putRow 45 = .ok (.iload_n 1, 1) := by decide +kernel
theorem dX10_putRow_46 : decode cX10_putRow 46 = .ok (.iconst 3, 1) := by decide +kernel
theorem dX10_putRow_47 : decode cX10_putRow 47 = .ok (.iastore, 1) := by decide +kernel
theorem dX10_putRow_48 : decode cX10_putRow 48 = .ok (.aload_n 0, 1) := by decide +kernel
theorem dX10_putRow_49 : decode cX10_putRow 49 = .ok (.getfield 117, 3) := by decide +kernel
theorem dX10_putRow_52 : decode cX10_putRow 52 = .ok (.iload_n 1, 1) := by decide +kernel
theorem dX10_putRow_53 : decode cX10_putRow 53 = .ok (.iload_n 2, 1) := by decide +kernel
theorem dX10_putRow_54 : decode cX10_putRow 54 = .ok (.iastore, 1) := by decide +kernel
theorem dX10_putRow_55 : decode cX10_putRow 55 = .ok (.iconst 0, 1) := by decide +kernel
theorem dX10_putRow_56 : decode cX10_putRow 56 = .ok (.istore_n 3, 1) := by decide +kernel
theorem dX10_putRow_57 : decode cX10_putRow 57 = .ok (.iload_n 3, 1) := by decide +kernel
theorem dX10_putRow_58 : decode cX10_putRow 58 = .ok (.iload_n 2, 1) := by decide +kernel
theorem dX10_putRow_59 : decode cX10_putRow 59 = .ok (.if_icmp .ge 21, 3) := by decide +kernel
theorem dX10_putRow_62 : decode cX10_putRow 62 = .ok (.aload_n 0, 1) := by decide +kernel
theorem dX10_putRow_63 : decode cX10_putRow 63 = .ok (.getfield 120, 3) := by decide +kernel
theorem dX10_putRow_66 : decode cX10_putRow 66 = .ok (.bipush 30, 2) := by decide +kernel
theorem dX10_putRow_68 : decode cX10_putRow 68 = .ok (.iload_n 1, 1) := by decide +kernel
theorem dX10_putRow_69 : decode cX10_putRow 69 = .ok (.imul, 1) := by decide +kernel
theorem dX10_putRow_70 : decode cX10_putRow 70 = .ok (.iload_n 3, 1) := by decide +kernel
theorem dX10_putRow_71 : decode cX10_putRow 71 = .ok (.iadd, 1) := by decide +kernel
theorem dX10_putRow_72 : decode cX10_putRow 72 = .ok (.iconst 0, 1) := by decide +kernel
theorem dX10_putRow_73 : decode cX10_putRow 73 = .ok (.iastore, 1) := by decide +kernel
theorem dX10_putRow_74 : decode cX10_putRow 74 = .ok (.iinc 3 1, 3) := by decide +kernel
theorem dX10_putRow_77 : decode cX10_putRow 77 = .ok (.goto (-20), 3) := by decide +kernel
theorem dX10_putRow_80 : decode cX10_putRow 80 = .ok (.iload_n 2, 1) := by decide +kernel
theorem dX10_putRow_81 : decode cX10_putRow 81 = .ok (.ireturn, 1) := by decide +kernel
theorem dX10_clear_0 : decode cX10_clear 0 = .ok (.iload_n 1, 1) := by decide +kernel
theorem dX10_clear_1 : decode cX10_clear 1 = .ok (.invokestatic 358, 3) := by decide +kernel
theorem dX10_clear_4 : decode cX10_clear 4 = .ok (.ifCond .ne 6, 3) := by decide +kernel
theorem dX10_clear_7 : decode cX10_clear 7 = .ok (.ldc 194, 2) := by decide +kernel
theorem dX10_clear_9 : decode cX10_clear 9 = .ok (.ireturn, 1) := by decide +kernel
theorem dX10_clear_10 : decode cX10_clear 10 = .ok (.aload_n 0, 1) := by decide +kernel
theorem dX10_clear_11 : decode cX10_clear 11 = .ok (.getfield 114, 3) := by decide +kernel
theorem dX10_clear_14 : decode cX10_clear 14 = .ok (.iload_n 1, 1) := by decide +kernel
theorem dX10_clear_15 : decode cX10_clear 15 = .ok (.iaload, 1) := by decide +kernel
theorem dX10_clear_16 : decode cX10_clear 16 = .ok (.ifCond .le 7, 3) := by decide +kernel
theorem dX10_clear_19 : decode cX10_clear 19 = .ok (.iconst 1, 1) := by decide +kernel
theorem dX10_clear_20 : decode cX10_clear 20 = .ok (.goto 4, 3) := by decide +kernel
theorem dX10_clear_23 : decode cX10_clear 23 = .ok (.iconst 0, 1) := by decide +kernel
theorem dX10_clear_24 : decode cX10_clear 24 = .ok (.istore_n 2, 1) := by decide +kernel
theorem dX10_clear_25 : decode cX10_clear 25 = .ok (.aload_n 0, 1) := by decide +kernel
theorem dX10_clear_26 : decode cX10_clear 26 = .ok (.getfield 114, 3) := by decide +kernel
theorem dX10_clear_29 : decode cX10_clear 29 = .ok (.iload_n 1, 1) := by decide +kernel
theorem dX10_clear_30 : decode cX10_clear 30 = .ok (.iconst 0, 1) := by decide +kernel
theorem dX10_clear_31 : decode cX10_clear 31 = .ok (.iastore, 1) := by decide +kernel
theorem dX10_clear_32 : decode cX10_clear 32 = .ok (.iload_n 2, 1) := by decide +kernel
theorem dX10_clear_33 : decode cX10_clear 33 = .ok (.ireturn, 1) := by decide +kernel
theorem dX10_sort_0 : decode cX10_sort 0 = .ok (.iload_n 1, 1) := by decide +kernel
theorem dX10_sort_1 : decode cX10_sort 1 = .ok (.invokestatic 358, 3) := by decide +kernel
theorem dX10_sort_4 : decode cX10_sort 4 = .ok (.ifCond .eq 12, 3) := by decide +kernel
theorem dX10_sort_7 : decode cX10_sort 7 = .ok (.aload_n 0, 1) := by decide +kernel
theorem dX10_sort_8 : decode cX10_sort 8 = .ok (.getfield 114, 3) := by decide +kernel
theorem dX10_sort_11 : decode cX10_sort 11 = .ok (.iload_n 1, 1) := by decide +kernel
theorem dX10_sort_12 : decode cX10_sort 12 = .ok (.iaload, 1) := by decide +kernel
theorem dX10_sort_13 : decode cX10_sort 13 = .ok (.goto 5, 3) := by decide +kernel
theorem dX10_sort_16 : decode cX10_sort 16 = .ok (.ldc 194, 2) := by decide +kernel
theorem dX10_sort_18 : decode cX10_sort 18 = .ok (.ireturn, 1) := by decide +kernel
theorem dX10_asks_0 : decode cX10_asks 0 = .ok (.aload_n 0, 1) := by decide +kernel
theorem dX10_asks_1 : decode cX10_asks 1 = .ok (.aload_n 0, 1) := by decide +kernel
theorem dX10_asks_2 : decode cX10_asks 2 = .ok (.getfield 114, 3) := by decide +kernel
theorem dX10_asks_5 : decode cX10_asks 5 = .ok (.iload_n 1, 1) := by decide +kernel
theorem dX10_asks_6 : decode cX10_asks 6 = .ok (.iaload, 1) := by decide +kernel
theorem dX10_asks_7 : decode cX10_asks 7 = .ok (.ifCond .ne 7, 3) := by decide +kernel
theorem dX10_asks_10 : decode cX10_asks 10 = .ok (.iconst 1, 1) := by decide +kernel
theorem dX10_asks_11 : decode cX10_asks 11 = .ok (.goto 40, 3) := by decide +kernel
theorem dX10_asks_14 : decode cX10_asks 14 = .ok (.aload_n 0, 1) := by decide +kernel
theorem dX10_asks_15 : decode cX10_asks 15 = .ok (.getfield 114, 3) := by decide +kernel
theorem dX10_asks_18 : decode cX10_asks 18 = .ok (.iload_n 1, 1) := by decide +kernel
theorem dX10_asks_19 : decode cX10_asks 19 = .ok (.iaload, 1) := by decide +kernel
theorem dX10_asks_20 : decode cX10_asks 20 = .ok (.iconst 3, 1) := by decide +kernel
theorem dX10_asks_21 : decode cX10_asks 21 = .ok (.if_icmp .eq 7, 3) := by decide +kernel
theorem dX10_asks_24 : decode cX10_asks 24 = .ok (.iconst 2, 1) := by decide +kernel
theorem dX10_asks_25 : decode cX10_asks 25 = .ok (.goto 26, 3) := by decide +kernel
theorem dX10_asks_28 : decode cX10_asks 28 = .ok (.iload_n 2, 1) := by decide +kernel
theorem dX10_asks_29 : decode cX10_asks 29 = .ok (.i2l, 1) := by decide +kernel
theorem dX10_asks_30 : decode cX10_asks 30 = .ok (.lconst 0, 1) := by decide +kernel
theorem dX10_asks_31 : decode cX10_asks 31 = .ok (.aload_n 0, 1) := by decide +kernel
theorem dX10_asks_32 : decode cX10_asks 32 = .ok (.getfield 117, 3) := by decide +kernel
theorem dX10_asks_35 : decode cX10_asks 35 = .ok (.iload_n 1, 1) := by decide +kernel
theorem dX10_asks_36 : decode cX10_asks 36 = .ok (.iaload, 1) := by decide +kernel
theorem dX10_asks_37 : decode cX10_asks 37 = .ok (.iconst 1, 1) := by decide +kernel
theorem dX10_asks_38 : decode cX10_asks 38 = .ok (.isub, 1) := by decide +kernel
theorem dX10_asks_39 : decode cX10_asks 39 = .ok (.i2l, 1) := by decide +kernel
theorem dX10_asks_40 : decode cX10_asks 40 = .ok (.invokestatic 131, 3) := by decide +kernel
theorem dX10_asks_43 : decode cX10_asks 43 = .ok (.ifCond .ne 7, 3) := by decide +kernel
theorem dX10_asks_46 : decode cX10_asks 46 = .ok (.iconst 3, 1) := by decide +kernel
theorem dX10_asks_47 : decode cX10_asks 47 = .ok (.goto 4, 3) := by decide +kernel
theorem dX10_asks_50 : decode cX10_asks 50 = .ok (.iconst 0, 1) := by decide +kernel
theorem dX10_asks_51 : decode cX10_asks 51 = .ok (.putfield 361, 3) := by decide +kernel
theorem dX10_asks_54 : decode cX10_asks 54 = .ok (.return_, 1) := by decide +kernel
theorem dX10_write_0 : decode cX10_write 0 = .ok (.iload_n 1, 1) := by decide +kernel
theorem dX10_write_1 : decode cX10_write 1 = .ok (.invokestatic 358, 3) := by decide +kernel
theorem dX10_write_4 : decode cX10_write 4 = .ok (.ifCond .ne 6, 3) := by decide +kernel
theorem dX10_write_7 : decode cX10_write 7 = .ok (.ldc 194, 2) := by decide +kernel
theorem dX10_write_9 : decode cX10_write 9 = .ok (.ireturn, 1) := by decide +kernel
theorem dX10_write_10 : decode cX10_write 10 = .ok (.aload_n 0, 1) := by decide +kernel
theorem dX10_write_11 : decode cX10_write 11 = .ok (.iload_n 1, 1) := by decide +kernel
theorem dX10_write_12 : decode cX10_write 12 = .ok (.iload_n 2, 1) := by decide +kernel
theorem dX10_write_13 : decode cX10_write 13 = .ok (.invokevirtual 364, 3) := by decide +kernel
theorem dX10_write_16 : decode cX10_write 16 = .ok (.aload_n 0, 1) := by decide +kernel
theorem dX10_write_17 : decode cX10_write 17 = .ok (.getfield 361, 3) := by decide +kernel
theorem dX10_write_20 : decode cX10_write 20 = .ok (.ifCond .le 5, 3) := by decide +kernel
theorem dX10_write_23 : decode cX10_write 23 = .ok (.iconst 0, 1) := by decide +kernel
theorem dX10_write_24 : decode cX10_write 24 = .ok (.ireturn, 1) := by decide +kernel
theorem dX10_write_25 : decode cX10_write 25 = .ok (.aload_n 0, 1) := by decide +kernel
theorem dX10_write_26 : decode cX10_write 26 = .ok (.getfield 120, 3) := by decide +kernel
theorem dX10_write_29 : decode cX10_write 29 = .ok (.bipush 30, 2) := by decide +kernel
theorem dX10_write_31 : decode cX10_write 31 = .ok (.iload_n 1, 1) := by decide +kernel
theorem dX10_write_32 : decode cX10_write 32 = .ok (.imul, 1) := by decide +kernel
theorem dX10_write_33 : decode cX10_write 33 = .ok (.iload_n 2, 1) := by decide +kernel
theorem dX10_write_34 : decode cX10_write 34 = .ok (.iadd, 1) := by decide +kernel
theorem dX10_write_35 : decode cX10_write 35 = .ok (.iaload, 1) := by decide +kernel
theorem dX10_write_36 : decode cX10_write 36 = .ok (.istore 4, 2) := by decide +kernel
theorem dX10_write_38 : decode cX10_write 38 = .ok (.aload_n 0, 1) := by decide +kernel
theorem dX10_write_39 : decode cX10_write 39 = .ok (.getfield 120, 3) := by decide +kernel
theorem dX10_write_42 : decode cX10_write 42 = .ok (.bipush 30, 2) := by decide +kernel
theorem dX10_write_44 : decode cX10_write 44 = .ok (.iload_n 1, 1) := by decide +kernel
theorem dX10_write_45 : decode cX10_write 45 = .ok (.imul, 1) := by decide +kernel
theorem dX10_write_46 : decode cX10_write 46 = .ok (.iload_n 2, 1) := by decide +kernel
theorem dX10_write_47 : decode cX10_write 47 = .ok (.iadd, 1) := by decide +kernel
theorem dX10_write_48 : decode cX10_write 48 = .ok (.iload_n 3, 1) := by decide +kernel
theorem dX10_write_49 : decode cX10_write 49 = .ok (.iastore, 1) := by decide +kernel
theorem dX10_write_50 : decode cX10_write 50 = .ok (.iload 4, 2) := by decide +kernel
theorem dX10_write_52 : decode cX10_write 52 = .ok (.ireturn, 1) := by decide +kernel
theorem dX10_read_0 : decode cX10_read 0 = .ok (.iload_n 1, 1) := by decide +kernel
theorem dX10_read_1 : decode cX10_read 1 = .ok (.invokestatic 358, 3) := by decide +kernel
theorem dX10_read_4 : decode cX10_read 4 = .ok (.ifCond .ne 6, 3) := by decide +kernel
theorem dX10_read_7 : decode cX10_read 7 = .ok (.ldc 194, 2) := by decide +kernel
theorem dX10_read_9 : decode cX10_read 9 = .ok (.ireturn, 1) := by decide +kernel
theorem dX10_read_10 : decode cX10_read 10 = .ok (.aload_n 0, 1) := by decide +kernel
theorem dX10_read_11 : decode cX10_read 11 = .ok (.iload_n 1, 1) := by decide +kernel
theorem dX10_read_12 : decode cX10_read 12 = .ok (.iload_n 2, 1) := by decide +kernel
theorem dX10_read_13 : decode cX10_read 13 = .ok (.invokevirtual 364, 3) := by decide +kernel
theorem dX10_read_16 : decode cX10_read 16 = .ok (.aload_n 0, 1) := by decide +kernel
theorem dX10_read_17 : decode cX10_read 17 = .ok (.getfield 361, 3) := by decide +kernel
theorem dX10_read_20 : decode cX10_read 20 = .ok (.ifCond .le 7, 3) := by decide +kernel
theorem dX10_read_23 : decode cX10_read 23 = .ok (.iconst 0, 1) := by decide +kernel
theorem dX10_read_24 : decode cX10_read 24 = .ok (.goto 14, 3) := by decide +kernel
theorem dX10_read_27 : decode cX10_read 27 = .ok (.aload_n 0, 1) := by decide +kernel
theorem dX10_read_28 : decode cX10_read 28 = .ok (.getfield 120, 3) := by decide +kernel
theorem dX10_read_31 : decode cX10_read 31 = .ok (.bipush 30, 2) := by decide +kernel
theorem dX10_read_33 : decode cX10_read 33 = .ok (.iload_n 1, 1) := by decide +kernel
theorem dX10_read_34 : decode cX10_read 34 = .ok (.imul, 1) := by decide +kernel
theorem dX10_read_35 : decode cX10_read 35 = .ok (.iload_n 2, 1) := by decide +kernel
theorem dX10_read_36 : decode cX10_read 36 = .ok (.iadd, 1) := by decide +kernel
theorem dX10_read_37 : decode cX10_read 37 = .ok (.iaload, 1) := by decide +kernel
theorem dX10_read_38 : decode cX10_read 38 = .ok (.ireturn, 1) := by decide +kernel
theorem dX10_spell_0 : decode cX10_spell 0 = .ok (.iload_n 1, 1) := by decide +kernel
theorem dX10_spell_1 : decode cX10_spell 1 = .ok (.invokestatic 358, 3) := by decide +kernel
theorem dX10_spell_4 : decode cX10_spell 4 = .ok (.ifCond .eq 10, 3) := by decide +kernel
theorem dX10_spell_7 : decode cX10_spell 7 = .ok (.iload_n 2, 1) := by decide +kernel
theorem dX10_spell_8 : decode cX10_spell 8 = .ok (.invokestatic 358, 3) := by decide +kernel
theorem dX10_spell_11 : decode cX10_spell 11 = .ok (.ifCond .ne 6, 3) := by decide +kernel
theorem dX10_spell_14 : decode cX10_spell 14 = .ok (.ldc 194, 2) := by decide +kernel
theorem dX10_spell_16 : decode cX10_spell 16 = .ok (.ireturn, 1) := by decide +kernel
theorem dX10_spell_17 : decode cX10_spell 17 = .ok (.aload_n 0, 1) := by decide +kernel
theorem dX10_spell_18 : decode cX10_spell 18 = .ok (.aload_n 0, 1) := by decide +kernel
theorem dX10_spell_19 : decode cX10_spell 19 = .ok (.getfield 114, 3) := by decide +kernel
theorem dX10_spell_22 : decode cX10_spell 22 = .ok (.iload_n 1, 1) := by decide +kernel
theorem dX10_spell_23 : decode cX10_spell 23 = .ok (.iaload, 1) := by decide +kernel
theorem dX10_spell_24 : decode cX10_spell 24 = .ok (.ifCond .ne 7, 3) := by decide +kernel
theorem dX10_spell_27 : decode cX10_spell 27 = .ok (.iconst 1, 1) := by decide +kernel
theorem dX10_spell_28 : decode cX10_spell 28 = .ok (.goto 45, 3) := by decide +kernel
theorem dX10_spell_31 : decode cX10_spell 31 = .ok (.aload_n 0, 1) := by decide +kernel
theorem dX10_spell_32 : decode cX10_spell 32 = .ok (.getfield 114, 3) := by decide +kernel
theorem dX10_spell_35 : decode cX10_spell 35 = .ok (.iload_n 1, 1) := by decide +kernel
theorem dX10_spell_36 : decode cX10_spell 36 = .ok (.iaload, 1) := by decide +kernel
theorem dX10_spell_37 : decode cX10_spell 37 = .ok (.iconst 1, 1) := by decide +kernel
theorem dX10_spell_38 : decode cX10_spell 38 = .ok (.if_icmp .eq 7, 3) := by decide +kernel
theorem dX10_spell_41 : decode cX10_spell 41 = .ok (.iconst 2, 1) := by decide +kernel
theorem dX10_spell_42 : decode cX10_spell 42 = .ok (.goto 31, 3) := by decide +kernel
theorem dX10_spell_45 : decode cX10_spell 45 = .ok (.aload_n 0, 1) := by decide +kernel
theorem dX10_spell_46 : decode cX10_spell 46 = .ok (.getfield 114, 3) := by decide +kernel
theorem dX10_spell_49 : decode cX10_spell 49 = .ok (.iload_n 2, 1) := by decide +kernel
theorem dX10_spell_50 : decode cX10_spell 50 = .ok (.iaload, 1) := by decide +kernel
theorem dX10_spell_51 : decode cX10_spell 51 = .ok (.ifCond .ne 7, 3) := by decide +kernel
theorem dX10_spell_54 : decode cX10_spell 54 = .ok (.iconst 1, 1) := by decide +kernel
theorem dX10_spell_55 : decode cX10_spell 55 = .ok (.goto 18, 3) := by decide +kernel
theorem dX10_spell_58 : decode cX10_spell 58 = .ok (.aload_n 0, 1) := by decide +kernel
theorem dX10_spell_59 : decode cX10_spell 59 = .ok (.getfield 114, 3) := by decide +kernel
theorem dX10_spell_62 : decode cX10_spell 62 = .ok (.iload_n 2, 1) := by decide +kernel
theorem dX10_spell_63 : decode cX10_spell 63 = .ok (.iaload, 1) := by decide +kernel
theorem dX10_spell_64 : decode cX10_spell 64 = .ok (.iconst 3, 1) := by decide +kernel
theorem dX10_spell_65 : decode cX10_spell 65 = .ok (.if_icmp .eq 7, 3) := by decide +kernel
theorem dX10_spell_68 : decode cX10_spell 68 = .ok (.iconst 2, 1) := by decide +kernel
theorem dX10_spell_69 : decode cX10_spell 69 = .ok (.goto 4, 3) := by decide +kernel
theorem dX10_spell_72 : decode cX10_spell 72 = .ok (.iconst 0, 1) := by decide +kernel
theorem dX10_spell_73 : decode cX10_spell 73 = .ok (.putfield 361, 3) := by decide +kernel
theorem dX10_spell_76 : decode cX10_spell 76 = .ok (.aload_n 0, 1) := by decide +kernel
theorem dX10_spell_77 : decode cX10_spell 77 = .ok (.getfield 361, 3) := by decide +kernel
theorem dX10_spell_80 : decode cX10_spell 80 = .ok (.ifCond .le 5, 3) := by decide +kernel
theorem dX10_spell_83 : decode cX10_spell 83 = .ok (.iconst 0, 1) := by decide +kernel
theorem dX10_spell_84 : decode cX10_spell 84 = .ok (.ireturn, 1) := by decide +kernel
theorem dX10_spell_85 : decode cX10_spell 85 = .ok (.iconst 0, 1) := by decide +kernel
theorem dX10_spell_86 : decode cX10_spell 86 = .ok (.istore 4, 2) := by decide +kernel
theorem dX10_spell_88 : decode cX10_spell 88 = .ok (.iload 4, 2) := by decide +kernel
theorem dX10_spell_90 : decode cX10_spell 90 = .ok (.aload_n 0, 1) := by decide +kernel
theorem dX10_spell_91 : decode cX10_spell 91 = .ok (.getfield 117, 3) := by decide +kernel
theorem dX10_spell_94 : decode cX10_spell 94 = .ok (.iload_n 1, 1) := by decide +kernel
theorem dX10_spell_95 : decode cX10_spell 95 = .ok (.iaload, 1) := by decide +kernel
theorem dX10_spell_96 : decode cX10_spell 96 = .ok (.if_icmp .ge 68, 3) := by decide +kernel
theorem dX10_spell_99 : decode cX10_spell 99 = .ok (.iload_n 3, 1) := by decide +kernel
theorem dX10_spell_100 : decode cX10_spell 100 = .ok (.i2l, 1) := by decide +kernel
theorem dX10_spell_101 : decode cX10_spell 101 = .ok (.iload 4, 2) := by decide +kernel
theorem dX10_spell_103 : decode cX10_spell 103 = .ok (.i2l, 1) := by decide +kernel
theorem dX10_spell_104 : decode cX10_spell 104 = .ok (.ladd, 1) := by decide +kernel
theorem dX10_spell_105 : decode cX10_spell 105 = .ok (.lconst 0, 1) := by decide +kernel
theorem dX10_spell_106 : decode cX10_spell 106 = .ok (.aload_n 0, 1) := by decide +kernel
theorem dX10_spell_107 : decode cX10_spell 107 = .ok (.getfield 117, 3) := by decide +kernel
theorem dX10_spell_110 : decode cX10_spell 110 = .ok (.iload_n 2, 1) := by decide +kernel
theorem dX10_spell_111 : decode cX10_spell 111 = .ok (.iaload, 1) := by decide +kernel
theorem dX10_spell_112 : decode cX10_spell 112 = .ok (.iconst 1, 1) := by decide +kernel
theorem dX10_spell_113 : decode cX10_spell 113 = .ok (.isub, 1) := by decide +kernel
theorem dX10_spell_114 : decode cX10_spell 114 = .ok (.i2l, 1) := by decide +kernel
theorem dX10_spell_115 : decode cX10_spell 115 = .ok (.invokestatic 131, 3) := by decide +kernel
theorem dX10_spell_118 : decode cX10_spell 118 = .ok (.ifCond .eq 7, 3) := by decide +kernel
theorem dX10_spell_121 : decode cX10_spell 121 = .ok (.iload_n 3, 1) := by decide +kernel
theorem dX10_spell_122 : decode cX10_spell 122 = .ok (.ifCond .ge 10, 3) := by decide +kernel
theorem dX10_spell_125 : decode cX10_spell 125 = .ok (.aload_n 0, 1) := by decide +kernel
theorem dX10_spell_126 : decode cX10_spell 126 = .ok (.iconst 3, 1) := by decide +kernel
theorem dX10_spell_127 : decode cX10_spell 127 = .ok (.putfield 361, 3) := by decide +kernel
theorem dX10_spell_130 : decode cX10_spell 130 = .ok (.iconst 0, 1) := by decide +kernel
theorem dX10_spell_131 : decode cX10_spell 131 = .ok (.ireturn, 1) := by decide +kernel
theorem dX10_spell_132 : decode cX10_spell 132 = .ok (.aload_n 0, 1) := by decide +kernel
theorem dX10_spell_133 : decode cX10_spell 133 = .ok (.getfield 120, 3) := by decide +kernel
theorem dX10_spell_136 : decode cX10_spell 136 = .ok (.bipush 30, 2) := by decide +kernel
theorem dX10_spell_138 : decode cX10_spell 138 = .ok (.iload_n 2, 1) := by decide +kernel
theorem dX10_spell_139 : decode cX10_spell 139 = .ok (.imul, 1) := by decide +kernel
theorem dX10_spell_140 : decode cX10_spell 140 = .ok (.iload_n 3, 1) := by decide +kernel
theorem dX10_spell_141 : decode cX10_spell 141 = .ok (.iadd, 1) := by decide +kernel
theorem dX10_spell_142 : decode cX10_spell 142 = .ok (.iload 4, 2) := by decide +kernel
theorem dX10_spell_144 : decode cX10_spell 144 = .ok (.iadd, 1) := by decide +kernel
theorem dX10_spell_145 : decode cX10_spell 145 = .ok (.aload_n 0, 1) := by decide +kernel
theorem dX10_spell_146 : decode cX10_spell 146 = .ok (.getfield 120, 3) := by decide +kernel
theorem dX10_spell_149 : decode cX10_spell 149 = .ok (.bipush 30, 2) := by decide +kernel
theorem dX10_spell_151 : decode cX10_spell 151 = .ok (.iload_n 1, 1) := by decide +kernel
theorem dX10_spell_152 : decode cX10_spell 152 = .ok (.imul, 1) := by decide +kernel
theorem dX10_spell_153 : decode cX10_spell 153 = .ok (.iload 4, 2) := by decide +kernel
theorem dX10_spell_155 : decode cX10_spell 155 = .ok (.iadd, 1) := by decide +kernel
theorem dX10_spell_156 : decode cX10_spell 156 = .ok (.iaload, 1) := by decide +kernel
theorem dX10_spell_157 : decode cX10_spell 157 = .ok (.iastore, 1) := by decide +kernel
theorem dX10_spell_158 : decode cX10_spell 158 = .ok (.iinc 4 1, 3) := by decide +kernel
theorem dX10_spell_161 : decode cX10_spell 161 = .ok (.goto (-73), 3) := by decide +kernel
theorem dX10_spell_164 : decode cX10_spell 164 = .ok (.aload_n 0, 1) := by decide +kernel
theorem dX10_spell_165 : decode cX10_spell 165 = .ok (.getfield 117, 3) := by decide +kernel
theorem dX10_spell_168 : decode cX10_spell 168 = .ok (.iload_n 1, 1) := by decide +kernel
theorem dX10_spell_169 : decode cX10_spell 169 = .ok (.iaload, 1) := by decide +kernel
theorem dX10_spell_170 : decode cX10_spell 170 = .ok (.ireturn, 1) := by decide +kernel
theorem dX10_rate_0 : decode cX10_rate 0 = .ok (.iload_n 1, 1) := by decide +kernel
theorem dX10_rate_1 : decode cX10_rate 1 = .ok (.invokestatic 358, 3) := by decide +kernel
theorem dX10_rate_4 : decode cX10_rate 4 = .ok (.ifCond .ne 6, 3) := by decide +kernel
theorem dX10_rate_7 : decode cX10_rate 7 = .ok (.ldc 194, 2) := by decide +kernel
theorem dX10_rate_9 : decode cX10_rate 9 = .ok (.ireturn, 1) := by decide +kernel
theorem dX10_rate_10 : decode cX10_rate 10 = .ok (.aload_n 0, 1) := by decide +kernel
theorem dX10_rate_11 : decode cX10_rate 11 = .ok (.aload_n 0, 1) := by decide +kernel
theorem dX10_rate_12 : decode cX10_rate 12 = .ok (.getfield 114, 3) := by decide +kernel
theorem dX10_rate_15 : decode cX10_rate 15 = .ok (.iload_n 1, 1) := by decide +kernel
theorem dX10_rate_16 : decode cX10_rate 16 = .ok (.iaload, 1) := by decide +kernel
theorem dX10_rate_17 : decode cX10_rate 17 = .ok (.ifCond .ne 7, 3) := by decide +kernel
theorem dX10_rate_20 : decode cX10_rate 20 = .ok (.iconst 1, 1) := by decide +kernel
theorem dX10_rate_21 : decode cX10_rate 21 = .ok (.goto 37, 3) := by decide +kernel
theorem dX10_rate_24 : decode cX10_rate 24 = .ok (.aload_n 0, 1) := by decide +kernel
theorem dX10_rate_25 : decode cX10_rate 25 = .ok (.getfield 114, 3) := by decide +kernel
theorem dX10_rate_28 : decode cX10_rate 28 = .ok (.iload_n 1, 1) := by decide +kernel
theorem dX10_rate_29 : decode cX10_rate 29 = .ok (.iaload, 1) := by decide +kernel
theorem dX10_rate_30 : decode cX10_rate 30 = .ok (.iconst 2, 1) := by decide +kernel
theorem dX10_rate_31 : decode cX10_rate 31 = .ok (.if_icmp .eq 7, 3) := by decide +kernel
theorem dX10_rate_34 : decode cX10_rate 34 = .ok (.iconst 2, 1) := by decide +kernel
theorem dX10_rate_35 : decode cX10_rate 35 = .ok (.goto 23, 3) := by decide +kernel
theorem dX10_rate_38 : decode cX10_rate 38 = .ok (.aload_n 0, 1) := by decide +kernel
theorem dX10_rate_39 : decode cX10_rate 39 = .ok (.getfield 120, 3) := by decide +kernel
theorem dX10_rate_42 : decode cX10_rate 42 = .ok (.bipush 30, 2) := by decide +kernel
theorem dX10_rate_44 : decode cX10_rate 44 = .ok (.iload_n 1, 1) := by decide +kernel
theorem dX10_rate_45 : decode cX10_rate 45 = .ok (.imul, 1) := by decide +kernel
theorem dX10_rate_46 : decode cX10_rate 46 = .ok (.iconst 1, 1) := by decide +kernel
theorem dX10_rate_47 : decode cX10_rate 47 = .ok (.iadd, 1) := by decide +kernel
theorem dX10_rate_48 : decode cX10_rate 48 = .ok (.iaload, 1) := by decide +kernel
theorem dX10_rate_49 : decode cX10_rate 49 = .ok (.ifCond .ne 8, 3) := by decide +kernel
theorem dX10_rate_52 : decode cX10_rate 52 = .ok (.bipush 6, 2) := by decide +kernel
theorem dX10_rate_54 : decode cX10_rate 54 = .ok (.goto 4, 3) := by decide +kernel
theorem dX10_rate_57 : decode cX10_rate 57 = .ok (.iconst 0, 1) := by decide +kernel
theorem dX10_rate_58 : decode cX10_rate 58 = .ok (.putfield 361, 3) := by decide +kernel
theorem dX10_rate_61 : decode cX10_rate 61 = .ok (.aload_n 0, 1) := by decide +kernel
theorem dX10_rate_62 : decode cX10_rate 62 = .ok (.getfield 361, 3) := by decide +kernel
theorem dX10_rate_65 : decode cX10_rate 65 = .ok (.ifCond .le 7, 3) := by decide +kernel
theorem dX10_rate_68 : decode cX10_rate 68 = .ok (.iconst 0, 1) := by decide +kernel
theorem dX10_rate_69 : decode cX10_rate 69 = .ok (.goto 27, 3) := by decide +kernel
theorem dX10_rate_72 : decode cX10_rate 72 = .ok (.bipush 100, 2) := by decide +kernel
theorem dX10_rate_74 : decode cX10_rate 74 = .ok (.aload_n 0, 1) := by decide +kernel
theorem dX10_rate_75 : decode cX10_rate 75 = .ok (.getfield 120, 3) := by decide +kernel
theorem dX10_rate_78 : decode cX10_rate 78 = .ok (.bipush 30, 2) := by decide +kernel
theorem dX10_rate_80 : decode cX10_rate 80 = .ok (.iload_n 1, 1) := by decide +kernel
theorem dX10_rate_81 : decode cX10_rate 81 = .ok (.imul, 1) := by decide +kernel
theorem dX10_rate_82 : decode cX10_rate 82 = .ok (.iaload, 1) := by decide +kernel
theorem dX10_rate_83 : decode cX10_rate 83 = .ok (.imul, 1) := by decide +kernel
theorem dX10_rate_84 : decode cX10_rate 84 = .ok (.aload_n 0, 1) := by decide +kernel
theorem dX10_rate_85 : decode cX10_rate 85 = .ok (.getfield 120, 3) := by decide +kernel
theorem dX10_rate_88 : decode cX10_rate 88 = .ok (.bipush 30, 2) := by decide +kernel
theorem dX10_rate_90 : decode cX10_rate 90 = .ok (.iload_n 1, 1) := by decide +kernel
theorem dX10_rate_91 : decode cX10_rate 91 = .ok (.imul, 1) := by decide +kernel
theorem dX10_rate_92 : decode cX10_rate 92 = .ok (.iconst 1, 1) := by decide +kernel
theorem dX10_rate_93 : decode cX10_rate 93 = .ok (.iadd, 1) := by decide +kernel
theorem dX10_rate_94 : decode cX10_rate 94 = .ok (.iaload, 1) := by decide +kernel
theorem dX10_rate_95 : decode cX10_rate 95 = .ok (.idiv, 1) := by decide +kernel
theorem dX10_rate_96 : decode cX10_rate 96 = .ok (.ireturn, 1) := by decide +kernel
theorem dX10_code_0 : decode cX10_code 0 = .ok (.aload_n 0, 1) := by decide +kernel
theorem dX10_code_1 : decode cX10_code 1 = .ok (.getfield 361, 3) := by decide +kernel
theorem dX10_code_4 : decode cX10_code 4 = .ok (.ireturn, 1) := by decide +kernel
theorem dJ9_abs_0f7a4_0 : decode cJ9_abs_0f7a4 0 = .ok (.iload_n 0, 1) := by decide +kernel
theorem dJ9_abs_0f7a4_1 : decode cJ9_abs_0f7a4 1 = .ok (.ifCond .ge 8, 3) := by decide +kernel
theorem dJ9_abs_0f7a4_4 : decode cJ9_abs_0f7a4 4 = .ok (.iload_n 0, 1) := by decide +kernel
theorem dJ9_abs_0f7a4_5 : decode cJ9_abs_0f7a4 5 = .ok (.ineg, 1) := by decide +kernel
theorem dJ9_abs_0f7a4_6 : decode cJ9_abs_0f7a4 6 = .ok (.goto 4, 3) := by decide +kernel
theorem dJ9_abs_0f7a4_9 : decode cJ9_abs_0f7a4 9 = .ok (.iload_n 0, 1) := by decide +kernel
theorem dJ9_abs_0f7a4_10 : decode cJ9_abs_0f7a4 10 = .ok (.ireturn, 1) := by decide +kernel
theorem dJ9_max_7cf53_0 : decode cJ9_max_7cf53 0 = .ok (.iload_n 0, 1) := by decide +kernel
theorem dJ9_max_7cf53_1 : decode cJ9_max_7cf53 1 = .ok (.iload_n 1, 1) := by decide +kernel
theorem dJ9_max_7cf53_2 : decode cJ9_max_7cf53 2 = .ok (.if_icmp .lt 7, 3) := by decide +kernel
theorem dJ9_max_7cf53_5 : decode cJ9_max_7cf53 5 = .ok (.iload_n 0, 1) := by decide +kernel
theorem dJ9_max_7cf53_6 : decode cJ9_max_7cf53 6 = .ok (.goto 4, 3) := by decide +kernel
theorem dJ9_max_7cf53_9 : decode cJ9_max_7cf53 9 = .ok (.iload_n 1, 1) := by decide +kernel
theorem dJ9_max_7cf53_10 : decode cJ9_max_7cf53 10 = .ok (.ireturn, 1) := by decide +kernel
theorem dJ9_min_7cf53_0 : decode cJ9_min_7cf53 0 = .ok (.iload_n 0, 1) := by decide +kernel
theorem dJ9_min_7cf53_1 : decode cJ9_min_7cf53 1 = .ok (.iload_n 1, 1) := by decide +kernel
theorem dJ9_min_7cf53_2 : decode cJ9_min_7cf53 2 = .ok (.if_icmp .gt 7, 3) := by decide +kernel
theorem dJ9_min_7cf53_5 : decode cJ9_min_7cf53 5 = .ok (.iload_n 0, 1) := by decide +kernel
theorem dJ9_min_7cf53_6 : decode cJ9_min_7cf53 6 = .ok (.goto 4, 3) := by decide +kernel
theorem dJ9_min_7cf53_9 : decode cJ9_min_7cf53 9 = .ok (.iload_n 1, 1) := by decide +kernel
theorem dJ9_min_7cf53_10 : decode cJ9_min_7cf53 10 = .ok (.ireturn, 1) := by decide +kernel
theorem dJ7_fill_d0a16_0 : decode cJ7_fill_d0a16 0 = .ok (.iconst 0, 1) := by decide +kernel
theorem dJ7_fill_d0a16_1 : decode cJ7_fill_d0a16 1 = .ok (.istore_n 3, 1) := by decide +kernel
theorem dJ7_fill_d0a16_2 : decode cJ7_fill_d0a16 2 = .ok (.aload_n 0, 1) := by decide +kernel
theorem dJ7_fill_d0a16_3 : decode cJ7_fill_d0a16 3 = .ok (.arraylength, 1) := by decide +kernel
theorem dJ7_fill_d0a16_4 : decode cJ7_fill_d0a16 4 = .ok (.istore 4, 2) := by decide +kernel
theorem dJ7_fill_d0a16_6 : decode cJ7_fill_d0a16 6 = .ok (.iload_n 3, 1) := by decide +kernel
theorem dJ7_fill_d0a16_7 : decode cJ7_fill_d0a16 7 = .ok (.iload 4, 2) := by decide +kernel
theorem dJ7_fill_d0a16_9 : decode cJ7_fill_d0a16 9 = .ok (.if_icmp .ge 13, 3) := by decide +kernel
theorem dJ7_fill_d0a16_12 : decode cJ7_fill_d0a16 12 = .ok (.aload_n 0, 1) := by decide +kernel
theorem dJ7_fill_d0a16_13 : decode cJ7_fill_d0a16 13 = .ok (.iload_n 3, 1) := by decide +kernel
theorem dJ7_fill_d0a16_14 : decode cJ7_fill_d0a16 14 = .ok (.lload_n 1, 1) := by decide +kernel
theorem dJ7_fill_d0a16_15 : decode cJ7_fill_d0a16 15 = .ok (.lastore, 1) := by decide +kernel
theorem dJ7_fill_d0a16_16 : decode cJ7_fill_d0a16 16 = .ok (.iinc 3 1, 3) := by decide +kernel
theorem dJ7_fill_d0a16_19 : decode cJ7_fill_d0a16 19 = .ok (.goto (-13), 3) := by decide +kernel
theorem dJ7_fill_d0a16_22 : decode cJ7_fill_d0a16 22 = .ok (.return_, 1) := by decide +kernel
theorem dJ7_fill_53178_0 : decode cJ7_fill_53178 0 = .ok (.iconst 0, 1) := by decide +kernel
theorem dJ7_fill_53178_1 : decode cJ7_fill_53178 1 = .ok (.istore_n 2, 1) := by decide +kernel
theorem dJ7_fill_53178_2 : decode cJ7_fill_53178 2 = .ok (.aload_n 0, 1) := by decide +kernel
theorem dJ7_fill_53178_3 : decode cJ7_fill_53178 3 = .ok (.arraylength, 1) := by decide +kernel
theorem dJ7_fill_53178_4 : decode cJ7_fill_53178 4 = .ok (.istore_n 3, 1) := by decide +kernel
theorem dJ7_fill_53178_5 : decode cJ7_fill_53178 5 = .ok (.iload_n 2, 1) := by decide +kernel
theorem dJ7_fill_53178_6 : decode cJ7_fill_53178 6 = .ok (.iload_n 3, 1) := by decide +kernel
theorem dJ7_fill_53178_7 : decode cJ7_fill_53178 7 = .ok (.if_icmp .ge 13, 3) := by decide +kernel
theorem dJ7_fill_53178_10 : decode cJ7_fill_53178 10 = .ok (.aload_n 0, 1) := by decide +kernel
theorem dJ7_fill_53178_11 : decode cJ7_fill_53178 11 = .ok (.iload_n 2, 1) := by decide +kernel
theorem dJ7_fill_53178_12 : decode cJ7_fill_53178 12 = .ok (.iload_n 1, 1) := by decide +kernel
theorem dJ7_fill_53178_13 : decode cJ7_fill_53178 13 = .ok (.iastore, 1) := by decide +kernel
theorem dJ7_fill_53178_14 : decode cJ7_fill_53178 14 = .ok (.iinc 2 1, 3) := by decide +kernel
theorem dJ7_fill_53178_17 : decode cJ7_fill_53178 17 = .ok (.goto (-12), 3) := by decide +kernel
theorem dJ7_fill_53178_20 : decode cJ7_fill_53178 20 = .ok (.return_, 1) := by decide +kernel
theorem dL_law_0 : decode cL_law 0 = .ok (.new 7, 3) := by decide +kernel
theorem dL_law_3 : decode cL_law 3 = .ok (.dup, 1) := by decide +kernel
theorem dL_law_4 : decode cL_law 4 = .ok (.invokespecial 9, 3) := by decide +kernel
theorem dL_law_7 : decode cL_law 7 = .ok (.astore_n 1, 1) := by decide +kernel
theorem dL_law_8 : decode cL_law 8 = .ok (.new 10, 3) := by decide +kernel
theorem dL_law_11 : decode cL_law 11 = .ok (.dup, 1) := by decide +kernel
theorem dL_law_12 : decode cL_law 12 = .ok (.invokespecial 12, 3) := by decide +kernel
theorem dL_law_15 : decode cL_law 15 = .ok (.astore_n 2, 1) := by decide +kernel
theorem dL_law_16 : decode cL_law 16 = .ok (.iconst 0, 1) := by decide +kernel
theorem dL_law_17 : decode cL_law 17 = .ok (.istore_n 3, 1) := by decide +kernel
theorem dL_law_18 : decode cL_law 18 = .ok (.iload_n 3, 1) := by decide +kernel
theorem dL_law_19 : decode cL_law 19 = .ok (.aload_n 0, 1) := by decide +kernel
theorem dL_law_20 : decode cL_law 20 = .ok (.arraylength, 1) := by decide +kernel
theorem dL_law_21 : decode cL_law 21 = .ok (.bipush 6, 2) := by decide +kernel
theorem dL_law_23 : decode cL_law 23 = .ok (.isub, 1) := by decide +kernel
theorem dL_law_24 : decode cL_law 24 = .ok (.if_icmp .gt 1338, 3) := by decide +kernel
theorem dL_law_27 : decode cL_law 27 = .ok (.aload_n 0, 1) := by decide +kernel
theorem dL_law_28 : decode cL_law 28 = .ok (.iload_n 3, 1) := by decide +kernel
theorem dL_law_29 : decode cL_law 29 = .ok (.iaload, 1) := by decide +kernel
theorem dL_law_30 : decode cL_law 30 = .ok (.bipush 63, 2) := by decide +kernel
theorem dL_law_32 : decode cL_law 32 = .ok (.iand, 1) := by decide +kernel
theorem dL_law_33 : decode cL_law 33 = .ok (.tableswitch 1323 0 35 #[159, 222, 245, 258, 281, 314, 357, 400, 443, 496, 529, 552, 591, 604, 637, 680, 713, 726, 759, 782, 815, 848, 881, 894, 937, 990, 1013, 1056, 1089, 1122, 1145, 1168, 1211, 1244, 1287, 1310], 159) := by decide +kernel
theorem dL_law_192 : decode cL_law 192 = .ok (.aload_n 1, 1) := by decide +kernel
theorem dL_law_193 : decode cL_law 193 = .ok (.aload_n 0, 1) := by decide +kernel
theorem dL_law_194 : decode cL_law 194 = .ok (.iload_n 3, 1) := by decide +kernel
theorem dL_law_195 : decode cL_law 195 = .ok (.iconst 1, 1) := by decide +kernel
theorem dL_law_196 : decode cL_law 196 = .ok (.iadd, 1) := by decide +kernel
theorem dL_law_197 : decode cL_law 197 = .ok (.iaload, 1) := by decide +kernel
