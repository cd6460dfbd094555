theorem dX9_spell_9 : decode cX9_spell 9 = .ok (.iload_n 2, 1) := by decide +kernel
theorem dX9_spell_10 : decode cX9_spell 10 = .ok (.invokevirtual 287, 3) := by decide +kernel
theorem dX9_spell_13 : decode cX9_spell 13 = .ok (.ifCond .ne 6, 3) := by decide +kernel
theorem dX9_spell_16 : decode cX9_spell 16 = .ok (.ldc 123, 2) := by decide +kernel
theorem dX9_spell_18 : decode cX9_spell 18 = .ok (.ireturn, 1) := by decide +kernel
theorem dX9_spell_19 : decode cX9_spell 19 = .ok (.aload_n 0, 1) := by decide +kernel
theorem dX9_spell_20 : decode cX9_spell 20 = .ok (.iload_n 1, 1) := by decide +kernel
theorem dX9_spell_21 : decode cX9_spell 21 = .ok (.iconst 1, 1) := by decide +kernel
theorem dX9_spell_22 : decode cX9_spell 22 = .ok (.invokevirtual 315, 3) := by decide +kernel
theorem dX9_spell_25 : decode cX9_spell 25 = .ok (.istore 4, 2) := by decide +kernel
theorem dX9_spell_27 : decode cX9_spell 27 = .ok (.iload 4, 2) := by decide +kernel
theorem dX9_spell_29 : decode cX9_spell 29 = .ok (.ifCond .ne 11, 3) := by decide +kernel
theorem dX9_spell_32 : decode cX9_spell 32 = .ok (.aload_n 0, 1) := by decide +kernel
theorem dX9_spell_33 : decode cX9_spell 33 = .ok (.iload_n 2, 1) := by decide +kernel
theorem dX9_spell_34 : decode cX9_spell 34 = .ok (.iconst 3, 1) := by decide +kernel
theorem dX9_spell_35 : decode cX9_spell 35 = .ok (.invokevirtual 315, 3) := by decide +kernel
theorem dX9_spell_38 : decode cX9_spell 38 = .ok (.istore 4, 2) := by decide +kernel
theorem dX9_spell_40 : decode cX9_spell 40 = .ok (.iload 4, 2) := by decide +kernel
theorem dX9_spell_42 : decode cX9_spell 42 = .ok (.ifCond .eq 10, 3) := by decide +kernel
theorem dX9_spell_45 : decode cX9_spell 45 = .ok (.aload_n 0, 1) := by decide +kernel
theorem dX9_spell_46 : decode cX9_spell 46 = .ok (.iload 4, 2) := by decide +kernel
theorem dX9_spell_48 : decode cX9_spell 48 = .ok (.invokevirtual 297, 3) := by decide +kernel
theorem dX9_spell_51 : decode cX9_spell 51 = .ok (.ireturn, 1) := by decide +kernel
theorem dX9_spell_52 : decode cX9_spell 52 = .ok (.aload_n 0, 1) := by decide +kernel
theorem dX9_spell_53 : decode cX9_spell 53 = .ok (.getfield 79, 3) := by decide +kernel
theorem dX9_spell_56 : decode cX9_spell 56 = .ok (.iload_n 2, 1) := by decide +kernel
theorem dX9_spell_57 : decode cX9_spell 57 = .ok (.aaload, 1) := by decide +kernel
theorem dX9_spell_58 : decode cX9_spell 58 = .ok (.aload_n 0, 1) := by decide +kernel
theorem dX9_spell_59 : decode cX9_spell 59 = .ok (.getfield 79, 3) := by decide +kernel
theorem dX9_spell_62 : decode cX9_spell 62 = .ok (.iload_n 1, 1) := by decide +kernel
theorem dX9_spell_63 : decode cX9_spell 63 = .ok (.aaload, 1) := by decide +kernel
theorem dX9_spell_64 : decode cX9_spell 64 = .ok (.iload_n 3, 1) := by decide +kernel
theorem dX9_spell_65 : decode cX9_spell 65 = .ok (.invokevirtual 318, 3) := by decide +kernel
theorem dX9_spell_68 : decode cX9_spell 68 = .ok (.istore 5, 2) := by decide +kernel
theorem dX9_spell_70 : decode cX9_spell 70 = .ok (.iload 5, 2) := by decide +kernel
theorem dX9_spell_72 : decode cX9_spell 72 = .ok (.aload_n 0, 1) := by decide +kernel
theorem dX9_spell_73 : decode cX9_spell 73 = .ok (.getfield 79, 3) := by decide +kernel
theorem dX9_spell_76 : decode cX9_spell 76 = .ok (.iload_n 1, 1) := by decide +kernel
theorem dX9_spell_77 : decode cX9_spell 77 = .ok (.aaload, 1) := by decide +kernel
theorem dX9_spell_78 : decode cX9_spell 78 = .ok (.getfield 322, 3) := by decide +kernel
theorem dX9_spell_81 : decode cX9_spell 81 = .ok (.if_icmp .ne 12, 3) := by decide +kernel
theorem dX9_spell_84 : decode cX9_spell 84 = .ok (.aload_n 0, 1) := by decide +kernel
theorem dX9_spell_85 : decode cX9_spell 85 = .ok (.iload 5, 2) := by decide +kernel
theorem dX9_spell_87 : decode cX9_spell 87 = .ok (.invokevirtual 303, 3) := by decide +kernel
theorem dX9_spell_90 : decode cX9_spell 90 = .ok (.goto 8, 3) := by decide +kernel
theorem dX9_spell_93 : decode cX9_spell 93 = .ok (.aload_n 0, 1) := by decide +kernel
theorem dX9_spell_94 : decode cX9_spell 94 = .ok (.iconst 3, 1) := by decide +kernel
theorem dX9_spell_95 : decode cX9_spell 95 = .ok (.invokevirtual 297, 3) := by decide +kernel
theorem dX9_spell_98 : decode cX9_spell 98 = .ok (.ireturn, 1) := by decide +kernel
theorem dX9_rate_0 : decode cX9_rate 0 = .ok (.aload_n 0, 1) := by decide +kernel
theorem dX9_rate_1 : decode cX9_rate 1 = .ok (.iload_n 1, 1) := by decide +kernel
theorem dX9_rate_2 : decode cX9_rate 2 = .ok (.invokevirtual 287, 3) := by decide +kernel
theorem dX9_rate_5 : decode cX9_rate 5 = .ok (.ifCond .ne 6, 3) := by decide +kernel
theorem dX9_rate_8 : decode cX9_rate 8 = .ok (.ldc 123, 2) := by decide +kernel
theorem dX9_rate_10 : decode cX9_rate 10 = .ok (.ireturn, 1) := by decide +kernel
theorem dX9_rate_11 : decode cX9_rate 11 = .ok (.aload_n 0, 1) := by decide +kernel
theorem dX9_rate_12 : decode cX9_rate 12 = .ok (.iload_n 1, 1) := by decide +kernel
theorem dX9_rate_13 : decode cX9_rate 13 = .ok (.iconst 2, 1) := by decide +kernel
theorem dX9_rate_14 : decode cX9_rate 14 = .ok (.invokevirtual 315, 3) := by decide +kernel
theorem dX9_rate_17 : decode cX9_rate 17 = .ok (.istore_n 2, 1) := by decide +kernel
theorem dX9_rate_18 : decode cX9_rate 18 = .ok (.iload_n 2, 1) := by decide +kernel
theorem dX9_rate_19 : decode cX9_rate 19 = .ok (.ifCond .eq 9, 3) := by decide +kernel
theorem dX9_rate_22 : decode cX9_rate 22 = .ok (.aload_n 0, 1) := by decide +kernel
theorem dX9_rate_23 : decode cX9_rate 23 = .ok (.iload_n 2, 1) := by decide +kernel
theorem dX9_rate_24 : decode cX9_rate 24 = .ok (.invokevirtual 297, 3) := by decide +kernel
theorem dX9_rate_27 : decode cX9_rate 27 = .ok (.ireturn, 1) := by decide +kernel
theorem dX9_rate_28 : decode cX9_rate 28 = .ok (.aload_n 0, 1) := by decide +kernel
theorem dX9_rate_29 : decode cX9_rate 29 = .ok (.getfield 79, 3) := by decide +kernel
theorem dX9_rate_32 : decode cX9_rate 32 = .ok (.iload_n 1, 1) := by decide +kernel
theorem dX9_rate_33 : decode cX9_rate 33 = .ok (.aaload, 1) := by decide +kernel
theorem dX9_rate_34 : decode cX9_rate 34 = .ok (.getfield 323, 3) := by decide +kernel
theorem dX9_rate_37 : decode cX9_rate 37 = .ok (.ifCond .ne 10, 3) := by decide +kernel
theorem dX9_rate_40 : decode cX9_rate 40 = .ok (.aload_n 0, 1) := by decide +kernel
theorem dX9_rate_41 : decode cX9_rate 41 = .ok (.bipush 6, 2) := by decide +kernel
theorem dX9_rate_43 : decode cX9_rate 43 = .ok (.invokevirtual 297, 3) := by decide +kernel
theorem dX9_rate_46 : decode cX9_rate 46 = .ok (.ireturn, 1) := by decide +kernel
theorem dX9_rate_47 : decode cX9_rate 47 = .ok (.aload_n 0, 1) := by decide +kernel
theorem dX9_rate_48 : decode cX9_rate 48 = .ok (.bipush 100, 2) := by decide +kernel
theorem dX9_rate_50 : decode cX9_rate 50 = .ok (.aload_n 0, 1) := by decide +kernel
theorem dX9_rate_51 : decode cX9_rate 51 = .ok (.getfield 79, 3) := by decide +kernel
theorem dX9_rate_54 : decode cX9_rate 54 = .ok (.iload_n 1, 1) := by decide +kernel
theorem dX9_rate_55 : decode cX9_rate 55 = .ok (.aaload, 1) := by decide +kernel
theorem dX9_rate_56 : decode cX9_rate 56 = .ok (.getfield 326, 3) := by decide +kernel
theorem dX9_rate_59 : decode cX9_rate 59 = .ok (.imul, 1) := by decide +kernel
theorem dX9_rate_60 : decode cX9_rate 60 = .ok (.aload_n 0, 1) := by decide +kernel
theorem dX9_rate_61 : decode cX9_rate 61 = .ok (.getfield 79, 3) := by decide +kernel
theorem dX9_rate_64 : decode cX9_rate 64 = .ok (.iload_n 1, 1) := by decide +kernel
theorem dX9_rate_65 : decode cX9_rate 65 = .ok (.aaload, 1) := by decide +kernel
theorem dX9_rate_66 : decode cX9_rate 66 = .ok (.getfield 323, 3) := by decide +kernel
theorem dX9_rate_69 : decode cX9_rate 69 = .ok (.idiv, 1) := by decide +kernel
theorem dX9_rate_70 : decode cX9_rate 70 = .ok (.invokevirtual 303, 3) := by decide +kernel
theorem dX9_rate_73 : decode cX9_rate 73 = .ok (.ireturn, 1) := by decide +kernel
theorem dX9_code_0 : decode cX9_code 0 = .ok (.aload_n 0, 1) := by decide +kernel
theorem dX9_code_1 : decode cX9_code 1 = .ok (.getfield 83, 3) := by decide +kernel
theorem dX9_code_4 : decode cX9_code 4 = .ok (.ireturn, 1) := by decide +kernel
theorem dX9_isBook_0 : decode cX9_isBook 0 = .ok (.iload_n 1, 1) := by decide +kernel
theorem dX9_isBook_1 : decode cX9_isBook 1 = .ok (.ifCond .eq 8, 3) := by decide +kernel
theorem dX9_isBook_4 : decode cX9_isBook 4 = .ok (.iload_n 1, 1) := by decide +kernel
theorem dX9_isBook_5 : decode cX9_isBook 5 = .ok (.iconst 1, 1) := by decide +kernel
theorem dX9_isBook_6 : decode cX9_isBook 6 = .ok (.if_icmp .ne 7, 3) := by decide +kernel
theorem dX9_isBook_9 : decode cX9_isBook 9 = .ok (.iconst 1, 1) := by decide +kernel
theorem dX9_isBook_10 : decode cX9_isBook 10 = .ok (.goto 4, 3) := by decide +kernel
theorem dX9_isBook_13 : decode cX9_isBook 13 = .ok (.iconst 0, 1) := by decide +kernel
theorem dX9_isBook_14 : decode cX9_isBook 14 = .ok (.ireturn, 1) := by decide +kernel
theorem dX9_isSentence_0 : decode cX9_isSentence 0 = .ok (.aload_n 0, 1) := by decide +kernel
theorem dX9_isSentence_1 : decode cX9_isSentence 1 = .ok (.iload_n 1, 1) := by decide +kernel
theorem dX9_isSentence_2 : decode cX9_isSentence 2 = .ok (.invokevirtual 119, 3) := by decide +kernel
theorem dX9_isSentence_5 : decode cX9_isSentence 5 = .ok (.ifCond .eq 21, 3) := by decide +kernel
theorem dX9_isSentence_8 : decode cX9_isSentence 8 = .ok (.aload_n 0, 1) := by decide +kernel
theorem dX9_isSentence_9 : decode cX9_isSentence 9 = .ok (.getfield 37, 3) := by decide +kernel
theorem dX9_isSentence_12 : decode cX9_isSentence 12 = .ok (.iload_n 1, 1) := by decide +kernel
theorem dX9_isSentence_13 : decode cX9_isSentence 13 = .ok (.aaload, 1) := by decide +kernel
theorem dX9_isSentence_14 : decode cX9_isSentence 14 = .ok (.iload_n 2, 1) := by decide +kernel
theorem dX9_isSentence_15 : decode cX9_isSentence 15 = .ok (.iconst 1, 1) := by decide +kernel
theorem dX9_isSentence_16 : decode cX9_isSentence 16 = .ok (.invokevirtual 215, 3) := by decide +kernel
theorem dX9_isSentence_19 : decode cX9_isSentence 19 = .ok (.ifCond .eq 7, 3) := by decide +kernel
theorem dX9_isSentence_22 : decode cX9_isSentence 22 = .ok (.iconst 1, 1) := by decide +kernel
theorem dX9_isSentence_23 : decode cX9_isSentence 23 = .ok (.goto 4, 3) := by decide +kernel
theorem dX9_isSentence_26 : decode cX9_isSentence 26 = .ok (.iconst 0, 1) := by decide +kernel
theorem dX9_isSentence_27 : decode cX9_isSentence 27 = .ok (.ireturn, 1) := by decide +kernel
theorem dX9_isWord_0 : decode cX9_isWord 0 = .ok (.aload_n 0, 1) := by decide +kernel
theorem dX9_isWord_1 : decode cX9_isWord 1 = .ok (.iload_n 1, 1) := by decide +kernel
theorem dX9_isWord_2 : decode cX9_isWord 2 = .ok (.iload_n 2, 1) := by decide +kernel
theorem dX9_isWord_3 : decode cX9_isWord 3 = .ok (.invokevirtual 151, 3) := by decide +kernel
theorem dX9_isWord_6 : decode cX9_isWord 6 = .ok (.ifCond .eq 26, 3) := by decide +kernel
theorem dX9_isWord_9 : decode cX9_isWord 9 = .ok (.iload_n 3, 1) := by decide +kernel
theorem dX9_isWord_10 : decode cX9_isWord 10 = .ok (.ifCond .lt 22, 3) := by decide +kernel
theorem dX9_isWord_13 : decode cX9_isWord 13 = .ok (.iload_n 3, 1) := by decide +kernel
theorem dX9_isWord_14 : decode cX9_isWord 14 = .ok (.aload_n 0, 1) := by decide +kernel
theorem dX9_isWord_15 : decode cX9_isWord 15 = .ok (.getfield 37, 3) := by decide +kernel
theorem dX9_isWord_18 : decode cX9_isWord 18 = .ok (.iload_n 1, 1) := by decide +kernel
theorem dX9_isWord_19 : decode cX9_isWord 19 = .ok (.aaload, 1) := by decide +kernel
theorem dX9_isWord_20 : decode cX9_isWord 20 = .ok (.getfield 155, 3) := by decide +kernel
theorem dX9_isWord_23 : decode cX9_isWord 23 = .ok (.iload_n 2, 1) := by decide +kernel
theorem dX9_isWord_24 : decode cX9_isWord 24 = .ok (.iaload, 1) := by decide +kernel
theorem dX9_isWord_25 : decode cX9_isWord 25 = .ok (.if_icmp .ge 7, 3) := by decide +kernel
theorem dX9_isWord_28 : decode cX9_isWord 28 = .ok (.iconst 1, 1) := by decide +kernel
theorem dX9_isWord_29 : decode cX9_isWord 29 = .ok (.goto 4, 3) := by decide +kernel
theorem dX9_isWord_32 : decode cX9_isWord 32 = .ok (.iconst 0, 1) := by decide +kernel
theorem dX9_isWord_33 : decode cX9_isWord 33 = .ok (.ireturn, 1) := by decide +kernel
theorem dX9_isKind_0 : decode cX9_isKind 0 = .ok (.iload_n 2, 1) := by decide +kernel
theorem dX9_isKind_1 : decode cX9_isKind 1 = .ok (.ifCond .lt 23, 3) := by decide +kernel
theorem dX9_isKind_4 : decode cX9_isKind 4 = .ok (.iload_n 2, 1) := by decide +kernel
theorem dX9_isKind_5 : decode cX9_isKind 5 = .ok (.aload_n 0, 1) := by decide +kernel
theorem dX9_isKind_6 : decode cX9_isKind 6 = .ok (.getfield 37, 3) := by decide +kernel
theorem dX9_isKind_9 : decode cX9_isKind 9 = .ok (.iload_n 1, 1) := by decide +kernel
theorem dX9_isKind_10 : decode cX9_isKind 10 = .ok (.aaload, 1) := by decide +kernel
theorem dX9_isKind_11 : decode cX9_isKind 11 = .ok (.getfield 131, 3) := by decide +kernel
theorem dX9_isKind_14 : decode cX9_isKind 14 = .ok (.getfield 116, 3) := by decide +kernel
theorem dX9_isKind_17 : decode cX9_isKind 17 = .ok (.if_icmp .ge 7, 3) := by decide +kernel
theorem dX9_isKind_20 : decode cX9_isKind 20 = .ok (.iconst 1, 1) := by decide +kernel
theorem dX9_isKind_21 : decode cX9_isKind 21 = .ok (.goto 4, 3) := by decide +kernel
theorem dX9_isKind_24 : decode cX9_isKind 24 = .ok (.iconst 0, 1) := by decide +kernel
theorem dX9_isKind_25 : decode cX9_isKind 25 = .ok (.ireturn, 1) := by decide +kernel
theorem dX9_isSlot_0 : decode cX9_isSlot 0 = .ok (.iload_n 1, 1) := by decide +kernel
theorem dX9_isSlot_1 : decode cX9_isSlot 1 = .ok (.ifCond .lt 13, 3) := by decide +kernel
theorem dX9_isSlot_4 : decode cX9_isSlot 4 = .ok (.iload_n 1, 1) := by decide +kernel
theorem dX9_isSlot_5 : decode cX9_isSlot 5 = .ok (.bipush 8, 2) := by decide +kernel
theorem dX9_isSlot_7 : decode cX9_isSlot 7 = .ok (.if_icmp .ge 7, 3) := by decide +kernel
theorem dX9_isSlot_10 : decode cX9_isSlot 10 = .ok (.iconst 1, 1) := by decide +kernel
theorem dX9_isSlot_11 : decode cX9_isSlot 11 = .ok (.goto 4, 3) := by decide +kernel
theorem dX9_isSlot_14 : decode cX9_isSlot 14 = .ok (.iconst 0, 1) := by decide +kernel
theorem dX9_isSlot_15 : decode cX9_isSlot 15 = .ok (.ireturn, 1) := by decide +kernel
theorem dX9_layAnew_0 : decode cX9_layAnew 0 = .ok (.aload_n 0, 1) := by decide +kernel
theorem dX9_layAnew_1 : decode cX9_layAnew 1 = .ok (.getfield 87, 3) := by decide +kernel
theorem dX9_layAnew_4 : decode cX9_layAnew 4 = .ok (.ifCond .eq 29, 3) := by decide +kernel
theorem dX9_layAnew_7 : decode cX9_layAnew 7 = .ok (.aload_n 0, 1) := by decide +kernel
theorem dX9_layAnew_8 : decode cX9_layAnew 8 = .ok (.getfield 64, 3) := by decide +kernel
theorem dX9_layAnew_11 : decode cX9_layAnew 11 = .ok (.invokevirtual 329, 3) := by decide +kernel
theorem dX9_layAnew_14 : decode cX9_layAnew 14 = .ok (.aload_n 0, 1) := by decide +kernel
theorem dX9_layAnew_15 : decode cX9_layAnew 15 = .ok (.getfield 64, 3) := by decide +kernel
theorem dX9_layAnew_18 : decode cX9_layAnew 18 = .ok (.invokevirtual 332, 3) := by decide +kernel
theorem dX9_layAnew_21 : decode cX9_layAnew 21 = .ok (.aload_n 0, 1) := by decide +kernel
theorem dX9_layAnew_22 : decode cX9_layAnew 22 = .ok (.getfield 64, 3) := by decide +kernel
theorem dX9_layAnew_25 : decode cX9_layAnew 25 = .ok (.invokevirtual 335, 3) := by decide +kernel
theorem dX9_layAnew_28 : decode cX9_layAnew 28 = .ok (.aload_n 0, 1) := by decide +kernel
theorem dX9_layAnew_29 : decode cX9_layAnew 29 = .ok (.iconst 0, 1) := by decide +kernel
theorem dX9_layAnew_30 : decode cX9_layAnew 30 = .ok (.putfield 87, 3) := by decide +kernel
theorem dX9_layAnew_33 : decode cX9_layAnew 33 = .ok (.return_, 1) := by decide +kernel
theorem dX9_playRound_0 : decode cX9_playRound 0 = .ok (.aload_n 0, 1) := by decide +kernel
theorem dX9_playRound_1 : decode cX9_playRound 1 = .ok (.getfield 55, 3) := by decide +kernel
theorem dX9_playRound_4 : decode cX9_playRound 4 = .ok (.invokevirtual 338, 3) := by decide +kernel
theorem dX9_playRound_7 : decode cX9_playRound 7 = .ok (.iconst 0, 1) := by decide +kernel
theorem dX9_playRound_8 : decode cX9_playRound 8 = .ok (.istore_n 1, 1) := by decide +kernel
theorem dX9_playRound_9 : decode cX9_playRound 9 = .ok (.iload_n 1, 1) := by decide +kernel
theorem dX9_playRound_10 : decode cX9_playRound 10 = .ok (.aload_n 0, 1) := by decide +kernel
theorem dX9_playRound_11 : decode cX9_playRound 11 = .ok (.getfield 64, 3) := by decide +kernel
theorem dX9_playRound_14 : decode cX9_playRound 14 = .ok (.getfield 194, 3) := by decide +kernel
theorem dX9_playRound_17 : decode cX9_playRound 17 = .ok (.if_icmp .ge 14, 3) := by decide +kernel
theorem dX9_playRound_20 : decode cX9_playRound 20 = .ok (.aload_n 0, 1) := by decide +kernel
theorem dX9_playRound_21 : decode cX9_playRound 21 = .ok (.iload_n 1, 1) := by decide +kernel
theorem dX9_playRound_22 : decode cX9_playRound 22 = .ok (.invokevirtual 341, 3) := by decide +kernel
theorem dX9_playRound_25 : decode cX9_playRound 25 = .ok (.iinc 1 1, 3) := by decide +kernel
theorem dX9_playRound_28 : decode cX9_playRound 28 = .ok (.goto (-19), 3) := by decide +kernel
theorem dX9_playRound_31 : decode cX9_playRound 31 = .ok (.aload_n 0, 1) := by decide +kernel
theorem dX9_playRound_32 : decode cX9_playRound 32 = .ok (.getfield 55, 3) := by decide +kernel
theorem dX9_playRound_35 : decode cX9_playRound 35 = .ok (.invokevirtual 344, 3) := by decide +kernel
theorem dX9_playRound_38 : decode cX9_playRound 38 = .ok (.aload_n 0, 1) := by decide +kernel
theorem dX9_playRound_39 : decode cX9_playRound 39 = .ok (.iconst 1, 1) := by decide +kernel
theorem dX9_playRound_40 : decode cX9_playRound 40 = .ok (.putfield 87, 3) := by decide +kernel
theorem dX9_playRound_43 : decode cX9_playRound 43 = .ok (.return_, 1) := by decide +kernel
theorem dX9_dealJoint_0 : decode cX9_dealJoint 0 = .ok (.aload_n 0, 1) := by decide +kernel
theorem dX9_dealJoint_1 : decode cX9_dealJoint 1 = .ok (.getfield 64, 3) := by decide +kernel
theorem dX9_dealJoint_4 : decode cX9_dealJoint 4 = .ok (.getfield 200, 3) := by decide +kernel
theorem dX9_dealJoint_7 : decode cX9_dealJoint 7 = .ok (.iload_n 1, 1) := by decide +kernel
theorem dX9_dealJoint_8 : decode cX9_dealJoint 8 = .ok (.iaload, 1) := by decide +kernel
theorem dX9_dealJoint_9 : decode cX9_dealJoint 9 = .ok (.istore_n 2, 1) := by decide +kernel
theorem dX9_dealJoint_10 : decode cX9_dealJoint 10 = .ok (.aload_n 0, 1) := by decide +kernel
theorem dX9_dealJoint_11 : decode cX9_dealJoint 11 = .ok (.getfield 64, 3) := by decide +kernel
theorem dX9_dealJoint_14 : decode cX9_dealJoint 14 = .ok (.getfield 203, 3) := by decide +kernel
theorem dX9_dealJoint_17 : decode cX9_dealJoint 17 = .ok (.iload_n 1, 1) := by decide +kernel
theorem dX9_dealJoint_18 : decode cX9_dealJoint 18 = .ok (.iaload, 1) := by decide +kernel
theorem dX9_dealJoint_19 : decode cX9_dealJoint 19 = .ok (.istore_n 3, 1) := by decide +kernel
theorem dX9_dealJoint_20 : decode cX9_dealJoint 20 = .ok (.aload_n 0, 1) := by decide +kernel
theorem dX9_dealJoint_21 : decode cX9_dealJoint 21 = .ok (.getfield 64, 3) := by decide +kernel
theorem dX9_dealJoint_24 : decode cX9_dealJoint 24 = .ok (.getfield 206, 3) := by decide +kernel
theorem dX9_dealJoint_27 : decode cX9_dealJoint 27 = .ok (.iload_n 1, 1) := by decide +kernel
theorem dX9_dealJoint_28 : decode cX9_dealJoint 28 = .ok (.iaload, 1) := by decide +kernel
theorem dX9_dealJoint_29 : decode cX9_dealJoint 29 = .ok (.istore 4, 2) := by decide +kernel
theorem dX9_dealJoint_31 : decode cX9_dealJoint 31 = .ok (.iload_n 2, 1) := by decide +kernel
theorem dX9_dealJoint_32 : decode cX9_dealJoint 32 = .ok (.bipush 6, 2) := by decide +kernel
theorem dX9_dealJoint_34 : decode cX9_dealJoint 34 = .ok (.if_icmp .ne 58, 3) := by decide +kernel
theorem dX9_dealJoint_37 : decode cX9_dealJoint 37 = .ok (.aload_n 0, 1) := by decide +kernel
theorem dX9_dealJoint_38 : decode cX9_dealJoint 38 = .ok (.getfield 55, 3) := by decide +kernel
theorem dX9_dealJoint_41 : decode cX9_dealJoint 41 = .ok (.aload_n 0, 1) := by decide +kernel
theorem dX9_dealJoint_42 : decode cX9_dealJoint 42 = .ok (.getfield 37, 3) := by decide +kernel
theorem dX9_dealJoint_45 : decode cX9_dealJoint 45 = .ok (.iconst 0, 1) := by decide +kernel
theorem dX9_dealJoint_46 : decode cX9_dealJoint 46 = .ok (.aaload, 1) := by decide +kernel
theorem dX9_dealJoint_47 : decode cX9_dealJoint 47 = .ok (.iload_n 3, 1) := by decide +kernel
theorem dX9_dealJoint_48 : decode cX9_dealJoint 48 = .ok (.iconst 1, 1) := by decide +kernel
theorem dX9_dealJoint_49 : decode cX9_dealJoint 49 = .ok (.aload_n 0, 1) := by decide +kernel
theorem dX9_dealJoint_50 : decode cX9_dealJoint 50 = .ok (.getfield 37, 3) := by decide +kernel
theorem dX9_dealJoint_53 : decode cX9_dealJoint 53 = .ok (.iconst 1, 1) := by decide +kernel
theorem dX9_dealJoint_54 : decode cX9_dealJoint 54 = .ok (.aaload, 1) := by decide +kernel
theorem dX9_dealJoint_55 : decode cX9_dealJoint 55 = .ok (.iload 4, 2) := by decide +kernel
theorem dX9_dealJoint_57 : decode cX9_dealJoint 57 = .ok (.iconst 1, 1) := by decide +kernel
theorem dX9_dealJoint_58 : decode cX9_dealJoint 58 = .ok (.iadd, 1) := by decide +kernel
theorem dX9_dealJoint_59 : decode cX9_dealJoint 59 = .ok (.iconst 1, 1) := by decide +kernel
theorem dX9_dealJoint_60 : decode cX9_dealJoint 60 = .ok (.invokevirtual 347, 3) := by decide +kernel
theorem dX9_dealJoint_63 : decode cX9_dealJoint 63 = .ok (.aload_n 0, 1) := by decide +kernel
theorem dX9_dealJoint_64 : decode cX9_dealJoint 64 = .ok (.getfield 55, 3) := by decide +kernel
theorem dX9_dealJoint_67 : decode cX9_dealJoint 67 = .ok (.aload_n 0, 1) := by decide +kernel
theorem dX9_dealJoint_68 : decode cX9_dealJoint 68 = .ok (.getfield 37, 3) := by decide +kernel
theorem dX9_dealJoint_71 : decode cX9_dealJoint 71 = .ok (.iconst 0, 1) := by decide +kernel
theorem dX9_dealJoint_72 : decode cX9_dealJoint 72 = .ok (.aaload, 1) := by decide +kernel
theorem dX9_dealJoint_73 : decode cX9_dealJoint 73 = .ok (.iload_n 3, 1) := by decide +kernel
theorem dX9_dealJoint_74 : decode cX9_dealJoint 74 = .ok (.iconst 1, 1) := by decide +kernel
theorem dX9_dealJoint_75 : decode cX9_dealJoint 75 = .ok (.iadd, 1) := by decide +kernel
theorem dX9_dealJoint_76 : decode cX9_dealJoint 76 = .ok (.iconst 1, 1) := by decide +kernel
theorem dX9_dealJoint_77 : decode cX9_dealJoint 77 = .ok (.aload_n 0, 1) := by decide +kernel
theorem dX9_dealJoint_78 : decode cX9_dealJoint 78 = .ok (.getfield 37, 3) := by decide +kernel
theorem dX9_dealJoint_81 : decode cX9_dealJoint 81 = .ok (.iconst 1, 1) := by decide +kernel
theorem dX9_dealJoint_82 : decode cX9_dealJoint 82 = .ok (.aaload, 1) := by decide +kernel
theorem dX9_dealJoint_83 : decode cX9_dealJoint 83 = .ok (.iload 4, 2) := by decide +kernel
theorem dX9_dealJoint_85 : decode cX9_dealJoint 85 = .ok (.iconst 1, 1) := by decide +kernel
theorem dX9_dealJoint_86 : decode cX9_dealJoint 86 = .ok (.invokevirtual 347, 3) := by decide +kernel
theorem dX9_dealJoint_89 : decode cX9_dealJoint 89 = .ok (.goto 42, 3) := by decide +kernel
theorem dX9_dealJoint_92 : decode cX9_dealJoint 92 = .ok (.iload_n 2, 1) := by decide +kernel
theorem dX9_dealJoint_93 : decode cX9_dealJoint 93 = .ok (.invokestatic 351, 3) := by decide +kernel
theorem dX9_dealJoint_96 : decode cX9_dealJoint 96 = .ok (.ifCond .eq 35, 3) := by decide +kernel
theorem dX9_dealJoint_99 : decode cX9_dealJoint 99 = .ok (.aload_n 0, 1) := by decide +kernel
theorem dX9_dealJoint_100 : decode cX9_dealJoint 100 = .ok (.getfield 55, 3) := by decide +kernel
theorem dX9_dealJoint_103 : decode cX9_dealJoint 103 = .ok (.aload_n 0, 1) := by decide +kernel
theorem dX9_dealJoint_104 : decode cX9_dealJoint 104 = .ok (.getfield 37, 3) := by decide +kernel
theorem dX9_dealJoint_107 : decode cX9_dealJoint 107 = .ok (.iconst 0, 1) := by decide +kernel
theorem dX9_dealJoint_108 : decode cX9_dealJoint 108 = .ok (.aaload, 1) := by decide +kernel
theorem dX9_dealJoint_109 : decode cX9_dealJoint 109 = .ok (.iload_n 3, 1) := by decide +kernel
theorem dX9_dealJoint_110 : decode cX9_dealJoint 110 = .ok (.getstatic 212, 3) := by decide +kernel
theorem dX9_dealJoint_113 : decode cX9_dealJoint 113 = .ok (.iload_n 2, 1) := by decide +kernel
theorem dX9_dealJoint_114 : decode cX9_dealJoint 114 = .ok (.iaload, 1) := by decide +kernel
theorem dX9_dealJoint_115 : decode cX9_dealJoint 115 = .ok (.aload_n 0, 1) := by decide +kernel
theorem dX9_dealJoint_116 : decode cX9_dealJoint 116 = .ok (.getfield 37, 3) := by decide +kernel
theorem dX9_dealJoint_119 : decode cX9_dealJoint 119 = .ok (.iconst 1, 1) := by decide +kernel
theorem dX9_dealJoint_120 : decode cX9_dealJoint 120 = .ok (.aaload, 1) := by decide +kernel
theorem dX9_dealJoint_121 : decode cX9_dealJoint 121 = .ok (.iload 4, 2) := by decide +kernel
theorem dX9_dealJoint_123 : decode cX9_dealJoint 123 = .ok (.getstatic 218, 3) := by decide +kernel
theorem dX9_dealJoint_126 : decode cX9_dealJoint 126 = .ok (.iload_n 2, 1) := by decide +kernel
theorem dX9_dealJoint_127 : decode cX9_dealJoint 127 = .ok (.iaload, 1) := by decide +kernel
theorem dX9_dealJoint_128 : decode cX9_dealJoint 128 = .ok (.invokevirtual 347, 3) := by decide +kernel
theorem dX9_dealJoint_131 : decode cX9_dealJoint 131 = .ok (.return_, 1) := by decide +kernel
theorem dX9_breaksTerm_0 : decode cX9_breaksTerm 0 = .ok (.aload_n 0, 1) := by decide +kernel
theorem dX9_breaksTerm_1 : decode cX9_breaksTerm 1 = .ok (.getfield 64, 3) := by decide +kernel
theorem dX9_breaksTerm_4 : decode cX9_breaksTerm 4 = .ok (.getfield 200, 3) := by decide +kernel
theorem dX9_breaksTerm_7 : decode cX9_breaksTerm 7 = .ok (.iload_n 1, 1) := by decide +kernel
theorem dX9_breaksTerm_8 : decode cX9_breaksTerm 8 = .ok (.iaload, 1) := by decide +kernel
theorem dX9_breaksTerm_9 : decode cX9_breaksTerm 9 = .ok (.istore_n 2, 1) := by decide +kernel
theorem dX9_breaksTerm_10 : decode cX9_breaksTerm 10 = .ok (.iload_n 2, 1) := by decide +kernel
theorem dX9_breaksTerm_11 : decode cX9_breaksTerm 11 = .ok (.invokestatic 351, 3) := by decide +kernel
theorem dX9_breaksTerm_14 : decode cX9_breaksTerm 14 = .ok (.ifCond .ne 5, 3) := by decide +kernel
theorem dX9_breaksTerm_17 : decode cX9_breaksTerm 17 = .ok (.iconst 0, 1) := by decide +kernel
theorem dX9_breaksTerm_18 : decode cX9_breaksTerm 18 = .ok (.ireturn, 1) := by decide +kernel
theorem dX9_breaksTerm_19 : decode cX9_breaksTerm 19 = .ok (.aload_n 0, 1) := by decide +kernel
theorem dX9_breaksTerm_20 : decode cX9_breaksTerm 20 = .ok (.getfield 37, 3) := by decide +kernel
theorem dX9_breaksTerm_23 : decode cX9_breaksTerm 23 = .ok (.iconst 1, 1) := by decide +kernel
theorem dX9_breaksTerm_24 : decode cX9_breaksTerm 24 = .ok (.aaload, 1) := by decide +kernel
theorem dX9_breaksTerm_25 : decode cX9_breaksTerm 25 = .ok (.aload_n 0, 1) := by decide +kernel
theorem dX9_breaksTerm_26 : decode cX9_breaksTerm 26 = .ok (.getfield 64, 3) := by decide +kernel
theorem dX9_breaksTerm_29 : decode cX9_breaksTerm 29 = .ok (.getfield 206, 3) := by decide +kernel
theorem dX9_breaksTerm_32 : decode cX9_breaksTerm 32 = .ok (.iload_n 1, 1) := by decide +kernel
theorem dX9_breaksTerm_33 : decode cX9_breaksTerm 33 = .ok (.iaload, 1) := by decide +kernel
theorem dX9_breaksTerm_34 : decode cX9_breaksTerm 34 = .ok (.getstatic 218, 3) := by decide +kernel
theorem dX9_breaksTerm_37 : decode cX9_breaksTerm 37 = .ok (.iload_n 2, 1) := by decide +kernel
theorem dX9_breaksTerm_38 : decode cX9_breaksTerm 38 = .ok (.iaload, 1) := by decide +kernel
theorem dX9_breaksTerm_39 : decode cX9_breaksTerm 39 = .ok (.invokevirtual 354, 3) := by decide +kernel
theorem dX9_breaksTerm_42 : decode cX9_breaksTerm 42 = .ok (.lstore_n 3, 1) := by decide +kernel
theorem dX9_breaksTerm_43 : decode cX9_breaksTerm 43 = .ok (.aload_n 0, 1) := by decide +kernel
theorem dX9_breaksTerm_44 : decode cX9_breaksTerm 44 = .ok (.getfield 64, 3) := by decide +kernel
theorem dX9_breaksTerm_47 : decode cX9_breaksTerm 47 = .ok (.getfield 203, 3) := by decide +kernel
theorem dX9_breaksTerm_50 : decode cX9_breaksTerm 50 = .ok (.iload_n 1, 1) := by decide +kernel
theorem dX9_breaksTerm_51 : decode cX9_breaksTerm 51 = .ok (.iaload, 1) := by decide +kernel
theorem dX9_breaksTerm_52 : decode cX9_breaksTerm 52 = .ok (.istore 5, 2) := by decide +kernel
theorem dX9_breaksTerm_54 : decode cX9_breaksTerm 54 = .ok (.iload 5, 2) := by decide +kernel
theorem dX9_breaksTerm_56 : decode cX9_breaksTerm 56 = .ok (.istore 6, 2) := by decide +kernel
theorem dX9_breaksTerm_58 : decode cX9_breaksTerm 58 = .ok (.iload 6, 2) := by decide +kernel
theorem dX9_breaksTerm_60 : decode cX9_breaksTerm 60 = .ok (.iload 5, 2) := by decide +kernel
theorem dX9_breaksTerm_62 : decode cX9_breaksTerm 62 = .ok (.getstatic 212, 3) := by decide +kernel
theorem dX9_breaksTerm_65 : decode cX9_breaksTerm 65 = .ok (.iload_n 2, 1) := by decide +kernel
theorem dX9_breaksTerm_66 : decode cX9_breaksTerm 66 = .ok (.iaload, 1) := by decide +kernel
theorem dX9_breaksTerm_67 : decode cX9_breaksTerm 67 = .ok (.iadd, 1) := by decide +kernel
theorem dX9_breaksTerm_68 : decode cX9_breaksTerm 68 = .ok (.if_icmp .ge 79, 3) := by decide +kernel
theorem dX9_breaksTerm_71 : decode cX9_breaksTerm 71 = .ok (.iconst 0, 1) := by decide +kernel
theorem dX9_breaksTerm_72 : decode cX9_breaksTerm 72 = .ok (.istore 7, 2) := by decide +kernel
theorem dX9_breaksTerm_74 : decode cX9_breaksTerm 74 = .ok (.iload 7, 2) := by decide +kernel
theorem dX9_breaksTerm_76 : decode cX9_breaksTerm 76 = .ok (.aload_n 0, 1) := by decide +kernel
theorem dX9_breaksTerm_77 : decode cX9_breaksTerm 77 = .ok (.getfield 37, 3) := by decide +kernel
theorem dX9_breaksTerm_80 : decode cX9_breaksTerm 80 = .ok (.iconst 0, 1) := by decide +kernel
theorem dX9_breaksTerm_81 : decode cX9_breaksTerm 81 = .ok (.aaload, 1) := by decide +kernel
theorem dX9_breaksTerm_82 : decode cX9_breaksTerm 82 = .ok (.getfield 155, 3) := by decide +kernel
theorem dX9_breaksTerm_85 : decode cX9_breaksTerm 85 = .ok (.iload 6, 2) := by decide +kernel
theorem dX9_breaksTerm_87 : decode cX9_breaksTerm 87 = .ok (.iaload, 1) := by decide +kernel
theorem dX9_breaksTerm_88 : decode cX9_breaksTerm 88 = .ok (.if_icmp .ge 53, 3) := by decide +kernel
theorem dX9_breaksTerm_91 : decode cX9_breaksTerm 91 = .ok (.aload_n 0, 1) := by decide +kernel
theorem dX9_breaksTerm_92 : decode cX9_breaksTerm 92 = .ok (.getfield 55, 3) := by decide +kernel
theorem dX9_breaksTerm_95 : decode cX9_breaksTerm 95 = .ok (.getfield 248, 3) := by decide +kernel
theorem dX9_breaksTerm_98 : decode cX9_breaksTerm 98 = .ok (.aload_n 0, 1) := by decide +kernel
theorem dX9_breaksTerm_99 : decode cX9_breaksTerm 99 = .ok (.getfield 37, 3) := by decide +kernel
theorem dX9_breaksTerm_102 : decode cX9_breaksTerm 102 = .ok (.iconst 0, 1) := by decide +kernel
theorem dX9_breaksTerm_103 : decode cX9_breaksTerm 103 = .ok (.aaload, 1) := by decide +kernel
theorem dX9_breaksTerm_104 : decode cX9_breaksTerm 104 = .ok (.getfield 166, 3) := by decide +kernel
theorem dX9_breaksTerm_107 : decode cX9_breaksTerm 107 = .ok (.iload 6, 2) := by decide +kernel
theorem dX9_breaksTerm_109 : decode cX9_breaksTerm 109 = .ok (.aaload, 1) := by decide +kernel
theorem dX9_breaksTerm_110 : decode cX9_breaksTerm 110 = .ok (.iload 7, 2) := by decide +kernel
theorem dX9_breaksTerm_112 : decode cX9_breaksTerm 112 = .ok (.iaload, 1) := by decide +kernel
theorem dX9_breaksTerm_113 : decode cX9_breaksTerm 113 = .ok (.iaload, 1) := by decide +kernel
theorem dX9_breaksTerm_114 : decode cX9_breaksTerm 114 = .ok (.istore 8, 2) := by decide +kernel
theorem dX9_breaksTerm_116 : decode cX9_breaksTerm 116 = .ok (.iload 8, 2) := by decide +kernel
theorem dX9_breaksTerm_118 : decode cX9_breaksTerm 118 = .ok (.iconst (-1), 1) := by decide +kernel
theorem dX9_breaksTerm_119 : decode cX9_breaksTerm 119 = .ok (.if_icmp .eq 16, 3) := by decide +kernel
theorem dX9_breaksTerm_122 : decode cX9_breaksTerm 122 = .ok (.lload_n 3, 1) := by decide +kernel
theorem dX9_breaksTerm_123 : decode cX9_breaksTerm 123 = .ok (.iload 8, 2) := by decide +kernel
theorem dX9_breaksTerm_125 : decode cX9_breaksTerm 125 = .ok (.lushr, 1) := by decide +kernel
theorem dX9_breaksTerm_126 : decode cX9_breaksTerm 126 = .ok (.lconst 1, 1) := by decide +kernel
theorem dX9_breaksTerm_127 : decode cX9_breaksTerm 127 = .ok (.land, 1) := by decide +kernel
theorem dX9_breaksTerm_128 : decode cX9_breaksTerm 128 = .ok (.lconst 0, 1) := by decide +kernel
theorem dX9_breaksTerm_129 : decode cX9_breaksTerm 129 = .ok (.lcmp, 1) := by decide +kernel
theorem dX9_breaksTerm_130 : decode cX9_breaksTerm 130 = .ok (.ifCond .ne 5, 3) := by decide +kernel
theorem dX9_breaksTerm_133 : decode cX9_breaksTerm 133 = .ok (.iconst 1, 1) := by decide +kernel
theorem dX9_breaksTerm_134 : decode cX9_breaksTerm 134 = .ok (.ireturn, 1) := by decide +kernel
theorem dX9_breaksTerm_135 : decode cX9_breaksTerm 135 = .ok (.iinc 7 1, 3) := by decide +kernel
theorem dX9_breaksTerm_138 : decode cX9_breaksTerm 138 = .ok (.goto (-64), 3) := by decide +kernel
theorem dX9_breaksTerm_141 : decode cX9_breaksTerm 141 = .ok (.iinc 6 1, 3) := by decide +kernel
theorem dX9_breaksTerm_144 : decode cX9_breaksTerm 144 = .ok (.goto (-86), 3) := by decide +kernel
theorem dX9_breaksTerm_147 : decode cX9_breaksTerm 147 = .ok (.iconst 0, 1) := by decide +kernel
theorem dX9_breaksTerm_148 : decode cX9_breaksTerm 148 = .ok (.ireturn, 1) := by decide +kernel
theorem dX9_isLinkable_0 : decode cX9_isLinkable 0 = .ok (.aload_n 0, 1) := by decide +kernel
theorem dX9_isLinkable_1 : decode cX9_isLinkable 1 = .ok (.getfield 64, 3) := by decide +kernel
theorem dX9_isLinkable_4 : decode cX9_isLinkable 4 = .ok (.getfield 200, 3) := by decide +kernel
theorem dX9_isLinkable_7 : decode cX9_isLinkable 7 = .ok (.iload_n 1, 1) := by decide +kernel
theorem dX9_isLinkable_8 : decode cX9_isLinkable 8 = .ok (.iaload, 1) := by decide +kernel
theorem dX9_isLinkable_9 : decode cX9_isLinkable 9 = .ok (.invokestatic 351, 3) := by decide +kernel
theorem dX9_isLinkable_12 : decode cX9_isLinkable 12 = .ok (.ifCond .eq 21, 3) := by decide +kernel
theorem dX9_isLinkable_15 : decode cX9_isLinkable 15 = .ok (.aload_n 0, 1) := by decide +kernel
theorem dX9_isLinkable_16 : decode cX9_isLinkable 16 = .ok (.getfield 64, 3) := by decide +kernel
theorem dX9_isLinkable_19 : decode cX9_isLinkable 19 = .ok (.getfield 200, 3) := by decide +kernel
theorem dX9_isLinkable_22 : decode cX9_isLinkable 22 = .ok (.iload_n 1, 1) := by decide +kernel
theorem dX9_isLinkable_23 : decode cX9_isLinkable 23 = .ok (.iaload, 1) := by decide +kernel
theorem dX9_isLinkable_24 : decode cX9_isLinkable 24 = .ok (.bipush 6, 2) := by decide +kernel
theorem dX9_isLinkable_26 : decode cX9_isLinkable 26 = .ok (.if_icmp .eq 7, 3) := by decide +kernel
theorem dX9_isLinkable_29 : decode cX9_isLinkable 29 = .ok (.iconst 1, 1) := by decide +kernel
theorem dX9_isLinkable_30 : decode cX9_isLinkable 30 = .ok (.goto 4, 3) := by decide +kernel
theorem dX9_isLinkable_33 : decode cX9_isLinkable 33 = .ok (.iconst 0, 1) := by decide +kernel
theorem dX9_isLinkable_34 : decode cX9_isLinkable 34 = .ok (.ireturn, 1) := by decide +kernel
theorem dX9_hasBothSides_0 : decode cX9_hasBothSides 0 = .ok (.iload_n 0, 1) := by decide +kernel
theorem dX9_hasBothSides_1 : decode cX9_hasBothSides 1 = .ok (.iconst 1, 1) := by decide +kernel
theorem dX9_hasBothSides_2 : decode cX9_hasBothSides 2 = .ok (.if_icmp .eq 12, 3) := by decide +kernel
theorem dX9_hasBothSides_5 : decode cX9_hasBothSides 5 = .ok (.iload_n 0, 1) := by decide +kernel
theorem dX9_hasBothSides_6 : decode cX9_hasBothSides 6 = .ok (.iconst 2, 1) := by decide +kernel
theorem dX9_hasBothSides_7 : decode cX9_hasBothSides 7 = .ok (.if_icmp .eq 7, 3) := by decide +kernel
theorem dX9_hasBothSides_10 : decode cX9_hasBothSides 10 = .ok (.iconst 1, 1) := by decide +kernel
theorem dX9_hasBothSides_11 : decode cX9_hasBothSides 11 = .ok (.goto 4, 3) := by decide +kernel
theorem dX9_hasBothSides_14 : decode cX9_hasBothSides 14 = .ok (.iconst 0, 1) := by decide +kernel
theorem dX9_hasBothSides_15 : decode cX9_hasBothSides 15 = .ok (.ireturn, 1) := by decide +kernel
theorem dX9_meet_0 : decode cX9_meet 0 = .ok (.aload_n 0, 1) := by decide +kernel
theorem dX9_meet_1 : decode cX9_meet 1 = .ok (.iload_n 1, 1) := by decide +kernel
theorem dX9_meet_2 : decode cX9_meet 2 = .ok (.putfield 83, 3) := by decide +kernel
theorem dX9_meet_5 : decode cX9_meet 5 = .ok (.iconst 0, 1) := by decide +kernel
theorem dX9_meet_6 : decode cX9_meet 6 = .ok (.ireturn, 1) := by decide +kernel
theorem dX9_fine_0 : decode cX9_fine 0 = .ok (.aload_n 0, 1) := by decide +kernel
theorem dX9_fine_1 : decode cX9_fine 1 = .ok (.iconst 0, 1) := by decide +kernel
theorem dX9_fine_2 : decode cX9_fine 2 = .ok (.putfield 83, 3) := by decide +kernel
theorem dX9_fine_5 : decode cX9_fine 5 = .ok (.iload_n 1, 1) := by decide +kernel
theorem dX9_fine_6 : decode cX9_fine 6 = .ok (.ireturn, 1) := by decide +kernel
theorem dX9_sortCode_0 : decode cX9_sortCode 0 = .ok (.aload_n 0, 1) := by decide +kernel
theorem dX9_sortCode_1 : decode cX9_sortCode 1 = .ok (.getfield 79, 3) := by decide +kernel
theorem dX9_sortCode_4 : decode cX9_sortCode 4 = .ok (.iload_n 1, 1) := by decide +kernel
theorem dX9_sortCode_5 : decode cX9_sortCode 5 = .ok (.aaload, 1) := by decide +kernel
theorem dX9_sortCode_6 : decode cX9_sortCode 6 = .ok (.getfield 306, 3) := by decide +kernel
theorem dX9_sortCode_9 : decode cX9_sortCode 9 = .ok (.ifCond .ne 5, 3) := by decide +kernel
theorem dX9_sortCode_12 : decode cX9_sortCode 12 = .ok (.iconst 1, 1) := by decide +kernel
theorem dX9_sortCode_13 : decode cX9_sortCode 13 = .ok (.ireturn, 1) := by decide +kernel
theorem dX9_sortCode_14 : decode cX9_sortCode 14 = .ok (.aload_n 0, 1) := by decide +kernel
theorem dX9_sortCode_15 : decode cX9_sortCode 15 = .ok (.getfield 79, 3) := by decide +kernel
theorem dX9_sortCode_18 : decode cX9_sortCode 18 = .ok (.iload_n 1, 1) := by decide +kernel
theorem dX9_sortCode_19 : decode cX9_sortCode 19 = .ok (.aaload, 1) := by decide +kernel
theorem dX9_sortCode_20 : decode cX9_sortCode 20 = .ok (.getfield 306, 3) := by decide +kernel
theorem dX9_sortCode_23 : decode cX9_sortCode 23 = .ok (.iload_n 2, 1) := by decide +kernel
theorem dX9_sortCode_24 : decode cX9_sortCode 24 = .ok (.if_icmp .ne 7, 3) := by decide +kernel
theorem dX9_sortCode_27 : decode cX9_sortCode 27 = .ok (.iconst 0, 1) := by decide +kernel
theorem dX9_sortCode_28 : decode cX9_sortCode 28 = .ok (.goto 4, 3) := by decide +kernel
theorem dX9_sortCode_31 : decode cX9_sortCode 31 = .ok (.iconst 2, 1) := by decide +kernel
theorem dX9_sortCode_32 : decode cX9_sortCode 32 = .ok (.ireturn, 1) := by decide +kernel
theorem dX9_placeCode_0 : decode cX9_placeCode 0 = .ok (.aload_n 0, 1) := by decide +kernel
theorem dX9_placeCode_1 : decode cX9_placeCode 1 = .ok (.iload_n 1, 1) := by decide +kernel
theorem dX9_placeCode_2 : decode cX9_placeCode 2 = .ok (.iconst 3, 1) := by decide +kernel
theorem dX9_placeCode_3 : decode cX9_placeCode 3 = .ok (.invokevirtual 315, 3) := by decide +kernel
theorem dX9_placeCode_6 : decode cX9_placeCode 6 = .ok (.istore_n 3, 1) := by decide +kernel
theorem dX9_placeCode_7 : decode cX9_placeCode 7 = .ok (.iload_n 3, 1) := by decide +kernel
theorem dX9_placeCode_8 : decode cX9_placeCode 8 = .ok (.ifCond .eq 5, 3) := by decide +kernel
theorem dX9_placeCode_11 : decode cX9_placeCode 11 = .ok (.iload_n 3, 1) := by decide +kernel
theorem dX9_placeCode_12 : decode cX9_placeCode 12 = .ok (.ireturn, 1) := by decide +kernel
theorem dX9_placeCode_13 : decode cX9_placeCode 13 = .ok (.iload_n 2, 1) := by decide +kernel
theorem dX9_placeCode_14 : decode cX9_placeCode 14 = .ok (.ifCond .lt 20, 3) := by decide +kernel
theorem dX9_placeCode_17 : decode cX9_placeCode 17 = .ok (.iload_n 2, 1) := by decide +kernel
theorem dX9_placeCode_18 : decode cX9_placeCode 18 = .ok (.aload_n 0, 1) := by decide +kernel
theorem dX9_placeCode_19 : decode cX9_placeCode 19 = .ok (.getfield 79, 3) := by decide +kernel
theorem dX9_placeCode_22 : decode cX9_placeCode 22 = .ok (.iload_n 1, 1) := by decide +kernel
theorem dX9_placeCode_23 : decode cX9_placeCode 23 = .ok (.aaload, 1) := by decide +kernel
theorem dX9_placeCode_24 : decode cX9_placeCode 24 = .ok (.getfield 322, 3) := by decide +kernel
theorem dX9_placeCode_27 : decode cX9_placeCode 27 = .ok (.if_icmp .ge 7, 3) := by decide +kernel
theorem dX9_placeCode_30 : decode cX9_placeCode 30 = .ok (.iconst 0, 1) := by decide +kernel
theorem dX9_placeCode_31 : decode cX9_placeCode 31 = .ok (.goto 4, 3) := by decide +kernel
theorem dX9_placeCode_34 : decode cX9_placeCode 34 = .ok (.iconst 3, 1) := by decide +kernel
theorem dX9_placeCode_35 : decode cX9_placeCode 35 = .ok (.ireturn, 1) := by decide +kernel
theorem dX10_init_0 : decode cX10_init 0 = .ok (.aload_n 0, 1) := by decide +kernel
theorem dX10_init_1 : decode cX10_init 1 = .ok (.invokespecial 1, 3) := by decide +kernel
theorem dX10_init_4 : decode cX10_init 4 = .ok (.aload_n 0, 1) := by decide +kernel
theorem dX10_init_5 : decode cX10_init 5 = .ok (.sipush 1600, 3) := by decide +kernel
theorem dX10_init_8 : decode cX10_init 8 = .ok (.newarray .int, 2) := by decide +kernel
theorem dX10_init_10 : decode cX10_init 10 = .ok (.putfield 7, 3) := by decide +kernel
theorem dX10_init_13 : decode cX10_init 13 = .ok (.aload_n 0, 1) := by decide +kernel
theorem dX10_init_14 : decode cX10_init 14 = .ok (.bipush 60, 2) := by decide +kernel
theorem dX10_init_16 : decode cX10_init 16 = .ok (.newarray .int, 2) := by decide +kernel
theorem dX10_init_18 : decode cX10_init 18 = .ok (.putfield 13, 3) := by decide +kernel
theorem dX10_init_21 : decode cX10_init 21 = .ok (.aload_n 0, 1) := by decide +kernel
theorem dX10_init_22 : decode cX10_init 22 = .ok (.bipush 6, 2) := by decide +kernel
theorem dX10_init_24 : decode cX10_init 24 = .ok (.newarray .int, 2) := by decide +kernel
theorem dX10_init_26 : decode cX10_init 26 = .ok (.putfield 16, 3) := by decide +kernel
theorem dX10_init_29 : decode cX10_init 29 = .ok (.aload_n 0, 1) := by decide +kernel
theorem dX10_init_30 : decode cX10_init 30 = .ok (.iconst 2, 1) := by decide +kernel
theorem dX10_init_31 : decode cX10_init 31 = .ok (.newarray .int, 2) := by decide +kernel
theorem dX10_init_33 : decode cX10_init 33 = .ok (.putfield 19, 3) := by decide +kernel
theorem dX10_init_36 : decode cX10_init 36 = .ok (.aload_n 0, 1) := by decide +kernel
theorem dX10_init_37 : decode cX10_init 37 = .ok (.bipush 40, 2) := by decide +kernel
theorem dX10_init_39 : decode cX10_init 39 = .ok (.newarray .int, 2) := by decide +kernel
theorem dX10_init_41 : decode cX10_init 41 = .ok (.putfield 22, 3) := by decide +kernel
theorem dX10_init_44 : decode cX10_init 44 = .ok (.aload_n 0, 1) := by decide +kernel
theorem dX10_init_45 : decode cX10_init 45 = .ok (.sipush 400, 3) := by decide +kernel
theorem dX10_init_48 : decode cX10_init 48 = .ok (.newarray .int, 2) := by decide +kernel
theorem dX10_init_50 : decode cX10_init 50 = .ok (.putfield 25, 3) := by decide +kernel
theorem dX10_init_53 : decode cX10_init 53 = .ok (.aload_n 0, 1) := by decide +kernel
theorem dX10_init_54 : decode cX10_init 54 = .ok (.bipush 40, 2) := by decide +kernel
theorem dX10_init_56 : decode cX10_init 56 = .ok (.newarray .int, 2) := by decide +kernel
theorem dX10_init_58 : decode cX10_init 58 = .ok (.putfield 28, 3) := by decide +kernel
theorem dX10_init_61 : decode cX10_init 61 = .ok (.aload_n 0, 1) := by decide +kernel
theorem dX10_init_62 : decode cX10_init 62 = .ok (.iconst 2, 1) := by decide +kernel
theorem dX10_init_63 : decode cX10_init 63 = .ok (.newarray .int, 2) := by decide +kernel
theorem dX10_init_65 : decode cX10_init 65 = .ok (.putfield 31, 3) := by decide +kernel
theorem dX10_init_68 : decode cX10_init 68 = .ok (.aload_n 0, 1) := by decide +kernel
theorem dX10_init_69 : decode cX10_init 69 = .ok (.iconst 2, 1) := by decide +kernel
theorem dX10_init_70 : decode cX10_init 70 = .ok (.newarray .int, 2) := by decide +kernel
theorem dX10_init_72 : decode cX10_init 72 = .ok (.putfield 34, 3) := by decide +kernel
theorem dX10_init_75 : decode cX10_init 75 = .ok (.aload_n 0, 1) := by decide +kernel
theorem dX10_init_76 : decode cX10_init 76 = .ok (.bipush 80, 2) := by decide +kernel
theorem dX10_init_78 : decode cX10_init 78 = .ok (.newarray .int, 2) := by decide +kernel
theorem dX10_init_80 : decode cX10_init 80 = .ok (.putfield 37, 3) := by decide +kernel
theorem dX10_init_83 : decode cX10_init 83 = .ok (.aload_n 0, 1) := by decide +kernel
theorem dX10_init_84 : decode cX10_init 84 = .ok (.sipush 800, 3) := by decide +kernel
theorem dX10_init_87 : decode cX10_init 87 = .ok (.newarray .int, 2) := by decide +kernel
theorem dX10_init_89 : decode cX10_init 89 = .ok (.putfield 40, 3) := by decide +kernel
theorem dX10_init_92 : decode cX10_init 92 = .ok (.aload_n 0, 1) := by decide +kernel
theorem dX10_init_93 : decode cX10_init 93 = .ok (.bipush 20, 2) := by decide +kernel
theorem dX10_init_95 : decode cX10_init 95 = .ok (.newarray .int, 2) := by decide +kernel
theorem dX10_init_97 : decode cX10_init 97 = .ok (.putfield 43, 3) := by decide +kernel
theorem dX10_init_100 : decode cX10_init 100 = .ok (.aload_n 0, 1) := by decide +kernel
theorem dX10_init_101 : decode cX10_init 101 = .ok (.bipush 20, 2) := by decide +kernel
theorem dX10_init_103 : decode cX10_init 103 = .ok (.newarray .int, 2) := by decide +kernel
theorem dX10_init_105 : decode cX10_init 105 = .ok (.putfield 46, 3) := by decide +kernel
theorem dX10_init_108 : decode cX10_init 108 = .ok (.aload_n 0, 1) := by decide +kernel
theorem dX10_init_109 : decode cX10_init 109 = .ok (.bipush 40, 2) := by decide +kernel
theorem dX10_init_111 : decode cX10_init 111 = .ok (.newarray .int, 2) := by decide +kernel
theorem dX10_init_113 : decode cX10_init 113 = .ok (.putfield 49, 3) := by decide +kernel
theorem dX10_init_116 : decode cX10_init 116 = .ok (.aload_n 0, 1) := by decide +kernel
theorem dX10_init_117 : decode cX10_init 117 = .ok (.sipush 1640, 3) := by decide +kernel
theorem dX10_init_120 : decode cX10_init 120 = .ok (.newarray .int, 2) := by decide +kernel
theorem dX10_init_122 : decode cX10_init 122 = .ok (.putfield 52, 3) := by decide +kernel
theorem dX10_init_125 : decode cX10_init 125 = .ok (.aload_n 0, 1) := by decide +kernel
theorem dX10_init_126 : decode cX10_init 126 = .ok (.bipush 10, 2) := by decide +kernel
theorem dX10_init_128 : decode cX10_init 128 = .ok (.newarray .int, 2) := by decide +kernel
theorem dX10_init_130 : decode cX10_init 130 = .ok (.putfield 55, 3) := by decide +kernel
theorem dX10_init_133 : decode cX10_init 133 = .ok (.aload_n 0, 1) := by decide +kernel
theorem dX10_init_134 : decode cX10_init 134 = .ok (.bipush 21, 2) := by decide +kernel
theorem dX10_init_136 : decode cX10_init 136 = .ok (.newarray .int, 2) := by decide +kernel
theorem dX10_init_138 : decode cX10_init 138 = .ok (.putfield 58, 3) := by decide +kernel
theorem dX10_init_141 : decode cX10_init 141 = .ok (.aload_n 0, 1) := by decide +kernel
theorem dX10_init_142 : decode cX10_init 142 = .ok (.sipush 200, 3) := by decide +kernel
theorem dX10_init_145 : decode cX10_init 145 = .ok (.newarray .int, 2) := by decide +kernel
theorem dX10_init_147 : decode cX10_init 147 = .ok (.putfield 61, 3) := by decide +kernel
theorem dX10_init_150 : decode cX10_init 150 = .ok (.aload_n 0, 1) := by decide +kernel
theorem dX10_init_151 : decode cX10_init 151 = .ok (.bipush 21, 2) := by decide +kernel
theorem dX10_init_153 : decode cX10_init 153 = .ok (.newarray .int, 2) := by decide +kernel
theorem dX10_init_155 : decode cX10_init 155 = .ok (.putfield 64, 3) := by decide +kernel
theorem dX10_init_158 : decode cX10_init 158 = .ok (.aload_n 0, 1) := by decide +kernel
theorem dX10_init_159 : decode cX10_init 159 = .ok (.bipush 40, 2) := by decide +kernel
theorem dX10_init_161 : decode cX10_init 161 = .ok (.newarray .int, 2) := by decide +kernel
theorem dX10_init_163 : decode cX10_init 163 = .ok (.putfield 67, 3) := by decide +kernel
theorem dX10_init_166 : decode cX10_init 166 = .ok (.aload_n 0, 1) := by decide +kernel
theorem dX10_init_167 : decode cX10_init 167 = .ok (.sipush 400, 3) := by decide +kernel
theorem dX10_init_170 : decode cX10_init 170 = .ok (.newarray .int, 2) := by decide +kernel
theorem dX10_init_172 : decode cX10_init 172 = .ok (.putfield 70, 3) := by decide +kernel
theorem dX10_init_175 : decode cX10_init 175 = .ok (.aload_n 0, 1) := by decide +kernel
theorem dX10_init_176 : decode cX10_init 176 = .ok (.bipush 40, 2) := by decide +kernel
theorem dX10_init_178 : decode cX10_init 178 = .ok (.newarray .int, 2) := by decide +kernel
theorem dX10_init_180 : decode cX10_init 180 = .ok (.putfield 73, 3) := by decide +kernel
theorem dX10_init_183 : decode cX10_init 183 = .ok (.aload_n 0, 1) := by decide +kernel
theorem dX10_init_184 : decode cX10_init 184 = .ok (.bipush 40, 2) := by decide +kernel
theorem dX10_init_186 : decode cX10_init 186 = .ok (.newarray .int, 2) := by decide +kernel
theorem dX10_init_188 : decode cX10_init 188 = .ok (.putfield 76, 3) := by decide +kernel
theorem dX10_init_191 : decode cX10_init 191 = .ok (.aload_n 0, 1) := by decide +kernel
theorem dX10_init_192 : decode cX10_init 192 = .ok (.sipush 441, 3) := by decide +kernel
theorem dX10_init_195 : decode cX10_init 195 = .ok (.newarray .int, 2) := by decide +kernel
theorem dX10_init_197 : decode cX10_init 197 = .ok (.putfield 79, 3) := by decide +kernel
theorem dX10_init_200 : decode cX10_init 200 = .ok (.aload_n 0, 1) := by decide +kernel
theorem dX10_init_201 : decode cX10_init 201 = .ok (.sipush 441, 3) := by decide +kernel
theorem dX10_init_204 : decode cX10_init 204 = .ok (.newarray .int, 2) := by decide +kernel
theorem dX10_init_206 : decode cX10_init 206 = .ok (.putfield 82, 3) := by decide +kernel
theorem dX10_init_209 : decode cX10_init 209 = .ok (.aload_n 0, 1) := by decide +kernel
theorem dX10_init_210 : decode cX10_init 210 = .ok (.bipush 40, 2) := by decide +kernel
theorem dX10_init_212 : decode cX10_init 212 = .ok (.newarray .int, 2) := by decide +kernel
theorem dX10_init_214 : decode cX10_init 214 = .ok (.putfield 85, 3) := by decide +kernel
theorem dX10_init_217 : decode cX10_init 217 = .ok (.aload_n 0, 1) := by decide +kernel
theorem dX10_init_218 : decode cX10_init 218 = .ok (.bipush 40, 2) := by decide +kernel
theorem dX10_init_220 : decode cX10_init 220 = .ok (.newarray .int, 2) := by decide +kernel
theorem dX10_init_222 : decode cX10_init 222 = .ok (.putfield 88, 3) := by decide +kernel
theorem dX10_init_225 : decode cX10_init 225 = .ok (.aload_n 0, 1) := by decide +kernel
theorem dX10_init_226 : decode cX10_init 226 = .ok (.bipush 40, 2) := by decide +kernel
theorem dX10_init_228 : decode cX10_init 228 = .ok (.newarray .int, 2) := by decide +kernel
theorem dX10_init_230 : decode cX10_init 230 = .ok (.putfield 91, 3) := by decide +kernel
theorem dX10_init_233 : decode cX10_init 233 = .ok (.aload_n 0, 1) := by decide +kernel
theorem dX10_init_234 : decode cX10_init 234 = .ok (.sipush 1640, 3) := by decide +kernel
theorem dX10_init_237 : decode cX10_init 237 = .ok (.newarray .long, 2) := by decide +kernel
theorem dX10_init_239 : decode cX10_init 239 = .ok (.putfield 94, 3) := by decide +kernel
theorem dX10_init_242 : decode cX10_init 242 = .ok (.aload_n 0, 1) := by decide +kernel
theorem dX10_init_243 : decode cX10_init 243 = .ok (.bipush 20, 2) := by decide +kernel
theorem dX10_init_245 : decode cX10_init 245 = .ok (.newarray .int, 2) := by decide +kernel
theorem dX10_init_247 : decode cX10_init 247 = .ok (.putfield 98, 3) := by decide +kernel
theorem dX10_init_250 : decode cX10_init 250 = .ok (.aload_n 0, 1) := by decide +kernel
theorem dX10_init_251 : decode cX10_init 251 = .ok (.bipush 20, 2) := by decide +kernel
theorem dX10_init_253 : decode cX10_init 253 = .ok (.newarray .int, 2) := by decide +kernel
theorem dX10_init_255 : decode cX10_init 255 = .ok (.putfield 101, 3) := by decide +kernel
theorem dX10_init_258 : decode cX10_init 258 = .ok (.aload_n 0, 1) := by decide +kernel
theorem dX10_init_259 : decode cX10_init 259 = .ok (.bipush 20, 2) := by decide +kernel
theorem dX10_init_261 : decode cX10_init 261 = .ok (.newarray .int, 2) := by decide +kernel
theorem dX10_init_263 : decode cX10_init 263 = .ok (.putfield 104, 3) := by decide +kernel
theorem dX10_init_266 : decode cX10_init 266 = .ok (.aload_n 0, 1) := by decide +kernel
theorem dX10_init_267 : decode cX10_init 267 = .ok (.bipush 20, 2) := by decide +kernel
theorem dX10_init_269 : decode cX10_init 269 = .ok (.newarray .int, 2) := by decide +kernel
theorem dX10_init_271 : decode cX10_init 271 = .ok (.putfield 107, 3) := by decide +kernel
theorem dX10_init_274 : decode cX10_init 274 = .ok (.aload_n 0, 1) := by decide +kernel
theorem dX10_init_275 : decode cX10_init 275 = .ok (.sipush 400, 3) := by decide +kernel
theorem dX10_init_278 : decode cX10_init 278 = .ok (.newarray .boolean, 2) := by decide +kernel
theorem dX10_init_280 : decode cX10_init 280 = .ok (.putfield 110, 3) := by decide +kernel
theorem dX10_init_283 : decode cX10_init 283 = .ok (.aload_n 0, 1) := by decide +kernel
theorem dX10_init_284 : decode cX10_init 284 = .ok (.bipush 8, 2) := by decide +kernel
theorem dX10_init_286 : decode cX10_init 286 = .ok (.newarray .int, 2) := by decide +kernel
theorem dX10_init_288 : decode cX10_init 288 = .ok (.putfield 114, 3) := by decide +kernel
theorem dX10_init_291 : decode cX10_init 291 = .ok (.aload_n 0, 1) := by decide +kernel
theorem dX10_init_292 : decode cX10_init 292 = .ok (.bipush 8, 2) := by decide +kernel
theorem dX10_init_294 : decode cX10_init 294 = .ok (.newarray .int, 2) := by decide +kernel
theorem dX10_init_296 : decode cX10_init 296 = .ok (.putfield 117, 3) := by decide +kernel
theorem dX10_init_299 : decode cX10_init 299 = .ok (.aload_n 0, 1) := by decide +kernel
theorem dX10_init_300 : decode cX10_init 300 = .ok (.sipush 240, 3) := by decide +kernel
theorem dX10_init_303 : decode cX10_init 303 = .ok (.newarray .int, 2) := by decide +kernel
theorem dX10_init_305 : decode cX10_init 305 = .ok (.putfield 120, 3) := by decide +kernel
theorem dX10_init_308 : decode cX10_init 308 = .ok (.aload_n 0, 1) := by decide +kernel
theorem dX10_init_309 : decode cX10_init 309 = .ok (.invokevirtual 123, 3) := by decide +kernel
theorem dX10_init_312 : decode cX10_init 312 = .ok (.return_, 1) := by decide +kernel
theorem dX10_in_0 : decode cX10_in 0 = .ok (.lload_n 0, 1) := by decide +kernel
theorem dX10_in_1 : decode cX10_in 1 = .ok (.lload_n 2, 1) := by decide +kernel
theorem dX10_in_2 : decode cX10_in 2 = .ok (.lcmp, 1) := by decide +kernel
theorem dX10_in_3 : decode cX10_in 3 = .ok (.ifCond .lt 14, 3) := by decide +kernel
theorem dX10_in_6 : decode cX10_in 6 = .ok (.lload_n 0, 1) := by decide +kernel
theorem dX10_in_7 : decode cX10_in 7 = .ok (.lload 4, 2) := by decide +kernel
theorem dX10_in_9 : decode cX10_in 9 = .ok (.lcmp, 1) := by decide +kernel
theorem dX10_in_10 : decode cX10_in 10 = .ok (.ifCond .gt 7, 3) := by decide +kernel
theorem dX10_in_13 : decode cX10_in 13 = .ok (.iconst 1, 1) := by decide +kernel
theorem dX10_in_14 : decode cX10_in 14 = .ok (.goto 4, 3) := by decide +kernel
theorem dX10_in_17 : decode cX10_in 17 = .ok (.iconst 0, 1) := by decide +kernel
theorem dX10_in_18 : decode cX10_in 18 = .ok (.ireturn, 1) := by decide +kernel
theorem dX10_feed_0 : decode cX10_feed 0 = .ok (.aload_n 0, 1) := by decide +kernel
theorem dX10_feed_1 : decode cX10_feed 1 = .ok (.getfield 126, 3) := by decide +kernel
theorem dX10_feed_4 : decode cX10_feed 4 = .ok (.bipush 20, 2) := by decide +kernel
theorem dX10_feed_6 : decode cX10_feed 6 = .ok (.iadd, 1) := by decide +kernel
theorem dX10_feed_7 : decode cX10_feed 7 = .ok (.sipush 1600, 3) := by decide +kernel
theorem dX10_feed_10 : decode cX10_feed 10 = .ok (.if_icmp .le 6, 3) := by decide +kernel
theorem dX10_feed_13 : decode cX10_feed 13 = .ok (.ldc 130, 2) := by decide +kernel
theorem dX10_feed_15 : decode cX10_feed 15 = .ok (.ireturn, 1) := by decide +kernel
theorem dX10_feed_16 : decode cX10_feed 16 = .ok (.iconst 0, 1) := by decide +kernel
theorem dX10_feed_17 : decode cX10_feed 17 = .ok (.istore 6, 2) := by decide +kernel
theorem dX10_feed_19 : decode cX10_feed 19 = .ok (.iload 6, 2) := by decide +kernel
theorem dX10_feed_21 : decode cX10_feed 21 = .ok (.bipush 20, 2) := by decide +kernel
theorem dX10_feed_23 : decode cX10_feed 23 = .ok (.if_icmp .ge 93, 3) := by decide +kernel
theorem dX10_feed_26 : decode cX10_feed 26 = .ok (.iload 6, 2) := by decide +kernel
theorem dX10_feed_28 : decode cX10_feed 28 = .ok (.iconst 4, 1) := by decide +kernel
theorem dX10_feed_29 : decode cX10_feed 29 = .ok (.if_icmp .ge 7, 3) := by decide +kernel
theorem dX10_feed_32 : decode cX10_feed 32 = .ok (.iload_n 1, 1) := by decide +kernel
theorem dX10_feed_33 : decode cX10_feed 33 = .ok (.goto 39, 3) := by decide +kernel
theorem dX10_feed_36 : decode cX10_feed 36 = .ok (.iload 6, 2) := by decide +kernel
theorem dX10_feed_38 : decode cX10_feed 38 = .ok (.bipush 8, 2) := by decide +kernel
theorem dX10_feed_40 : decode cX10_feed 40 = .ok (.if_icmp .ge 7, 3) := by decide +kernel
theorem dX10_feed_43 : decode cX10_feed 43 = .ok (.iload_n 2, 1) := by decide +kernel
theorem dX10_feed_44 : decode cX10_feed 44 = .ok (.goto 28, 3) := by decide +kernel
theorem dX10_feed_47 : decode cX10_feed 47 = .ok (.iload 6, 2) := by decide +kernel
theorem dX10_feed_49 : decode cX10_feed 49 = .ok (.bipush 12, 2) := by decide +kernel
theorem dX10_feed_51 : decode cX10_feed 51 = .ok (.if_icmp .ge 7, 3) := by decide +kernel
theorem dX10_feed_54 : decode cX10_feed 54 = .ok (.iload_n 3, 1) := by decide +kernel
theorem dX10_feed_55 : decode cX10_feed 55 = .ok (.goto 17, 3) := by decide +kernel
theorem dX10_feed_58 : decode cX10_feed 58 = .ok (.iload 6, 2) := by decide +kernel
theorem dX10_feed_60 : decode cX10_feed 60 = .ok (.bipush 16, 2) := by decide +kernel
theorem dX10_feed_62 : decode cX10_feed 62 = .ok (.if_icmp .ge 8, 3) := by decide +kernel
theorem dX10_feed_65 : decode cX10_feed 65 = .ok (.iload 4, 2) := by decide +kernel
theorem dX10_feed_67 : decode cX10_feed 67 = .ok (.goto 5, 3) := by decide +kernel
theorem dX10_feed_70 : decode cX10_feed 70 = .ok (.iload 5, 2) := by decide +kernel
theorem dX10_feed_72 : decode cX10_feed 72 = .ok (.istore 7, 2) := by decide +kernel
theorem dX10_feed_74 : decode cX10_feed 74 = .ok (.aload_n 0, 1) := by decide +kernel
theorem dX10_feed_75 : decode cX10_feed 75 = .ok (.getfield 7, 3) := by decide +kernel
theorem dX10_feed_78 : decode cX10_feed 78 = .ok (.aload_n 0, 1) := by decide +kernel
theorem dX10_feed_79 : decode cX10_feed 79 = .ok (.getfield 126, 3) := by decide +kernel
theorem dX10_feed_82 : decode cX10_feed 82 = .ok (.iload 7, 2) := by decide +kernel
theorem dX10_feed_84 : decode cX10_feed 84 = .ok (.bipush 24, 2) := by decide +kernel
theorem dX10_feed_86 : decode cX10_feed 86 = .ok (.bipush 8, 2) := by decide +kernel
theorem dX10_feed_88 : decode cX10_feed 88 = .ok (.iload 6, 2) := by decide +kernel
theorem dX10_feed_90 : decode cX10_feed 90 = .ok (.iconst 4, 1) := by decide +kernel
theorem dX10_feed_91 : decode cX10_feed 91 = .ok (.irem, 1) := by decide +kernel
theorem dX10_feed_92 : decode cX10_feed 92 = .ok (.imul, 1) := by decide +kernel
theorem dX10_feed_93 : decode cX10_feed 93 = .ok (.isub, 1) := by decide +kernel
theorem dX10_feed_94 : decode cX10_feed 94 = .ok (.ishr, 1) := by decide +kernel
theorem dX10_feed_95 : decode cX10_feed 95 = .ok (.sipush 255, 3) := by decide +kernel
theorem dX10_feed_98 : decode cX10_feed 98 = .ok (.iand, 1) := by decide +kernel
theorem dX10_feed_99 : decode cX10_feed 99 = .ok (.iastore, 1) := by decide +kernel
theorem dX10_feed_100 : decode cX10_feed 100 = .ok (.aload_n 0, 1) := by decide +kernel
theorem dX10_feed_101 : decode cX10_feed 101 = .ok (.dup, 1) := by decide +kernel
theorem dX10_feed_102 : decode cX10_feed 102 = .ok (.getfield 126, 3) := by decide +kernel
theorem dX10_feed_105 : decode cX10_feed 105 = .ok (.iconst 1, 1) := by decide +kernel
theorem dX10_feed_106 : decode cX10_feed 106 = .ok (.iadd, 1) := by decide +kernel
theorem dX10_feed_107 : decode cX10_feed 107 = .ok (.putfield 126, 3) := by decide +kernel
theorem dX10_feed_110 : decode cX10_feed 110 = .ok (.iinc 6 1, 3) := by decide +kernel
theorem dX10_feed_113 : decode cX10_feed 113 = .ok (.goto (-94), 3) := by decide +kernel
theorem dX10_feed_116 : decode cX10_feed 116 = .ok (.aload_n 0, 1) := by decide +kernel
theorem dX10_feed_117 : decode cX10_feed 117 = .ok (.getfield 126, 3) := by decide +kernel
theorem dX10_feed_120 : decode cX10_feed 120 = .ok (.ireturn, 1) := by decide +kernel
theorem dX10_cut_0 : decode cX10_cut 0 = .ok (.iload_n 1, 1) := by decide +kernel
theorem dX10_cut_1 : decode cX10_cut 1 = .ok (.i2l, 1) := by decide +kernel
theorem dX10_cut_2 : decode cX10_cut 2 = .ok (.lconst 0, 1) := by decide +kernel
theorem dX10_cut_3 : decode cX10_cut 3 = .ok (.aload_n 0, 1) := by decide +kernel
theorem dX10_cut_4 : decode cX10_cut 4 = .ok (.getfield 126, 3) := by decide +kernel
theorem dX10_cut_7 : decode cX10_cut 7 = .ok (.i2l, 1) := by decide +kernel
theorem dX10_cut_8 : decode cX10_cut 8 = .ok (.invokestatic 131, 3) := by decide +kernel
theorem dX10_cut_11 : decode cX10_cut 11 = .ok (.ifCond .ne 6, 3) := by decide +kernel
theorem dX10_cut_14 : decode cX10_cut 14 = .ok (.ldc 135, 2) := by decide +kernel
theorem dX10_cut_16 : decode cX10_cut 16 = .ok (.ireturn, 1) := by decide +kernel
theorem dX10_cut_17 : decode cX10_cut 17 = .ok (.aload_n 0, 1) := by decide +kernel
theorem dX10_cut_18 : decode cX10_cut 18 = .ok (.getfield 126, 3) := by decide +kernel
theorem dX10_cut_21 : decode cX10_cut 21 = .ok (.iload_n 1, 1) := by decide +kernel
theorem dX10_cut_22 : decode cX10_cut 22 = .ok (.isub, 1) := by decide +kernel
theorem dX10_cut_23 : decode cX10_cut 23 = .ok (.istore_n 2, 1) := by decide +kernel
theorem dX10_cut_24 : decode cX10_cut 24 = .ok (.aload_n 0, 1) := by decide +kernel
theorem dX10_cut_25 : decode cX10_cut 25 = .ok (.iload_n 1, 1) := by decide +kernel
theorem dX10_cut_26 : decode cX10_cut 26 = .ok (.putfield 126, 3) := by decide +kernel
theorem dX10_cut_29 : decode cX10_cut 29 = .ok (.iload_n 2, 1) := by decide +kernel
theorem dX10_cut_30 : decode cX10_cut 30 = .ok (.ireturn, 1) := by decide +kernel
theorem dX10_isDigit_0 : decode cX10_isDigit 0 = .ok (.iload_n 1, 1) := by decide +kernel
theorem dX10_isDigit_1 : decode cX10_isDigit 1 = .ok (.ifCond .lt 37, 3) := by decide +kernel
theorem dX10_isDigit_4 : decode cX10_isDigit 4 = .ok (.iload_n 1, 1) := by decide +kernel
theorem dX10_isDigit_5 : decode cX10_isDigit 5 = .ok (.aload_n 0, 1) := by decide +kernel
theorem dX10_isDigit_6 : decode cX10_isDigit 6 = .ok (.getfield 126, 3) := by decide +kernel
theorem dX10_isDigit_9 : decode cX10_isDigit 9 = .ok (.if_icmp .ge 29, 3) := by decide +kernel
theorem dX10_isDigit_12 : decode cX10_isDigit 12 = .ok (.aload_n 0, 1) := by decide +kernel
theorem dX10_isDigit_13 : decode cX10_isDigit 13 = .ok (.getfield 7, 3) := by decide +kernel
theorem dX10_isDigit_16 : decode cX10_isDigit 16 = .ok (.iload_n 1, 1) := by decide +kernel
theorem dX10_isDigit_17 : decode cX10_isDigit 17 = .ok (.iaload, 1) := by decide +kernel
theorem dX10_isDigit_18 : decode cX10_isDigit 18 = .ok (.bipush 48, 2) := by decide +kernel
theorem dX10_isDigit_20 : decode cX10_isDigit 20 = .ok (.if_icmp .lt 18, 3) := by decide +kernel
theorem dX10_isDigit_23 : decode cX10_isDigit 23 = .ok (.aload_n 0, 1) := by decide +kernel
theorem dX10_isDigit_24 : decode cX10_isDigit 24 = .ok (.getfield 7, 3) := by decide +kernel
theorem dX10_isDigit_27 : decode cX10_isDigit 27 = .ok (.iload_n 1, 1) := by decide +kernel
theorem dX10_isDigit_28 : decode cX10_isDigit 28 = .ok (.iaload, 1) := by decide +kernel
theorem dX10_isDigit_29 : decode cX10_isDigit 29 = .ok (.bipush 57, 2) := by decide +kernel
theorem dX10_isDigit_31 : decode cX10_isDigit 31 = .ok (.if_icmp .gt 7, 3) := by decide +kernel
theorem dX10_isDigit_34 : decode cX10_isDigit 34 = .ok (.iconst 1, 1) := by decide +kernel
theorem dX10_isDigit_35 : decode cX10_isDigit 35 = .ok (.goto 4, 3) := by decide +kernel
theorem dX10_isDigit_38 : decode cX10_isDigit 38 = .ok (.iconst 0, 1) := by decide +kernel
theorem dX10_isDigit_39 : decode cX10_isDigit 39 = .ok (.ireturn, 1) := by decide +kernel
theorem dX10_letterOf_0 : decode cX10_letterOf 0 = .ok (.iload_n 1, 1) := by decide +kernel
theorem dX10_letterOf_1 : decode cX10_letterOf 1 = .ok (.aload_n 0, 1) := by decide +kernel
theorem dX10_letterOf_2 : decode cX10_letterOf 2 = .ok (.getfield 126, 3) := by decide +kernel
theorem dX10_letterOf_5 : decode cX10_letterOf 5 = .ok (.if_icmp .lt 5, 3) := by decide +kernel
theorem dX10_letterOf_8 : decode cX10_letterOf 8 = .ok (.iconst 0, 1) := by decide +kernel
theorem dX10_letterOf_9 : decode cX10_letterOf 9 = .ok (.ireturn, 1) := by decide +kernel
theorem dX10_letterOf_10 : decode cX10_letterOf 10 = .ok (.aload_n 0, 1) := by decide +kernel
theorem dX10_letterOf_11 : decode cX10_letterOf 11 = .ok (.getfield 7, 3) := by decide +kernel
theorem dX10_letterOf_14 : decode cX10_letterOf 14 = .ok (.iload_n 1, 1) := by decide +kernel
theorem dX10_letterOf_15 : decode cX10_letterOf 15 = .ok (.iaload, 1) := by decide +kernel
theorem dX10_letterOf_16 : decode cX10_letterOf 16 = .ok (.istore_n 2, 1) := by decide +kernel
theorem dX10_letterOf_17 : decode cX10_letterOf 17 = .ok (.iload_n 2, 1) := by decide +kernel
theorem dX10_letterOf_18 : decode cX10_letterOf 18 = .ok (.bipush 65, 2) := by decide +kernel
theorem dX10_letterOf_20 : decode cX10_letterOf 20 = .ok (.if_icmp .lt 14, 3) := by decide +kernel
theorem dX10_letterOf_23 : decode cX10_letterOf 23 = .ok (.iload_n 2, 1) := by decide +kernel
theorem dX10_letterOf_24 : decode cX10_letterOf 24 = .ok (.bipush 90, 2) := by decide +kernel
theorem dX10_letterOf_26 : decode cX10_letterOf 26 = .ok (.if_icmp .gt 8, 3) := by decide +kernel
theorem dX10_letterOf_29 : decode cX10_letterOf 29 = .ok (.iload_n 2, 1) := by decide +kernel
theorem dX10_letterOf_30 : decode cX10_letterOf 30 = .ok (.bipush 32, 2) := by decide +kernel
theorem dX10_letterOf_32 : decode cX10_letterOf 32 = .ok (.iadd, 1) := by decide +kernel
theorem dX10_letterOf_33 : decode cX10_letterOf 33 = .ok (.ireturn, 1) := by decide +kernel
theorem dX10_letterOf_34 : decode cX10_letterOf 34 = .ok (.iload_n 2, 1) := by decide +kernel
theorem dX10_letterOf_35 : decode cX10_letterOf 35 = .ok (.bipush 97, 2) := by decide +kernel
theorem dX10_letterOf_37 : decode cX10_letterOf 37 = .ok (.if_icmp .lt 9, 3) := by decide +kernel
theorem dX10_letterOf_40 : decode cX10_letterOf 40 = .ok (.iload_n 2, 1) := by decide +kernel
theorem dX10_letterOf_41 : decode cX10_letterOf 41 = .ok (.bipush 122, 2) := by decide +kernel
theorem dX10_letterOf_43 : decode cX10_letterOf 43 = .ok (.if_icmp .le 15, 3) := by decide +kernel
theorem dX10_letterOf_46 : decode cX10_letterOf 46 = .ok (.iload_n 2, 1) := by decide +kernel
theorem dX10_letterOf_47 : decode cX10_letterOf 47 = .ok (.bipush 48, 2) := by decide +kernel
theorem dX10_letterOf_49 : decode cX10_letterOf 49 = .ok (.if_icmp .lt 11, 3) := by decide +kernel
theorem dX10_letterOf_52 : decode cX10_letterOf 52 = .ok (.iload_n 2, 1) := by decide +kernel
theorem dX10_letterOf_53 : decode cX10_letterOf 53 = .ok (.bipush 57, 2) := by decide +kernel
theorem dX10_letterOf_55 : decode cX10_letterOf 55 = .ok (.if_icmp .gt 5, 3) := by decide +kernel
theorem dX10_letterOf_58 : decode cX10_letterOf 58 = .ok (.iload_n 2, 1) := by decide +kernel
theorem dX10_letterOf_59 : decode cX10_letterOf 59 = .ok (.ireturn, 1) := by decide +kernel
theorem dX10_letterOf_60 : decode cX10_letterOf 60 = .ok (.iload_n 2, 1) := by decide +kernel
theorem dX10_letterOf_61 : decode cX10_letterOf 61 = .ok (.bipush 46, 2) := by decide +kernel
theorem dX10_letterOf_63 : decode cX10_letterOf 63 = .ok (.if_icmp .ne 27, 3) := by decide +kernel
theorem dX10_letterOf_66 : decode cX10_letterOf 66 = .ok (.aload_n 0, 1) := by decide +kernel
theorem dX10_letterOf_67 : decode cX10_letterOf 67 = .ok (.iload_n 1, 1) := by decide +kernel
theorem dX10_letterOf_68 : decode cX10_letterOf 68 = .ok (.iconst 1, 1) := by decide +kernel
theorem dX10_letterOf_69 : decode cX10_letterOf 69 = .ok (.isub, 1) := by decide +kernel
theorem dX10_letterOf_70 : decode cX10_letterOf 70 = .ok (.invokevirtual 136, 3) := by decide +kernel
theorem dX10_letterOf_73 : decode cX10_letterOf 73 = .ok (.ifCond .eq 17, 3) := by decide +kernel
theorem dX10_letterOf_76 : decode cX10_letterOf 76 = .ok (.aload_n 0, 1) := by decide +kernel
theorem dX10_letterOf_77 : decode cX10_letterOf 77 = .ok (.iload_n 1, 1) := by decide +kernel
theorem dX10_letterOf_78 : decode cX10_letterOf 78 = .ok (.iconst 1, 1) := by decide +kernel
theorem dX10_letterOf_79 : decode cX10_letterOf 79 = .ok (.iadd, 1) := by decide +kernel
theorem dX10_letterOf_80 : decode cX10_letterOf 80 = .ok (.invokevirtual 136, 3) := by decide +kernel
theorem dX10_letterOf_83 : decode cX10_letterOf 83 = .ok (.ifCond .eq 7, 3) := by decide +kernel
theorem dX10_letterOf_86 : decode cX10_letterOf 86 = .ok (.iload_n 2, 1) := by decide +kernel
theorem dX10_letterOf_87 : decode cX10_letterOf 87 = .ok (.goto 4, 3) := by decide +kernel
theorem dX10_letterOf_90 : decode cX10_letterOf 90 = .ok (.iconst 0, 1) := by decide +kernel
theorem dX10_letterOf_91 : decode cX10_letterOf 91 = .ok (.ireturn, 1) := by decide +kernel
theorem dX10_cutWord_0 : decode cX10_cutWord 0 = .ok (.aload_n 0, 1) := by decide +kernel
theorem dX10_cutWord_1 : decode cX10_cutWord 1 = .ok (.iconst 0, 1) := by decide +kernel
theorem dX10_cutWord_2 : decode cX10_cutWord 2 = .ok (.putfield 140, 3) := by decide +kernel
theorem dX10_cutWord_5 : decode cX10_cutWord 5 = .ok (.aload_n 0, 1) := by decide +kernel
theorem dX10_cutWord_6 : decode cX10_cutWord 6 = .ok (.aload_n 0, 1) := by decide +kernel
theorem dX10_cutWord_7 : decode cX10_cutWord 7 = .ok (.getfield 143, 3) := by decide +kernel
theorem dX10_cutWord_10 : decode cX10_cutWord 10 = .ok (.invokevirtual 146, 3) := by decide +kernel
theorem dX10_cutWord_13 : decode cX10_cutWord 13 = .ok (.ifCond .eq 52, 3) := by decide +kernel
theorem dX10_cutWord_16 : decode cX10_cutWord 16 = .ok (.aload_n 0, 1) := by decide +kernel
theorem dX10_cutWord_17 : decode cX10_cutWord 17 = .ok (.getfield 140, 3) := by decide +kernel
theorem dX10_cutWord_20 : decode cX10_cutWord 20 = .ok (.bipush 10, 2) := by decide +kernel
theorem dX10_cutWord_22 : decode cX10_cutWord 22 = .ok (.if_icmp .ge 30, 3) := by decide +kernel
theorem dX10_cutWord_25 : decode cX10_cutWord 25 = .ok (.aload_n 0, 1) := by decide +kernel
theorem dX10_cutWord_26 : decode cX10_cutWord 26 = .ok (.getfield 55, 3) := by decide +kernel
theorem dX10_cutWord_29 : decode cX10_cutWord 29 = .ok (.aload_n 0, 1) := by decide +kernel
theorem dX10_cutWord_30 : decode cX10_cutWord 30 = .ok (.getfield 140, 3) := by decide +kernel
theorem dX10_cutWord_33 : decode cX10_cutWord 33 = .ok (.aload_n 0, 1) := by decide +kernel
theorem dX10_cutWord_34 : decode cX10_cutWord 34 = .ok (.aload_n 0, 1) := by decide +kernel
theorem dX10_cutWord_35 : decode cX10_cutWord 35 = .ok (.getfield 143, 3) := by decide +kernel
theorem dX10_cutWord_38 : decode cX10_cutWord 38 = .ok (.invokevirtual 146, 3) := by decide +kernel
theorem dX10_cutWord_41 : decode cX10_cutWord 41 = .ok (.iastore, 1) := by decide +kernel
theorem dX10_cutWord_42 : decode cX10_cutWord 42 = .ok (.aload_n 0, 1) := by decide +kernel
theorem dX10_cutWord_43 : decode cX10_cutWord 43 = .ok (.dup, 1) := by decide +kernel
theorem dX10_cutWord_44 : decode cX10_cutWord 44 = .ok (.getfield 140, 3) := by decide +kernel
theorem dX10_cutWord_47 : decode cX10_cutWord 47 = .ok (.iconst 1, 1) := by decide +kernel
theorem dX10_cutWord_48 : decode cX10_cutWord 48 = .ok (.iadd, 1) := by decide +kernel
theorem dX10_cutWord_49 : decode cX10_cutWord 49 = .ok (.putfield 140, 3) := by decide +kernel
theorem dX10_cutWord_52 : decode cX10_cutWord 52 = .ok (.aload_n 0, 1) := by decide +kernel
theorem dX10_cutWord_53 : decode cX10_cutWord 53 = .ok (.dup, 1) := by decide +kernel
theorem dX10_cutWord_54 : decode cX10_cutWord 54 = .ok (.getfield 143, 3) := by decide +kernel
theorem dX10_cutWord_57 : decode cX10_cutWord 57 = .ok (.iconst 1, 1) := by decide +kernel
theorem dX10_cutWord_58 : decode cX10_cutWord 58 = .ok (.iadd, 1) := by decide +kernel
theorem dX10_cutWord_59 : decode cX10_cutWord 59 = .ok (.putfield 143, 3) := by decide +kernel
theorem dX10_cutWord_62 : decode cX10_cutWord 62 = .ok (.goto (-57), 3) := by decide +kernel
theorem dX10_cutWord_65 : decode cX10_cutWord 65 = .ok (.return_, 1) := by decide +kernel
theorem dX10_isShort_0 : decode cX10_isShort 0 = .ok (.iconst 0, 1) := by decide +kernel
theorem dX10_isShort_1 : decode cX10_isShort 1 = .ok (.istore_n 1, 1) := by decide +kernel
theorem dX10_isShort_2 : decode cX10_isShort 2 = .ok (.iconst 0, 1) := by decide +kernel
theorem dX10_isShort_3 : decode cX10_isShort 3 = .ok (.istore_n 2, 1) := by decide +kernel
theorem dX10_isShort_4 : decode cX10_isShort 4 = .ok (.iload_n 2, 1) := by decide +kernel
theorem dX10_isShort_5 : decode cX10_isShort 5 = .ok (.aload_n 0, 1) := by decide +kernel
theorem dX10_isShort_6 : decode cX10_isShort 6 = .ok (.getfield 150, 3) := by decide +kernel
theorem dX10_isShort_9 : decode cX10_isShort 9 = .ok (.if_icmp .ge 78, 3) := by decide +kernel
theorem dX10_isShort_12 : decode cX10_isShort 12 = .ok (.iload_n 1, 1) := by decide +kernel
theorem dX10_isShort_13 : decode cX10_isShort 13 = .ok (.ifCond .ne 74, 3) := by decide +kernel
theorem dX10_isShort_16 : decode cX10_isShort 16 = .ok (.aload_n 0, 1) := by decide +kernel
theorem dX10_isShort_17 : decode cX10_isShort 17 = .ok (.getfield 16, 3) := by decide +kernel
theorem dX10_isShort_20 : decode cX10_isShort 20 = .ok (.iload_n 2, 1) := by decide +kernel
theorem dX10_isShort_21 : decode cX10_isShort 21 = .ok (.iaload, 1) := by decide +kernel
theorem dX10_isShort_22 : decode cX10_isShort 22 = .ok (.aload_n 0, 1) := by decide +kernel
theorem dX10_isShort_23 : decode cX10_isShort 23 = .ok (.getfield 140, 3) := by decide +kernel
theorem dX10_isShort_26 : decode cX10_isShort 26 = .ok (.if_icmp .ne 7, 3) := by decide +kernel
theorem dX10_isShort_29 : decode cX10_isShort 29 = .ok (.iconst 1, 1) := by decide +kernel
theorem dX10_isShort_30 : decode cX10_isShort 30 = .ok (.goto 4, 3) := by decide +kernel
theorem dX10_isShort_33 : decode cX10_isShort 33 = .ok (.iconst 0, 1) := by decide +kernel
theorem dX10_isShort_34 : decode cX10_isShort 34 = .ok (.istore_n 1, 1) := by decide +kernel
theorem dX10_isShort_35 : decode cX10_isShort 35 = .ok (.iconst 0, 1) := by decide +kernel
theorem dX10_isShort_36 : decode cX10_isShort 36 = .ok (.istore_n 3, 1) := by decide +kernel
theorem dX10_isShort_37 : decode cX10_isShort 37 = .ok (.iload_n 3, 1) := by decide +kernel
theorem dX10_isShort_38 : decode cX10_isShort 38 = .ok (.aload_n 0, 1) := by decide +kernel
theorem dX10_isShort_39 : decode cX10_isShort 39 = .ok (.getfield 140, 3) := by decide +kernel
theorem dX10_isShort_42 : decode cX10_isShort 42 = .ok (.if_icmp .ge 39, 3) := by decide +kernel
theorem dX10_isShort_45 : decode cX10_isShort 45 = .ok (.iload_n 1, 1) := by decide +kernel
theorem dX10_isShort_46 : decode cX10_isShort 46 = .ok (.ifCond .eq 35, 3) := by decide +kernel
theorem dX10_isShort_49 : decode cX10_isShort 49 = .ok (.aload_n 0, 1) := by decide +kernel
theorem dX10_isShort_50 : decode cX10_isShort 50 = .ok (.getfield 13, 3) := by decide +kernel
theorem dX10_isShort_53 : decode cX10_isShort 53 = .ok (.bipush 10, 2) := by decide +kernel
theorem dX10_isShort_55 : decode cX10_isShort 55 = .ok (.iload_n 2, 1) := by decide +kernel
theorem dX10_isShort_56 : decode cX10_isShort 56 = .ok (.imul, 1) := by decide +kernel
theorem dX10_isShort_57 : decode cX10_isShort 57 = .ok (.iload_n 3, 1) := by decide +kernel
theorem dX10_isShort_58 : decode cX10_isShort 58 = .ok (.iadd, 1) := by decide +kernel
theorem dX10_isShort_59 : decode cX10_isShort 59 = .ok (.iaload, 1) := by decide +kernel
theorem dX10_isShort_60 : decode cX10_isShort 60 = .ok (.aload_n 0, 1) := by decide +kernel
theorem dX10_isShort_61 : decode cX10_isShort 61 = .ok (.getfield 55, 3) := by decide +kernel
theorem dX10_isShort_64 : decode cX10_isShort 64 = .ok (.iload_n 3, 1) := by decide +kernel
theorem dX10_isShort_65 : decode cX10_isShort 65 = .ok (.iaload, 1) := by decide +kernel
theorem dX10_isShort_66 : decode cX10_isShort 66 = .ok (.if_icmp .ne 7, 3) := by decide +kernel
theorem dX10_isShort_69 : decode cX10_isShort 69 = .ok (.iconst 1, 1) := by decide +kernel
theorem dX10_isShort_70 : decode cX10_isShort 70 = .ok (.goto 4, 3) := by decide +kernel
theorem dX10_isShort_73 : decode cX10_isShort 73 = .ok (.iconst 0, 1) := by decide +kernel
theorem dX10_isShort_74 : decode cX10_isShort 74 = .ok (.istore_n 1, 1) := by decide +kernel
theorem dX10_isShort_75 : decode cX10_isShort 75 = .ok (.iinc 3 1, 3) := by decide +kernel
theorem dX10_isShort_78 : decode cX10_isShort 78 = .ok (.goto (-41), 3) := by decide +kernel
theorem dX10_isShort_81 : decode cX10_isShort 81 = .ok (.iinc 2 1, 3) := by decide +kernel
theorem dX10_isShort_84 : decode cX10_isShort 84 = .ok (.goto (-80), 3) := by decide +kernel
theorem dX10_isShort_87 : decode cX10_isShort 87 = .ok (.iload_n 1, 1) := by decide +kernel
theorem dX10_isShort_88 : decode cX10_isShort 88 = .ok (.ireturn, 1) := by decide +kernel
theorem dX10_abbreviate_0 : decode cX10_abbreviate 0 = .ok (.iconst 0, 1) := by decide +kernel
theorem dX10_abbreviate_1 : decode cX10_abbreviate 1 = .ok (.istore_n 1, 1) := by decide +kernel
theorem dX10_abbreviate_2 : decode cX10_abbreviate 2 = .ok (.aload_n 0, 1) := by decide +kernel
theorem dX10_abbreviate_3 : decode cX10_abbreviate 3 = .ok (.iconst 0, 1) := by decide +kernel
theorem dX10_abbreviate_4 : decode cX10_abbreviate 4 = .ok (.putfield 143, 3) := by decide +kernel
theorem dX10_abbreviate_7 : decode cX10_abbreviate 7 = .ok (.aload_n 0, 1) := by decide +kernel
theorem dX10_abbreviate_8 : decode cX10_abbreviate 8 = .ok (.getfield 143, 3) := by decide +kernel
theorem dX10_abbreviate_11 : decode cX10_abbreviate 11 = .ok (.aload_n 0, 1) := by decide +kernel
theorem dX10_abbreviate_12 : decode cX10_abbreviate 12 = .ok (.getfield 126, 3) := by decide +kernel
theorem dX10_abbreviate_15 : decode cX10_abbreviate 15 = .ok (.if_icmp .ge 52, 3) := by decide +kernel
theorem dX10_abbreviate_18 : decode cX10_abbreviate 18 = .ok (.aload_n 0, 1) := by decide +kernel
theorem dX10_abbreviate_19 : decode cX10_abbreviate 19 = .ok (.aload_n 0, 1) := by decide +kernel
theorem dX10_abbreviate_20 : decode cX10_abbreviate 20 = .ok (.getfield 143, 3) := by decide +kernel
theorem dX10_abbreviate_23 : decode cX10_abbreviate 23 = .ok (.invokevirtual 146, 3) := by decide +kernel
theorem dX10_abbreviate_26 : decode cX10_abbreviate 26 = .ok (.ifCond .ne 16, 3) := by decide +kernel
theorem dX10_abbreviate_29 : decode cX10_abbreviate 29 = .ok (.aload_n 0, 1) := by decide +kernel
theorem dX10_abbreviate_30 : decode cX10_abbreviate 30 = .ok (.dup, 1) := by decide +kernel
theorem dX10_abbreviate_31 : decode cX10_abbreviate 31 = .ok (.getfield 143, 3) := by decide +kernel
theorem dX10_abbreviate_34 : decode cX10_abbreviate 34 = .ok (.iconst 1, 1) := by decide +kernel
theorem dX10_abbreviate_35 : decode cX10_abbreviate 35 = .ok (.iadd, 1) := by decide +kernel
theorem dX10_abbreviate_36 : decode cX10_abbreviate 36 = .ok (.putfield 143, 3) := by decide +kernel
theorem dX10_abbreviate_39 : decode cX10_abbreviate 39 = .ok (.goto (-32), 3) := by decide +kernel
theorem dX10_abbreviate_42 : decode cX10_abbreviate 42 = .ok (.iload_n 1, 1) := by decide +kernel
theorem dX10_abbreviate_43 : decode cX10_abbreviate 43 = .ok (.ifCond .ne 10, 3) := by decide +kernel
theorem dX10_abbreviate_46 : decode cX10_abbreviate 46 = .ok (.aload_n 0, 1) := by decide +kernel
theorem dX10_abbreviate_47 : decode cX10_abbreviate 47 = .ok (.invokevirtual 153, 3) := by decide +kernel
theorem dX10_abbreviate_50 : decode cX10_abbreviate 50 = .ok (.goto 11, 3) := by decide +kernel
theorem dX10_abbreviate_53 : decode cX10_abbreviate 53 = .ok (.aload_n 0, 1) := by decide +kernel
theorem dX10_abbreviate_54 : decode cX10_abbreviate 54 = .ok (.aload_n 0, 1) := by decide +kernel
theorem dX10_abbreviate_55 : decode cX10_abbreviate 55 = .ok (.getfield 126, 3) := by decide +kernel
theorem dX10_abbreviate_58 : decode cX10_abbreviate 58 = .ok (.putfield 143, 3) := by decide +kernel
theorem dX10_abbreviate_61 : decode cX10_abbreviate 61 = .ok (.iinc 1 1, 3) := by decide +kernel
theorem dX10_abbreviate_64 : decode cX10_abbreviate 64 = .ok (.goto (-57), 3) := by decide +kernel
theorem dX10_abbreviate_67 : decode cX10_abbreviate 67 = .ok (.iload_n 1, 1) := by decide +kernel
theorem dX10_abbreviate_68 : decode cX10_abbreviate 68 = .ok (.iconst 1, 1) := by decide +kernel
theorem dX10_abbreviate_69 : decode cX10_abbreviate 69 = .ok (.if_icmp .eq 6, 3) := by decide +kernel
theorem dX10_abbreviate_72 : decode cX10_abbreviate 72 = .ok (.ldc 156, 2) := by decide +kernel
theorem dX10_abbreviate_74 : decode cX10_abbreviate 74 = .ok (.ireturn, 1) := by decide +kernel
theorem dX10_abbreviate_75 : decode cX10_abbreviate 75 = .ok (.aload_n 0, 1) := by decide +kernel
theorem dX10_abbreviate_76 : decode cX10_abbreviate 76 = .ok (.invokevirtual 157, 3) := by decide +kernel
theorem dX10_abbreviate_79 : decode cX10_abbreviate 79 = .ok (.ifCond .ne 74, 3) := by decide +kernel
theorem dX10_abbreviate_82 : decode cX10_abbreviate 82 = .ok (.aload_n 0, 1) := by decide +kernel
theorem dX10_abbreviate_83 : decode cX10_abbreviate 83 = .ok (.getfield 150, 3) := by decide +kernel
theorem dX10_abbreviate_86 : decode cX10_abbreviate 86 = .ok (.bipush 6, 2) := by decide +kernel
theorem dX10_abbreviate_88 : decode cX10_abbreviate 88 = .ok (.if_icmp .ne 6, 3) := by decide +kernel
theorem dX10_abbreviate_91 : decode cX10_abbreviate 91 = .ok (.ldc 130, 2) := by decide +kernel
theorem dX10_abbreviate_93 : decode cX10_abbreviate 93 = .ok (.ireturn, 1) := by decide +kernel
theorem dX10_abbreviate_94 : decode cX10_abbreviate 94 = .ok (.aload_n 0, 1) := by decide +kernel
theorem dX10_abbreviate_95 : decode cX10_abbreviate 95 = .ok (.getfield 16, 3) := by decide +kernel
theorem dX10_abbreviate_98 : decode cX10_abbreviate 98 = .ok (.aload_n 0, 1) := by decide +kernel
theorem dX10_abbreviate_99 : decode cX10_abbreviate 99 = .ok (.getfield 150, 3) := by decide +kernel
theorem dX10_abbreviate_102 : decode cX10_abbreviate 102 = .ok (.aload_n 0, 1) := by decide +kernel
theorem dX10_abbreviate_103 : decode cX10_abbreviate 103 = .ok (.getfield 140, 3) := by decide +kernel
theorem dX10_abbreviate_106 : decode cX10_abbreviate 106 = .ok (.iastore, 1) := by decide +kernel
theorem dX10_abbreviate_107 : decode cX10_abbreviate 107 = .ok (.iconst 0, 1) := by decide +kernel
theorem dX10_abbreviate_108 : decode cX10_abbreviate 108 = .ok (.istore_n 2, 1) := by decide +kernel
theorem dX10_abbreviate_109 : decode cX10_abbreviate 109 = .ok (.iload_n 2, 1) := by decide +kernel
theorem dX10_abbreviate_110 : decode cX10_abbreviate 110 = .ok (.aload_n 0, 1) := by decide +kernel
theorem dX10_abbreviate_111 : decode cX10_abbreviate 111 = .ok (.getfield 140, 3) := by decide +kernel
theorem dX10_abbreviate_114 : decode cX10_abbreviate 114 = .ok (.if_icmp .ge 29, 3) := by decide +kernel
theorem dX10_abbreviate_117 : decode cX10_abbreviate 117 = .ok (.aload_n 0, 1) := by decide +kernel
theorem dX10_abbreviate_118 : decode cX10_abbreviate 118 = .ok (.getfield 13, 3) := by decide +kernel
theorem dX10_abbreviate_121 : decode cX10_abbreviate 121 = .ok (.bipush 10, 2) := by decide +kernel
theorem dX10_abbreviate_123 : decode cX10_abbreviate 123 = .ok (.aload_n 0, 1) := by decide +kernel
theorem dX10_abbreviate_124 : decode cX10_abbreviate 124 = .ok (.getfield 150, 3) := by decide +kernel
theorem dX10_abbreviate_127 : decode cX10_abbreviate 127 = .ok (.imul, 1) := by decide +kernel
theorem dX10_abbreviate_128 : decode cX10_abbreviate 128 = .ok (.iload_n 2, 1) := by decide +kernel
theorem dX10_abbreviate_129 : decode cX10_abbreviate 129 = .ok (.iadd, 1) := by decide +kernel
theorem dX10_abbreviate_130 : decode cX10_abbreviate 130 = .ok (.aload_n 0, 1) := by decide +kernel
theorem dX10_abbreviate_131 : decode cX10_abbreviate 131 = .ok (.getfield 55, 3) := by decide +kernel
theorem dX10_abbreviate_134 : decode cX10_abbreviate 134 = .ok (.iload_n 2, 1) := by decide +kernel
theorem dX10_abbreviate_135 : decode cX10_abbreviate 135 = .ok (.iaload, 1) := by decide +kernel
theorem dX10_abbreviate_136 : decode cX10_abbreviate 136 = .ok (.iastore, 1) := by decide +kernel
theorem dX10_abbreviate_137 : decode cX10_abbreviate 137 = .ok (.iinc 2 1, 3) := by decide +kernel
theorem dX10_abbreviate_140 : decode cX10_abbreviate 140 = .ok (.goto (-31), 3) := by decide +kernel
theorem dX10_abbreviate_143 : decode cX10_abbreviate 143 = .ok (.aload_n 0, 1) := by decide +kernel
theorem dX10_abbreviate_144 : decode cX10_abbreviate 144 = .ok (.dup, 1) := by decide +kernel
theorem dX10_abbreviate_145 : decode cX10_abbreviate 145 = .ok (.getfield 150, 3) := by decide +kernel
theorem dX10_abbreviate_148 : decode cX10_abbreviate 148 = .ok (.iconst 1, 1) := by decide +kernel
theorem dX10_abbreviate_149 : decode cX10_abbreviate 149 = .ok (.iadd, 1) := by decide +kernel
theorem dX10_abbreviate_150 : decode cX10_abbreviate 150 = .ok (.putfield 150, 3) := by decide +kernel
theorem dX10_abbreviate_153 : decode cX10_abbreviate 153 = .ok (.aload_n 0, 1) := by decide +kernel
theorem dX10_abbreviate_154 : decode cX10_abbreviate 154 = .ok (.iconst 0, 1) := by decide +kernel
theorem dX10_abbreviate_155 : decode cX10_abbreviate 155 = .ok (.putfield 126, 3) := by decide +kernel
theorem dX10_abbreviate_158 : decode cX10_abbreviate 158 = .ok (.aload_n 0, 1) := by decide +kernel
theorem dX10_abbreviate_159 : decode cX10_abbreviate 159 = .ok (.getfield 150, 3) := by decide +kernel
theorem dX10_abbreviate_162 : decode cX10_abbreviate 162 = .ok (.ireturn, 1) := by decide +kernel
theorem dX10_newKind_0 : decode cX10_newKind 0 = .ok (.iconst 0, 1) := by decide +kernel
theorem dX10_newKind_1 : decode cX10_newKind 1 = .ok (.istore_n 1, 1) := by decide +kernel
theorem dX10_newKind_2 : decode cX10_newKind 2 = .ok (.iload_n 1, 1) := by decide +kernel
theorem dX10_newKind_3 : decode cX10_newKind 3 = .ok (.aload_n 0, 1) := by decide +kernel
theorem dX10_newKind_4 : decode cX10_newKind 4 = .ok (.getfield 161, 3) := by decide +kernel
theorem dX10_newKind_7 : decode cX10_newKind 7 = .ok (.if_icmp .ge 80, 3) := by decide +kernel
theorem dX10_newKind_10 : decode cX10_newKind 10 = .ok (.aload_n 0, 1) := by decide +kernel
theorem dX10_newKind_11 : decode cX10_newKind 11 = .ok (.getfield 67, 3) := by decide +kernel
theorem dX10_newKind_14 : decode cX10_newKind 14 = .ok (.iload_n 1, 1) := by decide +kernel
theorem dX10_newKind_15 : decode cX10_newKind 15 = .ok (.iaload, 1) := by decide +kernel
theorem dX10_newKind_16 : decode cX10_newKind 16 = .ok (.aload_n 0, 1) := by decide +kernel
theorem dX10_newKind_17 : decode cX10_newKind 17 = .ok (.getfield 140, 3) := by decide +kernel
theorem dX10_newKind_20 : decode cX10_newKind 20 = .ok (.if_icmp .ne 7, 3) := by decide +kernel
theorem dX10_newKind_23 : decode cX10_newKind 23 = .ok (.iconst 1, 1) := by decide +kernel
theorem dX10_newKind_24 : decode cX10_newKind 24 = .ok (.goto 4, 3) := by decide +kernel
theorem dX10_newKind_27 : decode cX10_newKind 27 = .ok (.iconst 0, 1) := by decide +kernel
theorem dX10_newKind_28 : decode cX10_newKind 28 = .ok (.istore_n 2, 1) := by decide +kernel
theorem dX10_newKind_29 : decode cX10_newKind 29 = .ok (.iconst 0, 1) := by decide +kernel
theorem dX10_newKind_30 : decode cX10_newKind 30 = .ok (.istore_n 3, 1) := by decide +kernel
theorem dX10_newKind_31 : decode cX10_newKind 31 = .ok (.iload_n 3, 1) := by decide +kernel
theorem dX10_newKind_32 : decode cX10_newKind 32 = .ok (.aload_n 0, 1) := by decide +kernel
theorem dX10_newKind_33 : decode cX10_newKind 33 = .ok (.getfield 140, 3) := by decide +kernel
theorem dX10_newKind_36 : decode cX10_newKind 36 = .ok (.if_icmp .ge 39, 3) := by decide +kernel
theorem dX10_newKind_39 : decode cX10_newKind 39 = .ok (.iload_n 2, 1) := by decide +kernel
theorem dX10_newKind_40 : decode cX10_newKind 40 = .ok (.ifCond .eq 35, 3) := by decide +kernel
theorem dX10_newKind_43 : decode cX10_newKind 43 = .ok (.aload_n 0, 1) := by decide +kernel
theorem dX10_newKind_44 : decode cX10_newKind 44 = .ok (.getfield 70, 3) := by decide +kernel
theorem dX10_newKind_47 : decode cX10_newKind 47 = .ok (.bipush 10, 2) := by decide +kernel
theorem dX10_newKind_49 : decode cX10_newKind 49 = .ok (.iload_n 1, 1) := by decide +kernel
theorem dX10_newKind_50 : decode cX10_newKind 50 = .ok (.imul, 1) := by decide +kernel
theorem dX10_newKind_51 : decode cX10_newKind 51 = .ok (.iload_n 3, 1) := by decide +kernel
theorem dX10_newKind_52 : decode cX10_newKind 52 = .ok (.iadd, 1) := by decide +kernel
theorem dX10_newKind_53 : decode cX10_newKind 53 = .ok (.iaload, 1) := by decide +kernel
theorem dX10_newKind_54 : decode cX10_newKind 54 = .ok (.aload_n 0, 1) := by decide +kernel
theorem dX10_newKind_55 : decode cX10_newKind 55 = .ok (.getfield 55, 3) := by decide +kernel
theorem dX10_newKind_58 : decode cX10_newKind 58 = .ok (.iload_n 3, 1) := by decide +kernel
theorem dX10_newKind_59 : decode cX10_newKind 59 = .ok (.iaload, 1) := by decide +kernel
theorem dX10_newKind_60 : decode cX10_newKind 60 = .ok (.if_icmp .ne 7, 3) := by decide +kernel
theorem dX10_newKind_63 : decode cX10_newKind 63 = .ok (.iconst 1, 1) := by decide +kernel
theorem dX10_newKind_64 : decode cX10_newKind 64 = .ok (.goto 4, 3) := by decide +kernel
theorem dX10_newKind_67 : decode cX10_newKind 67 = .ok (.iconst 0, 1) := by decide +kernel
theorem dX10_newKind_68 : decode cX10_newKind 68 = .ok (.istore_n 2, 1) := by decide +kernel
theorem dX10_newKind_69 : decode cX10_newKind 69 = .ok (.iinc 3 1, 3) := by decide +kernel
theorem dX10_newKind_72 : decode cX10_newKind 72 = .ok (.goto (-41), 3) := by decide +kernel
theorem dX10_newKind_75 : decode cX10_newKind 75 = .ok (.iload_n 2, 1) := by decide +kernel
theorem dX10_newKind_76 : decode cX10_newKind 76 = .ok (.ifCond .eq 5, 3) := by decide +kernel
theorem dX10_newKind_79 : decode cX10_newKind 79 = .ok (.iload_n 1, 1) := by decide +kernel
theorem dX10_newKind_80 : decode cX10_newKind 80 = .ok (.ireturn, 1) := by decide +kernel
theorem dX10_newKind_81 : decode cX10_newKind 81 = .ok (.iinc 1 1, 3) := by decide +kernel
theorem dX10_newKind_84 : decode cX10_newKind 84 = .ok (.goto (-82), 3) := by decide +kernel
theorem dX10_newKind_87 : decode cX10_newKind 87 = .ok (.aload_n 0, 1) := by decide +kernel
theorem dX10_newKind_88 : decode cX10_newKind 88 = .ok (.getfield 161, 3) := by decide +kernel
theorem dX10_newKind_91 : decode cX10_newKind 91 = .ok (.bipush 40, 2) := by decide +kernel
theorem dX10_newKind_93 : decode cX10_newKind 93 = .ok (.if_icmp .ne 5, 3) := by decide +kernel
theorem dX10_newKind_96 : decode cX10_newKind 96 = .ok (.iconst (-1), 1) := by decide +kernel
theorem dX10_newKind_97 : decode cX10_newKind 97 = .ok (.ireturn, 1) := by decide +kernel
theorem dX10_newKind_98 : decode cX10_newKind 98 = .ok (.aload_n 0, 1) := by decide +kernel
theorem dX10_newKind_99 : decode cX10_newKind 99 = .ok (.getfield 67, 3) := by decide +kernel
theorem dX10_newKind_102 : decode cX10_newKind 102 = .ok (.aload_n 0, 1) := by decide +kernel
theorem dX10_newKind_103 : decode cX10_newKind 103 = .ok (.getfield 161, 3) := by decide +kernel
