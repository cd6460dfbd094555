theorem dX2_union_17 : decode cX2_union 17 = .ok (.iaload, 1) := by decide +kernel
theorem dX2_union_18 : decode cX2_union 18 = .ok (.ior, 1) := by decide +kernel
theorem dX2_union_19 : decode cX2_union 19 = .ok (.istore_n 3, 1) := by decide +kernel
theorem dX2_union_20 : decode cX2_union 20 = .ok (.iinc 4 1, 3) := by decide +kernel
theorem dX2_union_23 : decode cX2_union 23 = .ok (.goto (-18), 3) := by decide +kernel
theorem dX2_union_26 : decode cX2_union 26 = .ok (.iload_n 3, 1) := by decide +kernel
theorem dX2_union_27 : decode cX2_union 27 = .ok (.ireturn, 1) := by decide +kernel
theorem dX2_rowBits_0 : decode cX2_rowBits 0 = .ok (.iconst 1, 1) := by decide +kernel
theorem dX2_rowBits_1 : decode cX2_rowBits 1 = .ok (.iload_n 1, 1) := by decide +kernel
theorem dX2_rowBits_2 : decode cX2_rowBits 2 = .ok (.iconst 1, 1) := by decide +kernel
theorem dX2_rowBits_3 : decode cX2_rowBits 3 = .ok (.iadd, 1) := by decide +kernel
theorem dX2_rowBits_4 : decode cX2_rowBits 4 = .ok (.ishl, 1) := by decide +kernel
theorem dX2_rowBits_5 : decode cX2_rowBits 5 = .ok (.iconst 1, 1) := by decide +kernel
theorem dX2_rowBits_6 : decode cX2_rowBits 6 = .ok (.isub, 1) := by decide +kernel
theorem dX2_rowBits_7 : decode cX2_rowBits 7 = .ok (.iload_n 0, 1) := by decide +kernel
theorem dX2_rowBits_8 : decode cX2_rowBits 8 = .ok (.ishl, 1) := by decide +kernel
theorem dX2_rowBits_9 : decode cX2_rowBits 9 = .ok (.ireturn, 1) := by decide +kernel
theorem dX3_init_0 : decode cX3_init 0 = .ok (.aload_n 0, 1) := by decide +kernel
theorem dX3_init_1 : decode cX3_init 1 = .ok (.invokespecial 3, 3) := by decide +kernel
theorem dX3_init_4 : decode cX3_init 4 = .ok (.aload_n 0, 1) := by decide +kernel
theorem dX3_init_5 : decode cX3_init 5 = .ok (.bipush 20, 2) := by decide +kernel
theorem dX3_init_7 : decode cX3_init 7 = .ok (.newarray .int, 2) := by decide +kernel
theorem dX3_init_9 : decode cX3_init 9 = .ok (.putfield 9, 3) := by decide +kernel
theorem dX3_init_12 : decode cX3_init 12 = .ok (.aload_n 0, 1) := by decide +kernel
theorem dX3_init_13 : decode cX3_init 13 = .ok (.bipush 20, 2) := by decide +kernel
theorem dX3_init_15 : decode cX3_init 15 = .ok (.newarray .int, 2) := by decide +kernel
theorem dX3_init_17 : decode cX3_init 17 = .ok (.putfield 15, 3) := by decide +kernel
theorem dX3_init_20 : decode cX3_init 20 = .ok (.aload_n 0, 1) := by decide +kernel
theorem dX3_init_21 : decode cX3_init 21 = .ok (.getfield 9, 3) := by decide +kernel
theorem dX3_init_24 : decode cX3_init 24 = .ok (.iconst (-1), 1) := by decide +kernel
theorem dX3_init_25 : decode cX3_init 25 = .ok (.invokestatic 18, 3) := by decide +kernel
theorem dX3_init_28 : decode cX3_init 28 = .ok (.aload_n 0, 1) := by decide +kernel
theorem dX3_init_29 : decode cX3_init 29 = .ok (.getfield 15, 3) := by decide +kernel
theorem dX3_init_32 : decode cX3_init 32 = .ok (.iconst (-1), 1) := by decide +kernel
theorem dX3_init_33 : decode cX3_init 33 = .ok (.invokestatic 18, 3) := by decide +kernel
theorem dX3_init_36 : decode cX3_init 36 = .ok (.return_, 1) := by decide +kernel
theorem dX3_forgetAll_0 : decode cX3_forgetAll 0 = .ok (.aload_n 0, 1) := by decide +kernel
theorem dX3_forgetAll_1 : decode cX3_forgetAll 1 = .ok (.getfield 9, 3) := by decide +kernel
theorem dX3_forgetAll_4 : decode cX3_forgetAll 4 = .ok (.iconst (-1), 1) := by decide +kernel
theorem dX3_forgetAll_5 : decode cX3_forgetAll 5 = .ok (.invokestatic 18, 3) := by decide +kernel
theorem dX3_forgetAll_8 : decode cX3_forgetAll 8 = .ok (.aload_n 0, 1) := by decide +kernel
theorem dX3_forgetAll_9 : decode cX3_forgetAll 9 = .ok (.getfield 15, 3) := by decide +kernel
theorem dX3_forgetAll_12 : decode cX3_forgetAll 12 = .ok (.iconst (-1), 1) := by decide +kernel
theorem dX3_forgetAll_13 : decode cX3_forgetAll 13 = .ok (.invokestatic 18, 3) := by decide +kernel
theorem dX3_forgetAll_16 : decode cX3_forgetAll 16 = .ok (.aload_n 0, 1) := by decide +kernel
theorem dX3_forgetAll_17 : decode cX3_forgetAll 17 = .ok (.iconst 0, 1) := by decide +kernel
theorem dX3_forgetAll_18 : decode cX3_forgetAll 18 = .ok (.putfield 24, 3) := by decide +kernel
theorem dX3_forgetAll_21 : decode cX3_forgetAll 21 = .ok (.return_, 1) := by decide +kernel
theorem dX3_mayTie_0 : decode cX3_mayTie 0 = .ok (.aload_n 0, 1) := by decide +kernel
theorem dX3_mayTie_1 : decode cX3_mayTie 1 = .ok (.getfield 9, 3) := by decide +kernel
theorem dX3_mayTie_4 : decode cX3_mayTie 4 = .ok (.iload_n 1, 1) := by decide +kernel
theorem dX3_mayTie_5 : decode cX3_mayTie 5 = .ok (.iaload, 1) := by decide +kernel
theorem dX3_mayTie_6 : decode cX3_mayTie 6 = .ok (.iconst (-1), 1) := by decide +kernel
theorem dX3_mayTie_7 : decode cX3_mayTie 7 = .ok (.if_icmp .ne 13, 3) := by decide +kernel
theorem dX3_mayTie_10 : decode cX3_mayTie 10 = .ok (.aload_n 0, 1) := by decide +kernel
theorem dX3_mayTie_11 : decode cX3_mayTie 11 = .ok (.getfield 15, 3) := by decide +kernel
theorem dX3_mayTie_14 : decode cX3_mayTie 14 = .ok (.iload_n 2, 1) := by decide +kernel
theorem dX3_mayTie_15 : decode cX3_mayTie 15 = .ok (.iaload, 1) := by decide +kernel
theorem dX3_mayTie_16 : decode cX3_mayTie 16 = .ok (.iconst (-1), 1) := by decide +kernel
theorem dX3_mayTie_17 : decode cX3_mayTie 17 = .ok (.if_icmp .eq 5, 3) := by decide +kernel
theorem dX3_mayTie_20 : decode cX3_mayTie 20 = .ok (.iconst 0, 1) := by decide +kernel
theorem dX3_mayTie_21 : decode cX3_mayTie 21 = .ok (.ireturn, 1) := by decide +kernel
theorem dX3_mayTie_22 : decode cX3_mayTie 22 = .ok (.iconst 0, 1) := by decide +kernel
theorem dX3_mayTie_23 : decode cX3_mayTie 23 = .ok (.istore_n 3, 1) := by decide +kernel
theorem dX3_mayTie_24 : decode cX3_mayTie 24 = .ok (.iload_n 3, 1) := by decide +kernel
theorem dX3_mayTie_25 : decode cX3_mayTie 25 = .ok (.bipush 20, 2) := by decide +kernel
theorem dX3_mayTie_27 : decode cX3_mayTie 27 = .ok (.if_icmp .ge 38, 3) := by decide +kernel
theorem dX3_mayTie_30 : decode cX3_mayTie 30 = .ok (.aload_n 0, 1) := by decide +kernel
theorem dX3_mayTie_31 : decode cX3_mayTie 31 = .ok (.getfield 9, 3) := by decide +kernel
theorem dX3_mayTie_34 : decode cX3_mayTie 34 = .ok (.iload_n 3, 1) := by decide +kernel
theorem dX3_mayTie_35 : decode cX3_mayTie 35 = .ok (.iaload, 1) := by decide +kernel
theorem dX3_mayTie_36 : decode cX3_mayTie 36 = .ok (.iconst (-1), 1) := by decide +kernel
theorem dX3_mayTie_37 : decode cX3_mayTie 37 = .ok (.if_icmp .eq 22, 3) := by decide +kernel
theorem dX3_mayTie_40 : decode cX3_mayTie 40 = .ok (.iload_n 1, 1) := by decide +kernel
theorem dX3_mayTie_41 : decode cX3_mayTie 41 = .ok (.iload_n 3, 1) := by decide +kernel
theorem dX3_mayTie_42 : decode cX3_mayTie 42 = .ok (.isub, 1) := by decide +kernel
theorem dX3_mayTie_43 : decode cX3_mayTie 43 = .ok (.iload_n 2, 1) := by decide +kernel
theorem dX3_mayTie_44 : decode cX3_mayTie 44 = .ok (.aload_n 0, 1) := by decide +kernel
theorem dX3_mayTie_45 : decode cX3_mayTie 45 = .ok (.getfield 9, 3) := by decide +kernel
theorem dX3_mayTie_48 : decode cX3_mayTie 48 = .ok (.iload_n 3, 1) := by decide +kernel
theorem dX3_mayTie_49 : decode cX3_mayTie 49 = .ok (.iaload, 1) := by decide +kernel
theorem dX3_mayTie_50 : decode cX3_mayTie 50 = .ok (.isub, 1) := by decide +kernel
theorem dX3_mayTie_51 : decode cX3_mayTie 51 = .ok (.invokestatic 28, 3) := by decide +kernel
theorem dX3_mayTie_54 : decode cX3_mayTie 54 = .ok (.ifCond .eq 5, 3) := by decide +kernel
theorem dX3_mayTie_57 : decode cX3_mayTie 57 = .ok (.iconst 0, 1) := by decide +kernel
theorem dX3_mayTie_58 : decode cX3_mayTie 58 = .ok (.ireturn, 1) := by decide +kernel
theorem dX3_mayTie_59 : decode cX3_mayTie 59 = .ok (.iinc 3 1, 3) := by decide +kernel
theorem dX3_mayTie_62 : decode cX3_mayTie 62 = .ok (.goto (-38), 3) := by decide +kernel
theorem dX3_mayTie_65 : decode cX3_mayTie 65 = .ok (.iconst 1, 1) := by decide +kernel
theorem dX3_mayTie_66 : decode cX3_mayTie 66 = .ok (.ireturn, 1) := by decide +kernel
theorem dX3_isAcross_0 : decode cX3_isAcross 0 = .ok (.iload_n 0, 1) := by decide +kernel
theorem dX3_isAcross_1 : decode cX3_isAcross 1 = .ok (.ifCond .ge 7, 3) := by decide +kernel
theorem dX3_isAcross_4 : decode cX3_isAcross 4 = .ok (.iload_n 1, 1) := by decide +kernel
theorem dX3_isAcross_5 : decode cX3_isAcross 5 = .ok (.ifCond .gt 11, 3) := by decide +kernel
theorem dX3_isAcross_8 : decode cX3_isAcross 8 = .ok (.iload_n 0, 1) := by decide +kernel
theorem dX3_isAcross_9 : decode cX3_isAcross 9 = .ok (.ifCond .le 11, 3) := by decide +kernel
theorem dX3_isAcross_12 : decode cX3_isAcross 12 = .ok (.iload_n 1, 1) := by decide +kernel
theorem dX3_isAcross_13 : decode cX3_isAcross 13 = .ok (.ifCond .ge 7, 3) := by decide +kernel
theorem dX3_isAcross_16 : decode cX3_isAcross 16 = .ok (.iconst 1, 1) := by decide +kernel
theorem dX3_isAcross_17 : decode cX3_isAcross 17 = .ok (.goto 4, 3) := by decide +kernel
theorem dX3_isAcross_20 : decode cX3_isAcross 20 = .ok (.iconst 0, 1) := by decide +kernel
theorem dX3_isAcross_21 : decode cX3_isAcross 21 = .ok (.istore_n 2, 1) := by decide +kernel
theorem dX3_isAcross_22 : decode cX3_isAcross 22 = .ok (.iload_n 0, 1) := by decide +kernel
theorem dX3_isAcross_23 : decode cX3_isAcross 23 = .ok (.iconst 1, 1) := by decide +kernel
theorem dX3_isAcross_24 : decode cX3_isAcross 24 = .ok (.if_icmp .ne 8, 3) := by decide +kernel
theorem dX3_isAcross_27 : decode cX3_isAcross 27 = .ok (.iload_n 1, 1) := by decide +kernel
theorem dX3_isAcross_28 : decode cX3_isAcross 28 = .ok (.iconst (-1), 1) := by decide +kernel
theorem dX3_isAcross_29 : decode cX3_isAcross 29 = .ok (.if_icmp .eq 13, 3) := by decide +kernel
theorem dX3_isAcross_32 : decode cX3_isAcross 32 = .ok (.iload_n 0, 1) := by decide +kernel
theorem dX3_isAcross_33 : decode cX3_isAcross 33 = .ok (.iconst (-1), 1) := by decide +kernel
theorem dX3_isAcross_34 : decode cX3_isAcross 34 = .ok (.if_icmp .ne 12, 3) := by decide +kernel
theorem dX3_isAcross_37 : decode cX3_isAcross 37 = .ok (.iload_n 1, 1) := by decide +kernel
theorem dX3_isAcross_38 : decode cX3_isAcross 38 = .ok (.iconst 1, 1) := by decide +kernel
theorem dX3_isAcross_39 : decode cX3_isAcross 39 = .ok (.if_icmp .ne 7, 3) := by decide +kernel
theorem dX3_isAcross_42 : decode cX3_isAcross 42 = .ok (.iconst 1, 1) := by decide +kernel
theorem dX3_isAcross_43 : decode cX3_isAcross 43 = .ok (.goto 4, 3) := by decide +kernel
theorem dX3_isAcross_46 : decode cX3_isAcross 46 = .ok (.iconst 0, 1) := by decide +kernel
theorem dX3_isAcross_47 : decode cX3_isAcross 47 = .ok (.istore_n 3, 1) := by decide +kernel
theorem dX3_isAcross_48 : decode cX3_isAcross 48 = .ok (.iload_n 2, 1) := by decide +kernel
theorem dX3_isAcross_49 : decode cX3_isAcross 49 = .ok (.ifCond .eq 11, 3) := by decide +kernel
theorem dX3_isAcross_52 : decode cX3_isAcross 52 = .ok (.iload_n 3, 1) := by decide +kernel
theorem dX3_isAcross_53 : decode cX3_isAcross 53 = .ok (.ifCond .ne 7, 3) := by decide +kernel
theorem dX3_isAcross_56 : decode cX3_isAcross 56 = .ok (.iconst 1, 1) := by decide +kernel
theorem dX3_isAcross_57 : decode cX3_isAcross 57 = .ok (.goto 4, 3) := by decide +kernel
theorem dX3_isAcross_60 : decode cX3_isAcross 60 = .ok (.iconst 0, 1) := by decide +kernel
theorem dX3_isAcross_61 : decode cX3_isAcross 61 = .ok (.ireturn, 1) := by decide +kernel
theorem dX3_tie_0 : decode cX3_tie 0 = .ok (.aload_n 0, 1) := by decide +kernel
theorem dX3_tie_1 : decode cX3_tie 1 = .ok (.getfield 9, 3) := by decide +kernel
theorem dX3_tie_4 : decode cX3_tie 4 = .ok (.iload_n 1, 1) := by decide +kernel
theorem dX3_tie_5 : decode cX3_tie 5 = .ok (.iload_n 2, 1) := by decide +kernel
theorem dX3_tie_6 : decode cX3_tie 6 = .ok (.iastore, 1) := by decide +kernel
theorem dX3_tie_7 : decode cX3_tie 7 = .ok (.aload_n 0, 1) := by decide +kernel
theorem dX3_tie_8 : decode cX3_tie 8 = .ok (.getfield 15, 3) := by decide +kernel
theorem dX3_tie_11 : decode cX3_tie 11 = .ok (.iload_n 2, 1) := by decide +kernel
theorem dX3_tie_12 : decode cX3_tie 12 = .ok (.iload_n 1, 1) := by decide +kernel
theorem dX3_tie_13 : decode cX3_tie 13 = .ok (.iastore, 1) := by decide +kernel
theorem dX3_tie_14 : decode cX3_tie 14 = .ok (.aload_n 0, 1) := by decide +kernel
theorem dX3_tie_15 : decode cX3_tie 15 = .ok (.dup, 1) := by decide +kernel
theorem dX3_tie_16 : decode cX3_tie 16 = .ok (.getfield 24, 3) := by decide +kernel
theorem dX3_tie_19 : decode cX3_tie 19 = .ok (.iconst 1, 1) := by decide +kernel
theorem dX3_tie_20 : decode cX3_tie 20 = .ok (.iadd, 1) := by decide +kernel
theorem dX3_tie_21 : decode cX3_tie 21 = .ok (.putfield 24, 3) := by decide +kernel
theorem dX3_tie_24 : decode cX3_tie 24 = .ok (.return_, 1) := by decide +kernel
theorem dX3_untie_0 : decode cX3_untie 0 = .ok (.aload_n 0, 1) := by decide +kernel
theorem dX3_untie_1 : decode cX3_untie 1 = .ok (.getfield 9, 3) := by decide +kernel
theorem dX3_untie_4 : decode cX3_untie 4 = .ok (.iload_n 1, 1) := by decide +kernel
theorem dX3_untie_5 : decode cX3_untie 5 = .ok (.iaload, 1) := by decide +kernel
theorem dX3_untie_6 : decode cX3_untie 6 = .ok (.iconst (-1), 1) := by decide +kernel
theorem dX3_untie_7 : decode cX3_untie 7 = .ok (.if_icmp .ne 5, 3) := by decide +kernel
theorem dX3_untie_10 : decode cX3_untie 10 = .ok (.iconst 0, 1) := by decide +kernel
theorem dX3_untie_11 : decode cX3_untie 11 = .ok (.ireturn, 1) := by decide +kernel
theorem dX3_untie_12 : decode cX3_untie 12 = .ok (.aload_n 0, 1) := by decide +kernel
theorem dX3_untie_13 : decode cX3_untie 13 = .ok (.getfield 15, 3) := by decide +kernel
theorem dX3_untie_16 : decode cX3_untie 16 = .ok (.aload_n 0, 1) := by decide +kernel
theorem dX3_untie_17 : decode cX3_untie 17 = .ok (.getfield 9, 3) := by decide +kernel
theorem dX3_untie_20 : decode cX3_untie 20 = .ok (.iload_n 1, 1) := by decide +kernel
theorem dX3_untie_21 : decode cX3_untie 21 = .ok (.iaload, 1) := by decide +kernel
theorem dX3_untie_22 : decode cX3_untie 22 = .ok (.iconst (-1), 1) := by decide +kernel
theorem dX3_untie_23 : decode cX3_untie 23 = .ok (.iastore, 1) := by decide +kernel
theorem dX3_untie_24 : decode cX3_untie 24 = .ok (.aload_n 0, 1) := by decide +kernel
theorem dX3_untie_25 : decode cX3_untie 25 = .ok (.getfield 9, 3) := by decide +kernel
theorem dX3_untie_28 : decode cX3_untie 28 = .ok (.iload_n 1, 1) := by decide +kernel
theorem dX3_untie_29 : decode cX3_untie 29 = .ok (.iconst (-1), 1) := by decide +kernel
theorem dX3_untie_30 : decode cX3_untie 30 = .ok (.iastore, 1) := by decide +kernel
theorem dX3_untie_31 : decode cX3_untie 31 = .ok (.aload_n 0, 1) := by decide +kernel
theorem dX3_untie_32 : decode cX3_untie 32 = .ok (.dup, 1) := by decide +kernel
theorem dX3_untie_33 : decode cX3_untie 33 = .ok (.getfield 24, 3) := by decide +kernel
theorem dX3_untie_36 : decode cX3_untie 36 = .ok (.iconst 1, 1) := by decide +kernel
theorem dX3_untie_37 : decode cX3_untie 37 = .ok (.isub, 1) := by decide +kernel
theorem dX3_untie_38 : decode cX3_untie 38 = .ok (.putfield 24, 3) := by decide +kernel
theorem dX3_untie_41 : decode cX3_untie 41 = .ok (.iconst 1, 1) := by decide +kernel
theorem dX3_untie_42 : decode cX3_untie 42 = .ok (.ireturn, 1) := by decide +kernel
theorem dX3_allow_0 : decode cX3_allow 0 = .ok (.iconst 0, 1) := by decide +kernel
theorem dX3_allow_1 : decode cX3_allow 1 = .ok (.istore 4, 2) := by decide +kernel
theorem dX3_allow_3 : decode cX3_allow 3 = .ok (.iload 4, 2) := by decide +kernel
theorem dX3_allow_5 : decode cX3_allow 5 = .ok (.getstatic 32, 3) := by decide +kernel
theorem dX3_allow_8 : decode cX3_allow 8 = .ok (.iload_n 1, 1) := by decide +kernel
theorem dX3_allow_9 : decode cX3_allow 9 = .ok (.iaload, 1) := by decide +kernel
theorem dX3_allow_10 : decode cX3_allow 10 = .ok (.if_icmp .ge 41, 3) := by decide +kernel
theorem dX3_allow_13 : decode cX3_allow 13 = .ok (.aload_n 0, 1) := by decide +kernel
theorem dX3_allow_14 : decode cX3_allow 14 = .ok (.getfield 9, 3) := by decide +kernel
theorem dX3_allow_17 : decode cX3_allow 17 = .ok (.iload_n 2, 1) := by decide +kernel
theorem dX3_allow_18 : decode cX3_allow 18 = .ok (.iload 4, 2) := by decide +kernel
theorem dX3_allow_20 : decode cX3_allow 20 = .ok (.iadd, 1) := by decide +kernel
theorem dX3_allow_21 : decode cX3_allow 21 = .ok (.iaload, 1) := by decide +kernel
theorem dX3_allow_22 : decode cX3_allow 22 = .ok (.istore 5, 2) := by decide +kernel
theorem dX3_allow_24 : decode cX3_allow 24 = .ok (.iload 5, 2) := by decide +kernel
theorem dX3_allow_26 : decode cX3_allow 26 = .ok (.iconst (-1), 1) := by decide +kernel
theorem dX3_allow_27 : decode cX3_allow 27 = .ok (.if_icmp .eq 18, 3) := by decide +kernel
theorem dX3_allow_30 : decode cX3_allow 30 = .ok (.iload_n 1, 1) := by decide +kernel
theorem dX3_allow_31 : decode cX3_allow 31 = .ok (.iload 4, 2) := by decide +kernel
theorem dX3_allow_33 : decode cX3_allow 33 = .ok (.iload 5, 2) := by decide +kernel
theorem dX3_allow_35 : decode cX3_allow 35 = .ok (.iload_n 3, 1) := by decide +kernel
theorem dX3_allow_36 : decode cX3_allow 36 = .ok (.isub, 1) := by decide +kernel
theorem dX3_allow_37 : decode cX3_allow 37 = .ok (.invokestatic 35, 3) := by decide +kernel
theorem dX3_allow_40 : decode cX3_allow 40 = .ok (.ifCond .ne 5, 3) := by decide +kernel
theorem dX3_allow_43 : decode cX3_allow 43 = .ok (.iconst 0, 1) := by decide +kernel
theorem dX3_allow_44 : decode cX3_allow 44 = .ok (.ireturn, 1) := by decide +kernel
theorem dX3_allow_45 : decode cX3_allow 45 = .ok (.iinc 4 1, 3) := by decide +kernel
theorem dX3_allow_48 : decode cX3_allow 48 = .ok (.goto (-45), 3) := by decide +kernel
theorem dX3_allow_51 : decode cX3_allow 51 = .ok (.iconst 0, 1) := by decide +kernel
theorem dX3_allow_52 : decode cX3_allow 52 = .ok (.istore 4, 2) := by decide +kernel
theorem dX3_allow_54 : decode cX3_allow 54 = .ok (.iload 4, 2) := by decide +kernel
theorem dX3_allow_56 : decode cX3_allow 56 = .ok (.getstatic 39, 3) := by decide +kernel
theorem dX3_allow_59 : decode cX3_allow 59 = .ok (.iload_n 1, 1) := by decide +kernel
theorem dX3_allow_60 : decode cX3_allow 60 = .ok (.iaload, 1) := by decide +kernel
theorem dX3_allow_61 : decode cX3_allow 61 = .ok (.if_icmp .ge 41, 3) := by decide +kernel
theorem dX3_allow_64 : decode cX3_allow 64 = .ok (.aload_n 0, 1) := by decide +kernel
theorem dX3_allow_65 : decode cX3_allow 65 = .ok (.getfield 15, 3) := by decide +kernel
theorem dX3_allow_68 : decode cX3_allow 68 = .ok (.iload_n 3, 1) := by decide +kernel
theorem dX3_allow_69 : decode cX3_allow 69 = .ok (.iload 4, 2) := by decide +kernel
theorem dX3_allow_71 : decode cX3_allow 71 = .ok (.iadd, 1) := by decide +kernel
theorem dX3_allow_72 : decode cX3_allow 72 = .ok (.iaload, 1) := by decide +kernel
theorem dX3_allow_73 : decode cX3_allow 73 = .ok (.istore 5, 2) := by decide +kernel
theorem dX3_allow_75 : decode cX3_allow 75 = .ok (.iload 5, 2) := by decide +kernel
theorem dX3_allow_77 : decode cX3_allow 77 = .ok (.iconst (-1), 1) := by decide +kernel
theorem dX3_allow_78 : decode cX3_allow 78 = .ok (.if_icmp .eq 18, 3) := by decide +kernel
theorem dX3_allow_81 : decode cX3_allow 81 = .ok (.iload_n 1, 1) := by decide +kernel
theorem dX3_allow_82 : decode cX3_allow 82 = .ok (.iload 5, 2) := by decide +kernel
theorem dX3_allow_84 : decode cX3_allow 84 = .ok (.iload_n 2, 1) := by decide +kernel
theorem dX3_allow_85 : decode cX3_allow 85 = .ok (.isub, 1) := by decide +kernel
theorem dX3_allow_86 : decode cX3_allow 86 = .ok (.iload 4, 2) := by decide +kernel
theorem dX3_allow_88 : decode cX3_allow 88 = .ok (.invokestatic 35, 3) := by decide +kernel
theorem dX3_allow_91 : decode cX3_allow 91 = .ok (.ifCond .ne 5, 3) := by decide +kernel
theorem dX3_allow_94 : decode cX3_allow 94 = .ok (.iconst 0, 1) := by decide +kernel
theorem dX3_allow_95 : decode cX3_allow 95 = .ok (.ireturn, 1) := by decide +kernel
theorem dX3_allow_96 : decode cX3_allow 96 = .ok (.iinc 4 1, 3) := by decide +kernel
theorem dX3_allow_99 : decode cX3_allow 99 = .ok (.goto (-45), 3) := by decide +kernel
theorem dX3_allow_102 : decode cX3_allow 102 = .ok (.iconst 1, 1) := by decide +kernel
theorem dX3_allow_103 : decode cX3_allow 103 = .ok (.ireturn, 1) := by decide +kernel
theorem dX3_goTogether_0 : decode cX3_goTogether 0 = .ok (.iload_n 1, 1) := by decide +kernel
theorem dX3_goTogether_1 : decode cX3_goTogether 1 = .ok (.ifCond .lt 29, 3) := by decide +kernel
theorem dX3_goTogether_4 : decode cX3_goTogether 4 = .ok (.iload_n 1, 1) := by decide +kernel
theorem dX3_goTogether_5 : decode cX3_goTogether 5 = .ok (.getstatic 32, 3) := by decide +kernel
theorem dX3_goTogether_8 : decode cX3_goTogether 8 = .ok (.iload_n 0, 1) := by decide +kernel
theorem dX3_goTogether_9 : decode cX3_goTogether 9 = .ok (.iaload, 1) := by decide +kernel
theorem dX3_goTogether_10 : decode cX3_goTogether 10 = .ok (.if_icmp .ge 20, 3) := by decide +kernel
theorem dX3_goTogether_13 : decode cX3_goTogether 13 = .ok (.iload_n 2, 1) := by decide +kernel
theorem dX3_goTogether_14 : decode cX3_goTogether 14 = .ok (.ifCond .lt 16, 3) := by decide +kernel
theorem dX3_goTogether_17 : decode cX3_goTogether 17 = .ok (.iload_n 2, 1) := by decide +kernel
theorem dX3_goTogether_18 : decode cX3_goTogether 18 = .ok (.getstatic 39, 3) := by decide +kernel
theorem dX3_goTogether_21 : decode cX3_goTogether 21 = .ok (.iload_n 0, 1) := by decide +kernel
theorem dX3_goTogether_22 : decode cX3_goTogether 22 = .ok (.iaload, 1) := by decide +kernel
theorem dX3_goTogether_23 : decode cX3_goTogether 23 = .ok (.if_icmp .ge 7, 3) := by decide +kernel
theorem dX3_goTogether_26 : decode cX3_goTogether 26 = .ok (.iconst 1, 1) := by decide +kernel
theorem dX3_goTogether_27 : decode cX3_goTogether 27 = .ok (.goto 4, 3) := by decide +kernel
theorem dX3_goTogether_30 : decode cX3_goTogether 30 = .ok (.iconst 0, 1) := by decide +kernel
theorem dX3_goTogether_31 : decode cX3_goTogether 31 = .ok (.istore_n 3, 1) := by decide +kernel
theorem dX3_goTogether_32 : decode cX3_goTogether 32 = .ok (.iload_n 3, 1) := by decide +kernel
theorem dX3_goTogether_33 : decode cX3_goTogether 33 = .ok (.ifCond .eq 18, 3) := by decide +kernel
theorem dX3_goTogether_36 : decode cX3_goTogether 36 = .ok (.iload_n 0, 1) := by decide +kernel
theorem dX3_goTogether_37 : decode cX3_goTogether 37 = .ok (.bipush 6, 2) := by decide +kernel
theorem dX3_goTogether_39 : decode cX3_goTogether 39 = .ok (.if_icmp .ne 8, 3) := by decide +kernel
theorem dX3_goTogether_42 : decode cX3_goTogether 42 = .ok (.iload_n 1, 1) := by decide +kernel
theorem dX3_goTogether_43 : decode cX3_goTogether 43 = .ok (.iload_n 2, 1) := by decide +kernel
theorem dX3_goTogether_44 : decode cX3_goTogether 44 = .ok (.if_icmp .eq 7, 3) := by decide +kernel
theorem dX3_goTogether_47 : decode cX3_goTogether 47 = .ok (.iconst 1, 1) := by decide +kernel
theorem dX3_goTogether_48 : decode cX3_goTogether 48 = .ok (.goto 4, 3) := by decide +kernel
theorem dX3_goTogether_51 : decode cX3_goTogether 51 = .ok (.iconst 0, 1) := by decide +kernel
theorem dX3_goTogether_52 : decode cX3_goTogether 52 = .ok (.ireturn, 1) := by decide +kernel
theorem dX4_init_0 : decode cX4_init 0 = .ok (.aload_n 0, 1) := by decide +kernel
theorem dX4_init_1 : decode cX4_init 1 = .ok (.invokespecial 3, 3) := by decide +kernel
theorem dX4_init_4 : decode cX4_init 4 = .ok (.aload_n 0, 1) := by decide +kernel
theorem dX4_init_5 : decode cX4_init 5 = .ok (.bipush 40, 2) := by decide +kernel
theorem dX4_init_7 : decode cX4_init 7 = .ok (.bipush 41, 2) := by decide +kernel
theorem dX4_init_9 : decode cX4_init 9 = .ok (.multianewarray 9 2, 4) := by decide +kernel
theorem dX4_init_13 : decode cX4_init 13 = .ok (.putfield 11, 3) := by decide +kernel
theorem dX4_init_16 : decode cX4_init 16 = .ok (.aload_n 0, 1) := by decide +kernel
theorem dX4_init_17 : decode cX4_init 17 = .ok (.bipush 40, 2) := by decide +kernel
theorem dX4_init_19 : decode cX4_init 19 = .ok (.bipush 41, 2) := by decide +kernel
theorem dX4_init_21 : decode cX4_init 21 = .ok (.multianewarray 16 2, 4) := by decide +kernel
theorem dX4_init_25 : decode cX4_init 25 = .ok (.putfield 18, 3) := by decide +kernel
theorem dX4_init_28 : decode cX4_init 28 = .ok (.aload_n 0, 1) := by decide +kernel
theorem dX4_init_29 : decode cX4_init 29 = .ok (.bipush 40, 2) := by decide +kernel
theorem dX4_init_31 : decode cX4_init 31 = .ok (.newarray .int, 2) := by decide +kernel
theorem dX4_init_33 : decode cX4_init 33 = .ok (.putfield 21, 3) := by decide +kernel
theorem dX4_init_36 : decode cX4_init 36 = .ok (.aload_n 0, 1) := by decide +kernel
theorem dX4_init_37 : decode cX4_init 37 = .ok (.getfield 21, 3) := by decide +kernel
theorem dX4_init_40 : decode cX4_init 40 = .ok (.iconst (-1), 1) := by decide +kernel
theorem dX4_init_41 : decode cX4_init 41 = .ok (.invokestatic 25, 3) := by decide +kernel
theorem dX4_init_44 : decode cX4_init 44 = .ok (.return_, 1) := by decide +kernel
theorem dX4_spread_0 : decode cX4_spread 0 = .ok (.aload_n 0, 1) := by decide +kernel
theorem dX4_spread_1 : decode cX4_spread 1 = .ok (.iload_n 1, 1) := by decide +kernel
theorem dX4_spread_2 : decode cX4_spread 2 = .ok (.putfield 31, 3) := by decide +kernel
theorem dX4_spread_5 : decode cX4_spread 5 = .ok (.aload_n 0, 1) := by decide +kernel
theorem dX4_spread_6 : decode cX4_spread 6 = .ok (.iload_n 2, 1) := by decide +kernel
theorem dX4_spread_7 : decode cX4_spread 7 = .ok (.putfield 35, 3) := by decide +kernel
theorem dX4_spread_10 : decode cX4_spread 10 = .ok (.aload_n 0, 1) := by decide +kernel
theorem dX4_spread_11 : decode cX4_spread 11 = .ok (.getfield 21, 3) := by decide +kernel
theorem dX4_spread_14 : decode cX4_spread 14 = .ok (.iconst (-1), 1) := by decide +kernel
theorem dX4_spread_15 : decode cX4_spread 15 = .ok (.invokestatic 25, 3) := by decide +kernel
theorem dX4_spread_18 : decode cX4_spread 18 = .ok (.iconst 0, 1) := by decide +kernel
theorem dX4_spread_19 : decode cX4_spread 19 = .ok (.istore_n 3, 1) := by decide +kernel
theorem dX4_spread_20 : decode cX4_spread 20 = .ok (.iload_n 3, 1) := by decide +kernel
theorem dX4_spread_21 : decode cX4_spread 21 = .ok (.aload_n 0, 1) := by decide +kernel
theorem dX4_spread_22 : decode cX4_spread 22 = .ok (.getfield 31, 3) := by decide +kernel
theorem dX4_spread_25 : decode cX4_spread 25 = .ok (.if_icmp .ge 27, 3) := by decide +kernel
theorem dX4_spread_28 : decode cX4_spread 28 = .ok (.aload_n 0, 1) := by decide +kernel
theorem dX4_spread_29 : decode cX4_spread 29 = .ok (.getfield 11, 3) := by decide +kernel
theorem dX4_spread_32 : decode cX4_spread 32 = .ok (.iload_n 3, 1) := by decide +kernel
theorem dX4_spread_33 : decode cX4_spread 33 = .ok (.aaload, 1) := by decide +kernel
theorem dX4_spread_34 : decode cX4_spread 34 = .ok (.ldc 38, 2) := by decide +kernel
theorem dX4_spread_36 : decode cX4_spread 36 = .ok (.aload_n 0, 1) := by decide +kernel
theorem dX4_spread_37 : decode cX4_spread 37 = .ok (.getfield 35, 3) := by decide +kernel
theorem dX4_spread_40 : decode cX4_spread 40 = .ok (.iconst 1, 1) := by decide +kernel
theorem dX4_spread_41 : decode cX4_spread 41 = .ok (.iadd, 1) := by decide +kernel
theorem dX4_spread_42 : decode cX4_spread 42 = .ok (.idiv, 1) := by decide +kernel
theorem dX4_spread_43 : decode cX4_spread 43 = .ok (.invokestatic 25, 3) := by decide +kernel
theorem dX4_spread_46 : decode cX4_spread 46 = .ok (.iinc 3 1, 3) := by decide +kernel
theorem dX4_spread_49 : decode cX4_spread 49 = .ok (.goto (-29), 3) := by decide +kernel
theorem dX4_spread_52 : decode cX4_spread 52 = .ok (.return_, 1) := by decide +kernel
theorem dX4_startDealing_0 : decode cX4_startDealing 0 = .ok (.iconst 0, 1) := by decide +kernel
theorem dX4_startDealing_1 : decode cX4_startDealing 1 = .ok (.istore_n 1, 1) := by decide +kernel
theorem dX4_startDealing_2 : decode cX4_startDealing 2 = .ok (.iload_n 1, 1) := by decide +kernel
theorem dX4_startDealing_3 : decode cX4_startDealing 3 = .ok (.aload_n 0, 1) := by decide +kernel
theorem dX4_startDealing_4 : decode cX4_startDealing 4 = .ok (.getfield 31, 3) := by decide +kernel
theorem dX4_startDealing_7 : decode cX4_startDealing 7 = .ok (.if_icmp .ge 19, 3) := by decide +kernel
theorem dX4_startDealing_10 : decode cX4_startDealing 10 = .ok (.aload_n 0, 1) := by decide +kernel
theorem dX4_startDealing_11 : decode cX4_startDealing 11 = .ok (.getfield 18, 3) := by decide +kernel
theorem dX4_startDealing_14 : decode cX4_startDealing 14 = .ok (.iload_n 1, 1) := by decide +kernel
theorem dX4_startDealing_15 : decode cX4_startDealing 15 = .ok (.aaload, 1) := by decide +kernel
theorem dX4_startDealing_16 : decode cX4_startDealing 16 = .ok (.lconst 0, 1) := by decide +kernel
theorem dX4_startDealing_17 : decode cX4_startDealing 17 = .ok (.invokestatic 39, 3) := by decide +kernel
theorem dX4_startDealing_20 : decode cX4_startDealing 20 = .ok (.iinc 1 1, 3) := by decide +kernel
theorem dX4_startDealing_23 : decode cX4_startDealing 23 = .ok (.goto (-21), 3) := by decide +kernel
theorem dX4_startDealing_26 : decode cX4_startDealing 26 = .ok (.return_, 1) := by decide +kernel
theorem dX4_deal_0 : decode cX4_deal 0 = .ok (.iload_n 2, 1) := by decide +kernel
theorem dX4_deal_1 : decode cX4_deal 1 = .ok (.istore 7, 2) := by decide +kernel
theorem dX4_deal_3 : decode cX4_deal 3 = .ok (.iload 7, 2) := by decide +kernel
theorem dX4_deal_5 : decode cX4_deal 5 = .ok (.iload_n 2, 1) := by decide +kernel
theorem dX4_deal_6 : decode cX4_deal 6 = .ok (.iload_n 3, 1) := by decide +kernel
theorem dX4_deal_7 : decode cX4_deal 7 = .ok (.iadd, 1) := by decide +kernel
theorem dX4_deal_8 : decode cX4_deal 8 = .ok (.if_icmp .ge 50, 3) := by decide +kernel
theorem dX4_deal_11 : decode cX4_deal 11 = .ok (.iconst 0, 1) := by decide +kernel
theorem dX4_deal_12 : decode cX4_deal 12 = .ok (.istore 8, 2) := by decide +kernel
theorem dX4_deal_14 : decode cX4_deal 14 = .ok (.iload 8, 2) := by decide +kernel
theorem dX4_deal_16 : decode cX4_deal 16 = .ok (.aload_n 1, 1) := by decide +kernel
theorem dX4_deal_17 : decode cX4_deal 17 = .ok (.getfield 42, 3) := by decide +kernel
theorem dX4_deal_20 : decode cX4_deal 20 = .ok (.iload 7, 2) := by decide +kernel
theorem dX4_deal_22 : decode cX4_deal 22 = .ok (.iaload, 1) := by decide +kernel
theorem dX4_deal_23 : decode cX4_deal 23 = .ok (.if_icmp .ge 29, 3) := by decide +kernel
theorem dX4_deal_26 : decode cX4_deal 26 = .ok (.aload_n 0, 1) := by decide +kernel
theorem dX4_deal_27 : decode cX4_deal 27 = .ok (.aload_n 1, 1) := by decide +kernel
theorem dX4_deal_28 : decode cX4_deal 28 = .ok (.getfield 47, 3) := by decide +kernel
theorem dX4_deal_31 : decode cX4_deal 31 = .ok (.iload 7, 2) := by decide +kernel
theorem dX4_deal_33 : decode cX4_deal 33 = .ok (.aaload, 1) := by decide +kernel
theorem dX4_deal_34 : decode cX4_deal 34 = .ok (.iload 8, 2) := by decide +kernel
theorem dX4_deal_36 : decode cX4_deal 36 = .ok (.iaload, 1) := by decide +kernel
theorem dX4_deal_37 : decode cX4_deal 37 = .ok (.aload 4, 2) := by decide +kernel
theorem dX4_deal_39 : decode cX4_deal 39 = .ok (.iload 5, 2) := by decide +kernel
theorem dX4_deal_41 : decode cX4_deal 41 = .ok (.iload 6, 2) := by decide +kernel
theorem dX4_deal_43 : decode cX4_deal 43 = .ok (.invokevirtual 50, 3) := by decide +kernel
theorem dX4_deal_46 : decode cX4_deal 46 = .ok (.iinc 8 1, 3) := by decide +kernel
theorem dX4_deal_49 : decode cX4_deal 49 = .ok (.goto (-35), 3) := by decide +kernel
theorem dX4_deal_52 : decode cX4_deal 52 = .ok (.iinc 7 1, 3) := by decide +kernel
theorem dX4_deal_55 : decode cX4_deal 55 = .ok (.goto (-52), 3) := by decide +kernel
theorem dX4_deal_58 : decode cX4_deal 58 = .ok (.return_, 1) := by decide +kernel
theorem dX4_dealWord_0 : decode cX4_dealWord 0 = .ok (.aload_n 0, 1) := by decide +kernel
theorem dX4_dealWord_1 : decode cX4_dealWord 1 = .ok (.getfield 11, 3) := by decide +kernel
theorem dX4_dealWord_4 : decode cX4_dealWord 4 = .ok (.iload_n 1, 1) := by decide +kernel
theorem dX4_dealWord_5 : decode cX4_dealWord 5 = .ok (.aaload, 1) := by decide +kernel
theorem dX4_dealWord_6 : decode cX4_dealWord 6 = .ok (.bipush 40, 2) := by decide +kernel
theorem dX4_dealWord_8 : decode cX4_dealWord 8 = .ok (.iaload, 1) := by decide +kernel
theorem dX4_dealWord_9 : decode cX4_dealWord 9 = .ok (.i2l, 1) := by decide +kernel
theorem dX4_dealWord_10 : decode cX4_dealWord 10 = .ok (.lstore 5, 2) := by decide +kernel
theorem dX4_dealWord_12 : decode cX4_dealWord 12 = .ok (.iload_n 3, 1) := by decide +kernel
theorem dX4_dealWord_13 : decode cX4_dealWord 13 = .ok (.istore 7, 2) := by decide +kernel
theorem dX4_dealWord_15 : decode cX4_dealWord 15 = .ok (.iload 7, 2) := by decide +kernel
theorem dX4_dealWord_17 : decode cX4_dealWord 17 = .ok (.iload_n 3, 1) := by decide +kernel
theorem dX4_dealWord_18 : decode cX4_dealWord 18 = .ok (.iload 4, 2) := by decide +kernel
theorem dX4_dealWord_20 : decode cX4_dealWord 20 = .ok (.iadd, 1) := by decide +kernel
theorem dX4_dealWord_21 : decode cX4_dealWord 21 = .ok (.if_icmp .ge 53, 3) := by decide +kernel
theorem dX4_dealWord_24 : decode cX4_dealWord 24 = .ok (.iconst 0, 1) := by decide +kernel
theorem dX4_dealWord_25 : decode cX4_dealWord 25 = .ok (.istore 8, 2) := by decide +kernel
theorem dX4_dealWord_27 : decode cX4_dealWord 27 = .ok (.iload 8, 2) := by decide +kernel
theorem dX4_dealWord_29 : decode cX4_dealWord 29 = .ok (.aload_n 2, 1) := by decide +kernel
theorem dX4_dealWord_30 : decode cX4_dealWord 30 = .ok (.getfield 42, 3) := by decide +kernel
theorem dX4_dealWord_33 : decode cX4_dealWord 33 = .ok (.iload 7, 2) := by decide +kernel
theorem dX4_dealWord_35 : decode cX4_dealWord 35 = .ok (.iaload, 1) := by decide +kernel
theorem dX4_dealWord_36 : decode cX4_dealWord 36 = .ok (.if_icmp .ge 32, 3) := by decide +kernel
theorem dX4_dealWord_39 : decode cX4_dealWord 39 = .ok (.lload 5, 2) := by decide +kernel
theorem dX4_dealWord_41 : decode cX4_dealWord 41 = .ok (.aload_n 0, 1) := by decide +kernel
theorem dX4_dealWord_42 : decode cX4_dealWord 42 = .ok (.getfield 11, 3) := by decide +kernel
theorem dX4_dealWord_45 : decode cX4_dealWord 45 = .ok (.iload_n 1, 1) := by decide +kernel
theorem dX4_dealWord_46 : decode cX4_dealWord 46 = .ok (.aaload, 1) := by decide +kernel
theorem dX4_dealWord_47 : decode cX4_dealWord 47 = .ok (.aload_n 2, 1) := by decide +kernel
theorem dX4_dealWord_48 : decode cX4_dealWord 48 = .ok (.getfield 47, 3) := by decide +kernel
theorem dX4_dealWord_51 : decode cX4_dealWord 51 = .ok (.iload 7, 2) := by decide +kernel
theorem dX4_dealWord_53 : decode cX4_dealWord 53 = .ok (.aaload, 1) := by decide +kernel
theorem dX4_dealWord_54 : decode cX4_dealWord 54 = .ok (.iload 8, 2) := by decide +kernel
theorem dX4_dealWord_56 : decode cX4_dealWord 56 = .ok (.iaload, 1) := by decide +kernel
theorem dX4_dealWord_57 : decode cX4_dealWord 57 = .ok (.iaload, 1) := by decide +kernel
theorem dX4_dealWord_58 : decode cX4_dealWord 58 = .ok (.i2l, 1) := by decide +kernel
theorem dX4_dealWord_59 : decode cX4_dealWord 59 = .ok (.ladd, 1) := by decide +kernel
theorem dX4_dealWord_60 : decode cX4_dealWord 60 = .ok (.lstore 5, 2) := by decide +kernel
theorem dX4_dealWord_62 : decode cX4_dealWord 62 = .ok (.iinc 8 1, 3) := by decide +kernel
theorem dX4_dealWord_65 : decode cX4_dealWord 65 = .ok (.goto (-38), 3) := by decide +kernel
theorem dX4_dealWord_68 : decode cX4_dealWord 68 = .ok (.iinc 7 1, 3) := by decide +kernel
theorem dX4_dealWord_71 : decode cX4_dealWord 71 = .ok (.goto (-56), 3) := by decide +kernel
theorem dX4_dealWord_74 : decode cX4_dealWord 74 = .ok (.lload 5, 2) := by decide +kernel
theorem dX4_dealWord_76 : decode cX4_dealWord 76 = .ok (.lconst 0, 1) := by decide +kernel
theorem dX4_dealWord_77 : decode cX4_dealWord 77 = .ok (.lcmp, 1) := by decide +kernel
theorem dX4_dealWord_78 : decode cX4_dealWord 78 = .ok (.ifCond .gt 4, 3) := by decide +kernel
theorem dX4_dealWord_81 : decode cX4_dealWord 81 = .ok (.return_, 1) := by decide +kernel
theorem dX4_dealWord_82 : decode cX4_dealWord 82 = .ok (.iload_n 3, 1) := by decide +kernel
theorem dX4_dealWord_83 : decode cX4_dealWord 83 = .ok (.istore 7, 2) := by decide +kernel
theorem dX4_dealWord_85 : decode cX4_dealWord 85 = .ok (.iload 7, 2) := by decide +kernel
theorem dX4_dealWord_87 : decode cX4_dealWord 87 = .ok (.iload_n 3, 1) := by decide +kernel
theorem dX4_dealWord_88 : decode cX4_dealWord 88 = .ok (.iload 4, 2) := by decide +kernel
theorem dX4_dealWord_90 : decode cX4_dealWord 90 = .ok (.iadd, 1) := by decide +kernel
theorem dX4_dealWord_91 : decode cX4_dealWord 91 = .ok (.if_icmp .ge 47, 3) := by decide +kernel
theorem dX4_dealWord_94 : decode cX4_dealWord 94 = .ok (.iconst 0, 1) := by decide +kernel
theorem dX4_dealWord_95 : decode cX4_dealWord 95 = .ok (.istore 8, 2) := by decide +kernel
theorem dX4_dealWord_97 : decode cX4_dealWord 97 = .ok (.iload 8, 2) := by decide +kernel
theorem dX4_dealWord_99 : decode cX4_dealWord 99 = .ok (.aload_n 2, 1) := by decide +kernel
theorem dX4_dealWord_100 : decode cX4_dealWord 100 = .ok (.getfield 42, 3) := by decide +kernel
theorem dX4_dealWord_103 : decode cX4_dealWord 103 = .ok (.iload 7, 2) := by decide +kernel
theorem dX4_dealWord_105 : decode cX4_dealWord 105 = .ok (.iaload, 1) := by decide +kernel
theorem dX4_dealWord_106 : decode cX4_dealWord 106 = .ok (.if_icmp .ge 26, 3) := by decide +kernel
theorem dX4_dealWord_109 : decode cX4_dealWord 109 = .ok (.aload_n 0, 1) := by decide +kernel
theorem dX4_dealWord_110 : decode cX4_dealWord 110 = .ok (.iload_n 1, 1) := by decide +kernel
theorem dX4_dealWord_111 : decode cX4_dealWord 111 = .ok (.aload_n 2, 1) := by decide +kernel
theorem dX4_dealWord_112 : decode cX4_dealWord 112 = .ok (.getfield 47, 3) := by decide +kernel
theorem dX4_dealWord_115 : decode cX4_dealWord 115 = .ok (.iload 7, 2) := by decide +kernel
theorem dX4_dealWord_117 : decode cX4_dealWord 117 = .ok (.aaload, 1) := by decide +kernel
theorem dX4_dealWord_118 : decode cX4_dealWord 118 = .ok (.iload 8, 2) := by decide +kernel
theorem dX4_dealWord_120 : decode cX4_dealWord 120 = .ok (.iaload, 1) := by decide +kernel
theorem dX4_dealWord_121 : decode cX4_dealWord 121 = .ok (.lload 5, 2) := by decide +kernel
theorem dX4_dealWord_123 : decode cX4_dealWord 123 = .ok (.invokevirtual 54, 3) := by decide +kernel
theorem dX4_dealWord_126 : decode cX4_dealWord 126 = .ok (.iinc 8 1, 3) := by decide +kernel
theorem dX4_dealWord_129 : decode cX4_dealWord 129 = .ok (.goto (-32), 3) := by decide +kernel
theorem dX4_dealWord_132 : decode cX4_dealWord 132 = .ok (.iinc 7 1, 3) := by decide +kernel
theorem dX4_dealWord_135 : decode cX4_dealWord 135 = .ok (.goto (-50), 3) := by decide +kernel
theorem dX4_dealWord_138 : decode cX4_dealWord 138 = .ok (.aload_n 0, 1) := by decide +kernel
theorem dX4_dealWord_139 : decode cX4_dealWord 139 = .ok (.iload_n 1, 1) := by decide +kernel
theorem dX4_dealWord_140 : decode cX4_dealWord 140 = .ok (.bipush 40, 2) := by decide +kernel
theorem dX4_dealWord_142 : decode cX4_dealWord 142 = .ok (.lload 5, 2) := by decide +kernel
theorem dX4_dealWord_144 : decode cX4_dealWord 144 = .ok (.invokevirtual 54, 3) := by decide +kernel
theorem dX4_dealWord_147 : decode cX4_dealWord 147 = .ok (.return_, 1) := by decide +kernel
theorem dX4_dealPart_0 : decode cX4_dealPart 0 = .ok (.aload_n 0, 1) := by decide +kernel
theorem dX4_dealPart_1 : decode cX4_dealPart 1 = .ok (.getfield 18, 3) := by decide +kernel
theorem dX4_dealPart_4 : decode cX4_dealPart 4 = .ok (.iload_n 1, 1) := by decide +kernel
theorem dX4_dealPart_5 : decode cX4_dealPart 5 = .ok (.aaload, 1) := by decide +kernel
theorem dX4_dealPart_6 : decode cX4_dealPart 6 = .ok (.iload_n 2, 1) := by decide +kernel
theorem dX4_dealPart_7 : decode cX4_dealPart 7 = .ok (.dup2, 1) := by decide +kernel
theorem dX4_dealPart_8 : decode cX4_dealPart 8 = .ok (.laload, 1) := by decide +kernel
theorem dX4_dealPart_9 : decode cX4_dealPart 9 = .ok (.ldc2_w 58, 3) := by decide +kernel
theorem dX4_dealPart_12 : decode cX4_dealPart 12 = .ok (.aload_n 0, 1) := by decide +kernel
theorem dX4_dealPart_13 : decode cX4_dealPart 13 = .ok (.getfield 11, 3) := by decide +kernel
theorem dX4_dealPart_16 : decode cX4_dealPart 16 = .ok (.iload_n 1, 1) := by decide +kernel
theorem dX4_dealPart_17 : decode cX4_dealPart 17 = .ok (.aaload, 1) := by decide +kernel
theorem dX4_dealPart_18 : decode cX4_dealPart 18 = .ok (.iload_n 2, 1) := by decide +kernel
theorem dX4_dealPart_19 : decode cX4_dealPart 19 = .ok (.iaload, 1) := by decide +kernel
theorem dX4_dealPart_20 : decode cX4_dealPart 20 = .ok (.i2l, 1) := by decide +kernel
theorem dX4_dealPart_21 : decode cX4_dealPart 21 = .ok (.lmul, 1) := by decide +kernel
theorem dX4_dealPart_22 : decode cX4_dealPart 22 = .ok (.lload_n 3, 1) := by decide +kernel
theorem dX4_dealPart_23 : decode cX4_dealPart 23 = .ok (.ldiv, 1) := by decide +kernel
theorem dX4_dealPart_24 : decode cX4_dealPart 24 = .ok (.ladd, 1) := by decide +kernel
theorem dX4_dealPart_25 : decode cX4_dealPart 25 = .ok (.lastore, 1) := by decide +kernel
theorem dX4_dealPart_26 : decode cX4_dealPart 26 = .ok (.return_, 1) := by decide +kernel
theorem dX4_settle_0 : decode cX4_settle 0 = .ok (.iconst 0, 1) := by decide +kernel
theorem dX4_settle_1 : decode cX4_settle 1 = .ok (.istore_n 1, 1) := by decide +kernel
theorem dX4_settle_2 : decode cX4_settle 2 = .ok (.iload_n 1, 1) := by decide +kernel
theorem dX4_settle_3 : decode cX4_settle 3 = .ok (.aload_n 0, 1) := by decide +kernel
theorem dX4_settle_4 : decode cX4_settle 4 = .ok (.getfield 31, 3) := by decide +kernel
theorem dX4_settle_7 : decode cX4_settle 7 = .ok (.if_icmp .ge 19, 3) := by decide +kernel
theorem dX4_settle_10 : decode cX4_settle 10 = .ok (.aload_n 0, 1) := by decide +kernel
theorem dX4_settle_11 : decode cX4_settle 11 = .ok (.iload_n 1, 1) := by decide +kernel
theorem dX4_settle_12 : decode cX4_settle 12 = .ok (.invokevirtual 60, 3) := by decide +kernel
theorem dX4_settle_15 : decode cX4_settle 15 = .ok (.aload_n 0, 1) := by decide +kernel
theorem dX4_settle_16 : decode cX4_settle 16 = .ok (.iload_n 1, 1) := by decide +kernel
theorem dX4_settle_17 : decode cX4_settle 17 = .ok (.invokevirtual 64, 3) := by decide +kernel
theorem dX4_settle_20 : decode cX4_settle 20 = .ok (.iinc 1 1, 3) := by decide +kernel
theorem dX4_settle_23 : decode cX4_settle 23 = .ok (.goto (-21), 3) := by decide +kernel
theorem dX4_settle_26 : decode cX4_settle 26 = .ok (.return_, 1) := by decide +kernel
theorem dX4_settleKind_0 : decode cX4_settleKind 0 = .ok (.aload_n 0, 1) := by decide +kernel
theorem dX4_settleKind_1 : decode cX4_settleKind 1 = .ok (.getfield 18, 3) := by decide +kernel
theorem dX4_settleKind_4 : decode cX4_settleKind 4 = .ok (.iload_n 1, 1) := by decide +kernel
theorem dX4_settleKind_5 : decode cX4_settleKind 5 = .ok (.aaload, 1) := by decide +kernel
theorem dX4_settleKind_6 : decode cX4_settleKind 6 = .ok (.bipush 40, 2) := by decide +kernel
theorem dX4_settleKind_8 : decode cX4_settleKind 8 = .ok (.laload, 1) := by decide +kernel
theorem dX4_settleKind_9 : decode cX4_settleKind 9 = .ok (.lstore_n 2, 1) := by decide +kernel
theorem dX4_settleKind_10 : decode cX4_settleKind 10 = .ok (.iconst 0, 1) := by decide +kernel
theorem dX4_settleKind_11 : decode cX4_settleKind 11 = .ok (.istore 4, 2) := by decide +kernel
theorem dX4_settleKind_13 : decode cX4_settleKind 13 = .ok (.iload 4, 2) := by decide +kernel
theorem dX4_settleKind_15 : decode cX4_settleKind 15 = .ok (.aload_n 0, 1) := by decide +kernel
theorem dX4_settleKind_16 : decode cX4_settleKind 16 = .ok (.getfield 35, 3) := by decide +kernel
theorem dX4_settleKind_19 : decode cX4_settleKind 19 = .ok (.if_icmp .ge 21, 3) := by decide +kernel
theorem dX4_settleKind_22 : decode cX4_settleKind 22 = .ok (.lload_n 2, 1) := by decide +kernel
theorem dX4_settleKind_23 : decode cX4_settleKind 23 = .ok (.aload_n 0, 1) := by decide +kernel
theorem dX4_settleKind_24 : decode cX4_settleKind 24 = .ok (.getfield 18, 3) := by decide +kernel
theorem dX4_settleKind_27 : decode cX4_settleKind 27 = .ok (.iload_n 1, 1) := by decide +kernel
theorem dX4_settleKind_28 : decode cX4_settleKind 28 = .ok (.aaload, 1) := by decide +kernel
theorem dX4_settleKind_29 : decode cX4_settleKind 29 = .ok (.iload 4, 2) := by decide +kernel
theorem dX4_settleKind_31 : decode cX4_settleKind 31 = .ok (.laload, 1) := by decide +kernel
theorem dX4_settleKind_32 : decode cX4_settleKind 32 = .ok (.ladd, 1) := by decide +kernel
theorem dX4_settleKind_33 : decode cX4_settleKind 33 = .ok (.lstore_n 2, 1) := by decide +kernel
theorem dX4_settleKind_34 : decode cX4_settleKind 34 = .ok (.iinc 4 1, 3) := by decide +kernel
theorem dX4_settleKind_37 : decode cX4_settleKind 37 = .ok (.goto (-24), 3) := by decide +kernel
theorem dX4_settleKind_40 : decode cX4_settleKind 40 = .ok (.lload_n 2, 1) := by decide +kernel
theorem dX4_settleKind_41 : decode cX4_settleKind 41 = .ok (.lconst 0, 1) := by decide +kernel
theorem dX4_settleKind_42 : decode cX4_settleKind 42 = .ok (.lcmp, 1) := by decide +kernel
theorem dX4_settleKind_43 : decode cX4_settleKind 43 = .ok (.ifCond .gt 4, 3) := by decide +kernel
theorem dX4_settleKind_46 : decode cX4_settleKind 46 = .ok (.return_, 1) := by decide +kernel
theorem dX4_settleKind_47 : decode cX4_settleKind 47 = .ok (.iconst 0, 1) := by decide +kernel
theorem dX4_settleKind_48 : decode cX4_settleKind 48 = .ok (.istore 4, 2) := by decide +kernel
theorem dX4_settleKind_50 : decode cX4_settleKind 50 = .ok (.iload 4, 2) := by decide +kernel
theorem dX4_settleKind_52 : decode cX4_settleKind 52 = .ok (.aload_n 0, 1) := by decide +kernel
theorem dX4_settleKind_53 : decode cX4_settleKind 53 = .ok (.getfield 35, 3) := by decide +kernel
theorem dX4_settleKind_56 : decode cX4_settleKind 56 = .ok (.if_icmp .ge 34, 3) := by decide +kernel
theorem dX4_settleKind_59 : decode cX4_settleKind 59 = .ok (.aload_n 0, 1) := by decide +kernel
theorem dX4_settleKind_60 : decode cX4_settleKind 60 = .ok (.getfield 11, 3) := by decide +kernel
theorem dX4_settleKind_63 : decode cX4_settleKind 63 = .ok (.iload_n 1, 1) := by decide +kernel
theorem dX4_settleKind_64 : decode cX4_settleKind 64 = .ok (.aaload, 1) := by decide +kernel
theorem dX4_settleKind_65 : decode cX4_settleKind 65 = .ok (.iload 4, 2) := by decide +kernel
theorem dX4_settleKind_67 : decode cX4_settleKind 67 = .ok (.ldc2_w 58, 3) := by decide +kernel
theorem dX4_settleKind_70 : decode cX4_settleKind 70 = .ok (.aload_n 0, 1) := by decide +kernel
theorem dX4_settleKind_71 : decode cX4_settleKind 71 = .ok (.getfield 18, 3) := by decide +kernel
theorem dX4_settleKind_74 : decode cX4_settleKind 74 = .ok (.iload_n 1, 1) := by decide +kernel
theorem dX4_settleKind_75 : decode cX4_settleKind 75 = .ok (.aaload, 1) := by decide +kernel
theorem dX4_settleKind_76 : decode cX4_settleKind 76 = .ok (.iload 4, 2) := by decide +kernel
theorem dX4_settleKind_78 : decode cX4_settleKind 78 = .ok (.laload, 1) := by decide +kernel
theorem dX4_settleKind_79 : decode cX4_settleKind 79 = .ok (.lmul, 1) := by decide +kernel
theorem dX4_settleKind_80 : decode cX4_settleKind 80 = .ok (.lload_n 2, 1) := by decide +kernel
theorem dX4_settleKind_81 : decode cX4_settleKind 81 = .ok (.ldiv, 1) := by decide +kernel
theorem dX4_settleKind_82 : decode cX4_settleKind 82 = .ok (.l2i, 1) := by decide +kernel
theorem dX4_settleKind_83 : decode cX4_settleKind 83 = .ok (.iastore, 1) := by decide +kernel
theorem dX4_settleKind_84 : decode cX4_settleKind 84 = .ok (.iinc 4 1, 3) := by decide +kernel
theorem dX4_settleKind_87 : decode cX4_settleKind 87 = .ok (.goto (-37), 3) := by decide +kernel
theorem dX4_settleKind_90 : decode cX4_settleKind 90 = .ok (.aload_n 0, 1) := by decide +kernel
theorem dX4_settleKind_91 : decode cX4_settleKind 91 = .ok (.getfield 11, 3) := by decide +kernel
theorem dX4_settleKind_94 : decode cX4_settleKind 94 = .ok (.iload_n 1, 1) := by decide +kernel
theorem dX4_settleKind_95 : decode cX4_settleKind 95 = .ok (.aaload, 1) := by decide +kernel
theorem dX4_settleKind_96 : decode cX4_settleKind 96 = .ok (.bipush 40, 2) := by decide +kernel
theorem dX4_settleKind_98 : decode cX4_settleKind 98 = .ok (.ldc2_w 58, 3) := by decide +kernel
theorem dX4_settleKind_101 : decode cX4_settleKind 101 = .ok (.aload_n 0, 1) := by decide +kernel
theorem dX4_settleKind_102 : decode cX4_settleKind 102 = .ok (.getfield 18, 3) := by decide +kernel
theorem dX4_settleKind_105 : decode cX4_settleKind 105 = .ok (.iload_n 1, 1) := by decide +kernel
theorem dX4_settleKind_106 : decode cX4_settleKind 106 = .ok (.aaload, 1) := by decide +kernel
theorem dX4_settleKind_107 : decode cX4_settleKind 107 = .ok (.bipush 40, 2) := by decide +kernel
theorem dX4_settleKind_109 : decode cX4_settleKind 109 = .ok (.laload, 1) := by decide +kernel
theorem dX4_settleKind_110 : decode cX4_settleKind 110 = .ok (.lmul, 1) := by decide +kernel
theorem dX4_settleKind_111 : decode cX4_settleKind 111 = .ok (.lload_n 2, 1) := by decide +kernel
theorem dX4_settleKind_112 : decode cX4_settleKind 112 = .ok (.ldiv, 1) := by decide +kernel
theorem dX4_settleKind_113 : decode cX4_settleKind 113 = .ok (.l2i, 1) := by decide +kernel
theorem dX4_settleKind_114 : decode cX4_settleKind 114 = .ok (.iastore, 1) := by decide +kernel
theorem dX4_settleKind_115 : decode cX4_settleKind 115 = .ok (.return_, 1) := by decide +kernel
theorem dX4_obeyTerm_0 : decode cX4_obeyTerm 0 = .ok (.aload_n 0, 1) := by decide +kernel
theorem dX4_obeyTerm_1 : decode cX4_obeyTerm 1 = .ok (.getfield 21, 3) := by decide +kernel
theorem dX4_obeyTerm_4 : decode cX4_obeyTerm 4 = .ok (.iload_n 1, 1) := by decide +kernel
theorem dX4_obeyTerm_5 : decode cX4_obeyTerm 5 = .ok (.iaload, 1) := by decide +kernel
theorem dX4_obeyTerm_6 : decode cX4_obeyTerm 6 = .ok (.iconst (-1), 1) := by decide +kernel
theorem dX4_obeyTerm_7 : decode cX4_obeyTerm 7 = .ok (.if_icmp .eq 28, 3) := by decide +kernel
theorem dX4_obeyTerm_10 : decode cX4_obeyTerm 10 = .ok (.aload_n 0, 1) := by decide +kernel
theorem dX4_obeyTerm_11 : decode cX4_obeyTerm 11 = .ok (.getfield 11, 3) := by decide +kernel
theorem dX4_obeyTerm_14 : decode cX4_obeyTerm 14 = .ok (.iload_n 1, 1) := by decide +kernel
theorem dX4_obeyTerm_15 : decode cX4_obeyTerm 15 = .ok (.aaload, 1) := by decide +kernel
theorem dX4_obeyTerm_16 : decode cX4_obeyTerm 16 = .ok (.iconst 0, 1) := by decide +kernel
theorem dX4_obeyTerm_17 : decode cX4_obeyTerm 17 = .ok (.invokestatic 25, 3) := by decide +kernel
theorem dX4_obeyTerm_20 : decode cX4_obeyTerm 20 = .ok (.aload_n 0, 1) := by decide +kernel
theorem dX4_obeyTerm_21 : decode cX4_obeyTerm 21 = .ok (.getfield 11, 3) := by decide +kernel
theorem dX4_obeyTerm_24 : decode cX4_obeyTerm 24 = .ok (.iload_n 1, 1) := by decide +kernel
theorem dX4_obeyTerm_25 : decode cX4_obeyTerm 25 = .ok (.aaload, 1) := by decide +kernel
theorem dX4_obeyTerm_26 : decode cX4_obeyTerm 26 = .ok (.aload_n 0, 1) := by decide +kernel
theorem dX4_obeyTerm_27 : decode cX4_obeyTerm 27 = .ok (.getfield 21, 3) := by decide +kernel
theorem dX4_obeyTerm_30 : decode cX4_obeyTerm 30 = .ok (.iload_n 1, 1) := by decide +kernel
theorem dX4_obeyTerm_31 : decode cX4_obeyTerm 31 = .ok (.iaload, 1) := by decide +kernel
theorem dX4_obeyTerm_32 : decode cX4_obeyTerm 32 = .ok (.ldc 38, 2) := by decide +kernel
theorem dX4_obeyTerm_34 : decode cX4_obeyTerm 34 = .ok (.iastore, 1) := by decide +kernel
theorem dX4_obeyTerm_35 : decode cX4_obeyTerm 35 = .ok (.return_, 1) := by decide +kernel
theorem dX4_partnerOf_0 : decode cX4_partnerOf 0 = .ok (.iconst (-1), 1) := by decide +kernel
theorem dX4_partnerOf_1 : decode cX4_partnerOf 1 = .ok (.istore_n 2, 1) := by decide +kernel
theorem dX4_partnerOf_2 : decode cX4_partnerOf 2 = .ok (.aload_n 0, 1) := by decide +kernel
theorem dX4_partnerOf_3 : decode cX4_partnerOf 3 = .ok (.getfield 11, 3) := by decide +kernel
theorem dX4_partnerOf_6 : decode cX4_partnerOf 6 = .ok (.iload_n 1, 1) := by decide +kernel
theorem dX4_partnerOf_7 : decode cX4_partnerOf 7 = .ok (.aaload, 1) := by decide +kernel
theorem dX4_partnerOf_8 : decode cX4_partnerOf 8 = .ok (.bipush 40, 2) := by decide +kernel
theorem dX4_partnerOf_10 : decode cX4_partnerOf 10 = .ok (.iaload, 1) := by decide +kernel
theorem dX4_partnerOf_11 : decode cX4_partnerOf 11 = .ok (.ldc 67, 2) := by decide +kernel
theorem dX4_partnerOf_13 : decode cX4_partnerOf 13 = .ok (.invokestatic 68, 3) := by decide +kernel
theorem dX4_partnerOf_16 : decode cX4_partnerOf 16 = .ok (.istore_n 3, 1) := by decide +kernel
theorem dX4_partnerOf_17 : decode cX4_partnerOf 17 = .ok (.iconst 0, 1) := by decide +kernel
theorem dX4_partnerOf_18 : decode cX4_partnerOf 18 = .ok (.istore 4, 2) := by decide +kernel
theorem dX4_partnerOf_20 : decode cX4_partnerOf 20 = .ok (.iload 4, 2) := by decide +kernel
theorem dX4_partnerOf_22 : decode cX4_partnerOf 22 = .ok (.aload_n 0, 1) := by decide +kernel
theorem dX4_partnerOf_23 : decode cX4_partnerOf 23 = .ok (.getfield 35, 3) := by decide +kernel
theorem dX4_partnerOf_26 : decode cX4_partnerOf 26 = .ok (.if_icmp .ge 35, 3) := by decide +kernel
theorem dX4_partnerOf_29 : decode cX4_partnerOf 29 = .ok (.aload_n 0, 1) := by decide +kernel
theorem dX4_partnerOf_30 : decode cX4_partnerOf 30 = .ok (.getfield 11, 3) := by decide +kernel
theorem dX4_partnerOf_33 : decode cX4_partnerOf 33 = .ok (.iload_n 1, 1) := by decide +kernel
theorem dX4_partnerOf_34 : decode cX4_partnerOf 34 = .ok (.aaload, 1) := by decide +kernel
theorem dX4_partnerOf_35 : decode cX4_partnerOf 35 = .ok (.iload 4, 2) := by decide +kernel
theorem dX4_partnerOf_37 : decode cX4_partnerOf 37 = .ok (.iaload, 1) := by decide +kernel
theorem dX4_partnerOf_38 : decode cX4_partnerOf 38 = .ok (.iload_n 3, 1) := by decide +kernel
theorem dX4_partnerOf_39 : decode cX4_partnerOf 39 = .ok (.if_icmp .le 16, 3) := by decide +kernel
theorem dX4_partnerOf_42 : decode cX4_partnerOf 42 = .ok (.aload_n 0, 1) := by decide +kernel
theorem dX4_partnerOf_43 : decode cX4_partnerOf 43 = .ok (.getfield 11, 3) := by decide +kernel
theorem dX4_partnerOf_46 : decode cX4_partnerOf 46 = .ok (.iload_n 1, 1) := by decide +kernel
theorem dX4_partnerOf_47 : decode cX4_partnerOf 47 = .ok (.aaload, 1) := by decide +kernel
theorem dX4_partnerOf_48 : decode cX4_partnerOf 48 = .ok (.iload 4, 2) := by decide +kernel
theorem dX4_partnerOf_50 : decode cX4_partnerOf 50 = .ok (.iaload, 1) := by decide +kernel
theorem dX4_partnerOf_51 : decode cX4_partnerOf 51 = .ok (.istore_n 3, 1) := by decide +kernel
theorem dX4_partnerOf_52 : decode cX4_partnerOf 52 = .ok (.iload 4, 2) := by decide +kernel
theorem dX4_partnerOf_54 : decode cX4_partnerOf 54 = .ok (.istore_n 2, 1) := by decide +kernel
theorem dX4_partnerOf_55 : decode cX4_partnerOf 55 = .ok (.iinc 4 1, 3) := by decide +kernel
theorem dX4_partnerOf_58 : decode cX4_partnerOf 58 = .ok (.goto (-38), 3) := by decide +kernel
theorem dX4_partnerOf_61 : decode cX4_partnerOf 61 = .ok (.iload_n 2, 1) := by decide +kernel
theorem dX4_partnerOf_62 : decode cX4_partnerOf 62 = .ok (.ireturn, 1) := by decide +kernel
theorem dX4_lossOf_0 : decode cX4_lossOf 0 = .ok (.aload_n 0, 1) := by decide +kernel
theorem dX4_lossOf_1 : decode cX4_lossOf 1 = .ok (.getfield 11, 3) := by decide +kernel
theorem dX4_lossOf_4 : decode cX4_lossOf 4 = .ok (.iload_n 1, 1) := by decide +kernel
theorem dX4_lossOf_5 : decode cX4_lossOf 5 = .ok (.aaload, 1) := by decide +kernel
theorem dX4_lossOf_6 : decode cX4_lossOf 6 = .ok (.bipush 40, 2) := by decide +kernel
theorem dX4_lossOf_8 : decode cX4_lossOf 8 = .ok (.iaload, 1) := by decide +kernel
theorem dX4_lossOf_9 : decode cX4_lossOf 9 = .ok (.istore_n 2, 1) := by decide +kernel
theorem dX4_lossOf_10 : decode cX4_lossOf 10 = .ok (.iconst 0, 1) := by decide +kernel
theorem dX4_lossOf_11 : decode cX4_lossOf 11 = .ok (.istore_n 3, 1) := by decide +kernel
theorem dX4_lossOf_12 : decode cX4_lossOf 12 = .ok (.iload_n 3, 1) := by decide +kernel
theorem dX4_lossOf_13 : decode cX4_lossOf 13 = .ok (.aload_n 0, 1) := by decide +kernel
theorem dX4_lossOf_14 : decode cX4_lossOf 14 = .ok (.getfield 35, 3) := by decide +kernel
theorem dX4_lossOf_17 : decode cX4_lossOf 17 = .ok (.if_icmp .ge 20, 3) := by decide +kernel
theorem dX4_lossOf_20 : decode cX4_lossOf 20 = .ok (.iload_n 2, 1) := by decide +kernel
theorem dX4_lossOf_21 : decode cX4_lossOf 21 = .ok (.aload_n 0, 1) := by decide +kernel
theorem dX4_lossOf_22 : decode cX4_lossOf 22 = .ok (.getfield 11, 3) := by decide +kernel
theorem dX4_lossOf_25 : decode cX4_lossOf 25 = .ok (.iload_n 1, 1) := by decide +kernel
theorem dX4_lossOf_26 : decode cX4_lossOf 26 = .ok (.aaload, 1) := by decide +kernel
theorem dX4_lossOf_27 : decode cX4_lossOf 27 = .ok (.iload_n 3, 1) := by decide +kernel
theorem dX4_lossOf_28 : decode cX4_lossOf 28 = .ok (.iaload, 1) := by decide +kernel
theorem dX4_lossOf_29 : decode cX4_lossOf 29 = .ok (.iadd, 1) := by decide +kernel
theorem dX4_lossOf_30 : decode cX4_lossOf 30 = .ok (.istore_n 2, 1) := by decide +kernel
theorem dX4_lossOf_31 : decode cX4_lossOf 31 = .ok (.iinc 3 1, 3) := by decide +kernel
theorem dX4_lossOf_34 : decode cX4_lossOf 34 = .ok (.goto (-22), 3) := by decide +kernel
theorem dX4_lossOf_37 : decode cX4_lossOf 37 = .ok (.ldc 38, 2) := by decide +kernel
theorem dX4_lossOf_39 : decode cX4_lossOf 39 = .ok (.iload_n 2, 1) := by decide +kernel
theorem dX4_lossOf_40 : decode cX4_lossOf 40 = .ok (.isub, 1) := by decide +kernel
theorem dX4_lossOf_41 : decode cX4_lossOf 41 = .ok (.ireturn, 1) := by decide +kernel
theorem dX5_init_0 : decode cX5_init 0 = .ok (.aload_n 0, 1) := by decide +kernel
theorem dX5_init_1 : decode cX5_init 1 = .ok (.invokespecial 3, 3) := by decide +kernel
theorem dX5_init_4 : decode cX5_init 4 = .ok (.aload_n 0, 1) := by decide +kernel
theorem dX5_init_5 : decode cX5_init 5 = .ok (.iconst 0, 1) := by decide +kernel
theorem dX5_init_6 : decode cX5_init 6 = .ok (.putfield 9, 3) := by decide +kernel
theorem dX5_init_9 : decode cX5_init 9 = .ok (.aload_n 0, 1) := by decide +kernel
theorem dX5_init_10 : decode cX5_init 10 = .ok (.bipush 30, 2) := by decide +kernel
theorem dX5_init_12 : decode cX5_init 12 = .ok (.newarray .int, 2) := by decide +kernel
theorem dX5_init_14 : decode cX5_init 14 = .ok (.putfield 15, 3) := by decide +kernel
theorem dX5_init_17 : decode cX5_init 17 = .ok (.return_, 1) := by decide +kernel
theorem dX5_holdSentence_0 : decode cX5_holdSentence 0 = .ok (.aload_n 0, 1) := by decide +kernel
theorem dX5_holdSentence_1 : decode cX5_holdSentence 1 = .ok (.iconst 1, 1) := by decide +kernel
theorem dX5_holdSentence_2 : decode cX5_holdSentence 2 = .ok (.putfield 9, 3) := by decide +kernel
theorem dX5_holdSentence_5 : decode cX5_holdSentence 5 = .ok (.aload_n 0, 1) := by decide +kernel
theorem dX5_holdSentence_6 : decode cX5_holdSentence 6 = .ok (.iload_n 2, 1) := by decide +kernel
theorem dX5_holdSentence_7 : decode cX5_holdSentence 7 = .ok (.putfield 19, 3) := by decide +kernel
theorem dX5_holdSentence_10 : decode cX5_holdSentence 10 = .ok (.iconst 0, 1) := by decide +kernel
theorem dX5_holdSentence_11 : decode cX5_holdSentence 11 = .ok (.istore_n 3, 1) := by decide +kernel
theorem dX5_holdSentence_12 : decode cX5_holdSentence 12 = .ok (.iload_n 3, 1) := by decide +kernel
theorem dX5_holdSentence_13 : decode cX5_holdSentence 13 = .ok (.iload_n 2, 1) := by decide +kernel
theorem dX5_holdSentence_14 : decode cX5_holdSentence 14 = .ok (.if_icmp .ge 18, 3) := by decide +kernel
theorem dX5_holdSentence_17 : decode cX5_holdSentence 17 = .ok (.aload_n 0, 1) := by decide +kernel
theorem dX5_holdSentence_18 : decode cX5_holdSentence 18 = .ok (.getfield 15, 3) := by decide +kernel
theorem dX5_holdSentence_21 : decode cX5_holdSentence 21 = .ok (.iload_n 3, 1) := by decide +kernel
theorem dX5_holdSentence_22 : decode cX5_holdSentence 22 = .ok (.aload_n 1, 1) := by decide +kernel
theorem dX5_holdSentence_23 : decode cX5_holdSentence 23 = .ok (.iload_n 3, 1) := by decide +kernel
theorem dX5_holdSentence_24 : decode cX5_holdSentence 24 = .ok (.iaload, 1) := by decide +kernel
theorem dX5_holdSentence_25 : decode cX5_holdSentence 25 = .ok (.iastore, 1) := by decide +kernel
theorem dX5_holdSentence_26 : decode cX5_holdSentence 26 = .ok (.iinc 3 1, 3) := by decide +kernel
theorem dX5_holdSentence_29 : decode cX5_holdSentence 29 = .ok (.goto (-17), 3) := by decide +kernel
theorem dX5_holdSentence_32 : decode cX5_holdSentence 32 = .ok (.return_, 1) := by decide +kernel
theorem dX5_holdJoint_0 : decode cX5_holdJoint 0 = .ok (.aload_n 0, 1) := by decide +kernel
theorem dX5_holdJoint_1 : decode cX5_holdJoint 1 = .ok (.iconst 2, 1) := by decide +kernel
theorem dX5_holdJoint_2 : decode cX5_holdJoint 2 = .ok (.putfield 9, 3) := by decide +kernel
theorem dX5_holdJoint_5 : decode cX5_holdJoint 5 = .ok (.aload_n 0, 1) := by decide +kernel
theorem dX5_holdJoint_6 : decode cX5_holdJoint 6 = .ok (.iconst 0, 1) := by decide +kernel
theorem dX5_holdJoint_7 : decode cX5_holdJoint 7 = .ok (.putfield 19, 3) := by decide +kernel
theorem dX5_holdJoint_10 : decode cX5_holdJoint 10 = .ok (.aload_n 0, 1) := by decide +kernel
theorem dX5_holdJoint_11 : decode cX5_holdJoint 11 = .ok (.iload_n 1, 1) := by decide +kernel
theorem dX5_holdJoint_12 : decode cX5_holdJoint 12 = .ok (.putfield 22, 3) := by decide +kernel
theorem dX5_holdJoint_15 : decode cX5_holdJoint 15 = .ok (.aload_n 0, 1) := by decide +kernel
theorem dX5_holdJoint_16 : decode cX5_holdJoint 16 = .ok (.iload_n 2, 1) := by decide +kernel
theorem dX5_holdJoint_17 : decode cX5_holdJoint 17 = .ok (.putfield 25, 3) := by decide +kernel
theorem dX5_holdJoint_20 : decode cX5_holdJoint 20 = .ok (.return_, 1) := by decide +kernel
theorem dX5_holdRow_0 : decode cX5_holdRow 0 = .ok (.aload_n 0, 1) := by decide +kernel
theorem dX5_holdRow_1 : decode cX5_holdRow 1 = .ok (.iconst 3, 1) := by decide +kernel
theorem dX5_holdRow_2 : decode cX5_holdRow 2 = .ok (.putfield 9, 3) := by decide +kernel
theorem dX5_holdRow_5 : decode cX5_holdRow 5 = .ok (.aload_n 0, 1) := by decide +kernel
theorem dX5_holdRow_6 : decode cX5_holdRow 6 = .ok (.iload_n 1, 1) := by decide +kernel
theorem dX5_holdRow_7 : decode cX5_holdRow 7 = .ok (.putfield 19, 3) := by decide +kernel
theorem dX5_holdRow_10 : decode cX5_holdRow 10 = .ok (.aload_n 0, 1) := by decide +kernel
theorem dX5_holdRow_11 : decode cX5_holdRow 11 = .ok (.getfield 15, 3) := by decide +kernel
theorem dX5_holdRow_14 : decode cX5_holdRow 14 = .ok (.iconst 0, 1) := by decide +kernel
theorem dX5_holdRow_15 : decode cX5_holdRow 15 = .ok (.invokestatic 28, 3) := by decide +kernel
theorem dX5_holdRow_18 : decode cX5_holdRow 18 = .ok (.return_, 1) := by decide +kernel
theorem dX5_copyFrom_0 : decode cX5_copyFrom 0 = .ok (.iload_n 2, 1) := by decide +kernel
theorem dX5_copyFrom_1 : decode cX5_copyFrom 1 = .ok (.ifCond .lt 11, 3) := by decide +kernel
theorem dX5_copyFrom_4 : decode cX5_copyFrom 4 = .ok (.iload_n 2, 1) := by decide +kernel
theorem dX5_copyFrom_5 : decode cX5_copyFrom 5 = .ok (.aload_n 0, 1) := by decide +kernel
theorem dX5_copyFrom_6 : decode cX5_copyFrom 6 = .ok (.getfield 19, 3) := by decide +kernel
theorem dX5_copyFrom_9 : decode cX5_copyFrom 9 = .ok (.if_icmp .lt 5, 3) := by decide +kernel
theorem dX5_copyFrom_12 : decode cX5_copyFrom 12 = .ok (.iconst 0, 1) := by decide +kernel
theorem dX5_copyFrom_13 : decode cX5_copyFrom 13 = .ok (.ireturn, 1) := by decide +kernel
theorem dX5_copyFrom_14 : decode cX5_copyFrom 14 = .ok (.aload_n 1, 1) := by decide +kernel
theorem dX5_copyFrom_15 : decode cX5_copyFrom 15 = .ok (.getfield 19, 3) := by decide +kernel
theorem dX5_copyFrom_18 : decode cX5_copyFrom 18 = .ok (.aload_n 0, 1) := by decide +kernel
theorem dX5_copyFrom_19 : decode cX5_copyFrom 19 = .ok (.getfield 19, 3) := by decide +kernel
theorem dX5_copyFrom_22 : decode cX5_copyFrom 22 = .ok (.iload_n 2, 1) := by decide +kernel
theorem dX5_copyFrom_23 : decode cX5_copyFrom 23 = .ok (.isub, 1) := by decide +kernel
theorem dX5_copyFrom_24 : decode cX5_copyFrom 24 = .ok (.invokestatic 34, 3) := by decide +kernel
theorem dX5_copyFrom_27 : decode cX5_copyFrom 27 = .ok (.istore_n 3, 1) := by decide +kernel
theorem dX5_copyFrom_28 : decode cX5_copyFrom 28 = .ok (.iconst 0, 1) := by decide +kernel
theorem dX5_copyFrom_29 : decode cX5_copyFrom 29 = .ok (.istore 4, 2) := by decide +kernel
theorem dX5_copyFrom_31 : decode cX5_copyFrom 31 = .ok (.iload 4, 2) := by decide +kernel
theorem dX5_copyFrom_33 : decode cX5_copyFrom 33 = .ok (.iload_n 3, 1) := by decide +kernel
theorem dX5_copyFrom_34 : decode cX5_copyFrom 34 = .ok (.if_icmp .ge 25, 3) := by decide +kernel
theorem dX5_copyFrom_37 : decode cX5_copyFrom 37 = .ok (.aload_n 0, 1) := by decide +kernel
theorem dX5_copyFrom_38 : decode cX5_copyFrom 38 = .ok (.getfield 15, 3) := by decide +kernel
theorem dX5_copyFrom_41 : decode cX5_copyFrom 41 = .ok (.iload_n 2, 1) := by decide +kernel
theorem dX5_copyFrom_42 : decode cX5_copyFrom 42 = .ok (.iload 4, 2) := by decide +kernel
theorem dX5_copyFrom_44 : decode cX5_copyFrom 44 = .ok (.iadd, 1) := by decide +kernel
theorem dX5_copyFrom_45 : decode cX5_copyFrom 45 = .ok (.aload_n 1, 1) := by decide +kernel
theorem dX5_copyFrom_46 : decode cX5_copyFrom 46 = .ok (.getfield 15, 3) := by decide +kernel
theorem dX5_copyFrom_49 : decode cX5_copyFrom 49 = .ok (.iload 4, 2) := by decide +kernel
theorem dX5_copyFrom_51 : decode cX5_copyFrom 51 = .ok (.iaload, 1) := by decide +kernel
theorem dX5_copyFrom_52 : decode cX5_copyFrom 52 = .ok (.iastore, 1) := by decide +kernel
theorem dX5_copyFrom_53 : decode cX5_copyFrom 53 = .ok (.iinc 4 1, 3) := by decide +kernel
theorem dX5_copyFrom_56 : decode cX5_copyFrom 56 = .ok (.goto (-25), 3) := by decide +kernel
theorem dX5_copyFrom_59 : decode cX5_copyFrom 59 = .ok (.iload_n 3, 1) := by decide +kernel
theorem dX5_copyFrom_60 : decode cX5_copyFrom 60 = .ok (.ireturn, 1) := by decide +kernel
theorem dX6_init_0 : decode cX6_init 0 = .ok (.aload_n 0, 1) := by decide +kernel
theorem dX6_init_1 : decode cX6_init 1 = .ok (.invokespecial 3, 3) := by decide +kernel
theorem dX6_init_4 : decode cX6_init 4 = .ok (.aload_n 0, 1) := by decide +kernel
theorem dX6_init_5 : decode cX6_init 5 = .ok (.sipush 1600, 3) := by decide +kernel
theorem dX6_init_8 : decode cX6_init 8 = .ok (.newarray .byte, 2) := by decide +kernel
theorem dX6_init_10 : decode cX6_init 10 = .ok (.putfield 9, 3) := by decide +kernel
theorem dX6_init_13 : decode cX6_init 13 = .ok (.return_, 1) := by decide +kernel
theorem dX6_append_0 : decode cX6_append 0 = .ok (.bipush 24, 2) := by decide +kernel
theorem dX6_append_2 : decode cX6_append 2 = .ok (.istore_n 2, 1) := by decide +kernel
theorem dX6_append_3 : decode cX6_append 3 = .ok (.iload_n 2, 1) := by decide +kernel
theorem dX6_append_4 : decode cX6_append 4 = .ok (.ifCond .lt 42, 3) := by decide +kernel
theorem dX6_append_7 : decode cX6_append 7 = .ok (.aload_n 0, 1) := by decide +kernel
theorem dX6_append_8 : decode cX6_append 8 = .ok (.getfield 15, 3) := by decide +kernel
theorem dX6_append_11 : decode cX6_append 11 = .ok (.sipush 1600, 3) := by decide +kernel
theorem dX6_append_14 : decode cX6_append 14 = .ok (.if_icmp .ge 32, 3) := by decide +kernel
theorem dX6_append_17 : decode cX6_append 17 = .ok (.aload_n 0, 1) := by decide +kernel
theorem dX6_append_18 : decode cX6_append 18 = .ok (.getfield 9, 3) := by decide +kernel
theorem dX6_append_21 : decode cX6_append 21 = .ok (.aload_n 0, 1) := by decide +kernel
theorem dX6_append_22 : decode cX6_append 22 = .ok (.getfield 15, 3) := by decide +kernel
theorem dX6_append_25 : decode cX6_append 25 = .ok (.iload_n 1, 1) := by decide +kernel
theorem dX6_append_26 : decode cX6_append 26 = .ok (.iload_n 2, 1) := by decide +kernel
theorem dX6_append_27 : decode cX6_append 27 = .ok (.iushr, 1) := by decide +kernel
theorem dX6_append_28 : decode cX6_append 28 = .ok (.i2b, 1) := by decide +kernel
theorem dX6_append_29 : decode cX6_append 29 = .ok (.bastore, 1) := by decide +kernel
theorem dX6_append_30 : decode cX6_append 30 = .ok (.aload_n 0, 1) := by decide +kernel
theorem dX6_append_31 : decode cX6_append 31 = .ok (.dup, 1) := by decide +kernel
theorem dX6_append_32 : decode cX6_append 32 = .ok (.getfield 15, 3) := by decide +kernel
theorem dX6_append_35 : decode cX6_append 35 = .ok (.iconst 1, 1) := by decide +kernel
theorem dX6_append_36 : decode cX6_append 36 = .ok (.iadd, 1) := by decide +kernel
theorem dX6_append_37 : decode cX6_append 37 = .ok (.putfield 15, 3) := by decide +kernel
theorem dX6_append_40 : decode cX6_append 40 = .ok (.iinc 2 (-8), 3) := by decide +kernel
theorem dX6_append_43 : decode cX6_append 43 = .ok (.goto (-40), 3) := by decide +kernel
theorem dX6_append_46 : decode cX6_append 46 = .ok (.return_, 1) := by decide +kernel
theorem dX6_isLetterAt_0 : decode cX6_isLetterAt 0 = .ok (.iload_n 1, 1) := by decide +kernel
theorem dX6_isLetterAt_1 : decode cX6_isLetterAt 1 = .ok (.ifCond .lt 11, 3) := by decide +kernel
theorem dX6_isLetterAt_4 : decode cX6_isLetterAt 4 = .ok (.iload_n 1, 1) := by decide +kernel
theorem dX6_isLetterAt_5 : decode cX6_isLetterAt 5 = .ok (.aload_n 0, 1) := by decide +kernel
theorem dX6_isLetterAt_6 : decode cX6_isLetterAt 6 = .ok (.getfield 15, 3) := by decide +kernel
theorem dX6_isLetterAt_9 : decode cX6_isLetterAt 9 = .ok (.if_icmp .lt 5, 3) := by decide +kernel
theorem dX6_isLetterAt_12 : decode cX6_isLetterAt 12 = .ok (.iconst 0, 1) := by decide +kernel
theorem dX6_isLetterAt_13 : decode cX6_isLetterAt 13 = .ok (.ireturn, 1) := by decide +kernel
theorem dX6_isLetterAt_14 : decode cX6_isLetterAt 14 = .ok (.aload_n 0, 1) := by decide +kernel
theorem dX6_isLetterAt_15 : decode cX6_isLetterAt 15 = .ok (.getfield 9, 3) := by decide +kernel
theorem dX6_isLetterAt_18 : decode cX6_isLetterAt 18 = .ok (.iload_n 1, 1) := by decide +kernel
theorem dX6_isLetterAt_19 : decode cX6_isLetterAt 19 = .ok (.baload, 1) := by decide +kernel
theorem dX6_isLetterAt_20 : decode cX6_isLetterAt 20 = .ok (.istore_n 2, 1) := by decide +kernel
theorem dX6_isLetterAt_21 : decode cX6_isLetterAt 21 = .ok (.iload_n 2, 1) := by decide +kernel
theorem dX6_isLetterAt_22 : decode cX6_isLetterAt 22 = .ok (.bipush 97, 2) := by decide +kernel
theorem dX6_isLetterAt_24 : decode cX6_isLetterAt 24 = .ok (.if_icmp .lt 9, 3) := by decide +kernel
theorem dX6_isLetterAt_27 : decode cX6_isLetterAt 27 = .ok (.iload_n 2, 1) := by decide +kernel
theorem dX6_isLetterAt_28 : decode cX6_isLetterAt 28 = .ok (.bipush 122, 2) := by decide +kernel
theorem dX6_isLetterAt_30 : decode cX6_isLetterAt 30 = .ok (.if_icmp .le 49, 3) := by decide +kernel
theorem dX6_isLetterAt_33 : decode cX6_isLetterAt 33 = .ok (.iload_n 2, 1) := by decide +kernel
theorem dX6_isLetterAt_34 : decode cX6_isLetterAt 34 = .ok (.bipush 65, 2) := by decide +kernel
theorem dX6_isLetterAt_36 : decode cX6_isLetterAt 36 = .ok (.if_icmp .lt 9, 3) := by decide +kernel
theorem dX6_isLetterAt_39 : decode cX6_isLetterAt 39 = .ok (.iload_n 2, 1) := by decide +kernel
theorem dX6_isLetterAt_40 : decode cX6_isLetterAt 40 = .ok (.bipush 90, 2) := by decide +kernel
theorem dX6_isLetterAt_42 : decode cX6_isLetterAt 42 = .ok (.if_icmp .le 37, 3) := by decide +kernel
theorem dX6_isLetterAt_45 : decode cX6_isLetterAt 45 = .ok (.aload_n 0, 1) := by decide +kernel
theorem dX6_isLetterAt_46 : decode cX6_isLetterAt 46 = .ok (.iload_n 1, 1) := by decide +kernel
theorem dX6_isLetterAt_47 : decode cX6_isLetterAt 47 = .ok (.invokevirtual 19, 3) := by decide +kernel
theorem dX6_isLetterAt_50 : decode cX6_isLetterAt 50 = .ok (.ifCond .ne 29, 3) := by decide +kernel
theorem dX6_isLetterAt_53 : decode cX6_isLetterAt 53 = .ok (.iload_n 2, 1) := by decide +kernel
theorem dX6_isLetterAt_54 : decode cX6_isLetterAt 54 = .ok (.bipush 46, 2) := by decide +kernel
theorem dX6_isLetterAt_56 : decode cX6_isLetterAt 56 = .ok (.if_icmp .ne 27, 3) := by decide +kernel
theorem dX6_isLetterAt_59 : decode cX6_isLetterAt 59 = .ok (.aload_n 0, 1) := by decide +kernel
theorem dX6_isLetterAt_60 : decode cX6_isLetterAt 60 = .ok (.iload_n 1, 1) := by decide +kernel
theorem dX6_isLetterAt_61 : decode cX6_isLetterAt 61 = .ok (.iconst 1, 1) := by decide +kernel
theorem dX6_isLetterAt_62 : decode cX6_isLetterAt 62 = .ok (.isub, 1) := by decide +kernel
theorem dX6_isLetterAt_63 : decode cX6_isLetterAt 63 = .ok (.invokevirtual 19, 3) := by decide +kernel
theorem dX6_isLetterAt_66 : decode cX6_isLetterAt 66 = .ok (.ifCond .eq 17, 3) := by decide +kernel
theorem dX6_isLetterAt_69 : decode cX6_isLetterAt 69 = .ok (.aload_n 0, 1) := by decide +kernel
theorem dX6_isLetterAt_70 : decode cX6_isLetterAt 70 = .ok (.iload_n 1, 1) := by decide +kernel
theorem dX6_isLetterAt_71 : decode cX6_isLetterAt 71 = .ok (.iconst 1, 1) := by decide +kernel
theorem dX6_isLetterAt_72 : decode cX6_isLetterAt 72 = .ok (.iadd, 1) := by decide +kernel
theorem dX6_isLetterAt_73 : decode cX6_isLetterAt 73 = .ok (.invokevirtual 19, 3) := by decide +kernel
theorem dX6_isLetterAt_76 : decode cX6_isLetterAt 76 = .ok (.ifCond .eq 7, 3) := by decide +kernel
theorem dX6_isLetterAt_79 : decode cX6_isLetterAt 79 = .ok (.iconst 1, 1) := by decide +kernel
theorem dX6_isLetterAt_80 : decode cX6_isLetterAt 80 = .ok (.goto 4, 3) := by decide +kernel
theorem dX6_isLetterAt_83 : decode cX6_isLetterAt 83 = .ok (.iconst 0, 1) := by decide +kernel
theorem dX6_isLetterAt_84 : decode cX6_isLetterAt 84 = .ok (.ireturn, 1) := by decide +kernel
theorem dX6_isDigitAt_0 : decode cX6_isDigitAt 0 = .ok (.iload_n 1, 1) := by decide +kernel
theorem dX6_isDigitAt_1 : decode cX6_isDigitAt 1 = .ok (.ifCond .lt 37, 3) := by decide +kernel
theorem dX6_isDigitAt_4 : decode cX6_isDigitAt 4 = .ok (.iload_n 1, 1) := by decide +kernel
theorem dX6_isDigitAt_5 : decode cX6_isDigitAt 5 = .ok (.aload_n 0, 1) := by decide +kernel
theorem dX6_isDigitAt_6 : decode cX6_isDigitAt 6 = .ok (.getfield 15, 3) := by decide +kernel
theorem dX6_isDigitAt_9 : decode cX6_isDigitAt 9 = .ok (.if_icmp .ge 29, 3) := by decide +kernel
theorem dX6_isDigitAt_12 : decode cX6_isDigitAt 12 = .ok (.aload_n 0, 1) := by decide +kernel
theorem dX6_isDigitAt_13 : decode cX6_isDigitAt 13 = .ok (.getfield 9, 3) := by decide +kernel
theorem dX6_isDigitAt_16 : decode cX6_isDigitAt 16 = .ok (.iload_n 1, 1) := by decide +kernel
theorem dX6_isDigitAt_17 : decode cX6_isDigitAt 17 = .ok (.baload, 1) := by decide +kernel
theorem dX6_isDigitAt_18 : decode cX6_isDigitAt 18 = .ok (.bipush 48, 2) := by decide +kernel
theorem dX6_isDigitAt_20 : decode cX6_isDigitAt 20 = .ok (.if_icmp .lt 18, 3) := by decide +kernel
theorem dX6_isDigitAt_23 : decode cX6_isDigitAt 23 = .ok (.aload_n 0, 1) := by decide +kernel
theorem dX6_isDigitAt_24 : decode cX6_isDigitAt 24 = .ok (.getfield 9, 3) := by decide +kernel
theorem dX6_isDigitAt_27 : decode cX6_isDigitAt 27 = .ok (.iload_n 1, 1) := by decide +kernel
theorem dX6_isDigitAt_28 : decode cX6_isDigitAt 28 = .ok (.baload, 1) := by decide +kernel
theorem dX6_isDigitAt_29 : decode cX6_isDigitAt 29 = .ok (.bipush 57, 2) := by decide +kernel
theorem dX6_isDigitAt_31 : decode cX6_isDigitAt 31 = .ok (.if_icmp .gt 7, 3) := by decide +kernel
theorem dX6_isDigitAt_34 : decode cX6_isDigitAt 34 = .ok (.iconst 1, 1) := by decide +kernel
theorem dX6_isDigitAt_35 : decode cX6_isDigitAt 35 = .ok (.goto 4, 3) := by decide +kernel
theorem dX6_isDigitAt_38 : decode cX6_isDigitAt 38 = .ok (.iconst 0, 1) := by decide +kernel
theorem dX6_isDigitAt_39 : decode cX6_isDigitAt 39 = .ok (.ireturn, 1) := by decide +kernel
theorem dX6_smallAt_0 : decode cX6_smallAt 0 = .ok (.iload_n 1, 1) := by decide +kernel
theorem dX6_smallAt_1 : decode cX6_smallAt 1 = .ok (.ifCond .lt 11, 3) := by decide +kernel
theorem dX6_smallAt_4 : decode cX6_smallAt 4 = .ok (.iload_n 1, 1) := by decide +kernel
theorem dX6_smallAt_5 : decode cX6_smallAt 5 = .ok (.aload_n 0, 1) := by decide +kernel
theorem dX6_smallAt_6 : decode cX6_smallAt 6 = .ok (.getfield 15, 3) := by decide +kernel
theorem dX6_smallAt_9 : decode cX6_smallAt 9 = .ok (.if_icmp .lt 5, 3) := by decide +kernel
theorem dX6_smallAt_12 : decode cX6_smallAt 12 = .ok (.iconst 0, 1) := by decide +kernel
theorem dX6_smallAt_13 : decode cX6_smallAt 13 = .ok (.ireturn, 1) := by decide +kernel
theorem dX6_smallAt_14 : decode cX6_smallAt 14 = .ok (.aload_n 0, 1) := by decide +kernel
theorem dX6_smallAt_15 : decode cX6_smallAt 15 = .ok (.getfield 9, 3) := by decide +kernel
theorem dX6_smallAt_18 : decode cX6_smallAt 18 = .ok (.iload_n 1, 1) := by decide +kernel
theorem dX6_smallAt_19 : decode cX6_smallAt 19 = .ok (.baload, 1) := by decide +kernel
theorem dX6_smallAt_20 : decode cX6_smallAt 20 = .ok (.istore_n 2, 1) := by decide +kernel
theorem dX6_smallAt_21 : decode cX6_smallAt 21 = .ok (.iload_n 2, 1) := by decide +kernel
theorem dX6_smallAt_22 : decode cX6_smallAt 22 = .ok (.bipush 65, 2) := by decide +kernel
theorem dX6_smallAt_24 : decode cX6_smallAt 24 = .ok (.if_icmp .lt 19, 3) := by decide +kernel
theorem dX6_smallAt_27 : decode cX6_smallAt 27 = .ok (.iload_n 2, 1) := by decide +kernel
theorem dX6_smallAt_28 : decode cX6_smallAt 28 = .ok (.bipush 90, 2) := by decide +kernel
theorem dX6_smallAt_30 : decode cX6_smallAt 30 = .ok (.if_icmp .gt 13, 3) := by decide +kernel
theorem dX6_smallAt_33 : decode cX6_smallAt 33 = .ok (.iload_n 2, 1) := by decide +kernel
theorem dX6_smallAt_34 : decode cX6_smallAt 34 = .ok (.bipush 65, 2) := by decide +kernel
theorem dX6_smallAt_36 : decode cX6_smallAt 36 = .ok (.isub, 1) := by decide +kernel
theorem dX6_smallAt_37 : decode cX6_smallAt 37 = .ok (.bipush 97, 2) := by decide +kernel
theorem dX6_smallAt_39 : decode cX6_smallAt 39 = .ok (.iadd, 1) := by decide +kernel
theorem dX6_smallAt_40 : decode cX6_smallAt 40 = .ok (.goto 4, 3) := by decide +kernel
theorem dX6_smallAt_43 : decode cX6_smallAt 43 = .ok (.iload_n 2, 1) := by decide +kernel
theorem dX6_smallAt_44 : decode cX6_smallAt 44 = .ok (.ireturn, 1) := by decide +kernel
theorem dX7_init_0 : decode cX7_init 0 = .ok (.aload_n 0, 1) := by decide +kernel
theorem dX7_init_1 : decode cX7_init 1 = .ok (.invokespecial 5, 3) := by decide +kernel
theorem dX7_init_4 : decode cX7_init 4 = .ok (.aload_n 0, 1) := by decide +kernel
theorem dX7_init_5 : decode cX7_init 5 = .ok (.bipush 21, 2) := by decide +kernel
theorem dX7_init_7 : decode cX7_init 7 = .ok (.newarray .int, 2) := by decide +kernel
theorem dX7_init_9 : decode cX7_init 9 = .ok (.putfield 11, 3) := by decide +kernel
theorem dX7_init_12 : decode cX7_init 12 = .ok (.aload_n 0, 1) := by decide +kernel
theorem dX7_init_13 : decode cX7_init 13 = .ok (.bipush 21, 2) := by decide +kernel
theorem dX7_init_15 : decode cX7_init 15 = .ok (.newarray .int, 2) := by decide +kernel
theorem dX7_init_17 : decode cX7_init 17 = .ok (.putfield 15, 3) := by decide +kernel
theorem dX7_init_20 : decode cX7_init 20 = .ok (.aload_n 0, 1) := by decide +kernel
theorem dX7_init_21 : decode cX7_init 21 = .ok (.bipush 40, 2) := by decide +kernel
theorem dX7_init_23 : decode cX7_init 23 = .ok (.newarray .long, 2) := by decide +kernel
theorem dX7_init_25 : decode cX7_init 25 = .ok (.putfield 18, 3) := by decide +kernel
theorem dX7_init_28 : decode cX7_init 28 = .ok (.aload_n 0, 1) := by decide +kernel
theorem dX7_init_29 : decode cX7_init 29 = .ok (.bipush 20, 2) := by decide +kernel
theorem dX7_init_31 : decode cX7_init 31 = .ok (.newarray .long, 2) := by decide +kernel
theorem dX7_init_33 : decode cX7_init 33 = .ok (.putfield 22, 3) := by decide +kernel
theorem dX7_init_36 : decode cX7_init 36 = .ok (.aload_n 0, 1) := by decide +kernel
theorem dX7_init_37 : decode cX7_init 37 = .ok (.sipush 3087, 3) := by decide +kernel
theorem dX7_init_40 : decode cX7_init 40 = .ok (.newarray .int, 2) := by decide +kernel
theorem dX7_init_42 : decode cX7_init 42 = .ok (.putfield 25, 3) := by decide +kernel
theorem dX7_init_45 : decode cX7_init 45 = .ok (.aload_n 0, 1) := by decide +kernel
theorem dX7_init_46 : decode cX7_init 46 = .ok (.sipush 441, 3) := by decide +kernel
theorem dX7_init_49 : decode cX7_init 49 = .ok (.newarray .int, 2) := by decide +kernel
theorem dX7_init_51 : decode cX7_init 51 = .ok (.putfield 28, 3) := by decide +kernel
theorem dX7_init_54 : decode cX7_init 54 = .ok (.aload_n 0, 1) := by decide +kernel
theorem dX7_init_55 : decode cX7_init 55 = .ok (.sipush 441, 3) := by decide +kernel
theorem dX7_init_58 : decode cX7_init 58 = .ok (.newarray .int, 2) := by decide +kernel
theorem dX7_init_60 : decode cX7_init 60 = .ok (.putfield 31, 3) := by decide +kernel
theorem dX7_init_63 : decode cX7_init 63 = .ok (.aload_n 0, 1) := by decide +kernel
theorem dX7_init_64 : decode cX7_init 64 = .ok (.bipush 40, 2) := by decide +kernel
theorem dX7_init_66 : decode cX7_init 66 = .ok (.newarray .int, 2) := by decide +kernel
theorem dX7_init_68 : decode cX7_init 68 = .ok (.putfield 34, 3) := by decide +kernel
theorem dX7_init_71 : decode cX7_init 71 = .ok (.aload_n 0, 1) := by decide +kernel
theorem dX7_init_72 : decode cX7_init 72 = .ok (.bipush 40, 2) := by decide +kernel
theorem dX7_init_74 : decode cX7_init 74 = .ok (.newarray .int, 2) := by decide +kernel
theorem dX7_init_76 : decode cX7_init 76 = .ok (.putfield 37, 3) := by decide +kernel
theorem dX7_init_79 : decode cX7_init 79 = .ok (.aload_n 0, 1) := by decide +kernel
theorem dX7_init_80 : decode cX7_init 80 = .ok (.bipush 40, 2) := by decide +kernel
theorem dX7_init_82 : decode cX7_init 82 = .ok (.newarray .int, 2) := by decide +kernel
theorem dX7_init_84 : decode cX7_init 84 = .ok (.putfield 40, 3) := by decide +kernel
theorem dX7_init_87 : decode cX7_init 87 = .ok (.aload_n 0, 1) := by decide +kernel
theorem dX7_init_88 : decode cX7_init 88 = .ok (.bipush 40, 2) := by decide +kernel
theorem dX7_init_90 : decode cX7_init 90 = .ok (.newarray .int, 2) := by decide +kernel
theorem dX7_init_92 : decode cX7_init 92 = .ok (.putfield 43, 3) := by decide +kernel
theorem dX7_init_95 : decode cX7_init 95 = .ok (.aload_n 0, 1) := by decide +kernel
theorem dX7_init_96 : decode cX7_init 96 = .ok (.aload_n 1, 1) := by decide +kernel
theorem dX7_init_97 : decode cX7_init 97 = .ok (.putfield 46, 3) := by decide +kernel
theorem dX7_init_100 : decode cX7_init 100 = .ok (.aload_n 0, 1) := by decide +kernel
theorem dX7_init_101 : decode cX7_init 101 = .ok (.aload_n 2, 1) := by decide +kernel
theorem dX7_init_102 : decode cX7_init 102 = .ok (.putfield 50, 3) := by decide +kernel
theorem dX7_init_105 : decode cX7_init 105 = .ok (.aload_n 0, 1) := by decide +kernel
theorem dX7_init_106 : decode cX7_init 106 = .ok (.aload_n 3, 1) := by decide +kernel
theorem dX7_init_107 : decode cX7_init 107 = .ok (.putfield 54, 3) := by decide +kernel
theorem dX7_init_110 : decode cX7_init 110 = .ok (.return_, 1) := by decide +kernel
theorem dX7_measure_0 : decode cX7_measure 0 = .ok (.aload_n 0, 1) := by decide +kernel
theorem dX7_measure_1 : decode cX7_measure 1 = .ok (.getfield 46, 3) := by decide +kernel
theorem dX7_measure_4 : decode cX7_measure 4 = .ok (.iconst 0, 1) := by decide +kernel
theorem dX7_measure_5 : decode cX7_measure 5 = .ok (.aaload, 1) := by decide +kernel
theorem dX7_measure_6 : decode cX7_measure 6 = .ok (.aload_n 0, 1) := by decide +kernel
theorem dX7_measure_7 : decode cX7_measure 7 = .ok (.getfield 11, 3) := by decide +kernel
theorem dX7_measure_10 : decode cX7_measure 10 = .ok (.invokestatic 58, 3) := by decide +kernel
theorem dX7_measure_13 : decode cX7_measure 13 = .ok (.aload_n 0, 1) := by decide +kernel
theorem dX7_measure_14 : decode cX7_measure 14 = .ok (.getfield 46, 3) := by decide +kernel
theorem dX7_measure_17 : decode cX7_measure 17 = .ok (.iconst 1, 1) := by decide +kernel
theorem dX7_measure_18 : decode cX7_measure 18 = .ok (.aaload, 1) := by decide +kernel
theorem dX7_measure_19 : decode cX7_measure 19 = .ok (.aload_n 0, 1) := by decide +kernel
theorem dX7_measure_20 : decode cX7_measure 20 = .ok (.getfield 15, 3) := by decide +kernel
theorem dX7_measure_23 : decode cX7_measure 23 = .ok (.invokestatic 58, 3) := by decide +kernel
theorem dX7_measure_26 : decode cX7_measure 26 = .ok (.iconst 0, 1) := by decide +kernel
theorem dX7_measure_27 : decode cX7_measure 27 = .ok (.istore_n 1, 1) := by decide +kernel
theorem dX7_measure_28 : decode cX7_measure 28 = .ok (.iload_n 1, 1) := by decide +kernel
theorem dX7_measure_29 : decode cX7_measure 29 = .ok (.aload_n 0, 1) := by decide +kernel
theorem dX7_measure_30 : decode cX7_measure 30 = .ok (.getfield 46, 3) := by decide +kernel
theorem dX7_measure_33 : decode cX7_measure 33 = .ok (.iconst 0, 1) := by decide +kernel
theorem dX7_measure_34 : decode cX7_measure 34 = .ok (.aaload, 1) := by decide +kernel
theorem dX7_measure_35 : decode cX7_measure 35 = .ok (.getfield 62, 3) := by decide +kernel
theorem dX7_measure_38 : decode cX7_measure 38 = .ok (.getfield 68, 3) := by decide +kernel
theorem dX7_measure_41 : decode cX7_measure 41 = .ok (.if_icmp .ge 36, 3) := by decide +kernel
theorem dX7_measure_44 : decode cX7_measure 44 = .ok (.aload_n 0, 1) := by decide +kernel
theorem dX7_measure_45 : decode cX7_measure 45 = .ok (.getfield 54, 3) := by decide +kernel
theorem dX7_measure_48 : decode cX7_measure 48 = .ok (.iload_n 1, 1) := by decide +kernel
theorem dX7_measure_49 : decode cX7_measure 49 = .ok (.invokevirtual 74, 3) := by decide +kernel
theorem dX7_measure_52 : decode cX7_measure 52 = .ok (.istore_n 2, 1) := by decide +kernel
theorem dX7_measure_53 : decode cX7_measure 53 = .ok (.aload_n 0, 1) := by decide +kernel
theorem dX7_measure_54 : decode cX7_measure 54 = .ok (.getfield 18, 3) := by decide +kernel
theorem dX7_measure_57 : decode cX7_measure 57 = .ok (.iload_n 1, 1) := by decide +kernel
theorem dX7_measure_58 : decode cX7_measure 58 = .ok (.iload_n 2, 1) := by decide +kernel
theorem dX7_measure_59 : decode cX7_measure 59 = .ok (.iconst (-1), 1) := by decide +kernel
theorem dX7_measure_60 : decode cX7_measure 60 = .ok (.if_icmp .ne 7, 3) := by decide +kernel
theorem dX7_measure_63 : decode cX7_measure 63 = .ok (.lconst 0, 1) := by decide +kernel
theorem dX7_measure_64 : decode cX7_measure 64 = .ok (.goto 6, 3) := by decide +kernel
theorem dX7_measure_67 : decode cX7_measure 67 = .ok (.lconst 1, 1) := by decide +kernel
theorem dX7_measure_68 : decode cX7_measure 68 = .ok (.iload_n 2, 1) := by decide +kernel
theorem dX7_measure_69 : decode cX7_measure 69 = .ok (.lshl, 1) := by decide +kernel
theorem dX7_measure_70 : decode cX7_measure 70 = .ok (.lastore, 1) := by decide +kernel
theorem dX7_measure_71 : decode cX7_measure 71 = .ok (.iinc 1 1, 3) := by decide +kernel
theorem dX7_measure_74 : decode cX7_measure 74 = .ok (.goto (-46), 3) := by decide +kernel
theorem dX7_measure_77 : decode cX7_measure 77 = .ok (.iconst 0, 1) := by decide +kernel
theorem dX7_measure_78 : decode cX7_measure 78 = .ok (.istore_n 1, 1) := by decide +kernel
theorem dX7_measure_79 : decode cX7_measure 79 = .ok (.iload_n 1, 1) := by decide +kernel
theorem dX7_measure_80 : decode cX7_measure 80 = .ok (.aload_n 0, 1) := by decide +kernel
theorem dX7_measure_81 : decode cX7_measure 81 = .ok (.getfield 46, 3) := by decide +kernel
theorem dX7_measure_84 : decode cX7_measure 84 = .ok (.iconst 1, 1) := by decide +kernel
theorem dX7_measure_85 : decode cX7_measure 85 = .ok (.aaload, 1) := by decide +kernel
theorem dX7_measure_86 : decode cX7_measure 86 = .ok (.getfield 80, 3) := by decide +kernel
theorem dX7_measure_89 : decode cX7_measure 89 = .ok (.if_icmp .ge 26, 3) := by decide +kernel
theorem dX7_measure_92 : decode cX7_measure 92 = .ok (.aload_n 0, 1) := by decide +kernel
theorem dX7_measure_93 : decode cX7_measure 93 = .ok (.getfield 22, 3) := by decide +kernel
theorem dX7_measure_96 : decode cX7_measure 96 = .ok (.iload_n 1, 1) := by decide +kernel
theorem dX7_measure_97 : decode cX7_measure 97 = .ok (.aload_n 0, 1) := by decide +kernel
theorem dX7_measure_98 : decode cX7_measure 98 = .ok (.getfield 46, 3) := by decide +kernel
theorem dX7_measure_101 : decode cX7_measure 101 = .ok (.iconst 1, 1) := by decide +kernel
theorem dX7_measure_102 : decode cX7_measure 102 = .ok (.aaload, 1) := by decide +kernel
theorem dX7_measure_103 : decode cX7_measure 103 = .ok (.iload_n 1, 1) := by decide +kernel
theorem dX7_measure_104 : decode cX7_measure 104 = .ok (.iconst 1, 1) := by decide +kernel
theorem dX7_measure_105 : decode cX7_measure 105 = .ok (.invokevirtual 83, 3) := by decide +kernel
theorem dX7_measure_108 : decode cX7_measure 108 = .ok (.lastore, 1) := by decide +kernel
theorem dX7_measure_109 : decode cX7_measure 109 = .ok (.iinc 1 1, 3) := by decide +kernel
theorem dX7_measure_112 : decode cX7_measure 112 = .ok (.goto (-33), 3) := by decide +kernel
theorem dX7_measure_115 : decode cX7_measure 115 = .ok (.return_, 1) := by decide +kernel
theorem dX7_addUpLengths_0 : decode cX7_addUpLengths 0 = .ok (.aload_n 1, 1) := by decide +kernel
theorem dX7_addUpLengths_1 : decode cX7_addUpLengths 1 = .ok (.iconst 0, 1) := by decide +kernel
theorem dX7_addUpLengths_2 : decode cX7_addUpLengths 2 = .ok (.iconst 0, 1) := by decide +kernel
theorem dX7_addUpLengths_3 : decode cX7_addUpLengths 3 = .ok (.iastore, 1) := by decide +kernel
theorem dX7_addUpLengths_4 : decode cX7_addUpLengths 4 = .ok (.iconst 0, 1) := by decide +kernel
theorem dX7_addUpLengths_5 : decode cX7_addUpLengths 5 = .ok (.istore_n 2, 1) := by decide +kernel
theorem dX7_addUpLengths_6 : decode cX7_addUpLengths 6 = .ok (.iload_n 2, 1) := by decide +kernel
theorem dX7_addUpLengths_7 : decode cX7_addUpLengths 7 = .ok (.aload_n 0, 1) := by decide +kernel
theorem dX7_addUpLengths_8 : decode cX7_addUpLengths 8 = .ok (.getfield 80, 3) := by decide +kernel
theorem dX7_addUpLengths_11 : decode cX7_addUpLengths 11 = .ok (.if_icmp .ge 24, 3) := by decide +kernel
theorem dX7_addUpLengths_14 : decode cX7_addUpLengths 14 = .ok (.aload_n 1, 1) := by decide +kernel
theorem dX7_addUpLengths_15 : decode cX7_addUpLengths 15 = .ok (.iload_n 2, 1) := by decide +kernel
theorem dX7_addUpLengths_16 : decode cX7_addUpLengths 16 = .ok (.iconst 1, 1) := by decide +kernel
theorem dX7_addUpLengths_17 : decode cX7_addUpLengths 17 = .ok (.iadd, 1) := by decide +kernel
theorem dX7_addUpLengths_18 : decode cX7_addUpLengths 18 = .ok (.aload_n 1, 1) := by decide +kernel
theorem dX7_addUpLengths_19 : decode cX7_addUpLengths 19 = .ok (.iload_n 2, 1) := by decide +kernel
theorem dX7_addUpLengths_20 : decode cX7_addUpLengths 20 = .ok (.iaload, 1) := by decide +kernel
theorem dX7_addUpLengths_21 : decode cX7_addUpLengths 21 = .ok (.aload_n 0, 1) := by decide +kernel
theorem dX7_addUpLengths_22 : decode cX7_addUpLengths 22 = .ok (.iload_n 2, 1) := by decide +kernel
theorem dX7_addUpLengths_23 : decode cX7_addUpLengths 23 = .ok (.iconst 1, 1) := by decide +kernel
theorem dX7_addUpLengths_24 : decode cX7_addUpLengths 24 = .ok (.invokevirtual 87, 3) := by decide +kernel
theorem dX7_addUpLengths_27 : decode cX7_addUpLengths 27 = .ok (.iadd, 1) := by decide +kernel
