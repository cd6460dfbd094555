theorem kc_X4_58 : Cond.constantLong RX4 58 1048576 ∈ gd := gd_of (i := 794) (by decide +kernel) rfl
theorem mk_X4_settleKind : Mk mX4_settleKind 1 := ⟨gd_of (i := 87) (by decide +kernel) rfl, gd_of (i := 803) (by decide +kernel) rfl, by decide +kernel⟩
theorem mv_X4_60 : MLV RX4 60 mX4_settleKind 1 := ⟨gd_of (i := 800) (by decide +kernel) rfl, gd_of (i := 802) (by decide +kernel) rfl, gd_of (i := 22) (by decide +kernel) rfl, mk_X4_settleKind⟩
theorem mk_X4_obeyTerm : Mk mX4_obeyTerm 1 := ⟨gd_of (i := 87) (by decide +kernel) rfl, gd_of (i := 807) (by decide +kernel) rfl, by decide +kernel⟩
theorem mv_X4_64 : MLV RX4 64 mX4_obeyTerm 1 := ⟨gd_of (i := 804) (by decide +kernel) rfl, gd_of (i := 805) (by decide +kernel) rfl, gd_of (i := 806) (by decide +kernel) rfl, mk_X4_obeyTerm⟩
theorem kc_X4_67 : Cond.constant RX4 67 131071 ∈ gd := gd_of (i := 635) (by decide +kernel) rfl
theorem mv_X4_68 : MLS RX4 68 mJ9_max_7cf53 2 := ⟨gd_of (i := 636) (by decide +kernel) rfl, gd_of (i := 637) (by decide +kernel) rfl, mk_J9_max_7cf53⟩
theorem mo_X5_3 : Cond.methodLink RX5 3 objectInit ∈ gd := gd_of (i := 381) (by decide +kernel) rfl
theorem fl_X5_9 : FL RX5 9 5 0 := ⟨RX5, TX5, 5, rfl, by decide, gd_of (i := 382) (by decide +kernel) rfl⟩
theorem nf_5_0 : ∀ C T N, vwCl[5]? = some (C, T, N) → (T 0).2.2.2 = false := by intro C T N h; cases h; rfl
theorem fl_X5_15 : FL RX5 15 5 2 := ⟨RX5, TX5, 5, rfl, by decide, gd_of (i := 386) (by decide +kernel) rfl⟩
theorem ir_5_2 : isRf (ftys 5 2) := ⟨by decide, by decide, by decide⟩
theorem ir2_5_2 : isRf2 (ftys 5 2) := ⟨ir_5_2, by decide, by decide, by decide, by decide, by decide⟩
theorem nf_5_2 : ∀ C T N, vwCl[5]? = some (C, T, N) → (T 2).2.2.2 = true ∧ (T 2).1 = RX5 := by intro C T N h; cases h; exact ⟨rfl, rfl⟩
theorem fl_X5_19 : FL RX5 19 5 1 := ⟨RX5, TX5, 5, rfl, by decide, gd_of (i := 384) (by decide +kernel) rfl⟩
theorem nf_5_1 : ∀ C T N, vwCl[5]? = some (C, T, N) → (T 1).2.2.2 = false := by intro C T N h; cases h; rfl
theorem fl_X5_22 : FL RX5 22 5 3 := ⟨RX5, TX5, 5, rfl, by decide, gd_of (i := 388) (by decide +kernel) rfl⟩
theorem nf_5_3 : ∀ C T N, vwCl[5]? = some (C, T, N) → (T 3).2.2.2 = false := by intro C T N h; cases h; rfl
theorem fl_X5_25 : FL RX5 25 5 4 := ⟨RX5, TX5, 5, rfl, by decide, gd_of (i := 390) (by decide +kernel) rfl⟩
theorem nf_5_4 : ∀ C T N, vwCl[5]? = some (C, T, N) → (T 4).2.2.2 = false := by intro C T N h; cases h; rfl
theorem mv_X5_28 : MLS RX5 28 mJ7_fill_53178 2 := ⟨gd_of (i := 961) (by decide +kernel) rfl, gd_of (i := 222) (by decide +kernel) rfl, mk_J7_fill_53178⟩
theorem mk_J9_min_7cf53 : Mk mJ9_min_7cf53 2 := ⟨gd_of (i := 92) (by decide +kernel) rfl, gd_of (i := 674) (by decide +kernel) rfl, by decide +kernel⟩
theorem mv_X5_34 : MLS RX5 34 mJ9_min_7cf53 2 := ⟨gd_of (i := 998) (by decide +kernel) rfl, gd_of (i := 673) (by decide +kernel) rfl, mk_J9_min_7cf53⟩
theorem mo_X6_3 : Cond.methodLink RX6 3 objectInit ∈ gd := gd_of (i := 106) (by decide +kernel) rfl
theorem fl_X6_9 : FL RX6 9 6 0 := ⟨RX6, TX6, 2, rfl, by decide, gd_of (i := 107) (by decide +kernel) rfl⟩
theorem ir_6_0 : isRf (ftys 6 0) := ⟨by decide, by decide, by decide⟩
theorem ir2_6_0 : isRf2 (ftys 6 0) := ⟨ir_6_0, by decide, by decide, by decide, by decide, by decide⟩
theorem nf_6_0 : ∀ C T N, vwCl[6]? = some (C, T, N) → (T 0).2.2.2 = true ∧ (T 0).1 = RX6 := by intro C T N h; cases h; exact ⟨rfl, rfl⟩
theorem fl_X6_15 : FL RX6 15 6 1 := ⟨RX6, TX6, 2, rfl, by decide, gd_of (i := 109) (by decide +kernel) rfl⟩
theorem mk_X6_isDigitAt : Mk mX6_isDigitAt 1 := ⟨gd_of (i := 81) (by decide +kernel) rfl, gd_of (i := 469) (by decide +kernel) rfl, by decide +kernel⟩
theorem mv_X6_19 : MLV RX6 19 mX6_isDigitAt 1 := ⟨gd_of (i := 466) (by decide +kernel) rfl, gd_of (i := 468) (by decide +kernel) rfl, gd_of (i := 0) (by decide +kernel) rfl, mk_X6_isDigitAt⟩
theorem mo_X7_5 : Cond.methodLink RX7 5 objectInit ∈ gd := gd_of (i := 270) (by decide +kernel) rfl
theorem fl_X7_11 : FL RX7 11 7 4 := ⟨RX7, TX7, 17, rfl, by decide, gd_of (i := 276) (by decide +kernel) rfl⟩
theorem ir_7_4 : isRf (ftys 7 4) := ⟨by decide, by decide, by decide⟩
theorem ir2_7_4 : isRf2 (ftys 7 4) := ⟨ir_7_4, by decide, by decide, by decide, by decide, by decide⟩
theorem nf_7_4 : ∀ C T N, vwCl[7]? = some (C, T, N) → (T 4).2.2.2 = true ∧ (T 4).1 = RX7 := by intro C T N h; cases h; exact ⟨rfl, rfl⟩
theorem fl_X7_15 : FL RX7 15 7 5 := ⟨RX7, TX7, 17, rfl, by decide, gd_of (i := 277) (by decide +kernel) rfl⟩
theorem ir_7_5 : isRf (ftys 7 5) := ⟨by decide, by decide, by decide⟩
theorem ir2_7_5 : isRf2 (ftys 7 5) := ⟨ir_7_5, by decide, by decide, by decide, by decide, by decide⟩
theorem nf_7_5 : ∀ C T N, vwCl[7]? = some (C, T, N) → (T 5).2.2.2 = true ∧ (T 5).1 = RX7 := by intro C T N h; cases h; exact ⟨rfl, rfl⟩
theorem fl_X7_18 : FL RX7 18 7 6 := ⟨RX7, TX7, 17, rfl, by decide, gd_of (i := 278) (by decide +kernel) rfl⟩
theorem ir_7_6 : isRf (ftys 7 6) := ⟨by decide, by decide, by decide⟩
theorem ir2_7_6 : isRf2 (ftys 7 6) := ⟨ir_7_6, by decide, by decide, by decide, by decide, by decide⟩
theorem nf_7_6 : ∀ C T N, vwCl[7]? = some (C, T, N) → (T 6).2.2.2 = true ∧ (T 6).1 = RX7 := by intro C T N h; cases h; exact ⟨rfl, rfl⟩
theorem fl_X7_22 : FL RX7 22 7 7 := ⟨RX7, TX7, 17, rfl, by decide, gd_of (i := 279) (by decide +kernel) rfl⟩
theorem ir_7_7 : isRf (ftys 7 7) := ⟨by decide, by decide, by decide⟩
theorem ir2_7_7 : isRf2 (ftys 7 7) := ⟨ir_7_7, by decide, by decide, by decide, by decide, by decide⟩
theorem nf_7_7 : ∀ C T N, vwCl[7]? = some (C, T, N) → (T 7).2.2.2 = true ∧ (T 7).1 = RX7 := by intro C T N h; cases h; exact ⟨rfl, rfl⟩
theorem fl_X7_25 : FL RX7 25 7 8 := ⟨RX7, TX7, 17, rfl, by decide, gd_of (i := 280) (by decide +kernel) rfl⟩
theorem ir_7_8 : isRf (ftys 7 8) := ⟨by decide, by decide, by decide⟩
theorem ir2_7_8 : isRf2 (ftys 7 8) := ⟨ir_7_8, by decide, by decide, by decide, by decide, by decide⟩
theorem nf_7_8 : ∀ C T N, vwCl[7]? = some (C, T, N) → (T 8).2.2.2 = true ∧ (T 8).1 = RX7 := by intro C T N h; cases h; exact ⟨rfl, rfl⟩
theorem fl_X7_28 : FL RX7 28 7 9 := ⟨RX7, TX7, 17, rfl, by decide, gd_of (i := 281) (by decide +kernel) rfl⟩
theorem ir_7_9 : isRf (ftys 7 9) := ⟨by decide, by decide, by decide⟩
theorem ir2_7_9 : isRf2 (ftys 7 9) := ⟨ir_7_9, by decide, by decide, by decide, by decide, by decide⟩
theorem nf_7_9 : ∀ C T N, vwCl[7]? = some (C, T, N) → (T 9).2.2.2 = true ∧ (T 9).1 = RX7 := by intro C T N h; cases h; exact ⟨rfl, rfl⟩
theorem fl_X7_31 : FL RX7 31 7 10 := ⟨RX7, TX7, 17, rfl, by decide, gd_of (i := 282) (by decide +kernel) rfl⟩
theorem ir_7_10 : isRf (ftys 7 10) := ⟨by decide, by decide, by decide⟩
theorem ir2_7_10 : isRf2 (ftys 7 10) := ⟨ir_7_10, by decide, by decide, by decide, by decide, by decide⟩
theorem nf_7_10 : ∀ C T N, vwCl[7]? = some (C, T, N) → (T 10).2.2.2 = true ∧ (T 10).1 = RX7 := by intro C T N h; cases h; exact ⟨rfl, rfl⟩
theorem fl_X7_34 : FL RX7 34 7 13 := ⟨RX7, TX7, 17, rfl, by decide, gd_of (i := 287) (by decide +kernel) rfl⟩
theorem fl_X7_37 : FL RX7 37 7 14 := ⟨RX7, TX7, 17, rfl, by decide, gd_of (i := 290) (by decide +kernel) rfl⟩
theorem fl_X7_40 : FL RX7 40 7 15 := ⟨RX7, TX7, 17, rfl, by decide, gd_of (i := 293) (by decide +kernel) rfl⟩
theorem fl_X7_43 : FL RX7 43 7 16 := ⟨RX7, TX7, 17, rfl, by decide, gd_of (i := 296) (by decide +kernel) rfl⟩
theorem ir_7_16 : isRf (ftys 7 16) := ⟨by decide, by decide, by decide⟩
theorem ir2_7_16 : isRf2 (ftys 7 16) := ⟨ir_7_16, by decide, by decide, by decide, by decide, by decide⟩
theorem nf_7_16 : ∀ C T N, vwCl[7]? = some (C, T, N) → (T 16).2.2.2 = true ∧ (T 16).1 = RX7 := by intro C T N h; cases h; exact ⟨rfl, rfl⟩
theorem fl_X7_46 : FL RX7 46 7 0 := ⟨RX7, TX7, 17, rfl, by decide, gd_of (i := 271) (by decide +kernel) rfl⟩
theorem ir_7_0 : isRf (ftys 7 0) := ⟨by decide, by decide, by decide⟩
theorem ir2_7_0 : isRf2 (ftys 7 0) := ⟨ir_7_0, by decide, by decide, by decide, by decide, by decide⟩
theorem nf_7_0 : ∀ C T N, vwCl[7]? = some (C, T, N) → (T 0).2.2.2 = true ∧ (T 0).1 = RX7 := by intro C T N h; cases h; exact ⟨rfl, rfl⟩
theorem fl_X7_50 : FL RX7 50 7 1 := ⟨RX7, TX7, 17, rfl, by decide, gd_of (i := 272) (by decide +kernel) rfl⟩
theorem ir_7_1 : isRf (ftys 7 1) := ⟨by decide, by decide, by decide⟩
theorem ir2_7_1 : isRf2 (ftys 7 1) := ⟨ir_7_1, by decide, by decide, by decide, by decide, by decide⟩
theorem nf_7_1 : ∀ C T N, vwCl[7]? = some (C, T, N) → (T 1).2.2.2 = true ∧ (T 1).1 = RX7 := by intro C T N h; cases h; exact ⟨rfl, rfl⟩
theorem fl_X7_54 : FL RX7 54 7 2 := ⟨RX7, TX7, 17, rfl, by decide, gd_of (i := 273) (by decide +kernel) rfl⟩
theorem ir_7_2 : isRf (ftys 7 2) := ⟨by decide, by decide, by decide⟩
theorem ir2_7_2 : isRf2 (ftys 7 2) := ⟨ir_7_2, by decide, by decide, by decide, by decide, by decide⟩
theorem nf_7_2 : ∀ C T N, vwCl[7]? = some (C, T, N) → (T 2).2.2.2 = true ∧ (T 2).1 = RX7 := by intro C T N h; cases h; exact ⟨rfl, rfl⟩
theorem mk_X7_addUpLengths : Mk mX7_addUpLengths 2 := ⟨gd_of (i := 88) (by decide +kernel) rfl, gd_of (i := 629) (by decide +kernel) rfl, by decide +kernel⟩
theorem mv_X7_58 : MLS RX7 58 mX7_addUpLengths 2 := ⟨gd_of (i := 627) (by decide +kernel) rfl, gd_of (i := 628) (by decide +kernel) rfl, mk_X7_addUpLengths⟩
theorem fl_X7_62 : FL RX7 62 0 0 := ⟨RX0, TX0, 8, rfl, by decide, gd_of (i := 175) (by decide +kernel) rfl⟩
theorem fl_X7_68 : FL RX7 68 8 3 := ⟨RX8, TX8, 4, rfl, by decide, gd_of (i := 130) (by decide +kernel) rfl⟩
theorem mk_X4_partnerOf : Mk mX4_partnerOf 1 := ⟨gd_of (i := 87) (by decide +kernel) rfl, gd_of (i := 634) (by decide +kernel) rfl, by decide +kernel⟩
theorem mv_X7_74 : MLV RX7 74 mX4_partnerOf 1 := ⟨gd_of (i := 631) (by decide +kernel) rfl, gd_of (i := 632) (by decide +kernel) rfl, gd_of (i := 633) (by decide +kernel) rfl, mk_X4_partnerOf⟩
theorem fl_X7_80 : FL RX7 80 0 5 := ⟨RX0, TX0, 8, rfl, by decide, gd_of (i := 192) (by decide +kernel) rfl⟩
theorem mk_X0_kindsIn : Mk mX0_kindsIn 2 := ⟨gd_of (i := 84) (by decide +kernel) rfl, gd_of (i := 642) (by decide +kernel) rfl, by decide +kernel⟩
theorem mv_X7_83 : MLV RX7 83 mX0_kindsIn 2 := ⟨gd_of (i := 639) (by decide +kernel) rfl, gd_of (i := 640) (by decide +kernel) rfl, gd_of (i := 641) (by decide +kernel) rfl, mk_X0_kindsIn⟩
theorem mk_X0_lengthOf : Mk mX0_lengthOf 2 := ⟨gd_of (i := 84) (by decide +kernel) rfl, gd_of (i := 547) (by decide +kernel) rfl, by decide +kernel⟩
theorem mv_X7_87 : MLV RX7 87 mX0_lengthOf 2 := ⟨gd_of (i := 630) (by decide +kernel) rfl, gd_of (i := 545) (by decide +kernel) rfl, gd_of (i := 546) (by decide +kernel) rfl, mk_X0_lengthOf⟩
theorem mk_X7_costIndex : Mk mX7_costIndex 3 := ⟨gd_of (i := 88) (by decide +kernel) rfl, gd_of (i := 649) (by decide +kernel) rfl, by decide +kernel⟩
theorem mv_X7_91 : MLS RX7 91 mX7_costIndex 3 := ⟨gd_of (i := 647) (by decide +kernel) rfl, gd_of (i := 648) (by decide +kernel) rfl, mk_X7_costIndex⟩
theorem mk_X7_mayStand : Mk mX7_mayStand 3 := ⟨gd_of (i := 88) (by decide +kernel) rfl, gd_of (i := 653) (by decide +kernel) rfl, by decide +kernel⟩
theorem mv_X7_95 : MLV RX7 95 mX7_mayStand 3 := ⟨gd_of (i := 650) (by decide +kernel) rfl, gd_of (i := 652) (by decide +kernel) rfl, gd_of (i := 9) (by decide +kernel) rfl, mk_X7_mayStand⟩
theorem mk_X7_priceAt : Mk mX7_priceAt 3 := ⟨gd_of (i := 88) (by decide +kernel) rfl, gd_of (i := 678) (by decide +kernel) rfl, by decide +kernel⟩
theorem mv_X7_99 : MLV RX7 99 mX7_priceAt 3 := ⟨gd_of (i := 675) (by decide +kernel) rfl, gd_of (i := 676) (by decide +kernel) rfl, gd_of (i := 677) (by decide +kernel) rfl, mk_X7_priceAt⟩
theorem kc_X7_102 : Cond.constant RX7 102 1000000000 ∈ gd := gd_of (i := 699) (by decide +kernel) rfl
theorem gs_X7_103 : Cond.fieldLinkNest RX7 103 RX9 (snm 1) "[I" "SideBySide" ∈ ngW := List.mem_filter.mpr ⟨List.mem_of_getElem? (i := 654) (by decide +kernel), rfl⟩
theorem mk_X0_hasRun : Mk mX0_hasRun 2 := ⟨gd_of (i := 84) (by decide +kernel) rfl, gd_of (i := 563) (by decide +kernel) rfl, by decide +kernel⟩
theorem mv_X7_106 : MLV RX7 106 mX0_hasRun 2 := ⟨gd_of (i := 656) (by decide +kernel) rfl, gd_of (i := 561) (by decide +kernel) rfl, gd_of (i := 562) (by decide +kernel) rfl, mk_X0_hasRun⟩
theorem gs_X7_110 : Cond.fieldLinkNest RX7 110 RX9 (snm 2) "[I" "SideBySide" ∈ ngW := List.mem_filter.mpr ⟨List.mem_of_getElem? (i := 657) (by decide +kernel), rfl⟩
theorem mk_X3_allow : Mk mX3_allow 3 := ⟨gd_of (i := 85) (by decide +kernel) rfl, gd_of (i := 662) (by decide +kernel) rfl, by decide +kernel⟩
theorem mv_X7_113 : MLV RX7 113 mX3_allow 3 := ⟨gd_of (i := 659) (by decide +kernel) rfl, gd_of (i := 660) (by decide +kernel) rfl, gd_of (i := 661) (by decide +kernel) rfl, mk_X3_allow⟩
theorem fl_X7_118 : FL RX7 118 7 3 := ⟨RX7, TX7, 17, rfl, by decide, gd_of (i := 274) (by decide +kernel) rfl⟩
theorem nf_7_3 : ∀ C T N, vwCl[7]? = some (C, T, N) → (T 3).2.2.2 = false := by intro C T N h; cases h; rfl
theorem mk_X7_keepsParagraphs : Mk mX7_keepsParagraphs 4 := ⟨gd_of (i := 88) (by decide +kernel) rfl, gd_of (i := 671) (by decide +kernel) rfl, by decide +kernel⟩
theorem mv_X7_122 : MLV RX7 122 mX7_keepsParagraphs 4 := ⟨gd_of (i := 668) (by decide +kernel) rfl, gd_of (i := 670) (by decide +kernel) rfl, gd_of (i := 10) (by decide +kernel) rfl, mk_X7_keepsParagraphs⟩
theorem fl_X7_126 : FL RX7 126 0 6 := ⟨RX0, TX0, 8, rfl, by decide, gd_of (i := 196) (by decide +kernel) rfl⟩
theorem mv_X7_129 : MLS RX7 129 mJ9_min_7cf53 2 := ⟨gd_of (i := 672) (by decide +kernel) rfl, gd_of (i := 673) (by decide +kernel) rfl, mk_J9_min_7cf53⟩
theorem fl_X7_134 : FL RX7 134 0 4 := ⟨RX0, TX0, 8, rfl, by decide, gd_of (i := 190) (by decide +kernel) rfl⟩
theorem gs_X7_137 : Cond.fieldLinkNest RX7 137 RX9 (snm 3) "[I" "SideBySide" ∈ ngW := List.mem_filter.mpr ⟨List.mem_of_getElem? (i := 679) (by decide +kernel), rfl⟩
theorem mk_X9_hasBothSides : Mk mX9_hasBothSides 1 := ⟨gd_of (i := 80) (by decide +kernel) rfl, gd_of (i := 683) (by decide +kernel) rfl, by decide +kernel⟩
theorem mv_X7_140 : MLSN RX7 140 mX9_hasBothSides 1 := ⟨⟨"SideBySide", List.mem_filter.mpr ⟨List.mem_of_getElem? (i := 681) (by decide +kernel), rfl⟩⟩, gd_of (i := 682) (by decide +kernel) rfl, mk_X9_hasBothSides⟩
theorem mk_X7_stretch : Mk mX7_stretch 4 := ⟨gd_of (i := 88) (by decide +kernel) rfl, gd_of (i := 687) (by decide +kernel) rfl, by decide +kernel⟩
theorem mv_X7_144 : MLV RX7 144 mX7_stretch 4 := ⟨gd_of (i := 684) (by decide +kernel) rfl, gd_of (i := 686) (by decide +kernel) rfl, gd_of (i := 11) (by decide +kernel) rfl, mk_X7_stretch⟩
theorem mk_X7_countFriends : Mk mX7_countFriends 2 := ⟨gd_of (i := 88) (by decide +kernel) rfl, gd_of (i := 694) (by decide +kernel) rfl, by decide +kernel⟩
theorem mv_X7_148 : MLV RX7 148 mX7_countFriends 2 := ⟨gd_of (i := 691) (by decide +kernel) rfl, gd_of (i := 693) (by decide +kernel) rfl, gd_of (i := 12) (by decide +kernel) rfl, mk_X7_countFriends⟩
theorem mk_X7_friendsOf : Mk mX7_friendsOf 3 := ⟨gd_of (i := 88) (by decide +kernel) rfl, gd_of (i := 698) (by decide +kernel) rfl, by decide +kernel⟩
theorem mv_X7_152 : MLV RX7 152 mX7_friendsOf 3 := ⟨gd_of (i := 695) (by decide +kernel) rfl, gd_of (i := 697) (by decide +kernel) rfl, gd_of (i := 13) (by decide +kernel) rfl, mk_X7_friendsOf⟩
theorem mv_X7_155 : MLS RX7 155 mJ9_abs_0f7a4 1 := ⟨gd_of (i := 688) (by decide +kernel) rfl, gd_of (i := 689) (by decide +kernel) rfl, mk_J9_abs_0f7a4⟩
theorem fl_X7_158 : FL RX7 158 0 2 := ⟨RX0, TX0, 8, rfl, by decide, gd_of (i := 186) (by decide +kernel) rfl⟩
theorem fl_X7_161 : FL RX7 161 0 1 := ⟨RX0, TX0, 8, rfl, by decide, gd_of (i := 181) (by decide +kernel) rfl⟩
theorem mk_X7_sumBy : Mk mX7_sumBy 4 := ⟨gd_of (i := 88) (by decide +kernel) rfl, gd_of (i := 711) (by decide +kernel) rfl, by decide +kernel⟩
theorem mv_X7_165 : MLV RX7 165 mX7_sumBy 4 := ⟨gd_of (i := 708) (by decide +kernel) rfl, gd_of (i := 710) (by decide +kernel) rfl, gd_of (i := 15) (by decide +kernel) rfl, mk_X7_sumBy⟩
theorem mk_X7_placeOf : Mk mX7_placeOf 2 := ⟨gd_of (i := 88) (by decide +kernel) rfl, gd_of (i := 714) (by decide +kernel) rfl, by decide +kernel⟩
theorem mv_X7_169 : MLS RX7 169 mX7_placeOf 2 := ⟨gd_of (i := 712) (by decide +kernel) rfl, gd_of (i := 713) (by decide +kernel) rfl, mk_X7_placeOf⟩
theorem mk_X7_fillLeast : Mk mX7_fillLeast 2 := ⟨gd_of (i := 88) (by decide +kernel) rfl, gd_of (i := 707) (by decide +kernel) rfl, by decide +kernel⟩
theorem mv_X7_172 : MLV RX7 172 mX7_fillLeast 2 := ⟨gd_of (i := 704) (by decide +kernel) rfl, gd_of (i := 706) (by decide +kernel) rfl, gd_of (i := 14) (by decide +kernel) rfl, mk_X7_fillLeast⟩
theorem fl_X7_176 : FL RX7 176 7 11 := ⟨RX7, TX7, 17, rfl, by decide, gd_of (i := 284) (by decide +kernel) rfl⟩
theorem nf_7_11 : ∀ C T N, vwCl[7]? = some (C, T, N) → (T 11).2.2.2 = false := by intro C T N h; cases h; rfl
theorem fl_X7_179 : FL RX7 179 7 12 := ⟨RX7, TX7, 17, rfl, by decide, gd_of (i := 286) (by decide +kernel) rfl⟩
theorem nf_7_12 : ∀ C T N, vwCl[7]? = some (C, T, N) → (T 12).2.2.2 = false := by intro C T N h; cases h; rfl
theorem mk_X7_traceBest : Mk mX7_traceBest 0 := ⟨gd_of (i := 88) (by decide +kernel) rfl, gd_of (i := 718) (by decide +kernel) rfl, by decide +kernel⟩
theorem mv_X7_182 : MLV RX7 182 mX7_traceBest 0 := ⟨gd_of (i := 715) (by decide +kernel) rfl, gd_of (i := 717) (by decide +kernel) rfl, gd_of (i := 16) (by decide +kernel) rfl, mk_X7_traceBest⟩
theorem mk_X7_firstBestKind : Mk mX7_firstBestKind 2 := ⟨gd_of (i := 88) (by decide +kernel) rfl, gd_of (i := 722) (by decide +kernel) rfl, by decide +kernel⟩
theorem mv_X7_185 : MLV RX7 185 mX7_firstBestKind 2 := ⟨gd_of (i := 719) (by decide +kernel) rfl, gd_of (i := 721) (by decide +kernel) rfl, gd_of (i := 17) (by decide +kernel) rfl, mk_X7_firstBestKind⟩
theorem mo_X8_3 : Cond.methodLink RX8 3 objectInit ∈ gd := gd_of (i := 122) (by decide +kernel) rfl
theorem fl_X8_9 : FL RX8 9 8 0 := ⟨RX8, TX8, 4, rfl, by decide, gd_of (i := 125) (by decide +kernel) rfl⟩
theorem nf_8_0 : ∀ C T N, vwCl[8]? = some (C, T, N) → (T 0).2.2.2 = true ∧ (T 0).1 = RX8 := by intro C T N h; cases h; exact ⟨rfl, rfl⟩
theorem fl_X8_17 : FL RX8 17 8 1 := ⟨RX8, TX8, 4, rfl, by decide, gd_of (i := 126) (by decide +kernel) rfl⟩
theorem ir_8_1 : isRf (ftys 8 1) := ⟨by decide, by decide, by decide⟩
theorem ir2_8_1 : isRf2 (ftys 8 1) := ⟨ir_8_1, by decide, by decide, by decide, by decide, by decide⟩
theorem nf_8_1 : ∀ C T N, vwCl[8]? = some (C, T, N) → (T 1).2.2.2 = true ∧ (T 1).1 = RX8 := by intro C T N h; cases h; exact ⟨rfl, rfl⟩
theorem fl_X8_20 : FL RX8 20 8 2 := ⟨RX8, TX8, 4, rfl, by decide, gd_of (i := 127) (by decide +kernel) rfl⟩
theorem ir_8_2 : isRf (ftys 8 2) := ⟨by decide, by decide, by decide⟩
theorem ir2_8_2 : isRf2 (ftys 8 2) := ⟨ir_8_2, by decide, by decide, by decide, by decide, by decide⟩
theorem nf_8_2 : ∀ C T N, vwCl[8]? = some (C, T, N) → (T 2).2.2.2 = true ∧ (T 2).1 = RX8 := by intro C T N h; cases h; exact ⟨rfl, rfl⟩
theorem fl_X8_24 : FL RX8 24 8 3 := ⟨RX8, TX8, 4, rfl, by decide, gd_of (i := 128) (by decide +kernel) rfl⟩
theorem mk_X8_isAt : Mk mX8_isAt 3 := ⟨gd_of (i := 82) (by decide +kernel) rfl, gd_of (i := 490) (by decide +kernel) rfl, by decide +kernel⟩
theorem mv_X8_27 : MLV RX8 27 mX8_isAt 3 := ⟨gd_of (i := 487) (by decide +kernel) rfl, gd_of (i := 489) (by decide +kernel) rfl, gd_of (i := 2) (by decide +kernel) rfl, mk_X8_isAt⟩
theorem mv_X8_31 : MLV RX8 31 mX8_indexOf 2 := ⟨gd_of (i := 483) (by decide +kernel) rfl, gd_of (i := 484) (by decide +kernel) rfl, gd_of (i := 485) (by decide +kernel) rfl, mk_X8_indexOf⟩
theorem mo_X9_3 : Cond.methodLink RX9 3 objectInit ∈ gd := gd_of (i := 98) (by decide +kernel) rfl
theorem mk_X6_init : Mk mX6_init 0 := ⟨gd_of (i := 81) (by decide +kernel) rfl, gd_of (i := 105) (by decide +kernel) rfl, by decide +kernel⟩
theorem mv_X9_11 : MLIN RX9 11 mX6_init 0 := ⟨⟨"SideBySide", List.mem_filter.mpr ⟨List.mem_of_getElem? (i := 103) (by decide +kernel), rfl⟩⟩, gd_of (i := 104) (by decide +kernel) rfl, rfl, rfl, mk_X6_init⟩
theorem fl_X9_12 : FL RX9 12 9 0 := ⟨RX9, TX9, 12, rfl, by decide, gd_of (i := 403) (by decide +kernel) rfl⟩
theorem ir_9_0 : isRf (ftys 9 0) := ⟨by decide, by decide, by decide⟩
theorem ir2_9_0 : isRf2 (ftys 9 0) := ⟨ir_9_0, by decide, by decide, by decide, by decide, by decide⟩
theorem nf_9_0 : ∀ C T N, vwCl[9]? = some (C, T, N) → (T 0).2.2.2 = true ∧ (T 0).1 = RX9 := by intro C T N h; cases h; exact ⟨rfl, rfl⟩
theorem mv_X9_18 : MLI RX9 18 mX8_init 1 := ⟨gd_of (i := 119) (by decide +kernel) rfl, gd_of (i := 120) (by decide +kernel) rfl, rfl, rfl, mk_X8_init⟩
theorem fl_X9_21 : FL RX9 21 9 1 := ⟨RX9, TX9, 12, rfl, by decide, gd_of (i := 404) (by decide +kernel) rfl⟩
theorem ir_9_1 : isRf (ftys 9 1) := ⟨by decide, by decide, by decide⟩
theorem ir2_9_1 : isRf2 (ftys 9 1) := ⟨ir_9_1, by decide, by decide, by decide, by decide, by decide⟩
theorem nf_9_1 : ∀ C T N, vwCl[9]? = some (C, T, N) → (T 1).2.2.2 = true ∧ (T 1).1 = RX9 := by intro C T N h; cases h; exact ⟨rfl, rfl⟩
theorem mk_X1_init : Mk mX1_init 2 := ⟨gd_of (i := 83) (by decide +kernel) rfl, gd_of (i := 146) (by decide +kernel) rfl, by decide +kernel⟩
theorem mv_X9_27 : MLI RX9 27 mX1_init 2 := ⟨gd_of (i := 144) (by decide +kernel) rfl, gd_of (i := 145) (by decide +kernel) rfl, rfl, rfl, mk_X1_init⟩
theorem fl_X9_30 : FL RX9 30 9 2 := ⟨RX9, TX9, 12, rfl, by decide, gd_of (i := 405) (by decide +kernel) rfl⟩
theorem ir_9_2 : isRf (ftys 9 2) := ⟨by decide, by decide, by decide⟩
theorem ir2_9_2 : isRf2 (ftys 9 2) := ⟨ir_9_2, by decide, by decide, by decide, by decide, by decide⟩
theorem nf_9_2 : ∀ C T N, vwCl[9]? = some (C, T, N) → (T 2).2.2.2 = true ∧ (T 2).1 = RX9 := by intro C T N h; cases h; exact ⟨rfl, rfl⟩
theorem mk_X0_init : Mk mX0_init 0 := ⟨gd_of (i := 84) (by decide +kernel) rfl, gd_of (i := 168) (by decide +kernel) rfl, by decide +kernel⟩
theorem mv_X9_36 : MLIN RX9 36 mX0_init 0 := ⟨⟨"SideBySide", List.mem_filter.mpr ⟨List.mem_of_getElem? (i := 166) (by decide +kernel), rfl⟩⟩, gd_of (i := 167) (by decide +kernel) rfl, rfl, rfl, mk_X0_init⟩
theorem fl_X9_37 : FL RX9 37 9 3 := ⟨RX9, TX9, 12, rfl, by decide, gd_of (i := 406) (by decide +kernel) rfl⟩
theorem ir_9_3 : isRf (ftys 9 3) := ⟨by decide, by decide, by decide⟩
theorem ir2_9_3 : isRf2 (ftys 9 3) := ⟨ir_9_3, by decide, by decide, by decide, by decide, by decide⟩
theorem nf_9_3 : ∀ C T N, vwCl[9]? = some (C, T, N) → (T 3).2.2.2 = true ∧ (T 3).1 = RX9 := by intro C T N h; cases h; exact ⟨rfl, rfl⟩
theorem fl_X9_41 : FL RX9 41 9 4 := ⟨RX9, TX9, 12, rfl, by decide, gd_of (i := 407) (by decide +kernel) rfl⟩
theorem ir_9_4 : isRf (ftys 9 4) := ⟨by decide, by decide, by decide⟩
theorem ir2_9_4 : isRf2 (ftys 9 4) := ⟨ir_9_4, by decide, by decide, by decide, by decide, by decide⟩
theorem nf_9_4 : ∀ C T N, vwCl[9]? = some (C, T, N) → (T 4).2.2.2 = false := by intro C T N h; cases h; rfl
theorem mk_X3_init : Mk mX3_init 0 := ⟨gd_of (i := 85) (by decide +kernel) rfl, gd_of (i := 219) (by decide +kernel) rfl, by decide +kernel⟩
theorem mv_X9_47 : MLI RX9 47 mX3_init 0 := ⟨gd_of (i := 217) (by decide +kernel) rfl, gd_of (i := 218) (by decide +kernel) rfl, rfl, rfl, mk_X3_init⟩
theorem fl_X9_48 : FL RX9 48 9 5 := ⟨RX9, TX9, 12, rfl, by decide, gd_of (i := 408) (by decide +kernel) rfl⟩
theorem ir_9_5 : isRf (ftys 9 5) := ⟨by decide, by decide, by decide⟩
theorem ir2_9_5 : isRf2 (ftys 9 5) := ⟨ir_9_5, by decide, by decide, by decide, by decide, by decide⟩
theorem nf_9_5 : ∀ C T N, vwCl[9]? = some (C, T, N) → (T 5).2.2.2 = true ∧ (T 5).1 = RX9 := by intro C T N h; cases h; exact ⟨rfl, rfl⟩
theorem mk_X4_init : Mk mX4_init 0 := ⟨gd_of (i := 87) (by decide +kernel) rfl, gd_of (i := 239) (by decide +kernel) rfl, by decide +kernel⟩
theorem mv_X9_54 : MLI RX9 54 mX4_init 0 := ⟨gd_of (i := 237) (by decide +kernel) rfl, gd_of (i := 238) (by decide +kernel) rfl, rfl, rfl, mk_X4_init⟩
theorem fl_X9_55 : FL RX9 55 9 6 := ⟨RX9, TX9, 12, rfl, by decide, gd_of (i := 409) (by decide +kernel) rfl⟩
theorem ir_9_6 : isRf (ftys 9 6) := ⟨by decide, by decide, by decide⟩
theorem ir2_9_6 : isRf2 (ftys 9 6) := ⟨ir_9_6, by decide, by decide, by decide, by decide, by decide⟩
theorem nf_9_6 : ∀ C T N, vwCl[9]? = some (C, T, N) → (T 6).2.2.2 = true ∧ (T 6).1 = RX9 := by intro C T N h; cases h; exact ⟨rfl, rfl⟩
theorem mk_X7_init : Mk mX7_init 3 := ⟨gd_of (i := 88) (by decide +kernel) rfl, gd_of (i := 269) (by decide +kernel) rfl, by decide +kernel⟩
theorem mv_X9_61 : MLI RX9 61 mX7_init 3 := ⟨gd_of (i := 267) (by decide +kernel) rfl, gd_of (i := 268) (by decide +kernel) rfl, rfl, rfl, mk_X7_init⟩
theorem fl_X9_64 : FL RX9 64 9 7 := ⟨RX9, TX9, 12, rfl, by decide, gd_of (i := 410) (by decide +kernel) rfl⟩
theorem ir_9_7 : isRf (ftys 9 7) := ⟨by decide, by decide, by decide⟩
theorem ir2_9_7 : isRf2 (ftys 9 7) := ⟨ir_9_7, by decide, by decide, by decide, by decide, by decide⟩
theorem nf_9_7 : ∀ C T N, vwCl[9]? = some (C, T, N) → (T 7).2.2.2 = true ∧ (T 7).1 = RX9 := by intro C T N h; cases h; exact ⟨rfl, rfl⟩
theorem mk_X2_init : Mk mX2_init 3 := ⟨gd_of (i := 89) (by decide +kernel) rfl, gd_of (i := 337) (by decide +kernel) rfl, by decide +kernel⟩
theorem mv_X9_70 : MLI RX9 70 mX2_init 3 := ⟨gd_of (i := 335) (by decide +kernel) rfl, gd_of (i := 336) (by decide +kernel) rfl, rfl, rfl, mk_X2_init⟩
theorem fl_X9_73 : FL RX9 73 9 8 := ⟨RX9, TX9, 12, rfl, by decide, gd_of (i := 411) (by decide +kernel) rfl⟩
theorem ir_9_8 : isRf (ftys 9 8) := ⟨by decide, by decide, by decide⟩
theorem ir2_9_8 : isRf2 (ftys 9 8) := ⟨ir_9_8, by decide, by decide, by decide, by decide, by decide⟩
theorem nf_9_8 : ∀ C T N, vwCl[9]? = some (C, T, N) → (T 8).2.2.2 = true ∧ (T 8).1 = RX9 := by intro C T N h; cases h; exact ⟨rfl, rfl⟩
theorem fl_X9_79 : FL RX9 79 9 9 := ⟨RX9, TX9, 12, rfl, by decide, gd_of (i := 412) (by decide +kernel) rfl⟩
theorem ir_9_9 : isRf (ftys 9 9) := ⟨by decide, by decide, by decide⟩
theorem ir2_9_9 : isRf2 (ftys 9 9) := ⟨ir_9_9, by decide, by decide, by decide, by decide, by decide⟩
theorem nf_9_9 : ∀ C T N, vwCl[9]? = some (C, T, N) → (T 9).2.2.2 = true ∧ (T 9).1 = RX9 := by intro C T N h; cases h; exact ⟨rfl, rfl⟩
theorem fl_X9_83 : FL RX9 83 9 10 := ⟨RX9, TX9, 12, rfl, by decide, gd_of (i := 413) (by decide +kernel) rfl⟩
theorem nf_9_10 : ∀ C T N, vwCl[9]? = some (C, T, N) → (T 10).2.2.2 = false := by intro C T N h; cases h; rfl
theorem fl_X9_87 : FL RX9 87 9 11 := ⟨RX9, TX9, 12, rfl, by decide, gd_of (i := 414) (by decide +kernel) rfl⟩
theorem nf_9_11 : ∀ C T N, vwCl[9]? = some (C, T, N) → (T 11).2.2.2 = false := by intro C T N h; cases h; rfl
theorem mk_X5_init : Mk mX5_init 0 := ⟨gd_of (i := 90) (by decide +kernel) rfl, gd_of (i := 380) (by decide +kernel) rfl, by decide +kernel⟩
theorem mv_X9_91 : MLIN RX9 91 mX5_init 0 := ⟨⟨"SideBySide", List.mem_filter.mpr ⟨List.mem_of_getElem? (i := 378) (by decide +kernel), rfl⟩⟩, gd_of (i := 379) (by decide +kernel) rfl, rfl, rfl, mk_X5_init⟩
theorem fl_X9_92 : FL RX9 92 6 1 := ⟨RX6, TX6, 2, rfl, by decide, gd_of (i := 108) (by decide +kernel) rfl⟩
theorem kc_X9_95 : Cond.constant RX9 95 (-100004) ∈ gd := gd_of (i := 444) (by decide +kernel) rfl
theorem mk_X6_append : Mk mX6_append 1 := ⟨gd_of (i := 81) (by decide +kernel) rfl, gd_of (i := 448) (by decide +kernel) rfl, by decide +kernel⟩
theorem mv_X9_96 : MLV RX9 96 mX6_append 1 := ⟨gd_of (i := 445) (by decide +kernel) rfl, gd_of (i := 446) (by decide +kernel) rfl, gd_of (i := 447) (by decide +kernel) rfl, mk_X6_append⟩
theorem kc_X9_99 : Cond.constant RX9 99 (-100002) ∈ gd := gd_of (i := 453) (by decide +kernel) rfl
theorem mk_X1_readWords : Mk mX1_readWords 0 := ⟨gd_of (i := 83) (by decide +kernel) rfl, gd_of (i := 461) (by decide +kernel) rfl, by decide +kernel⟩
theorem mv_X9_100 : MLV RX9 100 mX1_readWords 0 := ⟨gd_of (i := 458) (by decide +kernel) rfl, gd_of (i := 459) (by decide +kernel) rfl, gd_of (i := 460) (by decide +kernel) rfl, mk_X1_readWords⟩
