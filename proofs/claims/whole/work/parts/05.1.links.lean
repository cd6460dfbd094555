abbrev mX10_sort : Mi := (yX10_sort, cX10_sort, 2, (some .int), 2, 45)
abbrev mX10_asks : Mi := (yX10_asks, cX10_asks, 3, none, 1, 25)
abbrev mX10_write : Mi := (yX10_write, cX10_write, 5, (some .int), 2, 47)
abbrev mX10_read : Mi := (yX10_read, cX10_read, 3, (some .int), 2, 47)
abbrev mX10_spell : Mi := (yX10_spell, cX10_spell, 5, (some .int), 2, 45)
abbrev mX10_rate : Mi := (yX10_rate, cX10_rate, 2, (some .int), 2, 45)
abbrev mX10_code : Mi := (yX10_code, cX10_code, 1, (some .int), 0, 0)
abbrev mJ9_abs_0f7a4 : Mi := (yJ9_abs_0f7a4, cJ9_abs_0f7a4, 1, (some .int), 0, 0)
abbrev mJ9_max_7cf53 : Mi := (yJ9_max_7cf53, cJ9_max_7cf53, 2, (some .int), 0, 0)
abbrev mJ9_min_7cf53 : Mi := (yJ9_min_7cf53, cJ9_min_7cf53, 2, (some .int), 0, 0)
abbrev mJ7_fill_d0a16 : Mi := (yJ7_fill_d0a16, cJ7_fill_d0a16, 5, none, 0, 0)
abbrev mJ7_fill_53178 : Mi := (yJ7_fill_53178, cJ7_fill_53178, 4, none, 0, 0)
abbrev mL_law : Mi := (yL_law, cL_law, 4, (some .boolean), 10, 416)
theorem mo_X0_3 : Cond.methodLink RX0 3 objectInit ∈ gd := gd_of (i := 169) (by decide +kernel) rfl
theorem mk_X8_init : Mk mX8_init 1 := ⟨gd_of (i := 82) (by decide +kernel) rfl, gd_of (i := 121) (by decide +kernel) rfl, by decide +kernel⟩
theorem mv_X0_11 : MLI RX0 11 mX8_init 1 := ⟨gd_of (i := 171) (by decide +kernel) rfl, gd_of (i := 120) (by decide +kernel) rfl, rfl, rfl, mk_X8_init⟩
theorem fl_X0_14 : FL RX0 14 0 0 := ⟨RX0, TX0, 8, rfl, by decide, gd_of (i := 174) (by decide +kernel) rfl⟩
theorem ir_0_0 : isRf (ftys 0 0) := ⟨by decide, by decide, by decide⟩
theorem ir2_0_0 : isRf2 (ftys 0 0) := ⟨ir_0_0, by decide, by decide, by decide, by decide, by decide⟩
theorem nf_0_0 : ∀ C T N, vwCl[0]? = some (C, T, N) → (T 0).2.2.2 = true ∧ (T 0).1 = RX0 := by intro C T N h; cases h; exact ⟨rfl, rfl⟩
theorem fl_X0_22 : FL RX0 22 0 1 := ⟨RX0, TX0, 8, rfl, by decide, gd_of (i := 177) (by decide +kernel) rfl⟩
theorem ir_0_1 : isRf (ftys 0 1) := ⟨by decide, by decide, by decide⟩
theorem ir2_0_1 : isRf2 (ftys 0 1) := ⟨ir_0_1, by decide, by decide, by decide, by decide, by decide⟩
theorem nf_0_1 : ∀ C T N, vwCl[0]? = some (C, T, N) → (T 1).2.2.2 = true ∧ (T 1).1 = RX0 := by intro C T N h; cases h; exact ⟨rfl, rfl⟩
theorem fl_X0_25 : FL RX0 25 0 2 := ⟨RX0, TX0, 8, rfl, by decide, gd_of (i := 182) (by decide +kernel) rfl⟩
theorem ir_0_2 : isRf (ftys 0 2) := ⟨by decide, by decide, by decide⟩
theorem ir2_0_2 : isRf2 (ftys 0 2) := ⟨ir_0_2, by decide, by decide, by decide, by decide, by decide⟩
theorem nf_0_2 : ∀ C T N, vwCl[0]? = some (C, T, N) → (T 2).2.2.2 = true ∧ (T 2).1 = RX0 := by intro C T N h; cases h; exact ⟨rfl, rfl⟩
theorem fl_X0_29 : FL RX0 29 0 3 := ⟨RX0, TX0, 8, rfl, by decide, gd_of (i := 187) (by decide +kernel) rfl⟩
theorem ir_0_3 : isRf (ftys 0 3) := ⟨by decide, by decide, by decide⟩
theorem ir2_0_3 : isRf2 (ftys 0 3) := ⟨ir_0_3, by decide, by decide, by decide, by decide, by decide⟩
theorem nf_0_3 : ∀ C T N, vwCl[0]? = some (C, T, N) → (T 3).2.2.2 = true ∧ (T 3).1 = RX0 := by intro C T N h; cases h; exact ⟨rfl, rfl⟩
theorem fl_X0_32 : FL RX0 32 0 4 := ⟨RX0, TX0, 8, rfl, by decide, gd_of (i := 189) (by decide +kernel) rfl⟩
theorem ir_0_4 : isRf (ftys 0 4) := ⟨by decide, by decide, by decide⟩
theorem ir2_0_4 : isRf2 (ftys 0 4) := ⟨ir_0_4, by decide, by decide, by decide, by decide, by decide⟩
theorem nf_0_4 : ∀ C T N, vwCl[0]? = some (C, T, N) → (T 4).2.2.2 = true ∧ (T 4).1 = RX0 := by intro C T N h; cases h; exact ⟨rfl, rfl⟩
theorem fl_X0_35 : FL RX0 35 8 3 := ⟨RX8, TX8, 4, rfl, by decide, gd_of (i := 129) (by decide +kernel) rfl⟩
theorem nf_8_3 : ∀ C T N, vwCl[8]? = some (C, T, N) → (T 3).2.2.2 = false := by intro C T N h; cases h; rfl
theorem fl_X0_39 : FL RX0 39 0 5 := ⟨RX0, TX0, 8, rfl, by decide, gd_of (i := 191) (by decide +kernel) rfl⟩
theorem nf_0_5 : ∀ C T N, vwCl[0]? = some (C, T, N) → (T 5).2.2.2 = false := by intro C T N h; cases h; rfl
theorem fl_X0_42 : FL RX0 42 0 6 := ⟨RX0, TX0, 8, rfl, by decide, gd_of (i := 194) (by decide +kernel) rfl⟩
theorem nf_0_6 : ∀ C T N, vwCl[0]? = some (C, T, N) → (T 6).2.2.2 = false := by intro C T N h; cases h; rfl
theorem fl_X0_45 : FL RX0 45 0 7 := ⟨RX0, TX0, 8, rfl, by decide, gd_of (i := 197) (by decide +kernel) rfl⟩
theorem nf_0_7 : ∀ C T N, vwCl[0]? = some (C, T, N) → (T 7).2.2.2 = false := by intro C T N h; cases h; rfl
theorem mk_X8_enter : Mk mX8_enter 2 := ⟨gd_of (i := 82) (by decide +kernel) rfl, gd_of (i := 482) (by decide +kernel) rfl, by decide +kernel⟩
theorem mv_X0_48 : MLV RX0 48 mX8_enter 2 := ⟨gd_of (i := 517) (by decide +kernel) rfl, gd_of (i := 480) (by decide +kernel) rfl, gd_of (i := 481) (by decide +kernel) rfl, mk_X8_enter⟩
theorem mk_X0_endSentence : Mk mX0_endSentence 0 := ⟨gd_of (i := 84) (by decide +kernel) rfl, gd_of (i := 525) (by decide +kernel) rfl, by decide +kernel⟩
theorem mv_X0_52 : MLV RX0 52 mX0_endSentence 0 := ⟨gd_of (i := 522) (by decide +kernel) rfl, gd_of (i := 523) (by decide +kernel) rfl, gd_of (i := 524) (by decide +kernel) rfl, mk_X0_endSentence⟩
theorem mk_X8_lengthAt : Mk mX8_lengthAt 1 := ⟨gd_of (i := 82) (by decide +kernel) rfl, gd_of (i := 551) (by decide +kernel) rfl, by decide +kernel⟩
theorem mv_X0_55 : MLV RX0 55 mX8_lengthAt 1 := ⟨gd_of (i := 548) (by decide +kernel) rfl, gd_of (i := 549) (by decide +kernel) rfl, gd_of (i := 550) (by decide +kernel) rfl, mk_X8_lengthAt⟩
theorem mo_X1_3 : Cond.methodLink RX1 3 objectInit ∈ gd := gd_of (i := 147) (by decide +kernel) rfl
theorem fl_X1_9 : FL RX1 9 1 2 := ⟨RX1, TX1, 4, rfl, by decide, gd_of (i := 150) (by decide +kernel) rfl⟩
theorem ir_1_2 : isRf (ftys 1 2) := ⟨by decide, by decide, by decide⟩
theorem ir2_1_2 : isRf2 (ftys 1 2) := ⟨ir_1_2, by decide, by decide, by decide, by decide, by decide⟩
theorem nf_1_2 : ∀ C T N, vwCl[1]? = some (C, T, N) → (T 2).2.2.2 = true ∧ (T 2).1 = RX1 := by intro C T N h; cases h; exact ⟨rfl, rfl⟩
theorem fl_X1_15 : FL RX1 15 1 0 := ⟨RX1, TX1, 4, rfl, by decide, gd_of (i := 148) (by decide +kernel) rfl⟩
theorem ir_1_0 : isRf (ftys 1 0) := ⟨by decide, by decide, by decide⟩
theorem ir2_1_0 : isRf2 (ftys 1 0) := ⟨ir_1_0, by decide, by decide, by decide, by decide, by decide⟩
theorem nf_1_0 : ∀ C T N, vwCl[1]? = some (C, T, N) → (T 0).2.2.2 = true ∧ (T 0).1 = RX1 := by intro C T N h; cases h; exact ⟨rfl, rfl⟩
theorem fl_X1_19 : FL RX1 19 1 1 := ⟨RX1, TX1, 4, rfl, by decide, gd_of (i := 149) (by decide +kernel) rfl⟩
theorem ir_1_1 : isRf (ftys 1 1) := ⟨by decide, by decide, by decide⟩
theorem ir2_1_1 : isRf2 (ftys 1 1) := ⟨ir_1_1, by decide, by decide, by decide, by decide, by decide⟩
theorem nf_1_1 : ∀ C T N, vwCl[1]? = some (C, T, N) → (T 1).2.2.2 = true ∧ (T 1).1 = RX1 := by intro C T N h; cases h; exact ⟨rfl, rfl⟩
theorem fl_X1_23 : FL RX1 23 6 1 := ⟨RX6, TX6, 2, rfl, by decide, gd_of (i := 110) (by decide +kernel) rfl⟩
theorem nf_6_1 : ∀ C T N, vwCl[6]? = some (C, T, N) → (T 1).2.2.2 = false := by intro C T N h; cases h; rfl
theorem mk_X6_isLetterAt : Mk mX6_isLetterAt 1 := ⟨gd_of (i := 81) (by decide +kernel) rfl, gd_of (i := 465) (by decide +kernel) rfl, by decide +kernel⟩
theorem mv_X1_29 : MLV RX1 29 mX6_isLetterAt 1 := ⟨gd_of (i := 462) (by decide +kernel) rfl, gd_of (i := 463) (by decide +kernel) rfl, gd_of (i := 464) (by decide +kernel) rfl, mk_X6_isLetterAt⟩
theorem fl_X1_33 : FL RX1 33 1 3 := ⟨RX1, TX1, 4, rfl, by decide, gd_of (i := 152) (by decide +kernel) rfl⟩
theorem nf_1_3 : ∀ C T N, vwCl[1]? = some (C, T, N) → (T 3).2.2.2 = false := by intro C T N h; cases h; rfl
theorem mk_X1_keepLetter : Mk mX1_keepLetter 1 := ⟨gd_of (i := 83) (by decide +kernel) rfl, gd_of (i := 473) (by decide +kernel) rfl, by decide +kernel⟩
theorem mv_X1_36 : MLV RX1 36 mX1_keepLetter 1 := ⟨gd_of (i := 470) (by decide +kernel) rfl, gd_of (i := 472) (by decide +kernel) rfl, gd_of (i := 1) (by decide +kernel) rfl, mk_X1_keepLetter⟩
theorem mk_X0_makeEmpty : Mk mX0_makeEmpty 0 := ⟨gd_of (i := 84) (by decide +kernel) rfl, gd_of (i := 507) (by decide +kernel) rfl, by decide +kernel⟩
theorem mv_X1_40 : MLV RX1 40 mX0_makeEmpty 0 := ⟨gd_of (i := 504) (by decide +kernel) rfl, gd_of (i := 505) (by decide +kernel) rfl, gd_of (i := 506) (by decide +kernel) rfl, mk_X0_makeEmpty⟩
theorem mk_X6_smallAt : Mk mX6_smallAt 1 := ⟨gd_of (i := 81) (by decide +kernel) rfl, gd_of (i := 477) (by decide +kernel) rfl, by decide +kernel⟩
theorem mv_X1_45 : MLV RX1 45 mX6_smallAt 1 := ⟨gd_of (i := 474) (by decide +kernel) rfl, gd_of (i := 475) (by decide +kernel) rfl, gd_of (i := 476) (by decide +kernel) rfl, mk_X6_smallAt⟩
theorem mk_X1_part : Mk mX1_part 2 := ⟨gd_of (i := 83) (by decide +kernel) rfl, gd_of (i := 511) (by decide +kernel) rfl, by decide +kernel⟩
theorem mv_X1_49 : MLV RX1 49 mX1_part 2 := ⟨gd_of (i := 508) (by decide +kernel) rfl, gd_of (i := 510) (by decide +kernel) rfl, gd_of (i := 4) (by decide +kernel) rfl, mk_X1_part⟩
theorem mk_X8_indexOf : Mk mX8_indexOf 2 := ⟨gd_of (i := 82) (by decide +kernel) rfl, gd_of (i := 486) (by decide +kernel) rfl, by decide +kernel⟩
theorem mv_X1_53 : MLV RX1 53 mX8_indexOf 2 := ⟨gd_of (i := 512) (by decide +kernel) rfl, gd_of (i := 484) (by decide +kernel) rfl, gd_of (i := 485) (by decide +kernel) rfl, mk_X8_indexOf⟩
theorem mk_X0_addWord : Mk mX0_addWord 2 := ⟨gd_of (i := 84) (by decide +kernel) rfl, gd_of (i := 516) (by decide +kernel) rfl, by decide +kernel⟩
theorem mv_X1_59 : MLV RX1 59 mX0_addWord 2 := ⟨gd_of (i := 513) (by decide +kernel) rfl, gd_of (i := 514) (by decide +kernel) rfl, gd_of (i := 515) (by decide +kernel) rfl, mk_X0_addWord⟩
theorem mk_X0_endParagraph : Mk mX0_endParagraph 0 := ⟨gd_of (i := 84) (by decide +kernel) rfl, gd_of (i := 521) (by decide +kernel) rfl, by decide +kernel⟩
theorem mv_X1_63 : MLV RX1 63 mX0_endParagraph 0 := ⟨gd_of (i := 518) (by decide +kernel) rfl, gd_of (i := 519) (by decide +kernel) rfl, gd_of (i := 520) (by decide +kernel) rfl, mk_X0_endParagraph⟩
theorem mv_X1_66 : MLV RX1 66 mX0_endSentence 0 := ⟨gd_of (i := 526) (by decide +kernel) rfl, gd_of (i := 523) (by decide +kernel) rfl, gd_of (i := 524) (by decide +kernel) rfl, mk_X0_endSentence⟩
theorem mo_X2_3 : Cond.methodLink RX2 3 objectInit ∈ gd := gd_of (i := 338) (by decide +kernel) rfl
theorem fl_X2_9 : FL RX2 9 2 3 := ⟨RX2, TX2, 11, rfl, by decide, gd_of (i := 342) (by decide +kernel) rfl⟩
theorem ir_2_3 : isRf (ftys 2 3) := ⟨by decide, by decide, by decide⟩
theorem ir2_2_3 : isRf2 (ftys 2 3) := ⟨ir_2_3, by decide, by decide, by decide, by decide, by decide⟩
theorem nf_2_3 : ∀ C T N, vwCl[2]? = some (C, T, N) → (T 3).2.2.2 = true ∧ (T 3).1 = RX2 := by intro C T N h; cases h; exact ⟨rfl, rfl⟩
theorem fl_X2_15 : FL RX2 15 2 4 := ⟨RX2, TX2, 11, rfl, by decide, gd_of (i := 343) (by decide +kernel) rfl⟩
theorem ir_2_4 : isRf (ftys 2 4) := ⟨by decide, by decide, by decide⟩
theorem ir2_2_4 : isRf2 (ftys 2 4) := ⟨ir_2_4, by decide, by decide, by decide, by decide, by decide⟩
theorem nf_2_4 : ∀ C T N, vwCl[2]? = some (C, T, N) → (T 4).2.2.2 = true ∧ (T 4).1 = RX2 := by intro C T N h; cases h; exact ⟨rfl, rfl⟩
theorem fl_X2_18 : FL RX2 18 2 7 := ⟨RX2, TX2, 11, rfl, by decide, gd_of (i := 346) (by decide +kernel) rfl⟩
theorem ir_2_7 : isRf (ftys 2 7) := ⟨by decide, by decide, by decide⟩
theorem ir2_2_7 : isRf2 (ftys 2 7) := ⟨ir_2_7, by decide, by decide, by decide, by decide, by decide⟩
theorem nf_2_7 : ∀ C T N, vwCl[2]? = some (C, T, N) → (T 7).2.2.2 = true ∧ (T 7).1 = RX2 := by intro C T N h; cases h; exact ⟨rfl, rfl⟩
theorem fl_X2_21 : FL RX2 21 2 8 := ⟨RX2, TX2, 11, rfl, by decide, gd_of (i := 348) (by decide +kernel) rfl⟩
theorem ir_2_8 : isRf (ftys 2 8) := ⟨by decide, by decide, by decide⟩
theorem ir2_2_8 : isRf2 (ftys 2 8) := ⟨ir_2_8, by decide, by decide, by decide, by decide, by decide⟩
theorem nf_2_8 : ∀ C T N, vwCl[2]? = some (C, T, N) → (T 8).2.2.2 = true ∧ (T 8).1 = RX2 := by intro C T N h; cases h; exact ⟨rfl, rfl⟩
theorem fl_X2_24 : FL RX2 24 2 9 := ⟨RX2, TX2, 11, rfl, by decide, gd_of (i := 350) (by decide +kernel) rfl⟩
theorem ir_2_9 : isRf (ftys 2 9) := ⟨by decide, by decide, by decide⟩
theorem ir2_2_9 : isRf2 (ftys 2 9) := ⟨ir_2_9, by decide, by decide, by decide, by decide, by decide⟩
theorem nf_2_9 : ∀ C T N, vwCl[2]? = some (C, T, N) → (T 9).2.2.2 = true ∧ (T 9).1 = RX2 := by intro C T N h; cases h; exact ⟨rfl, rfl⟩
theorem fl_X2_27 : FL RX2 27 2 10 := ⟨RX2, TX2, 11, rfl, by decide, gd_of (i := 351) (by decide +kernel) rfl⟩
theorem ir_2_10 : isRf (ftys 2 10) := ⟨by decide, by decide, by decide⟩
theorem ir2_2_10 : isRf2 (ftys 2 10) := ⟨ir_2_10, by decide, by decide, by decide, by decide, by decide⟩
theorem nf_2_10 : ∀ C T N, vwCl[2]? = some (C, T, N) → (T 10).2.2.2 = true ∧ (T 10).1 = RX2 := by intro C T N h; cases h; exact ⟨rfl, rfl⟩
theorem fl_X2_30 : FL RX2 30 2 0 := ⟨RX2, TX2, 11, rfl, by decide, gd_of (i := 339) (by decide +kernel) rfl⟩
theorem ir_2_0 : isRf (ftys 2 0) := ⟨by decide, by decide, by decide⟩
theorem ir2_2_0 : isRf2 (ftys 2 0) := ⟨ir_2_0, by decide, by decide, by decide, by decide, by decide⟩
theorem nf_2_0 : ∀ C T N, vwCl[2]? = some (C, T, N) → (T 0).2.2.2 = true ∧ (T 0).1 = RX2 := by intro C T N h; cases h; exact ⟨rfl, rfl⟩
theorem fl_X2_34 : FL RX2 34 2 1 := ⟨RX2, TX2, 11, rfl, by decide, gd_of (i := 340) (by decide +kernel) rfl⟩
theorem ir_2_1 : isRf (ftys 2 1) := ⟨by decide, by decide, by decide⟩
theorem ir2_2_1 : isRf2 (ftys 2 1) := ⟨ir_2_1, by decide, by decide, by decide, by decide, by decide⟩
theorem nf_2_1 : ∀ C T N, vwCl[2]? = some (C, T, N) → (T 1).2.2.2 = true ∧ (T 1).1 = RX2 := by intro C T N h; cases h; exact ⟨rfl, rfl⟩
theorem fl_X2_38 : FL RX2 38 2 2 := ⟨RX2, TX2, 11, rfl, by decide, gd_of (i := 341) (by decide +kernel) rfl⟩
theorem ir_2_2 : isRf (ftys 2 2) := ⟨by decide, by decide, by decide⟩
theorem ir2_2_2 : isRf2 (ftys 2 2) := ⟨ir_2_2, by decide, by decide, by decide, by decide, by decide⟩
theorem nf_2_2 : ∀ C T N, vwCl[2]? = some (C, T, N) → (T 2).2.2.2 = true ∧ (T 2).1 = RX2 := by intro C T N h; cases h; exact ⟨rfl, rfl⟩
theorem fl_X2_42 : FL RX2 42 7 13 := ⟨RX7, TX7, 17, rfl, by decide, gd_of (i := 288) (by decide +kernel) rfl⟩
theorem ir_7_13 : isRf (ftys 7 13) := ⟨by decide, by decide, by decide⟩
theorem ir2_7_13 : isRf2 (ftys 7 13) := ⟨ir_7_13, by decide, by decide, by decide, by decide, by decide⟩
theorem nf_7_13 : ∀ C T N, vwCl[7]? = some (C, T, N) → (T 13).2.2.2 = true ∧ (T 13).1 = RX7 := by intro C T N h; cases h; exact ⟨rfl, rfl⟩
theorem fl_X2_47 : FL RX2 47 7 14 := ⟨RX7, TX7, 17, rfl, by decide, gd_of (i := 291) (by decide +kernel) rfl⟩
theorem ir_7_14 : isRf (ftys 7 14) := ⟨by decide, by decide, by decide⟩
theorem ir2_7_14 : isRf2 (ftys 7 14) := ⟨ir_7_14, by decide, by decide, by decide, by decide, by decide⟩
theorem nf_7_14 : ∀ C T N, vwCl[7]? = some (C, T, N) → (T 14).2.2.2 = true ∧ (T 14).1 = RX7 := by intro C T N h; cases h; exact ⟨rfl, rfl⟩
theorem gs_X2_50 : Cond.fieldLinkNest RX2 50 RX9 (snm 1) "[I" "SideBySide" ∈ ngW := List.mem_filter.mpr ⟨List.mem_of_getElem? (i := 843) (by decide +kernel), rfl⟩
theorem mk_X2_gatherSide : Mk mX2_gatherSide 4 := ⟨gd_of (i := 89) (by decide +kernel) rfl, gd_of (i := 846) (by decide +kernel) rfl, by decide +kernel⟩
theorem mv_X2_53 : MLS RX2 53 mX2_gatherSide 4 := ⟨gd_of (i := 844) (by decide +kernel) rfl, gd_of (i := 845) (by decide +kernel) rfl, mk_X2_gatherSide⟩
theorem fl_X2_57 : FL RX2 57 2 5 := ⟨RX2, TX2, 11, rfl, by decide, gd_of (i := 344) (by decide +kernel) rfl⟩
theorem nf_2_5 : ∀ C T N, vwCl[2]? = some (C, T, N) → (T 5).2.2.2 = false := by intro C T N h; cases h; rfl
theorem fl_X2_61 : FL RX2 61 7 15 := ⟨RX7, TX7, 17, rfl, by decide, gd_of (i := 294) (by decide +kernel) rfl⟩
theorem ir_7_15 : isRf (ftys 7 15) := ⟨by decide, by decide, by decide⟩
theorem ir2_7_15 : isRf2 (ftys 7 15) := ⟨ir_7_15, by decide, by decide, by decide, by decide, by decide⟩
theorem nf_7_15 : ∀ C T N, vwCl[7]? = some (C, T, N) → (T 15).2.2.2 = true ∧ (T 15).1 = RX7 := by intro C T N h; cases h; exact ⟨rfl, rfl⟩
theorem gs_X2_64 : Cond.fieldLinkNest RX2 64 RX9 (snm 2) "[I" "SideBySide" ∈ ngW := List.mem_filter.mpr ⟨List.mem_of_getElem? (i := 847) (by decide +kernel), rfl⟩
theorem fl_X2_67 : FL RX2 67 2 6 := ⟨RX2, TX2, 11, rfl, by decide, gd_of (i := 345) (by decide +kernel) rfl⟩
theorem nf_2_6 : ∀ C T N, vwCl[2]? = some (C, T, N) → (T 6).2.2.2 = false := by intro C T N h; cases h; rfl
theorem fl_X2_70 : FL RX2 70 0 2 := ⟨RX0, TX0, 8, rfl, by decide, gd_of (i := 183) (by decide +kernel) rfl⟩
theorem fl_X2_75 : FL RX2 75 0 1 := ⟨RX0, TX0, 8, rfl, by decide, gd_of (i := 178) (by decide +kernel) rfl⟩
theorem mk_X2_leadFromLeft : Mk mX2_leadFromLeft 1 := ⟨gd_of (i := 89) (by decide +kernel) rfl, gd_of (i := 867) (by decide +kernel) rfl, by decide +kernel⟩
theorem mv_X2_79 : MLV RX2 79 mX2_leadFromLeft 1 := ⟨gd_of (i := 864) (by decide +kernel) rfl, gd_of (i := 866) (by decide +kernel) rfl, gd_of (i := 25) (by decide +kernel) rfl, mk_X2_leadFromLeft⟩
theorem mk_X2_leadFromRight : Mk mX2_leadFromRight 1 := ⟨gd_of (i := 89) (by decide +kernel) rfl, gd_of (i := 875) (by decide +kernel) rfl, by decide +kernel⟩
theorem mv_X2_83 : MLV RX2 83 mX2_leadFromRight 1 := ⟨gd_of (i := 872) (by decide +kernel) rfl, gd_of (i := 874) (by decide +kernel) rfl, gd_of (i := 26) (by decide +kernel) rfl, mk_X2_leadFromRight⟩
theorem mk_X2_growBoth : Mk mX2_growBoth 0 := ⟨gd_of (i := 89) (by decide +kernel) rfl, gd_of (i := 879) (by decide +kernel) rfl, by decide +kernel⟩
theorem mv_X2_86 : MLV RX2 86 mX2_growBoth 0 := ⟨gd_of (i := 876) (by decide +kernel) rfl, gd_of (i := 878) (by decide +kernel) rfl, gd_of (i := 27) (by decide +kernel) rfl, mk_X2_growBoth⟩
theorem mk_X2_growOnce : Mk mX2_growOnce 0 := ⟨gd_of (i := 89) (by decide +kernel) rfl, gd_of (i := 891) (by decide +kernel) rfl, by decide +kernel⟩
theorem mv_X2_89 : MLV RX2 89 mX2_growOnce 0 := ⟨gd_of (i := 888) (by decide +kernel) rfl, gd_of (i := 890) (by decide +kernel) rfl, gd_of (i := 29) (by decide +kernel) rfl, mk_X2_growOnce⟩
theorem fl_X2_93 : FL RX2 93 4 0 := ⟨RX4, TX4, 5, rfl, by decide, gd_of (i := 246) (by decide +kernel) rfl⟩
theorem ir_4_0 : isRf (ftys 4 0) := ⟨by decide, by decide, by decide⟩
theorem ir2_4_0 : isRf2 (ftys 4 0) := ⟨ir_4_0, by decide, by decide, by decide, by decide, by decide⟩
theorem nf_4_0 : ∀ C T N, vwCl[4]? = some (C, T, N) → (T 0).2.2.2 = true ∧ (T 0).1 = RX4 := by intro C T N h; cases h; exact ⟨rfl, rfl⟩
theorem mk_X2_isNearer : Mk mX2_isNearer 3 := ⟨gd_of (i := 89) (by decide +kernel) rfl, gd_of (i := 870) (by decide +kernel) rfl, by decide +kernel⟩
theorem mv_X2_98 : MLS RX2 98 mX2_isNearer 3 := ⟨gd_of (i := 868) (by decide +kernel) rfl, gd_of (i := 869) (by decide +kernel) rfl, mk_X2_isNearer⟩
theorem mk_J9_abs_0f7a4 : Mk mJ9_abs_0f7a4 1 := ⟨gd_of (i := 92) (by decide +kernel) rfl, gd_of (i := 690) (by decide +kernel) rfl, by decide +kernel⟩
theorem mv_X2_102 : MLS RX2 102 mJ9_abs_0f7a4 1 := ⟨gd_of (i := 871) (by decide +kernel) rfl, gd_of (i := 689) (by decide +kernel) rfl, mk_J9_abs_0f7a4⟩
theorem mk_X2_isBoth : Mk mX2_isBoth 2 := ⟨gd_of (i := 89) (by decide +kernel) rfl, gd_of (i := 883) (by decide +kernel) rfl, by decide +kernel⟩
theorem mv_X2_107 : MLV RX2 107 mX2_isBoth 2 := ⟨gd_of (i := 880) (by decide +kernel) rfl, gd_of (i := 881) (by decide +kernel) rfl, gd_of (i := 882) (by decide +kernel) rfl, mk_X2_isBoth⟩
theorem mk_X2_addGrown : Mk mX2_addGrown 2 := ⟨gd_of (i := 89) (by decide +kernel) rfl, gd_of (i := 887) (by decide +kernel) rfl, by decide +kernel⟩
theorem mv_X2_111 : MLV RX2 111 mX2_addGrown 2 := ⟨gd_of (i := 884) (by decide +kernel) rfl, gd_of (i := 886) (by decide +kernel) rfl, gd_of (i := 28) (by decide +kernel) rfl, mk_X2_addGrown⟩
theorem mk_X2_mayGrow : Mk mX2_mayGrow 2 := ⟨gd_of (i := 89) (by decide +kernel) rfl, gd_of (i := 895) (by decide +kernel) rfl, by decide +kernel⟩
theorem mv_X2_115 : MLV RX2 115 mX2_mayGrow 2 := ⟨gd_of (i := 892) (by decide +kernel) rfl, gd_of (i := 894) (by decide +kernel) rfl, gd_of (i := 30) (by decide +kernel) rfl, mk_X2_mayGrow⟩
theorem mk_X2_isGrown : Mk mX2_isGrown 2 := ⟨gd_of (i := 89) (by decide +kernel) rfl, gd_of (i := 899) (by decide +kernel) rfl, by decide +kernel⟩
theorem mv_X2_118 : MLV RX2 118 mX2_isGrown 2 := ⟨gd_of (i := 896) (by decide +kernel) rfl, gd_of (i := 897) (by decide +kernel) rfl, gd_of (i := 898) (by decide +kernel) rfl, mk_X2_isGrown⟩
theorem mk_X2_touchesGrown : Mk mX2_touchesGrown 2 := ⟨gd_of (i := 89) (by decide +kernel) rfl, gd_of (i := 903) (by decide +kernel) rfl, by decide +kernel⟩
theorem mv_X2_121 : MLV RX2 121 mX2_touchesGrown 2 := ⟨gd_of (i := 900) (by decide +kernel) rfl, gd_of (i := 902) (by decide +kernel) rfl, gd_of (i := 31) (by decide +kernel) rfl, mk_X2_touchesGrown⟩
theorem mk_J9_max_7cf53 : Mk mJ9_max_7cf53 2 := ⟨gd_of (i := 92) (by decide +kernel) rfl, gd_of (i := 638) (by decide +kernel) rfl, by decide +kernel⟩
theorem mv_X2_124 : MLS RX2 124 mJ9_max_7cf53 2 := ⟨gd_of (i := 904) (by decide +kernel) rfl, gd_of (i := 637) (by decide +kernel) rfl, mk_J9_max_7cf53⟩
theorem mk_X2_countPartners : Mk mX2_countPartners 2 := ⟨gd_of (i := 89) (by decide +kernel) rfl, gd_of (i := 922) (by decide +kernel) rfl, by decide +kernel⟩
theorem mv_X2_128 : MLV RX2 128 mX2_countPartners 2 := ⟨gd_of (i := 919) (by decide +kernel) rfl, gd_of (i := 921) (by decide +kernel) rfl, gd_of (i := 32) (by decide +kernel) rfl, mk_X2_countPartners⟩
theorem mk_X2_union : Mk mX2_union 3 := ⟨gd_of (i := 89) (by decide +kernel) rfl, gd_of (i := 925) (by decide +kernel) rfl, by decide +kernel⟩
theorem mv_X2_131 : MLS RX2 131 mX2_union 3 := ⟨gd_of (i := 923) (by decide +kernel) rfl, gd_of (i := 924) (by decide +kernel) rfl, mk_X2_union⟩
theorem mk_X2_rowBits : Mk mX2_rowBits 2 := ⟨gd_of (i := 89) (by decide +kernel) rfl, gd_of (i := 928) (by decide +kernel) rfl, by decide +kernel⟩
theorem mv_X2_135 : MLS RX2 135 mX2_rowBits 2 := ⟨gd_of (i := 926) (by decide +kernel) rfl, gd_of (i := 927) (by decide +kernel) rfl, mk_X2_rowBits⟩
theorem mo_X3_3 : Cond.methodLink RX3 3 objectInit ∈ gd := gd_of (i := 220) (by decide +kernel) rfl
theorem fl_X3_9 : FL RX3 9 3 0 := ⟨RX3, TX3, 3, rfl, by decide, gd_of (i := 224) (by decide +kernel) rfl⟩
theorem ir_3_0 : isRf (ftys 3 0) := ⟨by decide, by decide, by decide⟩
theorem ir2_3_0 : isRf2 (ftys 3 0) := ⟨ir_3_0, by decide, by decide, by decide, by decide, by decide⟩
theorem nf_3_0 : ∀ C T N, vwCl[3]? = some (C, T, N) → (T 0).2.2.2 = true ∧ (T 0).1 = RX3 := by intro C T N h; cases h; exact ⟨rfl, rfl⟩
theorem fl_X3_15 : FL RX3 15 3 1 := ⟨RX3, TX3, 3, rfl, by decide, gd_of (i := 225) (by decide +kernel) rfl⟩
theorem ir_3_1 : isRf (ftys 3 1) := ⟨by decide, by decide, by decide⟩
theorem ir2_3_1 : isRf2 (ftys 3 1) := ⟨ir_3_1, by decide, by decide, by decide, by decide, by decide⟩
theorem nf_3_1 : ∀ C T N, vwCl[3]? = some (C, T, N) → (T 1).2.2.2 = true ∧ (T 1).1 = RX3 := by intro C T N h; cases h; exact ⟨rfl, rfl⟩
theorem mk_J7_fill_53178 : Mk mJ7_fill_53178 2 := ⟨gd_of (i := 86) (by decide +kernel) rfl, gd_of (i := 223) (by decide +kernel) rfl, by decide +kernel⟩
theorem mv_X3_18 : MLS RX3 18 mJ7_fill_53178 2 := ⟨gd_of (i := 221) (by decide +kernel) rfl, gd_of (i := 222) (by decide +kernel) rfl, mk_J7_fill_53178⟩
theorem fl_X3_24 : FL RX3 24 3 2 := ⟨RX3, TX3, 3, rfl, by decide, gd_of (i := 226) (by decide +kernel) rfl⟩
theorem nf_3_2 : ∀ C T N, vwCl[3]? = some (C, T, N) → (T 2).2.2.2 = false := by intro C T N h; cases h; rfl
theorem mk_X3_isAcross : Mk mX3_isAcross 2 := ⟨gd_of (i := 85) (by decide +kernel) rfl, gd_of (i := 598) (by decide +kernel) rfl, by decide +kernel⟩
theorem mv_X3_28 : MLS RX3 28 mX3_isAcross 2 := ⟨gd_of (i := 596) (by decide +kernel) rfl, gd_of (i := 597) (by decide +kernel) rfl, mk_X3_isAcross⟩
theorem gs_X3_32 : Cond.fieldLinkNest RX3 32 RX9 (snm 1) "[I" "SideBySide" ∈ ngW := List.mem_filter.mpr ⟨List.mem_of_getElem? (i := 663) (by decide +kernel), rfl⟩
theorem mk_X3_goTogether : Mk mX3_goTogether 3 := ⟨gd_of (i := 85) (by decide +kernel) rfl, gd_of (i := 666) (by decide +kernel) rfl, by decide +kernel⟩
theorem mv_X3_35 : MLS RX3 35 mX3_goTogether 3 := ⟨gd_of (i := 664) (by decide +kernel) rfl, gd_of (i := 665) (by decide +kernel) rfl, mk_X3_goTogether⟩
theorem gs_X3_39 : Cond.fieldLinkNest RX3 39 RX9 (snm 2) "[I" "SideBySide" ∈ ngW := List.mem_filter.mpr ⟨List.mem_of_getElem? (i := 667) (by decide +kernel), rfl⟩
theorem mo_X4_3 : Cond.methodLink RX4 3 objectInit ∈ gd := gd_of (i := 240) (by decide +kernel) rfl
theorem fl_X4_11 : FL RX4 11 4 0 := ⟨RX4, TX4, 5, rfl, by decide, gd_of (i := 245) (by decide +kernel) rfl⟩
theorem fl_X4_18 : FL RX4 18 4 1 := ⟨RX4, TX4, 5, rfl, by decide, gd_of (i := 248) (by decide +kernel) rfl⟩
theorem ir_4_1 : isRf (ftys 4 1) := ⟨by decide, by decide, by decide⟩
theorem ir2_4_1 : isRf2 (ftys 4 1) := ⟨ir_4_1, by decide, by decide, by decide, by decide, by decide⟩
theorem nf_4_1 : ∀ C T N, vwCl[4]? = some (C, T, N) → (T 1).2.2.2 = true ∧ (T 1).1 = RX4 := by intro C T N h; cases h; exact ⟨rfl, rfl⟩
theorem fl_X4_21 : FL RX4 21 4 2 := ⟨RX4, TX4, 5, rfl, by decide, gd_of (i := 249) (by decide +kernel) rfl⟩
theorem ir_4_2 : isRf (ftys 4 2) := ⟨by decide, by decide, by decide⟩
theorem ir2_4_2 : isRf2 (ftys 4 2) := ⟨ir_4_2, by decide, by decide, by decide, by decide, by decide⟩
theorem nf_4_2 : ∀ C T N, vwCl[4]? = some (C, T, N) → (T 2).2.2.2 = true ∧ (T 2).1 = RX4 := by intro C T N h; cases h; exact ⟨rfl, rfl⟩
theorem mv_X4_25 : MLS RX4 25 mJ7_fill_53178 2 := ⟨gd_of (i := 244) (by decide +kernel) rfl, gd_of (i := 222) (by decide +kernel) rfl, mk_J7_fill_53178⟩
theorem fl_X4_31 : FL RX4 31 4 3 := ⟨RX4, TX4, 5, rfl, by decide, gd_of (i := 251) (by decide +kernel) rfl⟩
theorem nf_4_3 : ∀ C T N, vwCl[4]? = some (C, T, N) → (T 3).2.2.2 = false := by intro C T N h; cases h; rfl
theorem fl_X4_35 : FL RX4 35 4 4 := ⟨RX4, TX4, 5, rfl, by decide, gd_of (i := 252) (by decide +kernel) rfl⟩
theorem nf_4_4 : ∀ C T N, vwCl[4]? = some (C, T, N) → (T 4).2.2.2 = false := by intro C T N h; cases h; rfl
theorem kc_X4_38 : Cond.constant RX4 38 1048576 ∈ gd := gd_of (i := 535) (by decide +kernel) rfl
theorem mk_J7_fill_d0a16 : Mk mJ7_fill_d0a16 2 := ⟨gd_of (i := 86) (by decide +kernel) rfl, gd_of (i := 777) (by decide +kernel) rfl, by decide +kernel⟩
theorem mv_X4_39 : MLS RX4 39 mJ7_fill_d0a16 2 := ⟨gd_of (i := 775) (by decide +kernel) rfl, gd_of (i := 776) (by decide +kernel) rfl, mk_J7_fill_d0a16⟩
theorem fl_X4_42 : FL RX4 42 0 2 := ⟨RX0, TX0, 8, rfl, by decide, gd_of (i := 184) (by decide +kernel) rfl⟩
theorem fl_X4_47 : FL RX4 47 0 1 := ⟨RX0, TX0, 8, rfl, by decide, gd_of (i := 179) (by decide +kernel) rfl⟩
theorem mk_X4_dealWord : Mk mX4_dealWord 4 := ⟨gd_of (i := 87) (by decide +kernel) rfl, gd_of (i := 789) (by decide +kernel) rfl, by decide +kernel⟩
theorem mv_X4_50 : MLV RX4 50 mX4_dealWord 4 := ⟨gd_of (i := 786) (by decide +kernel) rfl, gd_of (i := 788) (by decide +kernel) rfl, gd_of (i := 20) (by decide +kernel) rfl, mk_X4_dealWord⟩
theorem mk_X4_dealPart : Mk mX4_dealPart 3 := ⟨gd_of (i := 87) (by decide +kernel) rfl, gd_of (i := 793) (by decide +kernel) rfl, by decide +kernel⟩
theorem mv_X4_54 : MLV RX4 54 mX4_dealPart 3 := ⟨gd_of (i := 790) (by decide +kernel) rfl, gd_of (i := 792) (by decide +kernel) rfl, gd_of (i := 21) (by decide +kernel) rfl, mk_X4_dealPart⟩
