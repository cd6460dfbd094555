theorem kc_X9_104 : Cond.constant RX9 104 (-100003) ∈ gd := gd_of (i := 478) (by decide +kernel) rfl
theorem fl_X9_105 : FL RX9 105 1 2 := ⟨RX1, TX1, 4, rfl, by decide, gd_of (i := 151) (by decide +kernel) rfl⟩
theorem fl_X9_109 : FL RX9 109 1 3 := ⟨RX1, TX1, 4, rfl, by decide, gd_of (i := 153) (by decide +kernel) rfl⟩
theorem mv_X9_112 : MLV RX9 112 mX8_enter 2 := ⟨gd_of (i := 479) (by decide +kernel) rfl, gd_of (i := 480) (by decide +kernel) rfl, gd_of (i := 481) (by decide +kernel) rfl, mk_X8_enter⟩
theorem fl_X9_116 : FL RX9 116 8 3 := ⟨RX8, TX8, 4, rfl, by decide, gd_of (i := 131) (by decide +kernel) rfl⟩
theorem mk_X9_isBook : Mk mX9_isBook 1 := ⟨gd_of (i := 80) (by decide +kernel) rfl, gd_of (i := 498) (by decide +kernel) rfl, by decide +kernel⟩
theorem mv_X9_119 : MLV RX9 119 mX9_isBook 1 := ⟨gd_of (i := 495) (by decide +kernel) rfl, gd_of (i := 497) (by decide +kernel) rfl, gd_of (i := 3) (by decide +kernel) rfl, mk_X9_isBook⟩
theorem kc_X9_123 : Cond.constant RX9 123 (-100001) ∈ gd := gd_of (i := 499) (by decide +kernel) rfl
theorem mk_X1_fill : Mk mX1_fill 1 := ⟨gd_of (i := 83) (by decide +kernel) rfl, gd_of (i := 503) (by decide +kernel) rfl, by decide +kernel⟩
theorem mv_X9_124 : MLV RX9 124 mX1_fill 1 := ⟨gd_of (i := 500) (by decide +kernel) rfl, gd_of (i := 501) (by decide +kernel) rfl, gd_of (i := 502) (by decide +kernel) rfl, mk_X1_fill⟩
theorem mk_X3_forgetAll : Mk mX3_forgetAll 0 := ⟨gd_of (i := 85) (by decide +kernel) rfl, gd_of (i := 530) (by decide +kernel) rfl, by decide +kernel⟩
theorem mv_X9_128 : MLV RX9 128 mX3_forgetAll 0 := ⟨gd_of (i := 527) (by decide +kernel) rfl, gd_of (i := 528) (by decide +kernel) rfl, gd_of (i := 529) (by decide +kernel) rfl, mk_X3_forgetAll⟩
theorem fl_X9_131 : FL RX9 131 0 0 := ⟨RX0, TX0, 8, rfl, by decide, gd_of (i := 176) (by decide +kernel) rfl⟩
theorem mk_X4_spread : Mk mX4_spread 2 := ⟨gd_of (i := 87) (by decide +kernel) rfl, gd_of (i := 534) (by decide +kernel) rfl, by decide +kernel⟩
theorem mv_X9_134 : MLV RX9 134 mX4_spread 2 := ⟨gd_of (i := 531) (by decide +kernel) rfl, gd_of (i := 532) (by decide +kernel) rfl, gd_of (i := 533) (by decide +kernel) rfl, mk_X4_spread⟩
theorem fl_X9_138 : FL RX9 138 0 5 := ⟨RX0, TX0, 8, rfl, by decide, gd_of (i := 193) (by decide +kernel) rfl⟩
theorem fl_X9_141 : FL RX9 141 0 6 := ⟨RX0, TX0, 8, rfl, by decide, gd_of (i := 195) (by decide +kernel) rfl⟩
theorem mk_X0_wordsOf : Mk mX0_wordsOf 2 := ⟨gd_of (i := 84) (by decide +kernel) rfl, gd_of (i := 543) (by decide +kernel) rfl, by decide +kernel⟩
theorem mv_X9_144 : MLV RX9 144 mX0_wordsOf 2 := ⟨gd_of (i := 540) (by decide +kernel) rfl, gd_of (i := 541) (by decide +kernel) rfl, gd_of (i := 542) (by decide +kernel) rfl, mk_X0_wordsOf⟩
theorem mv_X9_148 : MLV RX9 148 mX0_lengthOf 2 := ⟨gd_of (i := 544) (by decide +kernel) rfl, gd_of (i := 545) (by decide +kernel) rfl, gd_of (i := 546) (by decide +kernel) rfl, mk_X0_lengthOf⟩
theorem mk_X9_isSentence : Mk mX9_isSentence 2 := ⟨gd_of (i := 80) (by decide +kernel) rfl, gd_of (i := 559) (by decide +kernel) rfl, by decide +kernel⟩
theorem mv_X9_151 : MLV RX9 151 mX9_isSentence 2 := ⟨gd_of (i := 556) (by decide +kernel) rfl, gd_of (i := 558) (by decide +kernel) rfl, gd_of (i := 5) (by decide +kernel) rfl, mk_X9_isSentence⟩
theorem fl_X9_155 : FL RX9 155 0 2 := ⟨RX0, TX0, 8, rfl, by decide, gd_of (i := 185) (by decide +kernel) rfl⟩
theorem fl_X9_159 : FL RX9 159 0 3 := ⟨RX0, TX0, 8, rfl, by decide, gd_of (i := 188) (by decide +kernel) rfl⟩
theorem mk_X9_isWord : Mk mX9_isWord 3 := ⟨gd_of (i := 80) (by decide +kernel) rfl, gd_of (i := 571) (by decide +kernel) rfl, by decide +kernel⟩
theorem mv_X9_162 : MLV RX9 162 mX9_isWord 3 := ⟨gd_of (i := 568) (by decide +kernel) rfl, gd_of (i := 570) (by decide +kernel) rfl, gd_of (i := 6) (by decide +kernel) rfl, mk_X9_isWord⟩
theorem fl_X9_166 : FL RX9 166 0 1 := ⟨RX0, TX0, 8, rfl, by decide, gd_of (i := 180) (by decide +kernel) rfl⟩
theorem mk_X9_isKind : Mk mX9_isKind 2 := ⟨gd_of (i := 80) (by decide +kernel) rfl, gd_of (i := 579) (by decide +kernel) rfl, by decide +kernel⟩
theorem mv_X9_170 : MLV RX9 170 mX9_isKind 2 := ⟨gd_of (i := 576) (by decide +kernel) rfl, gd_of (i := 578) (by decide +kernel) rfl, gd_of (i := 7) (by decide +kernel) rfl, mk_X9_isKind⟩
theorem mk_X8_letterAt : Mk mX8_letterAt 2 := ⟨gd_of (i := 82) (by decide +kernel) rfl, gd_of (i := 583) (by decide +kernel) rfl, by decide +kernel⟩
theorem mv_X9_173 : MLV RX9 173 mX8_letterAt 2 := ⟨gd_of (i := 580) (by decide +kernel) rfl, gd_of (i := 581) (by decide +kernel) rfl, gd_of (i := 582) (by decide +kernel) rfl, mk_X8_letterAt⟩
theorem mk_X3_mayTie : Mk mX3_mayTie 2 := ⟨gd_of (i := 85) (by decide +kernel) rfl, gd_of (i := 595) (by decide +kernel) rfl, by decide +kernel⟩
theorem mv_X9_176 : MLV RX9 176 mX3_mayTie 2 := ⟨gd_of (i := 592) (by decide +kernel) rfl, gd_of (i := 593) (by decide +kernel) rfl, gd_of (i := 594) (by decide +kernel) rfl, mk_X3_mayTie⟩
theorem fl_X9_179 : FL RX9 179 3 2 := ⟨RX3, TX3, 3, rfl, by decide, gd_of (i := 227) (by decide +kernel) rfl⟩
theorem mk_X3_tie : Mk mX3_tie 2 := ⟨gd_of (i := 85) (by decide +kernel) rfl, gd_of (i := 602) (by decide +kernel) rfl, by decide +kernel⟩
theorem mv_X9_180 : MLV RX9 180 mX3_tie 2 := ⟨gd_of (i := 599) (by decide +kernel) rfl, gd_of (i := 600) (by decide +kernel) rfl, gd_of (i := 601) (by decide +kernel) rfl, mk_X3_tie⟩
theorem mk_X3_untie : Mk mX3_untie 1 := ⟨gd_of (i := 85) (by decide +kernel) rfl, gd_of (i := 610) (by decide +kernel) rfl, by decide +kernel⟩
theorem mv_X9_183 : MLV RX9 183 mX3_untie 1 := ⟨gd_of (i := 607) (by decide +kernel) rfl, gd_of (i := 608) (by decide +kernel) rfl, gd_of (i := 609) (by decide +kernel) rfl, mk_X3_untie⟩
theorem fl_X9_186 : FL RX9 186 7 3 := ⟨RX7, TX7, 17, rfl, by decide, gd_of (i := 275) (by decide +kernel) rfl⟩
theorem mk_X9_layAnew : Mk mX9_layAnew 0 := ⟨gd_of (i := 80) (by decide +kernel) rfl, gd_of (i := 622) (by decide +kernel) rfl, by decide +kernel⟩
theorem mv_X9_188 : MLV RX9 188 mX9_layAnew 0 := ⟨gd_of (i := 619) (by decide +kernel) rfl, gd_of (i := 621) (by decide +kernel) rfl, gd_of (i := 8) (by decide +kernel) rfl, mk_X9_layAnew⟩
theorem fl_X9_191 : FL RX9 191 7 11 := ⟨RX7, TX7, 17, rfl, by decide, gd_of (i := 283) (by decide +kernel) rfl⟩
theorem fl_X9_194 : FL RX9 194 7 12 := ⟨RX7, TX7, 17, rfl, by decide, gd_of (i := 285) (by decide +kernel) rfl⟩
theorem mk_X7_hasJoint : Mk mX7_hasJoint 1 := ⟨gd_of (i := 88) (by decide +kernel) rfl, gd_of (i := 730) (by decide +kernel) rfl, by decide +kernel⟩
theorem mv_X9_197 : MLV RX9 197 mX7_hasJoint 1 := ⟨gd_of (i := 727) (by decide +kernel) rfl, gd_of (i := 728) (by decide +kernel) rfl, gd_of (i := 729) (by decide +kernel) rfl, mk_X7_hasJoint⟩
theorem fl_X9_200 : FL RX9 200 7 13 := ⟨RX7, TX7, 17, rfl, by decide, gd_of (i := 289) (by decide +kernel) rfl⟩
theorem fl_X9_203 : FL RX9 203 7 14 := ⟨RX7, TX7, 17, rfl, by decide, gd_of (i := 292) (by decide +kernel) rfl⟩
theorem fl_X9_206 : FL RX9 206 7 15 := ⟨RX7, TX7, 17, rfl, by decide, gd_of (i := 295) (by decide +kernel) rfl⟩
theorem fl_X9_209 : FL RX9 209 7 16 := ⟨RX7, TX7, 17, rfl, by decide, gd_of (i := 297) (by decide +kernel) rfl⟩
theorem gs_X9_212 : Cond.fieldLink RX9 212 RX9 (snm 1) "[I" ∈ gd := gd_of (i := 735) (by decide +kernel) rfl
theorem mv_X9_215 : MLV RX9 215 mX0_hasRun 2 := ⟨gd_of (i := 560) (by decide +kernel) rfl, gd_of (i := 561) (by decide +kernel) rfl, gd_of (i := 562) (by decide +kernel) rfl, mk_X0_hasRun⟩
theorem gs_X9_218 : Cond.fieldLink RX9 218 RX9 (snm 2) "[I" ∈ gd := gd_of (i := 736) (by decide +kernel) rfl
theorem mv_X9_221 : MLV RX9 221 mX7_priceAt 3 := ⟨gd_of (i := 737) (by decide +kernel) rfl, gd_of (i := 676) (by decide +kernel) rfl, gd_of (i := 677) (by decide +kernel) rfl, mk_X7_priceAt⟩
theorem mk_X7_leastFrom : Mk mX7_leastFrom 2 := ⟨gd_of (i := 88) (by decide +kernel) rfl, gd_of (i := 745) (by decide +kernel) rfl, by decide +kernel⟩
theorem mv_X9_225 : MLV RX9 225 mX7_leastFrom 2 := ⟨gd_of (i := 742) (by decide +kernel) rfl, gd_of (i := 743) (by decide +kernel) rfl, gd_of (i := 744) (by decide +kernel) rfl, mk_X7_leastFrom⟩
theorem kc_X9_228 : Cond.constant RX9 228 1000000000 ∈ gd := gd_of (i := 746) (by decide +kernel) rfl
theorem mk_X7_leastButBest : Mk mX7_leastButBest 0 := ⟨gd_of (i := 88) (by decide +kernel) rfl, gd_of (i := 754) (by decide +kernel) rfl, by decide +kernel⟩
theorem mv_X9_229 : MLV RX9 229 mX7_leastButBest 0 := ⟨gd_of (i := 751) (by decide +kernel) rfl, gd_of (i := 752) (by decide +kernel) rfl, gd_of (i := 753) (by decide +kernel) rfl, mk_X7_leastButBest⟩
theorem mk_X7_leastWithout : Mk mX7_leastWithout 1 := ⟨gd_of (i := 88) (by decide +kernel) rfl, gd_of (i := 762) (by decide +kernel) rfl, by decide +kernel⟩
theorem mv_X9_232 : MLV RX9 232 mX7_leastWithout 1 := ⟨gd_of (i := 759) (by decide +kernel) rfl, gd_of (i := 760) (by decide +kernel) rfl, gd_of (i := 761) (by decide +kernel) rfl, mk_X7_leastWithout⟩
theorem mk_X9_playRound : Mk mX9_playRound 0 := ⟨gd_of (i := 80) (by decide +kernel) rfl, gd_of (i := 770) (by decide +kernel) rfl, by decide +kernel⟩
theorem mv_X9_236 : MLV RX9 236 mX9_playRound 0 := ⟨gd_of (i := 767) (by decide +kernel) rfl, gd_of (i := 769) (by decide +kernel) rfl, gd_of (i := 18) (by decide +kernel) rfl, mk_X9_playRound⟩
theorem fl_X9_239 : FL RX9 239 4 0 := ⟨RX4, TX4, 5, rfl, by decide, gd_of (i := 247) (by decide +kernel) rfl⟩
theorem mv_X9_242 : MLV RX9 242 mX4_partnerOf 1 := ⟨gd_of (i := 816) (by decide +kernel) rfl, gd_of (i := 632) (by decide +kernel) rfl, gd_of (i := 633) (by decide +kernel) rfl, mk_X4_partnerOf⟩
theorem mk_X4_lossOf : Mk mX4_lossOf 1 := ⟨gd_of (i := 87) (by decide +kernel) rfl, gd_of (i := 820) (by decide +kernel) rfl, by decide +kernel⟩
theorem mv_X9_245 : MLV RX9 245 mX4_lossOf 1 := ⟨gd_of (i := 817) (by decide +kernel) rfl, gd_of (i := 818) (by decide +kernel) rfl, gd_of (i := 819) (by decide +kernel) rfl, mk_X4_lossOf⟩
theorem fl_X9_248 : FL RX9 248 4 2 := ⟨RX4, TX4, 5, rfl, by decide, gd_of (i := 250) (by decide +kernel) rfl⟩
theorem mv_X9_251 : MLV RX9 251 mX4_obeyTerm 1 := ⟨gd_of (i := 825) (by decide +kernel) rfl, gd_of (i := 805) (by decide +kernel) rfl, gd_of (i := 806) (by decide +kernel) rfl, mk_X4_obeyTerm⟩
theorem mk_X9_breaksTerm : Mk mX9_breaksTerm 1 := ⟨gd_of (i := 80) (by decide +kernel) rfl, gd_of (i := 833) (by decide +kernel) rfl, by decide +kernel⟩
theorem mv_X9_254 : MLV RX9 254 mX9_breaksTerm 1 := ⟨gd_of (i := 830) (by decide +kernel) rfl, gd_of (i := 832) (by decide +kernel) rfl, gd_of (i := 23) (by decide +kernel) rfl, mk_X9_breaksTerm⟩
theorem mk_X2_gather : Mk mX2_gather 1 := ⟨gd_of (i := 89) (by decide +kernel) rfl, gd_of (i := 842) (by decide +kernel) rfl, by decide +kernel⟩
theorem mv_X9_257 : MLV RX9 257 mX2_gather 1 := ⟨gd_of (i := 839) (by decide +kernel) rfl, gd_of (i := 840) (by decide +kernel) rfl, gd_of (i := 841) (by decide +kernel) rfl, mk_X2_gather⟩
theorem mk_X2_hasLeft : Mk mX2_hasLeft 1 := ⟨gd_of (i := 89) (by decide +kernel) rfl, gd_of (i := 851) (by decide +kernel) rfl, by decide +kernel⟩
theorem mv_X9_260 : MLV RX9 260 mX2_hasLeft 1 := ⟨gd_of (i := 848) (by decide +kernel) rfl, gd_of (i := 849) (by decide +kernel) rfl, gd_of (i := 850) (by decide +kernel) rfl, mk_X2_hasLeft⟩
theorem mk_X2_hasRight : Mk mX2_hasRight 1 := ⟨gd_of (i := 89) (by decide +kernel) rfl, gd_of (i := 855) (by decide +kernel) rfl, by decide +kernel⟩
theorem mv_X9_263 : MLV RX9 263 mX2_hasRight 1 := ⟨gd_of (i := 852) (by decide +kernel) rfl, gd_of (i := 853) (by decide +kernel) rfl, gd_of (i := 854) (by decide +kernel) rfl, mk_X2_hasRight⟩
theorem mk_X9_isLinkable : Mk mX9_isLinkable 1 := ⟨gd_of (i := 80) (by decide +kernel) rfl, gd_of (i := 859) (by decide +kernel) rfl, by decide +kernel⟩
theorem mv_X9_266 : MLV RX9 266 mX9_isLinkable 1 := ⟨gd_of (i := 856) (by decide +kernel) rfl, gd_of (i := 858) (by decide +kernel) rfl, gd_of (i := 24) (by decide +kernel) rfl, mk_X9_isLinkable⟩
theorem mk_X2_work : Mk mX2_work 0 := ⟨gd_of (i := 89) (by decide +kernel) rfl, gd_of (i := 863) (by decide +kernel) rfl, by decide +kernel⟩
theorem mv_X9_269 : MLV RX9 269 mX2_work 0 := ⟨gd_of (i := 860) (by decide +kernel) rfl, gd_of (i := 861) (by decide +kernel) rfl, gd_of (i := 862) (by decide +kernel) rfl, mk_X2_work⟩
theorem fl_X9_272 : FL RX9 272 2 7 := ⟨RX2, TX2, 11, rfl, by decide, gd_of (i := 347) (by decide +kernel) rfl⟩
theorem fl_X9_275 : FL RX9 275 2 8 := ⟨RX2, TX2, 11, rfl, by decide, gd_of (i := 349) (by decide +kernel) rfl⟩
theorem mv_X9_278 : MLV RX9 278 mX2_isBoth 2 := ⟨gd_of (i := 909) (by decide +kernel) rfl, gd_of (i := 881) (by decide +kernel) rfl, gd_of (i := 882) (by decide +kernel) rfl, mk_X2_isBoth⟩
theorem mv_X9_281 : MLV RX9 281 mX2_isGrown 2 := ⟨gd_of (i := 910) (by decide +kernel) rfl, gd_of (i := 897) (by decide +kernel) rfl, gd_of (i := 898) (by decide +kernel) rfl, mk_X2_isGrown⟩
theorem mk_X2_countRowPairs : Mk mX2_countRowPairs 0 := ⟨gd_of (i := 89) (by decide +kernel) rfl, gd_of (i := 918) (by decide +kernel) rfl, by decide +kernel⟩
theorem mv_X9_284 : MLV RX9 284 mX2_countRowPairs 0 := ⟨gd_of (i := 915) (by decide +kernel) rfl, gd_of (i := 916) (by decide +kernel) rfl, gd_of (i := 917) (by decide +kernel) rfl, mk_X2_countRowPairs⟩
theorem mk_X9_isSlot : Mk mX9_isSlot 1 := ⟨gd_of (i := 80) (by decide +kernel) rfl, gd_of (i := 936) (by decide +kernel) rfl, by decide +kernel⟩
theorem mv_X9_287 : MLV RX9 287 mX9_isSlot 1 := ⟨gd_of (i := 933) (by decide +kernel) rfl, gd_of (i := 935) (by decide +kernel) rfl, gd_of (i := 33) (by decide +kernel) rfl, mk_X9_isSlot⟩
theorem mk_X5_holdSentence : Mk mX5_holdSentence 2 := ⟨gd_of (i := 90) (by decide +kernel) rfl, gd_of (i := 940) (by decide +kernel) rfl, by decide +kernel⟩
theorem mv_X9_290 : MLV RX9 290 mX5_holdSentence 2 := ⟨gd_of (i := 937) (by decide +kernel) rfl, gd_of (i := 938) (by decide +kernel) rfl, gd_of (i := 939) (by decide +kernel) rfl, mk_X5_holdSentence⟩
theorem mk_X5_holdJoint : Mk mX5_holdJoint 2 := ⟨gd_of (i := 90) (by decide +kernel) rfl, gd_of (i := 948) (by decide +kernel) rfl, by decide +kernel⟩
theorem mv_X9_294 : MLV RX9 294 mX5_holdJoint 2 := ⟨gd_of (i := 945) (by decide +kernel) rfl, gd_of (i := 946) (by decide +kernel) rfl, gd_of (i := 947) (by decide +kernel) rfl, mk_X5_holdJoint⟩
theorem mk_X9_meet : Mk mX9_meet 1 := ⟨gd_of (i := 80) (by decide +kernel) rfl, gd_of (i := 956) (by decide +kernel) rfl, by decide +kernel⟩
theorem mv_X9_297 : MLV RX9 297 mX9_meet 1 := ⟨gd_of (i := 953) (by decide +kernel) rfl, gd_of (i := 955) (by decide +kernel) rfl, gd_of (i := 34) (by decide +kernel) rfl, mk_X9_meet⟩
theorem mk_X5_holdRow : Mk mX5_holdRow 1 := ⟨gd_of (i := 90) (by decide +kernel) rfl, gd_of (i := 960) (by decide +kernel) rfl, by decide +kernel⟩
theorem mv_X9_300 : MLV RX9 300 mX5_holdRow 1 := ⟨gd_of (i := 957) (by decide +kernel) rfl, gd_of (i := 958) (by decide +kernel) rfl, gd_of (i := 959) (by decide +kernel) rfl, mk_X5_holdRow⟩
theorem mk_X9_fine : Mk mX9_fine 1 := ⟨gd_of (i := 80) (by decide +kernel) rfl, gd_of (i := 965) (by decide +kernel) rfl, by decide +kernel⟩
theorem mv_X9_303 : MLV RX9 303 mX9_fine 1 := ⟨gd_of (i := 962) (by decide +kernel) rfl, gd_of (i := 964) (by decide +kernel) rfl, gd_of (i := 35) (by decide +kernel) rfl, mk_X9_fine⟩
theorem fl_X9_306 : FL RX9 306 5 0 := ⟨RX5, TX5, 5, rfl, by decide, gd_of (i := 383) (by decide +kernel) rfl⟩
theorem mk_X9_placeCode : Mk mX9_placeCode 2 := ⟨gd_of (i := 80) (by decide +kernel) rfl, gd_of (i := 981) (by decide +kernel) rfl, by decide +kernel⟩
theorem mv_X9_309 : MLV RX9 309 mX9_placeCode 2 := ⟨gd_of (i := 978) (by decide +kernel) rfl, gd_of (i := 980) (by decide +kernel) rfl, gd_of (i := 36) (by decide +kernel) rfl, mk_X9_placeCode⟩
theorem fl_X9_312 : FL RX9 312 5 2 := ⟨RX5, TX5, 5, rfl, by decide, gd_of (i := 387) (by decide +kernel) rfl⟩
theorem mk_X9_sortCode : Mk mX9_sortCode 2 := ⟨gd_of (i := 80) (by decide +kernel) rfl, gd_of (i := 985) (by decide +kernel) rfl, by decide +kernel⟩
theorem mv_X9_315 : MLV RX9 315 mX9_sortCode 2 := ⟨gd_of (i := 982) (by decide +kernel) rfl, gd_of (i := 984) (by decide +kernel) rfl, gd_of (i := 37) (by decide +kernel) rfl, mk_X9_sortCode⟩
theorem mk_X5_copyFrom : Mk mX5_copyFrom 2 := ⟨gd_of (i := 90) (by decide +kernel) rfl, gd_of (i := 997) (by decide +kernel) rfl, by decide +kernel⟩
theorem mv_X9_318 : MLV RX9 318 mX5_copyFrom 2 := ⟨gd_of (i := 994) (by decide +kernel) rfl, gd_of (i := 995) (by decide +kernel) rfl, gd_of (i := 996) (by decide +kernel) rfl, mk_X5_copyFrom⟩
theorem fl_X9_322 : FL RX9 322 5 1 := ⟨RX5, TX5, 5, rfl, by decide, gd_of (i := 385) (by decide +kernel) rfl⟩
theorem fl_X9_323 : FL RX9 323 5 4 := ⟨RX5, TX5, 5, rfl, by decide, gd_of (i := 391) (by decide +kernel) rfl⟩
theorem fl_X9_326 : FL RX9 326 5 3 := ⟨RX5, TX5, 5, rfl, by decide, gd_of (i := 389) (by decide +kernel) rfl⟩
theorem mk_X7_measure : Mk mX7_measure 0 := ⟨gd_of (i := 88) (by decide +kernel) rfl, gd_of (i := 626) (by decide +kernel) rfl, by decide +kernel⟩
theorem mv_X9_329 : MLV RX9 329 mX7_measure 0 := ⟨gd_of (i := 623) (by decide +kernel) rfl, gd_of (i := 624) (by decide +kernel) rfl, gd_of (i := 625) (by decide +kernel) rfl, mk_X7_measure⟩
theorem mk_X7_fillCosts : Mk mX7_fillCosts 0 := ⟨gd_of (i := 88) (by decide +kernel) rfl, gd_of (i := 646) (by decide +kernel) rfl, by decide +kernel⟩
theorem mv_X9_332 : MLV RX9 332 mX7_fillCosts 0 := ⟨gd_of (i := 643) (by decide +kernel) rfl, gd_of (i := 644) (by decide +kernel) rfl, gd_of (i := 645) (by decide +kernel) rfl, mk_X7_fillCosts⟩
theorem mk_X7_choose : Mk mX7_choose 0 := ⟨gd_of (i := 88) (by decide +kernel) rfl, gd_of (i := 703) (by decide +kernel) rfl, by decide +kernel⟩
theorem mv_X9_335 : MLV RX9 335 mX7_choose 0 := ⟨gd_of (i := 700) (by decide +kernel) rfl, gd_of (i := 701) (by decide +kernel) rfl, gd_of (i := 702) (by decide +kernel) rfl, mk_X7_choose⟩
theorem mk_X4_startDealing : Mk mX4_startDealing 0 := ⟨gd_of (i := 87) (by decide +kernel) rfl, gd_of (i := 774) (by decide +kernel) rfl, by decide +kernel⟩
theorem mv_X9_338 : MLV RX9 338 mX4_startDealing 0 := ⟨gd_of (i := 771) (by decide +kernel) rfl, gd_of (i := 772) (by decide +kernel) rfl, gd_of (i := 773) (by decide +kernel) rfl, mk_X4_startDealing⟩
theorem mk_X9_dealJoint : Mk mX9_dealJoint 1 := ⟨gd_of (i := 80) (by decide +kernel) rfl, gd_of (i := 781) (by decide +kernel) rfl, by decide +kernel⟩
theorem mv_X9_341 : MLV RX9 341 mX9_dealJoint 1 := ⟨gd_of (i := 778) (by decide +kernel) rfl, gd_of (i := 780) (by decide +kernel) rfl, gd_of (i := 19) (by decide +kernel) rfl, mk_X9_dealJoint⟩
theorem mk_X4_settle : Mk mX4_settle 0 := ⟨gd_of (i := 87) (by decide +kernel) rfl, gd_of (i := 799) (by decide +kernel) rfl, by decide +kernel⟩
theorem mv_X9_344 : MLV RX9 344 mX4_settle 0 := ⟨gd_of (i := 796) (by decide +kernel) rfl, gd_of (i := 797) (by decide +kernel) rfl, gd_of (i := 798) (by decide +kernel) rfl, mk_X4_settle⟩
theorem mk_X4_deal : Mk mX4_deal 6 := ⟨gd_of (i := 87) (by decide +kernel) rfl, gd_of (i := 785) (by decide +kernel) rfl, by decide +kernel⟩
theorem mv_X9_347 : MLV RX9 347 mX4_deal 6 := ⟨gd_of (i := 782) (by decide +kernel) rfl, gd_of (i := 783) (by decide +kernel) rfl, gd_of (i := 784) (by decide +kernel) rfl, mk_X4_deal⟩
theorem mv_X9_351 : MLS RX9 351 mX9_hasBothSides 1 := ⟨gd_of (i := 795) (by decide +kernel) rfl, gd_of (i := 682) (by decide +kernel) rfl, mk_X9_hasBothSides⟩
theorem mv_X9_354 : MLV RX9 354 mX0_kindsIn 2 := ⟨gd_of (i := 834) (by decide +kernel) rfl, gd_of (i := 640) (by decide +kernel) rfl, gd_of (i := 641) (by decide +kernel) rfl, mk_X0_kindsIn⟩
theorem mo_X10_1 : Cond.methodLink RX10 1 objectInit ∈ gd := gd_of (i := 1012) (by decide +kernel) rfl
theorem fl_X10_7 : FL RX10 7 10 0 := ⟨RX10, TX10, 57, rfl, by decide, gd_of (i := 1018) (by decide +kernel) rfl⟩
theorem ir_10_0 : isRf (ftys 10 0) := ⟨by decide, by decide, by decide⟩
theorem ir2_10_0 : isRf2 (ftys 10 0) := ⟨ir_10_0, by decide, by decide, by decide, by decide, by decide⟩
theorem nf_10_0 : ∀ C T N, vwCl[10]? = some (C, T, N) → (T 0).2.2.2 = true ∧ (T 0).1 = RX10 := by intro C T N h; cases h; exact ⟨rfl, rfl⟩
theorem fl_X10_13 : FL RX10 13 10 2 := ⟨RX10, TX10, 57, rfl, by decide, gd_of (i := 1020) (by decide +kernel) rfl⟩
theorem ir_10_2 : isRf (ftys 10 2) := ⟨by decide, by decide, by decide⟩
theorem ir2_10_2 : isRf2 (ftys 10 2) := ⟨ir_10_2, by decide, by decide, by decide, by decide, by decide⟩
theorem nf_10_2 : ∀ C T N, vwCl[10]? = some (C, T, N) → (T 2).2.2.2 = true ∧ (T 2).1 = RX10 := by intro C T N h; cases h; exact ⟨rfl, rfl⟩
theorem fl_X10_16 : FL RX10 16 10 3 := ⟨RX10, TX10, 57, rfl, by decide, gd_of (i := 1021) (by decide +kernel) rfl⟩
theorem ir_10_3 : isRf (ftys 10 3) := ⟨by decide, by decide, by decide⟩
theorem ir2_10_3 : isRf2 (ftys 10 3) := ⟨ir_10_3, by decide, by decide, by decide, by decide, by decide⟩
theorem nf_10_3 : ∀ C T N, vwCl[10]? = some (C, T, N) → (T 3).2.2.2 = true ∧ (T 3).1 = RX10 := by intro C T N h; cases h; exact ⟨rfl, rfl⟩
theorem fl_X10_19 : FL RX10 19 10 5 := ⟨RX10, TX10, 57, rfl, by decide, gd_of (i := 1023) (by decide +kernel) rfl⟩
theorem ir_10_5 : isRf (ftys 10 5) := ⟨by decide, by decide, by decide⟩
theorem ir2_10_5 : isRf2 (ftys 10 5) := ⟨ir_10_5, by decide, by decide, by decide, by decide, by decide⟩
theorem nf_10_5 : ∀ C T N, vwCl[10]? = some (C, T, N) → (T 5).2.2.2 = true ∧ (T 5).1 = RX10 := by intro C T N h; cases h; exact ⟨rfl, rfl⟩
theorem fl_X10_22 : FL RX10 22 10 6 := ⟨RX10, TX10, 57, rfl, by decide, gd_of (i := 1024) (by decide +kernel) rfl⟩
theorem ir_10_6 : isRf (ftys 10 6) := ⟨by decide, by decide, by decide⟩
theorem ir2_10_6 : isRf2 (ftys 10 6) := ⟨ir_10_6, by decide, by decide, by decide, by decide, by decide⟩
theorem nf_10_6 : ∀ C T N, vwCl[10]? = some (C, T, N) → (T 6).2.2.2 = true ∧ (T 6).1 = RX10 := by intro C T N h; cases h; exact ⟨rfl, rfl⟩
theorem fl_X10_25 : FL RX10 25 10 7 := ⟨RX10, TX10, 57, rfl, by decide, gd_of (i := 1025) (by decide +kernel) rfl⟩
theorem ir_10_7 : isRf (ftys 10 7) := ⟨by decide, by decide, by decide⟩
theorem ir2_10_7 : isRf2 (ftys 10 7) := ⟨ir_10_7, by decide, by decide, by decide, by decide, by decide⟩
theorem nf_10_7 : ∀ C T N, vwCl[10]? = some (C, T, N) → (T 7).2.2.2 = true ∧ (T 7).1 = RX10 := by intro C T N h; cases h; exact ⟨rfl, rfl⟩
theorem fl_X10_28 : FL RX10 28 10 8 := ⟨RX10, TX10, 57, rfl, by decide, gd_of (i := 1026) (by decide +kernel) rfl⟩
theorem ir_10_8 : isRf (ftys 10 8) := ⟨by decide, by decide, by decide⟩
theorem ir2_10_8 : isRf2 (ftys 10 8) := ⟨ir_10_8, by decide, by decide, by decide, by decide, by decide⟩
theorem nf_10_8 : ∀ C T N, vwCl[10]? = some (C, T, N) → (T 8).2.2.2 = true ∧ (T 8).1 = RX10 := by intro C T N h; cases h; exact ⟨rfl, rfl⟩
theorem fl_X10_31 : FL RX10 31 10 9 := ⟨RX10, TX10, 57, rfl, by decide, gd_of (i := 1027) (by decide +kernel) rfl⟩
theorem ir_10_9 : isRf (ftys 10 9) := ⟨by decide, by decide, by decide⟩
theorem ir2_10_9 : isRf2 (ftys 10 9) := ⟨ir_10_9, by decide, by decide, by decide, by decide, by decide⟩
theorem nf_10_9 : ∀ C T N, vwCl[10]? = some (C, T, N) → (T 9).2.2.2 = true ∧ (T 9).1 = RX10 := by intro C T N h; cases h; exact ⟨rfl, rfl⟩
theorem fl_X10_34 : FL RX10 34 10 10 := ⟨RX10, TX10, 57, rfl, by decide, gd_of (i := 1028) (by decide +kernel) rfl⟩
theorem ir_10_10 : isRf (ftys 10 10) := ⟨by decide, by decide, by decide⟩
theorem ir2_10_10 : isRf2 (ftys 10 10) := ⟨ir_10_10, by decide, by decide, by decide, by decide, by decide⟩
theorem nf_10_10 : ∀ C T N, vwCl[10]? = some (C, T, N) → (T 10).2.2.2 = true ∧ (T 10).1 = RX10 := by intro C T N h; cases h; exact ⟨rfl, rfl⟩
theorem fl_X10_37 : FL RX10 37 10 11 := ⟨RX10, TX10, 57, rfl, by decide, gd_of (i := 1029) (by decide +kernel) rfl⟩
theorem ir_10_11 : isRf (ftys 10 11) := ⟨by decide, by decide, by decide⟩
theorem ir2_10_11 : isRf2 (ftys 10 11) := ⟨ir_10_11, by decide, by decide, by decide, by decide, by decide⟩
theorem nf_10_11 : ∀ C T N, vwCl[10]? = some (C, T, N) → (T 11).2.2.2 = true ∧ (T 11).1 = RX10 := by intro C T N h; cases h; exact ⟨rfl, rfl⟩
theorem fl_X10_40 : FL RX10 40 10 12 := ⟨RX10, TX10, 57, rfl, by decide, gd_of (i := 1030) (by decide +kernel) rfl⟩
theorem ir_10_12 : isRf (ftys 10 12) := ⟨by decide, by decide, by decide⟩
theorem ir2_10_12 : isRf2 (ftys 10 12) := ⟨ir_10_12, by decide, by decide, by decide, by decide, by decide⟩
theorem nf_10_12 : ∀ C T N, vwCl[10]? = some (C, T, N) → (T 12).2.2.2 = true ∧ (T 12).1 = RX10 := by intro C T N h; cases h; exact ⟨rfl, rfl⟩
theorem fl_X10_43 : FL RX10 43 10 13 := ⟨RX10, TX10, 57, rfl, by decide, gd_of (i := 1031) (by decide +kernel) rfl⟩
theorem ir_10_13 : isRf (ftys 10 13) := ⟨by decide, by decide, by decide⟩
theorem ir2_10_13 : isRf2 (ftys 10 13) := ⟨ir_10_13, by decide, by decide, by decide, by decide, by decide⟩
theorem nf_10_13 : ∀ C T N, vwCl[10]? = some (C, T, N) → (T 13).2.2.2 = true ∧ (T 13).1 = RX10 := by intro C T N h; cases h; exact ⟨rfl, rfl⟩
theorem fl_X10_46 : FL RX10 46 10 14 := ⟨RX10, TX10, 57, rfl, by decide, gd_of (i := 1032) (by decide +kernel) rfl⟩
theorem ir_10_14 : isRf (ftys 10 14) := ⟨by decide, by decide, by decide⟩
theorem ir2_10_14 : isRf2 (ftys 10 14) := ⟨ir_10_14, by decide, by decide, by decide, by decide, by decide⟩
theorem nf_10_14 : ∀ C T N, vwCl[10]? = some (C, T, N) → (T 14).2.2.2 = true ∧ (T 14).1 = RX10 := by intro C T N h; cases h; exact ⟨rfl, rfl⟩
theorem fl_X10_49 : FL RX10 49 10 17 := ⟨RX10, TX10, 57, rfl, by decide, gd_of (i := 1035) (by decide +kernel) rfl⟩
theorem ir_10_17 : isRf (ftys 10 17) := ⟨by decide, by decide, by decide⟩
theorem ir2_10_17 : isRf2 (ftys 10 17) := ⟨ir_10_17, by decide, by decide, by decide, by decide, by decide⟩
theorem nf_10_17 : ∀ C T N, vwCl[10]? = some (C, T, N) → (T 17).2.2.2 = true ∧ (T 17).1 = RX10 := by intro C T N h; cases h; exact ⟨rfl, rfl⟩
theorem fl_X10_52 : FL RX10 52 10 18 := ⟨RX10, TX10, 57, rfl, by decide, gd_of (i := 1036) (by decide +kernel) rfl⟩
theorem ir_10_18 : isRf (ftys 10 18) := ⟨by decide, by decide, by decide⟩
theorem ir2_10_18 : isRf2 (ftys 10 18) := ⟨ir_10_18, by decide, by decide, by decide, by decide, by decide⟩
theorem nf_10_18 : ∀ C T N, vwCl[10]? = some (C, T, N) → (T 18).2.2.2 = true ∧ (T 18).1 = RX10 := by intro C T N h; cases h; exact ⟨rfl, rfl⟩
theorem fl_X10_55 : FL RX10 55 10 20 := ⟨RX10, TX10, 57, rfl, by decide, gd_of (i := 1038) (by decide +kernel) rfl⟩
theorem ir_10_20 : isRf (ftys 10 20) := ⟨by decide, by decide, by decide⟩
theorem ir2_10_20 : isRf2 (ftys 10 20) := ⟨ir_10_20, by decide, by decide, by decide, by decide, by decide⟩
theorem nf_10_20 : ∀ C T N, vwCl[10]? = some (C, T, N) → (T 20).2.2.2 = true ∧ (T 20).1 = RX10 := by intro C T N h; cases h; exact ⟨rfl, rfl⟩
theorem fl_X10_58 : FL RX10 58 10 23 := ⟨RX10, TX10, 57, rfl, by decide, gd_of (i := 1041) (by decide +kernel) rfl⟩
theorem ir_10_23 : isRf (ftys 10 23) := ⟨by decide, by decide, by decide⟩
theorem ir2_10_23 : isRf2 (ftys 10 23) := ⟨ir_10_23, by decide, by decide, by decide, by decide, by decide⟩
theorem nf_10_23 : ∀ C T N, vwCl[10]? = some (C, T, N) → (T 23).2.2.2 = true ∧ (T 23).1 = RX10 := by intro C T N h; cases h; exact ⟨rfl, rfl⟩
theorem fl_X10_61 : FL RX10 61 10 24 := ⟨RX10, TX10, 57, rfl, by decide, gd_of (i := 1042) (by decide +kernel) rfl⟩
theorem ir_10_24 : isRf (ftys 10 24) := ⟨by decide, by decide, by decide⟩
theorem ir2_10_24 : isRf2 (ftys 10 24) := ⟨ir_10_24, by decide, by decide, by decide, by decide, by decide⟩
theorem nf_10_24 : ∀ C T N, vwCl[10]? = some (C, T, N) → (T 24).2.2.2 = true ∧ (T 24).1 = RX10 := by intro C T N h; cases h; exact ⟨rfl, rfl⟩
theorem fl_X10_64 : FL RX10 64 10 25 := ⟨RX10, TX10, 57, rfl, by decide, gd_of (i := 1043) (by decide +kernel) rfl⟩
theorem ir_10_25 : isRf (ftys 10 25) := ⟨by decide, by decide, by decide⟩
theorem ir2_10_25 : isRf2 (ftys 10 25) := ⟨ir_10_25, by decide, by decide, by decide, by decide, by decide⟩
theorem nf_10_25 : ∀ C T N, vwCl[10]? = some (C, T, N) → (T 25).2.2.2 = true ∧ (T 25).1 = RX10 := by intro C T N h; cases h; exact ⟨rfl, rfl⟩
theorem fl_X10_67 : FL RX10 67 10 26 := ⟨RX10, TX10, 57, rfl, by decide, gd_of (i := 1044) (by decide +kernel) rfl⟩
theorem ir_10_26 : isRf (ftys 10 26) := ⟨by decide, by decide, by decide⟩
theorem ir2_10_26 : isRf2 (ftys 10 26) := ⟨ir_10_26, by decide, by decide, by decide, by decide, by decide⟩
theorem nf_10_26 : ∀ C T N, vwCl[10]? = some (C, T, N) → (T 26).2.2.2 = true ∧ (T 26).1 = RX10 := by intro C T N h; cases h; exact ⟨rfl, rfl⟩
theorem fl_X10_70 : FL RX10 70 10 27 := ⟨RX10, TX10, 57, rfl, by decide, gd_of (i := 1045) (by decide +kernel) rfl⟩
theorem ir_10_27 : isRf (ftys 10 27) := ⟨by decide, by decide, by decide⟩
theorem ir2_10_27 : isRf2 (ftys 10 27) := ⟨ir_10_27, by decide, by decide, by decide, by decide, by decide⟩
theorem nf_10_27 : ∀ C T N, vwCl[10]? = some (C, T, N) → (T 27).2.2.2 = true ∧ (T 27).1 = RX10 := by intro C T N h; cases h; exact ⟨rfl, rfl⟩
theorem fl_X10_73 : FL RX10 73 10 33 := ⟨RX10, TX10, 57, rfl, by decide, gd_of (i := 1051) (by decide +kernel) rfl⟩
theorem ir_10_33 : isRf (ftys 10 33) := ⟨by decide, by decide, by decide⟩
theorem ir2_10_33 : isRf2 (ftys 10 33) := ⟨ir_10_33, by decide, by decide, by decide, by decide, by decide⟩
theorem nf_10_33 : ∀ C T N, vwCl[10]? = some (C, T, N) → (T 33).2.2.2 = true ∧ (T 33).1 = RX10 := by intro C T N h; cases h; exact ⟨rfl, rfl⟩
theorem fl_X10_76 : FL RX10 76 10 34 := ⟨RX10, TX10, 57, rfl, by decide, gd_of (i := 1052) (by decide +kernel) rfl⟩
theorem ir_10_34 : isRf (ftys 10 34) := ⟨by decide, by decide, by decide⟩
theorem ir2_10_34 : isRf2 (ftys 10 34) := ⟨ir_10_34, by decide, by decide, by decide, by decide, by decide⟩
theorem nf_10_34 : ∀ C T N, vwCl[10]? = some (C, T, N) → (T 34).2.2.2 = true ∧ (T 34).1 = RX10 := by intro C T N h; cases h; exact ⟨rfl, rfl⟩
theorem fl_X10_79 : FL RX10 79 10 37 := ⟨RX10, TX10, 57, rfl, by decide, gd_of (i := 1055) (by decide +kernel) rfl⟩
theorem ir_10_37 : isRf (ftys 10 37) := ⟨by decide, by decide, by decide⟩
