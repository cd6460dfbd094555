theorem ir2_10_37 : isRf2 (ftys 10 37) := ⟨ir_10_37, by decide, by decide, by decide, by decide, by decide⟩
theorem nf_10_37 : ∀ C T N, vwCl[10]? = some (C, T, N) → (T 37).2.2.2 = true ∧ (T 37).1 = RX10 := by intro C T N h; cases h; exact ⟨rfl, rfl⟩
theorem fl_X10_82 : FL RX10 82 10 38 := ⟨RX10, TX10, 57, rfl, by decide, gd_of (i := 1056) (by decide +kernel) rfl⟩
theorem ir_10_38 : isRf (ftys 10 38) := ⟨by decide, by decide, by decide⟩
theorem ir2_10_38 : isRf2 (ftys 10 38) := ⟨ir_10_38, by decide, by decide, by decide, by decide, by decide⟩
theorem nf_10_38 : ∀ C T N, vwCl[10]? = some (C, T, N) → (T 38).2.2.2 = true ∧ (T 38).1 = RX10 := by intro C T N h; cases h; exact ⟨rfl, rfl⟩
theorem fl_X10_85 : FL RX10 85 10 42 := ⟨RX10, TX10, 57, rfl, by decide, gd_of (i := 1060) (by decide +kernel) rfl⟩
theorem ir_10_42 : isRf (ftys 10 42) := ⟨by decide, by decide, by decide⟩
theorem ir2_10_42 : isRf2 (ftys 10 42) := ⟨ir_10_42, by decide, by decide, by decide, by decide, by decide⟩
theorem nf_10_42 : ∀ C T N, vwCl[10]? = some (C, T, N) → (T 42).2.2.2 = true ∧ (T 42).1 = RX10 := by intro C T N h; cases h; exact ⟨rfl, rfl⟩
theorem fl_X10_88 : FL RX10 88 10 43 := ⟨RX10, TX10, 57, rfl, by decide, gd_of (i := 1061) (by decide +kernel) rfl⟩
theorem ir_10_43 : isRf (ftys 10 43) := ⟨by decide, by decide, by decide⟩
theorem ir2_10_43 : isRf2 (ftys 10 43) := ⟨ir_10_43, by decide, by decide, by decide, by decide, by decide⟩
theorem nf_10_43 : ∀ C T N, vwCl[10]? = some (C, T, N) → (T 43).2.2.2 = true ∧ (T 43).1 = RX10 := by intro C T N h; cases h; exact ⟨rfl, rfl⟩
theorem fl_X10_91 : FL RX10 91 10 44 := ⟨RX10, TX10, 57, rfl, by decide, gd_of (i := 1062) (by decide +kernel) rfl⟩
theorem ir_10_44 : isRf (ftys 10 44) := ⟨by decide, by decide, by decide⟩
theorem ir2_10_44 : isRf2 (ftys 10 44) := ⟨ir_10_44, by decide, by decide, by decide, by decide, by decide⟩
theorem nf_10_44 : ∀ C T N, vwCl[10]? = some (C, T, N) → (T 44).2.2.2 = true ∧ (T 44).1 = RX10 := by intro C T N h; cases h; exact ⟨rfl, rfl⟩
theorem fl_X10_94 : FL RX10 94 10 46 := ⟨RX10, TX10, 57, rfl, by decide, gd_of (i := 1064) (by decide +kernel) rfl⟩
theorem ir_10_46 : isRf (ftys 10 46) := ⟨by decide, by decide, by decide⟩
theorem ir2_10_46 : isRf2 (ftys 10 46) := ⟨ir_10_46, by decide, by decide, by decide, by decide, by decide⟩
theorem nf_10_46 : ∀ C T N, vwCl[10]? = some (C, T, N) → (T 46).2.2.2 = true ∧ (T 46).1 = RX10 := by intro C T N h; cases h; exact ⟨rfl, rfl⟩
theorem fl_X10_98 : FL RX10 98 10 47 := ⟨RX10, TX10, 57, rfl, by decide, gd_of (i := 1065) (by decide +kernel) rfl⟩
theorem ir_10_47 : isRf (ftys 10 47) := ⟨by decide, by decide, by decide⟩
theorem ir2_10_47 : isRf2 (ftys 10 47) := ⟨ir_10_47, by decide, by decide, by decide, by decide, by decide⟩
theorem nf_10_47 : ∀ C T N, vwCl[10]? = some (C, T, N) → (T 47).2.2.2 = true ∧ (T 47).1 = RX10 := by intro C T N h; cases h; exact ⟨rfl, rfl⟩
theorem fl_X10_101 : FL RX10 101 10 49 := ⟨RX10, TX10, 57, rfl, by decide, gd_of (i := 1067) (by decide +kernel) rfl⟩
theorem ir_10_49 : isRf (ftys 10 49) := ⟨by decide, by decide, by decide⟩
theorem ir2_10_49 : isRf2 (ftys 10 49) := ⟨ir_10_49, by decide, by decide, by decide, by decide, by decide⟩
theorem nf_10_49 : ∀ C T N, vwCl[10]? = some (C, T, N) → (T 49).2.2.2 = true ∧ (T 49).1 = RX10 := by intro C T N h; cases h; exact ⟨rfl, rfl⟩
theorem fl_X10_104 : FL RX10 104 10 51 := ⟨RX10, TX10, 57, rfl, by decide, gd_of (i := 1069) (by decide +kernel) rfl⟩
theorem ir_10_51 : isRf (ftys 10 51) := ⟨by decide, by decide, by decide⟩
theorem ir2_10_51 : isRf2 (ftys 10 51) := ⟨ir_10_51, by decide, by decide, by decide, by decide, by decide⟩
theorem nf_10_51 : ∀ C T N, vwCl[10]? = some (C, T, N) → (T 51).2.2.2 = true ∧ (T 51).1 = RX10 := by intro C T N h; cases h; exact ⟨rfl, rfl⟩
theorem fl_X10_107 : FL RX10 107 10 52 := ⟨RX10, TX10, 57, rfl, by decide, gd_of (i := 1070) (by decide +kernel) rfl⟩
theorem ir_10_52 : isRf (ftys 10 52) := ⟨by decide, by decide, by decide⟩
theorem ir2_10_52 : isRf2 (ftys 10 52) := ⟨ir_10_52, by decide, by decide, by decide, by decide, by decide⟩
theorem nf_10_52 : ∀ C T N, vwCl[10]? = some (C, T, N) → (T 52).2.2.2 = true ∧ (T 52).1 = RX10 := by intro C T N h; cases h; exact ⟨rfl, rfl⟩
theorem fl_X10_110 : FL RX10 110 10 53 := ⟨RX10, TX10, 57, rfl, by decide, gd_of (i := 1071) (by decide +kernel) rfl⟩
theorem ir_10_53 : isRf (ftys 10 53) := ⟨by decide, by decide, by decide⟩
theorem ir2_10_53 : isRf2 (ftys 10 53) := ⟨ir_10_53, by decide, by decide, by decide, by decide, by decide⟩
theorem nf_10_53 : ∀ C T N, vwCl[10]? = some (C, T, N) → (T 53).2.2.2 = true ∧ (T 53).1 = RX10 := by intro C T N h; cases h; exact ⟨rfl, rfl⟩
theorem fl_X10_114 : FL RX10 114 10 54 := ⟨RX10, TX10, 57, rfl, by decide, gd_of (i := 1072) (by decide +kernel) rfl⟩
theorem ir_10_54 : isRf (ftys 10 54) := ⟨by decide, by decide, by decide⟩
theorem ir2_10_54 : isRf2 (ftys 10 54) := ⟨ir_10_54, by decide, by decide, by decide, by decide, by decide⟩
theorem nf_10_54 : ∀ C T N, vwCl[10]? = some (C, T, N) → (T 54).2.2.2 = true ∧ (T 54).1 = RX10 := by intro C T N h; cases h; exact ⟨rfl, rfl⟩
theorem fl_X10_117 : FL RX10 117 10 55 := ⟨RX10, TX10, 57, rfl, by decide, gd_of (i := 1073) (by decide +kernel) rfl⟩
theorem ir_10_55 : isRf (ftys 10 55) := ⟨by decide, by decide, by decide⟩
theorem ir2_10_55 : isRf2 (ftys 10 55) := ⟨ir_10_55, by decide, by decide, by decide, by decide, by decide⟩
theorem nf_10_55 : ∀ C T N, vwCl[10]? = some (C, T, N) → (T 55).2.2.2 = true ∧ (T 55).1 = RX10 := by intro C T N h; cases h; exact ⟨rfl, rfl⟩
theorem fl_X10_120 : FL RX10 120 10 56 := ⟨RX10, TX10, 57, rfl, by decide, gd_of (i := 1074) (by decide +kernel) rfl⟩
theorem ir_10_56 : isRf (ftys 10 56) := ⟨by decide, by decide, by decide⟩
theorem ir2_10_56 : isRf2 (ftys 10 56) := ⟨ir_10_56, by decide, by decide, by decide, by decide, by decide⟩
theorem nf_10_56 : ∀ C T N, vwCl[10]? = some (C, T, N) → (T 56).2.2.2 = true ∧ (T 56).1 = RX10 := by intro C T N h; cases h; exact ⟨rfl, rfl⟩
theorem mk_X10_loseTies : Mk mX10_loseTies 0 := ⟨gd_of (i := 91) (by decide +kernel) rfl, gd_of (i := 1016) (by decide +kernel) rfl, by decide +kernel⟩
theorem mv_X10_123 : MLV RX10 123 mX10_loseTies 0 := ⟨gd_of (i := 1013) (by decide +kernel) rfl, gd_of (i := 1015) (by decide +kernel) rfl, gd_of (i := 38) (by decide +kernel) rfl, mk_X10_loseTies⟩
theorem fl_X10_126 : FL RX10 126 10 1 := ⟨RX10, TX10, 57, rfl, by decide, gd_of (i := 1019) (by decide +kernel) rfl⟩
theorem nf_10_1 : ∀ C T N, vwCl[10]? = some (C, T, N) → (T 1).2.2.2 = false := by intro C T N h; cases h; rfl
theorem kc_X10_130 : Cond.constant RX10 130 (-100004) ∈ gd := gd_of (i := 1195) (by decide +kernel) rfl
theorem mk_X10_in : Mk mX10_in 3 := ⟨gd_of (i := 91) (by decide +kernel) rfl, gd_of (i := 1202) (by decide +kernel) rfl, by decide +kernel⟩
theorem mv_X10_131 : MLS RX10 131 mX10_in 3 := ⟨gd_of (i := 1200) (by decide +kernel) rfl, gd_of (i := 1201) (by decide +kernel) rfl, mk_X10_in⟩
theorem kc_X10_135 : Cond.constant RX10 135 (-100002) ∈ gd := gd_of (i := 1203) (by decide +kernel) rfl
theorem mk_X10_isDigit : Mk mX10_isDigit 1 := ⟨gd_of (i := 91) (by decide +kernel) rfl, gd_of (i := 1215) (by decide +kernel) rfl, by decide +kernel⟩
theorem mv_X10_136 : MLV RX10 136 mX10_isDigit 1 := ⟨gd_of (i := 1212) (by decide +kernel) rfl, gd_of (i := 1214) (by decide +kernel) rfl, gd_of (i := 40) (by decide +kernel) rfl, mk_X10_isDigit⟩
theorem fl_X10_140 : FL RX10 140 10 21 := ⟨RX10, TX10, 57, rfl, by decide, gd_of (i := 1039) (by decide +kernel) rfl⟩
theorem nf_10_21 : ∀ C T N, vwCl[10]? = some (C, T, N) → (T 21).2.2.2 = false := by intro C T N h; cases h; rfl
theorem fl_X10_143 : FL RX10 143 10 22 := ⟨RX10, TX10, 57, rfl, by decide, gd_of (i := 1040) (by decide +kernel) rfl⟩
theorem nf_10_22 : ∀ C T N, vwCl[10]? = some (C, T, N) → (T 22).2.2.2 = false := by intro C T N h; cases h; rfl
theorem mk_X10_letterOf : Mk mX10_letterOf 1 := ⟨gd_of (i := 91) (by decide +kernel) rfl, gd_of (i := 1211) (by decide +kernel) rfl, by decide +kernel⟩
theorem mv_X10_146 : MLV RX10 146 mX10_letterOf 1 := ⟨gd_of (i := 1208) (by decide +kernel) rfl, gd_of (i := 1210) (by decide +kernel) rfl, gd_of (i := 39) (by decide +kernel) rfl, mk_X10_letterOf⟩
theorem fl_X10_150 : FL RX10 150 10 4 := ⟨RX10, TX10, 57, rfl, by decide, gd_of (i := 1022) (by decide +kernel) rfl⟩
theorem nf_10_4 : ∀ C T N, vwCl[10]? = some (C, T, N) → (T 4).2.2.2 = false := by intro C T N h; cases h; rfl
theorem mk_X10_cutWord : Mk mX10_cutWord 0 := ⟨gd_of (i := 91) (by decide +kernel) rfl, gd_of (i := 1219) (by decide +kernel) rfl, by decide +kernel⟩
theorem mv_X10_153 : MLV RX10 153 mX10_cutWord 0 := ⟨gd_of (i := 1216) (by decide +kernel) rfl, gd_of (i := 1218) (by decide +kernel) rfl, gd_of (i := 41) (by decide +kernel) rfl, mk_X10_cutWord⟩
theorem kc_X10_156 : Cond.constant RX10 156 (-100003) ∈ gd := gd_of (i := 1220) (by decide +kernel) rfl
theorem mk_X10_isShort : Mk mX10_isShort 0 := ⟨gd_of (i := 91) (by decide +kernel) rfl, gd_of (i := 1224) (by decide +kernel) rfl, by decide +kernel⟩
theorem mv_X10_157 : MLV RX10 157 mX10_isShort 0 := ⟨gd_of (i := 1221) (by decide +kernel) rfl, gd_of (i := 1223) (by decide +kernel) rfl, gd_of (i := 42) (by decide +kernel) rfl, mk_X10_isShort⟩
theorem fl_X10_161 : FL RX10 161 10 29 := ⟨RX10, TX10, 57, rfl, by decide, gd_of (i := 1047) (by decide +kernel) rfl⟩
theorem nf_10_29 : ∀ C T N, vwCl[10]? = some (C, T, N) → (T 29).2.2.2 = false := by intro C T N h; cases h; rfl
theorem fl_X10_164 : FL RX10 164 10 28 := ⟨RX10, TX10, 57, rfl, by decide, gd_of (i := 1046) (by decide +kernel) rfl⟩
theorem nf_10_28 : ∀ C T N, vwCl[10]? = some (C, T, N) → (T 28).2.2.2 = false := by intro C T N h; cases h; rfl
theorem fl_X10_167 : FL RX10 167 10 32 := ⟨RX10, TX10, 57, rfl, by decide, gd_of (i := 1050) (by decide +kernel) rfl⟩
theorem nf_10_32 : ∀ C T N, vwCl[10]? = some (C, T, N) → (T 32).2.2.2 = false := by intro C T N h; cases h; rfl
theorem mk_X10_newKind : Mk mX10_newKind 0 := ⟨gd_of (i := 91) (by decide +kernel) rfl, gd_of (i := 1241) (by decide +kernel) rfl, by decide +kernel⟩
theorem mv_X10_171 : MLV RX10 171 mX10_newKind 0 := ⟨gd_of (i := 1238) (by decide +kernel) rfl, gd_of (i := 1240) (by decide +kernel) rfl, gd_of (i := 45) (by decide +kernel) rfl, mk_X10_newKind⟩
theorem fl_X10_175 : FL RX10 175 10 30 := ⟨RX10, TX10, 57, rfl, by decide, gd_of (i := 1048) (by decide +kernel) rfl⟩
theorem nf_10_30 : ∀ C T N, vwCl[10]? = some (C, T, N) → (T 30).2.2.2 = false := by intro C T N h; cases h; rfl
theorem fl_X10_178 : FL RX10 178 10 31 := ⟨RX10, TX10, 57, rfl, by decide, gd_of (i := 1049) (by decide +kernel) rfl⟩
theorem nf_10_31 : ∀ C T N, vwCl[10]? = some (C, T, N) → (T 31).2.2.2 = false := by intro C T N h; cases h; rfl
theorem mk_X10_endSentence : Mk mX10_endSentence 0 := ⟨gd_of (i := 91) (by decide +kernel) rfl, gd_of (i := 1245) (by decide +kernel) rfl, by decide +kernel⟩
theorem mv_X10_181 : MLV RX10 181 mX10_endSentence 0 := ⟨gd_of (i := 1242) (by decide +kernel) rfl, gd_of (i := 1244) (by decide +kernel) rfl, gd_of (i := 46) (by decide +kernel) rfl, mk_X10_endSentence⟩
theorem mk_X10_addWord : Mk mX10_addWord 0 := ⟨gd_of (i := 91) (by decide +kernel) rfl, gd_of (i := 1237) (by decide +kernel) rfl, by decide +kernel⟩
theorem mv_X10_184 : MLV RX10 184 mX10_addWord 0 := ⟨gd_of (i := 1234) (by decide +kernel) rfl, gd_of (i := 1236) (by decide +kernel) rfl, gd_of (i := 44) (by decide +kernel) rfl, mk_X10_addWord⟩
theorem mk_X10_endParagraph : Mk mX10_endParagraph 0 := ⟨gd_of (i := 91) (by decide +kernel) rfl, gd_of (i := 1249) (by decide +kernel) rfl, by decide +kernel⟩
theorem mv_X10_187 : MLV RX10 187 mX10_endParagraph 0 := ⟨gd_of (i := 1246) (by decide +kernel) rfl, gd_of (i := 1248) (by decide +kernel) rfl, gd_of (i := 47) (by decide +kernel) rfl, mk_X10_endParagraph⟩
theorem fl_X10_190 : FL RX10 190 10 15 := ⟨RX10, TX10, 57, rfl, by decide, gd_of (i := 1033) (by decide +kernel) rfl⟩
theorem nf_10_15 : ∀ C T N, vwCl[10]? = some (C, T, N) → (T 15).2.2.2 = false := by intro C T N h; cases h; rfl
theorem kc_X10_193 : Cond.constant RX10 193 1048576 ∈ gd := gd_of (i := 1017) (by decide +kernel) rfl
theorem kc_X10_194 : Cond.constant RX10 194 (-100001) ∈ gd := gd_of (i := 1229) (by decide +kernel) rfl
theorem mk_X10_cutBook : Mk mX10_cutBook 0 := ⟨gd_of (i := 91) (by decide +kernel) rfl, gd_of (i := 1233) (by decide +kernel) rfl, by decide +kernel⟩
theorem mv_X10_195 : MLV RX10 195 mX10_cutBook 0 := ⟨gd_of (i := 1230) (by decide +kernel) rfl, gd_of (i := 1232) (by decide +kernel) rfl, gd_of (i := 43) (by decide +kernel) rfl, mk_X10_cutBook⟩
theorem mk_X10_isBook : Mk mX10_isBook 1 := ⟨gd_of (i := 91) (by decide +kernel) rfl, gd_of (i := 1256) (by decide +kernel) rfl, by decide +kernel⟩
theorem mv_X10_198 : MLS RX10 198 mX10_isBook 1 := ⟨gd_of (i := 1254) (by decide +kernel) rfl, gd_of (i := 1255) (by decide +kernel) rfl, mk_X10_isBook⟩
theorem mk_X10_kindOf : Mk mX10_kindOf 3 := ⟨gd_of (i := 91) (by decide +kernel) rfl, gd_of (i := 1268) (by decide +kernel) rfl, by decide +kernel⟩
theorem mv_X10_201 : MLV RX10 201 mX10_kindOf 3 := ⟨gd_of (i := 1265) (by decide +kernel) rfl, gd_of (i := 1267) (by decide +kernel) rfl, gd_of (i := 50) (by decide +kernel) rfl, mk_X10_kindOf⟩
theorem mk_X10_lengthOf : Mk mX10_lengthOf 2 := ⟨gd_of (i := 91) (by decide +kernel) rfl, gd_of (i := 1264) (by decide +kernel) rfl, by decide +kernel⟩
theorem mv_X10_205 : MLV RX10 205 mX10_lengthOf 2 := ⟨gd_of (i := 1261) (by decide +kernel) rfl, gd_of (i := 1263) (by decide +kernel) rfl, gd_of (i := 49) (by decide +kernel) rfl, mk_X10_lengthOf⟩
theorem mk_X10_lengthOfAll : Mk mX10_lengthOfAll 1 := ⟨gd_of (i := 91) (by decide +kernel) rfl, gd_of (i := 1260) (by decide +kernel) rfl, by decide +kernel⟩
theorem mv_X10_209 : MLV RX10 209 mX10_lengthOfAll 1 := ⟨gd_of (i := 1257) (by decide +kernel) rfl, gd_of (i := 1259) (by decide +kernel) rfl, gd_of (i := 48) (by decide +kernel) rfl, mk_X10_lengthOfAll⟩
theorem mk_X10_isSentence : Mk mX10_isSentence 2 := ⟨gd_of (i := 91) (by decide +kernel) rfl, gd_of (i := 1276) (by decide +kernel) rfl, by decide +kernel⟩
theorem mv_X10_212 : MLV RX10 212 mX10_isSentence 2 := ⟨gd_of (i := 1273) (by decide +kernel) rfl, gd_of (i := 1275) (by decide +kernel) rfl, gd_of (i := 51) (by decide +kernel) rfl, mk_X10_isSentence⟩
theorem mk_X10_isWord : Mk mX10_isWord 3 := ⟨gd_of (i := 91) (by decide +kernel) rfl, gd_of (i := 1284) (by decide +kernel) rfl, by decide +kernel⟩
theorem mv_X10_216 : MLV RX10 216 mX10_isWord 3 := ⟨gd_of (i := 1281) (by decide +kernel) rfl, gd_of (i := 1283) (by decide +kernel) rfl, gd_of (i := 52) (by decide +kernel) rfl, mk_X10_isWord⟩
theorem mk_X10_isKind : Mk mX10_isKind 2 := ⟨gd_of (i := 91) (by decide +kernel) rfl, gd_of (i := 1292) (by decide +kernel) rfl, by decide +kernel⟩
theorem mv_X10_220 : MLV RX10 220 mX10_isKind 2 := ⟨gd_of (i := 1289) (by decide +kernel) rfl, gd_of (i := 1291) (by decide +kernel) rfl, gd_of (i := 53) (by decide +kernel) rfl, mk_X10_isKind⟩
theorem fl_X10_223 : FL RX10 223 10 16 := ⟨RX10, TX10, 57, rfl, by decide, gd_of (i := 1034) (by decide +kernel) rfl⟩
theorem nf_10_16 : ∀ C T N, vwCl[10]? = some (C, T, N) → (T 16).2.2.2 = false := by intro C T N h; cases h; rfl
theorem kc_X10_226 : Cond.constant RX10 226 131072 ∈ gd := gd_of (i := 1329) (by decide +kernel) rfl
theorem mk_X10_partnerOf : Mk mX10_partnerOf 1 := ⟨gd_of (i := 91) (by decide +kernel) rfl, gd_of (i := 1328) (by decide +kernel) rfl, by decide +kernel⟩
theorem mv_X10_227 : MLV RX10 227 mX10_partnerOf 1 := ⟨gd_of (i := 1325) (by decide +kernel) rfl, gd_of (i := 1327) (by decide +kernel) rfl, gd_of (i := 57) (by decide +kernel) rfl, mk_X10_partnerOf⟩
theorem fl_X10_230 : FL RX10 230 10 35 := ⟨RX10, TX10, 57, rfl, by decide, gd_of (i := 1053) (by decide +kernel) rfl⟩
theorem nf_10_35 : ∀ C T N, vwCl[10]? = some (C, T, N) → (T 35).2.2.2 = false := by intro C T N h; cases h; rfl
theorem fl_X10_234 : FL RX10 234 10 36 := ⟨RX10, TX10, 57, rfl, by decide, gd_of (i := 1054) (by decide +kernel) rfl⟩
theorem nf_10_36 : ∀ C T N, vwCl[10]? = some (C, T, N) → (T 36).2.2.2 = false := by intro C T N h; cases h; rfl
theorem kc_X10_237 : Cond.constantLong RX10 237 20 ∈ gd := gd_of (i := 1364) (by decide +kernel) rfl
theorem mk_X10_hasWord : Mk mX10_hasWord 4 := ⟨gd_of (i := 91) (by decide +kernel) rfl, gd_of (i := 1372) (by decide +kernel) rfl, by decide +kernel⟩
theorem mv_X10_239 : MLV RX10 239 mX10_hasWord 4 := ⟨gd_of (i := 1369) (by decide +kernel) rfl, gd_of (i := 1371) (by decide +kernel) rfl, gd_of (i := 65) (by decide +kernel) rfl, mk_X10_hasWord⟩
theorem mk_X10_price0 : Mk mX10_price0 1 := ⟨gd_of (i := 91) (by decide +kernel) rfl, gd_of (i := 1359) (by decide +kernel) rfl, by decide +kernel⟩
theorem mv_X10_243 : MLS RX10 243 mX10_price0 1 := ⟨gd_of (i := 1357) (by decide +kernel) rfl, gd_of (i := 1358) (by decide +kernel) rfl, mk_X10_price0⟩
theorem mk_X10_square : Mk mX10_square 2 := ⟨gd_of (i := 91) (by decide +kernel) rfl, gd_of (i := 1363) (by decide +kernel) rfl, by decide +kernel⟩
theorem mv_X10_246 : MLV RX10 246 mX10_square 2 := ⟨gd_of (i := 1360) (by decide +kernel) rfl, gd_of (i := 1362) (by decide +kernel) rfl, gd_of (i := 63) (by decide +kernel) rfl, mk_X10_square⟩
theorem mk_X10_known : Mk mX10_known 4 := ⟨gd_of (i := 91) (by decide +kernel) rfl, gd_of (i := 1368) (by decide +kernel) rfl, by decide +kernel⟩
theorem mv_X10_250 : MLV RX10 250 mX10_known 4 := ⟨gd_of (i := 1365) (by decide +kernel) rfl, gd_of (i := 1367) (by decide +kernel) rfl, gd_of (i := 64) (by decide +kernel) rfl, mk_X10_known⟩
theorem mk_X10_leftOf : Mk mX10_leftOf 1 := ⟨gd_of (i := 91) (by decide +kernel) rfl, gd_of (i := 1337) (by decide +kernel) rfl, by decide +kernel⟩
theorem mv_X10_254 : MLS RX10 254 mX10_leftOf 1 := ⟨gd_of (i := 1335) (by decide +kernel) rfl, gd_of (i := 1336) (by decide +kernel) rfl, mk_X10_leftOf⟩
theorem mk_X10_rightOf : Mk mX10_rightOf 1 := ⟨gd_of (i := 91) (by decide +kernel) rfl, gd_of (i := 1340) (by decide +kernel) rfl, by decide +kernel⟩
theorem mv_X10_257 : MLS RX10 257 mX10_rightOf 1 := ⟨gd_of (i := 1338) (by decide +kernel) rfl, gd_of (i := 1339) (by decide +kernel) rfl, mk_X10_rightOf⟩
theorem mk_X10_upTo : Mk mX10_upTo 2 := ⟨gd_of (i := 91) (by decide +kernel) rfl, gd_of (i := 1352) (by decide +kernel) rfl, by decide +kernel⟩
theorem mv_X10_260 : MLV RX10 260 mX10_upTo 2 := ⟨gd_of (i := 1349) (by decide +kernel) rfl, gd_of (i := 1351) (by decide +kernel) rfl, gd_of (i := 61) (by decide +kernel) rfl, mk_X10_upTo⟩
theorem mk_X10_isFastKept : Mk mX10_isFastKept 3 := ⟨gd_of (i := 91) (by decide +kernel) rfl, gd_of (i := 1344) (by decide +kernel) rfl, by decide +kernel⟩
theorem mv_X10_263 : MLV RX10 263 mX10_isFastKept 3 := ⟨gd_of (i := 1341) (by decide +kernel) rfl, gd_of (i := 1343) (by decide +kernel) rfl, gd_of (i := 59) (by decide +kernel) rfl, mk_X10_isFastKept⟩
theorem mk_X10_isParagraphKept : Mk mX10_isParagraphKept 4 := ⟨gd_of (i := 91) (by decide +kernel) rfl, gd_of (i := 1348) (by decide +kernel) rfl, by decide +kernel⟩
theorem mv_X10_266 : MLV RX10 266 mX10_isParagraphKept 4 := ⟨gd_of (i := 1345) (by decide +kernel) rfl, gd_of (i := 1347) (by decide +kernel) rfl, gd_of (i := 60) (by decide +kernel) rfl, mk_X10_isParagraphKept⟩
theorem mk_X10_prepare : Mk mX10_prepare 0 := ⟨gd_of (i := 91) (by decide +kernel) rfl, gd_of (i := 1324) (by decide +kernel) rfl, by decide +kernel⟩
theorem mv_X10_269 : MLV RX10 269 mX10_prepare 0 := ⟨gd_of (i := 1321) (by decide +kernel) rfl, gd_of (i := 1323) (by decide +kernel) rfl, gd_of (i := 56) (by decide +kernel) rfl, mk_X10_prepare⟩
theorem kc_X10_272 : Cond.constant RX10 272 1000000000 ∈ gd := gd_of (i := 1330) (by decide +kernel) rfl
theorem mk_X10_may : Mk mX10_may 3 := ⟨gd_of (i := 91) (by decide +kernel) rfl, gd_of (i := 1334) (by decide +kernel) rfl, by decide +kernel⟩
theorem mv_X10_273 : MLV RX10 273 mX10_may 3 := ⟨gd_of (i := 1331) (by decide +kernel) rfl, gd_of (i := 1333) (by decide +kernel) rfl, gd_of (i := 58) (by decide +kernel) rfl, mk_X10_may⟩
theorem fl_X10_276 : FL RX10 276 10 39 := ⟨RX10, TX10, 57, rfl, by decide, gd_of (i := 1057) (by decide +kernel) rfl⟩
theorem nf_10_39 : ∀ C T N, vwCl[10]? = some (C, T, N) → (T 39).2.2.2 = false := by intro C T N h; cases h; rfl
theorem fl_X10_279 : FL RX10 279 10 40 := ⟨RX10, TX10, 57, rfl, by decide, gd_of (i := 1058) (by decide +kernel) rfl⟩
theorem nf_10_40 : ∀ C T N, vwCl[10]? = some (C, T, N) → (T 40).2.2.2 = false := by intro C T N h; cases h; rfl
theorem fl_X10_282 : FL RX10 282 10 41 := ⟨RX10, TX10, 57, rfl, by decide, gd_of (i := 1059) (by decide +kernel) rfl⟩
theorem nf_10_41 : ∀ C T N, vwCl[10]? = some (C, T, N) → (T 41).2.2.2 = false := by intro C T N h; cases h; rfl
theorem mk_X10_priceOf : Mk mX10_priceOf 3 := ⟨gd_of (i := 91) (by decide +kernel) rfl, gd_of (i := 1356) (by decide +kernel) rfl, by decide +kernel⟩
theorem mv_X10_285 : MLV RX10 285 mX10_priceOf 3 := ⟨gd_of (i := 1353) (by decide +kernel) rfl, gd_of (i := 1355) (by decide +kernel) rfl, gd_of (i := 62) (by decide +kernel) rfl, mk_X10_priceOf⟩
theorem mk_X10_work : Mk mX10_work 0 := ⟨gd_of (i := 91) (by decide +kernel) rfl, gd_of (i := 1320) (by decide +kernel) rfl, by decide +kernel⟩
theorem mv_X10_288 : MLV RX10 288 mX10_work 0 := ⟨gd_of (i := 1317) (by decide +kernel) rfl, gd_of (i := 1319) (by decide +kernel) rfl, gd_of (i := 55) (by decide +kernel) rfl, mk_X10_work⟩
theorem fl_X10_291 : FL RX10 291 10 45 := ⟨RX10, TX10, 57, rfl, by decide, gd_of (i := 1063) (by decide +kernel) rfl⟩
theorem nf_10_45 : ∀ C T N, vwCl[10]? = some (C, T, N) → (T 45).2.2.2 = false := by intro C T N h; cases h; rfl
theorem mk_X10_best : Mk mX10_best 0 := ⟨gd_of (i := 91) (by decide +kernel) rfl, gd_of (i := 1316) (by decide +kernel) rfl, by decide +kernel⟩
theorem mv_X10_294 : MLV RX10 294 mX10_best 0 := ⟨gd_of (i := 1313) (by decide +kernel) rfl, gd_of (i := 1315) (by decide +kernel) rfl, gd_of (i := 54) (by decide +kernel) rfl, mk_X10_best⟩
theorem mk_X10_isJoint : Mk mX10_isJoint 1 := ⟨gd_of (i := 91) (by decide +kernel) rfl, gd_of (i := 1380) (by decide +kernel) rfl, by decide +kernel⟩
theorem mv_X10_297 : MLV RX10 297 mX10_isJoint 1 := ⟨gd_of (i := 1377) (by decide +kernel) rfl, gd_of (i := 1379) (by decide +kernel) rfl, gd_of (i := 66) (by decide +kernel) rfl, mk_X10_isJoint⟩
theorem kc_X10_300 : Cond.constantLong RX10 300 6 ∈ gd := gd_of (i := 1385) (by decide +kernel) rfl
theorem kc_X10_302 : Cond.constantLong RX10 302 10000 ∈ gd := gd_of (i := 1398) (by decide +kernel) rfl
theorem kc_X10_304 : Cond.constantLong RX10 304 1048576 ∈ gd := gd_of (i := 1412) (by decide +kernel) rfl
theorem mk_X10_deal : Mk mX10_deal 3 := ⟨gd_of (i := 91) (by decide +kernel) rfl, gd_of (i := 1411) (by decide +kernel) rfl, by decide +kernel⟩
theorem mv_X10_306 : MLV RX10 306 mX10_deal 3 := ⟨gd_of (i := 1408) (by decide +kernel) rfl, gd_of (i := 1410) (by decide +kernel) rfl, gd_of (i := 68) (by decide +kernel) rfl, mk_X10_deal⟩
theorem mk_X10_tie : Mk mX10_tie 1 := ⟨gd_of (i := 91) (by decide +kernel) rfl, gd_of (i := 1416) (by decide +kernel) rfl, by decide +kernel⟩
theorem mv_X10_310 : MLV RX10 310 mX10_tie 1 := ⟨gd_of (i := 1413) (by decide +kernel) rfl, gd_of (i := 1415) (by decide +kernel) rfl, gd_of (i := 69) (by decide +kernel) rfl, mk_X10_tie⟩
theorem kc_X10_314 : Cond.constantLong RX10 314 10 ∈ gd := gd_of (i := 1403) (by decide +kernel) rfl
theorem mk_X10_round : Mk mX10_round 0 := ⟨gd_of (i := 91) (by decide +kernel) rfl, gd_of (i := 1407) (by decide +kernel) rfl, by decide +kernel⟩
theorem mv_X10_316 : MLV RX10 316 mX10_round 0 := ⟨gd_of (i := 1404) (by decide +kernel) rfl, gd_of (i := 1406) (by decide +kernel) rfl, gd_of (i := 67) (by decide +kernel) rfl, mk_X10_round⟩
theorem fl_X10_319 : FL RX10 319 10 48 := ⟨RX10, TX10, 57, rfl, by decide, gd_of (i := 1066) (by decide +kernel) rfl⟩
theorem nf_10_48 : ∀ C T N, vwCl[10]? = some (C, T, N) → (T 48).2.2.2 = false := by intro C T N h; cases h; rfl
theorem fl_X10_322 : FL RX10 322 10 50 := ⟨RX10, TX10, 57, rfl, by decide, gd_of (i := 1068) (by decide +kernel) rfl⟩
theorem nf_10_50 : ∀ C T N, vwCl[10]? = some (C, T, N) → (T 50).2.2.2 = false := by intro C T N h; cases h; rfl
theorem mk_X10_size : Mk mX10_size 1 := ⟨gd_of (i := 91) (by decide +kernel) rfl, gd_of (i := 1453) (by decide +kernel) rfl, by decide +kernel⟩
theorem mv_X10_325 : MLS RX10 325 mX10_size 1 := ⟨gd_of (i := 1451) (by decide +kernel) rfl, gd_of (i := 1452) (by decide +kernel) rfl, mk_X10_size⟩
theorem mk_X10_isBoth : Mk mX10_isBoth 2 := ⟨gd_of (i := 91) (by decide +kernel) rfl, gd_of (i := 1465) (by decide +kernel) rfl, by decide +kernel⟩
theorem mv_X10_328 : MLV RX10 328 mX10_isBoth 2 := ⟨gd_of (i := 1462) (by decide +kernel) rfl, gd_of (i := 1464) (by decide +kernel) rfl, gd_of (i := 74) (by decide +kernel) rfl, mk_X10_isBoth⟩
theorem mk_X10_hasNear : Mk mX10_hasNear 2 := ⟨gd_of (i := 91) (by decide +kernel) rfl, gd_of (i := 1469) (by decide +kernel) rfl, by decide +kernel⟩
theorem mv_X10_331 : MLV RX10 331 mX10_hasNear 2 := ⟨gd_of (i := 1466) (by decide +kernel) rfl, gd_of (i := 1468) (by decide +kernel) rfl, gd_of (i := 75) (by decide +kernel) rfl, mk_X10_hasNear⟩
theorem mk_X10_isFree : Mk mX10_isFree 2 := ⟨gd_of (i := 91) (by decide +kernel) rfl, gd_of (i := 1473) (by decide +kernel) rfl, by decide +kernel⟩
theorem mv_X10_334 : MLV RX10 334 mX10_isFree 2 := ⟨gd_of (i := 1470) (by decide +kernel) rfl, gd_of (i := 1472) (by decide +kernel) rfl, gd_of (i := 76) (by decide +kernel) rfl, mk_X10_isFree⟩
theorem kc_X10_337 : Cond.constantLong RX10 337 3 ∈ gd := gd_of (i := 1445) (by decide +kernel) rfl
theorem kc_X10_339 : Cond.constantLong RX10 339 5 ∈ gd := gd_of (i := 1446) (by decide +kernel) rfl
theorem mk_X10_gather : Mk mX10_gather 1 := ⟨gd_of (i := 91) (by decide +kernel) rfl, gd_of (i := 1440) (by decide +kernel) rfl, by decide +kernel⟩
theorem mv_X10_341 : MLV RX10 341 mX10_gather 1 := ⟨gd_of (i := 1437) (by decide +kernel) rfl, gd_of (i := 1439) (by decide +kernel) rfl, gd_of (i := 70) (by decide +kernel) rfl, mk_X10_gather⟩
theorem mk_X10_isLinkable : Mk mX10_isLinkable 1 := ⟨gd_of (i := 91) (by decide +kernel) rfl, gd_of (i := 1444) (by decide +kernel) rfl, by decide +kernel⟩
theorem mv_X10_344 : MLV RX10 344 mX10_isLinkable 1 := ⟨gd_of (i := 1441) (by decide +kernel) rfl, gd_of (i := 1443) (by decide +kernel) rfl, gd_of (i := 71) (by decide +kernel) rfl, mk_X10_isLinkable⟩
theorem mk_X10_linkAll : Mk mX10_linkAll 0 := ⟨gd_of (i := 91) (by decide +kernel) rfl, gd_of (i := 1450) (by decide +kernel) rfl, by decide +kernel⟩
theorem mv_X10_347 : MLV RX10 347 mX10_linkAll 0 := ⟨gd_of (i := 1447) (by decide +kernel) rfl, gd_of (i := 1449) (by decide +kernel) rfl, gd_of (i := 72) (by decide +kernel) rfl, mk_X10_linkAll⟩
theorem mk_X10_grow : Mk mX10_grow 0 := ⟨gd_of (i := 91) (by decide +kernel) rfl, gd_of (i := 1461) (by decide +kernel) rfl, by decide +kernel⟩
theorem mv_X10_350 : MLV RX10 350 mX10_grow 0 := ⟨gd_of (i := 1458) (by decide +kernel) rfl, gd_of (i := 1460) (by decide +kernel) rfl, gd_of (i := 73) (by decide +kernel) rfl, mk_X10_grow⟩
theorem mk_X10_goTogether : Mk mX10_goTogether 4 := ⟨gd_of (i := 91) (by decide +kernel) rfl, gd_of (i := 1481) (by decide +kernel) rfl, by decide +kernel⟩
theorem mv_X10_353 : MLV RX10 353 mX10_goTogether 4 := ⟨gd_of (i := 1478) (by decide +kernel) rfl, gd_of (i := 1480) (by decide +kernel) rfl, gd_of (i := 77) (by decide +kernel) rfl, mk_X10_goTogether⟩
theorem kc_X10_356 : Cond.constantLong RX10 356 7 ∈ gd := gd_of (i := 1489) (by decide +kernel) rfl
theorem mk_X10_isSlot : Mk mX10_isSlot 1 := ⟨gd_of (i := 91) (by decide +kernel) rfl, gd_of (i := 1488) (by decide +kernel) rfl, by decide +kernel⟩
theorem mv_X10_358 : MLS RX10 358 mX10_isSlot 1 := ⟨gd_of (i := 1486) (by decide +kernel) rfl, gd_of (i := 1487) (by decide +kernel) rfl, mk_X10_isSlot⟩
theorem fl_X10_361 : FL RX10 361 10 19 := ⟨RX10, TX10, 57, rfl, by decide, gd_of (i := 1037) (by decide +kernel) rfl⟩
theorem nf_10_19 : ∀ C T N, vwCl[10]? = some (C, T, N) → (T 19).2.2.2 = false := by intro C T N h; cases h; rfl
theorem mk_X10_asks : Mk mX10_asks 2 := ⟨gd_of (i := 91) (by decide +kernel) rfl, gd_of (i := 1513) (by decide +kernel) rfl, by decide +kernel⟩
theorem mv_X10_364 : MLV RX10 364 mX10_asks 2 := ⟨gd_of (i := 1510) (by decide +kernel) rfl, gd_of (i := 1512) (by decide +kernel) rfl, gd_of (i := 78) (by decide +kernel) rfl, mk_X10_asks⟩
theorem mk_X9_init : Mk mX9_init 0 := ⟨gd_of (i := 80) (by decide +kernel) rfl, gd_of (i := 97) (by decide +kernel) rfl, by decide +kernel⟩
theorem mv_L_9 : MLI RL 9 mX9_init 0 := ⟨gd_of (i := 95) (by decide +kernel) rfl, gd_of (i := 96) (by decide +kernel) rfl, rfl, rfl, mk_X9_init⟩
theorem mk_X10_init : Mk mX10_init 0 := ⟨gd_of (i := 91) (by decide +kernel) rfl, gd_of (i := 1011) (by decide +kernel) rfl, by decide +kernel⟩
theorem mv_L_12 : MLI RL 12 mX10_init 0 := ⟨gd_of (i := 1009) (by decide +kernel) rfl, gd_of (i := 1010) (by decide +kernel) rfl, rfl, rfl, mk_X10_init⟩
theorem mk_X9_feed : Mk mX9_feed 5 := ⟨gd_of (i := 80) (by decide +kernel) rfl, gd_of (i := 443) (by decide +kernel) rfl, by decide +kernel⟩
theorem mv_L_13 : MLV RL 13 mX9_feed 5 := ⟨gd_of (i := 440) (by decide +kernel) rfl, gd_of (i := 441) (by decide +kernel) rfl, gd_of (i := 442) (by decide +kernel) rfl, mk_X9_feed⟩
theorem mk_X10_feed : Mk mX10_feed 5 := ⟨gd_of (i := 91) (by decide +kernel) rfl, gd_of (i := 1194) (by decide +kernel) rfl, by decide +kernel⟩
theorem mv_L_17 : MLV RL 17 mX10_feed 5 := ⟨gd_of (i := 1191) (by decide +kernel) rfl, gd_of (i := 1192) (by decide +kernel) rfl, gd_of (i := 1193) (by decide +kernel) rfl, mk_X10_feed⟩
theorem mk_X9_cut : Mk mX9_cut 1 := ⟨gd_of (i := 80) (by decide +kernel) rfl, gd_of (i := 452) (by decide +kernel) rfl, by decide +kernel⟩
theorem mv_L_18 : MLV RL 18 mX9_cut 1 := ⟨gd_of (i := 449) (by decide +kernel) rfl, gd_of (i := 450) (by decide +kernel) rfl, gd_of (i := 451) (by decide +kernel) rfl, mk_X9_cut⟩
theorem mk_X10_cut : Mk mX10_cut 1 := ⟨gd_of (i := 91) (by decide +kernel) rfl, gd_of (i := 1199) (by decide +kernel) rfl, by decide +kernel⟩
theorem mv_L_22 : MLV RL 22 mX10_cut 1 := ⟨gd_of (i := 1196) (by decide +kernel) rfl, gd_of (i := 1197) (by decide +kernel) rfl, gd_of (i := 1198) (by decide +kernel) rfl, mk_X10_cut⟩
theorem mk_X9_abbreviate : Mk mX9_abbreviate 0 := ⟨gd_of (i := 80) (by decide +kernel) rfl, gd_of (i := 457) (by decide +kernel) rfl, by decide +kernel⟩
theorem mv_L_23 : MLV RL 23 mX9_abbreviate 0 := ⟨gd_of (i := 454) (by decide +kernel) rfl, gd_of (i := 455) (by decide +kernel) rfl, gd_of (i := 456) (by decide +kernel) rfl, mk_X9_abbreviate⟩
theorem mk_X10_abbreviate : Mk mX10_abbreviate 0 := ⟨gd_of (i := 91) (by decide +kernel) rfl, gd_of (i := 1207) (by decide +kernel) rfl, by decide +kernel⟩
