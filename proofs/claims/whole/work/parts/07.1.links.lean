theorem oi_1 : Cond.instanceMethod objectInit ∈ gd := gd_of (i := 99) (by decide +kernel) rfl
theorem oi_2 : Cond.code objectInit ⟨#[0xb1]⟩ 1 none ∈ gd := gd_of (i := 100) (by decide +kernel) rfl
theorem wi_9 : Cond.instantiable RX9 12 ∈ gd := gd_of (i := 94) (by decide +kernel) rfl
theorem wi_6 : Cond.instantiable RX6 2 ∈ gd := gd_of (i := 102) (by decide +kernel) rfl
theorem ac_2 : Cond.arrayClass (kty 2) ∈ gd := gd_of (i := 116) (by decide +kernel) rfl
theorem wi_8 : Cond.instantiable RX8 4 ∈ gd := gd_of (i := 118) (by decide +kernel) rfl
theorem ov_7 : Cond.arrayOver (.array .byte) ∈ ovW := List.mem_filter.mpr ⟨List.mem_of_getElem? (i := 124) (by decide +kernel), rfl⟩
theorem ac_1 : Cond.arrayClass (kty 1) ∈ gd := gd_of (i := 141) (by decide +kernel) rfl
theorem wi_1 : Cond.instantiable RX1 4 ∈ gd := gd_of (i := 143) (by decide +kernel) rfl
theorem ov_9 : Cond.arrayOver (.object RX0) ∈ ovW := List.mem_filter.mpr ⟨List.mem_of_getElem? (i := 164) (by decide +kernel), rfl⟩
theorem wi_0 : Cond.instantiable RX0 8 ∈ gd := gd_of (i := 165) (by decide +kernel) rfl
theorem ov_6 : Cond.arrayOver (.array .int) ∈ ovW := List.mem_filter.mpr ⟨List.mem_of_getElem? (i := 173) (by decide +kernel), rfl⟩
theorem wi_3 : Cond.instantiable RX3 3 ∈ gd := gd_of (i := 216) (by decide +kernel) rfl
theorem wi_4 : Cond.instantiable RX4 5 ∈ gd := gd_of (i := 236) (by decide +kernel) rfl
theorem ov_8 : Cond.arrayOver (.array .long) ∈ ovW := List.mem_filter.mpr ⟨List.mem_of_getElem? (i := 243) (by decide +kernel), rfl⟩
theorem ac_5 : Cond.arrayClass (kty 5) ∈ gd := gd_of (i := 264) (by decide +kernel) rfl
theorem wi_7 : Cond.instantiable RX7 17 ∈ gd := gd_of (i := 266) (by decide +kernel) rfl
theorem wi_2 : Cond.instantiable RX2 11 ∈ gd := gd_of (i := 334) (by decide +kernel) rfl
theorem ov_10 : Cond.arrayOver (.object RX5) ∈ ovW := List.mem_filter.mpr ⟨List.mem_of_getElem? (i := 376) (by decide +kernel), rfl⟩
theorem wi_5 : Cond.instantiable RX5 5 ∈ gd := gd_of (i := 377) (by decide +kernel) rfl
theorem wi_10 : Cond.instantiable RX10 57 ∈ gd := gd_of (i := 1008) (by decide +kernel) rfl
theorem ac_3 : Cond.arrayClass (kty 3) ∈ gd := gd_of (i := 1190) (by decide +kernel) rfl
theorem wn_0 : Cond.initialized RX0 ∈ gd := gd_of (i := 84) (by decide +kernel) rfl
theorem ok_0 : ∀ j, j < 8 → okT (ftys 0 j) = true := by decide
theorem wn_1 : Cond.initialized RX1 ∈ gd := gd_of (i := 83) (by decide +kernel) rfl
theorem ok_1 : ∀ j, j < 4 → okT (ftys 1 j) = true := by decide
theorem wn_2 : Cond.initialized RX2 ∈ gd := gd_of (i := 89) (by decide +kernel) rfl
theorem ok_2 : ∀ j, j < 11 → okT (ftys 2 j) = true := by decide
theorem wn_3 : Cond.initialized RX3 ∈ gd := gd_of (i := 85) (by decide +kernel) rfl
theorem ok_3 : ∀ j, j < 3 → okT (ftys 3 j) = true := by decide
theorem wn_4 : Cond.initialized RX4 ∈ gd := gd_of (i := 87) (by decide +kernel) rfl
theorem ok_4 : ∀ j, j < 5 → okT (ftys 4 j) = true := by decide
theorem wn_5 : Cond.initialized RX5 ∈ gd := gd_of (i := 90) (by decide +kernel) rfl
theorem ok_5 : ∀ j, j < 5 → okT (ftys 5 j) = true := by decide
theorem wn_6 : Cond.initialized RX6 ∈ gd := gd_of (i := 81) (by decide +kernel) rfl
theorem ok_6 : ∀ j, j < 2 → okT (ftys 6 j) = true := by decide
theorem wn_7 : Cond.initialized RX7 ∈ gd := gd_of (i := 88) (by decide +kernel) rfl
theorem ok_7 : ∀ j, j < 17 → okT (ftys 7 j) = true := by decide
theorem wn_8 : Cond.initialized RX8 ∈ gd := gd_of (i := 82) (by decide +kernel) rfl
theorem ok_8 : ∀ j, j < 4 → okT (ftys 8 j) = true := by decide
theorem wn_9 : Cond.initialized RX9 ∈ gd := gd_of (i := 80) (by decide +kernel) rfl
theorem ok_9 : ∀ j, j < 12 → okT (ftys 9 j) = true := by decide
theorem wn_10 : Cond.initialized RX10 ∈ gd := gd_of (i := 91) (by decide +kernel) rfl
theorem ok_10 : ∀ j, j < 57 → okT (ftys 10 j) = true := by decide
theorem cn_X0_9 : Cond.classLink RX0 9 RX8 ∈ gd := gd_of (i := 170) (by decide +kernel) rfl
theorem cn_X0_20 : Cond.classLink RX0 20 "[[I" ∈ gd := gd_of (i := 172) (by decide +kernel) rfl
theorem cn_X4_9 : Cond.classLink RX4 9 "[[I" ∈ gd := gd_of (i := 241) (by decide +kernel) rfl
theorem cn_X4_16 : Cond.classLink RX4 16 "[[J" ∈ gd := gd_of (i := 242) (by decide +kernel) rfl
theorem cn_X8_15 : Cond.classLink RX8 15 "[[B" ∈ gd := gd_of (i := 123) (by decide +kernel) rfl
theorem cn_X9_9 : Cond.classLink RX9 9 RX6 ∈ gd := gd_of (i := 101) (by decide +kernel) rfl
theorem cn_X9_16 : Cond.classLink RX9 16 RX8 ∈ gd := gd_of (i := 117) (by decide +kernel) rfl
theorem cn_X9_25 : Cond.classLink RX9 25 RX1 ∈ gd := gd_of (i := 142) (by decide +kernel) rfl
theorem cn_X9_34 : Cond.classLink RX9 34 RX0 ∈ gd := gd_of (i := 163) (by decide +kernel) rfl
theorem cn_X9_45 : Cond.classLink RX9 45 RX3 ∈ gd := gd_of (i := 215) (by decide +kernel) rfl
theorem cn_X9_52 : Cond.classLink RX9 52 RX4 ∈ gd := gd_of (i := 235) (by decide +kernel) rfl
theorem cn_X9_59 : Cond.classLink RX9 59 RX7 ∈ gd := gd_of (i := 265) (by decide +kernel) rfl
theorem cn_X9_68 : Cond.classLink RX9 68 RX2 ∈ gd := gd_of (i := 333) (by decide +kernel) rfl
theorem cn_X9_77 : Cond.classLink RX9 77 RX5 ∈ gd := gd_of (i := 375) (by decide +kernel) rfl
theorem cn_L_7 : Cond.classLink RL 7 RX9 ∈ gd := gd_of (i := 93) (by decide +kernel) rfl
theorem cn_L_10 : Cond.classLink RL 10 RX10 ∈ gd := gd_of (i := 1007) (by decide +kernel) rfl
