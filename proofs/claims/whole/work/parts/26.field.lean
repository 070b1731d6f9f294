theorem df_X6 : ∀ k, k < 10 → defaultValue (tyX6 k) = if rf 6 k = true then .null else .int 0 := by decide +kernel
theorem cl_X11_9 : CLk RX11 9 yX6_init cX6_init 1 none 0 := ⟨Or.inr ⟨"GrassField", (tb1 (List.mem_of_getElem? (i := 40) rfl))⟩, (tb1 (List.mem_of_getElem? (i := 42) rfl)), (tb1 (List.mem_of_getElem? (i := 2) rfl)), by decide +kernel, by decide +kernel, by decide +kernel⟩
theorem im_X6_init : Cond.instanceMethod yX6_init ∈ lw_tbl := (tb1 (List.mem_of_getElem? (i := 41) rfl))
theorem iw_X11 : ∀ w ∈ u_ws RX11 TX11 6, w ∈ lw_tbl := (show ∀ w ∈ ([Cond.laysFinal "GrassField" "GrassField" "reader" "LGrassField$Reader;", Cond.laysFinal "GrassField" "GrassField" "state" "LGrassField$State;", Cond.laysFinal "GrassField" "GrassField" "fight" "LGrassField$Fight;", Cond.laysFinal "GrassField" "GrassField" "study" "LGrassField$Study;", Cond.lays "GrassField" "GrassField" "ways" "LGrassField$Ways;", Cond.lays "GrassField" "GrassField" "kept" "LGrassField$State;"] : List Cond), w ∈ lw_tbl from List.forall_mem_cons.mpr ⟨(tb2 (List.mem_of_getElem? (i := 144) rfl)), List.forall_mem_cons.mpr ⟨(tb2 (List.mem_of_getElem? (i := 146) rfl)), List.forall_mem_cons.mpr ⟨(tb2 (List.mem_of_getElem? (i := 148) rfl)), List.forall_mem_cons.mpr ⟨(tb2 (List.mem_of_getElem? (i := 150) rfl)), List.forall_mem_cons.mpr ⟨(tb2 (List.mem_of_getElem? (i := 152) rfl)), List.forall_mem_cons.mpr ⟨(tb2 (List.mem_of_getElem? (i := 154) rfl)), fun _ h => nomatch h⟩⟩⟩⟩⟩⟩)
theorem fl_X11_10 : FLk RX11 10 11 0 (RX11, TX11, 6) := ⟨rfl, by decide, iw_X11, Or.inl (tb2 (List.mem_of_getElem? (i := 138) rfl))⟩
theorem fp_X11_10 : FPk RX11 10 11 0 (RX11, TX11, 6) tyX11 2 := ⟨fl_X11_10, nmX11, tyX11_ok, Or.inr (Or.inr ⟨rfl, Or.inl ⟨_, rfl⟩, rfl⟩)⟩
theorem df_X7 : ∀ k, k < 13 → defaultValue (tyX7 k) = if rf 7 k = true then .null else .int 0 := by decide +kernel
theorem cl_X11_18 : CLk RX11 18 yX7_init cX7_init 1 none 0 := ⟨Or.inr ⟨"GrassField", (tb1 (List.mem_of_getElem? (i := 80) rfl))⟩, (tb1 (List.mem_of_getElem? (i := 82) rfl)), (tb1 (List.mem_of_getElem? (i := 3) rfl)), by decide +kernel, by decide +kernel, by decide +kernel⟩
theorem im_X7_init : Cond.instanceMethod yX7_init ∈ lw_tbl := (tb1 (List.mem_of_getElem? (i := 81) rfl))
theorem fl_X11_19 : FLk RX11 19 11 1 (RX11, TX11, 6) := ⟨rfl, by decide, iw_X11, Or.inl (tb2 (List.mem_of_getElem? (i := 139) rfl))⟩
theorem fp_X11_19 : FPk RX11 19 11 1 (RX11, TX11, 6) tyX11 2 := ⟨fl_X11_19, nmX11, tyX11_ok, Or.inr (Or.inr ⟨rfl, Or.inl ⟨_, rfl⟩, rfl⟩)⟩
theorem df_X0 : ∀ k, k < 2 → defaultValue (tyX0 k) = if rf 0 k = true then .null else .int 0 := by decide +kernel
theorem cl_X11_25 : CLk RX11 25 yX0_init cX0_init 2 none 1 := ⟨Or.inl (tb2 (List.mem_of_getElem? (i := 92) rfl)), (tb2 (List.mem_of_getElem? (i := 94) rfl)), (tb1 (List.mem_of_getElem? (i := 9) rfl)), by decide +kernel, by decide +kernel, by decide +kernel⟩
theorem im_X0_init : Cond.instanceMethod yX0_init ∈ lw_tbl := (tb2 (List.mem_of_getElem? (i := 93) rfl))
theorem fl_X11_28 : FLk RX11 28 11 2 (RX11, TX11, 6) := ⟨rfl, by decide, iw_X11, Or.inl (tb2 (List.mem_of_getElem? (i := 140) rfl))⟩
theorem fp_X11_28 : FPk RX11 28 11 2 (RX11, TX11, 6) tyX11 2 := ⟨fl_X11_28, nmX11, tyX11_ok, Or.inr (Or.inr ⟨rfl, Or.inl ⟨_, rfl⟩, rfl⟩)⟩
theorem df_X8 : ∀ k, k < 9 → defaultValue (tyX8 k) = if rf 8 k = true then .null else .int 0 := by decide +kernel
theorem cl_X11_34 : CLk RX11 34 yX8_init cX8_init 2 none 1 := ⟨Or.inl (tb2 (List.mem_of_getElem? (i := 105) rfl)), (tb2 (List.mem_of_getElem? (i := 107) rfl)), (tb1 (List.mem_of_getElem? (i := 10) rfl)), by decide +kernel, by decide +kernel, by decide +kernel⟩
theorem im_X8_init : Cond.instanceMethod yX8_init ∈ lw_tbl := (tb2 (List.mem_of_getElem? (i := 106) rfl))
theorem fl_X11_35 : FLk RX11 35 11 3 (RX11, TX11, 6) := ⟨rfl, by decide, iw_X11, Or.inl (tb2 (List.mem_of_getElem? (i := 141) rfl))⟩
theorem fp_X11_35 : FPk RX11 35 11 3 (RX11, TX11, 6) tyX11 2 := ⟨fl_X11_35, nmX11, tyX11_ok, Or.inr (Or.inr ⟨rfl, Or.inl ⟨_, rfl⟩, rfl⟩)⟩
theorem th_X11_377 : (∀ w ∈ vx_atS RX11 379 "java/lang/IndexOutOfBoundsException" ["java/lang/RuntimeException", "java/lang/Exception"], vx_ot w = true) ∧ ∀ w ∈ vx_atS RX11 379 "java/lang/IndexOutOfBoundsException" ["java/lang/RuntimeException", "java/lang/Exception"], w ∈ lw_tbl ∧ okW w = true := by decide +kernel
theorem fl_X11_178 : FLk RX11 178 7 3 (RX7, TX7, 13) := ⟨rfl, by decide, iw_X7, Or.inr ⟨"GrassField", (tb2 (List.mem_of_getElem? (i := 38) rfl))⟩⟩
theorem fl_X11_182 : FLk RX11 182 1 0 (RX1, TX1, 10) := ⟨rfl, by decide, iw_X1, Or.inr ⟨"GrassField", (tb1 (List.mem_of_getElem? (i := 174) rfl))⟩⟩
theorem cl_X11_119 : CLk RX11 119 yX11_needNumber cX11_needNumber 2 none 2 := ⟨Or.inl (tb3 (List.mem_of_getElem? (i := 98) rfl)), (tb3 (List.mem_of_getElem? (i := 100) rfl)), (tb1 (List.mem_of_getElem? (i := 1) rfl)), by decide +kernel, by decide +kernel, by decide +kernel⟩
theorem st_X11_needNumber : Cond.static yX11_needNumber ∈ lw_tbl := (tb3 (List.mem_of_getElem? (i := 99) rfl))
theorem lk_X11_119 : Cond.methodLink RX11 119 yX11_needNumber ∈ lw_tbl := (tb3 (List.mem_of_getElem? (i := 98) rfl))
theorem fl_X11_189 : FLk RX11 189 1 1 (RX1, TX1, 10) := ⟨rfl, by decide, iw_X1, Or.inr ⟨"GrassField", (tb1 (List.mem_of_getElem? (i := 178) rfl))⟩⟩
theorem fl_X11_192 : FLk RX11 192 1 2 (RX1, TX1, 10) := ⟨rfl, by decide, iw_X1, Or.inr ⟨"GrassField", (tb1 (List.mem_of_getElem? (i := 182) rfl))⟩⟩
theorem fl_X11_193 : FLk RX11 193 1 3 (RX1, TX1, 10) := ⟨rfl, by decide, iw_X1, Or.inr ⟨"GrassField", (tb1 (List.mem_of_getElem? (i := 184) rfl))⟩⟩
theorem fl_X11_196 : FLk RX11 196 1 4 (RX1, TX1, 10) := ⟨rfl, by decide, iw_X1, Or.inr ⟨"GrassField", (tb1 (List.mem_of_getElem? (i := 188) rfl))⟩⟩
theorem cl_X11_199 : CLk RX11 199 yX1_nearRows cX1_nearRows 1 (some .int) 0 := ⟨Or.inl (tb5 (List.mem_of_getElem? (i := 165) rfl)), (tb2 (List.mem_of_getElem? (i := 192) rfl)), (tb1 (List.mem_of_getElem? (i := 7) rfl)), by decide +kernel, by decide +kernel, by decide +kernel⟩
theorem cl_X11_203 : CLk RX11 203 yX1_isSeen cX1_isSeen 3 (some .boolean) 2 := ⟨Or.inl (tb5 (List.mem_of_getElem? (i := 166) rfl)), (tb2 (List.mem_of_getElem? (i := 205) rfl)), (tb1 (List.mem_of_getElem? (i := 7) rfl)), by decide +kernel, by decide +kernel, by decide +kernel⟩
theorem cl_X11_206 : CLk RX11 206 yX7_gunsOf cX7_gunsOf 2 (some .int) 1 := ⟨Or.inl (tb5 (List.mem_of_getElem? (i := 167) rfl)), (tb5 (List.mem_of_getElem? (i := 170) rfl)), (tb1 (List.mem_of_getElem? (i := 3) rfl)), by decide +kernel, by decide +kernel, by decide +kernel⟩
theorem fl_X11_209 : FLk RX11 209 1 5 (RX1, TX1, 10) := ⟨rfl, by decide, iw_X1, Or.inr ⟨"GrassField", (tb1 (List.mem_of_getElem? (i := 191) rfl))⟩⟩
theorem fl_X11_212 : FLk RX11 212 1 6 (RX1, TX1, 10) := ⟨rfl, by decide, iw_X1, Or.inr ⟨"GrassField", (tb1 (List.mem_of_getElem? (i := 194) rfl))⟩⟩
theorem thn_X11_165 : (∀ w ∈ nsAt RX11 165, vx_ot w = true) ∧ ∀ w ∈ nsAt RX11 165, w ∈ lw_tbl ∧ okW w = true := by decide +kernel
theorem cl_X11_328 : CLk RX11 328 yX8_mostApart cX8_mostApart 4 (some .int) 0 := ⟨Or.inl (tb2 (List.mem_of_getElem? (i := 213) rfl)), (tb2 (List.mem_of_getElem? (i := 216) rfl)), (tb1 (List.mem_of_getElem? (i := 10) rfl)), by decide +kernel, by decide +kernel, by decide +kernel⟩
theorem im_X8_mostApart : Cond.instanceMethod yX8_mostApart ∈ lw_tbl := (tb2 (List.mem_of_getElem? (i := 214) rfl))
theorem se_X8_mostApart : Cond.selects RX8 yX8_mostApart yX8_mostApart ∈ lw_tbl := (tb2 (List.mem_of_getElem? (i := 215) rfl))
theorem fl_X11_363 : FLk RX11 363 11 5 (RX11, TX11, 6) := ⟨rfl, by decide, iw_X11, Or.inl (tb2 (List.mem_of_getElem? (i := 143) rfl))⟩
theorem cl_X11_366 : CLk RX11 366 yX7_become cX7_become 3 none 1 := ⟨Or.inl (tb3 (List.mem_of_getElem? (i := 34) rfl)), (tb3 (List.mem_of_getElem? (i := 37) rfl)), (tb1 (List.mem_of_getElem? (i := 3) rfl)), by decide +kernel, by decide +kernel, by decide +kernel⟩
theorem im_X7_become : Cond.instanceMethod yX7_become ∈ lw_tbl := (tb3 (List.mem_of_getElem? (i := 35) rfl))
theorem se_X7_become : Cond.selects RX7 yX7_become yX7_become ∈ lw_tbl := (tb3 (List.mem_of_getElem? (i := 36) rfl))
theorem cl_X11_54 : CLk RX11 54 yX11_isWithin cX11_isWithin 3 (some .boolean) 3 := ⟨Or.inl (tb3 (List.mem_of_getElem? (i := 170) rfl)), (tb3 (List.mem_of_getElem? (i := 172) rfl)), (tb1 (List.mem_of_getElem? (i := 1) rfl)), by decide +kernel, by decide +kernel, by decide +kernel⟩
theorem cl_X11_80 : CLk RX11 80 yX11_isYear cX11_isYear 1 (some .boolean) 1 := ⟨Or.inl (tb3 (List.mem_of_getElem? (i := 228) rfl)), (tb3 (List.mem_of_getElem? (i := 230) rfl)), (tb1 (List.mem_of_getElem? (i := 1) rfl)), by decide +kernel, by decide +kernel, by decide +kernel⟩
theorem st_X11_isYear : Cond.static yX11_isYear ∈ lw_tbl := (tb3 (List.mem_of_getElem? (i := 229) rfl))
theorem fl_X11_304 : FLk RX11 304 7 4 (RX7, TX7, 13) := ⟨rfl, by decide, iw_X7, Or.inr ⟨"GrassField", (tb2 (List.mem_of_getElem? (i := 41) rfl))⟩⟩
theorem fl_X11_312 : FLk RX11 312 9 5 (RX9, TX9, 9) := ⟨rfl, by decide, iw_X9, Or.inr ⟨"GrassField", (tb1 (List.mem_of_getElem? (i := 237) rfl))⟩⟩
theorem fl_X11_62 : FLk RX11 62 7 0 (RX7, TX7, 13) := ⟨rfl, by decide, iw_X7, Or.inr ⟨"GrassField", (tb2 (List.mem_of_getElem? (i := 26) rfl))⟩⟩
theorem cl_X11_321 : CLk RX11 321 yX9_isPossible cX9_isPossible 5 (some .boolean) 2 := ⟨Or.inl (tb6 (List.mem_of_getElem? (i := 232) rfl)), (tb2 (List.mem_of_getElem? (i := 224) rfl)), (tb1 (List.mem_of_getElem? (i := 8) rfl)), by decide +kernel, by decide +kernel, by decide +kernel⟩
theorem cl_X11_318 : CLk RX11 318 yX8_isBorneOut cX8_isBorneOut 6 (some .boolean) 1 := ⟨Or.inl (tb6 (List.mem_of_getElem? (i := 231) rfl)), (tb2 (List.mem_of_getElem? (i := 220) rfl)), (tb1 (List.mem_of_getElem? (i := 10) rfl)), by decide +kernel, by decide +kernel, by decide +kernel⟩
theorem fl_X11_84 : FLk RX11 84 7 1 (RX7, TX7, 13) := ⟨rfl, by decide, iw_X7, Or.inr ⟨"GrassField", (tb2 (List.mem_of_getElem? (i := 31) rfl))⟩⟩
theorem fl_X11_88 : FLk RX11 88 2 0 (RX2, TX2, 5) := ⟨rfl, by decide, iw_X2, Or.inr ⟨"GrassField", (tb1 (List.mem_of_getElem? (i := 104) rfl))⟩⟩
theorem fl_X11_122 : FLk RX11 122 7 2 (RX7, TX7, 13) := ⟨rfl, by decide, iw_X7, Or.inr ⟨"GrassField", (tb2 (List.mem_of_getElem? (i := 34) rfl))⟩⟩
theorem fl_X11_131 : FLk RX11 131 4 0 (RX4, TX4, 7) := ⟨rfl, by decide, iw_X4, Or.inr ⟨"GrassField", (tb1 (List.mem_of_getElem? (i := 132) rfl))⟩⟩
theorem cl_X11_369 : CLk RX11 369 yX4_livingCount cX4_livingCount 3 (some .int) 0 := ⟨Or.inl (tb3 (List.mem_of_getElem? (i := 73) rfl)), (tb3 (List.mem_of_getElem? (i := 76) rfl)), (tb1 (List.mem_of_getElem? (i := 6) rfl)), by decide +kernel, by decide +kernel, by decide +kernel⟩
theorem im_X4_livingCount : Cond.instanceMethod yX4_livingCount ∈ lw_tbl := (tb3 (List.mem_of_getElem? (i := 74) rfl))
theorem se_X4_livingCount : Cond.selects RX4 yX4_livingCount yX4_livingCount ∈ lw_tbl := (tb3 (List.mem_of_getElem? (i := 75) rfl))
theorem fl_X11_105 : FLk RX11 105 7 6 (RX7, TX7, 13) := ⟨rfl, by decide, iw_X7, Or.inr ⟨"GrassField", (tb2 (List.mem_of_getElem? (i := 46) rfl))⟩⟩
theorem cl_X11_226 : CLk RX11 226 yX1_seenCount cX1_seenCount 1 (some .int) 0 := ⟨Or.inl (tb3 (List.mem_of_getElem? (i := 77) rfl)), (tb3 (List.mem_of_getElem? (i := 80) rfl)), (tb1 (List.mem_of_getElem? (i := 7) rfl)), by decide +kernel, by decide +kernel, by decide +kernel⟩
theorem im_X1_seenCount : Cond.instanceMethod yX1_seenCount ∈ lw_tbl := (tb3 (List.mem_of_getElem? (i := 78) rfl))
theorem se_X1_seenCount : Cond.selects RX1 yX1_seenCount yX1_seenCount ∈ lw_tbl := (tb3 (List.mem_of_getElem? (i := 79) rfl))
theorem fl_X11_171 : FLk RX11 171 7 12 (RX7, TX7, 13) := ⟨rfl, by decide, iw_X7, Or.inr ⟨"GrassField", (tb2 (List.mem_of_getElem? (i := 62) rfl))⟩⟩
theorem fl_X11_308 : FLk RX11 308 9 0 (RX9, TX9, 9) := ⟨rfl, by decide, iw_X9, Or.inr ⟨"GrassField", (tb1 (List.mem_of_getElem? (i := 230) rfl))⟩⟩
theorem fl_X11_347 : FLk RX11 347 7 9 (RX7, TX7, 13) := ⟨rfl, by decide, iw_X7, Or.inr ⟨"GrassField", (tb2 (List.mem_of_getElem? (i := 53) rfl))⟩⟩
theorem fl_X11_229 : FLk RX11 229 1 9 (RX1, TX1, 10) := ⟨rfl, by decide, iw_X1, Or.inr ⟨"GrassField", (tb1 (List.mem_of_getElem? (i := 200) rfl))⟩⟩
theorem cl_X11_248 : CLk RX11 248 yJ6_bitCount_0f7a4 cJ6_bitCount_0f7a4 1 (some .int) 1 := ⟨Or.inl (tb3 (List.mem_of_getElem? (i := 81) rfl)), (tb3 (List.mem_of_getElem? (i := 10) rfl)), (tb1 (List.mem_of_getElem? (i := 28) rfl)), by decide +kernel, by decide +kernel, by decide +kernel⟩
theorem cl_X11_372 : CLk RX11 372 yX2_allRounds cX2_allRounds 3 (some .int) 0 := ⟨Or.inl (tb3 (List.mem_of_getElem? (i := 82) rfl)), (tb3 (List.mem_of_getElem? (i := 85) rfl)), (tb1 (List.mem_of_getElem? (i := 5) rfl)), by decide +kernel, by decide +kernel, by decide +kernel⟩
theorem im_X2_allRounds : Cond.instanceMethod yX2_allRounds ∈ lw_tbl := (tb3 (List.mem_of_getElem? (i := 83) rfl))
theorem se_X2_allRounds : Cond.selects RX2 yX2_allRounds yX2_allRounds ∈ lw_tbl := (tb3 (List.mem_of_getElem? (i := 84) rfl))
theorem th_X11_382 : (∀ w ∈ vx_atS RX11 384 "java/lang/IllegalArgumentException" ["java/lang/RuntimeException", "java/lang/Exception"], vx_ot w = true) ∧ ∀ w ∈ vx_atS RX11 384 "java/lang/IllegalArgumentException" ["java/lang/RuntimeException", "java/lang/Exception"], w ∈ lw_tbl ∧ okW w = true := by decide +kernel
theorem cl_X11_58 : CLk RX11 58 yX11_need cX11_need 1 none 1 := ⟨Or.inl (tb3 (List.mem_of_getElem? (i := 173) rfl)), (tb3 (List.mem_of_getElem? (i := 175) rfl)), (tb1 (List.mem_of_getElem? (i := 1) rfl)), by decide +kernel, by decide +kernel, by decide +kernel⟩
theorem st_X11_need : Cond.static yX11_need ∈ lw_tbl := (tb3 (List.mem_of_getElem? (i := 174) rfl))
theorem lk_X11_58 : Cond.methodLink RX11 58 yX11_need ∈ lw_tbl := (tb3 (List.mem_of_getElem? (i := 173) rfl))
theorem fl_X11_99 : FLk RX11 99 7 10 (RX7, TX7, 13) := ⟨rfl, by decide, iw_X7, Or.inr ⟨"GrassField", (tb2 (List.mem_of_getElem? (i := 55) rfl))⟩⟩
theorem fp_X11_99 : FPk RX11 99 7 10 (RX7, TX7, 13) tyX7 0 := ⟨fl_X11_99, nmX7, tyX7_ok, Or.inl ⟨rfl, rfl, rfl⟩⟩
theorem fl_X11_47 : FLk RX11 47 6 1 (RX6, TX6, 10) := ⟨rfl, by decide, iw_X6, Or.inr ⟨"GrassField", (tb1 (List.mem_of_getElem? (i := 46) rfl))⟩⟩
theorem fp_X11_47 : FPk RX11 47 6 1 (RX6, TX6, 10) tyX6 0 := ⟨fl_X11_47, nmX6, tyX6_ok, Or.inl ⟨rfl, rfl, rfl⟩⟩
theorem fl_X11_116 : FLk RX11 116 6 2 (RX6, TX6, 10) := ⟨rfl, by decide, iw_X6, Or.inr ⟨"GrassField", (tb1 (List.mem_of_getElem? (i := 48) rfl))⟩⟩
theorem cl_X11_39 : CLk RX11 39 yX6_hasRoom cX6_hasRoom 1 (some .boolean) 0 := ⟨Or.inl (tb2 (List.mem_of_getElem? (i := 161) rfl)), (tb2 (List.mem_of_getElem? (i := 164) rfl)), (tb1 (List.mem_of_getElem? (i := 2) rfl)), by decide +kernel, by decide +kernel, by decide +kernel⟩
theorem im_X6_hasRoom : Cond.instanceMethod yX6_hasRoom ∈ lw_tbl := (tb2 (List.mem_of_getElem? (i := 162) rfl))
theorem se_X6_hasRoom : Cond.selects RX6 yX6_hasRoom yX6_hasRoom ∈ lw_tbl := (tb2 (List.mem_of_getElem? (i := 163) rfl))
theorem cl_X11_43 : CLk RX11 43 yX6_addNumber cX6_addNumber 3 none 1 := ⟨Or.inl (tb2 (List.mem_of_getElem? (i := 165) rfl)), (tb2 (List.mem_of_getElem? (i := 168) rfl)), (tb1 (List.mem_of_getElem? (i := 2) rfl)), by decide +kernel, by decide +kernel, by decide +kernel⟩
theorem im_X6_addNumber : Cond.instanceMethod yX6_addNumber ∈ lw_tbl := (tb2 (List.mem_of_getElem? (i := 166) rfl))
theorem se_X6_addNumber : Cond.selects RX6 yX6_addNumber yX6_addNumber ∈ lw_tbl := (tb2 (List.mem_of_getElem? (i := 167) rfl))
theorem th_X11_387 : (∀ w ∈ vx_atS RX11 389 "java/lang/UnsupportedOperationException" ["java/lang/RuntimeException", "java/lang/Exception"], vx_ot w = true) ∧ ∀ w ∈ vx_atS RX11 389 "java/lang/UnsupportedOperationException" ["java/lang/RuntimeException", "java/lang/Exception"], w ∈ lw_tbl ∧ okW w = true := by decide +kernel
theorem cl_X11_91 : CLk RX11 91 yX11_needRoom cX11_needRoom 2 none 2 := ⟨Or.inl (tb3 (List.mem_of_getElem? (i := 231) rfl)), (tb3 (List.mem_of_getElem? (i := 233) rfl)), (tb1 (List.mem_of_getElem? (i := 1) rfl)), by decide +kernel, by decide +kernel, by decide +kernel⟩
theorem st_X11_needRoom : Cond.static yX11_needRoom ∈ lw_tbl := (tb3 (List.mem_of_getElem? (i := 232) rfl))
theorem lk_X11_91 : Cond.methodLink RX11 91 yX11_needRoom ∈ lw_tbl := (tb3 (List.mem_of_getElem? (i := 231) rfl))
theorem cl_X11_185 : CLk RX11 185 yX1_add cX1_add 5 (some .int) 4 := ⟨Or.inl (tb5 (List.mem_of_getElem? (i := 147) rfl)), (tb5 (List.mem_of_getElem? (i := 119) rfl)), (tb1 (List.mem_of_getElem? (i := 7) rfl)), by decide +kernel, by decide +kernel, by decide +kernel⟩
theorem cl_X11_51 : CLk RX11 51 yX11_needCell cX11_needCell 1 none 1 := ⟨Or.inl (tb3 (List.mem_of_getElem? (i := 95) rfl)), (tb3 (List.mem_of_getElem? (i := 97) rfl)), (tb1 (List.mem_of_getElem? (i := 1) rfl)), by decide +kernel, by decide +kernel, by decide +kernel⟩
theorem st_X11_needCell : Cond.static yX11_needCell ∈ lw_tbl := (tb3 (List.mem_of_getElem? (i := 96) rfl))
theorem lk_X11_51 : Cond.methodLink RX11 51 yX11_needCell ∈ lw_tbl := (tb3 (List.mem_of_getElem? (i := 95) rfl))
theorem ct_X11_177 : Cond.constant RX11 177 (65535) ∈ lw_tbl := (tb5 (List.mem_of_getElem? (i := 146) rfl))
theorem cl_X11_66 : CLk RX11 66 yX3_raise cX3_raise 5 none 3 := ⟨Or.inl (tb3 (List.mem_of_getElem? (i := 192) rfl)), (tb3 (List.mem_of_getElem? (i := 195) rfl)), (tb1 (List.mem_of_getElem? (i := 4) rfl)), by decide +kernel, by decide +kernel, by decide +kernel⟩
theorem im_X3_raise : Cond.instanceMethod yX3_raise ∈ lw_tbl := (tb3 (List.mem_of_getElem? (i := 193) rfl))
theorem se_X3_raise : Cond.selects RX3 yX3_raise yX3_raise ∈ lw_tbl := (tb3 (List.mem_of_getElem? (i := 194) rfl))
theorem cl_X11_95 : CLk RX11 95 yX2_add cX2_add 5 (some .int) 4 := ⟨Or.inl (tb4 (List.mem_of_getElem? (i := 10) rfl)), (tb4 (List.mem_of_getElem? (i := 13) rfl)), (tb1 (List.mem_of_getElem? (i := 5) rfl)), by decide +kernel, by decide +kernel, by decide +kernel⟩
theorem im_X2_add : Cond.instanceMethod yX2_add ∈ lw_tbl := (tb4 (List.mem_of_getElem? (i := 11) rfl))
theorem se_X2_add : Cond.selects RX2 yX2_add yX2_add ∈ lw_tbl := (tb4 (List.mem_of_getElem? (i := 12) rfl))
theorem cl_X11_235 : CLk RX11 235 yX8_refresh cX8_refresh 5 none 0 := ⟨Or.inl (tb5 (List.mem_of_getElem? (i := 207) rfl)), (tb5 (List.mem_of_getElem? (i := 210) rfl)), (tb1 (List.mem_of_getElem? (i := 10) rfl)), by decide +kernel, by decide +kernel, by decide +kernel⟩
theorem cl_X11_295 : CLk RX11 295 yX8_heapCount cX8_heapCount 4 (some .int) 1 := ⟨Or.inl (tb6 (List.mem_of_getElem? (i := 172) rfl)), (tb6 (List.mem_of_getElem? (i := 175) rfl)), (tb1 (List.mem_of_getElem? (i := 10) rfl)), by decide +kernel, by decide +kernel, by decide +kernel⟩
theorem cl_X11_292 : CLk RX11 292 yX8_firstHeap cX8_firstHeap 3 (some .int) 1 := ⟨Or.inl (tb6 (List.mem_of_getElem? (i := 161) rfl)), (tb6 (List.mem_of_getElem? (i := 164) rfl)), (tb1 (List.mem_of_getElem? (i := 10) rfl)), by decide +kernel, by decide +kernel, by decide +kernel⟩
theorem im_X8_firstHeap : Cond.instanceMethod yX8_firstHeap ∈ lw_tbl := (tb6 (List.mem_of_getElem? (i := 162) rfl))
theorem se_X8_firstHeap : Cond.selects RX8 yX8_firstHeap yX8_firstHeap ∈ lw_tbl := (tb6 (List.mem_of_getElem? (i := 163) rfl))
theorem fl_X11_72 : FLk RX11 72 3 0 (RX3, TX3, 1) := ⟨rfl, by decide, iw_X3, Or.inr ⟨"GrassField", (tb1 (List.mem_of_getElem? (i := 92) rfl))⟩⟩
theorem cl_X11_289 : CLk RX11 289 yX8_longestPiece cX8_longestPiece 7 (some .int) 3 := ⟨Or.inl (tb6 (List.mem_of_getElem? (i := 144) rfl)), (tb6 (List.mem_of_getElem? (i := 147) rfl)), (tb1 (List.mem_of_getElem? (i := 10) rfl)), by decide +kernel, by decide +kernel, by decide +kernel⟩
theorem cl_X11_285 : CLk RX11 285 yX8_breakOf cX8_breakOf 6 (some .int) 3 := ⟨Or.inl (tb6 (List.mem_of_getElem? (i := 118) rfl)), (tb6 (List.mem_of_getElem? (i := 121) rfl)), (tb1 (List.mem_of_getElem? (i := 10) rfl)), by decide +kernel, by decide +kernel, by decide +kernel⟩
theorem im_X8_breakOf : Cond.instanceMethod yX8_breakOf ∈ lw_tbl := (tb6 (List.mem_of_getElem? (i := 119) rfl))
theorem se_X8_breakOf : Cond.selects RX8 yX8_breakOf yX8_breakOf ∈ lw_tbl := (tb6 (List.mem_of_getElem? (i := 120) rfl))
theorem cl_X11_354 : CLk RX11 354 yX8_gatherFacts cX8_gatherFacts 4 none 0 := ⟨Or.inl (tb7 (List.mem_of_getElem? (i := 61) rfl)), (tb7 (List.mem_of_getElem? (i := 64) rfl)), (tb1 (List.mem_of_getElem? (i := 10) rfl)), by decide +kernel, by decide +kernel, by decide +kernel⟩
theorem im_X8_gatherFacts : Cond.instanceMethod yX8_gatherFacts ∈ lw_tbl := (tb7 (List.mem_of_getElem? (i := 62) rfl))
theorem se_X8_gatherFacts : Cond.selects RX8 yX8_gatherFacts yX8_gatherFacts ∈ lw_tbl := (tb7 (List.mem_of_getElem? (i := 63) rfl))
theorem cl_X11_357 : CLk RX11 357 yX8_isTrue cX8_isTrue 3 (some .boolean) 1 := ⟨Or.inl (tb7 (List.mem_of_getElem? (i := 69) rfl)), (tb7 (List.mem_of_getElem? (i := 72) rfl)), (tb1 (List.mem_of_getElem? (i := 10) rfl)), by decide +kernel, by decide +kernel, by decide +kernel⟩
theorem fp_X11_363 : FPk RX11 363 11 5 (RX11, TX11, 6) tyX11 2 := ⟨fl_X11_363, nmX11, tyX11_ok, Or.inr (Or.inr ⟨rfl, Or.inl ⟨_, rfl⟩, rfl⟩)⟩
theorem cl_X11_340 : CLk RX11 340 yX8_gunsIn cX8_gunsIn 7 (some .int) 3 := ⟨Or.inl (tb7 (List.mem_of_getElem? (i := 35) rfl)), (tb7 (List.mem_of_getElem? (i := 38) rfl)), (tb1 (List.mem_of_getElem? (i := 10) rfl)), by decide +kernel, by decide +kernel, by decide +kernel⟩
theorem im_X8_gunsIn : Cond.instanceMethod yX8_gunsIn ∈ lw_tbl := (tb7 (List.mem_of_getElem? (i := 36) rfl))
theorem se_X8_gunsIn : Cond.selects RX8 yX8_gunsIn yX8_gunsIn ∈ lw_tbl := (tb7 (List.mem_of_getElem? (i := 37) rfl))
theorem cl_X11_245 : CLk RX11 245 yX11_needQuestion cX11_needQuestion 2 none 2 := ⟨Or.inl (tb5 (List.mem_of_getElem? (i := 232) rfl)), (tb5 (List.mem_of_getElem? (i := 234) rfl)), (tb1 (List.mem_of_getElem? (i := 1) rfl)), by decide +kernel, by decide +kernel, by decide +kernel⟩
theorem st_X11_needQuestion : Cond.static yX11_needQuestion ∈ lw_tbl := (tb5 (List.mem_of_getElem? (i := 233) rfl))
theorem lk_X11_245 : Cond.methodLink RX11 245 yX11_needQuestion ∈ lw_tbl := (tb5 (List.mem_of_getElem? (i := 232) rfl))
theorem cl_X11_256 : CLk RX11 256 yX8_modernCases cX8_modernCases 4 (some .int) 0 := ⟨Or.inl (tb6 (List.mem_of_getElem? (i := 7) rfl)), (tb6 (List.mem_of_getElem? (i := 10) rfl)), (tb1 (List.mem_of_getElem? (i := 10) rfl)), by decide +kernel, by decide +kernel, by decide +kernel⟩
theorem im_X8_modernCases : Cond.instanceMethod yX8_modernCases ∈ lw_tbl := (tb6 (List.mem_of_getElem? (i := 8) rfl))
theorem se_X8_modernCases : Cond.selects RX8 yX8_modernCases yX8_modernCases ∈ lw_tbl := (tb6 (List.mem_of_getElem? (i := 9) rfl))
theorem cl_X11_259 : CLk RX11 259 yX8_laterThings cX8_laterThings 5 (some .int) 0 := ⟨Or.inl (tb6 (List.mem_of_getElem? (i := 15) rfl)), (tb6 (List.mem_of_getElem? (i := 18) rfl)), (tb1 (List.mem_of_getElem? (i := 10) rfl)), by decide +kernel, by decide +kernel, by decide +kernel⟩
theorem im_X8_laterThings : Cond.instanceMethod yX8_laterThings ∈ lw_tbl := (tb6 (List.mem_of_getElem? (i := 16) rfl))
theorem se_X8_laterThings : Cond.selects RX8 yX8_laterThings yX8_laterThings ∈ lw_tbl := (tb6 (List.mem_of_getElem? (i := 17) rfl))
theorem cl_X11_253 : CLk RX11 253 yX8_unknownCases cX8_unknownCases 3 (some .int) 0 := ⟨Or.inl (tb6 (List.mem_of_getElem? (i := 3) rfl)), (tb6 (List.mem_of_getElem? (i := 6) rfl)), (tb1 (List.mem_of_getElem? (i := 10) rfl)), by decide +kernel, by decide +kernel, by decide +kernel⟩
theorem im_X8_unknownCases : Cond.instanceMethod yX8_unknownCases ∈ lw_tbl := (tb6 (List.mem_of_getElem? (i := 4) rfl))
theorem se_X8_unknownCases : Cond.selects RX8 yX8_unknownCases yX8_unknownCases ∈ lw_tbl := (tb6 (List.mem_of_getElem? (i := 5) rfl))
theorem cl_X11_102 : CLk RX11 102 yX6_readsLaw cX6_readsLaw 2 (some .boolean) 0 := ⟨Or.inl (tb4 (List.mem_of_getElem? (i := 28) rfl)), (tb4 (List.mem_of_getElem? (i := 31) rfl)), (tb1 (List.mem_of_getElem? (i := 2) rfl)), by decide +kernel, by decide +kernel, by decide +kernel⟩
theorem im_X6_readsLaw : Cond.instanceMethod yX6_readsLaw ∈ lw_tbl := (tb4 (List.mem_of_getElem? (i := 29) rfl))
theorem se_X6_readsLaw : Cond.selects RX6 yX6_readsLaw yX6_readsLaw ∈ lw_tbl := (tb4 (List.mem_of_getElem? (i := 30) rfl))
theorem cl_X11_108 : CLk RX11 108 yX6_program cX6_program 1 (some (.object "GrassField$Program")) 0 := ⟨Or.inl (tb4 (List.mem_of_getElem? (i := 209) rfl)), (tb4 (List.mem_of_getElem? (i := 212) rfl)), (tb1 (List.mem_of_getElem? (i := 2) rfl)), by decide +kernel, by decide +kernel, by decide +kernel⟩
theorem im_X6_program : Cond.instanceMethod yX6_program ∈ lw_tbl := (tb4 (List.mem_of_getElem? (i := 210) rfl))
theorem se_X6_program : Cond.selects RX6 yX6_program yX6_program ∈ lw_tbl := (tb4 (List.mem_of_getElem? (i := 211) rfl))
theorem cl_X11_112 : CLk RX11 112 yX7_addLaw cX7_addLaw 2 (some .int) 1 := ⟨Or.inl (tb5 (List.mem_of_getElem? (i := 1) rfl)), (tb5 (List.mem_of_getElem? (i := 4) rfl)), (tb1 (List.mem_of_getElem? (i := 3) rfl)), by decide +kernel, by decide +kernel, by decide +kernel⟩
theorem im_X7_addLaw : Cond.instanceMethod yX7_addLaw ∈ lw_tbl := (tb5 (List.mem_of_getElem? (i := 2) rfl))
theorem se_X7_addLaw : Cond.selects RX7 yX7_addLaw yX7_addLaw ∈ lw_tbl := (tb5 (List.mem_of_getElem? (i := 3) rfl))
theorem cl_X11_298 : CLk RX11 298 yX8_minutesOf cX8_minutesOf 5 (some .int) 2 := ⟨Or.inl (tb6 (List.mem_of_getElem? (i := 183) rfl)), (tb6 (List.mem_of_getElem? (i := 186) rfl)), (tb1 (List.mem_of_getElem? (i := 10) rfl)), by decide +kernel, by decide +kernel, by decide +kernel⟩
theorem im_X8_minutesOf : Cond.instanceMethod yX8_minutesOf ∈ lw_tbl := (tb6 (List.mem_of_getElem? (i := 184) rfl))
theorem se_X8_minutesOf : Cond.selects RX8 yX8_minutesOf yX8_minutesOf ∈ lw_tbl := (tb6 (List.mem_of_getElem? (i := 185) rfl))
theorem fl_X11_138 : FLk RX11 138 4 1 (RX4, TX4, 7) := ⟨rfl, by decide, iw_X4, Or.inr ⟨"GrassField", (tb1 (List.mem_of_getElem? (i := 135) rfl))⟩⟩
theorem fl_X11_141 : FLk RX11 141 4 3 (RX4, TX4, 7) := ⟨rfl, by decide, iw_X4, Or.inr ⟨"GrassField", (tb1 (List.mem_of_getElem? (i := 141) rfl))⟩⟩
theorem fl_X11_144 : FLk RX11 144 4 4 (RX4, TX4, 7) := ⟨rfl, by decide, iw_X4, Or.inr ⟨"GrassField", (tb1 (List.mem_of_getElem? (i := 144) rfl))⟩⟩
theorem fl_X11_147 : FLk RX11 147 4 6 (RX4, TX4, 7) := ⟨rfl, by decide, iw_X4, Or.inr ⟨"GrassField", (tb1 (List.mem_of_getElem? (i := 150) rfl))⟩⟩
theorem fl_X11_150 : FLk RX11 150 4 2 (RX4, TX4, 7) := ⟨rfl, by decide, iw_X4, Or.inr ⟨"GrassField", (tb1 (List.mem_of_getElem? (i := 138) rfl))⟩⟩
theorem fl_X11_151 : FLk RX11 151 4 5 (RX4, TX4, 7) := ⟨rfl, by decide, iw_X4, Or.inr ⟨"GrassField", (tb1 (List.mem_of_getElem? (i := 147) rfl))⟩⟩
theorem cl_X11_154 : CLk RX11 154 yX4_foesNear cX4_foesNear 2 (some .int) 1 := ⟨Or.inl (tb5 (List.mem_of_getElem? (i := 28) rfl)), (tb5 (List.mem_of_getElem? (i := 31) rfl)), (tb1 (List.mem_of_getElem? (i := 6) rfl)), by decide +kernel, by decide +kernel, by decide +kernel⟩
theorem cl_X11_158 : CLk RX11 158 yX4_friendsNear cX4_friendsNear 2 (some .int) 1 := ⟨Or.inl (tb5 (List.mem_of_getElem? (i := 41) rfl)), (tb5 (List.mem_of_getElem? (i := 44) rfl)), (tb1 (List.mem_of_getElem? (i := 6) rfl)), by decide +kernel, by decide +kernel, by decide +kernel⟩
theorem fl_X11_220 : FLk RX11 220 1 7 (RX1, TX1, 10) := ⟨rfl, by decide, iw_X1, Or.inr ⟨"GrassField", (tb1 (List.mem_of_getElem? (i := 196) rfl))⟩⟩
theorem fp_X11_220 : FPk RX11 220 1 7 (RX1, TX1, 10) tyX1 0 := ⟨fl_X11_220, nmX1, tyX1_ok, Or.inl ⟨rfl, rfl, rfl⟩⟩
theorem fl_X11_223 : FLk RX11 223 1 8 (RX1, TX1, 10) := ⟨rfl, by decide, iw_X1, Or.inr ⟨"GrassField", (tb1 (List.mem_of_getElem? (i := 198) rfl))⟩⟩
theorem fp_X11_223 : FPk RX11 223 1 8 (RX1, TX1, 10) tyX1 0 := ⟨fl_X11_223, nmX1, tyX1_ok, Or.inl ⟨rfl, rfl, rfl⟩⟩
theorem cl_X11_238 : CLk RX11 238 yX8_fewestGuns cX8_fewestGuns 6 (some .int) 2 := ⟨Or.inl (tb5 (List.mem_of_getElem? (i := 212) rfl)), (tb5 (List.mem_of_getElem? (i := 215) rfl)), (tb1 (List.mem_of_getElem? (i := 10) rfl)), by decide +kernel, by decide +kernel, by decide +kernel⟩
theorem cl_X11_232 : CLk RX11 232 yX1_bestRow cX1_bestRow 6 (some .int) 0 := ⟨Or.inl (tb2 (List.mem_of_getElem? (i := 185) rfl)), (tb2 (List.mem_of_getElem? (i := 188) rfl)), (tb1 (List.mem_of_getElem? (i := 7) rfl)), by decide +kernel, by decide +kernel, by decide +kernel⟩
theorem im_X1_bestRow : Cond.instanceMethod yX1_bestRow ∈ lw_tbl := (tb2 (List.mem_of_getElem? (i := 186) rfl))
theorem se_X1_bestRow : Cond.selects RX1 yX1_bestRow yX1_bestRow ∈ lw_tbl := (tb2 (List.mem_of_getElem? (i := 187) rfl))
theorem cl_X11_360 : CLk RX11 360 yX8_tenThousandths cX8_tenThousandths 4 (some .int) 1 := ⟨Or.inl (tb7 (List.mem_of_getElem? (i := 81) rfl)), (tb7 (List.mem_of_getElem? (i := 84) rfl)), (tb1 (List.mem_of_getElem? (i := 10) rfl)), by decide +kernel, by decide +kernel, by decide +kernel⟩
theorem im_X8_tenThousandths : Cond.instanceMethod yX8_tenThousandths ∈ lw_tbl := (tb7 (List.mem_of_getElem? (i := 82) rfl))
theorem se_X8_tenThousandths : Cond.selects RX8 yX8_tenThousandths yX8_tenThousandths ∈ lw_tbl := (tb7 (List.mem_of_getElem? (i := 83) rfl))
theorem cl_X11_186 : CLk RX11 186 yX11_canBeOfKind cX11_canBeOfKind 2 (some .boolean) 2 := ⟨Or.inl (tb5 (List.mem_of_getElem? (i := 155) rfl)), (tb5 (List.mem_of_getElem? (i := 157) rfl)), (tb1 (List.mem_of_getElem? (i := 1) rfl)), by decide +kernel, by decide +kernel, by decide +kernel⟩
theorem st_X11_canBeOfKind : Cond.static yX11_canBeOfKind ∈ lw_tbl := (tb5 (List.mem_of_getElem? (i := 156) rfl))
theorem fl_X11_132 : FLk RX11 132 2 1 (RX2, TX2, 5) := ⟨rfl, by decide, iw_X2, Or.inr ⟨"GrassField", (tb1 (List.mem_of_getElem? (i := 106) rfl))⟩⟩
theorem cl_X11_135 : CLk RX11 135 yX4_add cX4_add 6 (some .int) 5 := ⟨Or.inl (tb5 (List.mem_of_getElem? (i := 16) rfl)), (tb5 (List.mem_of_getElem? (i := 19) rfl)), (tb1 (List.mem_of_getElem? (i := 6) rfl)), by decide +kernel, by decide +kernel, by decide +kernel⟩
theorem im_X4_add : Cond.instanceMethod yX4_add ∈ lw_tbl := (tb5 (List.mem_of_getElem? (i := 17) rfl))
theorem se_X4_add : Cond.selects RX4 yX4_add yX4_add ∈ lw_tbl := (tb5 (List.mem_of_getElem? (i := 18) rfl))
theorem cl_X11_126 : CLk RX11 126 yX4_someoneHas cX4_someoneHas 3 (some .boolean) 1 := ⟨Or.inl (tb5 (List.mem_of_getElem? (i := 12) rfl)), (tb5 (List.mem_of_getElem? (i := 15) rfl)), (tb1 (List.mem_of_getElem? (i := 6) rfl)), by decide +kernel, by decide +kernel, by decide +kernel⟩
theorem im_X4_someoneHas : Cond.instanceMethod yX4_someoneHas ∈ lw_tbl := (tb5 (List.mem_of_getElem? (i := 13) rfl))
theorem se_X4_someoneHas : Cond.selects RX4 yX4_someoneHas yX4_someoneHas ∈ lw_tbl := (tb5 (List.mem_of_getElem? (i := 14) rfl))
theorem cl_X11_174 : CLk RX11 174 yX0_goMinute cX0_goMinute 2 none 0 := ⟨Or.inl (tb5 (List.mem_of_getElem? (i := 68) rfl)), (tb5 (List.mem_of_getElem? (i := 71) rfl)), (tb1 (List.mem_of_getElem? (i := 9) rfl)), by decide +kernel, by decide +kernel, by decide +kernel⟩
theorem im_X0_goMinute : Cond.instanceMethod yX0_goMinute ∈ lw_tbl := (tb5 (List.mem_of_getElem? (i := 69) rfl))
theorem se_X0_goMinute : Cond.selects RX0 yX0_goMinute yX0_goMinute ∈ lw_tbl := (tb5 (List.mem_of_getElem? (i := 70) rfl))
theorem fl_X11_242 : FLk RX11 242 8 1 (RX8, TX8, 9) := ⟨rfl, by decide, iw_X8, Or.inr ⟨"GrassField", (tb2 (List.mem_of_getElem? (i := 111) rfl))⟩⟩
theorem fl_X11_168 : FLk RX11 168 7 11 (RX7, TX7, 13) := ⟨rfl, by decide, iw_X7, Or.inr ⟨"GrassField", (tb2 (List.mem_of_getElem? (i := 59) rfl))⟩⟩
theorem fp_X11_168 : FPk RX11 168 7 11 (RX7, TX7, 13) tyX7 0 := ⟨fl_X11_168, nmX7, tyX7_ok, Or.inl ⟨rfl, rfl, rfl⟩⟩
theorem cl_X11_76 : CLk RX11 76 yX3_isOpen cX3_isOpen 8 (some .boolean) 2 := ⟨Or.inl (tb3 (List.mem_of_getElem? (i := 219) rfl)), (tb2 (List.mem_of_getElem? (i := 228) rfl)), (tb1 (List.mem_of_getElem? (i := 4) rfl)), by decide +kernel, by decide +kernel, by decide +kernel⟩
theorem cl_X11_301 : CLk RX11 301 yX8_mostUnseen cX8_mostUnseen 7 (some .int) 2 := ⟨Or.inl (tb6 (List.mem_of_getElem? (i := 198) rfl)), (tb6 (List.mem_of_getElem? (i := 201) rfl)), (tb1 (List.mem_of_getElem? (i := 10) rfl)), by decide +kernel, by decide +kernel, by decide +kernel⟩
theorem im_X8_mostUnseen : Cond.instanceMethod yX8_mostUnseen ∈ lw_tbl := (tb6 (List.mem_of_getElem? (i := 199) rfl))
theorem se_X8_mostUnseen : Cond.selects RX8 yX8_mostUnseen yX8_mostUnseen ∈ lw_tbl := (tb6 (List.mem_of_getElem? (i := 200) rfl))
theorem cl_X11_350 : CLk RX11 350 yX7_addStory cX7_addStory 3 (some .int) 2 := ⟨Or.inl (tb7 (List.mem_of_getElem? (i := 50) rfl)), (tb7 (List.mem_of_getElem? (i := 53) rfl)), (tb1 (List.mem_of_getElem? (i := 3) rfl)), by decide +kernel, by decide +kernel, by decide +kernel⟩
theorem im_X7_addStory : Cond.instanceMethod yX7_addStory ∈ lw_tbl := (tb7 (List.mem_of_getElem? (i := 51) rfl))
theorem se_X7_addStory : Cond.selects RX7 yX7_addStory yX7_addStory ∈ lw_tbl := (tb7 (List.mem_of_getElem? (i := 52) rfl))
theorem cl_X11_344 : CLk RX11 344 yX6_readsStory cX6_readsStory 1 (some .boolean) 0 := ⟨Or.inl (tb7 (List.mem_of_getElem? (i := 46) rfl)), (tb7 (List.mem_of_getElem? (i := 49) rfl)), (tb1 (List.mem_of_getElem? (i := 2) rfl)), by decide +kernel, by decide +kernel, by decide +kernel⟩
theorem im_X6_readsStory : Cond.instanceMethod yX6_readsStory ∈ lw_tbl := (tb7 (List.mem_of_getElem? (i := 47) rfl))
theorem se_X6_readsStory : Cond.selects RX6 yX6_readsStory yX6_readsStory ∈ lw_tbl := (tb7 (List.mem_of_getElem? (i := 48) rfl))
theorem cl_X11_325 : CLk RX11 325 yX9_mayHaveTalked cX9_mayHaveTalked 3 (some .boolean) 2 := ⟨Or.inl (tb7 (List.mem_of_getElem? (i := 0) rfl)), (tb3 (List.mem_of_getElem? (i := 21) rfl)), (tb1 (List.mem_of_getElem? (i := 8) rfl)), by decide +kernel, by decide +kernel, by decide +kernel⟩
theorem cl_X11_311 : CLk RX11 311 yX9_add cX9_add 5 (some .int) 4 := ⟨Or.inl (tb6 (List.mem_of_getElem? (i := 209) rfl)), (tb6 (List.mem_of_getElem? (i := 212) rfl)), (tb1 (List.mem_of_getElem? (i := 8) rfl)), by decide +kernel, by decide +kernel, by decide +kernel⟩
theorem im_X9_add : Cond.instanceMethod yX9_add ∈ lw_tbl := (tb6 (List.mem_of_getElem? (i := 210) rfl))
theorem se_X9_add : Cond.selects RX9 yX9_add yX9_add ∈ lw_tbl := (tb6 (List.mem_of_getElem? (i := 211) rfl))
theorem cl_X11_217 : CLk RX11 217 yX11_areMinutes cX11_areMinutes 2 (some .boolean) 2 := ⟨Or.inl (tb5 (List.mem_of_getElem? (i := 183) rfl)), (tb5 (List.mem_of_getElem? (i := 185) rfl)), (tb1 (List.mem_of_getElem? (i := 1) rfl)), by decide +kernel, by decide +kernel, by decide +kernel⟩
theorem st_X11_areMinutes : Cond.static yX11_areMinutes ∈ lw_tbl := (tb5 (List.mem_of_getElem? (i := 184) rfl))
theorem cl_X11_315 : CLk RX11 315 yX9_addTelling cX9_addTelling 4 (some .int) 3 := ⟨Or.inl (tb6 (List.mem_of_getElem? (i := 220) rfl)), (tb6 (List.mem_of_getElem? (i := 223) rfl)), (tb1 (List.mem_of_getElem? (i := 8) rfl)), by decide +kernel, by decide +kernel, by decide +kernel⟩
theorem im_X9_addTelling : Cond.instanceMethod yX9_addTelling ∈ lw_tbl := (tb6 (List.mem_of_getElem? (i := 221) rfl))
theorem se_X9_addTelling : Cond.selects RX9 yX9_addTelling yX9_addTelling ∈ lw_tbl := (tb6 (List.mem_of_getElem? (i := 222) rfl))
theorem fp_X11_229 : FPk RX11 229 1 9 (RX1, TX1, 10) tyX1 0 := ⟨fl_X11_229, nmX1, tyX1_ok, Or.inl ⟨rfl, rfl, rfl⟩⟩
theorem fl_X11_262 : FLk RX11 262 11 4 (RX11, TX11, 6) := ⟨rfl, by decide, iw_X11, Or.inl (tb2 (List.mem_of_getElem? (i := 142) rfl))⟩
theorem cl_X11_269 : CLk RX11 269 yX8_fillWays cX8_fillWays 4 none 2 := ⟨Or.inl (tb6 (List.mem_of_getElem? (i := 62) rfl)), (tb6 (List.mem_of_getElem? (i := 65) rfl)), (tb1 (List.mem_of_getElem? (i := 10) rfl)), by decide +kernel, by decide +kernel, by decide +kernel⟩
theorem im_X8_fillWays : Cond.instanceMethod yX8_fillWays ∈ lw_tbl := (tb6 (List.mem_of_getElem? (i := 63) rfl))
theorem se_X8_fillWays : Cond.selects RX8 yX8_fillWays yX8_fillWays ∈ lw_tbl := (tb6 (List.mem_of_getElem? (i := 64) rfl))
theorem cl_X11_273 : CLk RX11 273 yX10_solve cX10_solve 4 none 0 := ⟨Or.inl (tb6 (List.mem_of_getElem? (i := 78) rfl)), (tb6 (List.mem_of_getElem? (i := 81) rfl)), (tb1 (List.mem_of_getElem? (i := 29) rfl)), by decide +kernel, by decide +kernel, by decide +kernel⟩
theorem im_X10_solve : Cond.instanceMethod yX10_solve ∈ lw_tbl := (tb6 (List.mem_of_getElem? (i := 79) rfl))
theorem se_X10_solve : Cond.selects RX10 yX10_solve yX10_solve ∈ lw_tbl := (tb6 (List.mem_of_getElem? (i := 80) rfl))
theorem cl_X11_282 : CLk RX11 282 yX10_firstFind cX10_firstFind 4 (some .int) 0 := ⟨Or.inl (tb6 (List.mem_of_getElem? (i := 99) rfl)), (tb6 (List.mem_of_getElem? (i := 102) rfl)), (tb1 (List.mem_of_getElem? (i := 29) rfl)), by decide +kernel, by decide +kernel, by decide +kernel⟩
theorem im_X10_firstFind : Cond.instanceMethod yX10_firstFind ∈ lw_tbl := (tb6 (List.mem_of_getElem? (i := 100) rfl))
theorem se_X10_firstFind : Cond.selects RX10 yX10_firstFind yX10_firstFind ∈ lw_tbl := (tb6 (List.mem_of_getElem? (i := 101) rfl))
theorem fl_X11_279 : FLk RX11 279 10 8 (RX10, TX10, 9) := ⟨rfl, by decide, iw_X10, Or.inr ⟨"GrassField", (tb6 (List.mem_of_getElem? (i := 42) rfl))⟩⟩
theorem cl_X11_276 : CLk RX11 276 yX10_fewestHands cX10_fewestHands 5 (some .int) 0 := ⟨Or.inl (tb6 (List.mem_of_getElem? (i := 95) rfl)), (tb6 (List.mem_of_getElem? (i := 98) rfl)), (tb1 (List.mem_of_getElem? (i := 29) rfl)), by decide +kernel, by decide +kernel, by decide +kernel⟩
theorem im_X10_fewestHands : Cond.instanceMethod yX10_fewestHands ∈ lw_tbl := (tb6 (List.mem_of_getElem? (i := 96) rfl))
theorem se_X10_fewestHands : Cond.selects RX10 yX10_fewestHands yX10_fewestHands ∈ lw_tbl := (tb6 (List.mem_of_getElem? (i := 97) rfl))
theorem df_X10 : ∀ k, k < 9 → defaultValue (tyX10 k) = if rf 10 k = true then .null else .int 0 := by decide +kernel
theorem cl_X11_268 : CLk RX11 268 yX10_init cX10_init 1 none 0 := ⟨Or.inr ⟨"GrassField", (tb6 (List.mem_of_getElem? (i := 28) rfl))⟩, (tb6 (List.mem_of_getElem? (i := 30) rfl)), (tb1 (List.mem_of_getElem? (i := 29) rfl)), by decide +kernel, by decide +kernel, by decide +kernel⟩
theorem im_X10_init : Cond.instanceMethod yX10_init ∈ lw_tbl := (tb6 (List.mem_of_getElem? (i := 29) rfl))
theorem fp_X11_262 : FPk RX11 262 11 4 (RX11, TX11, 6) tyX11 2 := ⟨fl_X11_262, nmX11, tyX11_ok, Or.inr (Or.inr ⟨rfl, Or.inl ⟨_, rfl⟩, rfl⟩)⟩
theorem cl_X11_337 : CLk RX11 337 yX8_peopleFor cX8_peopleFor 4 (some .int) 1 := ⟨Or.inl (tb7 (List.mem_of_getElem? (i := 16) rfl)), (tb7 (List.mem_of_getElem? (i := 19) rfl)), (tb1 (List.mem_of_getElem? (i := 10) rfl)), by decide +kernel, by decide +kernel, by decide +kernel⟩
theorem im_X8_peopleFor : Cond.instanceMethod yX8_peopleFor ∈ lw_tbl := (tb7 (List.mem_of_getElem? (i := 17) rfl))
theorem se_X8_peopleFor : Cond.selects RX8 yX8_peopleFor yX8_peopleFor ∈ lw_tbl := (tb7 (List.mem_of_getElem? (i := 18) rfl))
theorem cl_X11_331 : CLk RX11 331 yX8_gatherBones cX8_gatherBones 4 none 0 := ⟨Or.inl (tb7 (List.mem_of_getElem? (i := 8) rfl)), (tb7 (List.mem_of_getElem? (i := 11) rfl)), (tb1 (List.mem_of_getElem? (i := 10) rfl)), by decide +kernel, by decide +kernel, by decide +kernel⟩
theorem im_X8_gatherBones : Cond.instanceMethod yX8_gatherBones ∈ lw_tbl := (tb7 (List.mem_of_getElem? (i := 9) rfl))
theorem se_X8_gatherBones : Cond.selects RX8 yX8_gatherBones yX8_gatherBones ∈ lw_tbl := (tb7 (List.mem_of_getElem? (i := 10) rfl))
theorem cl_X11_334 : CLk RX11 334 yX8_placeOfBones cX8_placeOfBones 3 (some .int) 1 := ⟨Or.inl (tb7 (List.mem_of_getElem? (i := 12) rfl)), (tb7 (List.mem_of_getElem? (i := 15) rfl)), (tb1 (List.mem_of_getElem? (i := 10) rfl)), by decide +kernel, by decide +kernel, by decide +kernel⟩
theorem im_X8_placeOfBones : Cond.instanceMethod yX8_placeOfBones ∈ lw_tbl := (tb7 (List.mem_of_getElem? (i := 13) rfl))
theorem se_X8_placeOfBones : Cond.selects RX8 yX8_placeOfBones yX8_placeOfBones ∈ lw_tbl := (tb7 (List.mem_of_getElem? (i := 14) rfl))
-- GrassField.<init>()V
theorem dX11_init_0 : decode cX11_init 0 = .ok (.aload_n 0, 1) := by decide +kernel
theorem dX11_init_1 : decode cX11_init 1 = .ok (.invokespecial 1, 3) := by decide +kernel
theorem dX11_init_4 : decode cX11_init 4 = .ok (.aload_n 0, 1) := by decide +kernel
theorem dX11_init_5 : decode cX11_init 5 = .ok (.new 7, 3) := by decide +kernel
theorem dX11_init_8 : decode cX11_init 8 = .ok (.dup, 1) := by decide +kernel
theorem dX11_init_9 : decode cX11_init 9 = .ok (.invokespecial 9, 3) := by decide +kernel
theorem dX11_init_12 : decode cX11_init 12 = .ok (.putfield 10, 3) := by decide +kernel
theorem dX11_init_15 : decode cX11_init 15 = .ok (.aload_n 0, 1) := by decide +kernel
theorem dX11_init_16 : decode cX11_init 16 = .ok (.new 16, 3) := by decide +kernel
theorem dX11_init_19 : decode cX11_init 19 = .ok (.dup, 1) := by decide +kernel
theorem dX11_init_20 : decode cX11_init 20 = .ok (.invokespecial 18, 3) := by decide +kernel
theorem dX11_init_23 : decode cX11_init 23 = .ok (.putfield 19, 3) := by decide +kernel
theorem dX11_init_26 : decode cX11_init 26 = .ok (.aload_n 0, 1) := by decide +kernel
theorem dX11_init_27 : decode cX11_init 27 = .ok (.new 23, 3) := by decide +kernel
theorem dX11_init_30 : decode cX11_init 30 = .ok (.dup, 1) := by decide +kernel
theorem dX11_init_31 : decode cX11_init 31 = .ok (.aload_n 0, 1) := by decide +kernel
theorem dX11_init_32 : decode cX11_init 32 = .ok (.getfield 19, 3) := by decide +kernel
theorem dX11_init_35 : decode cX11_init 35 = .ok (.invokespecial 25, 3) := by decide +kernel
theorem dX11_init_38 : decode cX11_init 38 = .ok (.putfield 28, 3) := by decide +kernel
theorem dX11_init_41 : decode cX11_init 41 = .ok (.aload_n 0, 1) := by decide +kernel
theorem dX11_init_42 : decode cX11_init 42 = .ok (.new 32, 3) := by decide +kernel
theorem dX11_init_45 : decode cX11_init 45 = .ok (.dup, 1) := by decide +kernel
theorem dX11_init_46 : decode cX11_init 46 = .ok (.aload_n 0, 1) := by decide +kernel
theorem dX11_init_47 : decode cX11_init 47 = .ok (.getfield 19, 3) := by decide +kernel
theorem dX11_init_50 : decode cX11_init 50 = .ok (.invokespecial 34, 3) := by decide +kernel
theorem dX11_init_53 : decode cX11_init 53 = .ok (.putfield 35, 3) := by decide +kernel
theorem dX11_init_56 : decode cX11_init 56 = .ok (.return_, 1) := by decide +kernel
def w_X11_init  (v0 : Nat) (h : AH) (Q : AH → Prop) : Prop :=
  wO h 6 fun a1 h =>
  w_X6_init a1 h (fun h =>
  uO h v0 11 0 (some a1) fun h =>
  wO h 7 fun a2 h =>
  w_X7_init a2 h (fun h =>
  uO h v0 11 1 (some a2) fun h =>
  wO h 0 fun a3 h =>
  fN h v0 11 1 fun a4 =>
  w_X0_init a3 a4 h (fun h =>
  uO h v0 11 2 (some a3) fun h =>
  wO h 8 fun a5 h =>
  fN h v0 11 1 fun a6 =>
  w_X8_init a5 a6 h (fun h =>
  uO h v0 11 3 (some a5) fun h =>
  Q h))))
set_option maxRecDepth 100000 in
set_option maxHeartbeats 4000000 in
theorem s_X11_init {l : Launch}  {v0 : Nat} {h : AH} {Q : AH → Prop}  (hw : w_X11_init  v0 h Q) : CT l yX11_init cX11_init 1 none 3 48 3624 [.ref v0] h (QV Q) := by
  refine CT.of (by decide) ⟨rfl, trivial⟩ (Nat.le_of_ble_eq_true rfl) ?_
  intro p e s m args below meth c g C hr hin
  refine v_eq (pc' := 0) (ls' := [(0, .ref v0)]) rfl rfl rfl rfl ?_
  refine v_aload_n C dX11_init_0 0 rfl rfl ?_
  refine v_objInit C (tb1 (List.mem_of_getElem? (i := 35) rfl)) (tb1 (List.mem_of_getElem? (i := 36) rfl)) (tb1 (List.mem_of_getElem? (i := 37) rfl)) dX11_init_1 (by decide) (by decide) ?_
  refine v_aload_n C dX11_init_4 0 rfl rfl ?_
  refine v_new (r := (RX6, TX6, 10)) (N := 10) (ci := 6) C tyX6 rfl iw_X6 tyX6_ok df_X6 (tb1 (List.mem_of_getElem? (i := 38) rfl)) (tb1 (List.mem_of_getElem? (i := 39) rfl)) (tb1 (List.mem_of_getElem? (i := 2) rfl)) rfl dX11_init_5 (by decide) (by decide) (fun a1 hn => ?_)
  have hw := hw a1 hn
  generalize nO h a1 6 = h at hw ⊢
  refine v_dup C dX11_init_8 rfl ?_
  refine w_callIv (st := [.ref a1, .ref v0]) C cl_X11_9 im_X6_init rfl (s_X6_init hw) rfl dX11_init_9 rfl (Nat.le_of_ble_eq_true rfl) (by decide) (by decide) (by decide) (by decide) (fun h hw => ?_)
  refine w_putN C fp_X11_10 (Or.inr ⟨hin, rfl, rfl, (tb2 (List.mem_of_getElem? (i := 138) rfl))⟩) dX11_init_12 hw (fun h hw => ?_)
  refine v_aload_n C dX11_init_15 0 rfl rfl ?_
  refine v_new (r := (RX7, TX7, 13)) (N := 13) (ci := 7) C tyX7 rfl iw_X7 tyX7_ok df_X7 (tb1 (List.mem_of_getElem? (i := 78) rfl)) (tb1 (List.mem_of_getElem? (i := 79) rfl)) (tb1 (List.mem_of_getElem? (i := 3) rfl)) rfl dX11_init_16 (by decide) (by decide) (fun a2 hn => ?_)
  have hw := hw a2 hn
  generalize nO h a2 7 = h at hw ⊢
  refine v_dup C dX11_init_19 rfl ?_
  refine w_callIv (st := [.ref a2, .ref v0]) C cl_X11_18 im_X7_init rfl (s_X7_init hw) rfl dX11_init_20 rfl (Nat.le_of_ble_eq_true rfl) (by decide) (by decide) (by decide) (by decide) (fun h hw => ?_)
  refine w_putN C fp_X11_19 (Or.inr ⟨hin, rfl, rfl, (tb2 (List.mem_of_getElem? (i := 139) rfl))⟩) dX11_init_23 hw (fun h hw => ?_)
  refine v_aload_n C dX11_init_26 0 rfl rfl ?_
  refine v_new (r := (RX0, TX0, 2)) (N := 2) (ci := 0) C tyX0 rfl iw_X0 tyX0_ok df_X0 (tb2 (List.mem_of_getElem? (i := 90) rfl)) (tb2 (List.mem_of_getElem? (i := 91) rfl)) (tb1 (List.mem_of_getElem? (i := 9) rfl)) rfl dX11_init_27 (by decide) (by decide) (fun a3 hn => ?_)
  have hw := hw a3 hn
  generalize nO h a3 0 = h at hw ⊢
  refine v_dup C dX11_init_30 rfl ?_
  refine v_aload_n C dX11_init_31 0 rfl rfl ?_
  refine w_getN C fl_X11_19 dX11_init_32 rfl hw (fun a4 hw => ?_)
  refine w_callIv (st := [.ref a3, .ref v0]) C cl_X11_25 im_X0_init rfl (s_X0_init hw) rfl dX11_init_35 rfl (Nat.le_of_ble_eq_true rfl) (by decide) (by decide) (by decide) (by decide) (fun h hw => ?_)
  refine w_putN C fp_X11_28 (Or.inr ⟨hin, rfl, rfl, (tb2 (List.mem_of_getElem? (i := 140) rfl))⟩) dX11_init_38 hw (fun h hw => ?_)
  refine v_aload_n C dX11_init_41 0 rfl rfl ?_
  refine v_new (r := (RX8, TX8, 9)) (N := 9) (ci := 8) C tyX8 rfl iw_X8 tyX8_ok df_X8 (tb2 (List.mem_of_getElem? (i := 103) rfl)) (tb2 (List.mem_of_getElem? (i := 104) rfl)) (tb1 (List.mem_of_getElem? (i := 10) rfl)) rfl dX11_init_42 (by decide) (by decide) (fun a5 hn => ?_)
  have hw := hw a5 hn
  generalize nO h a5 8 = h at hw ⊢
  refine v_dup C dX11_init_45 rfl ?_
  refine v_aload_n C dX11_init_46 0 rfl rfl ?_
  refine w_getN C fl_X11_19 dX11_init_47 rfl hw (fun a6 hw => ?_)
  refine w_callIv (st := [.ref a5, .ref v0]) C cl_X11_34 im_X8_init rfl (s_X8_init hw) rfl dX11_init_50 rfl (Nat.le_of_ble_eq_true rfl) (by decide) (by decide) (by decide) (by decide) (fun h hw => ?_)
  refine w_putN C fp_X11_35 (Or.inr ⟨hin, rfl, rfl, (tb2 (List.mem_of_getElem? (i := 141) rfl))⟩) dX11_init_53 hw (fun h hw => ?_)
  exact (rt_MQ C _).2.2.1 _ _ _ _ _ hr dX11_init_56 (by decide) (by decide) ⟨rfl, hw⟩
-- GrassField.needNumber(II)V
theorem dX11_needNumber_0 : decode cX11_needNumber 0 = .ok (.iload_n 0, 1) := by decide +kernel
theorem dX11_needNumber_1 : decode cX11_needNumber 1 = .ok (.ifCond .lt 8, 3) := by decide +kernel
theorem dX11_needNumber_4 : decode cX11_needNumber 4 = .ok (.iload_n 0, 1) := by decide +kernel
theorem dX11_needNumber_5 : decode cX11_needNumber 5 = .ok (.iload_n 1, 1) := by decide +kernel
theorem dX11_needNumber_6 : decode cX11_needNumber 6 = .ok (.if_icmp .lt 14, 3) := by decide +kernel
theorem dX11_needNumber_9 : decode cX11_needNumber 9 = .ok (.new 375, 3) := by decide +kernel
theorem dX11_needNumber_12 : decode cX11_needNumber 12 = .ok (.dup, 1) := by decide +kernel
theorem dX11_needNumber_13 : decode cX11_needNumber 13 = .ok (.ldc_w 377, 3) := by decide +kernel
theorem dX11_needNumber_16 : decode cX11_needNumber 16 = .ok (.invokespecial 379, 3) := by decide +kernel
theorem dX11_needNumber_19 : decode cX11_needNumber 19 = .ok (.athrow, 1) := by decide +kernel
theorem dX11_needNumber_20 : decode cX11_needNumber 20 = .ok (.return_, 1) := by decide +kernel
def w_X11_needNumber_9  (h : AH) (Q : AH → Prop) (X : String → AH → Prop) : Prop :=
  X "java/lang/IndexOutOfBoundsException" h
def w_X11_needNumber  (v0 : Int32) (v1 : Int32) (h : AH) (Q : AH → Prop) (X : String → AH → Prop) : Prop :=
  br (v0 < 0) (
    w_X11_needNumber_9  h Q X) (
    br (v0 < v1) (
      Q h) (
      w_X11_needNumber_9  h Q X))
set_option maxRecDepth 100000 in
set_option maxHeartbeats 4000000 in
theorem s_X11_needNumber_9 {p : Program} {l : Launch} {e : Env} {s : State} {m : MethodId} {args : Array Value} {below : List Frame} {meth : Method} {c : Code} {g : GG}  {Q : AH → Prop} {X : String → AH → Prop}  (C : CXT p l s m args meth c RX11 cX11_needNumber 2 g) (hr : meth.sig.returnType = none) (htb : ∀ x ∈ c.exceptionTable.toList, False)  : ∀  (h : AH), w_X11_needNumber_9  h Q X → V p l e s m args below meth c g 6 1 6 2 0 0 (vx_MQ below (QCx g (QV Q)) (XCx g X) args s 1 6 (gA g)) 9 [] [] h := by
  intro  h hw
  exact v_throwSW (names := ["java/lang/RuntimeException", "java/lang/Exception"]) (ti := 0) (text := "there is none of this number") C htb rfl (by decide +kernel) (tb3 (List.mem_of_getElem? (i := 101) rfl)) (tb1 (List.mem_of_getElem? (i := 15) rfl)) (List.mem_of_getElem? (i := 0) rfl) (fun w hw => cx_w C (th_X11_377.2 w hw).1 (th_X11_377.2 w hw).2) (List.forall_mem_cons.mpr ⟨rfl, List.forall_mem_cons.mpr ⟨rfl, th_X11_377.1⟩⟩) dX11_needNumber_9 dX11_needNumber_12 dX11_needNumber_13 dX11_needNumber_16 dX11_needNumber_19 (by decide) (by decide) (by decide) (by decide) (by decide) hw
set_option maxRecDepth 100000 in
set_option maxHeartbeats 4000000 in
theorem s_X11_needNumber {l : Launch}  {v0 : Int32} {v1 : Int32} {h : AH} {Q : AH → Prop} {X : String → AH → Prop}  (hw : w_X11_needNumber  v0 v1 h Q X) : CX l yX11_needNumber cX11_needNumber 2 none 6 1 6 [.int v0, .int v1] h (QV Q) X := by
  refine CX.of (by decide) ⟨rfl, ⟨rfl, trivial⟩⟩ (Nat.le_of_ble_eq_true rfl) ?_
  intro p e s m args below meth c g C hr htb
  refine v_eq (pc' := 0) (ls' := [(0, .int v0), (1, .int v1)]) rfl rfl rfl rfl ?_
  refine v_iload_n C dX11_needNumber_0 0 rfl rfl ?_
  refine v_if_lt (tgt := 9) C dX11_needNumber_1 (by decide) (fun c_1 => ?_) (fun c_1 => ?_)
  · have hw := hw.1 c_1
    refine v_sub [] rfl ?_
    exact s_X11_needNumber_9 C hr htb   _ hw
  · have hw := hw.2 c_1
    refine v_iload_n C dX11_needNumber_4 0 rfl rfl ?_
    refine v_iload_n C dX11_needNumber_5 1 rfl rfl ?_
    refine v_icmp_lt (tgt := 20) C dX11_needNumber_6 (by decide) (fun c_6 => ?_) (fun c_6 => ?_)
    · have hw := hw.1 c_6
      exact (rt_VX C _ _).2.2.1 _ _ _ _ _ hr dX11_needNumber_20 (by decide) (by decide) ⟨rfl, hw⟩
    · have hw := hw.2 c_6
      refine v_sub [] rfl ?_
      exact s_X11_needNumber_9 C hr htb   _ hw
-- GrassField.about(II)I
theorem dX11_about_0 : decode cX11_about 0 = .ok (.aload_n 0, 1) := by decide +kernel
theorem dX11_about_1 : decode cX11_about 1 = .ok (.getfield 19, 3) := by decide +kernel
theorem dX11_about_4 : decode cX11_about 4 = .ok (.getfield 178, 3) := by decide +kernel
theorem dX11_about_7 : decode cX11_about 7 = .ok (.astore_n 3, 1) := by decide +kernel
theorem dX11_about_8 : decode cX11_about 8 = .ok (.iload_n 1, 1) := by decide +kernel
theorem dX11_about_9 : decode cX11_about 9 = .ok (.aload_n 3, 1) := by decide +kernel
theorem dX11_about_10 : decode cX11_about 10 = .ok (.getfield 182, 3) := by decide +kernel
theorem dX11_about_13 : decode cX11_about 13 = .ok (.invokestatic 119, 3) := by decide +kernel
theorem dX11_about_16 : decode cX11_about 16 = .ok (.iload_n 2, 1) := by decide +kernel
theorem dX11_about_17 : decode cX11_about 17 = .ok (.tableswitch 116 0 7 #[47, 54, 61, 68, 75, 93, 102, 109], 47) := by decide +kernel
theorem dX11_about_64 : decode cX11_about 64 = .ok (.aload_n 3, 1) := by decide +kernel
theorem dX11_about_65 : decode cX11_about 65 = .ok (.getfield 189, 3) := by decide +kernel
theorem dX11_about_68 : decode cX11_about 68 = .ok (.iload_n 1, 1) := by decide +kernel
theorem dX11_about_69 : decode cX11_about 69 = .ok (.iaload, 1) := by decide +kernel
theorem dX11_about_70 : decode cX11_about 70 = .ok (.ireturn, 1) := by decide +kernel
theorem dX11_about_71 : decode cX11_about 71 = .ok (.aload_n 3, 1) := by decide +kernel
theorem dX11_about_72 : decode cX11_about 72 = .ok (.getfield 192, 3) := by decide +kernel
theorem dX11_about_75 : decode cX11_about 75 = .ok (.iload_n 1, 1) := by decide +kernel
theorem dX11_about_76 : decode cX11_about 76 = .ok (.iaload, 1) := by decide +kernel
theorem dX11_about_77 : decode cX11_about 77 = .ok (.ireturn, 1) := by decide +kernel
theorem dX11_about_78 : decode cX11_about 78 = .ok (.aload_n 3, 1) := by decide +kernel
theorem dX11_about_79 : decode cX11_about 79 = .ok (.getfield 193, 3) := by decide +kernel
theorem dX11_about_82 : decode cX11_about 82 = .ok (.iload_n 1, 1) := by decide +kernel
theorem dX11_about_83 : decode cX11_about 83 = .ok (.iaload, 1) := by decide +kernel
theorem dX11_about_84 : decode cX11_about 84 = .ok (.ireturn, 1) := by decide +kernel
theorem dX11_about_85 : decode cX11_about 85 = .ok (.aload_n 3, 1) := by decide +kernel
theorem dX11_about_86 : decode cX11_about 86 = .ok (.getfield 196, 3) := by decide +kernel
theorem dX11_about_89 : decode cX11_about 89 = .ok (.iload_n 1, 1) := by decide +kernel
theorem dX11_about_90 : decode cX11_about 90 = .ok (.iaload, 1) := by decide +kernel
theorem dX11_about_91 : decode cX11_about 91 = .ok (.ireturn, 1) := by decide +kernel
theorem dX11_about_92 : decode cX11_about 92 = .ok (.aload_n 3, 1) := by decide +kernel
theorem dX11_about_93 : decode cX11_about 93 = .ok (.iload_n 1, 1) := by decide +kernel
theorem dX11_about_94 : decode cX11_about 94 = .ok (.aload_n 3, 1) := by decide +kernel
theorem dX11_about_95 : decode cX11_about 95 = .ok (.invokevirtual 199, 3) := by decide +kernel
theorem dX11_about_98 : decode cX11_about 98 = .ok (.invokevirtual 203, 3) := by decide +kernel
theorem dX11_about_101 : decode cX11_about 101 = .ok (.ifCond .eq 7, 3) := by decide +kernel
theorem dX11_about_104 : decode cX11_about 104 = .ok (.iconst 1, 1) := by decide +kernel
theorem dX11_about_105 : decode cX11_about 105 = .ok (.goto 4, 3) := by decide +kernel
theorem dX11_about_108 : decode cX11_about 108 = .ok (.iconst 0, 1) := by decide +kernel
theorem dX11_about_109 : decode cX11_about 109 = .ok (.ireturn, 1) := by decide +kernel
theorem dX11_about_110 : decode cX11_about 110 = .ok (.aload_n 0, 1) := by decide +kernel
theorem dX11_about_111 : decode cX11_about 111 = .ok (.getfield 19, 3) := by decide +kernel
theorem dX11_about_114 : decode cX11_about 114 = .ok (.iload_n 1, 1) := by decide +kernel
theorem dX11_about_115 : decode cX11_about 115 = .ok (.invokevirtual 206, 3) := by decide +kernel
theorem dX11_about_118 : decode cX11_about 118 = .ok (.ireturn, 1) := by decide +kernel
theorem dX11_about_119 : decode cX11_about 119 = .ok (.aload_n 3, 1) := by decide +kernel
theorem dX11_about_120 : decode cX11_about 120 = .ok (.getfield 209, 3) := by decide +kernel
theorem dX11_about_123 : decode cX11_about 123 = .ok (.iload_n 1, 1) := by decide +kernel
theorem dX11_about_124 : decode cX11_about 124 = .ok (.iaload, 1) := by decide +kernel
theorem dX11_about_125 : decode cX11_about 125 = .ok (.ireturn, 1) := by decide +kernel
theorem dX11_about_126 : decode cX11_about 126 = .ok (.aload_n 3, 1) := by decide +kernel
theorem dX11_about_127 : decode cX11_about 127 = .ok (.getfield 212, 3) := by decide +kernel
theorem dX11_about_130 : decode cX11_about 130 = .ok (.iload_n 1, 1) := by decide +kernel
theorem dX11_about_131 : decode cX11_about 131 = .ok (.iaload, 1) := by decide +kernel
theorem dX11_about_132 : decode cX11_about 132 = .ok (.ireturn, 1) := by decide +kernel
theorem dX11_about_133 : decode cX11_about 133 = .ok (.new 161, 3) := by decide +kernel
theorem dX11_about_136 : decode cX11_about 136 = .ok (.dup, 1) := by decide +kernel
theorem dX11_about_137 : decode cX11_about 137 = .ok (.ldc 215, 2) := by decide +kernel
theorem dX11_about_139 : decode cX11_about 139 = .ok (.invokespecial 165, 3) := by decide +kernel
theorem dX11_about_142 : decode cX11_about 142 = .ok (.athrow, 1) := by decide +kernel
def w_X11_about_109  (t0 : Int32) (h : AH) (Q : Int32 → AH → Prop) (X : String → AH → Prop) : Prop :=
  Q t0 h
def w_X11_about  (v0 : Nat) (v1 : Int32) (v2 : Int32) (h : AH) (Q : Int32 → AH → Prop) (X : String → AH → Prop) : Prop :=
  fN h v0 11 1 fun a1 =>
  fN h a1 7 3 fun a2 =>
  fI h a2 1 0 fun x3 =>
  w_X11_needNumber v1 x3 h (fun h =>
  br (v2 = 0) (
      fN h a2 1 1 fun a4 =>
      aI h a4 v1 fun x5 =>
      Q x5 h) (
  br (v2 = 1) (
      fN h a2 1 2 fun a6 =>
      aI h a6 v1 fun x7 =>
      Q x7 h) (
  br (v2 = 2) (
      fN h a2 1 3 fun a8 =>
      aI h a8 v1 fun x9 =>
      Q x9 h) (
  br (v2 = 3) (
      fN h a2 1 4 fun a10 =>
      aI h a10 v1 fun x11 =>
      Q x11 h) (
  br (v2 = 4) (
      vr h a2 1 (
      w_X1_nearRows a2 h (fun x12 h =>
      vr h a2 1 (
      w_X1_isSeen a2 v1 x12 h (fun x13 h =>
      br (x13 = 0) (
        w_X11_about_109 (0 : Int32) h Q X) (
        w_X11_about_109 (1 : Int32) h Q X)))))) (
  br (v2 = 5) (
      fN h v0 11 1 fun a14 =>
      vr h a14 7 (
      w_X7_gunsOf a14 v1 h (fun x15 h =>
      Q x15 h))) (
  br (v2 = 6) (
      fN h a2 1 5 fun a16 =>
      aI h a16 v1 fun x17 =>
      Q x17 h) (
  br (v2 = 7) (
      fN h a2 1 6 fun a18 =>
      aI h a18 v1 fun x19 =>
      Q x19 h) (
    X "java/util/NoSuchElementException" h))))))))) X
set_option maxRecDepth 100000 in
set_option maxHeartbeats 4000000 in
theorem s_X11_about_109 {p : Program} {l : Launch} {e : Env} {s : State} {m : MethodId} {args : Array Value} {below : List Frame} {meth : Method} {c : Code} {g : GG}  {Q : Int32 → AH → Prop} {X : String → AH → Prop}  (C : CXT p l s m args meth c RX11 cX11_about 4 g) (hr : meth.sig.returnType = (some .int)) (htb : ∀ x ∈ c.exceptionTable.toList, False)  : ∀ (t0 : Int32) (h : AH), w_X11_about_109  t0 h Q X → V p l e s m args below meth c g 7 2 12 4 1 6 (vx_MQ below (QCx g (QI Q)) (XCx g X) args s 2 12 (gA g)) 109 [] [.int t0] h := by
  intro t0 h hw
  exact (rt_VX C _ _).1 _ _ _ _ _ _ hr dX11_about_109 (by decide) (by decide) ⟨_, rfl, hw⟩
set_option maxRecDepth 100000 in
set_option maxHeartbeats 4000000 in
theorem s_X11_about {l : Launch}  {v0 : Nat} {v1 : Int32} {v2 : Int32} {h : AH} {Q : Int32 → AH → Prop} {X : String → AH → Prop}  (hw : w_X11_about  v0 v1 v2 h Q X) : CX l yX11_about cX11_about 4 (some .int) 7 2 12 [.ref v0, .int v1, .int v2] h (QI Q) X := by
  refine CX.of (by decide) ⟨rfl, ⟨rfl, ⟨rfl, trivial⟩⟩⟩ (Nat.le_of_ble_eq_true rfl) ?_
  intro p e s m args below meth c g C hr htb
  refine v_eq (pc' := 0) (ls' := [(0, .ref v0), (1, .int v1), (2, .int v2)]) rfl rfl rfl rfl ?_
  refine v_aload_n C dX11_about_0 0 rfl rfl ?_
  refine w_getN C fl_X11_19 dX11_about_1 rfl hw (fun a1 hw => ?_)
  refine w_getN C fl_X11_178 dX11_about_4 rfl hw (fun a2 hw => ?_)
  refine v_astore_n (ls' := [(3, .ref a2), (0, .ref v0), (1, .int v1), (2, .int v2)]) C dX11_about_7 rfl (by decide) rfl ?_
  refine v_iload_n C dX11_about_8 2 rfl rfl ?_
  refine v_aload_n C dX11_about_9 0 rfl rfl ?_
  refine w_getI C fl_X11_182 dX11_about_10 rfl hw (fun x3 hw => ?_)
  refine w_callXSv (st := []) C cl_X11_119 lk_X11_119 st_X11_needNumber (s_X11_needNumber hw) rfl dX11_about_13 rfl (by decide) (by decide) (by decide) (by decide) (by decide) (fun E h hx => tx_out C htb _ _ _ _ _ _ _ _ _ (by decide) (by decide) hx) (fun h hw => ?_)
  refine v_iload_n C dX11_about_16 3 rfl rfl ?_
  refine v_tsw C (td := 133) dX11_about_17 (by decide) ?_ (fun c_17 => ?_)
  · intro i hi hx
    rcases (show i = 0 ∨ i = 1 ∨ i = 2 ∨ i = 3 ∨ i = 4 ∨ i = 5 ∨ i = 6 ∨ i = 7 by omega) with rfl | rfl | rfl | rfl | rfl | rfl | rfl | rfl
    · refine ⟨_, 64, rfl, by decide, ?_⟩
      have hw := hw.1 (by rw [hx]; rfl)
      refine v_aload_n C dX11_about_64 0 rfl rfl ?_
      refine w_getN C fl_X11_189 dX11_about_65 rfl hw (fun a4 hw => ?_)
      refine v_iload_n C dX11_about_68 2 rfl rfl ?_
      refine w_iaload C dX11_about_69 hw (fun x5 hw => ?_)
      exact (rt_VX C _ _).1 _ _ _ _ _ _ hr dX11_about_70 (by decide) (by decide) ⟨_, rfl, hw⟩
    · refine ⟨_, 71, rfl, by decide, ?_⟩
      have hw := hw.2 (by rw [hx]; decide)
      have hw := hw.1 (by rw [hx]; rfl)
      refine v_aload_n C dX11_about_71 0 rfl rfl ?_
      refine w_getN C fl_X11_192 dX11_about_72 rfl hw (fun a6 hw => ?_)
      refine v_iload_n C dX11_about_75 2 rfl rfl ?_
      refine w_iaload C dX11_about_76 hw (fun x7 hw => ?_)
      exact (rt_VX C _ _).1 _ _ _ _ _ _ hr dX11_about_77 (by decide) (by decide) ⟨_, rfl, hw⟩
    · refine ⟨_, 78, rfl, by decide, ?_⟩
      have hw := hw.2 (by rw [hx]; decide)
      have hw := hw.2 (by rw [hx]; decide)
      have hw := hw.1 (by rw [hx]; rfl)
      refine v_aload_n C dX11_about_78 0 rfl rfl ?_
      refine w_getN C fl_X11_193 dX11_about_79 rfl hw (fun a8 hw => ?_)
      refine v_iload_n C dX11_about_82 2 rfl rfl ?_
      refine w_iaload C dX11_about_83 hw (fun x9 hw => ?_)
      exact (rt_VX C _ _).1 _ _ _ _ _ _ hr dX11_about_84 (by decide) (by decide) ⟨_, rfl, hw⟩
    · refine ⟨_, 85, rfl, by decide, ?_⟩
      have hw := hw.2 (by rw [hx]; decide)
      have hw := hw.2 (by rw [hx]; decide)
      have hw := hw.2 (by rw [hx]; decide)
      have hw := hw.1 (by rw [hx]; rfl)
      refine v_aload_n C dX11_about_85 0 rfl rfl ?_
      refine w_getN C fl_X11_196 dX11_about_86 rfl hw (fun a10 hw => ?_)
      refine v_iload_n C dX11_about_89 2 rfl rfl ?_
      refine w_iaload C dX11_about_90 hw (fun x11 hw => ?_)
      exact (rt_VX C _ _).1 _ _ _ _ _ _ hr dX11_about_91 (by decide) (by decide) ⟨_, rfl, hw⟩
    · refine ⟨_, 92, rfl, by decide, ?_⟩
      have hw := hw.2 (by rw [hx]; decide)
      have hw := hw.2 (by rw [hx]; decide)
      have hw := hw.2 (by rw [hx]; decide)
      have hw := hw.2 (by rw [hx]; decide)
      have hw := hw.1 (by rw [hx]; rfl)
      refine v_aload_n C dX11_about_92 0 rfl rfl ?_
      refine v_iload_n C dX11_about_93 2 rfl rfl ?_
      refine v_aload_n C dX11_about_94 0 rfl rfl ?_
      refine w_callVi (st := [.int v1, .ref a2]) C cl_X11_199 im_X1_nearRows se_X1_nearRows rfl hw.1 (s_X1_nearRows hw.2) rfl dX11_about_95 rfl (Nat.le_of_ble_eq_true rfl) (by decide) (by decide) (by decide) (by decide) (fun x12 h hw => ?_)
      refine w_callVi (st := []) C cl_X11_203 im_X1_isSeen se_X1_isSeen rfl hw.1 (s_X1_isSeen hw.2) rfl dX11_about_98 rfl (by decide) (by decide) (by decide) (by decide) (by decide) (fun x13 h hw => ?_)
      refine v_if_eq (tgt := 108) C dX11_about_101 (by decide) (fun c_101 => ?_) (fun c_101 => ?_)
      · have hw := hw.1 c_101
        refine v_iconst (v := 0) C dX11_about_108 (by decide) ?_
        refine v_sub [] rfl ?_
        exact s_X11_about_109 C hr htb  _ _ hw
      · have hw := hw.2 c_101
        refine v_iconst (v := 1) C dX11_about_104 (by decide) ?_
        refine v_goto (tgt := 109) C dX11_about_105 (by decide) ?_
        refine v_sub [] rfl ?_
        exact s_X11_about_109 C hr htb  _ _ hw
    · refine ⟨_, 110, rfl, by decide, ?_⟩
      have hw := hw.2 (by rw [hx]; decide)
      have hw := hw.2 (by rw [hx]; decide)
      have hw := hw.2 (by rw [hx]; decide)
      have hw := hw.2 (by rw [hx]; decide)
      have hw := hw.2 (by rw [hx]; decide)
      have hw := hw.1 (by rw [hx]; rfl)
      refine v_aload_n C dX11_about_110 1 rfl rfl ?_
      refine w_getN C fl_X11_19 dX11_about_111 rfl hw (fun a14 hw => ?_)
      refine v_iload_n C dX11_about_114 2 rfl rfl ?_
      refine w_callVi (st := []) C cl_X11_206 im_X7_gunsOf se_X7_gunsOf rfl hw.1 (s_X7_gunsOf hw.2) rfl dX11_about_115 rfl (by decide) (by decide) (by decide) (by decide) (by decide) (fun x15 h hw => ?_)
      exact (rt_VX C _ _).1 _ _ _ _ _ _ hr dX11_about_118 (by decide) (by decide) ⟨_, rfl, hw⟩
    · refine ⟨_, 119, rfl, by decide, ?_⟩
      have hw := hw.2 (by rw [hx]; decide)
      have hw := hw.2 (by rw [hx]; decide)
      have hw := hw.2 (by rw [hx]; decide)
      have hw := hw.2 (by rw [hx]; decide)
      have hw := hw.2 (by rw [hx]; decide)
      have hw := hw.2 (by rw [hx]; decide)
      have hw := hw.1 (by rw [hx]; rfl)
      refine v_aload_n C dX11_about_119 0 rfl rfl ?_
      refine w_getN C fl_X11_209 dX11_about_120 rfl hw (fun a16 hw => ?_)
      refine v_iload_n C dX11_about_123 2 rfl rfl ?_
      refine w_iaload C dX11_about_124 hw (fun x17 hw => ?_)
      exact (rt_VX C _ _).1 _ _ _ _ _ _ hr dX11_about_125 (by decide) (by decide) ⟨_, rfl, hw⟩
    · refine ⟨_, 126, rfl, by decide, ?_⟩
      have hw := hw.2 (by rw [hx]; decide)
      have hw := hw.2 (by rw [hx]; decide)
      have hw := hw.2 (by rw [hx]; decide)
      have hw := hw.2 (by rw [hx]; decide)
      have hw := hw.2 (by rw [hx]; decide)
      have hw := hw.2 (by rw [hx]; decide)
      have hw := hw.2 (by rw [hx]; decide)
      have hw := hw.1 (by rw [hx]; rfl)
      refine v_aload_n C dX11_about_126 0 rfl rfl ?_
      refine w_getN C fl_X11_212 dX11_about_127 rfl hw (fun a18 hw => ?_)
      refine v_iload_n C dX11_about_130 2 rfl rfl ?_
      refine w_iaload C dX11_about_131 hw (fun x19 hw => ?_)
      exact (rt_VX C _ _).1 _ _ _ _ _ _ hr dX11_about_132 (by decide) (by decide) ⟨_, rfl, hw⟩
  · have hw := hw.2 (fun z => c_17 0 (by decide) (z.trans (by decide)))
    have hw := hw.2 (fun z => c_17 1 (by decide) (z.trans (by decide)))
    have hw := hw.2 (fun z => c_17 2 (by decide) (z.trans (by decide)))
    have hw := hw.2 (fun z => c_17 3 (by decide) (z.trans (by decide)))
    have hw := hw.2 (fun z => c_17 4 (by decide) (z.trans (by decide)))
    have hw := hw.2 (fun z => c_17 5 (by decide) (z.trans (by decide)))
    have hw := hw.2 (fun z => c_17 6 (by decide) (z.trans (by decide)))
    have hw := hw.2 (fun z => c_17 7 (by decide) (z.trans (by decide)))
    exact v_throwN false (ti := 6) (text := "nothing else is known of a find") C htb (tb5 (List.mem_of_getElem? (i := 45) rfl)) (tb1 (List.mem_of_getElem? (i := 27) rfl)) (List.mem_of_getElem? (i := 6) rfl) (fun w hw => cx_w C (thn_X11_165.2 w hw).1 (thn_X11_165.2 w hw).2) (List.forall_mem_cons.mpr ⟨rfl, List.forall_mem_cons.mpr ⟨rfl, thn_X11_165.1⟩⟩) dX11_about_133 dX11_about_136 dX11_about_137 dX11_about_139 dX11_about_142 (by decide) (by decide) (by decide) (by decide) hw
-- GrassField.apart()I
theorem dX11_apart_0 : decode cX11_apart 0 = .ok (.aload_n 0, 1) := by decide +kernel
theorem dX11_apart_1 : decode cX11_apart 1 = .ok (.getfield 35, 3) := by decide +kernel
theorem dX11_apart_4 : decode cX11_apart 4 = .ok (.invokevirtual 328, 3) := by decide +kernel
theorem dX11_apart_7 : decode cX11_apart 7 = .ok (.ireturn, 1) := by decide +kernel
def w_X11_apart  (v0 : Nat) (h : AH) (Q : Int32 → AH → Prop) : Prop :=
  fN h v0 11 3 fun a1 =>
  vr h a1 8 (
  w_X8_mostApart a1 h (fun x2 h =>
  Q x2 h))
set_option maxRecDepth 100000 in
set_option maxHeartbeats 4000000 in
theorem s_X11_apart {l : Launch}  {v0 : Nat} {h : AH} {Q : Int32 → AH → Prop}  (hw : w_X11_apart  v0 h Q) : CT l yX11_apart cX11_apart 1 (some .int) 6 0 0 [.ref v0] h (QI Q) := by
  refine CT.of (by decide) ⟨rfl, trivial⟩ (Nat.le_of_ble_eq_true rfl) ?_
  intro p e s m args below meth c g C hr hin
  refine v_eq (pc' := 0) (ls' := [(0, .ref v0)]) rfl rfl rfl rfl ?_
  refine v_aload_n C dX11_apart_0 0 rfl rfl ?_
  refine w_getN C fl_X11_35 dX11_apart_1 rfl hw (fun a1 hw => ?_)
  refine w_callVi (st := []) C cl_X11_328 im_X8_mostApart se_X8_mostApart rfl hw.1 (s_X8_mostApart hw.2) rfl dX11_apart_4 rfl (by decide) (by decide) (by decide) (by decide) (by decide) (fun x2 h hw => ?_)
  exact (rt_MQ C _).1 _ _ _ _ _ _ hr dX11_apart_7 (by decide) (by decide) ⟨_, rfl, hw⟩
-- GrassField.areMinutes(II)Z
theorem dX11_areMinutes_0 : decode cX11_areMinutes 0 = .ok (.iconst 0, 1) := by decide +kernel
theorem dX11_areMinutes_1 : decode cX11_areMinutes 1 = .ok (.iload_n 0, 1) := by decide +kernel
theorem dX11_areMinutes_2 : decode cX11_areMinutes 2 = .ok (.if_icmp .gt 19, 3) := by decide +kernel
theorem dX11_areMinutes_5 : decode cX11_areMinutes 5 = .ok (.iload_n 0, 1) := by decide +kernel
theorem dX11_areMinutes_6 : decode cX11_areMinutes 6 = .ok (.iload_n 1, 1) := by decide +kernel
theorem dX11_areMinutes_7 : decode cX11_areMinutes 7 = .ok (.if_icmp .gt 14, 3) := by decide +kernel
theorem dX11_areMinutes_10 : decode cX11_areMinutes 10 = .ok (.iload_n 1, 1) := by decide +kernel
theorem dX11_areMinutes_11 : decode cX11_areMinutes 11 = .ok (.sipush 239, 3) := by decide +kernel
theorem dX11_areMinutes_14 : decode cX11_areMinutes 14 = .ok (.if_icmp .gt 7, 3) := by decide +kernel
theorem dX11_areMinutes_17 : decode cX11_areMinutes 17 = .ok (.iconst 1, 1) := by decide +kernel
theorem dX11_areMinutes_18 : decode cX11_areMinutes 18 = .ok (.goto 4, 3) := by decide +kernel
theorem dX11_areMinutes_21 : decode cX11_areMinutes 21 = .ok (.iconst 0, 1) := by decide +kernel
theorem dX11_areMinutes_22 : decode cX11_areMinutes 22 = .ok (.ireturn, 1) := by decide +kernel
def w_X11_areMinutes_22  (t0 : Int32) (h : AH) (Q : Int32 → AH → Prop) : Prop :=
  z1 t0 (Q t0 h)
def w_X11_areMinutes_21  (h : AH) (Q : Int32 → AH → Prop) : Prop :=
  w_X11_areMinutes_22 (0 : Int32) h Q
def w_X11_areMinutes  (v0 : Int32) (v1 : Int32) (h : AH) (Q : Int32 → AH → Prop) : Prop :=
  br (v0 < (0 : Int32)) (
    w_X11_areMinutes_21  h Q) (
    br (v1 < v0) (
      w_X11_areMinutes_21  h Q) (
      br ((239 : Int32) < v1) (
        w_X11_areMinutes_21  h Q) (
        w_X11_areMinutes_22 (1 : Int32) h Q)))
set_option maxRecDepth 100000 in
set_option maxHeartbeats 4000000 in
theorem s_X11_areMinutes_22 {p : Program} {l : Launch} {e : Env} {s : State} {m : MethodId} {args : Array Value} {below : List Frame} {meth : Method} {c : Code} {g : GG}  {Q : Int32 → AH → Prop}  (C : CXT p l s m args meth c RX11 cX11_areMinutes 2 g) (hr : meth.sig.returnType = (some .boolean))  : ∀ (t0 : Int32) (h : AH), w_X11_areMinutes_22  t0 h Q → V p l e s m args below meth c g 0 0 0 2 0 0 (MQ below (QCx g (QI Q)) args s 0 0 (gA g)) 22 [] [.int t0] h := by
  intro t0 h hw
  exact (rt_MQ C _).2.1 _ _ _ _ _ _ _ hr (by rcases hw.1 with z | z <;> rw [z] <;> rfl) dX11_areMinutes_22 (by decide) (by decide) ⟨_, rfl, hw.2⟩
set_option maxRecDepth 100000 in
set_option maxHeartbeats 4000000 in
theorem s_X11_areMinutes_21 {p : Program} {l : Launch} {e : Env} {s : State} {m : MethodId} {args : Array Value} {below : List Frame} {meth : Method} {c : Code} {g : GG}  {Q : Int32 → AH → Prop}  (C : CXT p l s m args meth c RX11 cX11_areMinutes 2 g) (hr : meth.sig.returnType = (some .boolean))  : ∀  (h : AH), w_X11_areMinutes_21  h Q → V p l e s m args below meth c g 0 0 0 2 0 0 (MQ below (QCx g (QI Q)) args s 0 0 (gA g)) 21 [] [] h := by
  intro  h hw
  refine v_iconst (v := 0) C dX11_areMinutes_21 (by decide) ?_
  exact s_X11_areMinutes_22 C hr  _ _ hw
set_option maxRecDepth 100000 in
set_option maxHeartbeats 4000000 in
theorem s_X11_areMinutes {l : Launch}  {v0 : Int32} {v1 : Int32} {h : AH} {Q : Int32 → AH → Prop}  (hw : w_X11_areMinutes  v0 v1 h Q) : CT l yX11_areMinutes cX11_areMinutes 2 (some .boolean) 0 0 0 [.int v0, .int v1] h (QI Q) := by
  refine CT.of (by decide) ⟨rfl, ⟨rfl, trivial⟩⟩ (Nat.le_of_ble_eq_true rfl) ?_
  intro p e s m args below meth c g C hr hin
  refine v_eq (pc' := 0) (ls' := [(0, .int v0), (1, .int v1)]) rfl rfl rfl rfl ?_
  refine v_iconst (v := 0) C dX11_areMinutes_0 (by decide) ?_
  refine v_iload_n C dX11_areMinutes_1 0 rfl rfl ?_
  refine v_icmp_gt (tgt := 21) C dX11_areMinutes_2 (by decide) (fun c_2 => ?_) (fun c_2 => ?_)
  · have hw := hw.1 c_2
    refine v_sub [] rfl ?_
    exact s_X11_areMinutes_21 C hr   _ hw
  · have hw := hw.2 c_2
    refine v_iload_n C dX11_areMinutes_5 0 rfl rfl ?_
    refine v_iload_n C dX11_areMinutes_6 1 rfl rfl ?_
    refine v_icmp_gt (tgt := 21) C dX11_areMinutes_7 (by decide) (fun c_7 => ?_) (fun c_7 => ?_)
    · have hw := hw.1 c_7
      refine v_sub [] rfl ?_
      exact s_X11_areMinutes_21 C hr   _ hw
    · have hw := hw.2 c_7
      refine v_iload_n C dX11_areMinutes_10 1 rfl rfl ?_
      refine v_sipush (v := 239) C dX11_areMinutes_11 (by decide) ?_
      refine v_icmp_gt (tgt := 21) C dX11_areMinutes_14 (by decide) (fun c_14 => ?_) (fun c_14 => ?_)
      · have hw := hw.1 c_14
        refine v_sub [] rfl ?_
        exact s_X11_areMinutes_21 C hr   _ hw
      · have hw := hw.2 c_14
        refine v_iconst (v := 1) C dX11_areMinutes_17 (by decide) ?_
        refine v_goto (tgt := 22) C dX11_areMinutes_18 (by decide) ?_
        refine v_sub [] rfl ?_
        exact s_X11_areMinutes_22 C hr  _ _ hw
-- GrassField.back()Z
theorem dX11_back_0 : decode cX11_back 0 = .ok (.aload_n 0, 1) := by decide +kernel
theorem dX11_back_1 : decode cX11_back 1 = .ok (.getfield 363, 3) := by decide +kernel
theorem dX11_back_4 : decode cX11_back 4 = .ok (.ifnonnull 5, 3) := by decide +kernel
theorem dX11_back_7 : decode cX11_back 7 = .ok (.iconst 0, 1) := by decide +kernel
theorem dX11_back_8 : decode cX11_back 8 = .ok (.ireturn, 1) := by decide +kernel
theorem dX11_back_9 : decode cX11_back 9 = .ok (.aload_n 0, 1) := by decide +kernel
theorem dX11_back_10 : decode cX11_back 10 = .ok (.getfield 19, 3) := by decide +kernel
theorem dX11_back_13 : decode cX11_back 13 = .ok (.aload_n 0, 1) := by decide +kernel
theorem dX11_back_14 : decode cX11_back 14 = .ok (.getfield 363, 3) := by decide +kernel
theorem dX11_back_17 : decode cX11_back 17 = .ok (.invokevirtual 366, 3) := by decide +kernel
theorem dX11_back_20 : decode cX11_back 20 = .ok (.iconst 1, 1) := by decide +kernel
theorem dX11_back_21 : decode cX11_back 21 = .ok (.ireturn, 1) := by decide +kernel
def w_X11_back  (v0 : Nat) (h : AH) (Q : Int32 → AH → Prop) : Prop :=
  fO h v0 11 5 fun r1 =>
  br (r1 = none) (
    Q (0 : Int32) h) (
    fN h v0 11 1 fun a2 =>
    fO h v0 11 5 fun r3 =>
    nn r3 fun a4 =>
    vr h a2 7 (
    w_X7_become a2 a4 h (fun h =>
    Q (1 : Int32) h)))
set_option maxRecDepth 100000 in
set_option maxHeartbeats 4000000 in
theorem s_X11_back {l : Launch}  {v0 : Nat} {h : AH} {Q : Int32 → AH → Prop}  (hw : w_X11_back  v0 h Q) : CT l yX11_back cX11_back 1 (some .boolean) 3 0 0 [.ref v0] h (QI Q) := by
  refine CT.of (by decide) ⟨rfl, trivial⟩ (Nat.le_of_ble_eq_true rfl) ?_
  intro p e s m args below meth c g C hr hin
  refine v_eq (pc' := 0) (ls' := [(0, .ref v0)]) rfl rfl rfl rfl ?_
  refine v_aload_n C dX11_back_0 0 rfl rfl ?_
  refine w_getO C fl_X11_363 dX11_back_1 rfl hw (fun r1 hw => ?_)
  refine v_ifnonnull (tgt := 9) C dX11_back_4 (by decide) (fun a_4 c_4 => ?_) (fun c_4 => ?_)
  · have hw := hw.2 (by rw [c_4]; exact fun z => nomatch z)
    refine v_aload_n C dX11_back_9 0 rfl rfl ?_
    refine w_getN C fl_X11_19 dX11_back_10 rfl hw (fun a2 hw => ?_)
    refine v_aload_n C dX11_back_13 0 rfl rfl ?_
    refine w_getO C fl_X11_363 dX11_back_14 rfl hw (fun r3 hw => ?_)
    refine w_nn hw (fun a4 hw => ?_)
    refine w_callVv (st := []) C cl_X11_366 im_X7_become se_X7_become rfl hw.1 (s_X7_become hw.2) rfl dX11_back_17 rfl (by decide) (by decide) (by decide) (by decide) (by decide) (fun h hw => ?_)
    refine v_iconst (v := 1) C dX11_back_20 (by decide) ?_
    exact (rt_MQ C _).2.1 _ _ _ _ _ _ _ hr rfl dX11_back_21 (by decide) (by decide) ⟨_, rfl, hw⟩
  · have hw := hw.1 c_4
    refine v_iconst (v := 0) C dX11_back_7 (by decide) ?_
    exact (rt_MQ C _).2.1 _ _ _ _ _ _ _ hr rfl dX11_back_8 (by decide) (by decide) ⟨_, rfl, hw⟩
-- GrassField.isYear(I)Z
theorem dX11_isYear_0 : decode cX11_isYear 0 = .ok (.iload_n 0, 1) := by decide +kernel
theorem dX11_isYear_1 : decode cX11_isYear 1 = .ok (.sipush 1800, 3) := by decide +kernel
theorem dX11_isYear_4 : decode cX11_isYear 4 = .ok (.sipush 1999, 3) := by decide +kernel
theorem dX11_isYear_7 : decode cX11_isYear 7 = .ok (.invokestatic 54, 3) := by decide +kernel
theorem dX11_isYear_10 : decode cX11_isYear 10 = .ok (.ireturn, 1) := by decide +kernel
def w_X11_isYear  (v0 : Int32) (h : AH) (Q : Int32 → AH → Prop) : Prop :=
  w_X11_isWithin v0 (1800 : Int32) (1999 : Int32) h (fun x1 h =>
  z1 x1 (Q x1 h))
set_option maxRecDepth 100000 in
set_option maxHeartbeats 4000000 in
theorem s_X11_isYear {l : Launch}  {v0 : Int32} {h : AH} {Q : Int32 → AH → Prop}  (hw : w_X11_isYear  v0 h Q) : CT l yX11_isYear cX11_isYear 1 (some .boolean) 1 0 0 [.int v0] h (QI Q) := by
  refine CT.of (by decide) ⟨rfl, trivial⟩ (Nat.le_of_ble_eq_true rfl) ?_
  intro p e s m args below meth c g C hr hin
  refine v_eq (pc' := 0) (ls' := [(0, .int v0)]) rfl rfl rfl rfl ?_
  refine v_iload_n C dX11_isYear_0 0 rfl rfl ?_
  refine v_sipush (v := 1800) C dX11_isYear_1 (by decide) ?_
  refine v_sipush (v := 1999) C dX11_isYear_4 (by decide) ?_
  refine w_callSi (st := []) C cl_X11_54 st_X11_isWithin (s_X11_isWithin hw) rfl dX11_isYear_7 rfl (by decide) (by decide) (by decide) (by decide) (by decide) (fun x1 h hw => ?_)
  exact (rt_MQ C _).2.1 _ _ _ _ _ _ _ hr (by rcases hw.1 with z | z <;> rw [z] <;> rfl) dX11_isYear_10 (by decide) (by decide) ⟨_, rfl, hw.2⟩
-- GrassField.canBeOfKind(II)Z
theorem dX11_canBeOfKind_0 : decode cX11_canBeOfKind 0 = .ok (.iload_n 0, 1) := by decide +kernel
theorem dX11_canBeOfKind_1 : decode cX11_canBeOfKind 1 = .ok (.tableswitch 48 1 3 #[27, 34, 43], 27) := by decide +kernel
theorem dX11_canBeOfKind_28 : decode cX11_canBeOfKind 28 = .ok (.iload_n 1, 1) := by decide +kernel
theorem dX11_canBeOfKind_29 : decode cX11_canBeOfKind 29 = .ok (.iconst 0, 1) := by decide +kernel
theorem dX11_canBeOfKind_30 : decode cX11_canBeOfKind 30 = .ok (.iconst 1, 1) := by decide +kernel
theorem dX11_canBeOfKind_31 : decode cX11_canBeOfKind 31 = .ok (.invokestatic 54, 3) := by decide +kernel
theorem dX11_canBeOfKind_34 : decode cX11_canBeOfKind 34 = .ok (.ireturn, 1) := by decide +kernel
theorem dX11_canBeOfKind_35 : decode cX11_canBeOfKind 35 = .ok (.iload_n 1, 1) := by decide +kernel
theorem dX11_canBeOfKind_36 : decode cX11_canBeOfKind 36 = .ok (.iconst 1, 1) := by decide +kernel
theorem dX11_canBeOfKind_37 : decode cX11_canBeOfKind 37 = .ok (.sipush 255, 3) := by decide +kernel
theorem dX11_canBeOfKind_40 : decode cX11_canBeOfKind 40 = .ok (.invokestatic 54, 3) := by decide +kernel
theorem dX11_canBeOfKind_43 : decode cX11_canBeOfKind 43 = .ok (.ireturn, 1) := by decide +kernel
theorem dX11_canBeOfKind_44 : decode cX11_canBeOfKind 44 = .ok (.iload_n 1, 1) := by decide +kernel
theorem dX11_canBeOfKind_45 : decode cX11_canBeOfKind 45 = .ok (.invokestatic 80, 3) := by decide +kernel
theorem dX11_canBeOfKind_48 : decode cX11_canBeOfKind 48 = .ok (.ireturn, 1) := by decide +kernel
theorem dX11_canBeOfKind_49 : decode cX11_canBeOfKind 49 = .ok (.iconst 0, 1) := by decide +kernel
theorem dX11_canBeOfKind_50 : decode cX11_canBeOfKind 50 = .ok (.ireturn, 1) := by decide +kernel
def w_X11_canBeOfKind  (v0 : Int32) (v1 : Int32) (h : AH) (Q : Int32 → AH → Prop) : Prop :=
  br (v0 = 1) (
      w_X11_isWithin v1 (0 : Int32) (1 : Int32) h (fun x1 h =>
      z1 x1 (Q x1 h))) (
  br (v0 = 2) (
      w_X11_isWithin v1 (1 : Int32) (255 : Int32) h (fun x2 h =>
      z1 x2 (Q x2 h))) (
  br (v0 = 3) (
      w_X11_isYear v1 h (fun x3 h =>
      z1 x3 (Q x3 h))) (
    Q (0 : Int32) h)))
set_option maxRecDepth 100000 in
set_option maxHeartbeats 4000000 in
theorem s_X11_canBeOfKind {l : Launch}  {v0 : Int32} {v1 : Int32} {h : AH} {Q : Int32 → AH → Prop}  (hw : w_X11_canBeOfKind  v0 v1 h Q) : CT l yX11_canBeOfKind cX11_canBeOfKind 2 (some .boolean) 2 0 0 [.int v0, .int v1] h (QI Q) := by
  refine CT.of (by decide) ⟨rfl, ⟨rfl, trivial⟩⟩ (Nat.le_of_ble_eq_true rfl) ?_
  intro p e s m args below meth c g C hr hin
  refine v_eq (pc' := 0) (ls' := [(0, .int v0), (1, .int v1)]) rfl rfl rfl rfl ?_
  refine v_iload_n C dX11_canBeOfKind_0 0 rfl rfl ?_
  refine v_tsw C (td := 49) dX11_canBeOfKind_1 (by decide) ?_ (fun c_1 => ?_)
  · intro i hi hx
    rcases (show i = 0 ∨ i = 1 ∨ i = 2 by omega) with rfl | rfl | rfl
    · refine ⟨_, 28, rfl, by decide, ?_⟩
      have hw := hw.1 (by rw [hx]; rfl)
      refine v_iload_n C dX11_canBeOfKind_28 1 rfl rfl ?_
      refine v_iconst (v := 0) C dX11_canBeOfKind_29 (by decide) ?_
      refine v_iconst (v := 1) C dX11_canBeOfKind_30 (by decide) ?_
      refine w_callSi (st := []) C cl_X11_54 st_X11_isWithin (s_X11_isWithin hw) rfl dX11_canBeOfKind_31 rfl (by decide) (by decide) (by decide) (by decide) (by decide) (fun x1 h hw => ?_)
      exact (rt_MQ C _).2.1 _ _ _ _ _ _ _ hr (by rcases hw.1 with z | z <;> rw [z] <;> rfl) dX11_canBeOfKind_34 (by decide) (by decide) ⟨_, rfl, hw.2⟩
    · refine ⟨_, 35, rfl, by decide, ?_⟩
      have hw := hw.2 (by rw [hx]; decide)
      have hw := hw.1 (by rw [hx]; rfl)
      refine v_iload_n C dX11_canBeOfKind_35 1 rfl rfl ?_
      refine v_iconst (v := 1) C dX11_canBeOfKind_36 (by decide) ?_
      refine v_sipush (v := 255) C dX11_canBeOfKind_37 (by decide) ?_
      refine w_callSi (st := []) C cl_X11_54 st_X11_isWithin (s_X11_isWithin hw) rfl dX11_canBeOfKind_40 rfl (by decide) (by decide) (by decide) (by decide) (by decide) (fun x2 h hw => ?_)
      exact (rt_MQ C _).2.1 _ _ _ _ _ _ _ hr (by rcases hw.1 with z | z <;> rw [z] <;> rfl) dX11_canBeOfKind_43 (by decide) (by decide) ⟨_, rfl, hw.2⟩
    · refine ⟨_, 44, rfl, by decide, ?_⟩
      have hw := hw.2 (by rw [hx]; decide)
      have hw := hw.2 (by rw [hx]; decide)
      have hw := hw.1 (by rw [hx]; rfl)
      refine v_iload_n C dX11_canBeOfKind_44 1 rfl rfl ?_
      refine w_callSi (st := []) C cl_X11_80 st_X11_isYear (s_X11_isYear hw) rfl dX11_canBeOfKind_45 rfl (by decide) (by decide) (by decide) (by decide) (by decide) (fun x3 h hw => ?_)
      exact (rt_MQ C _).2.1 _ _ _ _ _ _ _ hr (by rcases hw.1 with z | z <;> rw [z] <;> rfl) dX11_canBeOfKind_48 (by decide) (by decide) ⟨_, rfl, hw.2⟩
  · have hw := hw.2 (fun z => c_1 0 (by decide) (z.trans (by decide)))
    have hw := hw.2 (fun z => c_1 1 (by decide) (z.trans (by decide)))
    have hw := hw.2 (fun z => c_1 2 (by decide) (z.trans (by decide)))
    refine v_iconst (v := 0) C dX11_canBeOfKind_49 (by decide) ?_
    exact (rt_MQ C _).2.1 _ _ _ _ _ _ _ hr rfl dX11_canBeOfKind_50 (by decide) (by decide) ⟨_, rfl, hw⟩
-- GrassField.could(IZ)Z
theorem dX11_could_0 : decode cX11_could 0 = .ok (.iload_n 1, 1) := by decide +kernel
theorem dX11_could_1 : decode cX11_could 1 = .ok (.aload_n 0, 1) := by decide +kernel
theorem dX11_could_2 : decode cX11_could 2 = .ok (.getfield 19, 3) := by decide +kernel
theorem dX11_could_5 : decode cX11_could 5 = .ok (.getfield 304, 3) := by decide +kernel
theorem dX11_could_8 : decode cX11_could 8 = .ok (.getfield 312, 3) := by decide +kernel
theorem dX11_could_11 : decode cX11_could 11 = .ok (.invokestatic 119, 3) := by decide +kernel
theorem dX11_could_14 : decode cX11_could 14 = .ok (.iload_n 2, 1) := by decide +kernel
theorem dX11_could_15 : decode cX11_could 15 = .ok (.ifCond .eq 14, 3) := by decide +kernel
theorem dX11_could_18 : decode cX11_could 18 = .ok (.aload_n 0, 1) := by decide +kernel
theorem dX11_could_19 : decode cX11_could 19 = .ok (.getfield 35, 3) := by decide +kernel
theorem dX11_could_22 : decode cX11_could 22 = .ok (.iload_n 1, 1) := by decide +kernel
theorem dX11_could_23 : decode cX11_could 23 = .ok (.invokevirtual 318, 3) := by decide +kernel
theorem dX11_could_26 : decode cX11_could 26 = .ok (.goto 21, 3) := by decide +kernel
theorem dX11_could_29 : decode cX11_could 29 = .ok (.aload_n 0, 1) := by decide +kernel
theorem dX11_could_30 : decode cX11_could 30 = .ok (.getfield 19, 3) := by decide +kernel
theorem dX11_could_33 : decode cX11_could 33 = .ok (.getfield 304, 3) := by decide +kernel
theorem dX11_could_36 : decode cX11_could 36 = .ok (.iload_n 1, 1) := by decide +kernel
theorem dX11_could_37 : decode cX11_could 37 = .ok (.aload_n 0, 1) := by decide +kernel
theorem dX11_could_38 : decode cX11_could 38 = .ok (.getfield 19, 3) := by decide +kernel
theorem dX11_could_41 : decode cX11_could 41 = .ok (.getfield 62, 3) := by decide +kernel
theorem dX11_could_44 : decode cX11_could 44 = .ok (.invokevirtual 321, 3) := by decide +kernel
theorem dX11_could_47 : decode cX11_could 47 = .ok (.ireturn, 1) := by decide +kernel
def w_X11_could_47  (t0 : Int32) (h : AH) (Q : Int32 → AH → Prop) (X : String → AH → Prop) : Prop :=
  z1 t0 (Q t0 h)
def w_X11_could  (v0 : Nat) (v1 : Int32) (v2 : Int32) (h : AH) (Q : Int32 → AH → Prop) (X : String → AH → Prop) : Prop :=
  fN h v0 11 1 fun a1 =>
  fN h a1 7 4 fun a2 =>
  fI h a2 9 5 fun x3 =>
  w_X11_needNumber v1 x3 h (fun h =>
  br (v2 = 0) (
    fN h v0 11 1 fun a4 =>
    fN h a4 7 4 fun a5 =>
    fN h v0 11 1 fun a6 =>
    fN h a6 7 0 fun a7 =>
    vr h a5 9 (
    w_X9_isPossible a5 v1 a7 h (fun x8 h =>
    w_X11_could_47 x8 h Q X))) (
    fN h v0 11 3 fun a9 =>
    vr h a9 8 (
    w_X8_isBorneOut a9 v1 h (fun x10 h =>
    w_X11_could_47 x10 h Q X)))) X
set_option maxRecDepth 100000 in
set_option maxHeartbeats 4000000 in
theorem s_X11_could_47 {p : Program} {l : Launch} {e : Env} {s : State} {m : MethodId} {args : Array Value} {below : List Frame} {meth : Method} {c : Code} {g : GG}  {Q : Int32 → AH → Prop} {X : String → AH → Prop}  (C : CXT p l s m args meth c RX11 cX11_could 3 g) (hr : meth.sig.returnType = (some .boolean)) (htb : ∀ x ∈ c.exceptionTable.toList, False)  : ∀ (t0 : Int32) (h : AH), w_X11_could_47  t0 h Q X → V p l e s m args below meth c g 7 1 6 3 1 6 (vx_MQ below (QCx g (QI Q)) (XCx g X) args s 1 6 (gA g)) 47 [] [.int t0] h := by
  intro t0 h hw
  exact (rt_VX C _ _).2.1 _ _ _ _ _ _ _ hr (by rcases hw.1 with z | z <;> rw [z] <;> rfl) dX11_could_47 (by decide) (by decide) ⟨_, rfl, hw.2⟩
set_option maxRecDepth 100000 in
set_option maxHeartbeats 4000000 in
theorem s_X11_could {l : Launch}  {v0 : Nat} {v1 : Int32} {v2 : Int32} {h : AH} {Q : Int32 → AH → Prop} {X : String → AH → Prop}  (hw : w_X11_could  v0 v1 v2 h Q X) : CX l yX11_could cX11_could 3 (some .boolean) 7 1 6 [.ref v0, .int v1, .int v2] h (QI Q) X := by
  refine CX.of (by decide) ⟨rfl, ⟨rfl, ⟨rfl, trivial⟩⟩⟩ (Nat.le_of_ble_eq_true rfl) ?_
  intro p e s m args below meth c g C hr htb
  refine v_eq (pc' := 0) (ls' := [(0, .ref v0), (1, .int v1), (2, .int v2)]) rfl rfl rfl rfl ?_
  refine v_iload_n C dX11_could_0 1 rfl rfl ?_
  refine v_aload_n C dX11_could_1 0 rfl rfl ?_
  refine w_getN C fl_X11_19 dX11_could_2 rfl hw (fun a1 hw => ?_)
  refine w_getN C fl_X11_304 dX11_could_5 rfl hw (fun a2 hw => ?_)
  refine w_getI C fl_X11_312 dX11_could_8 rfl hw (fun x3 hw => ?_)
  refine w_callXSv (st := []) C cl_X11_119 lk_X11_119 st_X11_needNumber (s_X11_needNumber hw) rfl dX11_could_11 rfl (by decide) (by decide) (by decide) (by decide) (by decide) (fun E h hx => tx_out C htb _ _ _ _ _ _ _ _ _ (by decide) (by decide) hx) (fun h hw => ?_)
  refine v_iload_n C dX11_could_14 2 rfl rfl ?_
  refine v_if_eq (tgt := 29) C dX11_could_15 (by decide) (fun c_15 => ?_) (fun c_15 => ?_)
  · have hw := hw.1 c_15
    refine v_aload_n C dX11_could_29 0 rfl rfl ?_
    refine w_getN C fl_X11_19 dX11_could_30 rfl hw (fun a4 hw => ?_)
    refine w_getN C fl_X11_304 dX11_could_33 rfl hw (fun a5 hw => ?_)
    refine v_iload_n C dX11_could_36 1 rfl rfl ?_
    refine v_aload_n C dX11_could_37 0 rfl rfl ?_
    refine w_getN C fl_X11_19 dX11_could_38 rfl hw (fun a6 hw => ?_)
    refine w_getN C fl_X11_62 dX11_could_41 rfl hw (fun a7 hw => ?_)
    refine w_callVi (st := []) C cl_X11_321 im_X9_isPossible se_X9_isPossible rfl hw.1 (s_X9_isPossible hw.2) rfl dX11_could_44 rfl (by decide) (by decide) (by decide) (by decide) (by decide) (fun x8 h hw => ?_)
    refine v_sub [] rfl ?_
    exact s_X11_could_47 C hr htb  _ _ hw
  · have hw := hw.2 c_15
    refine v_aload_n C dX11_could_18 0 rfl rfl ?_
    refine w_getN C fl_X11_35 dX11_could_19 rfl hw (fun a9 hw => ?_)
    refine v_iload_n C dX11_could_22 1 rfl rfl ?_
    refine w_callVi (st := []) C cl_X11_318 im_X8_isBorneOut se_X8_isBorneOut rfl hw.1 (s_X8_isBorneOut hw.2) rfl dX11_could_23 rfl (by decide) (by decide) (by decide) (by decide) (by decide) (fun x10 h hw => ?_)
    refine v_goto (tgt := 47) C dX11_could_26 (by decide) ?_
    refine v_sub [] rfl ?_
    exact s_X11_could_47 C hr htb  _ _ hw
-- GrassField.count(I)I
theorem dX11_count_0 : decode cX11_count 0 = .ok (.iload_n 1, 1) := by decide +kernel
theorem dX11_count_1 : decode cX11_count 1 = .ok (.tableswitch 189 0 11 #[63, 74, 85, 96, 104, 115, 126, 134, 145, 156, 164, 178], 63) := by decide +kernel
theorem dX11_count_64 : decode cX11_count 64 = .ok (.aload_n 0, 1) := by decide +kernel
theorem dX11_count_65 : decode cX11_count 65 = .ok (.getfield 19, 3) := by decide +kernel
theorem dX11_count_68 : decode cX11_count 68 = .ok (.getfield 84, 3) := by decide +kernel
theorem dX11_count_71 : decode cX11_count 71 = .ok (.getfield 88, 3) := by decide +kernel
theorem dX11_count_74 : decode cX11_count 74 = .ok (.ireturn, 1) := by decide +kernel
theorem dX11_count_75 : decode cX11_count 75 = .ok (.aload_n 0, 1) := by decide +kernel
theorem dX11_count_76 : decode cX11_count 76 = .ok (.getfield 19, 3) := by decide +kernel
theorem dX11_count_79 : decode cX11_count 79 = .ok (.getfield 122, 3) := by decide +kernel
theorem dX11_count_82 : decode cX11_count 82 = .ok (.getfield 131, 3) := by decide +kernel
theorem dX11_count_85 : decode cX11_count 85 = .ok (.ireturn, 1) := by decide +kernel
theorem dX11_count_86 : decode cX11_count 86 = .ok (.aload_n 0, 1) := by decide +kernel
theorem dX11_count_87 : decode cX11_count 87 = .ok (.getfield 19, 3) := by decide +kernel
theorem dX11_count_90 : decode cX11_count 90 = .ok (.getfield 122, 3) := by decide +kernel
theorem dX11_count_93 : decode cX11_count 93 = .ok (.invokevirtual 369, 3) := by decide +kernel
theorem dX11_count_96 : decode cX11_count 96 = .ok (.ireturn, 1) := by decide +kernel
theorem dX11_count_97 : decode cX11_count 97 = .ok (.aload_n 0, 1) := by decide +kernel
theorem dX11_count_98 : decode cX11_count 98 = .ok (.getfield 19, 3) := by decide +kernel
theorem dX11_count_101 : decode cX11_count 101 = .ok (.getfield 105, 3) := by decide +kernel
theorem dX11_count_104 : decode cX11_count 104 = .ok (.ireturn, 1) := by decide +kernel
theorem dX11_count_105 : decode cX11_count 105 = .ok (.aload_n 0, 1) := by decide +kernel
theorem dX11_count_106 : decode cX11_count 106 = .ok (.getfield 19, 3) := by decide +kernel
theorem dX11_count_109 : decode cX11_count 109 = .ok (.getfield 178, 3) := by decide +kernel
theorem dX11_count_112 : decode cX11_count 112 = .ok (.getfield 182, 3) := by decide +kernel
theorem dX11_count_115 : decode cX11_count 115 = .ok (.ireturn, 1) := by decide +kernel
theorem dX11_count_116 : decode cX11_count 116 = .ok (.aload_n 0, 1) := by decide +kernel
theorem dX11_count_117 : decode cX11_count 117 = .ok (.getfield 19, 3) := by decide +kernel
theorem dX11_count_120 : decode cX11_count 120 = .ok (.getfield 178, 3) := by decide +kernel
theorem dX11_count_123 : decode cX11_count 123 = .ok (.invokevirtual 226, 3) := by decide +kernel
theorem dX11_count_126 : decode cX11_count 126 = .ok (.ireturn, 1) := by decide +kernel
theorem dX11_count_127 : decode cX11_count 127 = .ok (.aload_n 0, 1) := by decide +kernel
theorem dX11_count_128 : decode cX11_count 128 = .ok (.getfield 19, 3) := by decide +kernel
theorem dX11_count_131 : decode cX11_count 131 = .ok (.getfield 171, 3) := by decide +kernel
theorem dX11_count_134 : decode cX11_count 134 = .ok (.ireturn, 1) := by decide +kernel
theorem dX11_count_135 : decode cX11_count 135 = .ok (.aload_n 0, 1) := by decide +kernel
theorem dX11_count_136 : decode cX11_count 136 = .ok (.getfield 19, 3) := by decide +kernel
theorem dX11_count_139 : decode cX11_count 139 = .ok (.getfield 304, 3) := by decide +kernel
theorem dX11_count_142 : decode cX11_count 142 = .ok (.getfield 308, 3) := by decide +kernel
theorem dX11_count_145 : decode cX11_count 145 = .ok (.ireturn, 1) := by decide +kernel
theorem dX11_count_146 : decode cX11_count 146 = .ok (.aload_n 0, 1) := by decide +kernel
theorem dX11_count_147 : decode cX11_count 147 = .ok (.getfield 19, 3) := by decide +kernel
theorem dX11_count_150 : decode cX11_count 150 = .ok (.getfield 304, 3) := by decide +kernel
theorem dX11_count_153 : decode cX11_count 153 = .ok (.getfield 312, 3) := by decide +kernel
theorem dX11_count_156 : decode cX11_count 156 = .ok (.ireturn, 1) := by decide +kernel
theorem dX11_count_157 : decode cX11_count 157 = .ok (.aload_n 0, 1) := by decide +kernel
theorem dX11_count_158 : decode cX11_count 158 = .ok (.getfield 19, 3) := by decide +kernel
theorem dX11_count_161 : decode cX11_count 161 = .ok (.getfield 347, 3) := by decide +kernel
theorem dX11_count_164 : decode cX11_count 164 = .ok (.ireturn, 1) := by decide +kernel
theorem dX11_count_165 : decode cX11_count 165 = .ok (.aload_n 0, 1) := by decide +kernel
theorem dX11_count_166 : decode cX11_count 166 = .ok (.getfield 19, 3) := by decide +kernel
theorem dX11_count_169 : decode cX11_count 169 = .ok (.getfield 178, 3) := by decide +kernel
theorem dX11_count_172 : decode cX11_count 172 = .ok (.getfield 229, 3) := by decide +kernel
theorem dX11_count_175 : decode cX11_count 175 = .ok (.invokestatic 248, 3) := by decide +kernel
theorem dX11_count_178 : decode cX11_count 178 = .ok (.ireturn, 1) := by decide +kernel
theorem dX11_count_179 : decode cX11_count 179 = .ok (.aload_n 0, 1) := by decide +kernel
theorem dX11_count_180 : decode cX11_count 180 = .ok (.getfield 19, 3) := by decide +kernel
theorem dX11_count_183 : decode cX11_count 183 = .ok (.getfield 84, 3) := by decide +kernel
theorem dX11_count_186 : decode cX11_count 186 = .ok (.invokevirtual 372, 3) := by decide +kernel
theorem dX11_count_189 : decode cX11_count 189 = .ok (.ireturn, 1) := by decide +kernel
theorem dX11_count_190 : decode cX11_count 190 = .ok (.iconst (-1), 1) := by decide +kernel
theorem dX11_count_191 : decode cX11_count 191 = .ok (.ireturn, 1) := by decide +kernel
def w_X11_count  (v0 : Nat) (v1 : Int32) (h : AH) (Q : Int32 → AH → Prop) : Prop :=
  br (v1 = 0) (
      fN h v0 11 1 fun a1 =>
      fN h a1 7 1 fun a2 =>
      fI h a2 2 0 fun x3 =>
      Q x3 h) (
  br (v1 = 1) (
      fN h v0 11 1 fun a4 =>
      fN h a4 7 2 fun a5 =>
      fI h a5 4 0 fun x6 =>
      Q x6 h) (
  br (v1 = 2) (
      fN h v0 11 1 fun a7 =>
      fN h a7 7 2 fun a8 =>
      vr h a8 4 (
      w_X4_livingCount a8 h (fun x9 h =>
      Q x9 h))) (
  br (v1 = 3) (
      fN h v0 11 1 fun a10 =>
      fI h a10 7 6 fun x11 =>
      Q x11 h) (
  br (v1 = 4) (
      fN h v0 11 1 fun a12 =>
      fN h a12 7 3 fun a13 =>
      fI h a13 1 0 fun x14 =>
      Q x14 h) (
  br (v1 = 5) (
      fN h v0 11 1 fun a15 =>
      fN h a15 7 3 fun a16 =>
      vr h a16 1 (
      w_X1_seenCount a16 h (fun x17 h =>
      Q x17 h))) (
  br (v1 = 6) (
      fN h v0 11 1 fun a18 =>
      fI h a18 7 12 fun x19 =>
      Q x19 h) (
  br (v1 = 7) (
      fN h v0 11 1 fun a20 =>
      fN h a20 7 4 fun a21 =>
      fI h a21 9 0 fun x22 =>
      Q x22 h) (
  br (v1 = 8) (
      fN h v0 11 1 fun a23 =>
      fN h a23 7 4 fun a24 =>
      fI h a24 9 5 fun x25 =>
      Q x25 h) (
  br (v1 = 9) (
      fN h v0 11 1 fun a26 =>
      fI h a26 7 9 fun x27 =>
      Q x27 h) (
  br (v1 = 10) (
      fN h v0 11 1 fun a28 =>
      fN h a28 7 3 fun a29 =>
      fI h a29 1 9 fun x30 =>
      w_J6_bitCount_0f7a4 x30 h (fun x31 h =>
      Q x31 h)) (
  br (v1 = 11) (
      fN h v0 11 1 fun a32 =>
      fN h a32 7 1 fun a33 =>
      vr h a33 2 (
      w_X2_allRounds a33 h (fun x34 h =>
      Q x34 h))) (
    Q (-1 : Int32) h))))))))))))
set_option maxRecDepth 100000 in
set_option maxHeartbeats 4000000 in
theorem s_X11_count {l : Launch}  {v0 : Nat} {v1 : Int32} {h : AH} {Q : Int32 → AH → Prop}  (hw : w_X11_count  v0 v1 h Q) : CT l yX11_count cX11_count 2 (some .int) 4 0 0 [.ref v0, .int v1] h (QI Q) := by
  refine CT.of (by decide) ⟨rfl, ⟨rfl, trivial⟩⟩ (Nat.le_of_ble_eq_true rfl) ?_
  intro p e s m args below meth c g C hr hin
  refine v_eq (pc' := 0) (ls' := [(0, .ref v0), (1, .int v1)]) rfl rfl rfl rfl ?_
  refine v_iload_n C dX11_count_0 1 rfl rfl ?_
  refine v_tsw C (td := 190) dX11_count_1 (by decide) ?_ (fun c_1 => ?_)
  · intro i hi hx
    rcases (show i = 0 ∨ i = 1 ∨ i = 2 ∨ i = 3 ∨ i = 4 ∨ i = 5 ∨ i = 6 ∨ i = 7 ∨ i = 8 ∨ i = 9 ∨ i = 10 ∨ i = 11 by omega) with rfl | rfl | rfl | rfl | rfl | rfl | rfl | rfl | rfl | rfl | rfl | rfl
    · refine ⟨_, 64, rfl, by decide, ?_⟩
      have hw := hw.1 (by rw [hx]; rfl)
      refine v_aload_n C dX11_count_64 0 rfl rfl ?_
      refine w_getN C fl_X11_19 dX11_count_65 rfl hw (fun a1 hw => ?_)
      refine w_getN C fl_X11_84 dX11_count_68 rfl hw (fun a2 hw => ?_)
      refine w_getI C fl_X11_88 dX11_count_71 rfl hw (fun x3 hw => ?_)
      exact (rt_MQ C _).1 _ _ _ _ _ _ hr dX11_count_74 (by decide) (by decide) ⟨_, rfl, hw⟩
    · refine ⟨_, 75, rfl, by decide, ?_⟩
      have hw := hw.2 (by rw [hx]; decide)
      have hw := hw.1 (by rw [hx]; rfl)
      refine v_aload_n C dX11_count_75 0 rfl rfl ?_
      refine w_getN C fl_X11_19 dX11_count_76 rfl hw (fun a4 hw => ?_)
      refine w_getN C fl_X11_122 dX11_count_79 rfl hw (fun a5 hw => ?_)
      refine w_getI C fl_X11_131 dX11_count_82 rfl hw (fun x6 hw => ?_)
      exact (rt_MQ C _).1 _ _ _ _ _ _ hr dX11_count_85 (by decide) (by decide) ⟨_, rfl, hw⟩
    · refine ⟨_, 86, rfl, by decide, ?_⟩
      have hw := hw.2 (by rw [hx]; decide)
      have hw := hw.2 (by rw [hx]; decide)
      have hw := hw.1 (by rw [hx]; rfl)
      refine v_aload_n C dX11_count_86 0 rfl rfl ?_
      refine w_getN C fl_X11_19 dX11_count_87 rfl hw (fun a7 hw => ?_)
      refine w_getN C fl_X11_122 dX11_count_90 rfl hw (fun a8 hw => ?_)
      refine w_callVi (st := []) C cl_X11_369 im_X4_livingCount se_X4_livingCount rfl hw.1 (s_X4_livingCount hw.2) rfl dX11_count_93 rfl (by decide) (by decide) (by decide) (by decide) (by decide) (fun x9 h hw => ?_)
      exact (rt_MQ C _).1 _ _ _ _ _ _ hr dX11_count_96 (by decide) (by decide) ⟨_, rfl, hw⟩
    · refine ⟨_, 97, rfl, by decide, ?_⟩
      have hw := hw.2 (by rw [hx]; decide)
      have hw := hw.2 (by rw [hx]; decide)
      have hw := hw.2 (by rw [hx]; decide)
      have hw := hw.1 (by rw [hx]; rfl)
      refine v_aload_n C dX11_count_97 0 rfl rfl ?_
      refine w_getN C fl_X11_19 dX11_count_98 rfl hw (fun a10 hw => ?_)
      refine w_getI C fl_X11_105 dX11_count_101 rfl hw (fun x11 hw => ?_)
      exact (rt_MQ C _).1 _ _ _ _ _ _ hr dX11_count_104 (by decide) (by decide) ⟨_, rfl, hw⟩
    · refine ⟨_, 105, rfl, by decide, ?_⟩
      have hw := hw.2 (by rw [hx]; decide)
      have hw := hw.2 (by rw [hx]; decide)
      have hw := hw.2 (by rw [hx]; decide)
      have hw := hw.2 (by rw [hx]; decide)
      have hw := hw.1 (by rw [hx]; rfl)
      refine v_aload_n C dX11_count_105 0 rfl rfl ?_
      refine w_getN C fl_X11_19 dX11_count_106 rfl hw (fun a12 hw => ?_)
      refine w_getN C fl_X11_178 dX11_count_109 rfl hw (fun a13 hw => ?_)
      refine w_getI C fl_X11_182 dX11_count_112 rfl hw (fun x14 hw => ?_)
      exact (rt_MQ C _).1 _ _ _ _ _ _ hr dX11_count_115 (by decide) (by decide) ⟨_, rfl, hw⟩
    · refine ⟨_, 116, rfl, by decide, ?_⟩
      have hw := hw.2 (by rw [hx]; decide)
      have hw := hw.2 (by rw [hx]; decide)
      have hw := hw.2 (by rw [hx]; decide)
      have hw := hw.2 (by rw [hx]; decide)
      have hw := hw.2 (by rw [hx]; decide)
      have hw := hw.1 (by rw [hx]; rfl)
      refine v_aload_n C dX11_count_116 0 rfl rfl ?_
      refine w_getN C fl_X11_19 dX11_count_117 rfl hw (fun a15 hw => ?_)
      refine w_getN C fl_X11_178 dX11_count_120 rfl hw (fun a16 hw => ?_)
      refine w_callVi (st := []) C cl_X11_226 im_X1_seenCount se_X1_seenCount rfl hw.1 (s_X1_seenCount hw.2) rfl dX11_count_123 rfl (by decide) (by decide) (by decide) (by decide) (by decide) (fun x17 h hw => ?_)
      exact (rt_MQ C _).1 _ _ _ _ _ _ hr dX11_count_126 (by decide) (by decide) ⟨_, rfl, hw⟩
    · refine ⟨_, 127, rfl, by decide, ?_⟩
      have hw := hw.2 (by rw [hx]; decide)
      have hw := hw.2 (by rw [hx]; decide)
      have hw := hw.2 (by rw [hx]; decide)
      have hw := hw.2 (by rw [hx]; decide)
      have hw := hw.2 (by rw [hx]; decide)
      have hw := hw.2 (by rw [hx]; decide)
      have hw := hw.1 (by rw [hx]; rfl)
      refine v_aload_n C dX11_count_127 0 rfl rfl ?_
      refine w_getN C fl_X11_19 dX11_count_128 rfl hw (fun a18 hw => ?_)
      refine w_getI C fl_X11_171 dX11_count_131 rfl hw (fun x19 hw => ?_)
      exact (rt_MQ C _).1 _ _ _ _ _ _ hr dX11_count_134 (by decide) (by decide) ⟨_, rfl, hw⟩
    · refine ⟨_, 135, rfl, by decide, ?_⟩
      have hw := hw.2 (by rw [hx]; decide)
      have hw := hw.2 (by rw [hx]; decide)
      have hw := hw.2 (by rw [hx]; decide)
      have hw := hw.2 (by rw [hx]; decide)
      have hw := hw.2 (by rw [hx]; decide)
      have hw := hw.2 (by rw [hx]; decide)
      have hw := hw.2 (by rw [hx]; decide)
      have hw := hw.1 (by rw [hx]; rfl)
      refine v_aload_n C dX11_count_135 0 rfl rfl ?_
      refine w_getN C fl_X11_19 dX11_count_136 rfl hw (fun a20 hw => ?_)
      refine w_getN C fl_X11_304 dX11_count_139 rfl hw (fun a21 hw => ?_)
      refine w_getI C fl_X11_308 dX11_count_142 rfl hw (fun x22 hw => ?_)
      exact (rt_MQ C _).1 _ _ _ _ _ _ hr dX11_count_145 (by decide) (by decide) ⟨_, rfl, hw⟩
    · refine ⟨_, 146, rfl, by decide, ?_⟩
      have hw := hw.2 (by rw [hx]; decide)
      have hw := hw.2 (by rw [hx]; decide)
      have hw := hw.2 (by rw [hx]; decide)
      have hw := hw.2 (by rw [hx]; decide)
      have hw := hw.2 (by rw [hx]; decide)
      have hw := hw.2 (by rw [hx]; decide)
      have hw := hw.2 (by rw [hx]; decide)
      have hw := hw.2 (by rw [hx]; decide)
      have hw := hw.1 (by rw [hx]; rfl)
      refine v_aload_n C dX11_count_146 0 rfl rfl ?_
      refine w_getN C fl_X11_19 dX11_count_147 rfl hw (fun a23 hw => ?_)
      refine w_getN C fl_X11_304 dX11_count_150 rfl hw (fun a24 hw => ?_)
      refine w_getI C fl_X11_312 dX11_count_153 rfl hw (fun x25 hw => ?_)
      exact (rt_MQ C _).1 _ _ _ _ _ _ hr dX11_count_156 (by decide) (by decide) ⟨_, rfl, hw⟩
    · refine ⟨_, 157, rfl, by decide, ?_⟩
      have hw := hw.2 (by rw [hx]; decide)
      have hw := hw.2 (by rw [hx]; decide)
      have hw := hw.2 (by rw [hx]; decide)
      have hw := hw.2 (by rw [hx]; decide)
      have hw := hw.2 (by rw [hx]; decide)
      have hw := hw.2 (by rw [hx]; decide)
      have hw := hw.2 (by rw [hx]; decide)
      have hw := hw.2 (by rw [hx]; decide)
      have hw := hw.2 (by rw [hx]; decide)
      have hw := hw.1 (by rw [hx]; rfl)
      refine v_aload_n C dX11_count_157 0 rfl rfl ?_
      refine w_getN C fl_X11_19 dX11_count_158 rfl hw (fun a26 hw => ?_)
      refine w_getI C fl_X11_347 dX11_count_161 rfl hw (fun x27 hw => ?_)
      exact (rt_MQ C _).1 _ _ _ _ _ _ hr dX11_count_164 (by decide) (by decide) ⟨_, rfl, hw⟩
    · refine ⟨_, 165, rfl, by decide, ?_⟩
      have hw := hw.2 (by rw [hx]; decide)
      have hw := hw.2 (by rw [hx]; decide)
      have hw := hw.2 (by rw [hx]; decide)
      have hw := hw.2 (by rw [hx]; decide)
      have hw := hw.2 (by rw [hx]; decide)
      have hw := hw.2 (by rw [hx]; decide)
      have hw := hw.2 (by rw [hx]; decide)
      have hw := hw.2 (by rw [hx]; decide)
      have hw := hw.2 (by rw [hx]; decide)
      have hw := hw.2 (by rw [hx]; decide)
      have hw := hw.1 (by rw [hx]; rfl)
      refine v_aload_n C dX11_count_165 0 rfl rfl ?_
      refine w_getN C fl_X11_19 dX11_count_166 rfl hw (fun a28 hw => ?_)
      refine w_getN C fl_X11_178 dX11_count_169 rfl hw (fun a29 hw => ?_)
      refine w_getI C fl_X11_229 dX11_count_172 rfl hw (fun x30 hw => ?_)
      refine w_callSi (st := []) C cl_X11_248 st_J6_bitCount_0f7a4 (s_J6_bitCount_0f7a4 hw) rfl dX11_count_175 rfl (by decide) (by decide) (by decide) (by decide) (by decide) (fun x31 h hw => ?_)
      exact (rt_MQ C _).1 _ _ _ _ _ _ hr dX11_count_178 (by decide) (by decide) ⟨_, rfl, hw⟩
    · refine ⟨_, 179, rfl, by decide, ?_⟩
      have hw := hw.2 (by rw [hx]; decide)
      have hw := hw.2 (by rw [hx]; decide)
      have hw := hw.2 (by rw [hx]; decide)
      have hw := hw.2 (by rw [hx]; decide)
      have hw := hw.2 (by rw [hx]; decide)
      have hw := hw.2 (by rw [hx]; decide)
      have hw := hw.2 (by rw [hx]; decide)
      have hw := hw.2 (by rw [hx]; decide)
      have hw := hw.2 (by rw [hx]; decide)
      have hw := hw.2 (by rw [hx]; decide)
      have hw := hw.2 (by rw [hx]; decide)
      have hw := hw.1 (by rw [hx]; rfl)
      refine v_aload_n C dX11_count_179 0 rfl rfl ?_
      refine w_getN C fl_X11_19 dX11_count_180 rfl hw (fun a32 hw => ?_)
      refine w_getN C fl_X11_84 dX11_count_183 rfl hw (fun a33 hw => ?_)
      refine w_callVi (st := []) C cl_X11_372 im_X2_allRounds se_X2_allRounds rfl hw.1 (s_X2_allRounds hw.2) rfl dX11_count_186 rfl (by decide) (by decide) (by decide) (by decide) (by decide) (fun x34 h hw => ?_)
      exact (rt_MQ C _).1 _ _ _ _ _ _ hr dX11_count_189 (by decide) (by decide) ⟨_, rfl, hw⟩
  · have hw := hw.2 (fun z => c_1 0 (by decide) (z.trans (by decide)))
    have hw := hw.2 (fun z => c_1 1 (by decide) (z.trans (by decide)))
    have hw := hw.2 (fun z => c_1 2 (by decide) (z.trans (by decide)))
    have hw := hw.2 (fun z => c_1 3 (by decide) (z.trans (by decide)))
    have hw := hw.2 (fun z => c_1 4 (by decide) (z.trans (by decide)))
    have hw := hw.2 (fun z => c_1 5 (by decide) (z.trans (by decide)))
    have hw := hw.2 (fun z => c_1 6 (by decide) (z.trans (by decide)))
    have hw := hw.2 (fun z => c_1 7 (by decide) (z.trans (by decide)))
    have hw := hw.2 (fun z => c_1 8 (by decide) (z.trans (by decide)))
    have hw := hw.2 (fun z => c_1 9 (by decide) (z.trans (by decide)))
    have hw := hw.2 (fun z => c_1 10 (by decide) (z.trans (by decide)))
    have hw := hw.2 (fun z => c_1 11 (by decide) (z.trans (by decide)))
    refine v_iconst (v := -1) C dX11_count_190 (by decide) ?_
    exact (rt_MQ C _).1 _ _ _ _ _ _ hr dX11_count_191 (by decide) (by decide) ⟨_, rfl, hw⟩
-- GrassField.need(Z)V
theorem dX11_need_0 : decode cX11_need 0 = .ok (.iload_n 0, 1) := by decide +kernel
theorem dX11_need_1 : decode cX11_need 1 = .ok (.ifCond .ne 14, 3) := by decide +kernel
theorem dX11_need_4 : decode cX11_need 4 = .ok (.new 380, 3) := by decide +kernel
theorem dX11_need_7 : decode cX11_need 7 = .ok (.dup, 1) := by decide +kernel
theorem dX11_need_8 : decode cX11_need 8 = .ok (.ldc_w 382, 3) := by decide +kernel
theorem dX11_need_11 : decode cX11_need 11 = .ok (.invokespecial 384, 3) := by decide +kernel
theorem dX11_need_14 : decode cX11_need 14 = .ok (.athrow, 1) := by decide +kernel
theorem dX11_need_15 : decode cX11_need 15 = .ok (.return_, 1) := by decide +kernel
def w_X11_need  (v0 : Int32) (h : AH) (Q : AH → Prop) (X : String → AH → Prop) : Prop :=
  br (v0 = 0) (
    X "java/lang/IllegalArgumentException" h) (
    Q h)
set_option maxRecDepth 100000 in
set_option maxHeartbeats 4000000 in
theorem s_X11_need {l : Launch}  {v0 : Int32} {h : AH} {Q : AH → Prop} {X : String → AH → Prop}  (hw : w_X11_need  v0 h Q X) : CX l yX11_need cX11_need 1 none 6 1 6 [.int v0] h (QV Q) X := by
  refine CX.of (by decide) ⟨rfl, trivial⟩ (Nat.le_of_ble_eq_true rfl) ?_
  intro p e s m args below meth c g C hr htb
  refine v_eq (pc' := 0) (ls' := [(0, .int v0)]) rfl rfl rfl rfl ?_
  refine v_iload_n C dX11_need_0 0 rfl rfl ?_
  refine v_if_ne (tgt := 15) C dX11_need_1 (by decide) (fun c_1 => ?_) (fun c_1 => ?_)
  · have hw := hw.2 c_1
    exact (rt_VX C _ _).2.2.1 _ _ _ _ _ hr dX11_need_15 (by decide) (by decide) ⟨rfl, hw⟩
  · have hw := hw.1 c_1
    exact v_throwSW (names := ["java/lang/RuntimeException", "java/lang/Exception"]) (ti := 1) (text := "this cannot be told so") C htb rfl (by decide +kernel) (tb3 (List.mem_of_getElem? (i := 176) rfl)) (tb1 (List.mem_of_getElem? (i := 16) rfl)) (List.mem_of_getElem? (i := 1) rfl) (fun w hw => cx_w C (th_X11_382.2 w hw).1 (th_X11_382.2 w hw).2) (List.forall_mem_cons.mpr ⟨rfl, List.forall_mem_cons.mpr ⟨rfl, th_X11_382.1⟩⟩) dX11_need_4 dX11_need_7 dX11_need_8 dX11_need_11 dX11_need_14 (by decide) (by decide) (by decide) (by decide) (by decide) hw
-- GrassField.day(I)V
theorem dX11_day_0 : decode cX11_day 0 = .ok (.iload_n 1, 1) := by decide +kernel
theorem dX11_day_1 : decode cX11_day 1 = .ok (.invokestatic 80, 3) := by decide +kernel
theorem dX11_day_4 : decode cX11_day 4 = .ok (.invokestatic 58, 3) := by decide +kernel
theorem dX11_day_7 : decode cX11_day 7 = .ok (.aload_n 0, 1) := by decide +kernel
theorem dX11_day_8 : decode cX11_day 8 = .ok (.getfield 19, 3) := by decide +kernel
theorem dX11_day_11 : decode cX11_day 11 = .ok (.iload_n 1, 1) := by decide +kernel
theorem dX11_day_12 : decode cX11_day 12 = .ok (.putfield 99, 3) := by decide +kernel
theorem dX11_day_15 : decode cX11_day 15 = .ok (.return_, 1) := by decide +kernel
def w_X11_day  (v0 : Nat) (v1 : Int32) (h : AH) (Q : AH → Prop) (X : String → AH → Prop) : Prop :=
  w_X11_isYear v1 h (fun x1 h =>
  w_X11_need x1 h (fun h =>
  fN h v0 11 1 fun a2 =>
  uI h a2 7 10 v1 fun h =>
  Q h) X)
set_option maxRecDepth 100000 in
set_option maxHeartbeats 4000000 in
theorem s_X11_day {l : Launch}  {v0 : Nat} {v1 : Int32} {h : AH} {Q : AH → Prop} {X : String → AH → Prop}  (hw : w_X11_day  v0 v1 h Q X) : CX l yX11_day cX11_day 2 none 7 1 6 [.ref v0, .int v1] h (QV Q) X := by
  refine CX.of (by decide) ⟨rfl, ⟨rfl, trivial⟩⟩ (Nat.le_of_ble_eq_true rfl) ?_
  intro p e s m args below meth c g C hr htb
  refine v_eq (pc' := 0) (ls' := [(0, .ref v0), (1, .int v1)]) rfl rfl rfl rfl ?_
  refine v_iload_n C dX11_day_0 1 rfl rfl ?_
  refine w_callSi (st := []) C cl_X11_80 st_X11_isYear (s_X11_isYear hw) rfl dX11_day_1 rfl (by decide) (by decide) (by decide) (by decide) (by decide) (fun x1 h hw => ?_)
  refine w_callXSv (st := []) C cl_X11_58 lk_X11_58 st_X11_need (s_X11_need hw) rfl dX11_day_4 rfl (by decide) (by decide) (by decide) (by decide) (by decide) (fun E h hx => tx_out C htb _ _ _ _ _ _ _ _ _ (by decide) (by decide) hx) (fun h hw => ?_)
  refine v_aload_n C dX11_day_7 0 rfl rfl ?_
  refine w_getN C fl_X11_19 dX11_day_8 rfl hw (fun a2 hw => ?_)
  refine v_iload_n C dX11_day_11 1 rfl rfl ?_
  refine w_putI C fp_X11_99 (Or.inl rfl) dX11_day_12 hw (fun h hw => ?_)
  exact (rt_VX C _ _).2.2.1 _ _ _ _ _ hr dX11_day_15 (by decide) (by decide) ⟨rfl, hw⟩
-- GrassField.end(I)Z
theorem dX11_end_0 : decode cX11_end 0 = .ok (.iload_n 1, 1) := by decide +kernel
theorem dX11_end_1 : decode cX11_end 1 = .ok (.ifCond .lt 14, 3) := by decide +kernel
theorem dX11_end_4 : decode cX11_end 4 = .ok (.iload_n 1, 1) := by decide +kernel
theorem dX11_end_5 : decode cX11_end 5 = .ok (.aload_n 0, 1) := by decide +kernel
theorem dX11_end_6 : decode cX11_end 6 = .ok (.getfield 10, 3) := by decide +kernel
theorem dX11_end_9 : decode cX11_end 9 = .ok (.getfield 47, 3) := by decide +kernel
theorem dX11_end_12 : decode cX11_end 12 = .ok (.if_icmp .le 5, 3) := by decide +kernel
theorem dX11_end_15 : decode cX11_end 15 = .ok (.iconst 0, 1) := by decide +kernel
theorem dX11_end_16 : decode cX11_end 16 = .ok (.ireturn, 1) := by decide +kernel
theorem dX11_end_17 : decode cX11_end 17 = .ok (.aload_n 0, 1) := by decide +kernel
theorem dX11_end_18 : decode cX11_end 18 = .ok (.getfield 10, 3) := by decide +kernel
theorem dX11_end_21 : decode cX11_end 21 = .ok (.iload_n 1, 1) := by decide +kernel
theorem dX11_end_22 : decode cX11_end 22 = .ok (.putfield 47, 3) := by decide +kernel
theorem dX11_end_25 : decode cX11_end 25 = .ok (.iconst 1, 1) := by decide +kernel
theorem dX11_end_26 : decode cX11_end 26 = .ok (.ireturn, 1) := by decide +kernel
def w_X11_end_15  (h : AH) (Q : Int32 → AH → Prop) : Prop :=
  Q (0 : Int32) h
def w_X11_end  (v0 : Nat) (v1 : Int32) (h : AH) (Q : Int32 → AH → Prop) : Prop :=
  br (v1 < 0) (
    w_X11_end_15  h Q) (
    fN h v0 11 0 fun a1 =>
    fI h a1 6 1 fun x2 =>
    br (v1 ≤ x2) (
      fN h v0 11 0 fun a3 =>
      uI h a3 6 1 v1 fun h =>
      Q (1 : Int32) h) (
      w_X11_end_15  h Q))
set_option maxRecDepth 100000 in
set_option maxHeartbeats 4000000 in
theorem s_X11_end_15 {p : Program} {l : Launch} {e : Env} {s : State} {m : MethodId} {args : Array Value} {below : List Frame} {meth : Method} {c : Code} {g : GG}  {Q : Int32 → AH → Prop}  (C : CXT p l s m args meth c RX11 cX11_end 2 g) (hr : meth.sig.returnType = (some .boolean))  : ∀  (h : AH), w_X11_end_15  h Q → V p l e s m args below meth c g 0 0 0 2 0 0 (MQ below (QCx g (QI Q)) args s 0 0 (gA g)) 15 [] [] h := by
  intro  h hw
  refine v_iconst (v := 0) C dX11_end_15 (by decide) ?_
  exact (rt_MQ C _).2.1 _ _ _ _ _ _ _ hr rfl dX11_end_16 (by decide) (by decide) ⟨_, rfl, hw⟩
set_option maxRecDepth 100000 in
set_option maxHeartbeats 4000000 in
theorem s_X11_end {l : Launch}  {v0 : Nat} {v1 : Int32} {h : AH} {Q : Int32 → AH → Prop}  (hw : w_X11_end  v0 v1 h Q) : CT l yX11_end cX11_end 2 (some .boolean) 0 0 0 [.ref v0, .int v1] h (QI Q) := by
  refine CT.of (by decide) ⟨rfl, ⟨rfl, trivial⟩⟩ (Nat.le_of_ble_eq_true rfl) ?_
  intro p e s m args below meth c g C hr hin
  refine v_eq (pc' := 0) (ls' := [(0, .ref v0), (1, .int v1)]) rfl rfl rfl rfl ?_
  refine v_iload_n C dX11_end_0 1 rfl rfl ?_
  refine v_if_lt (tgt := 15) C dX11_end_1 (by decide) (fun c_1 => ?_) (fun c_1 => ?_)
  · have hw := hw.1 c_1
    refine v_sub [] rfl ?_
    exact s_X11_end_15 C hr   _ hw
  · have hw := hw.2 c_1
    refine v_iload_n C dX11_end_4 1 rfl rfl ?_
    refine v_aload_n C dX11_end_5 0 rfl rfl ?_
    refine w_getN C fl_X11_10 dX11_end_6 rfl hw (fun a1 hw => ?_)
    refine w_getI C fl_X11_47 dX11_end_9 rfl hw (fun x2 hw => ?_)
    refine v_icmp_le (tgt := 17) C dX11_end_12 (by decide) (fun c_12 => ?_) (fun c_12 => ?_)
    · have hw := hw.1 c_12
      refine v_aload_n C dX11_end_17 0 rfl rfl ?_
      refine w_getN C fl_X11_10 dX11_end_18 rfl hw (fun a3 hw => ?_)
      refine v_iload_n C dX11_end_21 1 rfl rfl ?_
      refine w_putI C fp_X11_47 (Or.inl rfl) dX11_end_22 hw (fun h hw => ?_)
      refine v_iconst (v := 1) C dX11_end_25 (by decide) ?_
      exact (rt_MQ C _).2.1 _ _ _ _ _ _ _ hr rfl dX11_end_26 (by decide) (by decide) ⟨_, rfl, hw⟩
    · have hw := hw.2 c_12
      refine v_sub [] rfl ?_
      exact s_X11_end_15 C hr   _ hw
-- GrassField.fault()I
theorem dX11_fault_0 : decode cX11_fault 0 = .ok (.aload_n 0, 1) := by decide +kernel
theorem dX11_fault_1 : decode cX11_fault 1 = .ok (.getfield 10, 3) := by decide +kernel
theorem dX11_fault_4 : decode cX11_fault 4 = .ok (.getfield 116, 3) := by decide +kernel
theorem dX11_fault_7 : decode cX11_fault 7 = .ok (.ireturn, 1) := by decide +kernel
def w_X11_fault  (v0 : Nat) (h : AH) (Q : Int32 → AH → Prop) : Prop :=
  fN h v0 11 0 fun a1 =>
  fI h a1 6 2 fun x2 =>
  Q x2 h
set_option maxRecDepth 100000 in
set_option maxHeartbeats 4000000 in
theorem s_X11_fault {l : Launch}  {v0 : Nat} {h : AH} {Q : Int32 → AH → Prop}  (hw : w_X11_fault  v0 h Q) : CT l yX11_fault cX11_fault 1 (some .int) 0 0 0 [.ref v0] h (QI Q) := by
  refine CT.of (by decide) ⟨rfl, trivial⟩ (Nat.le_of_ble_eq_true rfl) ?_
  intro p e s m args below meth c g C hr hin
  refine v_eq (pc' := 0) (ls' := [(0, .ref v0)]) rfl rfl rfl rfl ?_
  refine v_aload_n C dX11_fault_0 0 rfl rfl ?_
  refine w_getN C fl_X11_10 dX11_fault_1 rfl hw (fun a1 hw => ?_)
  refine w_getI C fl_X11_116 dX11_fault_4 rfl hw (fun x2 hw => ?_)
  exact (rt_MQ C _).1 _ _ _ _ _ _ hr dX11_fault_7 (by decide) (by decide) ⟨_, rfl, hw⟩
-- GrassField.feed(IIIII)I
theorem dX11_feed_0 : decode cX11_feed 0 = .ok (.aload_n 0, 1) := by decide +kernel
theorem dX11_feed_1 : decode cX11_feed 1 = .ok (.getfield 10, 3) := by decide +kernel
theorem dX11_feed_4 : decode cX11_feed 4 = .ok (.invokevirtual 39, 3) := by decide +kernel
theorem dX11_feed_7 : decode cX11_feed 7 = .ok (.ifCond .ne 5, 3) := by decide +kernel
theorem dX11_feed_10 : decode cX11_feed 10 = .ok (.iconst (-1), 1) := by decide +kernel
theorem dX11_feed_11 : decode cX11_feed 11 = .ok (.ireturn, 1) := by decide +kernel
theorem dX11_feed_12 : decode cX11_feed 12 = .ok (.aload_n 0, 1) := by decide +kernel
theorem dX11_feed_13 : decode cX11_feed 13 = .ok (.getfield 10, 3) := by decide +kernel
theorem dX11_feed_16 : decode cX11_feed 16 = .ok (.iload_n 1, 1) := by decide +kernel
theorem dX11_feed_17 : decode cX11_feed 17 = .ok (.invokevirtual 43, 3) := by decide +kernel
theorem dX11_feed_20 : decode cX11_feed 20 = .ok (.aload_n 0, 1) := by decide +kernel
theorem dX11_feed_21 : decode cX11_feed 21 = .ok (.getfield 10, 3) := by decide +kernel
theorem dX11_feed_24 : decode cX11_feed 24 = .ok (.iload_n 2, 1) := by decide +kernel
theorem dX11_feed_25 : decode cX11_feed 25 = .ok (.invokevirtual 43, 3) := by decide +kernel
theorem dX11_feed_28 : decode cX11_feed 28 = .ok (.aload_n 0, 1) := by decide +kernel
theorem dX11_feed_29 : decode cX11_feed 29 = .ok (.getfield 10, 3) := by decide +kernel
theorem dX11_feed_32 : decode cX11_feed 32 = .ok (.iload_n 3, 1) := by decide +kernel
theorem dX11_feed_33 : decode cX11_feed 33 = .ok (.invokevirtual 43, 3) := by decide +kernel
theorem dX11_feed_36 : decode cX11_feed 36 = .ok (.aload_n 0, 1) := by decide +kernel
theorem dX11_feed_37 : decode cX11_feed 37 = .ok (.getfield 10, 3) := by decide +kernel
theorem dX11_feed_40 : decode cX11_feed 40 = .ok (.iload 4, 2) := by decide +kernel
theorem dX11_feed_42 : decode cX11_feed 42 = .ok (.invokevirtual 43, 3) := by decide +kernel
theorem dX11_feed_45 : decode cX11_feed 45 = .ok (.aload_n 0, 1) := by decide +kernel
theorem dX11_feed_46 : decode cX11_feed 46 = .ok (.getfield 10, 3) := by decide +kernel
theorem dX11_feed_49 : decode cX11_feed 49 = .ok (.iload 5, 2) := by decide +kernel
theorem dX11_feed_51 : decode cX11_feed 51 = .ok (.invokevirtual 43, 3) := by decide +kernel
theorem dX11_feed_54 : decode cX11_feed 54 = .ok (.aload_n 0, 1) := by decide +kernel
theorem dX11_feed_55 : decode cX11_feed 55 = .ok (.getfield 10, 3) := by decide +kernel
theorem dX11_feed_58 : decode cX11_feed 58 = .ok (.getfield 47, 3) := by decide +kernel
theorem dX11_feed_61 : decode cX11_feed 61 = .ok (.ireturn, 1) := by decide +kernel
def w_X11_feed  (v0 : Nat) (v1 : Int32) (v2 : Int32) (v3 : Int32) (v4 : Int32) (v5 : Int32) (h : AH) (Q : Int32 → AH → Prop) : Prop :=
  fN h v0 11 0 fun a1 =>
  vr h a1 6 (
  w_X6_hasRoom a1 h (fun x2 h =>
  br (x2 = 0) (
    Q (-1 : Int32) h) (
    fN h v0 11 0 fun a3 =>
    vr h a3 6 (
    w_X6_addNumber a3 v1 h (fun h =>
    fN h v0 11 0 fun a4 =>
    vr h a4 6 (
    w_X6_addNumber a4 v2 h (fun h =>
    fN h v0 11 0 fun a5 =>
    vr h a5 6 (
    w_X6_addNumber a5 v3 h (fun h =>
    fN h v0 11 0 fun a6 =>
    vr h a6 6 (
    w_X6_addNumber a6 v4 h (fun h =>
    fN h v0 11 0 fun a7 =>
    vr h a7 6 (
    w_X6_addNumber a7 v5 h (fun h =>
    fN h v0 11 0 fun a8 =>
    fI h a8 6 1 fun x9 =>
    Q x9 h)))))))))))))
set_option maxRecDepth 100000 in
set_option maxHeartbeats 4000000 in
theorem s_X11_feed {l : Launch}  {v0 : Nat} {v1 : Int32} {v2 : Int32} {v3 : Int32} {v4 : Int32} {v5 : Int32} {h : AH} {Q : Int32 → AH → Prop}  (hw : w_X11_feed  v0 v1 v2 v3 v4 v5 h Q) : CT l yX11_feed cX11_feed 6 (some .int) 1 0 0 [.ref v0, .int v1, .int v2, .int v3, .int v4, .int v5] h (QI Q) := by
  refine CT.of (by decide) ⟨rfl, ⟨rfl, ⟨rfl, ⟨rfl, ⟨rfl, ⟨rfl, trivial⟩⟩⟩⟩⟩⟩ (Nat.le_of_ble_eq_true rfl) ?_
  intro p e s m args below meth c g C hr hin
  refine v_eq (pc' := 0) (ls' := [(0, .ref v0), (1, .int v1), (2, .int v2), (3, .int v3), (4, .int v4), (5, .int v5)]) rfl rfl rfl rfl ?_
  refine v_aload_n C dX11_feed_0 0 rfl rfl ?_
  refine w_getN C fl_X11_10 dX11_feed_1 rfl hw (fun a1 hw => ?_)
  refine w_callVi (st := []) C cl_X11_39 im_X6_hasRoom se_X6_hasRoom rfl hw.1 (s_X6_hasRoom hw.2) rfl dX11_feed_4 rfl (by decide) (by decide) (by decide) (by decide) (by decide) (fun x2 h hw => ?_)
  refine v_if_ne (tgt := 12) C dX11_feed_7 (by decide) (fun c_7 => ?_) (fun c_7 => ?_)
  · have hw := hw.2 c_7
    refine v_aload_n C dX11_feed_12 0 rfl rfl ?_
    refine w_getN C fl_X11_10 dX11_feed_13 rfl hw (fun a3 hw => ?_)
    refine v_iload_n C dX11_feed_16 1 rfl rfl ?_
    refine w_callVv (st := []) C cl_X11_43 im_X6_addNumber se_X6_addNumber rfl hw.1 (s_X6_addNumber hw.2) rfl dX11_feed_17 rfl (by decide) (by decide) (by decide) (by decide) (by decide) (fun h hw => ?_)
    refine v_aload_n C dX11_feed_20 0 rfl rfl ?_
    refine w_getN C fl_X11_10 dX11_feed_21 rfl hw (fun a4 hw => ?_)
    refine v_iload_n C dX11_feed_24 2 rfl rfl ?_
    refine w_callVv (st := []) C cl_X11_43 im_X6_addNumber se_X6_addNumber rfl hw.1 (s_X6_addNumber hw.2) rfl dX11_feed_25 rfl (by decide) (by decide) (by decide) (by decide) (by decide) (fun h hw => ?_)
    refine v_aload_n C dX11_feed_28 0 rfl rfl ?_
    refine w_getN C fl_X11_10 dX11_feed_29 rfl hw (fun a5 hw => ?_)
    refine v_iload_n C dX11_feed_32 3 rfl rfl ?_
    refine w_callVv (st := []) C cl_X11_43 im_X6_addNumber se_X6_addNumber rfl hw.1 (s_X6_addNumber hw.2) rfl dX11_feed_33 rfl (by decide) (by decide) (by decide) (by decide) (by decide) (fun h hw => ?_)
    refine v_aload_n C dX11_feed_36 0 rfl rfl ?_
    refine w_getN C fl_X11_10 dX11_feed_37 rfl hw (fun a6 hw => ?_)
    refine v_iload C dX11_feed_40 4 rfl ?_
    refine w_callVv (st := []) C cl_X11_43 im_X6_addNumber se_X6_addNumber rfl hw.1 (s_X6_addNumber hw.2) rfl dX11_feed_42 rfl (by decide) (by decide) (by decide) (by decide) (by decide) (fun h hw => ?_)
    refine v_aload_n C dX11_feed_45 0 rfl rfl ?_
    refine w_getN C fl_X11_10 dX11_feed_46 rfl hw (fun a7 hw => ?_)
    refine v_iload C dX11_feed_49 5 rfl ?_
    refine w_callVv (st := []) C cl_X11_43 im_X6_addNumber se_X6_addNumber rfl hw.1 (s_X6_addNumber hw.2) rfl dX11_feed_51 rfl (by decide) (by decide) (by decide) (by decide) (by decide) (fun h hw => ?_)
    refine v_aload_n C dX11_feed_54 0 rfl rfl ?_
    refine w_getN C fl_X11_10 dX11_feed_55 rfl hw (fun a8 hw => ?_)
    refine w_getI C fl_X11_47 dX11_feed_58 rfl hw (fun x9 hw => ?_)
    exact (rt_MQ C _).1 _ _ _ _ _ _ hr dX11_feed_61 (by decide) (by decide) ⟨_, rfl, hw⟩
  · have hw := hw.1 c_7
    refine v_iconst (v := -1) C dX11_feed_10 (by decide) ?_
    exact (rt_MQ C _).1 _ _ _ _ _ _ hr dX11_feed_11 (by decide) (by decide) ⟨_, rfl, hw⟩
-- GrassField.needCell(I)V
theorem dX11_needCell_0 : decode cX11_needCell 0 = .ok (.iload_n 0, 1) := by decide +kernel
theorem dX11_needCell_1 : decode cX11_needCell 1 = .ok (.sipush 256, 3) := by decide +kernel
theorem dX11_needCell_4 : decode cX11_needCell 4 = .ok (.invokestatic 119, 3) := by decide +kernel
theorem dX11_needCell_7 : decode cX11_needCell 7 = .ok (.return_, 1) := by decide +kernel
def w_X11_needCell  (v0 : Int32) (h : AH) (Q : AH → Prop) (X : String → AH → Prop) : Prop :=
  w_X11_needNumber v0 (256 : Int32) h (fun h =>
  Q h) X
set_option maxRecDepth 100000 in
set_option maxHeartbeats 4000000 in
theorem s_X11_needCell {l : Launch}  {v0 : Int32} {h : AH} {Q : AH → Prop} {X : String → AH → Prop}  (hw : w_X11_needCell  v0 h Q X) : CX l yX11_needCell cX11_needCell 1 none 7 1 6 [.int v0] h (QV Q) X := by
  refine CX.of (by decide) ⟨rfl, trivial⟩ (Nat.le_of_ble_eq_true rfl) ?_
  intro p e s m args below meth c g C hr htb
  refine v_eq (pc' := 0) (ls' := [(0, .int v0)]) rfl rfl rfl rfl ?_
  refine v_iload_n C dX11_needCell_0 0 rfl rfl ?_
  refine v_sipush (v := 256) C dX11_needCell_1 (by decide) ?_
  refine w_callXSv (st := []) C cl_X11_119 lk_X11_119 st_X11_needNumber (s_X11_needNumber hw) rfl dX11_needCell_4 rfl (by decide) (by decide) (by decide) (by decide) (by decide) (fun E h hx => tx_out C htb _ _ _ _ _ _ _ _ _ (by decide) (by decide) hx) (fun h hw => ?_)
  exact (rt_VX C _ _).2.2.1 _ _ _ _ _ hr dX11_needCell_7 (by decide) (by decide) ⟨rfl, hw⟩
-- GrassField.needRoom(II)V
theorem dX11_needRoom_0 : decode cX11_needRoom 0 = .ok (.iload_n 0, 1) := by decide +kernel
theorem dX11_needRoom_1 : decode cX11_needRoom 1 = .ok (.iload_n 1, 1) := by decide +kernel
theorem dX11_needRoom_2 : decode cX11_needRoom 2 = .ok (.if_icmp .lt 14, 3) := by decide +kernel
theorem dX11_needRoom_5 : decode cX11_needRoom 5 = .ok (.new 385, 3) := by decide +kernel
theorem dX11_needRoom_8 : decode cX11_needRoom 8 = .ok (.dup, 1) := by decide +kernel
theorem dX11_needRoom_9 : decode cX11_needRoom 9 = .ok (.ldc_w 387, 3) := by decide +kernel
theorem dX11_needRoom_12 : decode cX11_needRoom 12 = .ok (.invokespecial 389, 3) := by decide +kernel
theorem dX11_needRoom_15 : decode cX11_needRoom 15 = .ok (.athrow, 1) := by decide +kernel
theorem dX11_needRoom_16 : decode cX11_needRoom 16 = .ok (.return_, 1) := by decide +kernel
def w_X11_needRoom  (v0 : Int32) (v1 : Int32) (h : AH) (Q : AH → Prop) (X : String → AH → Prop) : Prop :=
  br (v0 < v1) (
    Q h) (
    X "java/lang/UnsupportedOperationException" h)
set_option maxRecDepth 100000 in
set_option maxHeartbeats 4000000 in
theorem s_X11_needRoom {l : Launch}  {v0 : Int32} {v1 : Int32} {h : AH} {Q : AH → Prop} {X : String → AH → Prop}  (hw : w_X11_needRoom  v0 v1 h Q X) : CX l yX11_needRoom cX11_needRoom 2 none 6 1 6 [.int v0, .int v1] h (QV Q) X := by
  refine CX.of (by decide) ⟨rfl, ⟨rfl, trivial⟩⟩ (Nat.le_of_ble_eq_true rfl) ?_
  intro p e s m args below meth c g C hr htb
  refine v_eq (pc' := 0) (ls' := [(0, .int v0), (1, .int v1)]) rfl rfl rfl rfl ?_
  refine v_iload_n C dX11_needRoom_0 0 rfl rfl ?_
  refine v_iload_n C dX11_needRoom_1 1 rfl rfl ?_
  refine v_icmp_lt (tgt := 16) C dX11_needRoom_2 (by decide) (fun c_2 => ?_) (fun c_2 => ?_)
  · have hw := hw.1 c_2
    exact (rt_VX C _ _).2.2.1 _ _ _ _ _ hr dX11_needRoom_16 (by decide) (by decide) ⟨rfl, hw⟩
  · have hw := hw.2 c_2
    exact v_throwSW (names := ["java/lang/RuntimeException", "java/lang/Exception"]) (ti := 2) (text := "there are as many as there may be") C htb rfl (by decide +kernel) (tb3 (List.mem_of_getElem? (i := 234) rfl)) (tb1 (List.mem_of_getElem? (i := 18) rfl)) (List.mem_of_getElem? (i := 2) rfl) (fun w hw => cx_w C (th_X11_387.2 w hw).1 (th_X11_387.2 w hw).2) (List.forall_mem_cons.mpr ⟨rfl, List.forall_mem_cons.mpr ⟨rfl, th_X11_387.1⟩⟩) dX11_needRoom_5 dX11_needRoom_8 dX11_needRoom_9 dX11_needRoom_12 dX11_needRoom_15 (by decide) (by decide) (by decide) (by decide) (by decide) hw
-- GrassField.found(III)I
theorem dX11_found_0 : decode cX11_found 0 = .ok (.iload_n 1, 1) := by decide +kernel
theorem dX11_found_1 : decode cX11_found 1 = .ok (.invokestatic 51, 3) := by decide +kernel
theorem dX11_found_4 : decode cX11_found 4 = .ok (.iload_n 2, 1) := by decide +kernel
theorem dX11_found_5 : decode cX11_found 5 = .ok (.iconst 0, 1) := by decide +kernel
theorem dX11_found_6 : decode cX11_found 6 = .ok (.bipush 9, 2) := by decide +kernel
theorem dX11_found_8 : decode cX11_found 8 = .ok (.invokestatic 54, 3) := by decide +kernel
theorem dX11_found_11 : decode cX11_found 11 = .ok (.ifCond .eq 17, 3) := by decide +kernel
theorem dX11_found_14 : decode cX11_found 14 = .ok (.iload_n 3, 1) := by decide +kernel
theorem dX11_found_15 : decode cX11_found 15 = .ok (.iconst 1, 1) := by decide +kernel
theorem dX11_found_16 : decode cX11_found 16 = .ok (.ldc 177, 2) := by decide +kernel
theorem dX11_found_18 : decode cX11_found 18 = .ok (.invokestatic 54, 3) := by decide +kernel
theorem dX11_found_21 : decode cX11_found 21 = .ok (.ifCond .eq 7, 3) := by decide +kernel
theorem dX11_found_24 : decode cX11_found 24 = .ok (.iconst 1, 1) := by decide +kernel
theorem dX11_found_25 : decode cX11_found 25 = .ok (.goto 4, 3) := by decide +kernel
theorem dX11_found_28 : decode cX11_found 28 = .ok (.iconst 0, 1) := by decide +kernel
theorem dX11_found_29 : decode cX11_found 29 = .ok (.invokestatic 58, 3) := by decide +kernel
theorem dX11_found_32 : decode cX11_found 32 = .ok (.aload_n 0, 1) := by decide +kernel
theorem dX11_found_33 : decode cX11_found 33 = .ok (.getfield 19, 3) := by decide +kernel
theorem dX11_found_36 : decode cX11_found 36 = .ok (.getfield 178, 3) := by decide +kernel
theorem dX11_found_39 : decode cX11_found 39 = .ok (.getfield 182, 3) := by decide +kernel
theorem dX11_found_42 : decode cX11_found 42 = .ok (.bipush 120, 2) := by decide +kernel
theorem dX11_found_44 : decode cX11_found 44 = .ok (.invokestatic 91, 3) := by decide +kernel
theorem dX11_found_47 : decode cX11_found 47 = .ok (.aload_n 0, 1) := by decide +kernel
theorem dX11_found_48 : decode cX11_found 48 = .ok (.getfield 19, 3) := by decide +kernel
theorem dX11_found_51 : decode cX11_found 51 = .ok (.getfield 178, 3) := by decide +kernel
theorem dX11_found_54 : decode cX11_found 54 = .ok (.iconst 0, 1) := by decide +kernel
theorem dX11_found_55 : decode cX11_found 55 = .ok (.iload_n 1, 1) := by decide +kernel
theorem dX11_found_56 : decode cX11_found 56 = .ok (.iload_n 2, 1) := by decide +kernel
theorem dX11_found_57 : decode cX11_found 57 = .ok (.iload_n 3, 1) := by decide +kernel
theorem dX11_found_58 : decode cX11_found 58 = .ok (.invokevirtual 185, 3) := by decide +kernel
theorem dX11_found_61 : decode cX11_found 61 = .ok (.ireturn, 1) := by decide +kernel
def w_X11_found_29  (v0 : Nat) (v1 : Int32) (v2 : Int32) (v3 : Int32) (t0 : Int32) (h : AH) (Q : Int32 → AH → Prop) (X : String → AH → Prop) : Prop :=
  w_X11_need t0 h (fun h =>
  fN h v0 11 1 fun a1 =>
  fN h a1 7 3 fun a2 =>
  fI h a2 1 0 fun x3 =>
  w_X11_needRoom x3 (120 : Int32) h (fun h =>
  fN h v0 11 1 fun a4 =>
  fN h a4 7 3 fun a5 =>
  vr h a5 1 (
  w_X1_add a5 (0 : Int32) v1 v2 v3 h (fun x6 h =>
  Q x6 h))) X) X
def w_X11_found_28  (v0 : Nat) (v1 : Int32) (v2 : Int32) (v3 : Int32) (h : AH) (Q : Int32 → AH → Prop) (X : String → AH → Prop) : Prop :=
  w_X11_found_29 v0 v1 v2 v3 (0 : Int32) h Q X
def w_X11_found  (v0 : Nat) (v1 : Int32) (v2 : Int32) (v3 : Int32) (h : AH) (Q : Int32 → AH → Prop) (X : String → AH → Prop) : Prop :=
  w_X11_needCell v1 h (fun h =>
  w_X11_isWithin v2 (0 : Int32) (9 : Int32) h (fun x1 h =>
  br (x1 = 0) (
    w_X11_found_28 v0 v1 v2 v3 h Q X) (
    w_X11_isWithin v3 (1 : Int32) (65535 : Int32) h (fun x2 h =>
    br (x2 = 0) (
      w_X11_found_28 v0 v1 v2 v3 h Q X) (
      w_X11_found_29 v0 v1 v2 v3 (1 : Int32) h Q X))))) X
set_option maxRecDepth 100000 in
set_option maxHeartbeats 4000000 in
theorem s_X11_found_29 {p : Program} {l : Launch} {e : Env} {s : State} {m : MethodId} {args : Array Value} {below : List Frame} {meth : Method} {c : Code} {g : GG}  {Q : Int32 → AH → Prop} {X : String → AH → Prop}  (C : CXT p l s m args meth c RX11 cX11_found 4 g) (hr : meth.sig.returnType = (some .int)) (htb : ∀ x ∈ c.exceptionTable.toList, False)  : ∀ (v0 : Nat) (v1 : Int32) (v2 : Int32) (v3 : Int32) (t0 : Int32) (h : AH), w_X11_found_29  v0 v1 v2 v3 t0 h Q X → V p l e s m args below meth c g 8 3 18 4 1 6 (vx_MQ below (QCx g (QI Q)) (XCx g X) args s 3 18 (gA g)) 29 [(0, .ref v0), (1, .int v1), (2, .int v2), (3, .int v3)] [.int t0] h := by
  intro v0 v1 v2 v3 t0 h hw
  refine w_callXSv (st := []) C cl_X11_58 lk_X11_58 st_X11_need (s_X11_need hw) rfl dX11_found_29 rfl (by decide) (by decide) (by decide) (by decide) (by decide) (fun E h hx => tx_out C htb _ _ _ _ _ _ _ _ _ (by decide) (by decide) hx) (fun h hw => ?_)
  refine v_aload_n C dX11_found_32 0 rfl rfl ?_
  refine w_getN C fl_X11_19 dX11_found_33 rfl hw (fun a1 hw => ?_)
  refine w_getN C fl_X11_178 dX11_found_36 rfl hw (fun a2 hw => ?_)
  refine w_getI C fl_X11_182 dX11_found_39 rfl hw (fun x3 hw => ?_)
  refine v_bipush (v := 120) C dX11_found_42 (by decide) ?_
  refine w_callXSv (st := []) C cl_X11_91 lk_X11_91 st_X11_needRoom (s_X11_needRoom hw) rfl dX11_found_44 rfl (by decide) (by decide) (by decide) (by decide) (by decide) (fun E h hx => tx_out C htb _ _ _ _ _ _ _ _ _ (by decide) (by decide) hx) (fun h hw => ?_)
  refine v_aload_n C dX11_found_47 0 rfl rfl ?_
  refine w_getN C fl_X11_19 dX11_found_48 rfl hw (fun a4 hw => ?_)
  refine w_getN C fl_X11_178 dX11_found_51 rfl hw (fun a5 hw => ?_)
  refine v_iconst (v := 0) C dX11_found_54 (by decide) ?_
  refine v_iload_n C dX11_found_55 1 rfl rfl ?_
  refine v_iload_n C dX11_found_56 2 rfl rfl ?_
  refine v_iload_n C dX11_found_57 3 rfl rfl ?_
  refine w_callVi (st := []) C cl_X11_185 im_X1_add se_X1_add rfl hw.1 (s_X1_add hw.2) rfl dX11_found_58 rfl (by decide) (by decide) (by decide) (by decide) (by decide) (fun x6 h hw => ?_)
  exact (rt_VX C _ _).1 _ _ _ _ _ _ hr dX11_found_61 (by decide) (by decide) ⟨_, rfl, hw⟩
set_option maxRecDepth 100000 in
set_option maxHeartbeats 4000000 in
theorem s_X11_found_28 {p : Program} {l : Launch} {e : Env} {s : State} {m : MethodId} {args : Array Value} {below : List Frame} {meth : Method} {c : Code} {g : GG}  {Q : Int32 → AH → Prop} {X : String → AH → Prop}  (C : CXT p l s m args meth c RX11 cX11_found 4 g) (hr : meth.sig.returnType = (some .int)) (htb : ∀ x ∈ c.exceptionTable.toList, False)  : ∀ (v0 : Nat) (v1 : Int32) (v2 : Int32) (v3 : Int32) (h : AH), w_X11_found_28  v0 v1 v2 v3 h Q X → V p l e s m args below meth c g 8 3 18 4 1 6 (vx_MQ below (QCx g (QI Q)) (XCx g X) args s 3 18 (gA g)) 28 [(0, .ref v0), (1, .int v1), (2, .int v2), (3, .int v3)] [] h := by
  intro v0 v1 v2 v3 h hw
  refine v_iconst (v := 0) C dX11_found_28 (by decide) ?_
  exact s_X11_found_29 C hr htb  _ _ _ _ _ _ hw
set_option maxRecDepth 100000 in
set_option maxHeartbeats 4000000 in
theorem s_X11_found {l : Launch}  {v0 : Nat} {v1 : Int32} {v2 : Int32} {v3 : Int32} {h : AH} {Q : Int32 → AH → Prop} {X : String → AH → Prop}  (hw : w_X11_found  v0 v1 v2 v3 h Q X) : CX l yX11_found cX11_found 4 (some .int) 8 3 18 [.ref v0, .int v1, .int v2, .int v3] h (QI Q) X := by
  refine CX.of (by decide) ⟨rfl, ⟨rfl, ⟨rfl, ⟨rfl, trivial⟩⟩⟩⟩ (Nat.le_of_ble_eq_true rfl) ?_
  intro p e s m args below meth c g C hr htb
  refine v_eq (pc' := 0) (ls' := [(0, .ref v0), (1, .int v1), (2, .int v2), (3, .int v3)]) rfl rfl rfl rfl ?_
  refine v_iload_n C dX11_found_0 1 rfl rfl ?_
  refine w_callXSv (st := []) C cl_X11_51 lk_X11_51 st_X11_needCell (s_X11_needCell hw) rfl dX11_found_1 rfl (by decide) (by decide) (by decide) (by decide) (by decide) (fun E h hx => tx_out C htb _ _ _ _ _ _ _ _ _ (by decide) (by decide) hx) (fun h hw => ?_)
  refine v_iload_n C dX11_found_4 2 rfl rfl ?_
  refine v_iconst (v := 0) C dX11_found_5 (by decide) ?_
  refine v_bipush (v := 9) C dX11_found_6 (by decide) ?_
  refine w_callSi (st := []) C cl_X11_54 st_X11_isWithin (s_X11_isWithin hw) rfl dX11_found_8 rfl (by decide) (by decide) (by decide) (by decide) (by decide) (fun x1 h hw => ?_)
  refine v_if_eq (tgt := 28) C dX11_found_11 (by decide) (fun c_11 => ?_) (fun c_11 => ?_)
  · have hw := hw.1 c_11
    exact s_X11_found_28 C hr htb  _ _ _ _ _ hw
  · have hw := hw.2 c_11
    refine v_iload_n C dX11_found_14 3 rfl rfl ?_
    refine v_iconst (v := 1) C dX11_found_15 (by decide) ?_
    refine v_ldc C dX11_found_16 ct_X11_177 ?_
    refine w_callSi (st := []) C cl_X11_54 st_X11_isWithin (s_X11_isWithin hw) rfl dX11_found_18 rfl (by decide) (by decide) (by decide) (by decide) (by decide) (fun x2 h hw => ?_)
    refine v_if_eq (tgt := 28) C dX11_found_21 (by decide) (fun c_21 => ?_) (fun c_21 => ?_)
    · have hw := hw.1 c_21
      exact s_X11_found_28 C hr htb  _ _ _ _ _ hw
    · have hw := hw.2 c_21
      refine v_iconst (v := 1) C dX11_found_24 (by decide) ?_
      refine v_goto (tgt := 29) C dX11_found_25 (by decide) ?_
      exact s_X11_found_29 C hr htb  _ _ _ _ _ _ hw
-- GrassField.ground(III)V
theorem dX11_ground_0 : decode cX11_ground 0 = .ok (.iload_n 1, 1) := by decide +kernel
theorem dX11_ground_1 : decode cX11_ground 1 = .ok (.invokestatic 51, 3) := by decide +kernel
theorem dX11_ground_4 : decode cX11_ground 4 = .ok (.iload_n 2, 1) := by decide +kernel
theorem dX11_ground_5 : decode cX11_ground 5 = .ok (.invokestatic 51, 3) := by decide +kernel
theorem dX11_ground_8 : decode cX11_ground 8 = .ok (.iload_n 3, 1) := by decide +kernel
theorem dX11_ground_9 : decode cX11_ground 9 = .ok (.iconst 0, 1) := by decide +kernel
theorem dX11_ground_10 : decode cX11_ground 10 = .ok (.bipush 9, 2) := by decide +kernel
theorem dX11_ground_12 : decode cX11_ground 12 = .ok (.invokestatic 54, 3) := by decide +kernel
theorem dX11_ground_15 : decode cX11_ground 15 = .ok (.invokestatic 58, 3) := by decide +kernel
theorem dX11_ground_18 : decode cX11_ground 18 = .ok (.aload_n 0, 1) := by decide +kernel
theorem dX11_ground_19 : decode cX11_ground 19 = .ok (.getfield 19, 3) := by decide +kernel
theorem dX11_ground_22 : decode cX11_ground 22 = .ok (.getfield 62, 3) := by decide +kernel
theorem dX11_ground_25 : decode cX11_ground 25 = .ok (.iload_n 1, 1) := by decide +kernel
theorem dX11_ground_26 : decode cX11_ground 26 = .ok (.iload_n 2, 1) := by decide +kernel
theorem dX11_ground_27 : decode cX11_ground 27 = .ok (.iload_n 3, 1) := by decide +kernel
theorem dX11_ground_28 : decode cX11_ground 28 = .ok (.invokevirtual 66, 3) := by decide +kernel
theorem dX11_ground_31 : decode cX11_ground 31 = .ok (.return_, 1) := by decide +kernel
def w_X11_ground  (v0 : Nat) (v1 : Int32) (v2 : Int32) (v3 : Int32) (h : AH) (Q : AH → Prop) (X : String → AH → Prop) : Prop :=
  w_X11_needCell v1 h (fun h =>
  w_X11_needCell v2 h (fun h =>
  w_X11_isWithin v3 (0 : Int32) (9 : Int32) h (fun x1 h =>
  w_X11_need x1 h (fun h =>
  fN h v0 11 1 fun a2 =>
  fN h a2 7 0 fun a3 =>
  vr h a3 3 (
  w_X3_raise a3 v1 v2 v3 h (fun h =>
  Q h))) X)) X) X
set_option maxRecDepth 100000 in
set_option maxHeartbeats 4000000 in
theorem s_X11_ground {l : Launch}  {v0 : Nat} {v1 : Int32} {v2 : Int32} {v3 : Int32} {h : AH} {Q : AH → Prop} {X : String → AH → Prop}  (hw : w_X11_ground  v0 v1 v2 v3 h Q X) : CX l yX11_ground cX11_ground 4 none 8 3 18 [.ref v0, .int v1, .int v2, .int v3] h (QV Q) X := by
  refine CX.of (by decide) ⟨rfl, ⟨rfl, ⟨rfl, ⟨rfl, trivial⟩⟩⟩⟩ (Nat.le_of_ble_eq_true rfl) ?_
  intro p e s m args below meth c g C hr htb
  refine v_eq (pc' := 0) (ls' := [(0, .ref v0), (1, .int v1), (2, .int v2), (3, .int v3)]) rfl rfl rfl rfl ?_
  refine v_iload_n C dX11_ground_0 1 rfl rfl ?_
  refine w_callXSv (st := []) C cl_X11_51 lk_X11_51 st_X11_needCell (s_X11_needCell hw) rfl dX11_ground_1 rfl (by decide) (by decide) (by decide) (by decide) (by decide) (fun E h hx => tx_out C htb _ _ _ _ _ _ _ _ _ (by decide) (by decide) hx) (fun h hw => ?_)
  refine v_iload_n C dX11_ground_4 2 rfl rfl ?_
  refine w_callXSv (st := []) C cl_X11_51 lk_X11_51 st_X11_needCell (s_X11_needCell hw) rfl dX11_ground_5 rfl (by decide) (by decide) (by decide) (by decide) (by decide) (fun E h hx => tx_out C htb _ _ _ _ _ _ _ _ _ (by decide) (by decide) hx) (fun h hw => ?_)
  refine v_iload_n C dX11_ground_8 3 rfl rfl ?_
  refine v_iconst (v := 0) C dX11_ground_9 (by decide) ?_
  refine v_bipush (v := 9) C dX11_ground_10 (by decide) ?_
  refine w_callSi (st := []) C cl_X11_54 st_X11_isWithin (s_X11_isWithin hw) rfl dX11_ground_12 rfl (by decide) (by decide) (by decide) (by decide) (by decide) (fun x1 h hw => ?_)
  refine w_callXSv (st := []) C cl_X11_58 lk_X11_58 st_X11_need (s_X11_need hw) rfl dX11_ground_15 rfl (by decide) (by decide) (by decide) (by decide) (by decide) (fun E h hx => tx_out C htb _ _ _ _ _ _ _ _ _ (by decide) (by decide) hx) (fun h hw => ?_)
  refine v_aload_n C dX11_ground_18 0 rfl rfl ?_
  refine w_getN C fl_X11_19 dX11_ground_19 rfl hw (fun a2 hw => ?_)
  refine w_getN C fl_X11_62 dX11_ground_22 rfl hw (fun a3 hw => ?_)
  refine v_iload_n C dX11_ground_25 1 rfl rfl ?_
  refine v_iload_n C dX11_ground_26 2 rfl rfl ?_
  refine v_iload_n C dX11_ground_27 3 rfl rfl ?_
  refine w_callVv (st := []) C cl_X11_66 im_X3_raise se_X3_raise rfl hw.1 (s_X3_raise hw.2) rfl dX11_ground_28 rfl (by decide) (by decide) (by decide) (by decide) (by decide) (fun h hw => ?_)
  exact (rt_VX C _ _).2.2.1 _ _ _ _ _ hr dX11_ground_31 (by decide) (by decide) ⟨rfl, hw⟩
-- GrassField.gun(IIII)I
theorem dX11_gun_0 : decode cX11_gun 0 = .ok (.iload_n 1, 1) := by decide +kernel
theorem dX11_gun_1 : decode cX11_gun 1 = .ok (.iconst 0, 1) := by decide +kernel
theorem dX11_gun_2 : decode cX11_gun 2 = .ok (.iconst 1, 1) := by decide +kernel
theorem dX11_gun_3 : decode cX11_gun 3 = .ok (.invokestatic 54, 3) := by decide +kernel
theorem dX11_gun_6 : decode cX11_gun 6 = .ok (.ifCond .eq 35, 3) := by decide +kernel
theorem dX11_gun_9 : decode cX11_gun 9 = .ok (.iload_n 2, 1) := by decide +kernel
theorem dX11_gun_10 : decode cX11_gun 10 = .ok (.iconst 0, 1) := by decide +kernel
theorem dX11_gun_11 : decode cX11_gun 11 = .ok (.bipush 15, 2) := by decide +kernel
theorem dX11_gun_13 : decode cX11_gun 13 = .ok (.invokestatic 54, 3) := by decide +kernel
theorem dX11_gun_16 : decode cX11_gun 16 = .ok (.ifCond .eq 25, 3) := by decide +kernel
theorem dX11_gun_19 : decode cX11_gun 19 = .ok (.iload_n 3, 1) := by decide +kernel
theorem dX11_gun_20 : decode cX11_gun 20 = .ok (.invokestatic 80, 3) := by decide +kernel
theorem dX11_gun_23 : decode cX11_gun 23 = .ok (.ifCond .eq 18, 3) := by decide +kernel
theorem dX11_gun_26 : decode cX11_gun 26 = .ok (.iload 4, 2) := by decide +kernel
theorem dX11_gun_28 : decode cX11_gun 28 = .ok (.iconst 0, 1) := by decide +kernel
theorem dX11_gun_29 : decode cX11_gun 29 = .ok (.bipush 40, 2) := by decide +kernel
theorem dX11_gun_31 : decode cX11_gun 31 = .ok (.invokestatic 54, 3) := by decide +kernel
theorem dX11_gun_34 : decode cX11_gun 34 = .ok (.ifCond .eq 7, 3) := by decide +kernel
theorem dX11_gun_37 : decode cX11_gun 37 = .ok (.iconst 1, 1) := by decide +kernel
theorem dX11_gun_38 : decode cX11_gun 38 = .ok (.goto 4, 3) := by decide +kernel
theorem dX11_gun_41 : decode cX11_gun 41 = .ok (.iconst 0, 1) := by decide +kernel
theorem dX11_gun_42 : decode cX11_gun 42 = .ok (.invokestatic 58, 3) := by decide +kernel
theorem dX11_gun_45 : decode cX11_gun 45 = .ok (.aload_n 0, 1) := by decide +kernel
theorem dX11_gun_46 : decode cX11_gun 46 = .ok (.getfield 19, 3) := by decide +kernel
theorem dX11_gun_49 : decode cX11_gun 49 = .ok (.getfield 84, 3) := by decide +kernel
theorem dX11_gun_52 : decode cX11_gun 52 = .ok (.getfield 88, 3) := by decide +kernel
theorem dX11_gun_55 : decode cX11_gun 55 = .ok (.bipush 8, 2) := by decide +kernel
theorem dX11_gun_57 : decode cX11_gun 57 = .ok (.invokestatic 91, 3) := by decide +kernel
theorem dX11_gun_60 : decode cX11_gun 60 = .ok (.aload_n 0, 1) := by decide +kernel
theorem dX11_gun_61 : decode cX11_gun 61 = .ok (.getfield 19, 3) := by decide +kernel
theorem dX11_gun_64 : decode cX11_gun 64 = .ok (.getfield 84, 3) := by decide +kernel
theorem dX11_gun_67 : decode cX11_gun 67 = .ok (.iload_n 1, 1) := by decide +kernel
theorem dX11_gun_68 : decode cX11_gun 68 = .ok (.iload_n 2, 1) := by decide +kernel
theorem dX11_gun_69 : decode cX11_gun 69 = .ok (.iload_n 3, 1) := by decide +kernel
theorem dX11_gun_70 : decode cX11_gun 70 = .ok (.iload 4, 2) := by decide +kernel
theorem dX11_gun_72 : decode cX11_gun 72 = .ok (.invokevirtual 95, 3) := by decide +kernel
theorem dX11_gun_75 : decode cX11_gun 75 = .ok (.ireturn, 1) := by decide +kernel
def w_X11_gun_42  (v0 : Nat) (v1 : Int32) (v2 : Int32) (v3 : Int32) (v4 : Int32) (t0 : Int32) (h : AH) (Q : Int32 → AH → Prop) (X : String → AH → Prop) : Prop :=
  w_X11_need t0 h (fun h =>
  fN h v0 11 1 fun a1 =>
  fN h a1 7 1 fun a2 =>
  fI h a2 2 0 fun x3 =>
  w_X11_needRoom x3 (8 : Int32) h (fun h =>
  fN h v0 11 1 fun a4 =>
  fN h a4 7 1 fun a5 =>
  vr h a5 2 (
  w_X2_add a5 v1 v2 v3 v4 h (fun x6 h =>
  Q x6 h))) X) X
def w_X11_gun_41  (v0 : Nat) (v1 : Int32) (v2 : Int32) (v3 : Int32) (v4 : Int32) (h : AH) (Q : Int32 → AH → Prop) (X : String → AH → Prop) : Prop :=
  w_X11_gun_42 v0 v1 v2 v3 v4 (0 : Int32) h Q X
def w_X11_gun  (v0 : Nat) (v1 : Int32) (v2 : Int32) (v3 : Int32) (v4 : Int32) (h : AH) (Q : Int32 → AH → Prop) (X : String → AH → Prop) : Prop :=
  w_X11_isWithin v1 (0 : Int32) (1 : Int32) h (fun x1 h =>
  br (x1 = 0) (
    w_X11_gun_41 v0 v1 v2 v3 v4 h Q X) (
    w_X11_isWithin v2 (0 : Int32) (15 : Int32) h (fun x2 h =>
    br (x2 = 0) (
      w_X11_gun_41 v0 v1 v2 v3 v4 h Q X) (
      w_X11_isYear v3 h (fun x3 h =>
      br (x3 = 0) (
        w_X11_gun_41 v0 v1 v2 v3 v4 h Q X) (
        w_X11_isWithin v4 (0 : Int32) (40 : Int32) h (fun x4 h =>
        br (x4 = 0) (
          w_X11_gun_41 v0 v1 v2 v3 v4 h Q X) (
          w_X11_gun_42 v0 v1 v2 v3 v4 (1 : Int32) h Q X))))))))
set_option maxRecDepth 100000 in
set_option maxHeartbeats 4000000 in
theorem s_X11_gun_42 {p : Program} {l : Launch} {e : Env} {s : State} {m : MethodId} {args : Array Value} {below : List Frame} {meth : Method} {c : Code} {g : GG}  {Q : Int32 → AH → Prop} {X : String → AH → Prop}  (C : CXT p l s m args meth c RX11 cX11_gun 5 g) (hr : meth.sig.returnType = (some .int)) (htb : ∀ x ∈ c.exceptionTable.toList, False)  : ∀ (v0 : Nat) (v1 : Int32) (v2 : Int32) (v3 : Int32) (v4 : Int32) (t0 : Int32) (h : AH), w_X11_gun_42  v0 v1 v2 v3 v4 t0 h Q X → V p l e s m args below meth c g 7 2 12 5 0 0 (vx_MQ below (QCx g (QI Q)) (XCx g X) args s 2 12 (gA g)) 42 [(0, .ref v0), (1, .int v1), (2, .int v2), (3, .int v3), (4, .int v4)] [.int t0] h := by
  intro v0 v1 v2 v3 v4 t0 h hw
  refine w_callXSv (st := []) C cl_X11_58 lk_X11_58 st_X11_need (s_X11_need hw) rfl dX11_gun_42 rfl (by decide) (by decide) (by decide) (by decide) (by decide) (fun E h hx => tx_out C htb _ _ _ _ _ _ _ _ _ (by decide) (by decide) hx) (fun h hw => ?_)
  refine v_aload_n C dX11_gun_45 0 rfl rfl ?_
  refine w_getN C fl_X11_19 dX11_gun_46 rfl hw (fun a1 hw => ?_)
  refine w_getN C fl_X11_84 dX11_gun_49 rfl hw (fun a2 hw => ?_)
  refine w_getI C fl_X11_88 dX11_gun_52 rfl hw (fun x3 hw => ?_)
  refine v_bipush (v := 8) C dX11_gun_55 (by decide) ?_
  refine w_callXSv (st := []) C cl_X11_91 lk_X11_91 st_X11_needRoom (s_X11_needRoom hw) rfl dX11_gun_57 rfl (by decide) (by decide) (by decide) (by decide) (by decide) (fun E h hx => tx_out C htb _ _ _ _ _ _ _ _ _ (by decide) (by decide) hx) (fun h hw => ?_)
  refine v_aload_n C dX11_gun_60 0 rfl rfl ?_
  refine w_getN C fl_X11_19 dX11_gun_61 rfl hw (fun a4 hw => ?_)
  refine w_getN C fl_X11_84 dX11_gun_64 rfl hw (fun a5 hw => ?_)
  refine v_iload_n C dX11_gun_67 1 rfl rfl ?_
  refine v_iload_n C dX11_gun_68 2 rfl rfl ?_
  refine v_iload_n C dX11_gun_69 3 rfl rfl ?_
  refine v_iload C dX11_gun_70 4 rfl ?_
  refine w_callVi (st := []) C cl_X11_95 im_X2_add se_X2_add rfl hw.1 (s_X2_add hw.2) rfl dX11_gun_72 rfl (by decide) (by decide) (by decide) (by decide) (by decide) (fun x6 h hw => ?_)
  exact (rt_VX C _ _).1 _ _ _ _ _ _ hr dX11_gun_75 (by decide) (by decide) ⟨_, rfl, hw⟩
set_option maxRecDepth 100000 in
set_option maxHeartbeats 4000000 in
theorem s_X11_gun_41 {p : Program} {l : Launch} {e : Env} {s : State} {m : MethodId} {args : Array Value} {below : List Frame} {meth : Method} {c : Code} {g : GG}  {Q : Int32 → AH → Prop} {X : String → AH → Prop}  (C : CXT p l s m args meth c RX11 cX11_gun 5 g) (hr : meth.sig.returnType = (some .int)) (htb : ∀ x ∈ c.exceptionTable.toList, False)  : ∀ (v0 : Nat) (v1 : Int32) (v2 : Int32) (v3 : Int32) (v4 : Int32) (h : AH), w_X11_gun_41  v0 v1 v2 v3 v4 h Q X → V p l e s m args below meth c g 7 2 12 5 0 0 (vx_MQ below (QCx g (QI Q)) (XCx g X) args s 2 12 (gA g)) 41 [(0, .ref v0), (1, .int v1), (2, .int v2), (3, .int v3), (4, .int v4)] [] h := by
  intro v0 v1 v2 v3 v4 h hw
  refine v_iconst (v := 0) C dX11_gun_41 (by decide) ?_
  exact s_X11_gun_42 C hr htb  _ _ _ _ _ _ _ hw
set_option maxRecDepth 100000 in
set_option maxHeartbeats 4000000 in
theorem s_X11_gun {l : Launch}  {v0 : Nat} {v1 : Int32} {v2 : Int32} {v3 : Int32} {v4 : Int32} {h : AH} {Q : Int32 → AH → Prop} {X : String → AH → Prop}  (hw : w_X11_gun  v0 v1 v2 v3 v4 h Q X) : CX l yX11_gun cX11_gun 5 (some .int) 7 2 12 [.ref v0, .int v1, .int v2, .int v3, .int v4] h (QI Q) X := by
  refine CX.of (by decide) ⟨rfl, ⟨rfl, ⟨rfl, ⟨rfl, ⟨rfl, trivial⟩⟩⟩⟩⟩ (Nat.le_of_ble_eq_true rfl) ?_
  intro p e s m args below meth c g C hr htb
  refine v_eq (pc' := 0) (ls' := [(0, .ref v0), (1, .int v1), (2, .int v2), (3, .int v3), (4, .int v4)]) rfl rfl rfl rfl ?_
  refine v_iload_n C dX11_gun_0 1 rfl rfl ?_
  refine v_iconst (v := 0) C dX11_gun_1 (by decide) ?_
  refine v_iconst (v := 1) C dX11_gun_2 (by decide) ?_
  refine w_callSi (st := []) C cl_X11_54 st_X11_isWithin (s_X11_isWithin hw) rfl dX11_gun_3 rfl (by decide) (by decide) (by decide) (by decide) (by decide) (fun x1 h hw => ?_)
  refine v_if_eq (tgt := 41) C dX11_gun_6 (by decide) (fun c_6 => ?_) (fun c_6 => ?_)
  · have hw := hw.1 c_6
    exact s_X11_gun_41 C hr htb  _ _ _ _ _ _ hw
  · have hw := hw.2 c_6
    refine v_iload_n C dX11_gun_9 2 rfl rfl ?_
    refine v_iconst (v := 0) C dX11_gun_10 (by decide) ?_
    refine v_bipush (v := 15) C dX11_gun_11 (by decide) ?_
    refine w_callSi (st := []) C cl_X11_54 st_X11_isWithin (s_X11_isWithin hw) rfl dX11_gun_13 rfl (by decide) (by decide) (by decide) (by decide) (by decide) (fun x2 h hw => ?_)
    refine v_if_eq (tgt := 41) C dX11_gun_16 (by decide) (fun c_16 => ?_) (fun c_16 => ?_)
    · have hw := hw.1 c_16
      exact s_X11_gun_41 C hr htb  _ _ _ _ _ _ hw
    · have hw := hw.2 c_16
      refine v_iload_n C dX11_gun_19 3 rfl rfl ?_
      refine w_callSi (st := []) C cl_X11_80 st_X11_isYear (s_X11_isYear hw) rfl dX11_gun_20 rfl (by decide) (by decide) (by decide) (by decide) (by decide) (fun x3 h hw => ?_)
      refine v_if_eq (tgt := 41) C dX11_gun_23 (by decide) (fun c_23 => ?_) (fun c_23 => ?_)
      · have hw := hw.1 c_23
        exact s_X11_gun_41 C hr htb  _ _ _ _ _ _ hw
      · have hw := hw.2 c_23
        refine v_iload C dX11_gun_26 4 rfl ?_
        refine v_iconst (v := 0) C dX11_gun_28 (by decide) ?_
        refine v_bipush (v := 40) C dX11_gun_29 (by decide) ?_
        refine w_callSi (st := []) C cl_X11_54 st_X11_isWithin (s_X11_isWithin hw) rfl dX11_gun_31 rfl (by decide) (by decide) (by decide) (by decide) (by decide) (fun x4 h hw => ?_)
        refine v_if_eq (tgt := 41) C dX11_gun_34 (by decide) (fun c_34 => ?_) (fun c_34 => ?_)
        · have hw := hw.1 c_34
          exact s_X11_gun_41 C hr htb  _ _ _ _ _ _ hw
        · have hw := hw.2 c_34
          refine v_iconst (v := 1) C dX11_gun_37 (by decide) ?_
          refine v_goto (tgt := 42) C dX11_gun_38 (by decide) ?_
          exact s_X11_gun_42 C hr htb  _ _ _ _ _ _ _ hw
-- GrassField.heaps(IZ)I
theorem dX11_heaps_0 : decode cX11_heaps 0 = .ok (.iload_n 1, 1) := by decide +kernel
theorem dX11_heaps_1 : decode cX11_heaps 1 = .ok (.iconst 1, 1) := by decide +kernel
theorem dX11_heaps_2 : decode cX11_heaps 2 = .ok (.bipush 99, 2) := by decide +kernel
theorem dX11_heaps_4 : decode cX11_heaps 4 = .ok (.invokestatic 54, 3) := by decide +kernel
theorem dX11_heaps_7 : decode cX11_heaps 7 = .ok (.invokestatic 58, 3) := by decide +kernel
theorem dX11_heaps_10 : decode cX11_heaps 10 = .ok (.aload_n 0, 1) := by decide +kernel
theorem dX11_heaps_11 : decode cX11_heaps 11 = .ok (.getfield 35, 3) := by decide +kernel
theorem dX11_heaps_14 : decode cX11_heaps 14 = .ok (.invokevirtual 235, 3) := by decide +kernel
theorem dX11_heaps_17 : decode cX11_heaps 17 = .ok (.iload_n 2, 1) := by decide +kernel
theorem dX11_heaps_18 : decode cX11_heaps 18 = .ok (.ifCond .eq 14, 3) := by decide +kernel
theorem dX11_heaps_21 : decode cX11_heaps 21 = .ok (.aload_n 0, 1) := by decide +kernel
theorem dX11_heaps_22 : decode cX11_heaps 22 = .ok (.getfield 35, 3) := by decide +kernel
theorem dX11_heaps_25 : decode cX11_heaps 25 = .ok (.iload_n 1, 1) := by decide +kernel
theorem dX11_heaps_26 : decode cX11_heaps 26 = .ok (.invokevirtual 292, 3) := by decide +kernel
theorem dX11_heaps_29 : decode cX11_heaps 29 = .ok (.goto 11, 3) := by decide +kernel
theorem dX11_heaps_32 : decode cX11_heaps 32 = .ok (.aload_n 0, 1) := by decide +kernel
theorem dX11_heaps_33 : decode cX11_heaps 33 = .ok (.getfield 35, 3) := by decide +kernel
theorem dX11_heaps_36 : decode cX11_heaps 36 = .ok (.iload_n 1, 1) := by decide +kernel
theorem dX11_heaps_37 : decode cX11_heaps 37 = .ok (.invokevirtual 295, 3) := by decide +kernel
theorem dX11_heaps_40 : decode cX11_heaps 40 = .ok (.ireturn, 1) := by decide +kernel
def w_X11_heaps_40  (t0 : Int32) (h : AH) (Q : Int32 → AH → Prop) (X : String → AH → Prop) : Prop :=
  Q t0 h
def w_X11_heaps  (v0 : Nat) (v1 : Int32) (v2 : Int32) (h : AH) (Q : Int32 → AH → Prop) (X : String → AH → Prop) : Prop :=
  w_X11_isWithin v1 (1 : Int32) (99 : Int32) h (fun x1 h =>
  w_X11_need x1 h (fun h =>
  fN h v0 11 3 fun a2 =>
  vr h a2 8 (
  w_X8_refresh a2 h (fun h =>
  br (v2 = 0) (
    fN h v0 11 3 fun a3 =>
    vr h a3 8 (
    w_X8_heapCount a3 v1 h (fun x4 h =>
    w_X11_heaps_40 x4 h Q X))) (
    fN h v0 11 3 fun a5 =>
    vr h a5 8 (
    w_X8_firstHeap a5 v1 h (fun x6 h =>
    w_X11_heaps_40 x6 h Q X)))))) X)
set_option maxRecDepth 100000 in
set_option maxHeartbeats 4000000 in
theorem s_X11_heaps_40 {p : Program} {l : Launch} {e : Env} {s : State} {m : MethodId} {args : Array Value} {below : List Frame} {meth : Method} {c : Code} {g : GG}  {Q : Int32 → AH → Prop} {X : String → AH → Prop}  (C : CXT p l s m args meth c RX11 cX11_heaps 3 g) (hr : meth.sig.returnType = (some .int)) (htb : ∀ x ∈ c.exceptionTable.toList, False)  : ∀ (t0 : Int32) (h : AH), w_X11_heaps_40  t0 h Q X → V p l e s m args below meth c g 7 1 6 3 1 6 (vx_MQ below (QCx g (QI Q)) (XCx g X) args s 1 6 (gA g)) 40 [] [.int t0] h := by
  intro t0 h hw
  exact (rt_VX C _ _).1 _ _ _ _ _ _ hr dX11_heaps_40 (by decide) (by decide) ⟨_, rfl, hw⟩
set_option maxRecDepth 100000 in
set_option maxHeartbeats 4000000 in
theorem s_X11_heaps {l : Launch}  {v0 : Nat} {v1 : Int32} {v2 : Int32} {h : AH} {Q : Int32 → AH → Prop} {X : String → AH → Prop}  (hw : w_X11_heaps  v0 v1 v2 h Q X) : CX l yX11_heaps cX11_heaps 3 (some .int) 7 1 6 [.ref v0, .int v1, .int v2] h (QI Q) X := by
  refine CX.of (by decide) ⟨rfl, ⟨rfl, ⟨rfl, trivial⟩⟩⟩ (Nat.le_of_ble_eq_true rfl) ?_
  intro p e s m args below meth c g C hr htb
  refine v_eq (pc' := 0) (ls' := [(0, .ref v0), (1, .int v1), (2, .int v2)]) rfl rfl rfl rfl ?_
  refine v_iload_n C dX11_heaps_0 1 rfl rfl ?_
  refine v_iconst (v := 1) C dX11_heaps_1 (by decide) ?_
  refine v_bipush (v := 99) C dX11_heaps_2 (by decide) ?_
  refine w_callSi (st := []) C cl_X11_54 st_X11_isWithin (s_X11_isWithin hw) rfl dX11_heaps_4 rfl (by decide) (by decide) (by decide) (by decide) (by decide) (fun x1 h hw => ?_)
  refine w_callXSv (st := []) C cl_X11_58 lk_X11_58 st_X11_need (s_X11_need hw) rfl dX11_heaps_7 rfl (by decide) (by decide) (by decide) (by decide) (by decide) (fun E h hx => tx_out C htb _ _ _ _ _ _ _ _ _ (by decide) (by decide) hx) (fun h hw => ?_)
  refine v_aload_n C dX11_heaps_10 0 rfl rfl ?_
  refine w_getN C fl_X11_35 dX11_heaps_11 rfl hw (fun a2 hw => ?_)
  refine w_callVv (st := []) C cl_X11_235 im_X8_refresh se_X8_refresh rfl hw.1 (s_X8_refresh hw.2) rfl dX11_heaps_14 rfl (by decide) (by decide) (by decide) (by decide) (by decide) (fun h hw => ?_)
  refine v_iload_n C dX11_heaps_17 2 rfl rfl ?_
  refine v_if_eq (tgt := 32) C dX11_heaps_18 (by decide) (fun c_18 => ?_) (fun c_18 => ?_)
  · have hw := hw.1 c_18
    refine v_aload_n C dX11_heaps_32 0 rfl rfl ?_
    refine w_getN C fl_X11_35 dX11_heaps_33 rfl hw (fun a3 hw => ?_)
    refine v_iload_n C dX11_heaps_36 1 rfl rfl ?_
    refine w_callVi (st := []) C cl_X11_295 im_X8_heapCount se_X8_heapCount rfl hw.1 (s_X8_heapCount hw.2) rfl dX11_heaps_37 rfl (by decide) (by decide) (by decide) (by decide) (by decide) (fun x4 h hw => ?_)
    refine v_sub [] rfl ?_
    exact s_X11_heaps_40 C hr htb  _ _ hw
  · have hw := hw.2 c_18
    refine v_aload_n C dX11_heaps_21 0 rfl rfl ?_
    refine w_getN C fl_X11_35 dX11_heaps_22 rfl hw (fun a5 hw => ?_)
    refine v_iload_n C dX11_heaps_25 1 rfl rfl ?_
    refine w_callVi (st := []) C cl_X11_292 im_X8_firstHeap se_X8_firstHeap rfl hw.1 (s_X8_firstHeap hw.2) rfl dX11_heaps_26 rfl (by decide) (by decide) (by decide) (by decide) (by decide) (fun x6 h hw => ?_)
    refine v_goto (tgt := 40) C dX11_heaps_29 (by decide) ?_
    refine v_sub [] rfl ?_
    exact s_X11_heaps_40 C hr htb  _ _ hw
-- GrassField.height(I)I
theorem dX11_height_0 : decode cX11_height 0 = .ok (.iload_n 1, 1) := by decide +kernel
theorem dX11_height_1 : decode cX11_height 1 = .ok (.invokestatic 51, 3) := by decide +kernel
theorem dX11_height_4 : decode cX11_height 4 = .ok (.aload_n 0, 1) := by decide +kernel
theorem dX11_height_5 : decode cX11_height 5 = .ok (.getfield 19, 3) := by decide +kernel
theorem dX11_height_8 : decode cX11_height 8 = .ok (.getfield 62, 3) := by decide +kernel
theorem dX11_height_11 : decode cX11_height 11 = .ok (.getfield 72, 3) := by decide +kernel
theorem dX11_height_14 : decode cX11_height 14 = .ok (.iload_n 1, 1) := by decide +kernel
theorem dX11_height_15 : decode cX11_height 15 = .ok (.iaload, 1) := by decide +kernel
theorem dX11_height_16 : decode cX11_height 16 = .ok (.ireturn, 1) := by decide +kernel
def w_X11_height  (v0 : Nat) (v1 : Int32) (h : AH) (Q : Int32 → AH → Prop) (X : String → AH → Prop) : Prop :=
  w_X11_needCell v1 h (fun h =>
  fN h v0 11 1 fun a1 =>
  fN h a1 7 0 fun a2 =>
  fN h a2 3 0 fun a3 =>
  aI h a3 v1 fun x4 =>
  Q x4 h) X
set_option maxRecDepth 100000 in
set_option maxHeartbeats 4000000 in
theorem s_X11_height {l : Launch}  {v0 : Nat} {v1 : Int32} {h : AH} {Q : Int32 → AH → Prop} {X : String → AH → Prop}  (hw : w_X11_height  v0 v1 h Q X) : CX l yX11_height cX11_height 2 (some .int) 8 1 6 [.ref v0, .int v1] h (QI Q) X := by
  refine CX.of (by decide) ⟨rfl, ⟨rfl, trivial⟩⟩ (Nat.le_of_ble_eq_true rfl) ?_
  intro p e s m args below meth c g C hr htb
  refine v_eq (pc' := 0) (ls' := [(0, .ref v0), (1, .int v1)]) rfl rfl rfl rfl ?_
  refine v_iload_n C dX11_height_0 1 rfl rfl ?_
  refine w_callXSv (st := []) C cl_X11_51 lk_X11_51 st_X11_needCell (s_X11_needCell hw) rfl dX11_height_1 rfl (by decide) (by decide) (by decide) (by decide) (by decide) (fun E h hx => tx_out C htb _ _ _ _ _ _ _ _ _ (by decide) (by decide) hx) (fun h hw => ?_)
  refine v_aload_n C dX11_height_4 0 rfl rfl ?_
  refine w_getN C fl_X11_19 dX11_height_5 rfl hw (fun a1 hw => ?_)
  refine w_getN C fl_X11_62 dX11_height_8 rfl hw (fun a2 hw => ?_)
  refine w_getN C fl_X11_72 dX11_height_11 rfl hw (fun a3 hw => ?_)
  refine v_iload_n C dX11_height_14 1 rfl rfl ?_
  refine w_iaload C dX11_height_15 hw (fun x4 hw => ?_)
  exact (rt_VX C _ _).1 _ _ _ _ _ _ hr dX11_height_16 (by decide) (by decide) ⟨_, rfl, hw⟩
-- GrassField.held(IIIZ)I
theorem dX11_held_0 : decode cX11_held 0 = .ok (.iload_n 1, 1) := by decide +kernel
theorem dX11_held_1 : decode cX11_held 1 = .ok (.iconst 2, 1) := by decide +kernel
theorem dX11_held_2 : decode cX11_held 2 = .ok (.invokestatic 119, 3) := by decide +kernel
theorem dX11_held_5 : decode cX11_held 5 = .ok (.iload_n 2, 1) := by decide +kernel
theorem dX11_held_6 : decode cX11_held 6 = .ok (.bipush 16, 2) := by decide +kernel
theorem dX11_held_8 : decode cX11_held 8 = .ok (.invokestatic 119, 3) := by decide +kernel
theorem dX11_held_11 : decode cX11_held 11 = .ok (.iload_n 3, 1) := by decide +kernel
theorem dX11_held_12 : decode cX11_held 12 = .ok (.iconst 0, 1) := by decide +kernel
theorem dX11_held_13 : decode cX11_held 13 = .ok (.bipush 15, 2) := by decide +kernel
theorem dX11_held_15 : decode cX11_held 15 = .ok (.invokestatic 54, 3) := by decide +kernel
theorem dX11_held_18 : decode cX11_held 18 = .ok (.invokestatic 58, 3) := by decide +kernel
theorem dX11_held_21 : decode cX11_held 21 = .ok (.aload_n 0, 1) := by decide +kernel
theorem dX11_held_22 : decode cX11_held 22 = .ok (.getfield 35, 3) := by decide +kernel
theorem dX11_held_25 : decode cX11_held 25 = .ok (.invokevirtual 235, 3) := by decide +kernel
theorem dX11_held_28 : decode cX11_held 28 = .ok (.iload 4, 2) := by decide +kernel
theorem dX11_held_30 : decode cX11_held 30 = .ok (.ifCond .eq 16, 3) := by decide +kernel
theorem dX11_held_33 : decode cX11_held 33 = .ok (.aload_n 0, 1) := by decide +kernel
theorem dX11_held_34 : decode cX11_held 34 = .ok (.getfield 35, 3) := by decide +kernel
theorem dX11_held_37 : decode cX11_held 37 = .ok (.iload_n 1, 1) := by decide +kernel
theorem dX11_held_38 : decode cX11_held 38 = .ok (.iload_n 2, 1) := by decide +kernel
theorem dX11_held_39 : decode cX11_held 39 = .ok (.iload_n 3, 1) := by decide +kernel
theorem dX11_held_40 : decode cX11_held 40 = .ok (.invokevirtual 285, 3) := by decide +kernel
theorem dX11_held_43 : decode cX11_held 43 = .ok (.goto 13, 3) := by decide +kernel
theorem dX11_held_46 : decode cX11_held 46 = .ok (.aload_n 0, 1) := by decide +kernel
theorem dX11_held_47 : decode cX11_held 47 = .ok (.getfield 35, 3) := by decide +kernel
theorem dX11_held_50 : decode cX11_held 50 = .ok (.iload_n 1, 1) := by decide +kernel
theorem dX11_held_51 : decode cX11_held 51 = .ok (.iload_n 2, 1) := by decide +kernel
theorem dX11_held_52 : decode cX11_held 52 = .ok (.iload_n 3, 1) := by decide +kernel
theorem dX11_held_53 : decode cX11_held 53 = .ok (.invokevirtual 289, 3) := by decide +kernel
theorem dX11_held_56 : decode cX11_held 56 = .ok (.ireturn, 1) := by decide +kernel
def w_X11_held_56  (t0 : Int32) (h : AH) (Q : Int32 → AH → Prop) (X : String → AH → Prop) : Prop :=
  Q t0 h
def w_X11_held  (v0 : Nat) (v1 : Int32) (v2 : Int32) (v3 : Int32) (v4 : Int32) (h : AH) (Q : Int32 → AH → Prop) (X : String → AH → Prop) : Prop :=
  w_X11_needNumber v1 (2 : Int32) h (fun h =>
  w_X11_needNumber v2 (16 : Int32) h (fun h =>
  w_X11_isWithin v3 (0 : Int32) (15 : Int32) h (fun x1 h =>
  w_X11_need x1 h (fun h =>
  fN h v0 11 3 fun a2 =>
  vr h a2 8 (
  w_X8_refresh a2 h (fun h =>
  br (v4 = 0) (
    fN h v0 11 3 fun a3 =>
    vr h a3 8 (
    w_X8_longestPiece a3 v1 v2 v3 h (fun x4 h =>
    w_X11_held_56 x4 h Q X))) (
    fN h v0 11 3 fun a5 =>
    vr h a5 8 (
    w_X8_breakOf a5 v1 v2 v3 h (fun x6 h =>
    w_X11_held_56 x6 h Q X)))))) X)) X) X
set_option maxRecDepth 100000 in
set_option maxHeartbeats 4000000 in
theorem s_X11_held_56 {p : Program} {l : Launch} {e : Env} {s : State} {m : MethodId} {args : Array Value} {below : List Frame} {meth : Method} {c : Code} {g : GG}  {Q : Int32 → AH → Prop} {X : String → AH → Prop}  (C : CXT p l s m args meth c RX11 cX11_held 5 g) (hr : meth.sig.returnType = (some .int)) (htb : ∀ x ∈ c.exceptionTable.toList, False)  : ∀ (t0 : Int32) (h : AH), w_X11_held_56  t0 h Q X → V p l e s m args below meth c g 7 3 18 5 3 18 (vx_MQ below (QCx g (QI Q)) (XCx g X) args s 3 18 (gA g)) 56 [] [.int t0] h := by
  intro t0 h hw
  exact (rt_VX C _ _).1 _ _ _ _ _ _ hr dX11_held_56 (by decide) (by decide) ⟨_, rfl, hw⟩
set_option maxRecDepth 100000 in
set_option maxHeartbeats 4000000 in
theorem s_X11_held {l : Launch}  {v0 : Nat} {v1 : Int32} {v2 : Int32} {v3 : Int32} {v4 : Int32} {h : AH} {Q : Int32 → AH → Prop} {X : String → AH → Prop}  (hw : w_X11_held  v0 v1 v2 v3 v4 h Q X) : CX l yX11_held cX11_held 5 (some .int) 7 3 18 [.ref v0, .int v1, .int v2, .int v3, .int v4] h (QI Q) X := by
  refine CX.of (by decide) ⟨rfl, ⟨rfl, ⟨rfl, ⟨rfl, ⟨rfl, trivial⟩⟩⟩⟩⟩ (Nat.le_of_ble_eq_true rfl) ?_
  intro p e s m args below meth c g C hr htb
  refine v_eq (pc' := 0) (ls' := [(0, .ref v0), (1, .int v1), (2, .int v2), (3, .int v3), (4, .int v4)]) rfl rfl rfl rfl ?_
  refine v_iload_n C dX11_held_0 1 rfl rfl ?_
  refine v_iconst (v := 2) C dX11_held_1 (by decide) ?_
  refine w_callXSv (st := []) C cl_X11_119 lk_X11_119 st_X11_needNumber (s_X11_needNumber hw) rfl dX11_held_2 rfl (by decide) (by decide) (by decide) (by decide) (by decide) (fun E h hx => tx_out C htb _ _ _ _ _ _ _ _ _ (by decide) (by decide) hx) (fun h hw => ?_)
  refine v_iload_n C dX11_held_5 2 rfl rfl ?_
  refine v_bipush (v := 16) C dX11_held_6 (by decide) ?_
  refine w_callXSv (st := []) C cl_X11_119 lk_X11_119 st_X11_needNumber (s_X11_needNumber hw) rfl dX11_held_8 rfl (by decide) (by decide) (by decide) (by decide) (by decide) (fun E h hx => tx_out C htb _ _ _ _ _ _ _ _ _ (by decide) (by decide) hx) (fun h hw => ?_)
  refine v_iload_n C dX11_held_11 3 rfl rfl ?_
  refine v_iconst (v := 0) C dX11_held_12 (by decide) ?_
  refine v_bipush (v := 15) C dX11_held_13 (by decide) ?_
  refine w_callSi (st := []) C cl_X11_54 st_X11_isWithin (s_X11_isWithin hw) rfl dX11_held_15 rfl (by decide) (by decide) (by decide) (by decide) (by decide) (fun x1 h hw => ?_)
  refine w_callXSv (st := []) C cl_X11_58 lk_X11_58 st_X11_need (s_X11_need hw) rfl dX11_held_18 rfl (by decide) (by decide) (by decide) (by decide) (by decide) (fun E h hx => tx_out C htb _ _ _ _ _ _ _ _ _ (by decide) (by decide) hx) (fun h hw => ?_)
  refine v_aload_n C dX11_held_21 0 rfl rfl ?_
  refine w_getN C fl_X11_35 dX11_held_22 rfl hw (fun a2 hw => ?_)
  refine w_callVv (st := []) C cl_X11_235 im_X8_refresh se_X8_refresh rfl hw.1 (s_X8_refresh hw.2) rfl dX11_held_25 rfl (by decide) (by decide) (by decide) (by decide) (by decide) (fun h hw => ?_)
  refine v_iload C dX11_held_28 4 rfl ?_
  refine v_if_eq (tgt := 46) C dX11_held_30 (by decide) (fun c_30 => ?_) (fun c_30 => ?_)
  · have hw := hw.1 c_30
    refine v_aload_n C dX11_held_46 0 rfl rfl ?_
    refine w_getN C fl_X11_35 dX11_held_47 rfl hw (fun a3 hw => ?_)
    refine v_iload_n C dX11_held_50 1 rfl rfl ?_
    refine v_iload_n C dX11_held_51 2 rfl rfl ?_
    refine v_iload_n C dX11_held_52 3 rfl rfl ?_
    refine w_callVi (st := []) C cl_X11_289 im_X8_longestPiece se_X8_longestPiece rfl hw.1 (s_X8_longestPiece hw.2) rfl dX11_held_53 rfl (by decide) (by decide) (by decide) (by decide) (by decide) (fun x4 h hw => ?_)
    refine v_sub [] rfl ?_
    exact s_X11_held_56 C hr htb  _ _ hw
  · have hw := hw.2 c_30
    refine v_aload_n C dX11_held_33 0 rfl rfl ?_
    refine w_getN C fl_X11_35 dX11_held_34 rfl hw (fun a5 hw => ?_)
    refine v_iload_n C dX11_held_37 1 rfl rfl ?_
    refine v_iload_n C dX11_held_38 2 rfl rfl ?_
    refine v_iload_n C dX11_held_39 3 rfl rfl ?_
    refine w_callVi (st := []) C cl_X11_285 im_X8_breakOf se_X8_breakOf rfl hw.1 (s_X8_breakOf hw.2) rfl dX11_held_40 rfl (by decide) (by decide) (by decide) (by decide) (by decide) (fun x6 h hw => ?_)
    refine v_goto (tgt := 56) C dX11_held_43 (by decide) ?_
    refine v_sub [] rfl ?_
    exact s_X11_held_56 C hr htb  _ _ hw
-- GrassField.holds(I)Z
theorem dX11_holds_0 : decode cX11_holds 0 = .ok (.iload_n 1, 1) := by decide +kernel
theorem dX11_holds_1 : decode cX11_holds 1 = .ok (.aload_n 0, 1) := by decide +kernel
theorem dX11_holds_2 : decode cX11_holds 2 = .ok (.getfield 19, 3) := by decide +kernel
theorem dX11_holds_5 : decode cX11_holds 5 = .ok (.getfield 347, 3) := by decide +kernel
theorem dX11_holds_8 : decode cX11_holds 8 = .ok (.invokestatic 119, 3) := by decide +kernel
theorem dX11_holds_11 : decode cX11_holds 11 = .ok (.aload_n 0, 1) := by decide +kernel
theorem dX11_holds_12 : decode cX11_holds 12 = .ok (.getfield 35, 3) := by decide +kernel
theorem dX11_holds_15 : decode cX11_holds 15 = .ok (.invokevirtual 354, 3) := by decide +kernel
theorem dX11_holds_18 : decode cX11_holds 18 = .ok (.aload_n 0, 1) := by decide +kernel
theorem dX11_holds_19 : decode cX11_holds 19 = .ok (.getfield 35, 3) := by decide +kernel
theorem dX11_holds_22 : decode cX11_holds 22 = .ok (.iload_n 1, 1) := by decide +kernel
theorem dX11_holds_23 : decode cX11_holds 23 = .ok (.invokevirtual 357, 3) := by decide +kernel
theorem dX11_holds_26 : decode cX11_holds 26 = .ok (.ireturn, 1) := by decide +kernel
def w_X11_holds  (v0 : Nat) (v1 : Int32) (h : AH) (Q : Int32 → AH → Prop) (X : String → AH → Prop) : Prop :=
  fN h v0 11 1 fun a1 =>
  fI h a1 7 9 fun x2 =>
  w_X11_needNumber v1 x2 h (fun h =>
  fN h v0 11 3 fun a3 =>
  vr h a3 8 (
  w_X8_gatherFacts a3 h (fun h =>
  fN h v0 11 3 fun a4 =>
  vr h a4 8 (
  w_X8_isTrue a4 v1 h (fun x5 h =>
  z1 x5 (Q x5 h)))))) X
set_option maxRecDepth 100000 in
set_option maxHeartbeats 4000000 in
theorem s_X11_holds {l : Launch}  {v0 : Nat} {v1 : Int32} {h : AH} {Q : Int32 → AH → Prop} {X : String → AH → Prop}  (hw : w_X11_holds  v0 v1 h Q X) : CX l yX11_holds cX11_holds 2 (some .boolean) 7 1 6 [.ref v0, .int v1] h (QI Q) X := by
  refine CX.of (by decide) ⟨rfl, ⟨rfl, trivial⟩⟩ (Nat.le_of_ble_eq_true rfl) ?_
  intro p e s m args below meth c g C hr htb
  refine v_eq (pc' := 0) (ls' := [(0, .ref v0), (1, .int v1)]) rfl rfl rfl rfl ?_
  refine v_iload_n C dX11_holds_0 1 rfl rfl ?_
  refine v_aload_n C dX11_holds_1 0 rfl rfl ?_
  refine w_getN C fl_X11_19 dX11_holds_2 rfl hw (fun a1 hw => ?_)
  refine w_getI C fl_X11_347 dX11_holds_5 rfl hw (fun x2 hw => ?_)
  refine w_callXSv (st := []) C cl_X11_119 lk_X11_119 st_X11_needNumber (s_X11_needNumber hw) rfl dX11_holds_8 rfl (by decide) (by decide) (by decide) (by decide) (by decide) (fun E h hx => tx_out C htb _ _ _ _ _ _ _ _ _ (by decide) (by decide) hx) (fun h hw => ?_)
  refine v_aload_n C dX11_holds_11 0 rfl rfl ?_
  refine w_getN C fl_X11_35 dX11_holds_12 rfl hw (fun a3 hw => ?_)
  refine w_callVv (st := []) C cl_X11_354 im_X8_gatherFacts se_X8_gatherFacts rfl hw.1 (s_X8_gatherFacts hw.2) rfl dX11_holds_15 rfl (by decide) (by decide) (by decide) (by decide) (by decide) (fun h hw => ?_)
  refine v_aload_n C dX11_holds_18 0 rfl rfl ?_
  refine w_getN C fl_X11_35 dX11_holds_19 rfl hw (fun a4 hw => ?_)
  refine v_iload_n C dX11_holds_22 1 rfl rfl ?_
  refine w_callVi (st := []) C cl_X11_357 im_X8_isTrue se_X8_isTrue rfl hw.1 (s_X8_isTrue hw.2) rfl dX11_holds_23 rfl (by decide) (by decide) (by decide) (by decide) (by decide) (fun x5 h hw => ?_)
  exact (rt_VX C _ _).2.1 _ _ _ _ _ _ _ hr (by rcases hw.1 with z | z <;> rw [z] <;> rfl) dX11_holds_26 (by decide) (by decide) ⟨_, rfl, hw.2⟩
-- GrassField.image()V
theorem dX11_image_0 : decode cX11_image 0 = .ok (.aload_n 0, 1) := by decide +kernel
theorem dX11_image_1 : decode cX11_image 1 = .ok (.getfield 363, 3) := by decide +kernel
theorem dX11_image_4 : decode cX11_image 4 = .ok (.ifnonnull 14, 3) := by decide +kernel
theorem dX11_image_7 : decode cX11_image 7 = .ok (.aload_n 0, 1) := by decide +kernel
theorem dX11_image_8 : decode cX11_image 8 = .ok (.new 16, 3) := by decide +kernel
theorem dX11_image_11 : decode cX11_image 11 = .ok (.dup, 1) := by decide +kernel
theorem dX11_image_12 : decode cX11_image 12 = .ok (.invokespecial 18, 3) := by decide +kernel
theorem dX11_image_15 : decode cX11_image 15 = .ok (.putfield 363, 3) := by decide +kernel
theorem dX11_image_18 : decode cX11_image 18 = .ok (.aload_n 0, 1) := by decide +kernel
theorem dX11_image_19 : decode cX11_image 19 = .ok (.getfield 363, 3) := by decide +kernel
theorem dX11_image_22 : decode cX11_image 22 = .ok (.aload_n 0, 1) := by decide +kernel
theorem dX11_image_23 : decode cX11_image 23 = .ok (.getfield 19, 3) := by decide +kernel
theorem dX11_image_26 : decode cX11_image 26 = .ok (.invokevirtual 366, 3) := by decide +kernel
theorem dX11_image_29 : decode cX11_image 29 = .ok (.return_, 1) := by decide +kernel
def w_X11_image_18  (v0 : Nat) (h : AH) (Q : AH → Prop) : Prop :=
  fO h v0 11 5 fun r1 =>
  nn r1 fun a2 =>
  fN h v0 11 1 fun a3 =>
  vr h a2 7 (
  w_X7_become a2 a3 h (fun h =>
  Q h))
def w_X11_image  (v0 : Nat) (h : AH) (Q : AH → Prop) : Prop :=
  fO h v0 11 5 fun r1 =>
  br (r1 = none) (
    wO h 7 fun a2 h =>
    w_X7_init a2 h (fun h =>
    uO h v0 11 5 (some a2) fun h =>
    w_X11_image_18 v0 h Q)) (
    w_X11_image_18 v0 h Q)
set_option maxRecDepth 100000 in
set_option maxHeartbeats 4000000 in
theorem s_X11_image_18 {p : Program} {l : Launch} {e : Env} {s : State} {m : MethodId} {args : Array Value} {below : List Frame} {meth : Method} {c : Code} {g : GG}  {Q : AH → Prop}  (C : CXT p l s m args meth c RX11 cX11_image 1 g) (hr : meth.sig.returnType = none)  : ∀ (v0 : Nat) (h : AH), w_X11_image_18  v0 h Q → V p l e s m args below meth c g 3 33 1207 1 33 1207 (MQ below (QCx g (QV Q)) args s 33 1207 (gA g)) 18 [(0, .ref v0)] [] h := by
  intro v0 h hw
  refine v_aload_n C dX11_image_18 0 rfl rfl ?_
  refine w_getO C fl_X11_363 dX11_image_19 rfl hw (fun r1 hw => ?_)
  refine w_nn hw (fun a2 hw => ?_)
  refine v_aload_n C dX11_image_22 0 rfl rfl ?_
  refine w_getN C fl_X11_19 dX11_image_23 rfl hw (fun a3 hw => ?_)
  refine w_callVv (st := []) C cl_X11_366 im_X7_become se_X7_become rfl hw.1 (s_X7_become hw.2) rfl dX11_image_26 rfl (by decide) (by decide) (by decide) (by decide) (by decide) (fun h hw => ?_)
  exact (rt_MQ C _).2.2.1 _ _ _ _ _ hr dX11_image_29 (by decide) (by decide) ⟨rfl, hw⟩
set_option maxRecDepth 100000 in
set_option maxHeartbeats 4000000 in
theorem s_X11_image {l : Launch}  {v0 : Nat} {h : AH} {Q : AH → Prop}  (hw : w_X11_image  v0 h Q) : CT l yX11_image cX11_image 1 none 3 33 1207 [.ref v0] h (QV Q) := by
  refine CT.of (by decide) ⟨rfl, trivial⟩ (Nat.le_of_ble_eq_true rfl) ?_
  intro p e s m args below meth c g C hr hin
  refine v_eq (pc' := 0) (ls' := [(0, .ref v0)]) rfl rfl rfl rfl ?_
  refine v_aload_n C dX11_image_0 0 rfl rfl ?_
  refine w_getO C fl_X11_363 dX11_image_1 rfl hw (fun r1 hw => ?_)
  refine v_ifnonnull (tgt := 18) C dX11_image_4 (by decide) (fun a_4 c_4 => ?_) (fun c_4 => ?_)
  · have hw := hw.2 (by rw [c_4]; exact fun z => nomatch z)
    refine v_cells (kc' := 33) (ks' := 1207) (by decide) (by decide) ?_
    exact s_X11_image_18 C hr  _ _ hw
  · have hw := hw.1 c_4
    refine v_aload_n C dX11_image_7 0 rfl rfl ?_
    refine v_new (r := (RX7, TX7, 13)) (N := 13) (ci := 7) C tyX7 rfl iw_X7 tyX7_ok df_X7 (tb1 (List.mem_of_getElem? (i := 78) rfl)) (tb1 (List.mem_of_getElem? (i := 79) rfl)) (tb1 (List.mem_of_getElem? (i := 3) rfl)) rfl dX11_image_8 (by decide) (by decide) (fun a2 hn => ?_)
    have hw := hw a2 hn
    generalize nO h a2 7 = h at hw ⊢
    refine v_dup C dX11_image_11 rfl ?_
    refine w_callIv (st := [.ref a2, .ref v0]) C cl_X11_18 im_X7_init rfl (s_X7_init hw) rfl dX11_image_12 rfl (Nat.le_of_ble_eq_true rfl) (by decide) (by decide) (by decide) (by decide) (fun h hw => ?_)
    refine w_putN C fp_X11_363 (Or.inl rfl) dX11_image_15 hw (fun h hw => ?_)
    exact s_X11_image_18 C hr  _ _ hw
-- GrassField.joined(IIIIZ)I
theorem dX11_joined_0 : decode cX11_joined 0 = .ok (.iload_n 1, 1) := by decide +kernel
theorem dX11_joined_1 : decode cX11_joined 1 = .ok (.invokestatic 51, 3) := by decide +kernel
theorem dX11_joined_4 : decode cX11_joined 4 = .ok (.iload_n 2, 1) := by decide +kernel
theorem dX11_joined_5 : decode cX11_joined 5 = .ok (.invokestatic 51, 3) := by decide +kernel
theorem dX11_joined_8 : decode cX11_joined 8 = .ok (.iload_n 3, 1) := by decide +kernel
theorem dX11_joined_9 : decode cX11_joined 9 = .ok (.invokestatic 51, 3) := by decide +kernel
theorem dX11_joined_12 : decode cX11_joined 12 = .ok (.iload 4, 2) := by decide +kernel
theorem dX11_joined_14 : decode cX11_joined 14 = .ok (.invokestatic 51, 3) := by decide +kernel
theorem dX11_joined_17 : decode cX11_joined 17 = .ok (.aload_n 0, 1) := by decide +kernel
theorem dX11_joined_18 : decode cX11_joined 18 = .ok (.getfield 35, 3) := by decide +kernel
theorem dX11_joined_21 : decode cX11_joined 21 = .ok (.invokevirtual 235, 3) := by decide +kernel
theorem dX11_joined_24 : decode cX11_joined 24 = .ok (.aload_n 0, 1) := by decide +kernel
theorem dX11_joined_25 : decode cX11_joined 25 = .ok (.getfield 35, 3) := by decide +kernel
theorem dX11_joined_28 : decode cX11_joined 28 = .ok (.iload_n 1, 1) := by decide +kernel
theorem dX11_joined_29 : decode cX11_joined 29 = .ok (.iload_n 2, 1) := by decide +kernel
theorem dX11_joined_30 : decode cX11_joined 30 = .ok (.iload 5, 2) := by decide +kernel
theorem dX11_joined_32 : decode cX11_joined 32 = .ok (.invokevirtual 340, 3) := by decide +kernel
theorem dX11_joined_35 : decode cX11_joined 35 = .ok (.aload_n 0, 1) := by decide +kernel
theorem dX11_joined_36 : decode cX11_joined 36 = .ok (.getfield 35, 3) := by decide +kernel
theorem dX11_joined_39 : decode cX11_joined 39 = .ok (.iload_n 3, 1) := by decide +kernel
theorem dX11_joined_40 : decode cX11_joined 40 = .ok (.iload 4, 2) := by decide +kernel
theorem dX11_joined_42 : decode cX11_joined 42 = .ok (.iload 5, 2) := by decide +kernel
theorem dX11_joined_44 : decode cX11_joined 44 = .ok (.invokevirtual 340, 3) := by decide +kernel
theorem dX11_joined_47 : decode cX11_joined 47 = .ok (.iand, 1) := by decide +kernel
theorem dX11_joined_48 : decode cX11_joined 48 = .ok (.ireturn, 1) := by decide +kernel
def w_X11_joined  (v0 : Nat) (v1 : Int32) (v2 : Int32) (v3 : Int32) (v4 : Int32) (v5 : Int32) (h : AH) (Q : Int32 → AH → Prop) (X : String → AH → Prop) : Prop :=
  w_X11_needCell v1 h (fun h =>
  w_X11_needCell v2 h (fun h =>
  w_X11_needCell v3 h (fun h =>
  w_X11_needCell v4 h (fun h =>
  fN h v0 11 3 fun a1 =>
  vr h a1 8 (
  w_X8_refresh a1 h (fun h =>
  fN h v0 11 3 fun a2 =>
  vr h a2 8 (
  w_X8_gunsIn a2 v1 v2 v5 h (fun x3 h =>
  fN h v0 11 3 fun a4 =>
  vr h a4 8 (
  w_X8_gunsIn a4 v3 v4 v5 h (fun x5 h =>
  Q (x3 &&& x5) h))))))) X) X) X) X
set_option maxRecDepth 100000 in
set_option maxHeartbeats 4000000 in
theorem s_X11_joined {l : Launch}  {v0 : Nat} {v1 : Int32} {v2 : Int32} {v3 : Int32} {v4 : Int32} {v5 : Int32} {h : AH} {Q : Int32 → AH → Prop} {X : String → AH → Prop}  (hw : w_X11_joined  v0 v1 v2 v3 v4 v5 h Q X) : CX l yX11_joined cX11_joined 6 (some .int) 8 4 24 [.ref v0, .int v1, .int v2, .int v3, .int v4, .int v5] h (QI Q) X := by
  refine CX.of (by decide) ⟨rfl, ⟨rfl, ⟨rfl, ⟨rfl, ⟨rfl, ⟨rfl, trivial⟩⟩⟩⟩⟩⟩ (Nat.le_of_ble_eq_true rfl) ?_
  intro p e s m args below meth c g C hr htb
  refine v_eq (pc' := 0) (ls' := [(0, .ref v0), (1, .int v1), (2, .int v2), (3, .int v3), (4, .int v4), (5, .int v5)]) rfl rfl rfl rfl ?_
  refine v_iload_n C dX11_joined_0 1 rfl rfl ?_
  refine w_callXSv (st := []) C cl_X11_51 lk_X11_51 st_X11_needCell (s_X11_needCell hw) rfl dX11_joined_1 rfl (by decide) (by decide) (by decide) (by decide) (by decide) (fun E h hx => tx_out C htb _ _ _ _ _ _ _ _ _ (by decide) (by decide) hx) (fun h hw => ?_)
  refine v_iload_n C dX11_joined_4 2 rfl rfl ?_
  refine w_callXSv (st := []) C cl_X11_51 lk_X11_51 st_X11_needCell (s_X11_needCell hw) rfl dX11_joined_5 rfl (by decide) (by decide) (by decide) (by decide) (by decide) (fun E h hx => tx_out C htb _ _ _ _ _ _ _ _ _ (by decide) (by decide) hx) (fun h hw => ?_)
  refine v_iload_n C dX11_joined_8 3 rfl rfl ?_
  refine w_callXSv (st := []) C cl_X11_51 lk_X11_51 st_X11_needCell (s_X11_needCell hw) rfl dX11_joined_9 rfl (by decide) (by decide) (by decide) (by decide) (by decide) (fun E h hx => tx_out C htb _ _ _ _ _ _ _ _ _ (by decide) (by decide) hx) (fun h hw => ?_)
  refine v_iload C dX11_joined_12 4 rfl ?_
  refine w_callXSv (st := []) C cl_X11_51 lk_X11_51 st_X11_needCell (s_X11_needCell hw) rfl dX11_joined_14 rfl (by decide) (by decide) (by decide) (by decide) (by decide) (fun E h hx => tx_out C htb _ _ _ _ _ _ _ _ _ (by decide) (by decide) hx) (fun h hw => ?_)
  refine v_aload_n C dX11_joined_17 0 rfl rfl ?_
  refine w_getN C fl_X11_35 dX11_joined_18 rfl hw (fun a1 hw => ?_)
  refine w_callVv (st := []) C cl_X11_235 im_X8_refresh se_X8_refresh rfl hw.1 (s_X8_refresh hw.2) rfl dX11_joined_21 rfl (by decide) (by decide) (by decide) (by decide) (by decide) (fun h hw => ?_)
  refine v_aload_n C dX11_joined_24 0 rfl rfl ?_
  refine w_getN C fl_X11_35 dX11_joined_25 rfl hw (fun a2 hw => ?_)
  refine v_iload_n C dX11_joined_28 1 rfl rfl ?_
  refine v_iload_n C dX11_joined_29 2 rfl rfl ?_
  refine v_iload C dX11_joined_30 5 rfl ?_
  refine w_callVi (st := []) C cl_X11_340 im_X8_gunsIn se_X8_gunsIn rfl hw.1 (s_X8_gunsIn hw.2) rfl dX11_joined_32 rfl (by decide) (by decide) (by decide) (by decide) (by decide) (fun x3 h hw => ?_)
  refine v_aload_n C dX11_joined_35 0 rfl rfl ?_
  refine w_getN C fl_X11_35 dX11_joined_36 rfl hw (fun a4 hw => ?_)
  refine v_iload_n C dX11_joined_39 3 rfl rfl ?_
  refine v_iload C dX11_joined_40 4 rfl ?_
  refine v_iload C dX11_joined_42 5 rfl ?_
  refine w_callVi (st := [.int x3]) C cl_X11_340 im_X8_gunsIn se_X8_gunsIn rfl hw.1 (s_X8_gunsIn hw.2) rfl dX11_joined_44 rfl (Nat.le_of_ble_eq_true rfl) (by decide) (by decide) (by decide) (by decide) (fun x5 h hw => ?_)
  refine v_iand C dX11_joined_47 ?_
  exact (rt_VX C _ _).1 _ _ _ _ _ _ hr dX11_joined_48 (by decide) (by decide) ⟨_, rfl, hw⟩
-- GrassField.needQuestion(II)V
theorem dX11_needQuestion_0 : decode cX11_needQuestion 0 = .ok (.iload_n 0, 1) := by decide +kernel
theorem dX11_needQuestion_1 : decode cX11_needQuestion 1 = .ok (.ifCond .lt 8, 3) := by decide +kernel
theorem dX11_needQuestion_4 : decode cX11_needQuestion 4 = .ok (.iload_n 0, 1) := by decide +kernel
theorem dX11_needQuestion_5 : decode cX11_needQuestion 5 = .ok (.iload_n 1, 1) := by decide +kernel
theorem dX11_needQuestion_6 : decode cX11_needQuestion 6 = .ok (.if_icmp .le 14, 3) := by decide +kernel
theorem dX11_needQuestion_9 : decode cX11_needQuestion 9 = .ok (.new 161, 3) := by decide +kernel
theorem dX11_needQuestion_12 : decode cX11_needQuestion 12 = .ok (.dup, 1) := by decide +kernel
theorem dX11_needQuestion_13 : decode cX11_needQuestion 13 = .ok (.ldc_w 390, 3) := by decide +kernel
theorem dX11_needQuestion_16 : decode cX11_needQuestion 16 = .ok (.invokespecial 165, 3) := by decide +kernel
theorem dX11_needQuestion_19 : decode cX11_needQuestion 19 = .ok (.athrow, 1) := by decide +kernel
theorem dX11_needQuestion_20 : decode cX11_needQuestion 20 = .ok (.return_, 1) := by decide +kernel
def w_X11_needQuestion_9  (h : AH) (Q : AH → Prop) (X : String → AH → Prop) : Prop :=
  X "java/util/NoSuchElementException" h
def w_X11_needQuestion  (v0 : Int32) (v1 : Int32) (h : AH) (Q : AH → Prop) (X : String → AH → Prop) : Prop :=
  br (v0 < 0) (
    w_X11_needQuestion_9  h Q X) (
    br (v0 ≤ v1) (
      Q h) (
      w_X11_needQuestion_9  h Q X))
set_option maxRecDepth 100000 in
set_option maxHeartbeats 4000000 in
theorem s_X11_needQuestion_9 {p : Program} {l : Launch} {e : Env} {s : State} {m : MethodId} {args : Array Value} {below : List Frame} {meth : Method} {c : Code} {g : GG}  {Q : AH → Prop} {X : String → AH → Prop}  (C : CXT p l s m args meth c RX11 cX11_needQuestion 2 g) (hr : meth.sig.returnType = none) (htb : ∀ x ∈ c.exceptionTable.toList, False)  : ∀  (h : AH), w_X11_needQuestion_9  h Q X → V p l e s m args below meth c g 6 1 6 2 0 0 (vx_MQ below (QCx g (QV Q)) (XCx g X) args s 1 6 (gA g)) 9 [] [] h := by
  intro  h hw
  exact v_throwN true (ti := 7) (text := "nothing else is known here") C htb (tb5 (List.mem_of_getElem? (i := 45) rfl)) (tb1 (List.mem_of_getElem? (i := 27) rfl)) (List.mem_of_getElem? (i := 7) rfl) (fun w hw => cx_w C (thn_X11_165.2 w hw).1 (thn_X11_165.2 w hw).2) (List.forall_mem_cons.mpr ⟨rfl, List.forall_mem_cons.mpr ⟨rfl, thn_X11_165.1⟩⟩) dX11_needQuestion_9 dX11_needQuestion_12 dX11_needQuestion_13 dX11_needQuestion_16 dX11_needQuestion_19 (by decide) (by decide) (by decide) (by decide) hw
set_option maxRecDepth 100000 in
set_option maxHeartbeats 4000000 in
theorem s_X11_needQuestion {l : Launch}  {v0 : Int32} {v1 : Int32} {h : AH} {Q : AH → Prop} {X : String → AH → Prop}  (hw : w_X11_needQuestion  v0 v1 h Q X) : CX l yX11_needQuestion cX11_needQuestion 2 none 6 1 6 [.int v0, .int v1] h (QV Q) X := by
  refine CX.of (by decide) ⟨rfl, ⟨rfl, trivial⟩⟩ (Nat.le_of_ble_eq_true rfl) ?_
  intro p e s m args below meth c g C hr htb
  refine v_eq (pc' := 0) (ls' := [(0, .int v0), (1, .int v1)]) rfl rfl rfl rfl ?_
  refine v_iload_n C dX11_needQuestion_0 0 rfl rfl ?_
  refine v_if_lt (tgt := 9) C dX11_needQuestion_1 (by decide) (fun c_1 => ?_) (fun c_1 => ?_)
  · have hw := hw.1 c_1
    refine v_sub [] rfl ?_
    exact s_X11_needQuestion_9 C hr htb   _ hw
  · have hw := hw.2 c_1
    refine v_iload_n C dX11_needQuestion_4 0 rfl rfl ?_
    refine v_iload_n C dX11_needQuestion_5 1 rfl rfl ?_
    refine v_icmp_le (tgt := 20) C dX11_needQuestion_6 (by decide) (fun c_6 => ?_) (fun c_6 => ?_)
    · have hw := hw.1 c_6
      exact (rt_VX C _ _).2.2.1 _ _ _ _ _ hr dX11_needQuestion_20 (by decide) (by decide) ⟨rfl, hw⟩
    · have hw := hw.2 c_6
      refine v_sub [] rfl ?_
      exact s_X11_needQuestion_9 C hr htb   _ hw
-- GrassField.later(I)I
theorem dX11_later_0 : decode cX11_later 0 = .ok (.iload_n 1, 1) := by decide +kernel
theorem dX11_later_1 : decode cX11_later 1 = .ok (.iconst 2, 1) := by decide +kernel
theorem dX11_later_2 : decode cX11_later 2 = .ok (.invokestatic 245, 3) := by decide +kernel
theorem dX11_later_5 : decode cX11_later 5 = .ok (.aload_n 0, 1) := by decide +kernel
theorem dX11_later_6 : decode cX11_later 6 = .ok (.getfield 35, 3) := by decide +kernel
theorem dX11_later_9 : decode cX11_later 9 = .ok (.invokevirtual 235, 3) := by decide +kernel
theorem dX11_later_12 : decode cX11_later 12 = .ok (.iload_n 1, 1) := by decide +kernel
theorem dX11_later_13 : decode cX11_later 13 = .ok (.iconst 2, 1) := by decide +kernel
theorem dX11_later_14 : decode cX11_later 14 = .ok (.if_icmp .ne 11, 3) := by decide +kernel
theorem dX11_later_17 : decode cX11_later 17 = .ok (.aload_n 0, 1) := by decide +kernel
theorem dX11_later_18 : decode cX11_later 18 = .ok (.getfield 35, 3) := by decide +kernel
theorem dX11_later_21 : decode cX11_later 21 = .ok (.invokevirtual 253, 3) := by decide +kernel
theorem dX11_later_24 : decode cX11_later 24 = .ok (.ireturn, 1) := by decide +kernel
theorem dX11_later_25 : decode cX11_later 25 = .ok (.aload_n 0, 1) := by decide +kernel
theorem dX11_later_26 : decode cX11_later 26 = .ok (.getfield 35, 3) := by decide +kernel
theorem dX11_later_29 : decode cX11_later 29 = .ok (.invokevirtual 256, 3) := by decide +kernel
theorem dX11_later_32 : decode cX11_later 32 = .ok (.istore_n 2, 1) := by decide +kernel
theorem dX11_later_33 : decode cX11_later 33 = .ok (.iload_n 1, 1) := by decide +kernel
theorem dX11_later_34 : decode cX11_later 34 = .ok (.ifCond .ne 15, 3) := by decide +kernel
theorem dX11_later_37 : decode cX11_later 37 = .ok (.iload_n 2, 1) := by decide +kernel
theorem dX11_later_38 : decode cX11_later 38 = .ok (.aload_n 0, 1) := by decide +kernel
theorem dX11_later_39 : decode cX11_later 39 = .ok (.getfield 35, 3) := by decide +kernel
theorem dX11_later_42 : decode cX11_later 42 = .ok (.invokevirtual 259, 3) := by decide +kernel
theorem dX11_later_45 : decode cX11_later 45 = .ok (.iadd, 1) := by decide +kernel
theorem dX11_later_46 : decode cX11_later 46 = .ok (.goto 4, 3) := by decide +kernel
theorem dX11_later_49 : decode cX11_later 49 = .ok (.iload_n 2, 1) := by decide +kernel
theorem dX11_later_50 : decode cX11_later 50 = .ok (.ireturn, 1) := by decide +kernel
def w_X11_later_50  (t0 : Int32) (h : AH) (Q : Int32 → AH → Prop) (X : String → AH → Prop) : Prop :=
  Q t0 h
def w_X11_later  (v0 : Nat) (v1 : Int32) (h : AH) (Q : Int32 → AH → Prop) (X : String → AH → Prop) : Prop :=
  w_X11_needQuestion v1 (2 : Int32) h (fun h =>
  fN h v0 11 3 fun a1 =>
  vr h a1 8 (
  w_X8_refresh a1 h (fun h =>
  br (v1 = (2 : Int32)) (
    fN h v0 11 3 fun a6 =>
    vr h a6 8 (
    w_X8_unknownCases a6 h (fun x7 h =>
    Q x7 h))) (
    fN h v0 11 3 fun a2 =>
    vr h a2 8 (
    w_X8_modernCases a2 h (fun x3 h =>
    br (v1 = 0) (
      fN h v0 11 3 fun a4 =>
      vr h a4 8 (
      w_X8_laterThings a4 h (fun x5 h =>
      w_X11_later_50 (x3 + x5) h Q X))) (
      w_X11_later_50 x3 h Q X))))))) X
set_option maxRecDepth 100000 in
set_option maxHeartbeats 4000000 in
theorem s_X11_later_50 {p : Program} {l : Launch} {e : Env} {s : State} {m : MethodId} {args : Array Value} {below : List Frame} {meth : Method} {c : Code} {g : GG}  {Q : Int32 → AH → Prop} {X : String → AH → Prop}  (C : CXT p l s m args meth c RX11 cX11_later 3 g) (hr : meth.sig.returnType = (some .int)) (htb : ∀ x ∈ c.exceptionTable.toList, False)  : ∀ (t0 : Int32) (h : AH), w_X11_later_50  t0 h Q X → V p l e s m args below meth c g 7 1 6 3 1 6 (vx_MQ below (QCx g (QI Q)) (XCx g X) args s 1 6 (gA g)) 50 [] [.int t0] h := by
  intro t0 h hw
  exact (rt_VX C _ _).1 _ _ _ _ _ _ hr dX11_later_50 (by decide) (by decide) ⟨_, rfl, hw⟩
set_option maxRecDepth 100000 in
set_option maxHeartbeats 4000000 in
theorem s_X11_later {l : Launch}  {v0 : Nat} {v1 : Int32} {h : AH} {Q : Int32 → AH → Prop} {X : String → AH → Prop}  (hw : w_X11_later  v0 v1 h Q X) : CX l yX11_later cX11_later 3 (some .int) 7 1 6 [.ref v0, .int v1] h (QI Q) X := by
  refine CX.of (by decide) ⟨rfl, ⟨rfl, trivial⟩⟩ (Nat.le_of_ble_eq_true rfl) ?_
  intro p e s m args below meth c g C hr htb
  refine v_eq (pc' := 0) (ls' := [(0, .ref v0), (1, .int v1)]) rfl rfl rfl rfl ?_
  refine v_iload_n C dX11_later_0 1 rfl rfl ?_
  refine v_iconst (v := 2) C dX11_later_1 (by decide) ?_
  refine w_callXSv (st := []) C cl_X11_245 lk_X11_245 st_X11_needQuestion (s_X11_needQuestion hw) rfl dX11_later_2 rfl (by decide) (by decide) (by decide) (by decide) (by decide) (fun E h hx => tx_out C htb _ _ _ _ _ _ _ _ _ (by decide) (by decide) hx) (fun h hw => ?_)
  refine v_aload_n C dX11_later_5 0 rfl rfl ?_
  refine w_getN C fl_X11_35 dX11_later_6 rfl hw (fun a1 hw => ?_)
  refine w_callVv (st := []) C cl_X11_235 im_X8_refresh se_X8_refresh rfl hw.1 (s_X8_refresh hw.2) rfl dX11_later_9 rfl (by decide) (by decide) (by decide) (by decide) (by decide) (fun h hw => ?_)
  refine v_iload_n C dX11_later_12 1 rfl rfl ?_
  refine v_iconst (v := 2) C dX11_later_13 (by decide) ?_
  refine v_icmp_ne (tgt := 25) C dX11_later_14 (by decide) (fun c_14 => ?_) (fun c_14 => ?_)
  · have hw := hw.2 c_14
    refine v_aload_n C dX11_later_25 0 rfl rfl ?_
    refine w_getN C fl_X11_35 dX11_later_26 rfl hw (fun a2 hw => ?_)
    refine w_callVi (st := []) C cl_X11_256 im_X8_modernCases se_X8_modernCases rfl hw.1 (s_X8_modernCases hw.2) rfl dX11_later_29 rfl (by decide) (by decide) (by decide) (by decide) (by decide) (fun x3 h hw => ?_)
    refine v_istore_n (ls' := [(2, .int x3), (0, .ref v0), (1, .int v1)]) C dX11_later_32 rfl (by decide) rfl ?_
    refine v_iload_n C dX11_later_33 2 rfl rfl ?_
    refine v_if_ne (tgt := 49) C dX11_later_34 (by decide) (fun c_34 => ?_) (fun c_34 => ?_)
    · have hw := hw.2 c_34
      refine v_iload_n C dX11_later_49 0 rfl rfl ?_
      refine v_sub [] rfl ?_
      exact s_X11_later_50 C hr htb  _ _ hw
    · have hw := hw.1 c_34
      refine v_iload_n C dX11_later_37 0 rfl rfl ?_
      refine v_aload_n C dX11_later_38 1 rfl rfl ?_
      refine w_getN C fl_X11_35 dX11_later_39 rfl hw (fun a4 hw => ?_)
      refine w_callVi (st := [.int x3]) C cl_X11_259 im_X8_laterThings se_X8_laterThings rfl hw.1 (s_X8_laterThings hw.2) rfl dX11_later_42 rfl (Nat.le_of_ble_eq_true rfl) (by decide) (by decide) (by decide) (by decide) (fun x5 h hw => ?_)
      refine v_iadd C dX11_later_45 ?_
      refine v_goto (tgt := 50) C dX11_later_46 (by decide) ?_
      refine v_sub [] rfl ?_
      exact s_X11_later_50 C hr htb  _ _ hw
  · have hw := hw.1 c_14
    refine v_aload_n C dX11_later_17 0 rfl rfl ?_
    refine w_getN C fl_X11_35 dX11_later_18 rfl hw (fun a6 hw => ?_)
    refine w_callVi (st := []) C cl_X11_253 im_X8_unknownCases se_X8_unknownCases rfl hw.1 (s_X8_unknownCases hw.2) rfl dX11_later_21 rfl (by decide) (by decide) (by decide) (by decide) (by decide) (fun x7 h hw => ?_)
    exact (rt_VX C _ _).1 _ _ _ _ _ _ hr dX11_later_24 (by decide) (by decide) ⟨_, rfl, hw⟩
-- GrassField.law()I
theorem dX11_law_0 : decode cX11_law 0 = .ok (.aload_n 0, 1) := by decide +kernel
theorem dX11_law_1 : decode cX11_law 1 = .ok (.getfield 10, 3) := by decide +kernel
theorem dX11_law_4 : decode cX11_law 4 = .ok (.invokevirtual 102, 3) := by decide +kernel
theorem dX11_law_7 : decode cX11_law 7 = .ok (.invokestatic 58, 3) := by decide +kernel
theorem dX11_law_10 : decode cX11_law 10 = .ok (.aload_n 0, 1) := by decide +kernel
theorem dX11_law_11 : decode cX11_law 11 = .ok (.getfield 19, 3) := by decide +kernel
theorem dX11_law_14 : decode cX11_law 14 = .ok (.getfield 105, 3) := by decide +kernel
theorem dX11_law_17 : decode cX11_law 17 = .ok (.iconst 4, 1) := by decide +kernel
theorem dX11_law_18 : decode cX11_law 18 = .ok (.invokestatic 91, 3) := by decide +kernel
theorem dX11_law_21 : decode cX11_law 21 = .ok (.aload_n 0, 1) := by decide +kernel
theorem dX11_law_22 : decode cX11_law 22 = .ok (.getfield 19, 3) := by decide +kernel
theorem dX11_law_25 : decode cX11_law 25 = .ok (.aload_n 0, 1) := by decide +kernel
theorem dX11_law_26 : decode cX11_law 26 = .ok (.getfield 10, 3) := by decide +kernel
theorem dX11_law_29 : decode cX11_law 29 = .ok (.invokevirtual 108, 3) := by decide +kernel
theorem dX11_law_32 : decode cX11_law 32 = .ok (.invokevirtual 112, 3) := by decide +kernel
theorem dX11_law_35 : decode cX11_law 35 = .ok (.ireturn, 1) := by decide +kernel
def w_X11_law  (v0 : Nat) (h : AH) (Q : Int32 → AH → Prop) (X : String → AH → Prop) : Prop :=
  fN h v0 11 0 fun a1 =>
  vr h a1 6 (
  w_X6_readsLaw a1 h (fun x2 h =>
  w_X11_need x2 h (fun h =>
  fN h v0 11 1 fun a3 =>
  fI h a3 7 6 fun x4 =>
  w_X11_needRoom x4 (4 : Int32) h (fun h =>
  fN h v0 11 1 fun a5 =>
  fN h v0 11 0 fun a6 =>
  vr h a6 6 (
  w_X6_program a6 h (fun a7 h =>
  vr h a5 7 (
  w_X7_addLaw a5 a7 h (fun x8 h =>
  Q x8 h))))) X) X))
set_option maxRecDepth 100000 in
set_option maxHeartbeats 4000000 in
theorem s_X11_law {l : Launch}  {v0 : Nat} {h : AH} {Q : Int32 → AH → Prop} {X : String → AH → Prop}  (hw : w_X11_law  v0 h Q X) : CX l yX11_law cX11_law 1 (some .int) 47 5 448 [.ref v0] h (QI Q) X := by
  refine CX.of (by decide) ⟨rfl, trivial⟩ (Nat.le_of_ble_eq_true rfl) ?_
  intro p e s m args below meth c g C hr htb
  refine v_eq (pc' := 0) (ls' := [(0, .ref v0)]) rfl rfl rfl rfl ?_
  refine v_aload_n C dX11_law_0 0 rfl rfl ?_
  refine w_getN C fl_X11_10 dX11_law_1 rfl hw (fun a1 hw => ?_)
  refine w_callVi (st := []) C cl_X11_102 im_X6_readsLaw se_X6_readsLaw rfl hw.1 (s_X6_readsLaw hw.2) rfl dX11_law_4 rfl (by decide) (by decide) (by decide) (by decide) (by decide) (fun x2 h hw => ?_)
  refine w_callXSv (st := []) C cl_X11_58 lk_X11_58 st_X11_need (s_X11_need hw) rfl dX11_law_7 rfl (by decide) (by decide) (by decide) (by decide) (by decide) (fun E h hx => tx_out C htb _ _ _ _ _ _ _ _ _ (by decide) (by decide) hx) (fun h hw => ?_)
  refine v_aload_n C dX11_law_10 0 rfl rfl ?_
  refine w_getN C fl_X11_19 dX11_law_11 rfl hw (fun a3 hw => ?_)
  refine w_getI C fl_X11_105 dX11_law_14 rfl hw (fun x4 hw => ?_)
  refine v_iconst (v := 4) C dX11_law_17 (by decide) ?_
  refine w_callXSv (st := []) C cl_X11_91 lk_X11_91 st_X11_needRoom (s_X11_needRoom hw) rfl dX11_law_18 rfl (by decide) (by decide) (by decide) (by decide) (by decide) (fun E h hx => tx_out C htb _ _ _ _ _ _ _ _ _ (by decide) (by decide) hx) (fun h hw => ?_)
  refine v_aload_n C dX11_law_21 0 rfl rfl ?_
  refine w_getN C fl_X11_19 dX11_law_22 rfl hw (fun a5 hw => ?_)
  refine v_aload_n C dX11_law_25 0 rfl rfl ?_
  refine w_getN C fl_X11_10 dX11_law_26 rfl hw (fun a6 hw => ?_)
  refine w_callVr (st := [.ref a5]) C cl_X11_108 im_X6_program se_X6_program rfl hw.1 (s_X6_program hw.2) rfl dX11_law_29 rfl (Nat.le_of_ble_eq_true rfl) (by decide) (by decide) (by decide) (by decide) (fun a7 h hw => ?_)
  refine w_callVi (st := []) C cl_X11_112 im_X7_addLaw se_X7_addLaw rfl hw.1 (s_X7_addLaw hw.2) rfl dX11_law_32 rfl (by decide) (by decide) (by decide) (by decide) (by decide) (fun x8 h hw => ?_)
  exact (rt_VX C _ _).1 _ _ _ _ _ _ hr dX11_law_35 (by decide) (by decide) ⟨_, rfl, hw⟩
-- GrassField.length(IIIZ)I
theorem dX11_length_0 : decode cX11_length 0 = .ok (.iload_n 1, 1) := by decide +kernel
theorem dX11_length_1 : decode cX11_length 1 = .ok (.iconst 2, 1) := by decide +kernel
theorem dX11_length_2 : decode cX11_length 2 = .ok (.invokestatic 119, 3) := by decide +kernel
theorem dX11_length_5 : decode cX11_length 5 = .ok (.iconst 1, 1) := by decide +kernel
theorem dX11_length_6 : decode cX11_length 6 = .ok (.iload_n 2, 1) := by decide +kernel
theorem dX11_length_7 : decode cX11_length 7 = .ok (.if_icmp .gt 18, 3) := by decide +kernel
theorem dX11_length_10 : decode cX11_length 10 = .ok (.iload_n 2, 1) := by decide +kernel
theorem dX11_length_11 : decode cX11_length 11 = .ok (.iload_n 3, 1) := by decide +kernel
theorem dX11_length_12 : decode cX11_length 12 = .ok (.if_icmp .gt 13, 3) := by decide +kernel
theorem dX11_length_15 : decode cX11_length 15 = .ok (.iload_n 3, 1) := by decide +kernel
theorem dX11_length_16 : decode cX11_length 16 = .ok (.bipush 9, 2) := by decide +kernel
theorem dX11_length_18 : decode cX11_length 18 = .ok (.if_icmp .gt 7, 3) := by decide +kernel
theorem dX11_length_21 : decode cX11_length 21 = .ok (.iconst 1, 1) := by decide +kernel
theorem dX11_length_22 : decode cX11_length 22 = .ok (.goto 4, 3) := by decide +kernel
theorem dX11_length_25 : decode cX11_length 25 = .ok (.iconst 0, 1) := by decide +kernel
theorem dX11_length_26 : decode cX11_length 26 = .ok (.invokestatic 58, 3) := by decide +kernel
theorem dX11_length_29 : decode cX11_length 29 = .ok (.aload_n 0, 1) := by decide +kernel
theorem dX11_length_30 : decode cX11_length 30 = .ok (.getfield 35, 3) := by decide +kernel
theorem dX11_length_33 : decode cX11_length 33 = .ok (.invokevirtual 235, 3) := by decide +kernel
theorem dX11_length_36 : decode cX11_length 36 = .ok (.aload_n 0, 1) := by decide +kernel
theorem dX11_length_37 : decode cX11_length 37 = .ok (.getfield 35, 3) := by decide +kernel
theorem dX11_length_40 : decode cX11_length 40 = .ok (.iload_n 1, 1) := by decide +kernel
theorem dX11_length_41 : decode cX11_length 41 = .ok (.iload 4, 2) := by decide +kernel
theorem dX11_length_43 : decode cX11_length 43 = .ok (.ifCond .eq 7, 3) := by decide +kernel
theorem dX11_length_46 : decode cX11_length 46 = .ok (.iload_n 2, 1) := by decide +kernel
theorem dX11_length_47 : decode cX11_length 47 = .ok (.goto 4, 3) := by decide +kernel
theorem dX11_length_50 : decode cX11_length 50 = .ok (.iload_n 3, 1) := by decide +kernel
theorem dX11_length_51 : decode cX11_length 51 = .ok (.invokevirtual 298, 3) := by decide +kernel
theorem dX11_length_54 : decode cX11_length 54 = .ok (.ireturn, 1) := by decide +kernel
def w_X11_length_51  (t0 : Nat) (t1 : Int32) (t2 : Int32) (h : AH) (Q : Int32 → AH → Prop) (X : String → AH → Prop) : Prop :=
  vr h t0 8 (
  w_X8_minutesOf t0 t1 t2 h (fun x1 h =>
  Q x1 h))
def w_X11_length_26  (v0 : Nat) (v1 : Int32) (v2 : Int32) (v3 : Int32) (v4 : Int32) (t0 : Int32) (h : AH) (Q : Int32 → AH → Prop) (X : String → AH → Prop) : Prop :=
  w_X11_need t0 h (fun h =>
  fN h v0 11 3 fun a1 =>
  vr h a1 8 (
  w_X8_refresh a1 h (fun h =>
  fN h v0 11 3 fun a2 =>
  br (v4 = 0) (
    w_X11_length_51 a2 v1 v3 h Q X) (
    w_X11_length_51 a2 v1 v2 h Q X)))) X
def w_X11_length_25  (v0 : Nat) (v1 : Int32) (v2 : Int32) (v3 : Int32) (v4 : Int32) (h : AH) (Q : Int32 → AH → Prop) (X : String → AH → Prop) : Prop :=
  w_X11_length_26 v0 v1 v2 v3 v4 (0 : Int32) h Q X
def w_X11_length  (v0 : Nat) (v1 : Int32) (v2 : Int32) (v3 : Int32) (v4 : Int32) (h : AH) (Q : Int32 → AH → Prop) (X : String → AH → Prop) : Prop :=
  w_X11_needNumber v1 (2 : Int32) h (fun h =>
  br (v2 < (1 : Int32)) (
    w_X11_length_25 v0 v1 v2 v3 v4 h Q X) (
    br (v3 < v2) (
      w_X11_length_25 v0 v1 v2 v3 v4 h Q X) (
      br ((9 : Int32) < v3) (
        w_X11_length_25 v0 v1 v2 v3 v4 h Q X) (
        w_X11_length_26 v0 v1 v2 v3 v4 (1 : Int32) h Q X)))) X
set_option maxRecDepth 100000 in
set_option maxHeartbeats 4000000 in
theorem s_X11_length_51 {p : Program} {l : Launch} {e : Env} {s : State} {m : MethodId} {args : Array Value} {below : List Frame} {meth : Method} {c : Code} {g : GG}  {Q : Int32 → AH → Prop} {X : String → AH → Prop}  (C : CXT p l s m args meth c RX11 cX11_length 5 g) (hr : meth.sig.returnType = (some .int)) (htb : ∀ x ∈ c.exceptionTable.toList, False)  : ∀ (t0 : Nat) (t1 : Int32) (t2 : Int32) (h : AH), w_X11_length_51  t0 t1 t2 h Q X → V p l e s m args below meth c g 7 2 12 5 2 12 (vx_MQ below (QCx g (QI Q)) (XCx g X) args s 2 12 (gA g)) 51 [] [.int t2, .int t1, .ref t0] h := by
  intro t0 t1 t2 h hw
  refine w_callVi (st := []) C cl_X11_298 im_X8_minutesOf se_X8_minutesOf rfl hw.1 (s_X8_minutesOf hw.2) rfl dX11_length_51 rfl (by decide) (by decide) (by decide) (by decide) (by decide) (fun x1 h hw => ?_)
  exact (rt_VX C _ _).1 _ _ _ _ _ _ hr dX11_length_54 (by decide) (by decide) ⟨_, rfl, hw⟩
set_option maxRecDepth 100000 in
set_option maxHeartbeats 4000000 in
theorem s_X11_length_26 {p : Program} {l : Launch} {e : Env} {s : State} {m : MethodId} {args : Array Value} {below : List Frame} {meth : Method} {c : Code} {g : GG}  {Q : Int32 → AH → Prop} {X : String → AH → Prop}  (C : CXT p l s m args meth c RX11 cX11_length 5 g) (hr : meth.sig.returnType = (some .int)) (htb : ∀ x ∈ c.exceptionTable.toList, False)  : ∀ (v0 : Nat) (v1 : Int32) (v2 : Int32) (v3 : Int32) (v4 : Int32) (t0 : Int32) (h : AH), w_X11_length_26  v0 v1 v2 v3 v4 t0 h Q X → V p l e s m args below meth c g 7 2 12 5 1 6 (vx_MQ below (QCx g (QI Q)) (XCx g X) args s 2 12 (gA g)) 26 [(0, .ref v0), (1, .int v1), (2, .int v2), (3, .int v3), (4, .int v4)] [.int t0] h := by
  intro v0 v1 v2 v3 v4 t0 h hw
  refine w_callXSv (st := []) C cl_X11_58 lk_X11_58 st_X11_need (s_X11_need hw) rfl dX11_length_26 rfl (by decide) (by decide) (by decide) (by decide) (by decide) (fun E h hx => tx_out C htb _ _ _ _ _ _ _ _ _ (by decide) (by decide) hx) (fun h hw => ?_)
  refine v_aload_n C dX11_length_29 0 rfl rfl ?_
  refine w_getN C fl_X11_35 dX11_length_30 rfl hw (fun a1 hw => ?_)
  refine w_callVv (st := []) C cl_X11_235 im_X8_refresh se_X8_refresh rfl hw.1 (s_X8_refresh hw.2) rfl dX11_length_33 rfl (by decide) (by decide) (by decide) (by decide) (by decide) (fun h hw => ?_)
  refine v_aload_n C dX11_length_36 0 rfl rfl ?_
  refine w_getN C fl_X11_35 dX11_length_37 rfl hw (fun a2 hw => ?_)
  refine v_iload_n C dX11_length_40 1 rfl rfl ?_
  refine v_iload C dX11_length_41 4 rfl ?_
  refine v_if_eq (tgt := 50) C dX11_length_43 (by decide) (fun c_43 => ?_) (fun c_43 => ?_)
  · have hw := hw.1 c_43
    refine v_iload_n C dX11_length_50 3 rfl rfl ?_
    refine v_sub [] rfl ?_
    exact s_X11_length_51 C hr htb  _ _ _ _ hw
  · have hw := hw.2 c_43
    refine v_iload_n C dX11_length_46 2 rfl rfl ?_
    refine v_goto (tgt := 51) C dX11_length_47 (by decide) ?_
    refine v_sub [] rfl ?_
    exact s_X11_length_51 C hr htb  _ _ _ _ hw
set_option maxRecDepth 100000 in
set_option maxHeartbeats 4000000 in
theorem s_X11_length_25 {p : Program} {l : Launch} {e : Env} {s : State} {m : MethodId} {args : Array Value} {below : List Frame} {meth : Method} {c : Code} {g : GG}  {Q : Int32 → AH → Prop} {X : String → AH → Prop}  (C : CXT p l s m args meth c RX11 cX11_length 5 g) (hr : meth.sig.returnType = (some .int)) (htb : ∀ x ∈ c.exceptionTable.toList, False)  : ∀ (v0 : Nat) (v1 : Int32) (v2 : Int32) (v3 : Int32) (v4 : Int32) (h : AH), w_X11_length_25  v0 v1 v2 v3 v4 h Q X → V p l e s m args below meth c g 7 2 12 5 1 6 (vx_MQ below (QCx g (QI Q)) (XCx g X) args s 2 12 (gA g)) 25 [(0, .ref v0), (1, .int v1), (2, .int v2), (3, .int v3), (4, .int v4)] [] h := by
  intro v0 v1 v2 v3 v4 h hw
  refine v_iconst (v := 0) C dX11_length_25 (by decide) ?_
  exact s_X11_length_26 C hr htb  _ _ _ _ _ _ _ hw
set_option maxRecDepth 100000 in
set_option maxHeartbeats 4000000 in
theorem s_X11_length {l : Launch}  {v0 : Nat} {v1 : Int32} {v2 : Int32} {v3 : Int32} {v4 : Int32} {h : AH} {Q : Int32 → AH → Prop} {X : String → AH → Prop}  (hw : w_X11_length  v0 v1 v2 v3 v4 h Q X) : CX l yX11_length cX11_length 5 (some .int) 7 2 12 [.ref v0, .int v1, .int v2, .int v3, .int v4] h (QI Q) X := by
  refine CX.of (by decide) ⟨rfl, ⟨rfl, ⟨rfl, ⟨rfl, ⟨rfl, trivial⟩⟩⟩⟩⟩ (Nat.le_of_ble_eq_true rfl) ?_
  intro p e s m args below meth c g C hr htb
  refine v_eq (pc' := 0) (ls' := [(0, .ref v0), (1, .int v1), (2, .int v2), (3, .int v3), (4, .int v4)]) rfl rfl rfl rfl ?_
  refine v_iload_n C dX11_length_0 1 rfl rfl ?_
  refine v_iconst (v := 2) C dX11_length_1 (by decide) ?_
  refine w_callXSv (st := []) C cl_X11_119 lk_X11_119 st_X11_needNumber (s_X11_needNumber hw) rfl dX11_length_2 rfl (by decide) (by decide) (by decide) (by decide) (by decide) (fun E h hx => tx_out C htb _ _ _ _ _ _ _ _ _ (by decide) (by decide) hx) (fun h hw => ?_)
  refine v_iconst (v := 1) C dX11_length_5 (by decide) ?_
  refine v_iload_n C dX11_length_6 2 rfl rfl ?_
  refine v_icmp_gt (tgt := 25) C dX11_length_7 (by decide) (fun c_7 => ?_) (fun c_7 => ?_)
  · have hw := hw.1 c_7
    exact s_X11_length_25 C hr htb  _ _ _ _ _ _ hw
  · have hw := hw.2 c_7
    refine v_iload_n C dX11_length_10 2 rfl rfl ?_
    refine v_iload_n C dX11_length_11 3 rfl rfl ?_
    refine v_icmp_gt (tgt := 25) C dX11_length_12 (by decide) (fun c_12 => ?_) (fun c_12 => ?_)
    · have hw := hw.1 c_12
      exact s_X11_length_25 C hr htb  _ _ _ _ _ _ hw
    · have hw := hw.2 c_12
      refine v_iload_n C dX11_length_15 3 rfl rfl ?_
      refine v_bipush (v := 9) C dX11_length_16 (by decide) ?_
      refine v_icmp_gt (tgt := 25) C dX11_length_18 (by decide) (fun c_18 => ?_) (fun c_18 => ?_)
      · have hw := hw.1 c_18
        exact s_X11_length_25 C hr htb  _ _ _ _ _ _ hw
      · have hw := hw.2 c_18
        refine v_iconst (v := 1) C dX11_length_21 (by decide) ?_
        refine v_goto (tgt := 26) C dX11_length_22 (by decide) ?_
        exact s_X11_length_26 C hr htb  _ _ _ _ _ _ _ hw
-- GrassField.look(II)I
theorem dX11_look_0 : decode cX11_look 0 = .ok (.aload_n 0, 1) := by decide +kernel
theorem dX11_look_1 : decode cX11_look 1 = .ok (.getfield 19, 3) := by decide +kernel
theorem dX11_look_4 : decode cX11_look 4 = .ok (.getfield 122, 3) := by decide +kernel
theorem dX11_look_7 : decode cX11_look 7 = .ok (.astore_n 3, 1) := by decide +kernel
theorem dX11_look_8 : decode cX11_look 8 = .ok (.iload_n 1, 1) := by decide +kernel
theorem dX11_look_9 : decode cX11_look 9 = .ok (.aload_n 3, 1) := by decide +kernel
theorem dX11_look_10 : decode cX11_look 10 = .ok (.getfield 131, 3) := by decide +kernel
theorem dX11_look_13 : decode cX11_look 13 = .ok (.invokestatic 119, 3) := by decide +kernel
theorem dX11_look_16 : decode cX11_look 16 = .ok (.iload_n 2, 1) := by decide +kernel
theorem dX11_look_17 : decode cX11_look 17 = .ok (.tableswitch 101 0 7 #[47, 54, 61, 68, 75, 82, 89, 95], 47) := by decide +kernel
theorem dX11_look_64 : decode cX11_look 64 = .ok (.aload_n 3, 1) := by decide +kernel
theorem dX11_look_65 : decode cX11_look 65 = .ok (.getfield 138, 3) := by decide +kernel
theorem dX11_look_68 : decode cX11_look 68 = .ok (.iload_n 1, 1) := by decide +kernel
theorem dX11_look_69 : decode cX11_look 69 = .ok (.iaload, 1) := by decide +kernel
theorem dX11_look_70 : decode cX11_look 70 = .ok (.ireturn, 1) := by decide +kernel
theorem dX11_look_71 : decode cX11_look 71 = .ok (.aload_n 3, 1) := by decide +kernel
theorem dX11_look_72 : decode cX11_look 72 = .ok (.getfield 141, 3) := by decide +kernel
theorem dX11_look_75 : decode cX11_look 75 = .ok (.iload_n 1, 1) := by decide +kernel
theorem dX11_look_76 : decode cX11_look 76 = .ok (.iaload, 1) := by decide +kernel
theorem dX11_look_77 : decode cX11_look 77 = .ok (.ireturn, 1) := by decide +kernel
theorem dX11_look_78 : decode cX11_look 78 = .ok (.aload_n 3, 1) := by decide +kernel
theorem dX11_look_79 : decode cX11_look 79 = .ok (.getfield 144, 3) := by decide +kernel
theorem dX11_look_82 : decode cX11_look 82 = .ok (.iload_n 1, 1) := by decide +kernel
theorem dX11_look_83 : decode cX11_look 83 = .ok (.iaload, 1) := by decide +kernel
theorem dX11_look_84 : decode cX11_look 84 = .ok (.ireturn, 1) := by decide +kernel
theorem dX11_look_85 : decode cX11_look 85 = .ok (.aload_n 3, 1) := by decide +kernel
theorem dX11_look_86 : decode cX11_look 86 = .ok (.getfield 147, 3) := by decide +kernel
theorem dX11_look_89 : decode cX11_look 89 = .ok (.iload_n 1, 1) := by decide +kernel
theorem dX11_look_90 : decode cX11_look 90 = .ok (.iaload, 1) := by decide +kernel
theorem dX11_look_91 : decode cX11_look 91 = .ok (.ireturn, 1) := by decide +kernel
theorem dX11_look_92 : decode cX11_look 92 = .ok (.aload_n 3, 1) := by decide +kernel
theorem dX11_look_93 : decode cX11_look 93 = .ok (.getfield 150, 3) := by decide +kernel
theorem dX11_look_96 : decode cX11_look 96 = .ok (.iload_n 1, 1) := by decide +kernel
theorem dX11_look_97 : decode cX11_look 97 = .ok (.iaload, 1) := by decide +kernel
theorem dX11_look_98 : decode cX11_look 98 = .ok (.ireturn, 1) := by decide +kernel
theorem dX11_look_99 : decode cX11_look 99 = .ok (.aload_n 3, 1) := by decide +kernel
theorem dX11_look_100 : decode cX11_look 100 = .ok (.getfield 151, 3) := by decide +kernel
theorem dX11_look_103 : decode cX11_look 103 = .ok (.iload_n 1, 1) := by decide +kernel
theorem dX11_look_104 : decode cX11_look 104 = .ok (.iaload, 1) := by decide +kernel
theorem dX11_look_105 : decode cX11_look 105 = .ok (.ireturn, 1) := by decide +kernel
theorem dX11_look_106 : decode cX11_look 106 = .ok (.aload_n 3, 1) := by decide +kernel
theorem dX11_look_107 : decode cX11_look 107 = .ok (.iload_n 1, 1) := by decide +kernel
theorem dX11_look_108 : decode cX11_look 108 = .ok (.invokevirtual 154, 3) := by decide +kernel
theorem dX11_look_111 : decode cX11_look 111 = .ok (.ireturn, 1) := by decide +kernel
theorem dX11_look_112 : decode cX11_look 112 = .ok (.aload_n 3, 1) := by decide +kernel
theorem dX11_look_113 : decode cX11_look 113 = .ok (.iload_n 1, 1) := by decide +kernel
theorem dX11_look_114 : decode cX11_look 114 = .ok (.invokevirtual 158, 3) := by decide +kernel
theorem dX11_look_117 : decode cX11_look 117 = .ok (.ireturn, 1) := by decide +kernel
theorem dX11_look_118 : decode cX11_look 118 = .ok (.new 161, 3) := by decide +kernel
theorem dX11_look_121 : decode cX11_look 121 = .ok (.dup, 1) := by decide +kernel
theorem dX11_look_122 : decode cX11_look 122 = .ok (.ldc 163, 2) := by decide +kernel
theorem dX11_look_124 : decode cX11_look 124 = .ok (.invokespecial 165, 3) := by decide +kernel
theorem dX11_look_127 : decode cX11_look 127 = .ok (.athrow, 1) := by decide +kernel
def w_X11_look  (v0 : Nat) (v1 : Int32) (v2 : Int32) (h : AH) (Q : Int32 → AH → Prop) (X : String → AH → Prop) : Prop :=
  fN h v0 11 1 fun a1 =>
  fN h a1 7 2 fun a2 =>
  fI h a2 4 0 fun x3 =>
  w_X11_needNumber v1 x3 h (fun h =>
  br (v2 = 0) (
      fN h a2 4 1 fun a4 =>
      aI h a4 v1 fun x5 =>
      Q x5 h) (
  br (v2 = 1) (
      fN h a2 4 3 fun a6 =>
      aI h a6 v1 fun x7 =>
      Q x7 h) (
  br (v2 = 2) (
      fN h a2 4 4 fun a8 =>
      aI h a8 v1 fun x9 =>
      Q x9 h) (
  br (v2 = 3) (
      fN h a2 4 6 fun a10 =>
      aI h a10 v1 fun x11 =>
      Q x11 h) (
  br (v2 = 4) (
      fN h a2 4 2 fun a12 =>
      aI h a12 v1 fun x13 =>
      Q x13 h) (
  br (v2 = 5) (
      fN h a2 4 5 fun a14 =>
      aI h a14 v1 fun x15 =>
      Q x15 h) (
  br (v2 = 6) (
      vr h a2 4 (
      w_X4_foesNear a2 v1 h (fun x16 h =>
      Q x16 h))) (
  br (v2 = 7) (
      vr h a2 4 (
      w_X4_friendsNear a2 v1 h (fun x17 h =>
      Q x17 h))) (
    X "java/util/NoSuchElementException" h))))))))) X
set_option maxRecDepth 100000 in
set_option maxHeartbeats 4000000 in
theorem s_X11_look {l : Launch}  {v0 : Nat} {v1 : Int32} {v2 : Int32} {h : AH} {Q : Int32 → AH → Prop} {X : String → AH → Prop}  (hw : w_X11_look  v0 v1 v2 h Q X) : CX l yX11_look cX11_look 4 (some .int) 7 2 12 [.ref v0, .int v1, .int v2] h (QI Q) X := by
  refine CX.of (by decide) ⟨rfl, ⟨rfl, ⟨rfl, trivial⟩⟩⟩ (Nat.le_of_ble_eq_true rfl) ?_
  intro p e s m args below meth c g C hr htb
  refine v_eq (pc' := 0) (ls' := [(0, .ref v0), (1, .int v1), (2, .int v2)]) rfl rfl rfl rfl ?_
  refine v_aload_n C dX11_look_0 0 rfl rfl ?_
  refine w_getN C fl_X11_19 dX11_look_1 rfl hw (fun a1 hw => ?_)
  refine w_getN C fl_X11_122 dX11_look_4 rfl hw (fun a2 hw => ?_)
  refine v_astore_n (ls' := [(3, .ref a2), (0, .ref v0), (1, .int v1), (2, .int v2)]) C dX11_look_7 rfl (by decide) rfl ?_
  refine v_iload_n C dX11_look_8 2 rfl rfl ?_
  refine v_aload_n C dX11_look_9 0 rfl rfl ?_
  refine w_getI C fl_X11_131 dX11_look_10 rfl hw (fun x3 hw => ?_)
  refine w_callXSv (st := []) C cl_X11_119 lk_X11_119 st_X11_needNumber (s_X11_needNumber hw) rfl dX11_look_13 rfl (by decide) (by decide) (by decide) (by decide) (by decide) (fun E h hx => tx_out C htb _ _ _ _ _ _ _ _ _ (by decide) (by decide) hx) (fun h hw => ?_)
  refine v_iload_n C dX11_look_16 3 rfl rfl ?_
  refine v_tsw C (td := 118) dX11_look_17 (by decide) ?_ (fun c_17 => ?_)
  · intro i hi hx
    rcases (show i = 0 ∨ i = 1 ∨ i = 2 ∨ i = 3 ∨ i = 4 ∨ i = 5 ∨ i = 6 ∨ i = 7 by omega) with rfl | rfl | rfl | rfl | rfl | rfl | rfl | rfl
    · refine ⟨_, 64, rfl, by decide, ?_⟩
      have hw := hw.1 (by rw [hx]; rfl)
      refine v_aload_n C dX11_look_64 0 rfl rfl ?_
      refine w_getN C fl_X11_138 dX11_look_65 rfl hw (fun a4 hw => ?_)
      refine v_iload_n C dX11_look_68 2 rfl rfl ?_
      refine w_iaload C dX11_look_69 hw (fun x5 hw => ?_)
      exact (rt_VX C _ _).1 _ _ _ _ _ _ hr dX11_look_70 (by decide) (by decide) ⟨_, rfl, hw⟩
    · refine ⟨_, 71, rfl, by decide, ?_⟩
      have hw := hw.2 (by rw [hx]; decide)
      have hw := hw.1 (by rw [hx]; rfl)
      refine v_aload_n C dX11_look_71 0 rfl rfl ?_
      refine w_getN C fl_X11_141 dX11_look_72 rfl hw (fun a6 hw => ?_)
      refine v_iload_n C dX11_look_75 2 rfl rfl ?_
      refine w_iaload C dX11_look_76 hw (fun x7 hw => ?_)
      exact (rt_VX C _ _).1 _ _ _ _ _ _ hr dX11_look_77 (by decide) (by decide) ⟨_, rfl, hw⟩
    · refine ⟨_, 78, rfl, by decide, ?_⟩
      have hw := hw.2 (by rw [hx]; decide)
      have hw := hw.2 (by rw [hx]; decide)
      have hw := hw.1 (by rw [hx]; rfl)
      refine v_aload_n C dX11_look_78 0 rfl rfl ?_
      refine w_getN C fl_X11_144 dX11_look_79 rfl hw (fun a8 hw => ?_)
      refine v_iload_n C dX11_look_82 2 rfl rfl ?_
      refine w_iaload C dX11_look_83 hw (fun x9 hw => ?_)
      exact (rt_VX C _ _).1 _ _ _ _ _ _ hr dX11_look_84 (by decide) (by decide) ⟨_, rfl, hw⟩
    · refine ⟨_, 85, rfl, by decide, ?_⟩
      have hw := hw.2 (by rw [hx]; decide)
      have hw := hw.2 (by rw [hx]; decide)
      have hw := hw.2 (by rw [hx]; decide)
      have hw := hw.1 (by rw [hx]; rfl)
      refine v_aload_n C dX11_look_85 0 rfl rfl ?_
      refine w_getN C fl_X11_147 dX11_look_86 rfl hw (fun a10 hw => ?_)
      refine v_iload_n C dX11_look_89 2 rfl rfl ?_
      refine w_iaload C dX11_look_90 hw (fun x11 hw => ?_)
      exact (rt_VX C _ _).1 _ _ _ _ _ _ hr dX11_look_91 (by decide) (by decide) ⟨_, rfl, hw⟩
    · refine ⟨_, 92, rfl, by decide, ?_⟩
      have hw := hw.2 (by rw [hx]; decide)
      have hw := hw.2 (by rw [hx]; decide)
      have hw := hw.2 (by rw [hx]; decide)
      have hw := hw.2 (by rw [hx]; decide)
      have hw := hw.1 (by rw [hx]; rfl)
      refine v_aload_n C dX11_look_92 0 rfl rfl ?_
      refine w_getN C fl_X11_150 dX11_look_93 rfl hw (fun a12 hw => ?_)
      refine v_iload_n C dX11_look_96 2 rfl rfl ?_
      refine w_iaload C dX11_look_97 hw (fun x13 hw => ?_)
      exact (rt_VX C _ _).1 _ _ _ _ _ _ hr dX11_look_98 (by decide) (by decide) ⟨_, rfl, hw⟩
    · refine ⟨_, 99, rfl, by decide, ?_⟩
      have hw := hw.2 (by rw [hx]; decide)
      have hw := hw.2 (by rw [hx]; decide)
      have hw := hw.2 (by rw [hx]; decide)
      have hw := hw.2 (by rw [hx]; decide)
      have hw := hw.2 (by rw [hx]; decide)
      have hw := hw.1 (by rw [hx]; rfl)
      refine v_aload_n C dX11_look_99 0 rfl rfl ?_
      refine w_getN C fl_X11_151 dX11_look_100 rfl hw (fun a14 hw => ?_)
      refine v_iload_n C dX11_look_103 2 rfl rfl ?_
      refine w_iaload C dX11_look_104 hw (fun x15 hw => ?_)
      exact (rt_VX C _ _).1 _ _ _ _ _ _ hr dX11_look_105 (by decide) (by decide) ⟨_, rfl, hw⟩
    · refine ⟨_, 106, rfl, by decide, ?_⟩
      have hw := hw.2 (by rw [hx]; decide)
      have hw := hw.2 (by rw [hx]; decide)
      have hw := hw.2 (by rw [hx]; decide)
      have hw := hw.2 (by rw [hx]; decide)
      have hw := hw.2 (by rw [hx]; decide)
      have hw := hw.2 (by rw [hx]; decide)
      have hw := hw.1 (by rw [hx]; rfl)
      refine v_aload_n C dX11_look_106 0 rfl rfl ?_
      refine v_iload_n C dX11_look_107 2 rfl rfl ?_
      refine w_callVi (st := []) C cl_X11_154 im_X4_foesNear se_X4_foesNear rfl hw.1 (s_X4_foesNear hw.2) rfl dX11_look_108 rfl (by decide) (by decide) (by decide) (by decide) (by decide) (fun x16 h hw => ?_)
      exact (rt_VX C _ _).1 _ _ _ _ _ _ hr dX11_look_111 (by decide) (by decide) ⟨_, rfl, hw⟩
    · refine ⟨_, 112, rfl, by decide, ?_⟩
      have hw := hw.2 (by rw [hx]; decide)
      have hw := hw.2 (by rw [hx]; decide)
      have hw := hw.2 (by rw [hx]; decide)
      have hw := hw.2 (by rw [hx]; decide)
      have hw := hw.2 (by rw [hx]; decide)
      have hw := hw.2 (by rw [hx]; decide)
      have hw := hw.2 (by rw [hx]; decide)
      have hw := hw.1 (by rw [hx]; rfl)
      refine v_aload_n C dX11_look_112 0 rfl rfl ?_
      refine v_iload_n C dX11_look_113 2 rfl rfl ?_
      refine w_callVi (st := []) C cl_X11_158 im_X4_friendsNear se_X4_friendsNear rfl hw.1 (s_X4_friendsNear hw.2) rfl dX11_look_114 rfl (by decide) (by decide) (by decide) (by decide) (by decide) (fun x17 h hw => ?_)
      exact (rt_VX C _ _).1 _ _ _ _ _ _ hr dX11_look_117 (by decide) (by decide) ⟨_, rfl, hw⟩
  · have hw := hw.2 (fun z => c_17 0 (by decide) (z.trans (by decide)))
    have hw := hw.2 (fun z => c_17 1 (by decide) (z.trans (by decide)))
    have hw := hw.2 (fun z => c_17 2 (by decide) (z.trans (by decide)))
    have hw := hw.2 (fun z => c_17 3 (by decide) (z.trans (by decide)))
    have hw := hw.2 (fun z => c_17 4 (by decide) (z.trans (by decide)))
    have hw := hw.2 (fun z => c_17 5 (by decide) (z.trans (by decide)))
    have hw := hw.2 (fun z => c_17 6 (by decide) (z.trans (by decide)))
    have hw := hw.2 (fun z => c_17 7 (by decide) (z.trans (by decide)))
    exact v_throwN false (ti := 5) (text := "nothing else is known of a person") C htb (tb5 (List.mem_of_getElem? (i := 45) rfl)) (tb1 (List.mem_of_getElem? (i := 27) rfl)) (List.mem_of_getElem? (i := 5) rfl) (fun w hw => cx_w C (thn_X11_165.2 w hw).1 (thn_X11_165.2 w hw).2) (List.forall_mem_cons.mpr ⟨rfl, List.forall_mem_cons.mpr ⟨rfl, thn_X11_165.1⟩⟩) dX11_look_118 dX11_look_121 dX11_look_122 dX11_look_124 dX11_look_127 (by decide) (by decide) (by decide) (by decide) hw
-- GrassField.machine(II)V
theorem dX11_machine_0 : decode cX11_machine 0 = .ok (.iload_n 1, 1) := by decide +kernel
theorem dX11_machine_1 : decode cX11_machine 1 = .ok (.iconst 0, 1) := by decide +kernel
theorem dX11_machine_2 : decode cX11_machine 2 = .ok (.bipush 9, 2) := by decide +kernel
theorem dX11_machine_4 : decode cX11_machine 4 = .ok (.invokestatic 54, 3) := by decide +kernel
theorem dX11_machine_7 : decode cX11_machine 7 = .ok (.ifCond .eq 16, 3) := by decide +kernel
theorem dX11_machine_10 : decode cX11_machine 10 = .ok (.iload_n 2, 1) := by decide +kernel
theorem dX11_machine_11 : decode cX11_machine 11 = .ok (.iconst 0, 1) := by decide +kernel
theorem dX11_machine_12 : decode cX11_machine 12 = .ok (.iconst 3, 1) := by decide +kernel
theorem dX11_machine_13 : decode cX11_machine 13 = .ok (.invokestatic 54, 3) := by decide +kernel
theorem dX11_machine_16 : decode cX11_machine 16 = .ok (.ifCond .eq 7, 3) := by decide +kernel
theorem dX11_machine_19 : decode cX11_machine 19 = .ok (.iconst 1, 1) := by decide +kernel
theorem dX11_machine_20 : decode cX11_machine 20 = .ok (.goto 4, 3) := by decide +kernel
theorem dX11_machine_23 : decode cX11_machine 23 = .ok (.iconst 0, 1) := by decide +kernel
theorem dX11_machine_24 : decode cX11_machine 24 = .ok (.invokestatic 58, 3) := by decide +kernel
theorem dX11_machine_27 : decode cX11_machine 27 = .ok (.aload_n 0, 1) := by decide +kernel
theorem dX11_machine_28 : decode cX11_machine 28 = .ok (.getfield 19, 3) := by decide +kernel
theorem dX11_machine_31 : decode cX11_machine 31 = .ok (.getfield 178, 3) := by decide +kernel
theorem dX11_machine_34 : decode cX11_machine 34 = .ok (.iload_n 1, 1) := by decide +kernel
theorem dX11_machine_35 : decode cX11_machine 35 = .ok (.putfield 220, 3) := by decide +kernel
theorem dX11_machine_38 : decode cX11_machine 38 = .ok (.aload_n 0, 1) := by decide +kernel
theorem dX11_machine_39 : decode cX11_machine 39 = .ok (.getfield 19, 3) := by decide +kernel
theorem dX11_machine_42 : decode cX11_machine 42 = .ok (.getfield 178, 3) := by decide +kernel
theorem dX11_machine_45 : decode cX11_machine 45 = .ok (.iload_n 2, 1) := by decide +kernel
theorem dX11_machine_46 : decode cX11_machine 46 = .ok (.putfield 223, 3) := by decide +kernel
theorem dX11_machine_49 : decode cX11_machine 49 = .ok (.return_, 1) := by decide +kernel
def w_X11_machine_24  (v0 : Nat) (v1 : Int32) (v2 : Int32) (t0 : Int32) (h : AH) (Q : AH → Prop) (X : String → AH → Prop) : Prop :=
  w_X11_need t0 h (fun h =>
  fN h v0 11 1 fun a1 =>
  fN h a1 7 3 fun a2 =>
  uI h a2 1 7 v1 fun h =>
  fN h v0 11 1 fun a3 =>
  fN h a3 7 3 fun a4 =>
  uI h a4 1 8 v2 fun h =>
  Q h) X
def w_X11_machine_23  (v0 : Nat) (v1 : Int32) (v2 : Int32) (h : AH) (Q : AH → Prop) (X : String → AH → Prop) : Prop :=
  w_X11_machine_24 v0 v1 v2 (0 : Int32) h Q X
def w_X11_machine  (v0 : Nat) (v1 : Int32) (v2 : Int32) (h : AH) (Q : AH → Prop) (X : String → AH → Prop) : Prop :=
  w_X11_isWithin v1 (0 : Int32) (9 : Int32) h (fun x1 h =>
  br (x1 = 0) (
    w_X11_machine_23 v0 v1 v2 h Q X) (
    w_X11_isWithin v2 (0 : Int32) (3 : Int32) h (fun x2 h =>
    br (x2 = 0) (
      w_X11_machine_23 v0 v1 v2 h Q X) (
      w_X11_machine_24 v0 v1 v2 (1 : Int32) h Q X))))
set_option maxRecDepth 100000 in
set_option maxHeartbeats 4000000 in
theorem s_X11_machine_24 {p : Program} {l : Launch} {e : Env} {s : State} {m : MethodId} {args : Array Value} {below : List Frame} {meth : Method} {c : Code} {g : GG}  {Q : AH → Prop} {X : String → AH → Prop}  (C : CXT p l s m args meth c RX11 cX11_machine 3 g) (hr : meth.sig.returnType = none) (htb : ∀ x ∈ c.exceptionTable.toList, False)  : ∀ (v0 : Nat) (v1 : Int32) (v2 : Int32) (t0 : Int32) (h : AH), w_X11_machine_24  v0 v1 v2 t0 h Q X → V p l e s m args below meth c g 7 1 6 3 0 0 (vx_MQ below (QCx g (QV Q)) (XCx g X) args s 1 6 (gA g)) 24 [(0, .ref v0), (1, .int v1), (2, .int v2)] [.int t0] h := by
  intro v0 v1 v2 t0 h hw
  refine w_callXSv (st := []) C cl_X11_58 lk_X11_58 st_X11_need (s_X11_need hw) rfl dX11_machine_24 rfl (by decide) (by decide) (by decide) (by decide) (by decide) (fun E h hx => tx_out C htb _ _ _ _ _ _ _ _ _ (by decide) (by decide) hx) (fun h hw => ?_)
  refine v_aload_n C dX11_machine_27 0 rfl rfl ?_
  refine w_getN C fl_X11_19 dX11_machine_28 rfl hw (fun a1 hw => ?_)
  refine w_getN C fl_X11_178 dX11_machine_31 rfl hw (fun a2 hw => ?_)
  refine v_iload_n C dX11_machine_34 1 rfl rfl ?_
  refine w_putI C fp_X11_220 (Or.inl rfl) dX11_machine_35 hw (fun h hw => ?_)
  refine v_aload_n C dX11_machine_38 0 rfl rfl ?_
  refine w_getN C fl_X11_19 dX11_machine_39 rfl hw (fun a3 hw => ?_)
  refine w_getN C fl_X11_178 dX11_machine_42 rfl hw (fun a4 hw => ?_)
  refine v_iload_n C dX11_machine_45 2 rfl rfl ?_
  refine w_putI C fp_X11_223 (Or.inl rfl) dX11_machine_46 hw (fun h hw => ?_)
  exact (rt_VX C _ _).2.2.1 _ _ _ _ _ hr dX11_machine_49 (by decide) (by decide) ⟨rfl, hw⟩
set_option maxRecDepth 100000 in
set_option maxHeartbeats 4000000 in
theorem s_X11_machine_23 {p : Program} {l : Launch} {e : Env} {s : State} {m : MethodId} {args : Array Value} {below : List Frame} {meth : Method} {c : Code} {g : GG}  {Q : AH → Prop} {X : String → AH → Prop}  (C : CXT p l s m args meth c RX11 cX11_machine 3 g) (hr : meth.sig.returnType = none) (htb : ∀ x ∈ c.exceptionTable.toList, False)  : ∀ (v0 : Nat) (v1 : Int32) (v2 : Int32) (h : AH), w_X11_machine_23  v0 v1 v2 h Q X → V p l e s m args below meth c g 7 1 6 3 0 0 (vx_MQ below (QCx g (QV Q)) (XCx g X) args s 1 6 (gA g)) 23 [(0, .ref v0), (1, .int v1), (2, .int v2)] [] h := by
  intro v0 v1 v2 h hw
  refine v_iconst (v := 0) C dX11_machine_23 (by decide) ?_
  exact s_X11_machine_24 C hr htb  _ _ _ _ _ hw
set_option maxRecDepth 100000 in
set_option maxHeartbeats 4000000 in
theorem s_X11_machine {l : Launch}  {v0 : Nat} {v1 : Int32} {v2 : Int32} {h : AH} {Q : AH → Prop} {X : String → AH → Prop}  (hw : w_X11_machine  v0 v1 v2 h Q X) : CX l yX11_machine cX11_machine 3 none 7 1 6 [.ref v0, .int v1, .int v2] h (QV Q) X := by
  refine CX.of (by decide) ⟨rfl, ⟨rfl, ⟨rfl, trivial⟩⟩⟩ (Nat.le_of_ble_eq_true rfl) ?_
  intro p e s m args below meth c g C hr htb
  refine v_eq (pc' := 0) (ls' := [(0, .ref v0), (1, .int v1), (2, .int v2)]) rfl rfl rfl rfl ?_
  refine v_iload_n C dX11_machine_0 1 rfl rfl ?_
  refine v_iconst (v := 0) C dX11_machine_1 (by decide) ?_
  refine v_bipush (v := 9) C dX11_machine_2 (by decide) ?_
  refine w_callSi (st := []) C cl_X11_54 st_X11_isWithin (s_X11_isWithin hw) rfl dX11_machine_4 rfl (by decide) (by decide) (by decide) (by decide) (by decide) (fun x1 h hw => ?_)
  refine v_if_eq (tgt := 23) C dX11_machine_7 (by decide) (fun c_7 => ?_) (fun c_7 => ?_)
  · have hw := hw.1 c_7
    exact s_X11_machine_23 C hr htb  _ _ _ _ hw
  · have hw := hw.2 c_7
    refine v_iload_n C dX11_machine_10 2 rfl rfl ?_
    refine v_iconst (v := 0) C dX11_machine_11 (by decide) ?_
    refine v_iconst (v := 3) C dX11_machine_12 (by decide) ?_
    refine w_callSi (st := []) C cl_X11_54 st_X11_isWithin (s_X11_isWithin hw) rfl dX11_machine_13 rfl (by decide) (by decide) (by decide) (by decide) (by decide) (fun x2 h hw => ?_)
    refine v_if_eq (tgt := 23) C dX11_machine_16 (by decide) (fun c_16 => ?_) (fun c_16 => ?_)
    · have hw := hw.1 c_16
      exact s_X11_machine_23 C hr htb  _ _ _ _ hw
    · have hw := hw.2 c_16
      refine v_iconst (v := 1) C dX11_machine_19 (by decide) ?_
      refine v_goto (tgt := 24) C dX11_machine_20 (by decide) ?_
      exact s_X11_machine_24 C hr htb  _ _ _ _ _ hw
-- GrassField.needed(II)I
theorem dX11_needed_0 : decode cX11_needed 0 = .ok (.iload_n 1, 1) := by decide +kernel
theorem dX11_needed_1 : decode cX11_needed 1 = .ok (.invokestatic 51, 3) := by decide +kernel
theorem dX11_needed_4 : decode cX11_needed 4 = .ok (.iload_n 2, 1) := by decide +kernel
theorem dX11_needed_5 : decode cX11_needed 5 = .ok (.invokestatic 51, 3) := by decide +kernel
theorem dX11_needed_8 : decode cX11_needed 8 = .ok (.aload_n 0, 1) := by decide +kernel
theorem dX11_needed_9 : decode cX11_needed 9 = .ok (.getfield 35, 3) := by decide +kernel
theorem dX11_needed_12 : decode cX11_needed 12 = .ok (.invokevirtual 235, 3) := by decide +kernel
theorem dX11_needed_15 : decode cX11_needed 15 = .ok (.aload_n 0, 1) := by decide +kernel
theorem dX11_needed_16 : decode cX11_needed 16 = .ok (.getfield 35, 3) := by decide +kernel
theorem dX11_needed_19 : decode cX11_needed 19 = .ok (.iload_n 1, 1) := by decide +kernel
theorem dX11_needed_20 : decode cX11_needed 20 = .ok (.iload_n 2, 1) := by decide +kernel
theorem dX11_needed_21 : decode cX11_needed 21 = .ok (.invokevirtual 238, 3) := by decide +kernel
theorem dX11_needed_24 : decode cX11_needed 24 = .ok (.ireturn, 1) := by decide +kernel
def w_X11_needed  (v0 : Nat) (v1 : Int32) (v2 : Int32) (h : AH) (Q : Int32 → AH → Prop) (X : String → AH → Prop) : Prop :=
  w_X11_needCell v1 h (fun h =>
  w_X11_needCell v2 h (fun h =>
  fN h v0 11 3 fun a1 =>
  vr h a1 8 (
  w_X8_refresh a1 h (fun h =>
  fN h v0 11 3 fun a2 =>
  vr h a2 8 (
  w_X8_fewestGuns a2 v1 v2 h (fun x3 h =>
  Q x3 h))))) X) X
set_option maxRecDepth 100000 in
set_option maxHeartbeats 4000000 in
theorem s_X11_needed {l : Launch}  {v0 : Nat} {v1 : Int32} {v2 : Int32} {h : AH} {Q : Int32 → AH → Prop} {X : String → AH → Prop}  (hw : w_X11_needed  v0 v1 v2 h Q X) : CX l yX11_needed cX11_needed 3 (some .int) 8 2 12 [.ref v0, .int v1, .int v2] h (QI Q) X := by
  refine CX.of (by decide) ⟨rfl, ⟨rfl, ⟨rfl, trivial⟩⟩⟩ (Nat.le_of_ble_eq_true rfl) ?_
  intro p e s m args below meth c g C hr htb
  refine v_eq (pc' := 0) (ls' := [(0, .ref v0), (1, .int v1), (2, .int v2)]) rfl rfl rfl rfl ?_
  refine v_iload_n C dX11_needed_0 1 rfl rfl ?_
  refine w_callXSv (st := []) C cl_X11_51 lk_X11_51 st_X11_needCell (s_X11_needCell hw) rfl dX11_needed_1 rfl (by decide) (by decide) (by decide) (by decide) (by decide) (fun E h hx => tx_out C htb _ _ _ _ _ _ _ _ _ (by decide) (by decide) hx) (fun h hw => ?_)
  refine v_iload_n C dX11_needed_4 2 rfl rfl ?_
  refine w_callXSv (st := []) C cl_X11_51 lk_X11_51 st_X11_needCell (s_X11_needCell hw) rfl dX11_needed_5 rfl (by decide) (by decide) (by decide) (by decide) (by decide) (fun E h hx => tx_out C htb _ _ _ _ _ _ _ _ _ (by decide) (by decide) hx) (fun h hw => ?_)
  refine v_aload_n C dX11_needed_8 0 rfl rfl ?_
  refine w_getN C fl_X11_35 dX11_needed_9 rfl hw (fun a1 hw => ?_)
  refine w_callVv (st := []) C cl_X11_235 im_X8_refresh se_X8_refresh rfl hw.1 (s_X8_refresh hw.2) rfl dX11_needed_12 rfl (by decide) (by decide) (by decide) (by decide) (by decide) (fun h hw => ?_)
  refine v_aload_n C dX11_needed_15 0 rfl rfl ?_
  refine w_getN C fl_X11_35 dX11_needed_16 rfl hw (fun a2 hw => ?_)
  refine v_iload_n C dX11_needed_19 1 rfl rfl ?_
  refine v_iload_n C dX11_needed_20 2 rfl rfl ?_
  refine w_callVi (st := []) C cl_X11_238 im_X8_fewestGuns se_X8_fewestGuns rfl hw.1 (s_X8_fewestGuns hw.2) rfl dX11_needed_21 rfl (by decide) (by decide) (by decide) (by decide) (by decide) (fun x3 h hw => ?_)
  exact (rt_VX C _ _).1 _ _ _ _ _ _ hr dX11_needed_24 (by decide) (by decide) ⟨_, rfl, hw⟩
-- GrassField.next()I
theorem dX11_next_0 : decode cX11_next 0 = .ok (.aload_n 0, 1) := by decide +kernel
theorem dX11_next_1 : decode cX11_next 1 = .ok (.getfield 19, 3) := by decide +kernel
theorem dX11_next_4 : decode cX11_next 4 = .ok (.getfield 178, 3) := by decide +kernel
theorem dX11_next_7 : decode cX11_next 7 = .ok (.invokevirtual 232, 3) := by decide +kernel
theorem dX11_next_10 : decode cX11_next 10 = .ok (.ireturn, 1) := by decide +kernel
def w_X11_next  (v0 : Nat) (h : AH) (Q : Int32 → AH → Prop) : Prop :=
  fN h v0 11 1 fun a1 =>
  fN h a1 7 3 fun a2 =>
  vr h a2 1 (
  w_X1_bestRow a2 h (fun x3 h =>
  Q x3 h))
set_option maxRecDepth 100000 in
set_option maxHeartbeats 4000000 in
theorem s_X11_next {l : Launch}  {v0 : Nat} {h : AH} {Q : Int32 → AH → Prop}  (hw : w_X11_next  v0 h Q) : CT l yX11_next cX11_next 1 (some .int) 4 0 0 [.ref v0] h (QI Q) := by
  refine CT.of (by decide) ⟨rfl, trivial⟩ (Nat.le_of_ble_eq_true rfl) ?_
  intro p e s m args below meth c g C hr hin
  refine v_eq (pc' := 0) (ls' := [(0, .ref v0)]) rfl rfl rfl rfl ?_
  refine v_aload_n C dX11_next_0 0 rfl rfl ?_
  refine w_getN C fl_X11_19 dX11_next_1 rfl hw (fun a1 hw => ?_)
  refine w_getN C fl_X11_178 dX11_next_4 rfl hw (fun a2 hw => ?_)
  refine w_callVi (st := []) C cl_X11_232 im_X1_bestRow se_X1_bestRow rfl hw.1 (s_X1_bestRow hw.2) rfl dX11_next_7 rfl (by decide) (by decide) (by decide) (by decide) (by decide) (fun x3 h hw => ?_)
  exact (rt_MQ C _).1 _ _ _ _ _ _ hr dX11_next_10 (by decide) (by decide) ⟨_, rfl, hw⟩
-- GrassField.odds(I)I
theorem dX11_odds_0 : decode cX11_odds 0 = .ok (.iload_n 1, 1) := by decide +kernel
theorem dX11_odds_1 : decode cX11_odds 1 = .ok (.aload_n 0, 1) := by decide +kernel
theorem dX11_odds_2 : decode cX11_odds 2 = .ok (.getfield 19, 3) := by decide +kernel
theorem dX11_odds_5 : decode cX11_odds 5 = .ok (.getfield 347, 3) := by decide +kernel
theorem dX11_odds_8 : decode cX11_odds 8 = .ok (.invokestatic 119, 3) := by decide +kernel
theorem dX11_odds_11 : decode cX11_odds 11 = .ok (.aload_n 0, 1) := by decide +kernel
theorem dX11_odds_12 : decode cX11_odds 12 = .ok (.getfield 35, 3) := by decide +kernel
theorem dX11_odds_15 : decode cX11_odds 15 = .ok (.invokevirtual 354, 3) := by decide +kernel
theorem dX11_odds_18 : decode cX11_odds 18 = .ok (.aload_n 0, 1) := by decide +kernel
theorem dX11_odds_19 : decode cX11_odds 19 = .ok (.getfield 35, 3) := by decide +kernel
theorem dX11_odds_22 : decode cX11_odds 22 = .ok (.iload_n 1, 1) := by decide +kernel
theorem dX11_odds_23 : decode cX11_odds 23 = .ok (.invokevirtual 360, 3) := by decide +kernel
theorem dX11_odds_26 : decode cX11_odds 26 = .ok (.ireturn, 1) := by decide +kernel
def w_X11_odds  (v0 : Nat) (v1 : Int32) (h : AH) (Q : Int32 → AH → Prop) (X : String → AH → Prop) : Prop :=
  fN h v0 11 1 fun a1 =>
  fI h a1 7 9 fun x2 =>
  w_X11_needNumber v1 x2 h (fun h =>
  fN h v0 11 3 fun a3 =>
  vr h a3 8 (
  w_X8_gatherFacts a3 h (fun h =>
  fN h v0 11 3 fun a4 =>
  vr h a4 8 (
  w_X8_tenThousandths a4 v1 h (fun x5 h =>
  Q x5 h))))) X
set_option maxRecDepth 100000 in
set_option maxHeartbeats 4000000 in
theorem s_X11_odds {l : Launch}  {v0 : Nat} {v1 : Int32} {h : AH} {Q : Int32 → AH → Prop} {X : String → AH → Prop}  (hw : w_X11_odds  v0 v1 h Q X) : CX l yX11_odds cX11_odds 2 (some .int) 7 1 6 [.ref v0, .int v1] h (QI Q) X := by
  refine CX.of (by decide) ⟨rfl, ⟨rfl, trivial⟩⟩ (Nat.le_of_ble_eq_true rfl) ?_
  intro p e s m args below meth c g C hr htb
  refine v_eq (pc' := 0) (ls' := [(0, .ref v0), (1, .int v1)]) rfl rfl rfl rfl ?_
  refine v_iload_n C dX11_odds_0 1 rfl rfl ?_
  refine v_aload_n C dX11_odds_1 0 rfl rfl ?_
  refine w_getN C fl_X11_19 dX11_odds_2 rfl hw (fun a1 hw => ?_)
  refine w_getI C fl_X11_347 dX11_odds_5 rfl hw (fun x2 hw => ?_)
  refine w_callXSv (st := []) C cl_X11_119 lk_X11_119 st_X11_needNumber (s_X11_needNumber hw) rfl dX11_odds_8 rfl (by decide) (by decide) (by decide) (by decide) (by decide) (fun E h hx => tx_out C htb _ _ _ _ _ _ _ _ _ (by decide) (by decide) hx) (fun h hw => ?_)
  refine v_aload_n C dX11_odds_11 0 rfl rfl ?_
  refine w_getN C fl_X11_35 dX11_odds_12 rfl hw (fun a3 hw => ?_)
  refine w_callVv (st := []) C cl_X11_354 im_X8_gatherFacts se_X8_gatherFacts rfl hw.1 (s_X8_gatherFacts hw.2) rfl dX11_odds_15 rfl (by decide) (by decide) (by decide) (by decide) (by decide) (fun h hw => ?_)
  refine v_aload_n C dX11_odds_18 0 rfl rfl ?_
  refine w_getN C fl_X11_35 dX11_odds_19 rfl hw (fun a4 hw => ?_)
  refine v_iload_n C dX11_odds_22 1 rfl rfl ?_
  refine w_callVi (st := []) C cl_X11_360 im_X8_tenThousandths se_X8_tenThousandths rfl hw.1 (s_X8_tenThousandths hw.2) rfl dX11_odds_23 rfl (by decide) (by decide) (by decide) (by decide) (by decide) (fun x5 h hw => ?_)
  exact (rt_VX C _ _).1 _ _ _ _ _ _ hr dX11_odds_26 (by decide) (by decide) ⟨_, rfl, hw⟩
-- GrassField.other(IIII)I
theorem dX11_other_0 : decode cX11_other 0 = .ok (.iload_n 2, 1) := by decide +kernel
theorem dX11_other_1 : decode cX11_other 1 = .ok (.invokestatic 51, 3) := by decide +kernel
theorem dX11_other_4 : decode cX11_other 4 = .ok (.iload_n 3, 1) := by decide +kernel
theorem dX11_other_5 : decode cX11_other 5 = .ok (.iconst 0, 1) := by decide +kernel
theorem dX11_other_6 : decode cX11_other 6 = .ok (.bipush 9, 2) := by decide +kernel
theorem dX11_other_8 : decode cX11_other 8 = .ok (.invokestatic 54, 3) := by decide +kernel
theorem dX11_other_11 : decode cX11_other 11 = .ok (.ifCond .eq 16, 3) := by decide +kernel
theorem dX11_other_14 : decode cX11_other 14 = .ok (.iload_n 1, 1) := by decide +kernel
theorem dX11_other_15 : decode cX11_other 15 = .ok (.iload 4, 2) := by decide +kernel
theorem dX11_other_17 : decode cX11_other 17 = .ok (.invokestatic 186, 3) := by decide +kernel
theorem dX11_other_20 : decode cX11_other 20 = .ok (.ifCond .eq 7, 3) := by decide +kernel
theorem dX11_other_23 : decode cX11_other 23 = .ok (.iconst 1, 1) := by decide +kernel
theorem dX11_other_24 : decode cX11_other 24 = .ok (.goto 4, 3) := by decide +kernel
theorem dX11_other_27 : decode cX11_other 27 = .ok (.iconst 0, 1) := by decide +kernel
theorem dX11_other_28 : decode cX11_other 28 = .ok (.invokestatic 58, 3) := by decide +kernel
theorem dX11_other_31 : decode cX11_other 31 = .ok (.aload_n 0, 1) := by decide +kernel
theorem dX11_other_32 : decode cX11_other 32 = .ok (.getfield 19, 3) := by decide +kernel
theorem dX11_other_35 : decode cX11_other 35 = .ok (.getfield 178, 3) := by decide +kernel
theorem dX11_other_38 : decode cX11_other 38 = .ok (.getfield 182, 3) := by decide +kernel
theorem dX11_other_41 : decode cX11_other 41 = .ok (.bipush 120, 2) := by decide +kernel
theorem dX11_other_43 : decode cX11_other 43 = .ok (.invokestatic 91, 3) := by decide +kernel
theorem dX11_other_46 : decode cX11_other 46 = .ok (.aload_n 0, 1) := by decide +kernel
theorem dX11_other_47 : decode cX11_other 47 = .ok (.getfield 19, 3) := by decide +kernel
theorem dX11_other_50 : decode cX11_other 50 = .ok (.getfield 178, 3) := by decide +kernel
theorem dX11_other_53 : decode cX11_other 53 = .ok (.iload_n 1, 1) := by decide +kernel
theorem dX11_other_54 : decode cX11_other 54 = .ok (.iload_n 2, 1) := by decide +kernel
theorem dX11_other_55 : decode cX11_other 55 = .ok (.iload_n 3, 1) := by decide +kernel
theorem dX11_other_56 : decode cX11_other 56 = .ok (.iload 4, 2) := by decide +kernel
theorem dX11_other_58 : decode cX11_other 58 = .ok (.invokevirtual 185, 3) := by decide +kernel
theorem dX11_other_61 : decode cX11_other 61 = .ok (.ireturn, 1) := by decide +kernel
def w_X11_other_28  (v0 : Nat) (v1 : Int32) (v2 : Int32) (v3 : Int32) (v4 : Int32) (t0 : Int32) (h : AH) (Q : Int32 → AH → Prop) (X : String → AH → Prop) : Prop :=
  w_X11_need t0 h (fun h =>
  fN h v0 11 1 fun a1 =>
  fN h a1 7 3 fun a2 =>
  fI h a2 1 0 fun x3 =>
  w_X11_needRoom x3 (120 : Int32) h (fun h =>
  fN h v0 11 1 fun a4 =>
  fN h a4 7 3 fun a5 =>
  vr h a5 1 (
  w_X1_add a5 v1 v2 v3 v4 h (fun x6 h =>
  Q x6 h))) X) X
def w_X11_other_27  (v0 : Nat) (v1 : Int32) (v2 : Int32) (v3 : Int32) (v4 : Int32) (h : AH) (Q : Int32 → AH → Prop) (X : String → AH → Prop) : Prop :=
  w_X11_other_28 v0 v1 v2 v3 v4 (0 : Int32) h Q X
def w_X11_other  (v0 : Nat) (v1 : Int32) (v2 : Int32) (v3 : Int32) (v4 : Int32) (h : AH) (Q : Int32 → AH → Prop) (X : String → AH → Prop) : Prop :=
  w_X11_needCell v2 h (fun h =>
  w_X11_isWithin v3 (0 : Int32) (9 : Int32) h (fun x1 h =>
  br (x1 = 0) (
    w_X11_other_27 v0 v1 v2 v3 v4 h Q X) (
    w_X11_canBeOfKind v1 v4 h (fun x2 h =>
    br (x2 = 0) (
      w_X11_other_27 v0 v1 v2 v3 v4 h Q X) (
      w_X11_other_28 v0 v1 v2 v3 v4 (1 : Int32) h Q X))))) X
set_option maxRecDepth 100000 in
set_option maxHeartbeats 4000000 in
theorem s_X11_other_28 {p : Program} {l : Launch} {e : Env} {s : State} {m : MethodId} {args : Array Value} {below : List Frame} {meth : Method} {c : Code} {g : GG}  {Q : Int32 → AH → Prop} {X : String → AH → Prop}  (C : CXT p l s m args meth c RX11 cX11_other 5 g) (hr : meth.sig.returnType = (some .int)) (htb : ∀ x ∈ c.exceptionTable.toList, False)  : ∀ (v0 : Nat) (v1 : Int32) (v2 : Int32) (v3 : Int32) (v4 : Int32) (t0 : Int32) (h : AH), w_X11_other_28  v0 v1 v2 v3 v4 t0 h Q X → V p l e s m args below meth c g 8 3 18 5 1 6 (vx_MQ below (QCx g (QI Q)) (XCx g X) args s 3 18 (gA g)) 28 [(0, .ref v0), (1, .int v1), (2, .int v2), (3, .int v3), (4, .int v4)] [.int t0] h := by
  intro v0 v1 v2 v3 v4 t0 h hw
  refine w_callXSv (st := []) C cl_X11_58 lk_X11_58 st_X11_need (s_X11_need hw) rfl dX11_other_28 rfl (by decide) (by decide) (by decide) (by decide) (by decide) (fun E h hx => tx_out C htb _ _ _ _ _ _ _ _ _ (by decide) (by decide) hx) (fun h hw => ?_)
  refine v_aload_n C dX11_other_31 0 rfl rfl ?_
  refine w_getN C fl_X11_19 dX11_other_32 rfl hw (fun a1 hw => ?_)
  refine w_getN C fl_X11_178 dX11_other_35 rfl hw (fun a2 hw => ?_)
  refine w_getI C fl_X11_182 dX11_other_38 rfl hw (fun x3 hw => ?_)
  refine v_bipush (v := 120) C dX11_other_41 (by decide) ?_
  refine w_callXSv (st := []) C cl_X11_91 lk_X11_91 st_X11_needRoom (s_X11_needRoom hw) rfl dX11_other_43 rfl (by decide) (by decide) (by decide) (by decide) (by decide) (fun E h hx => tx_out C htb _ _ _ _ _ _ _ _ _ (by decide) (by decide) hx) (fun h hw => ?_)
  refine v_aload_n C dX11_other_46 0 rfl rfl ?_
  refine w_getN C fl_X11_19 dX11_other_47 rfl hw (fun a4 hw => ?_)
  refine w_getN C fl_X11_178 dX11_other_50 rfl hw (fun a5 hw => ?_)
  refine v_iload_n C dX11_other_53 1 rfl rfl ?_
  refine v_iload_n C dX11_other_54 2 rfl rfl ?_
  refine v_iload_n C dX11_other_55 3 rfl rfl ?_
  refine v_iload C dX11_other_56 4 rfl ?_
  refine w_callVi (st := []) C cl_X11_185 im_X1_add se_X1_add rfl hw.1 (s_X1_add hw.2) rfl dX11_other_58 rfl (by decide) (by decide) (by decide) (by decide) (by decide) (fun x6 h hw => ?_)
  exact (rt_VX C _ _).1 _ _ _ _ _ _ hr dX11_other_61 (by decide) (by decide) ⟨_, rfl, hw⟩
set_option maxRecDepth 100000 in
set_option maxHeartbeats 4000000 in
theorem s_X11_other_27 {p : Program} {l : Launch} {e : Env} {s : State} {m : MethodId} {args : Array Value} {below : List Frame} {meth : Method} {c : Code} {g : GG}  {Q : Int32 → AH → Prop} {X : String → AH → Prop}  (C : CXT p l s m args meth c RX11 cX11_other 5 g) (hr : meth.sig.returnType = (some .int)) (htb : ∀ x ∈ c.exceptionTable.toList, False)  : ∀ (v0 : Nat) (v1 : Int32) (v2 : Int32) (v3 : Int32) (v4 : Int32) (h : AH), w_X11_other_27  v0 v1 v2 v3 v4 h Q X → V p l e s m args below meth c g 8 3 18 5 1 6 (vx_MQ below (QCx g (QI Q)) (XCx g X) args s 3 18 (gA g)) 27 [(0, .ref v0), (1, .int v1), (2, .int v2), (3, .int v3), (4, .int v4)] [] h := by
  intro v0 v1 v2 v3 v4 h hw
  refine v_iconst (v := 0) C dX11_other_27 (by decide) ?_
  exact s_X11_other_28 C hr htb  _ _ _ _ _ _ _ hw
set_option maxRecDepth 100000 in
set_option maxHeartbeats 4000000 in
theorem s_X11_other {l : Launch}  {v0 : Nat} {v1 : Int32} {v2 : Int32} {v3 : Int32} {v4 : Int32} {h : AH} {Q : Int32 → AH → Prop} {X : String → AH → Prop}  (hw : w_X11_other  v0 v1 v2 v3 v4 h Q X) : CX l yX11_other cX11_other 5 (some .int) 8 3 18 [.ref v0, .int v1, .int v2, .int v3, .int v4] h (QI Q) X := by
  refine CX.of (by decide) ⟨rfl, ⟨rfl, ⟨rfl, ⟨rfl, ⟨rfl, trivial⟩⟩⟩⟩⟩ (Nat.le_of_ble_eq_true rfl) ?_
  intro p e s m args below meth c g C hr htb
  refine v_eq (pc' := 0) (ls' := [(0, .ref v0), (1, .int v1), (2, .int v2), (3, .int v3), (4, .int v4)]) rfl rfl rfl rfl ?_
  refine v_iload_n C dX11_other_0 2 rfl rfl ?_
  refine w_callXSv (st := []) C cl_X11_51 lk_X11_51 st_X11_needCell (s_X11_needCell hw) rfl dX11_other_1 rfl (by decide) (by decide) (by decide) (by decide) (by decide) (fun E h hx => tx_out C htb _ _ _ _ _ _ _ _ _ (by decide) (by decide) hx) (fun h hw => ?_)
  refine v_iload_n C dX11_other_4 3 rfl rfl ?_
  refine v_iconst (v := 0) C dX11_other_5 (by decide) ?_
  refine v_bipush (v := 9) C dX11_other_6 (by decide) ?_
  refine w_callSi (st := []) C cl_X11_54 st_X11_isWithin (s_X11_isWithin hw) rfl dX11_other_8 rfl (by decide) (by decide) (by decide) (by decide) (by decide) (fun x1 h hw => ?_)
  refine v_if_eq (tgt := 27) C dX11_other_11 (by decide) (fun c_11 => ?_) (fun c_11 => ?_)
  · have hw := hw.1 c_11
    exact s_X11_other_27 C hr htb  _ _ _ _ _ _ hw
  · have hw := hw.2 c_11
    refine v_iload_n C dX11_other_14 1 rfl rfl ?_
    refine v_iload C dX11_other_15 4 rfl ?_
    refine w_callSi (st := []) C cl_X11_186 st_X11_canBeOfKind (s_X11_canBeOfKind hw) rfl dX11_other_17 rfl (by decide) (by decide) (by decide) (by decide) (by decide) (fun x2 h hw => ?_)
    refine v_if_eq (tgt := 27) C dX11_other_20 (by decide) (fun c_20 => ?_) (fun c_20 => ?_)
    · have hw := hw.1 c_20
      exact s_X11_other_27 C hr htb  _ _ _ _ _ _ hw
    · have hw := hw.2 c_20
      refine v_iconst (v := 1) C dX11_other_23 (by decide) ?_
      refine v_goto (tgt := 28) C dX11_other_24 (by decide) ?_
      exact s_X11_other_28 C hr htb  _ _ _ _ _ _ _ hw
-- GrassField.person(IIII)I
theorem dX11_person_0 : decode cX11_person 0 = .ok (.iload_n 1, 1) := by decide +kernel
theorem dX11_person_1 : decode cX11_person 1 = .ok (.aload_n 0, 1) := by decide +kernel
theorem dX11_person_2 : decode cX11_person 2 = .ok (.getfield 19, 3) := by decide +kernel
theorem dX11_person_5 : decode cX11_person 5 = .ok (.getfield 84, 3) := by decide +kernel
theorem dX11_person_8 : decode cX11_person 8 = .ok (.getfield 88, 3) := by decide +kernel
theorem dX11_person_11 : decode cX11_person 11 = .ok (.invokestatic 119, 3) := by decide +kernel
theorem dX11_person_14 : decode cX11_person 14 = .ok (.iload_n 2, 1) := by decide +kernel
theorem dX11_person_15 : decode cX11_person 15 = .ok (.invokestatic 51, 3) := by decide +kernel
theorem dX11_person_18 : decode cX11_person 18 = .ok (.iload 4, 2) := by decide +kernel
theorem dX11_person_20 : decode cX11_person 20 = .ok (.iconst (-1), 1) := by decide +kernel
theorem dX11_person_21 : decode cX11_person 21 = .ok (.if_icmp .eq 15, 3) := by decide +kernel
theorem dX11_person_24 : decode cX11_person 24 = .ok (.iload 4, 2) := by decide +kernel
theorem dX11_person_26 : decode cX11_person 26 = .ok (.aload_n 0, 1) := by decide +kernel
theorem dX11_person_27 : decode cX11_person 27 = .ok (.getfield 19, 3) := by decide +kernel
theorem dX11_person_30 : decode cX11_person 30 = .ok (.getfield 105, 3) := by decide +kernel
theorem dX11_person_33 : decode cX11_person 33 = .ok (.invokestatic 119, 3) := by decide +kernel
theorem dX11_person_36 : decode cX11_person 36 = .ok (.iload_n 3, 1) := by decide +kernel
theorem dX11_person_37 : decode cX11_person 37 = .ok (.iconst 0, 1) := by decide +kernel
theorem dX11_person_38 : decode cX11_person 38 = .ok (.bipush 9, 2) := by decide +kernel
theorem dX11_person_40 : decode cX11_person 40 = .ok (.invokestatic 54, 3) := by decide +kernel
theorem dX11_person_43 : decode cX11_person 43 = .ok (.ifCond .eq 21, 3) := by decide +kernel
theorem dX11_person_46 : decode cX11_person 46 = .ok (.aload_n 0, 1) := by decide +kernel
theorem dX11_person_47 : decode cX11_person 47 = .ok (.getfield 19, 3) := by decide +kernel
theorem dX11_person_50 : decode cX11_person 50 = .ok (.getfield 122, 3) := by decide +kernel
theorem dX11_person_53 : decode cX11_person 53 = .ok (.iload_n 1, 1) := by decide +kernel
theorem dX11_person_54 : decode cX11_person 54 = .ok (.invokevirtual 126, 3) := by decide +kernel
theorem dX11_person_57 : decode cX11_person 57 = .ok (.ifCond .ne 7, 3) := by decide +kernel
theorem dX11_person_60 : decode cX11_person 60 = .ok (.iconst 1, 1) := by decide +kernel
theorem dX11_person_61 : decode cX11_person 61 = .ok (.goto 4, 3) := by decide +kernel
theorem dX11_person_64 : decode cX11_person 64 = .ok (.iconst 0, 1) := by decide +kernel
theorem dX11_person_65 : decode cX11_person 65 = .ok (.invokestatic 58, 3) := by decide +kernel
theorem dX11_person_68 : decode cX11_person 68 = .ok (.aload_n 0, 1) := by decide +kernel
theorem dX11_person_69 : decode cX11_person 69 = .ok (.getfield 19, 3) := by decide +kernel
theorem dX11_person_72 : decode cX11_person 72 = .ok (.getfield 122, 3) := by decide +kernel
theorem dX11_person_75 : decode cX11_person 75 = .ok (.getfield 131, 3) := by decide +kernel
theorem dX11_person_78 : decode cX11_person 78 = .ok (.bipush 8, 2) := by decide +kernel
theorem dX11_person_80 : decode cX11_person 80 = .ok (.invokestatic 91, 3) := by decide +kernel
theorem dX11_person_83 : decode cX11_person 83 = .ok (.aload_n 0, 1) := by decide +kernel
theorem dX11_person_84 : decode cX11_person 84 = .ok (.getfield 19, 3) := by decide +kernel
theorem dX11_person_87 : decode cX11_person 87 = .ok (.getfield 122, 3) := by decide +kernel
theorem dX11_person_90 : decode cX11_person 90 = .ok (.iload_n 1, 1) := by decide +kernel
theorem dX11_person_91 : decode cX11_person 91 = .ok (.aload_n 0, 1) := by decide +kernel
theorem dX11_person_92 : decode cX11_person 92 = .ok (.getfield 19, 3) := by decide +kernel
theorem dX11_person_95 : decode cX11_person 95 = .ok (.getfield 84, 3) := by decide +kernel
theorem dX11_person_98 : decode cX11_person 98 = .ok (.getfield 132, 3) := by decide +kernel
theorem dX11_person_101 : decode cX11_person 101 = .ok (.iload_n 1, 1) := by decide +kernel
theorem dX11_person_102 : decode cX11_person 102 = .ok (.iaload, 1) := by decide +kernel
theorem dX11_person_103 : decode cX11_person 103 = .ok (.iload_n 2, 1) := by decide +kernel
theorem dX11_person_104 : decode cX11_person 104 = .ok (.iload_n 3, 1) := by decide +kernel
theorem dX11_person_105 : decode cX11_person 105 = .ok (.iload 4, 2) := by decide +kernel
theorem dX11_person_107 : decode cX11_person 107 = .ok (.invokevirtual 135, 3) := by decide +kernel
theorem dX11_person_110 : decode cX11_person 110 = .ok (.ireturn, 1) := by decide +kernel
def w_X11_person_65  (v0 : Nat) (v1 : Int32) (v2 : Int32) (v3 : Int32) (v4 : Int32) (t0 : Int32) (h : AH) (Q : Int32 → AH → Prop) (X : String → AH → Prop) : Prop :=
  w_X11_need t0 h (fun h =>
  fN h v0 11 1 fun a1 =>
  fN h a1 7 2 fun a2 =>
  fI h a2 4 0 fun x3 =>
  w_X11_needRoom x3 (8 : Int32) h (fun h =>
  fN h v0 11 1 fun a4 =>
  fN h a4 7 2 fun a5 =>
  fN h v0 11 1 fun a6 =>
  fN h a6 7 1 fun a7 =>
  fN h a7 2 1 fun a8 =>
  aI h a8 v1 fun x9 =>
  vr h a5 4 (
  w_X4_add a5 v1 x9 v2 v3 v4 h (fun x10 h =>
  Q x10 h))) X) X
def w_X11_person_64  (v0 : Nat) (v1 : Int32) (v2 : Int32) (v3 : Int32) (v4 : Int32) (h : AH) (Q : Int32 → AH → Prop) (X : String → AH → Prop) : Prop :=
  w_X11_person_65 v0 v1 v2 v3 v4 (0 : Int32) h Q X
def w_X11_person_36  (v0 : Nat) (v1 : Int32) (v2 : Int32) (v3 : Int32) (v4 : Int32) (h : AH) (Q : Int32 → AH → Prop) (X : String → AH → Prop) : Prop :=
  w_X11_isWithin v3 (0 : Int32) (9 : Int32) h (fun x1 h =>
  br (x1 = 0) (
    w_X11_person_64 v0 v1 v2 v3 v4 h Q X) (
    fN h v0 11 1 fun a2 =>
    fN h a2 7 2 fun a3 =>
    vr h a3 4 (
    w_X4_someoneHas a3 v1 h (fun x4 h =>
    br (x4 = 0) (
      w_X11_person_65 v0 v1 v2 v3 v4 (1 : Int32) h Q X) (
      w_X11_person_64 v0 v1 v2 v3 v4 h Q X)))))
def w_X11_person  (v0 : Nat) (v1 : Int32) (v2 : Int32) (v3 : Int32) (v4 : Int32) (h : AH) (Q : Int32 → AH → Prop) (X : String → AH → Prop) : Prop :=
  fN h v0 11 1 fun a1 =>
  fN h a1 7 1 fun a2 =>
  fI h a2 2 0 fun x3 =>
  w_X11_needNumber v1 x3 h (fun h =>
  w_X11_needCell v2 h (fun h =>
  br (v4 = (-1 : Int32)) (
    w_X11_person_36 v0 v1 v2 v3 v4 h Q X) (
    fN h v0 11 1 fun a4 =>
    fI h a4 7 6 fun x5 =>
    w_X11_needNumber v4 x5 h (fun h =>
    w_X11_person_36 v0 v1 v2 v3 v4 h Q X) X)) X) X
set_option maxRecDepth 100000 in
set_option maxHeartbeats 4000000 in
theorem s_X11_person_65 {p : Program} {l : Launch} {e : Env} {s : State} {m : MethodId} {args : Array Value} {below : List Frame} {meth : Method} {c : Code} {g : GG}  {Q : Int32 → AH → Prop} {X : String → AH → Prop}  (C : CXT p l s m args meth c RX11 cX11_person 5 g) (hr : meth.sig.returnType = (some .int)) (htb : ∀ x ∈ c.exceptionTable.toList, False)  : ∀ (v0 : Nat) (v1 : Int32) (v2 : Int32) (v3 : Int32) (v4 : Int32) (t0 : Int32) (h : AH), w_X11_person_65  v0 v1 v2 v3 v4 t0 h Q X → V p l e s m args below meth c g 8 5 30 5 3 18 (vx_MQ below (QCx g (QI Q)) (XCx g X) args s 5 30 (gA g)) 65 [(0, .ref v0), (1, .int v1), (2, .int v2), (3, .int v3), (4, .int v4)] [.int t0] h := by
  intro v0 v1 v2 v3 v4 t0 h hw
  refine w_callXSv (st := []) C cl_X11_58 lk_X11_58 st_X11_need (s_X11_need hw) rfl dX11_person_65 rfl (by decide) (by decide) (by decide) (by decide) (by decide) (fun E h hx => tx_out C htb _ _ _ _ _ _ _ _ _ (by decide) (by decide) hx) (fun h hw => ?_)
  refine v_aload_n C dX11_person_68 0 rfl rfl ?_
  refine w_getN C fl_X11_19 dX11_person_69 rfl hw (fun a1 hw => ?_)
  refine w_getN C fl_X11_122 dX11_person_72 rfl hw (fun a2 hw => ?_)
  refine w_getI C fl_X11_131 dX11_person_75 rfl hw (fun x3 hw => ?_)
  refine v_bipush (v := 8) C dX11_person_78 (by decide) ?_
  refine w_callXSv (st := []) C cl_X11_91 lk_X11_91 st_X11_needRoom (s_X11_needRoom hw) rfl dX11_person_80 rfl (by decide) (by decide) (by decide) (by decide) (by decide) (fun E h hx => tx_out C htb _ _ _ _ _ _ _ _ _ (by decide) (by decide) hx) (fun h hw => ?_)
  refine v_aload_n C dX11_person_83 0 rfl rfl ?_
  refine w_getN C fl_X11_19 dX11_person_84 rfl hw (fun a4 hw => ?_)
  refine w_getN C fl_X11_122 dX11_person_87 rfl hw (fun a5 hw => ?_)
  refine v_iload_n C dX11_person_90 1 rfl rfl ?_
  refine v_aload_n C dX11_person_91 0 rfl rfl ?_
  refine w_getN C fl_X11_19 dX11_person_92 rfl hw (fun a6 hw => ?_)
  refine w_getN C fl_X11_84 dX11_person_95 rfl hw (fun a7 hw => ?_)
  refine w_getN C fl_X11_132 dX11_person_98 rfl hw (fun a8 hw => ?_)
  refine v_iload_n C dX11_person_101 1 rfl rfl ?_
  refine w_iaload C dX11_person_102 hw (fun x9 hw => ?_)
  refine v_iload_n C dX11_person_103 2 rfl rfl ?_
  refine v_iload_n C dX11_person_104 3 rfl rfl ?_
  refine v_iload C dX11_person_105 4 rfl ?_
  refine w_callVi (st := []) C cl_X11_135 im_X4_add se_X4_add rfl hw.1 (s_X4_add hw.2) rfl dX11_person_107 rfl (by decide) (by decide) (by decide) (by decide) (by decide) (fun x10 h hw => ?_)
  exact (rt_VX C _ _).1 _ _ _ _ _ _ hr dX11_person_110 (by decide) (by decide) ⟨_, rfl, hw⟩
set_option maxRecDepth 100000 in
set_option maxHeartbeats 4000000 in
theorem s_X11_person_64 {p : Program} {l : Launch} {e : Env} {s : State} {m : MethodId} {args : Array Value} {below : List Frame} {meth : Method} {c : Code} {g : GG}  {Q : Int32 → AH → Prop} {X : String → AH → Prop}  (C : CXT p l s m args meth c RX11 cX11_person 5 g) (hr : meth.sig.returnType = (some .int)) (htb : ∀ x ∈ c.exceptionTable.toList, False)  : ∀ (v0 : Nat) (v1 : Int32) (v2 : Int32) (v3 : Int32) (v4 : Int32) (h : AH), w_X11_person_64  v0 v1 v2 v3 v4 h Q X → V p l e s m args below meth c g 8 5 30 5 3 18 (vx_MQ below (QCx g (QI Q)) (XCx g X) args s 5 30 (gA g)) 64 [(0, .ref v0), (1, .int v1), (2, .int v2), (3, .int v3), (4, .int v4)] [] h := by
  intro v0 v1 v2 v3 v4 h hw
  refine v_iconst (v := 0) C dX11_person_64 (by decide) ?_
  exact s_X11_person_65 C hr htb  _ _ _ _ _ _ _ hw
set_option maxRecDepth 100000 in
set_option maxHeartbeats 4000000 in
theorem s_X11_person_36 {p : Program} {l : Launch} {e : Env} {s : State} {m : MethodId} {args : Array Value} {below : List Frame} {meth : Method} {c : Code} {g : GG}  {Q : Int32 → AH → Prop} {X : String → AH → Prop}  (C : CXT p l s m args meth c RX11 cX11_person 5 g) (hr : meth.sig.returnType = (some .int)) (htb : ∀ x ∈ c.exceptionTable.toList, False)  : ∀ (v0 : Nat) (v1 : Int32) (v2 : Int32) (v3 : Int32) (v4 : Int32) (h : AH), w_X11_person_36  v0 v1 v2 v3 v4 h Q X → V p l e s m args below meth c g 8 5 30 5 3 18 (vx_MQ below (QCx g (QI Q)) (XCx g X) args s 5 30 (gA g)) 36 [(0, .ref v0), (1, .int v1), (2, .int v2), (3, .int v3), (4, .int v4)] [] h := by
  intro v0 v1 v2 v3 v4 h hw
  refine v_iload_n C dX11_person_36 3 rfl rfl ?_
  refine v_iconst (v := 0) C dX11_person_37 (by decide) ?_
  refine v_bipush (v := 9) C dX11_person_38 (by decide) ?_
  refine w_callSi (st := []) C cl_X11_54 st_X11_isWithin (s_X11_isWithin hw) rfl dX11_person_40 rfl (by decide) (by decide) (by decide) (by decide) (by decide) (fun x1 h hw => ?_)
  refine v_if_eq (tgt := 64) C dX11_person_43 (by decide) (fun c_43 => ?_) (fun c_43 => ?_)
  · have hw := hw.1 c_43
    exact s_X11_person_64 C hr htb  _ _ _ _ _ _ hw
  · have hw := hw.2 c_43
    refine v_aload_n C dX11_person_46 0 rfl rfl ?_
    refine w_getN C fl_X11_19 dX11_person_47 rfl hw (fun a2 hw => ?_)
    refine w_getN C fl_X11_122 dX11_person_50 rfl hw (fun a3 hw => ?_)
    refine v_iload_n C dX11_person_53 1 rfl rfl ?_
    refine w_callVi (st := []) C cl_X11_126 im_X4_someoneHas se_X4_someoneHas rfl hw.1 (s_X4_someoneHas hw.2) rfl dX11_person_54 rfl (by decide) (by decide) (by decide) (by decide) (by decide) (fun x4 h hw => ?_)
    refine v_if_ne (tgt := 64) C dX11_person_57 (by decide) (fun c_57 => ?_) (fun c_57 => ?_)
    · have hw := hw.2 c_57
      exact s_X11_person_64 C hr htb  _ _ _ _ _ _ hw
    · have hw := hw.1 c_57
      refine v_iconst (v := 1) C dX11_person_60 (by decide) ?_
      refine v_goto (tgt := 65) C dX11_person_61 (by decide) ?_
      exact s_X11_person_65 C hr htb  _ _ _ _ _ _ _ hw
set_option maxRecDepth 100000 in
set_option maxHeartbeats 4000000 in
theorem s_X11_person {l : Launch}  {v0 : Nat} {v1 : Int32} {v2 : Int32} {v3 : Int32} {v4 : Int32} {h : AH} {Q : Int32 → AH → Prop} {X : String → AH → Prop}  (hw : w_X11_person  v0 v1 v2 v3 v4 h Q X) : CX l yX11_person cX11_person 5 (some .int) 8 5 30 [.ref v0, .int v1, .int v2, .int v3, .int v4] h (QI Q) X := by
  refine CX.of (by decide) ⟨rfl, ⟨rfl, ⟨rfl, ⟨rfl, ⟨rfl, trivial⟩⟩⟩⟩⟩ (Nat.le_of_ble_eq_true rfl) ?_
  intro p e s m args below meth c g C hr htb
  refine v_eq (pc' := 0) (ls' := [(0, .ref v0), (1, .int v1), (2, .int v2), (3, .int v3), (4, .int v4)]) rfl rfl rfl rfl ?_
  refine v_iload_n C dX11_person_0 1 rfl rfl ?_
  refine v_aload_n C dX11_person_1 0 rfl rfl ?_
  refine w_getN C fl_X11_19 dX11_person_2 rfl hw (fun a1 hw => ?_)
  refine w_getN C fl_X11_84 dX11_person_5 rfl hw (fun a2 hw => ?_)
  refine w_getI C fl_X11_88 dX11_person_8 rfl hw (fun x3 hw => ?_)
  refine w_callXSv (st := []) C cl_X11_119 lk_X11_119 st_X11_needNumber (s_X11_needNumber hw) rfl dX11_person_11 rfl (by decide) (by decide) (by decide) (by decide) (by decide) (fun E h hx => tx_out C htb _ _ _ _ _ _ _ _ _ (by decide) (by decide) hx) (fun h hw => ?_)
  refine v_iload_n C dX11_person_14 2 rfl rfl ?_
  refine w_callXSv (st := []) C cl_X11_51 lk_X11_51 st_X11_needCell (s_X11_needCell hw) rfl dX11_person_15 rfl (by decide) (by decide) (by decide) (by decide) (by decide) (fun E h hx => tx_out C htb _ _ _ _ _ _ _ _ _ (by decide) (by decide) hx) (fun h hw => ?_)
  refine v_iload C dX11_person_18 4 rfl ?_
  refine v_iconst (v := -1) C dX11_person_20 (by decide) ?_
  refine v_icmp_eq (tgt := 36) C dX11_person_21 (by decide) (fun c_21 => ?_) (fun c_21 => ?_)
  · have hw := hw.1 c_21
    refine v_cells (kc' := 3) (ks' := 18) (by decide) (by decide) ?_
    exact s_X11_person_36 C hr htb  _ _ _ _ _ _ hw
  · have hw := hw.2 c_21
    refine v_iload C dX11_person_24 4 rfl ?_
    refine v_aload_n C dX11_person_26 0 rfl rfl ?_
    refine w_getN C fl_X11_19 dX11_person_27 rfl hw (fun a4 hw => ?_)
    refine w_getI C fl_X11_105 dX11_person_30 rfl hw (fun x5 hw => ?_)
    refine w_callXSv (st := []) C cl_X11_119 lk_X11_119 st_X11_needNumber (s_X11_needNumber hw) rfl dX11_person_33 rfl (by decide) (by decide) (by decide) (by decide) (by decide) (fun E h hx => tx_out C htb _ _ _ _ _ _ _ _ _ (by decide) (by decide) hx) (fun h hw => ?_)
    exact s_X11_person_36 C hr htb  _ _ _ _ _ _ hw
-- GrassField.run(I)I
theorem dX11_run_0 : decode cX11_run 0 = .ok (.iload_n 1, 1) := by decide +kernel
theorem dX11_run_1 : decode cX11_run 1 = .ok (.iconst 1, 1) := by decide +kernel
theorem dX11_run_2 : decode cX11_run 2 = .ok (.bipush 60, 2) := by decide +kernel
theorem dX11_run_4 : decode cX11_run 4 = .ok (.invokestatic 54, 3) := by decide +kernel
theorem dX11_run_7 : decode cX11_run 7 = .ok (.ifCond .eq 22, 3) := by decide +kernel
theorem dX11_run_10 : decode cX11_run 10 = .ok (.aload_n 0, 1) := by decide +kernel
theorem dX11_run_11 : decode cX11_run 11 = .ok (.getfield 19, 3) := by decide +kernel
theorem dX11_run_14 : decode cX11_run 14 = .ok (.getfield 171, 3) := by decide +kernel
theorem dX11_run_17 : decode cX11_run 17 = .ok (.iload_n 1, 1) := by decide +kernel
theorem dX11_run_18 : decode cX11_run 18 = .ok (.iadd, 1) := by decide +kernel
theorem dX11_run_19 : decode cX11_run 19 = .ok (.sipush 239, 3) := by decide +kernel
theorem dX11_run_22 : decode cX11_run 22 = .ok (.if_icmp .gt 7, 3) := by decide +kernel
theorem dX11_run_25 : decode cX11_run 25 = .ok (.iconst 1, 1) := by decide +kernel
theorem dX11_run_26 : decode cX11_run 26 = .ok (.goto 4, 3) := by decide +kernel
theorem dX11_run_29 : decode cX11_run 29 = .ok (.iconst 0, 1) := by decide +kernel
theorem dX11_run_30 : decode cX11_run 30 = .ok (.invokestatic 58, 3) := by decide +kernel
theorem dX11_run_33 : decode cX11_run 33 = .ok (.iconst 0, 1) := by decide +kernel
theorem dX11_run_34 : decode cX11_run 34 = .ok (.istore_n 2, 1) := by decide +kernel
theorem dX11_run_35 : decode cX11_run 35 = .ok (.iload_n 2, 1) := by decide +kernel
theorem dX11_run_36 : decode cX11_run 36 = .ok (.iload_n 1, 1) := by decide +kernel
theorem dX11_run_37 : decode cX11_run 37 = .ok (.if_icmp .ge 16, 3) := by decide +kernel
theorem dX11_run_40 : decode cX11_run 40 = .ok (.aload_n 0, 1) := by decide +kernel
theorem dX11_run_41 : decode cX11_run 41 = .ok (.getfield 28, 3) := by decide +kernel
theorem dX11_run_44 : decode cX11_run 44 = .ok (.invokevirtual 174, 3) := by decide +kernel
theorem dX11_run_47 : decode cX11_run 47 = .ok (.iinc 2 1, 3) := by decide +kernel
theorem dX11_run_50 : decode cX11_run 50 = .ok (.goto (-15), 3) := by decide +kernel
theorem dX11_run_53 : decode cX11_run 53 = .ok (.aload_n 0, 1) := by decide +kernel
theorem dX11_run_54 : decode cX11_run 54 = .ok (.getfield 19, 3) := by decide +kernel
theorem dX11_run_57 : decode cX11_run 57 = .ok (.getfield 171, 3) := by decide +kernel
theorem dX11_run_60 : decode cX11_run 60 = .ok (.ireturn, 1) := by decide +kernel
def w_X11_run_53  (v0 : Nat) (h : AH) (Q : Int32 → AH → Prop) (X : String → AH → Prop) : Prop :=
  fN h v0 11 1 fun a1 =>
  fI h a1 7 12 fun x2 =>
  Q x2 h
def w_X11_run_35  (x53 : AH → Prop) (k : Int32 → AH → Prop) (v0 : Nat) (v1 : Int32) (v2 : Int32) (h : AH) (Q : Int32 → AH → Prop) (X : String → AH → Prop) : Prop :=
  br (v1 ≤ v2) (
    x53  h) (
    fN h v0 11 2 fun a1 =>
    vr h a1 0 (
    w_X0_goMinute a1 h (fun h =>
    k (v2 + 1) h)))
def w_X11_run_30  (v0 : Nat) (v1 : Int32) (t0 : Int32) (h : AH) (Q : Int32 → AH → Prop) (X : String → AH → Prop) : Prop :=
  w_X11_need t0 h (fun h =>
  lp (fun (k2 : Int32 × AH → Prop) (s2 : Int32 × AH) => w_X11_run_35  (fun  h => w_X11_run_53 v0 h Q X) (fun (y2 : Int32) h => k2 (y2, h)) v0 v1 s2.1 s2.2 Q X) ((0 : Int32), h)) X
def w_X11_run_29  (v0 : Nat) (v1 : Int32) (h : AH) (Q : Int32 → AH → Prop) (X : String → AH → Prop) : Prop :=
  w_X11_run_30 v0 v1 (0 : Int32) h Q X
def w_X11_run  (v0 : Nat) (v1 : Int32) (h : AH) (Q : Int32 → AH → Prop) (X : String → AH → Prop) : Prop :=
  w_X11_isWithin v1 (1 : Int32) (60 : Int32) h (fun x1 h =>
  br (x1 = 0) (
    w_X11_run_29 v0 v1 h Q X) (
    fN h v0 11 1 fun a2 =>
    fI h a2 7 12 fun x3 =>
    br ((239 : Int32) < (x3 + v1)) (
      w_X11_run_29 v0 v1 h Q X) (
      w_X11_run_30 v0 v1 (1 : Int32) h Q X)))
set_option maxRecDepth 100000 in
set_option maxHeartbeats 4000000 in
theorem s_X11_run_53 {p : Program} {l : Launch} {e : Env} {s : State} {m : MethodId} {args : Array Value} {below : List Frame} {meth : Method} {c : Code} {g : GG}  {Q : Int32 → AH → Prop} {X : String → AH → Prop}  (C : CXT p l s m args meth c RX11 cX11_run 3 g) (hr : meth.sig.returnType = (some .int)) (htb : ∀ x ∈ c.exceptionTable.toList, False)  : ∀ (v0 : Nat) (h : AH), w_X11_run_53  v0 h Q X → V p l e s m args below meth c g 7 1 6 3 1 6 (vx_MQ below (QCx g (QI Q)) (XCx g X) args s 1 6 (gA g)) 53 [(0, .ref v0)] [] h := by
  intro v0 h hw
  refine v_aload_n C dX11_run_53 0 rfl rfl ?_
  refine w_getN C fl_X11_19 dX11_run_54 rfl hw (fun a1 hw => ?_)
  refine w_getI C fl_X11_171 dX11_run_57 rfl hw (fun x2 hw => ?_)
  exact (rt_VX C _ _).1 _ _ _ _ _ _ hr dX11_run_60 (by decide) (by decide) ⟨_, rfl, hw⟩
set_option maxRecDepth 100000 in
set_option maxHeartbeats 4000000 in
theorem s_X11_run_35 {p : Program} {l : Launch} {e : Env} {s : State} {m : MethodId} {args : Array Value} {below : List Frame} {meth : Method} {c : Code} {g : GG} {v0 : Nat} {v1 : Int32} {Q : Int32 → AH → Prop} {X : String → AH → Prop} {x53 : AH → Prop} {k : Int32 → AH → Prop} (C : CXT p l s m args meth c RX11 cX11_run 3 g) (hr : meth.sig.returnType = (some .int)) (htb : ∀ x ∈ c.exceptionTable.toList, False) (hx53 : ∀  (h : AH), x53  h → V p l e s m args below meth c g 7 1 6 3 1 6 (vx_MQ below (QCx g (QI Q)) (XCx g X) args s 1 6 (gA g)) 53 [(0, .ref v0)] [] h) (hk : ∀ (y2 : Int32) (h : AH), k y2 h → V p l e s m args below meth c g 7 1 6 3 1 6 (vx_MQ below (QCx g (QI Q)) (XCx g X) args s 1 6 (gA g)) 35 [(0, .ref v0), (1, .int v1), (2, .int y2)] [] h) : ∀ (v2 : Int32) (h : AH), w_X11_run_35  x53 k v0 v1 v2 h Q X → V p l e s m args below meth c g 7 1 6 3 1 6 (vx_MQ below (QCx g (QI Q)) (XCx g X) args s 1 6 (gA g)) 35 [(0, .ref v0), (1, .int v1), (2, .int v2)] [] h := by
  intro v2 h hw
  refine v_iload_n C dX11_run_35 2 rfl rfl ?_
  refine v_iload_n C dX11_run_36 1 rfl rfl ?_
  refine v_icmp_ge (tgt := 53) C dX11_run_37 (by decide) (fun c_37 => ?_) (fun c_37 => ?_)
  · have hw := hw.1 c_37
    refine v_sub [0] rfl ?_
    exact hx53  _ hw
  · have hw := hw.2 c_37
    refine v_aload_n C dX11_run_40 0 rfl rfl ?_
    refine w_getN C fl_X11_28 dX11_run_41 rfl hw (fun a1 hw => ?_)
    refine w_callVv (st := []) C cl_X11_174 im_X0_goMinute se_X0_goMinute rfl hw.1 (s_X0_goMinute hw.2) rfl dX11_run_44 rfl (by decide) (by decide) (by decide) (by decide) (by decide) (fun h hw => ?_)
    refine v_iinc (v := 1) (ls' := [(2, .int (v2 + 1)), (0, .ref v0), (1, .int v1)]) C dX11_run_47 2 rfl (by decide) (by decide) rfl ?_
    refine v_goto (tgt := 35) C dX11_run_50 (by decide) ?_
    refine v_sub [1, 2, 0] rfl ?_
    exact hk _ _ hw
set_option maxRecDepth 100000 in
set_option maxHeartbeats 4000000 in
theorem s_X11_run_30 {p : Program} {l : Launch} {e : Env} {s : State} {m : MethodId} {args : Array Value} {below : List Frame} {meth : Method} {c : Code} {g : GG}  {Q : Int32 → AH → Prop} {X : String → AH → Prop}  (C : CXT p l s m args meth c RX11 cX11_run 3 g) (hr : meth.sig.returnType = (some .int)) (htb : ∀ x ∈ c.exceptionTable.toList, False)  : ∀ (v0 : Nat) (v1 : Int32) (t0 : Int32) (h : AH), w_X11_run_30  v0 v1 t0 h Q X → V p l e s m args below meth c g 7 1 6 3 0 0 (vx_MQ below (QCx g (QI Q)) (XCx g X) args s 1 6 (gA g)) 30 [(0, .ref v0), (1, .int v1)] [.int t0] h := by
  intro v0 v1 t0 h hw
  refine w_callXSv (st := []) C cl_X11_58 lk_X11_58 st_X11_need (s_X11_need hw) rfl dX11_run_30 rfl (by decide) (by decide) (by decide) (by decide) (by decide) (fun E h hx => tx_out C htb _ _ _ _ _ _ _ _ _ (by decide) (by decide) hx) (fun h hw => ?_)
  refine v_iconst (v := 0) C dX11_run_33 (by decide) ?_
  refine v_istore_n (ls' := [(2, .int (0 : Int32)), (0, .ref v0), (1, .int v1)]) C dX11_run_34 rfl (by decide) rfl ?_
  refine v_sub [1, 2, 0] rfl ?_
  refine lp_walk (P := fun (s' : Int32 × AH) => V p l e s m args below meth c g 7 1 6 3 1 6 (vx_MQ below (QCx g (QI Q)) (XCx g X) args s 1 6 (gA g)) 35 [(0, .ref v0), (1, .int v1), (2, .int (s'.1))] [] s'.2) (fun k2 hk2 s' hw => ?_) ((0 : Int32), h) hw
  exact s_X11_run_35 C hr htb (fun  h hw => s_X11_run_53 C hr htb  _ h hw) (fun y2 h hw => hk2 (y2, h) hw) _ _ hw
set_option maxRecDepth 100000 in
set_option maxHeartbeats 4000000 in
theorem s_X11_run_29 {p : Program} {l : Launch} {e : Env} {s : State} {m : MethodId} {args : Array Value} {below : List Frame} {meth : Method} {c : Code} {g : GG}  {Q : Int32 → AH → Prop} {X : String → AH → Prop}  (C : CXT p l s m args meth c RX11 cX11_run 3 g) (hr : meth.sig.returnType = (some .int)) (htb : ∀ x ∈ c.exceptionTable.toList, False)  : ∀ (v0 : Nat) (v1 : Int32) (h : AH), w_X11_run_29  v0 v1 h Q X → V p l e s m args below meth c g 7 1 6 3 0 0 (vx_MQ below (QCx g (QI Q)) (XCx g X) args s 1 6 (gA g)) 29 [(0, .ref v0), (1, .int v1)] [] h := by
  intro v0 v1 h hw
  refine v_iconst (v := 0) C dX11_run_29 (by decide) ?_
  exact s_X11_run_30 C hr htb  _ _ _ _ hw
set_option maxRecDepth 100000 in
set_option maxHeartbeats 4000000 in
theorem s_X11_run {l : Launch}  {v0 : Nat} {v1 : Int32} {h : AH} {Q : Int32 → AH → Prop} {X : String → AH → Prop}  (hw : w_X11_run  v0 v1 h Q X) : CX l yX11_run cX11_run 3 (some .int) 7 1 6 [.ref v0, .int v1] h (QI Q) X := by
  refine CX.of (by decide) ⟨rfl, ⟨rfl, trivial⟩⟩ (Nat.le_of_ble_eq_true rfl) ?_
  intro p e s m args below meth c g C hr htb
  refine v_eq (pc' := 0) (ls' := [(0, .ref v0), (1, .int v1)]) rfl rfl rfl rfl ?_
  refine v_iload_n C dX11_run_0 1 rfl rfl ?_
  refine v_iconst (v := 1) C dX11_run_1 (by decide) ?_
  refine v_bipush (v := 60) C dX11_run_2 (by decide) ?_
  refine w_callSi (st := []) C cl_X11_54 st_X11_isWithin (s_X11_isWithin hw) rfl dX11_run_4 rfl (by decide) (by decide) (by decide) (by decide) (by decide) (fun x1 h hw => ?_)
  refine v_if_eq (tgt := 29) C dX11_run_7 (by decide) (fun c_7 => ?_) (fun c_7 => ?_)
  · have hw := hw.1 c_7
    exact s_X11_run_29 C hr htb  _ _ _ hw
  · have hw := hw.2 c_7
    refine v_aload_n C dX11_run_10 0 rfl rfl ?_
    refine w_getN C fl_X11_19 dX11_run_11 rfl hw (fun a2 hw => ?_)
    refine w_getI C fl_X11_171 dX11_run_14 rfl hw (fun x3 hw => ?_)
    refine v_iload_n C dX11_run_17 1 rfl rfl ?_
    refine v_iadd C dX11_run_18 ?_
    refine v_sipush (v := 239) C dX11_run_19 (by decide) ?_
    refine v_icmp_gt (tgt := 29) C dX11_run_22 (by decide) (fun c_22 => ?_) (fun c_22 => ?_)
    · have hw := hw.1 c_22
      exact s_X11_run_29 C hr htb  _ _ _ hw
    · have hw := hw.2 c_22
      refine v_iconst (v := 1) C dX11_run_25 (by decide) ?_
      refine v_goto (tgt := 30) C dX11_run_26 (by decide) ?_
      exact s_X11_run_30 C hr htb  _ _ _ _ hw
-- GrassField.same(III)I
theorem dX11_same_0 : decode cX11_same 0 = .ok (.iload_n 1, 1) := by decide +kernel
theorem dX11_same_1 : decode cX11_same 1 = .ok (.aload_n 0, 1) := by decide +kernel
theorem dX11_same_2 : decode cX11_same 2 = .ok (.getfield 19, 3) := by decide +kernel
theorem dX11_same_5 : decode cX11_same 5 = .ok (.getfield 178, 3) := by decide +kernel
theorem dX11_same_8 : decode cX11_same 8 = .ok (.getfield 182, 3) := by decide +kernel
theorem dX11_same_11 : decode cX11_same 11 = .ok (.invokestatic 119, 3) := by decide +kernel
theorem dX11_same_14 : decode cX11_same 14 = .ok (.iload_n 2, 1) := by decide +kernel
theorem dX11_same_15 : decode cX11_same 15 = .ok (.aload_n 0, 1) := by decide +kernel
theorem dX11_same_16 : decode cX11_same 16 = .ok (.getfield 19, 3) := by decide +kernel
theorem dX11_same_19 : decode cX11_same 19 = .ok (.getfield 178, 3) := by decide +kernel
theorem dX11_same_22 : decode cX11_same 22 = .ok (.getfield 182, 3) := by decide +kernel
theorem dX11_same_25 : decode cX11_same 25 = .ok (.invokestatic 119, 3) := by decide +kernel
theorem dX11_same_28 : decode cX11_same 28 = .ok (.aload_n 0, 1) := by decide +kernel
theorem dX11_same_29 : decode cX11_same 29 = .ok (.getfield 35, 3) := by decide +kernel
theorem dX11_same_32 : decode cX11_same 32 = .ok (.invokevirtual 235, 3) := by decide +kernel
theorem dX11_same_35 : decode cX11_same 35 = .ok (.aload_n 0, 1) := by decide +kernel
theorem dX11_same_36 : decode cX11_same 36 = .ok (.getfield 35, 3) := by decide +kernel
theorem dX11_same_39 : decode cX11_same 39 = .ok (.getfield 242, 3) := by decide +kernel
theorem dX11_same_42 : decode cX11_same 42 = .ok (.iload_n 1, 1) := by decide +kernel
theorem dX11_same_43 : decode cX11_same 43 = .ok (.iaload, 1) := by decide +kernel
theorem dX11_same_44 : decode cX11_same 44 = .ok (.istore 4, 2) := by decide +kernel
theorem dX11_same_46 : decode cX11_same 46 = .ok (.aload_n 0, 1) := by decide +kernel
theorem dX11_same_47 : decode cX11_same 47 = .ok (.getfield 35, 3) := by decide +kernel
theorem dX11_same_50 : decode cX11_same 50 = .ok (.getfield 242, 3) := by decide +kernel
theorem dX11_same_53 : decode cX11_same 53 = .ok (.iload_n 2, 1) := by decide +kernel
theorem dX11_same_54 : decode cX11_same 54 = .ok (.iaload, 1) := by decide +kernel
theorem dX11_same_55 : decode cX11_same 55 = .ok (.istore 5, 2) := by decide +kernel
theorem dX11_same_57 : decode cX11_same 57 = .ok (.iload 4, 2) := by decide +kernel
theorem dX11_same_59 : decode cX11_same 59 = .ok (.iconst (-1), 1) := by decide +kernel
theorem dX11_same_60 : decode cX11_same 60 = .ok (.if_icmp .eq 13, 3) := by decide +kernel
theorem dX11_same_63 : decode cX11_same 63 = .ok (.iload 5, 2) := by decide +kernel
theorem dX11_same_65 : decode cX11_same 65 = .ok (.iconst (-1), 1) := by decide +kernel
theorem dX11_same_66 : decode cX11_same 66 = .ok (.if_icmp .eq 7, 3) := by decide +kernel
theorem dX11_same_69 : decode cX11_same 69 = .ok (.iconst 1, 1) := by decide +kernel
theorem dX11_same_70 : decode cX11_same 70 = .ok (.goto 4, 3) := by decide +kernel
theorem dX11_same_73 : decode cX11_same 73 = .ok (.iconst 0, 1) := by decide +kernel
theorem dX11_same_74 : decode cX11_same 74 = .ok (.invokestatic 58, 3) := by decide +kernel
theorem dX11_same_77 : decode cX11_same 77 = .ok (.iload_n 3, 1) := by decide +kernel
theorem dX11_same_78 : decode cX11_same 78 = .ok (.iconst 1, 1) := by decide +kernel
theorem dX11_same_79 : decode cX11_same 79 = .ok (.invokestatic 245, 3) := by decide +kernel
theorem dX11_same_82 : decode cX11_same 82 = .ok (.iload_n 3, 1) := by decide +kernel
theorem dX11_same_83 : decode cX11_same 83 = .ok (.ifCond .ne 12, 3) := by decide +kernel
theorem dX11_same_86 : decode cX11_same 86 = .ok (.iload 4, 2) := by decide +kernel
theorem dX11_same_88 : decode cX11_same 88 = .ok (.iload 5, 2) := by decide +kernel
theorem dX11_same_90 : decode cX11_same 90 = .ok (.iand, 1) := by decide +kernel
theorem dX11_same_91 : decode cX11_same 91 = .ok (.invokestatic 248, 3) := by decide +kernel
theorem dX11_same_94 : decode cX11_same 94 = .ok (.ireturn, 1) := by decide +kernel
theorem dX11_same_95 : decode cX11_same 95 = .ok (.iload 4, 2) := by decide +kernel
theorem dX11_same_97 : decode cX11_same 97 = .ok (.invokestatic 248, 3) := by decide +kernel
theorem dX11_same_100 : decode cX11_same 100 = .ok (.iload 5, 2) := by decide +kernel
theorem dX11_same_102 : decode cX11_same 102 = .ok (.invokestatic 248, 3) := by decide +kernel
theorem dX11_same_105 : decode cX11_same 105 = .ok (.imul, 1) := by decide +kernel
theorem dX11_same_106 : decode cX11_same 106 = .ok (.ireturn, 1) := by decide +kernel
def w_X11_same_74  (v3 : Int32) (v4 : Int32) (v5 : Int32) (t0 : Int32) (h : AH) (Q : Int32 → AH → Prop) (X : String → AH → Prop) : Prop :=
  w_X11_need t0 h (fun h =>
  w_X11_needQuestion v3 (1 : Int32) h (fun h =>
  br (v3 = 0) (
    w_J6_bitCount_0f7a4 (v4 &&& v5) h (fun x3 h =>
    Q x3 h)) (
    w_J6_bitCount_0f7a4 v4 h (fun x1 h =>
    w_J6_bitCount_0f7a4 v5 h (fun x2 h =>
    Q (x1 * x2) h)))) X) X
def w_X11_same_73  (v3 : Int32) (v4 : Int32) (v5 : Int32) (h : AH) (Q : Int32 → AH → Prop) (X : String → AH → Prop) : Prop :=
  w_X11_same_74 v3 v4 v5 (0 : Int32) h Q X
def w_X11_same  (v0 : Nat) (v1 : Int32) (v2 : Int32) (v3 : Int32) (h : AH) (Q : Int32 → AH → Prop) (X : String → AH → Prop) : Prop :=
  fN h v0 11 1 fun a1 =>
  fN h a1 7 3 fun a2 =>
  fI h a2 1 0 fun x3 =>
  w_X11_needNumber v1 x3 h (fun h =>
  fN h v0 11 1 fun a4 =>
  fN h a4 7 3 fun a5 =>
  fI h a5 1 0 fun x6 =>
  w_X11_needNumber v2 x6 h (fun h =>
  fN h v0 11 3 fun a7 =>
  vr h a7 8 (
  w_X8_refresh a7 h (fun h =>
  fN h v0 11 3 fun a8 =>
  fN h a8 8 1 fun a9 =>
  aI h a9 v1 fun x10 =>
  fN h v0 11 3 fun a11 =>
  fN h a11 8 1 fun a12 =>
  aI h a12 v2 fun x13 =>
  br (x10 = (-1 : Int32)) (
    w_X11_same_73 v3 x10 x13 h Q X) (
    br (x13 = (-1 : Int32)) (
      w_X11_same_73 v3 x10 x13 h Q X) (
      w_X11_same_74 v3 x10 x13 (1 : Int32) h Q X))))) X) X
set_option maxRecDepth 100000 in
set_option maxHeartbeats 4000000 in
theorem s_X11_same_74 {p : Program} {l : Launch} {e : Env} {s : State} {m : MethodId} {args : Array Value} {below : List Frame} {meth : Method} {c : Code} {g : GG}  {Q : Int32 → AH → Prop} {X : String → AH → Prop}  (C : CXT p l s m args meth c RX11 cX11_same 6 g) (hr : meth.sig.returnType = (some .int)) (htb : ∀ x ∈ c.exceptionTable.toList, False)  : ∀ (v3 : Int32) (v4 : Int32) (v5 : Int32) (t0 : Int32) (h : AH), w_X11_same_74  v3 v4 v5 t0 h Q X → V p l e s m args below meth c g 7 4 24 6 2 12 (vx_MQ below (QCx g (QI Q)) (XCx g X) args s 4 24 (gA g)) 74 [(3, .int v3), (4, .int v4), (5, .int v5)] [.int t0] h := by
  intro v3 v4 v5 t0 h hw
  refine w_callXSv (st := []) C cl_X11_58 lk_X11_58 st_X11_need (s_X11_need hw) rfl dX11_same_74 rfl (by decide) (by decide) (by decide) (by decide) (by decide) (fun E h hx => tx_out C htb _ _ _ _ _ _ _ _ _ (by decide) (by decide) hx) (fun h hw => ?_)
  refine v_iload_n C dX11_same_77 0 rfl rfl ?_
  refine v_iconst (v := 1) C dX11_same_78 (by decide) ?_
  refine w_callXSv (st := []) C cl_X11_245 lk_X11_245 st_X11_needQuestion (s_X11_needQuestion hw) rfl dX11_same_79 rfl (by decide) (by decide) (by decide) (by decide) (by decide) (fun E h hx => tx_out C htb _ _ _ _ _ _ _ _ _ (by decide) (by decide) hx) (fun h hw => ?_)
  refine v_iload_n C dX11_same_82 0 rfl rfl ?_
  refine v_if_ne (tgt := 95) C dX11_same_83 (by decide) (fun c_83 => ?_) (fun c_83 => ?_)
  · have hw := hw.2 c_83
    refine v_iload C dX11_same_95 1 rfl ?_
    refine w_callSi (st := []) C cl_X11_248 st_J6_bitCount_0f7a4 (s_J6_bitCount_0f7a4 hw) rfl dX11_same_97 rfl (by decide) (by decide) (by decide) (by decide) (by decide) (fun x1 h hw => ?_)
    refine v_iload C dX11_same_100 2 rfl ?_
    refine w_callSi (st := [.int x1]) C cl_X11_248 st_J6_bitCount_0f7a4 (s_J6_bitCount_0f7a4 hw) rfl dX11_same_102 rfl (Nat.le_of_ble_eq_true rfl) (by decide) (by decide) (by decide) (by decide) (fun x2 h hw => ?_)
    refine v_imul C dX11_same_105 ?_
    exact (rt_VX C _ _).1 _ _ _ _ _ _ hr dX11_same_106 (by decide) (by decide) ⟨_, rfl, hw⟩
  · have hw := hw.1 c_83
    refine v_iload C dX11_same_86 1 rfl ?_
    refine v_iload C dX11_same_88 2 rfl ?_
    refine v_iand C dX11_same_90 ?_
    refine w_callSi (st := []) C cl_X11_248 st_J6_bitCount_0f7a4 (s_J6_bitCount_0f7a4 hw) rfl dX11_same_91 rfl (by decide) (by decide) (by decide) (by decide) (by decide) (fun x3 h hw => ?_)
    exact (rt_VX C _ _).1 _ _ _ _ _ _ hr dX11_same_94 (by decide) (by decide) ⟨_, rfl, hw⟩
set_option maxRecDepth 100000 in
set_option maxHeartbeats 4000000 in
theorem s_X11_same_73 {p : Program} {l : Launch} {e : Env} {s : State} {m : MethodId} {args : Array Value} {below : List Frame} {meth : Method} {c : Code} {g : GG}  {Q : Int32 → AH → Prop} {X : String → AH → Prop}  (C : CXT p l s m args meth c RX11 cX11_same 6 g) (hr : meth.sig.returnType = (some .int)) (htb : ∀ x ∈ c.exceptionTable.toList, False)  : ∀ (v3 : Int32) (v4 : Int32) (v5 : Int32) (h : AH), w_X11_same_73  v3 v4 v5 h Q X → V p l e s m args below meth c g 7 4 24 6 2 12 (vx_MQ below (QCx g (QI Q)) (XCx g X) args s 4 24 (gA g)) 73 [(3, .int v3), (4, .int v4), (5, .int v5)] [] h := by
  intro v3 v4 v5 h hw
  refine v_iconst (v := 0) C dX11_same_73 (by decide) ?_
  exact s_X11_same_74 C hr htb  _ _ _ _ _ hw
set_option maxRecDepth 100000 in
set_option maxHeartbeats 4000000 in
theorem s_X11_same {l : Launch}  {v0 : Nat} {v1 : Int32} {v2 : Int32} {v3 : Int32} {h : AH} {Q : Int32 → AH → Prop} {X : String → AH → Prop}  (hw : w_X11_same  v0 v1 v2 v3 h Q X) : CX l yX11_same cX11_same 6 (some .int) 7 4 24 [.ref v0, .int v1, .int v2, .int v3] h (QI Q) X := by
  refine CX.of (by decide) ⟨rfl, ⟨rfl, ⟨rfl, ⟨rfl, trivial⟩⟩⟩⟩ (Nat.le_of_ble_eq_true rfl) ?_
  intro p e s m args below meth c g C hr htb
  refine v_eq (pc' := 0) (ls' := [(0, .ref v0), (1, .int v1), (2, .int v2), (3, .int v3)]) rfl rfl rfl rfl ?_
  refine v_iload_n C dX11_same_0 1 rfl rfl ?_
  refine v_aload_n C dX11_same_1 0 rfl rfl ?_
  refine w_getN C fl_X11_19 dX11_same_2 rfl hw (fun a1 hw => ?_)
  refine w_getN C fl_X11_178 dX11_same_5 rfl hw (fun a2 hw => ?_)
  refine w_getI C fl_X11_182 dX11_same_8 rfl hw (fun x3 hw => ?_)
  refine w_callXSv (st := []) C cl_X11_119 lk_X11_119 st_X11_needNumber (s_X11_needNumber hw) rfl dX11_same_11 rfl (by decide) (by decide) (by decide) (by decide) (by decide) (fun E h hx => tx_out C htb _ _ _ _ _ _ _ _ _ (by decide) (by decide) hx) (fun h hw => ?_)
  refine v_iload_n C dX11_same_14 2 rfl rfl ?_
  refine v_aload_n C dX11_same_15 0 rfl rfl ?_
  refine w_getN C fl_X11_19 dX11_same_16 rfl hw (fun a4 hw => ?_)
  refine w_getN C fl_X11_178 dX11_same_19 rfl hw (fun a5 hw => ?_)
  refine w_getI C fl_X11_182 dX11_same_22 rfl hw (fun x6 hw => ?_)
  refine w_callXSv (st := []) C cl_X11_119 lk_X11_119 st_X11_needNumber (s_X11_needNumber hw) rfl dX11_same_25 rfl (by decide) (by decide) (by decide) (by decide) (by decide) (fun E h hx => tx_out C htb _ _ _ _ _ _ _ _ _ (by decide) (by decide) hx) (fun h hw => ?_)
  refine v_aload_n C dX11_same_28 0 rfl rfl ?_
  refine w_getN C fl_X11_35 dX11_same_29 rfl hw (fun a7 hw => ?_)
  refine w_callVv (st := []) C cl_X11_235 im_X8_refresh se_X8_refresh rfl hw.1 (s_X8_refresh hw.2) rfl dX11_same_32 rfl (by decide) (by decide) (by decide) (by decide) (by decide) (fun h hw => ?_)
  refine v_aload_n C dX11_same_35 0 rfl rfl ?_
  refine w_getN C fl_X11_35 dX11_same_36 rfl hw (fun a8 hw => ?_)
  refine w_getN C fl_X11_242 dX11_same_39 rfl hw (fun a9 hw => ?_)
  refine v_iload_n C dX11_same_42 1 rfl rfl ?_
  refine w_iaload C dX11_same_43 hw (fun x10 hw => ?_)
  refine v_istore (ls' := [(4, .int x10), (0, .ref v0), (1, .int v1), (2, .int v2), (3, .int v3)]) C dX11_same_44 (by decide) rfl ?_
  refine v_aload_n C dX11_same_46 1 rfl rfl ?_
  refine w_getN C fl_X11_35 dX11_same_47 rfl hw (fun a11 hw => ?_)
  refine w_getN C fl_X11_242 dX11_same_50 rfl hw (fun a12 hw => ?_)
  refine v_iload_n C dX11_same_53 3 rfl rfl ?_
  refine w_iaload C dX11_same_54 hw (fun x13 hw => ?_)
  refine v_istore (ls' := [(5, .int x13), (4, .int x10), (0, .ref v0), (1, .int v1), (2, .int v2), (3, .int v3)]) C dX11_same_55 (by decide) rfl ?_
  refine v_iload C dX11_same_57 1 rfl ?_
  refine v_iconst (v := -1) C dX11_same_59 (by decide) ?_
  refine v_icmp_eq (tgt := 73) C dX11_same_60 (by decide) (fun c_60 => ?_) (fun c_60 => ?_)
  · have hw := hw.1 c_60
    refine v_sub [5, 1, 0] rfl ?_
    exact s_X11_same_73 C hr htb  _ _ _ _ hw
  · have hw := hw.2 c_60
    refine v_iload C dX11_same_63 0 rfl ?_
    refine v_iconst (v := -1) C dX11_same_65 (by decide) ?_
    refine v_icmp_eq (tgt := 73) C dX11_same_66 (by decide) (fun c_66 => ?_) (fun c_66 => ?_)
    · have hw := hw.1 c_66
      refine v_sub [5, 1, 0] rfl ?_
      exact s_X11_same_73 C hr htb  _ _ _ _ hw
    · have hw := hw.2 c_66
      refine v_iconst (v := 1) C dX11_same_69 (by decide) ?_
      refine v_goto (tgt := 74) C dX11_same_70 (by decide) ?_
      refine v_sub [5, 1, 0] rfl ?_
      exact s_X11_same_74 C hr htb  _ _ _ _ _ hw
-- GrassField.seed(I)V
theorem dX11_seed_0 : decode cX11_seed 0 = .ok (.aload_n 0, 1) := by decide +kernel
theorem dX11_seed_1 : decode cX11_seed 1 = .ok (.getfield 19, 3) := by decide +kernel
theorem dX11_seed_4 : decode cX11_seed 4 = .ok (.iload_n 1, 1) := by decide +kernel
theorem dX11_seed_5 : decode cX11_seed 5 = .ok (.putfield 168, 3) := by decide +kernel
theorem dX11_seed_8 : decode cX11_seed 8 = .ok (.return_, 1) := by decide +kernel
def w_X11_seed  (v0 : Nat) (v1 : Int32) (h : AH) (Q : AH → Prop) : Prop :=
  fN h v0 11 1 fun a1 =>
  uI h a1 7 11 v1 fun h =>
  Q h
set_option maxRecDepth 100000 in
set_option maxHeartbeats 4000000 in
theorem s_X11_seed {l : Launch}  {v0 : Nat} {v1 : Int32} {h : AH} {Q : AH → Prop}  (hw : w_X11_seed  v0 v1 h Q) : CT l yX11_seed cX11_seed 2 none 0 0 0 [.ref v0, .int v1] h (QV Q) := by
  refine CT.of (by decide) ⟨rfl, ⟨rfl, trivial⟩⟩ (Nat.le_of_ble_eq_true rfl) ?_
  intro p e s m args below meth c g C hr hin
  refine v_eq (pc' := 0) (ls' := [(0, .ref v0), (1, .int v1)]) rfl rfl rfl rfl ?_
  refine v_aload_n C dX11_seed_0 0 rfl rfl ?_
  refine w_getN C fl_X11_19 dX11_seed_1 rfl hw (fun a1 hw => ?_)
  refine v_iload_n C dX11_seed_4 1 rfl rfl ?_
  refine w_putI C fp_X11_168 (Or.inl rfl) dX11_seed_5 hw (fun h hw => ?_)
  exact (rt_MQ C _).2.2.1 _ _ _ _ _ hr dX11_seed_8 (by decide) (by decide) ⟨rfl, hw⟩
-- GrassField.sees(II)Z
theorem dX11_sees_0 : decode cX11_sees 0 = .ok (.iload_n 1, 1) := by decide +kernel
theorem dX11_sees_1 : decode cX11_sees 1 = .ok (.invokestatic 51, 3) := by decide +kernel
theorem dX11_sees_4 : decode cX11_sees 4 = .ok (.iload_n 2, 1) := by decide +kernel
theorem dX11_sees_5 : decode cX11_sees 5 = .ok (.invokestatic 51, 3) := by decide +kernel
theorem dX11_sees_8 : decode cX11_sees 8 = .ok (.aload_n 0, 1) := by decide +kernel
theorem dX11_sees_9 : decode cX11_sees 9 = .ok (.getfield 19, 3) := by decide +kernel
theorem dX11_sees_12 : decode cX11_sees 12 = .ok (.getfield 62, 3) := by decide +kernel
theorem dX11_sees_15 : decode cX11_sees 15 = .ok (.iload_n 1, 1) := by decide +kernel
theorem dX11_sees_16 : decode cX11_sees 16 = .ok (.iload_n 2, 1) := by decide +kernel
theorem dX11_sees_17 : decode cX11_sees 17 = .ok (.invokevirtual 76, 3) := by decide +kernel
theorem dX11_sees_20 : decode cX11_sees 20 = .ok (.ireturn, 1) := by decide +kernel
def w_X11_sees  (v0 : Nat) (v1 : Int32) (v2 : Int32) (h : AH) (Q : Int32 → AH → Prop) (X : String → AH → Prop) : Prop :=
  w_X11_needCell v1 h (fun h =>
  w_X11_needCell v2 h (fun h =>
  fN h v0 11 1 fun a1 =>
  fN h a1 7 0 fun a2 =>
  vr h a2 3 (
  w_X3_isOpen a2 v1 v2 h (fun x3 h =>
  z1 x3 (Q x3 h)))) X) X
set_option maxRecDepth 100000 in
set_option maxHeartbeats 4000000 in
theorem s_X11_sees {l : Launch}  {v0 : Nat} {v1 : Int32} {v2 : Int32} {h : AH} {Q : Int32 → AH → Prop} {X : String → AH → Prop}  (hw : w_X11_sees  v0 v1 v2 h Q X) : CX l yX11_sees cX11_sees 3 (some .boolean) 8 2 12 [.ref v0, .int v1, .int v2] h (QI Q) X := by
  refine CX.of (by decide) ⟨rfl, ⟨rfl, ⟨rfl, trivial⟩⟩⟩ (Nat.le_of_ble_eq_true rfl) ?_
  intro p e s m args below meth c g C hr htb
  refine v_eq (pc' := 0) (ls' := [(0, .ref v0), (1, .int v1), (2, .int v2)]) rfl rfl rfl rfl ?_
  refine v_iload_n C dX11_sees_0 1 rfl rfl ?_
  refine w_callXSv (st := []) C cl_X11_51 lk_X11_51 st_X11_needCell (s_X11_needCell hw) rfl dX11_sees_1 rfl (by decide) (by decide) (by decide) (by decide) (by decide) (fun E h hx => tx_out C htb _ _ _ _ _ _ _ _ _ (by decide) (by decide) hx) (fun h hw => ?_)
  refine v_iload_n C dX11_sees_4 2 rfl rfl ?_
  refine w_callXSv (st := []) C cl_X11_51 lk_X11_51 st_X11_needCell (s_X11_needCell hw) rfl dX11_sees_5 rfl (by decide) (by decide) (by decide) (by decide) (by decide) (fun E h hx => tx_out C htb _ _ _ _ _ _ _ _ _ (by decide) (by decide) hx) (fun h hw => ?_)
  refine v_aload_n C dX11_sees_8 0 rfl rfl ?_
  refine w_getN C fl_X11_19 dX11_sees_9 rfl hw (fun a1 hw => ?_)
  refine w_getN C fl_X11_62 dX11_sees_12 rfl hw (fun a2 hw => ?_)
  refine v_iload_n C dX11_sees_15 1 rfl rfl ?_
  refine v_iload_n C dX11_sees_16 2 rfl rfl ?_
  refine w_callVi (st := []) C cl_X11_76 im_X3_isOpen se_X3_isOpen rfl hw.1 (s_X3_isOpen hw.2) rfl dX11_sees_17 rfl (by decide) (by decide) (by decide) (by decide) (by decide) (fun x3 h hw => ?_)
  exact (rt_VX C _ _).2.1 _ _ _ _ _ _ _ hr (by rcases hw.1 with z | z <;> rw [z] <;> rfl) dX11_sees_20 (by decide) (by decide) ⟨_, rfl, hw.2⟩
-- GrassField.still(II)I
theorem dX11_still_0 : decode cX11_still 0 = .ok (.iload_n 1, 1) := by decide +kernel
theorem dX11_still_1 : decode cX11_still 1 = .ok (.invokestatic 51, 3) := by decide +kernel
theorem dX11_still_4 : decode cX11_still 4 = .ok (.iload_n 2, 1) := by decide +kernel
theorem dX11_still_5 : decode cX11_still 5 = .ok (.invokestatic 51, 3) := by decide +kernel
theorem dX11_still_8 : decode cX11_still 8 = .ok (.aload_n 0, 1) := by decide +kernel
theorem dX11_still_9 : decode cX11_still 9 = .ok (.getfield 35, 3) := by decide +kernel
theorem dX11_still_12 : decode cX11_still 12 = .ok (.iload_n 1, 1) := by decide +kernel
theorem dX11_still_13 : decode cX11_still 13 = .ok (.iload_n 2, 1) := by decide +kernel
theorem dX11_still_14 : decode cX11_still 14 = .ok (.invokevirtual 301, 3) := by decide +kernel
theorem dX11_still_17 : decode cX11_still 17 = .ok (.ireturn, 1) := by decide +kernel
def w_X11_still  (v0 : Nat) (v1 : Int32) (v2 : Int32) (h : AH) (Q : Int32 → AH → Prop) (X : String → AH → Prop) : Prop :=
  w_X11_needCell v1 h (fun h =>
  w_X11_needCell v2 h (fun h =>
  fN h v0 11 3 fun a1 =>
  vr h a1 8 (
  w_X8_mostUnseen a1 v1 v2 h (fun x2 h =>
  Q x2 h))) X) X
set_option maxRecDepth 100000 in
set_option maxHeartbeats 4000000 in
theorem s_X11_still {l : Launch}  {v0 : Nat} {v1 : Int32} {v2 : Int32} {h : AH} {Q : Int32 → AH → Prop} {X : String → AH → Prop}  (hw : w_X11_still  v0 v1 v2 h Q X) : CX l yX11_still cX11_still 3 (some .int) 8 2 12 [.ref v0, .int v1, .int v2] h (QI Q) X := by
  refine CX.of (by decide) ⟨rfl, ⟨rfl, ⟨rfl, trivial⟩⟩⟩ (Nat.le_of_ble_eq_true rfl) ?_
  intro p e s m args below meth c g C hr htb
  refine v_eq (pc' := 0) (ls' := [(0, .ref v0), (1, .int v1), (2, .int v2)]) rfl rfl rfl rfl ?_
  refine v_iload_n C dX11_still_0 1 rfl rfl ?_
  refine w_callXSv (st := []) C cl_X11_51 lk_X11_51 st_X11_needCell (s_X11_needCell hw) rfl dX11_still_1 rfl (by decide) (by decide) (by decide) (by decide) (by decide) (fun E h hx => tx_out C htb _ _ _ _ _ _ _ _ _ (by decide) (by decide) hx) (fun h hw => ?_)
  refine v_iload_n C dX11_still_4 2 rfl rfl ?_
  refine w_callXSv (st := []) C cl_X11_51 lk_X11_51 st_X11_needCell (s_X11_needCell hw) rfl dX11_still_5 rfl (by decide) (by decide) (by decide) (by decide) (by decide) (fun E h hx => tx_out C htb _ _ _ _ _ _ _ _ _ (by decide) (by decide) hx) (fun h hw => ?_)
  refine v_aload_n C dX11_still_8 0 rfl rfl ?_
  refine w_getN C fl_X11_35 dX11_still_9 rfl hw (fun a1 hw => ?_)
  refine v_iload_n C dX11_still_12 1 rfl rfl ?_
  refine v_iload_n C dX11_still_13 2 rfl rfl ?_
  refine w_callVi (st := []) C cl_X11_301 im_X8_mostUnseen se_X8_mostUnseen rfl hw.1 (s_X8_mostUnseen hw.2) rfl dX11_still_14 rfl (by decide) (by decide) (by decide) (by decide) (by decide) (fun x2 h hw => ?_)
  exact (rt_VX C _ _).1 _ _ _ _ _ _ hr dX11_still_17 (by decide) (by decide) ⟨_, rfl, hw⟩
-- GrassField.story(I)I
theorem dX11_story_0 : decode cX11_story 0 = .ok (.aload_n 0, 1) := by decide +kernel
theorem dX11_story_1 : decode cX11_story 1 = .ok (.getfield 10, 3) := by decide +kernel
theorem dX11_story_4 : decode cX11_story 4 = .ok (.invokevirtual 344, 3) := by decide +kernel
theorem dX11_story_7 : decode cX11_story 7 = .ok (.ifCond .eq 17, 3) := by decide +kernel
theorem dX11_story_10 : decode cX11_story 10 = .ok (.iload_n 1, 1) := by decide +kernel
theorem dX11_story_11 : decode cX11_story 11 = .ok (.iconst 1, 1) := by decide +kernel
theorem dX11_story_12 : decode cX11_story 12 = .ok (.bipush 99, 2) := by decide +kernel
theorem dX11_story_14 : decode cX11_story 14 = .ok (.invokestatic 54, 3) := by decide +kernel
theorem dX11_story_17 : decode cX11_story 17 = .ok (.ifCond .eq 7, 3) := by decide +kernel
theorem dX11_story_20 : decode cX11_story 20 = .ok (.iconst 1, 1) := by decide +kernel
theorem dX11_story_21 : decode cX11_story 21 = .ok (.goto 4, 3) := by decide +kernel
theorem dX11_story_24 : decode cX11_story 24 = .ok (.iconst 0, 1) := by decide +kernel
theorem dX11_story_25 : decode cX11_story 25 = .ok (.invokestatic 58, 3) := by decide +kernel
theorem dX11_story_28 : decode cX11_story 28 = .ok (.aload_n 0, 1) := by decide +kernel
theorem dX11_story_29 : decode cX11_story 29 = .ok (.getfield 19, 3) := by decide +kernel
theorem dX11_story_32 : decode cX11_story 32 = .ok (.getfield 347, 3) := by decide +kernel
theorem dX11_story_35 : decode cX11_story 35 = .ok (.iconst 5, 1) := by decide +kernel
theorem dX11_story_36 : decode cX11_story 36 = .ok (.invokestatic 91, 3) := by decide +kernel
theorem dX11_story_39 : decode cX11_story 39 = .ok (.aload_n 0, 1) := by decide +kernel
theorem dX11_story_40 : decode cX11_story 40 = .ok (.getfield 19, 3) := by decide +kernel
theorem dX11_story_43 : decode cX11_story 43 = .ok (.aload_n 0, 1) := by decide +kernel
theorem dX11_story_44 : decode cX11_story 44 = .ok (.getfield 10, 3) := by decide +kernel
theorem dX11_story_47 : decode cX11_story 47 = .ok (.invokevirtual 108, 3) := by decide +kernel
theorem dX11_story_50 : decode cX11_story 50 = .ok (.iload_n 1, 1) := by decide +kernel
theorem dX11_story_51 : decode cX11_story 51 = .ok (.invokevirtual 350, 3) := by decide +kernel
theorem dX11_story_54 : decode cX11_story 54 = .ok (.ireturn, 1) := by decide +kernel
def w_X11_story_25  (v0 : Nat) (v1 : Int32) (t0 : Int32) (h : AH) (Q : Int32 → AH → Prop) (X : String → AH → Prop) : Prop :=
  w_X11_need t0 h (fun h =>
  fN h v0 11 1 fun a1 =>
  fI h a1 7 9 fun x2 =>
  w_X11_needRoom x2 (5 : Int32) h (fun h =>
  fN h v0 11 1 fun a3 =>
  fN h v0 11 0 fun a4 =>
  vr h a4 6 (
  w_X6_program a4 h (fun a5 h =>
  vr h a3 7 (
  w_X7_addStory a3 a5 v1 h (fun x6 h =>
  Q x6 h))))) X) X
def w_X11_story_24  (v0 : Nat) (v1 : Int32) (h : AH) (Q : Int32 → AH → Prop) (X : String → AH → Prop) : Prop :=
  w_X11_story_25 v0 v1 (0 : Int32) h Q X
def w_X11_story  (v0 : Nat) (v1 : Int32) (h : AH) (Q : Int32 → AH → Prop) (X : String → AH → Prop) : Prop :=
  fN h v0 11 0 fun a1 =>
  vr h a1 6 (
  w_X6_readsStory a1 h (fun x2 h =>
  br (x2 = 0) (
    w_X11_story_24 v0 v1 h Q X) (
    w_X11_isWithin v1 (1 : Int32) (99 : Int32) h (fun x3 h =>
    br (x3 = 0) (
      w_X11_story_24 v0 v1 h Q X) (
      w_X11_story_25 v0 v1 (1 : Int32) h Q X)))))
set_option maxRecDepth 100000 in
set_option maxHeartbeats 4000000 in
theorem s_X11_story_25 {p : Program} {l : Launch} {e : Env} {s : State} {m : MethodId} {args : Array Value} {below : List Frame} {meth : Method} {c : Code} {g : GG}  {Q : Int32 → AH → Prop} {X : String → AH → Prop}  (C : CXT p l s m args meth c RX11 cX11_story 2 g) (hr : meth.sig.returnType = (some .int)) (htb : ∀ x ∈ c.exceptionTable.toList, False)  : ∀ (v0 : Nat) (v1 : Int32) (t0 : Int32) (h : AH), w_X11_story_25  v0 v1 t0 h Q X → V p l e s m args below meth c g 46 5 448 2 0 0 (vx_MQ below (QCx g (QI Q)) (XCx g X) args s 5 448 (gA g)) 25 [(0, .ref v0), (1, .int v1)] [.int t0] h := by
  intro v0 v1 t0 h hw
  refine w_callXSv (st := []) C cl_X11_58 lk_X11_58 st_X11_need (s_X11_need hw) rfl dX11_story_25 rfl (by decide) (by decide) (by decide) (by decide) (by decide) (fun E h hx => tx_out C htb _ _ _ _ _ _ _ _ _ (by decide) (by decide) hx) (fun h hw => ?_)
  refine v_aload_n C dX11_story_28 0 rfl rfl ?_
  refine w_getN C fl_X11_19 dX11_story_29 rfl hw (fun a1 hw => ?_)
  refine w_getI C fl_X11_347 dX11_story_32 rfl hw (fun x2 hw => ?_)
  refine v_iconst (v := 5) C dX11_story_35 (by decide) ?_
  refine w_callXSv (st := []) C cl_X11_91 lk_X11_91 st_X11_needRoom (s_X11_needRoom hw) rfl dX11_story_36 rfl (by decide) (by decide) (by decide) (by decide) (by decide) (fun E h hx => tx_out C htb _ _ _ _ _ _ _ _ _ (by decide) (by decide) hx) (fun h hw => ?_)
  refine v_aload_n C dX11_story_39 0 rfl rfl ?_
  refine w_getN C fl_X11_19 dX11_story_40 rfl hw (fun a3 hw => ?_)
  refine v_aload_n C dX11_story_43 0 rfl rfl ?_
  refine w_getN C fl_X11_10 dX11_story_44 rfl hw (fun a4 hw => ?_)
  refine w_callVr (st := [.ref a3]) C cl_X11_108 im_X6_program se_X6_program rfl hw.1 (s_X6_program hw.2) rfl dX11_story_47 rfl (Nat.le_of_ble_eq_true rfl) (by decide) (by decide) (by decide) (by decide) (fun a5 h hw => ?_)
  refine v_iload_n C dX11_story_50 1 rfl rfl ?_
  refine w_callVi (st := []) C cl_X11_350 im_X7_addStory se_X7_addStory rfl hw.1 (s_X7_addStory hw.2) rfl dX11_story_51 rfl (by decide) (by decide) (by decide) (by decide) (by decide) (fun x6 h hw => ?_)
  exact (rt_VX C _ _).1 _ _ _ _ _ _ hr dX11_story_54 (by decide) (by decide) ⟨_, rfl, hw⟩
set_option maxRecDepth 100000 in
set_option maxHeartbeats 4000000 in
theorem s_X11_story_24 {p : Program} {l : Launch} {e : Env} {s : State} {m : MethodId} {args : Array Value} {below : List Frame} {meth : Method} {c : Code} {g : GG}  {Q : Int32 → AH → Prop} {X : String → AH → Prop}  (C : CXT p l s m args meth c RX11 cX11_story 2 g) (hr : meth.sig.returnType = (some .int)) (htb : ∀ x ∈ c.exceptionTable.toList, False)  : ∀ (v0 : Nat) (v1 : Int32) (h : AH), w_X11_story_24  v0 v1 h Q X → V p l e s m args below meth c g 46 5 448 2 0 0 (vx_MQ below (QCx g (QI Q)) (XCx g X) args s 5 448 (gA g)) 24 [(0, .ref v0), (1, .int v1)] [] h := by
  intro v0 v1 h hw
  refine v_iconst (v := 0) C dX11_story_24 (by decide) ?_
  exact s_X11_story_25 C hr htb  _ _ _ _ hw
set_option maxRecDepth 100000 in
set_option maxHeartbeats 4000000 in
theorem s_X11_story {l : Launch}  {v0 : Nat} {v1 : Int32} {h : AH} {Q : Int32 → AH → Prop} {X : String → AH → Prop}  (hw : w_X11_story  v0 v1 h Q X) : CX l yX11_story cX11_story 2 (some .int) 46 5 448 [.ref v0, .int v1] h (QI Q) X := by
  refine CX.of (by decide) ⟨rfl, ⟨rfl, trivial⟩⟩ (Nat.le_of_ble_eq_true rfl) ?_
  intro p e s m args below meth c g C hr htb
  refine v_eq (pc' := 0) (ls' := [(0, .ref v0), (1, .int v1)]) rfl rfl rfl rfl ?_
  refine v_aload_n C dX11_story_0 0 rfl rfl ?_
  refine w_getN C fl_X11_10 dX11_story_1 rfl hw (fun a1 hw => ?_)
  refine w_callVi (st := []) C cl_X11_344 im_X6_readsStory se_X6_readsStory rfl hw.1 (s_X6_readsStory hw.2) rfl dX11_story_4 rfl (by decide) (by decide) (by decide) (by decide) (by decide) (fun x2 h hw => ?_)
  refine v_if_eq (tgt := 24) C dX11_story_7 (by decide) (fun c_7 => ?_) (fun c_7 => ?_)
  · have hw := hw.1 c_7
    exact s_X11_story_24 C hr htb  _ _ _ hw
  · have hw := hw.2 c_7
    refine v_iload_n C dX11_story_10 1 rfl rfl ?_
    refine v_iconst (v := 1) C dX11_story_11 (by decide) ?_
    refine v_bipush (v := 99) C dX11_story_12 (by decide) ?_
    refine w_callSi (st := []) C cl_X11_54 st_X11_isWithin (s_X11_isWithin hw) rfl dX11_story_14 rfl (by decide) (by decide) (by decide) (by decide) (by decide) (fun x3 h hw => ?_)
    refine v_if_eq (tgt := 24) C dX11_story_17 (by decide) (fun c_17 => ?_) (fun c_17 => ?_)
    · have hw := hw.1 c_17
      exact s_X11_story_24 C hr htb  _ _ _ hw
    · have hw := hw.2 c_17
      refine v_iconst (v := 1) C dX11_story_20 (by decide) ?_
      refine v_goto (tgt := 25) C dX11_story_21 (by decide) ?_
      exact s_X11_story_25 C hr htb  _ _ _ _ hw
-- GrassField.talked(II)Z
theorem dX11_talked_0 : decode cX11_talked 0 = .ok (.iload_n 1, 1) := by decide +kernel
theorem dX11_talked_1 : decode cX11_talked 1 = .ok (.aload_n 0, 1) := by decide +kernel
theorem dX11_talked_2 : decode cX11_talked 2 = .ok (.getfield 19, 3) := by decide +kernel
theorem dX11_talked_5 : decode cX11_talked 5 = .ok (.getfield 304, 3) := by decide +kernel
theorem dX11_talked_8 : decode cX11_talked 8 = .ok (.getfield 308, 3) := by decide +kernel
theorem dX11_talked_11 : decode cX11_talked 11 = .ok (.invokestatic 119, 3) := by decide +kernel
theorem dX11_talked_14 : decode cX11_talked 14 = .ok (.iload_n 2, 1) := by decide +kernel
theorem dX11_talked_15 : decode cX11_talked 15 = .ok (.aload_n 0, 1) := by decide +kernel
theorem dX11_talked_16 : decode cX11_talked 16 = .ok (.getfield 19, 3) := by decide +kernel
theorem dX11_talked_19 : decode cX11_talked 19 = .ok (.getfield 304, 3) := by decide +kernel
theorem dX11_talked_22 : decode cX11_talked 22 = .ok (.getfield 308, 3) := by decide +kernel
theorem dX11_talked_25 : decode cX11_talked 25 = .ok (.invokestatic 119, 3) := by decide +kernel
theorem dX11_talked_28 : decode cX11_talked 28 = .ok (.aload_n 0, 1) := by decide +kernel
theorem dX11_talked_29 : decode cX11_talked 29 = .ok (.getfield 19, 3) := by decide +kernel
theorem dX11_talked_32 : decode cX11_talked 32 = .ok (.getfield 304, 3) := by decide +kernel
theorem dX11_talked_35 : decode cX11_talked 35 = .ok (.iload_n 1, 1) := by decide +kernel
theorem dX11_talked_36 : decode cX11_talked 36 = .ok (.iload_n 2, 1) := by decide +kernel
theorem dX11_talked_37 : decode cX11_talked 37 = .ok (.invokevirtual 325, 3) := by decide +kernel
theorem dX11_talked_40 : decode cX11_talked 40 = .ok (.ireturn, 1) := by decide +kernel
def w_X11_talked  (v0 : Nat) (v1 : Int32) (v2 : Int32) (h : AH) (Q : Int32 → AH → Prop) (X : String → AH → Prop) : Prop :=
  fN h v0 11 1 fun a1 =>
  fN h a1 7 4 fun a2 =>
  fI h a2 9 0 fun x3 =>
  w_X11_needNumber v1 x3 h (fun h =>
  fN h v0 11 1 fun a4 =>
  fN h a4 7 4 fun a5 =>
  fI h a5 9 0 fun x6 =>
  w_X11_needNumber v2 x6 h (fun h =>
  fN h v0 11 1 fun a7 =>
  fN h a7 7 4 fun a8 =>
  vr h a8 9 (
  w_X9_mayHaveTalked a8 v1 v2 h (fun x9 h =>
  z1 x9 (Q x9 h)))) X) X
set_option maxRecDepth 100000 in
set_option maxHeartbeats 4000000 in
theorem s_X11_talked {l : Launch}  {v0 : Nat} {v1 : Int32} {v2 : Int32} {h : AH} {Q : Int32 → AH → Prop} {X : String → AH → Prop}  (hw : w_X11_talked  v0 v1 v2 h Q X) : CX l yX11_talked cX11_talked 3 (some .boolean) 7 2 12 [.ref v0, .int v1, .int v2] h (QI Q) X := by
  refine CX.of (by decide) ⟨rfl, ⟨rfl, ⟨rfl, trivial⟩⟩⟩ (Nat.le_of_ble_eq_true rfl) ?_
  intro p e s m args below meth c g C hr htb
  refine v_eq (pc' := 0) (ls' := [(0, .ref v0), (1, .int v1), (2, .int v2)]) rfl rfl rfl rfl ?_
  refine v_iload_n C dX11_talked_0 1 rfl rfl ?_
  refine v_aload_n C dX11_talked_1 0 rfl rfl ?_
  refine w_getN C fl_X11_19 dX11_talked_2 rfl hw (fun a1 hw => ?_)
  refine w_getN C fl_X11_304 dX11_talked_5 rfl hw (fun a2 hw => ?_)
  refine w_getI C fl_X11_308 dX11_talked_8 rfl hw (fun x3 hw => ?_)
  refine w_callXSv (st := []) C cl_X11_119 lk_X11_119 st_X11_needNumber (s_X11_needNumber hw) rfl dX11_talked_11 rfl (by decide) (by decide) (by decide) (by decide) (by decide) (fun E h hx => tx_out C htb _ _ _ _ _ _ _ _ _ (by decide) (by decide) hx) (fun h hw => ?_)
  refine v_iload_n C dX11_talked_14 2 rfl rfl ?_
  refine v_aload_n C dX11_talked_15 0 rfl rfl ?_
  refine w_getN C fl_X11_19 dX11_talked_16 rfl hw (fun a4 hw => ?_)
  refine w_getN C fl_X11_304 dX11_talked_19 rfl hw (fun a5 hw => ?_)
  refine w_getI C fl_X11_308 dX11_talked_22 rfl hw (fun x6 hw => ?_)
  refine w_callXSv (st := []) C cl_X11_119 lk_X11_119 st_X11_needNumber (s_X11_needNumber hw) rfl dX11_talked_25 rfl (by decide) (by decide) (by decide) (by decide) (by decide) (fun E h hx => tx_out C htb _ _ _ _ _ _ _ _ _ (by decide) (by decide) hx) (fun h hw => ?_)
  refine v_aload_n C dX11_talked_28 0 rfl rfl ?_
  refine w_getN C fl_X11_19 dX11_talked_29 rfl hw (fun a7 hw => ?_)
  refine w_getN C fl_X11_304 dX11_talked_32 rfl hw (fun a8 hw => ?_)
  refine v_iload_n C dX11_talked_35 1 rfl rfl ?_
  refine v_iload_n C dX11_talked_36 2 rfl rfl ?_
  refine w_callVi (st := []) C cl_X11_325 im_X9_mayHaveTalked se_X9_mayHaveTalked rfl hw.1 (s_X9_mayHaveTalked hw.2) rfl dX11_talked_37 rfl (by decide) (by decide) (by decide) (by decide) (by decide) (fun x9 h hw => ?_)
  exact (rt_VX C _ _).2.1 _ _ _ _ _ _ _ hr (by rcases hw.1 with z | z <;> rw [z] <;> rfl) dX11_talked_40 (by decide) (by decide) ⟨_, rfl, hw.2⟩
-- GrassField.teller(IIII)I
theorem dX11_teller_0 : decode cX11_teller 0 = .ok (.iload_n 1, 1) := by decide +kernel
theorem dX11_teller_1 : decode cX11_teller 1 = .ok (.invokestatic 51, 3) := by decide +kernel
theorem dX11_teller_4 : decode cX11_teller 4 = .ok (.iload_n 2, 1) := by decide +kernel
theorem dX11_teller_5 : decode cX11_teller 5 = .ok (.iload_n 3, 1) := by decide +kernel
theorem dX11_teller_6 : decode cX11_teller 6 = .ok (.invokestatic 217, 3) := by decide +kernel
theorem dX11_teller_9 : decode cX11_teller 9 = .ok (.ifCond .eq 18, 3) := by decide +kernel
theorem dX11_teller_12 : decode cX11_teller 12 = .ok (.iload 4, 2) := by decide +kernel
theorem dX11_teller_14 : decode cX11_teller 14 = .ok (.iconst 0, 1) := by decide +kernel
theorem dX11_teller_15 : decode cX11_teller 15 = .ok (.bipush 9, 2) := by decide +kernel
theorem dX11_teller_17 : decode cX11_teller 17 = .ok (.invokestatic 54, 3) := by decide +kernel
theorem dX11_teller_20 : decode cX11_teller 20 = .ok (.ifCond .eq 7, 3) := by decide +kernel
theorem dX11_teller_23 : decode cX11_teller 23 = .ok (.iconst 1, 1) := by decide +kernel
theorem dX11_teller_24 : decode cX11_teller 24 = .ok (.goto 4, 3) := by decide +kernel
theorem dX11_teller_27 : decode cX11_teller 27 = .ok (.iconst 0, 1) := by decide +kernel
theorem dX11_teller_28 : decode cX11_teller 28 = .ok (.invokestatic 58, 3) := by decide +kernel
theorem dX11_teller_31 : decode cX11_teller 31 = .ok (.aload_n 0, 1) := by decide +kernel
theorem dX11_teller_32 : decode cX11_teller 32 = .ok (.getfield 19, 3) := by decide +kernel
theorem dX11_teller_35 : decode cX11_teller 35 = .ok (.getfield 304, 3) := by decide +kernel
theorem dX11_teller_38 : decode cX11_teller 38 = .ok (.getfield 308, 3) := by decide +kernel
theorem dX11_teller_41 : decode cX11_teller 41 = .ok (.bipush 8, 2) := by decide +kernel
theorem dX11_teller_43 : decode cX11_teller 43 = .ok (.invokestatic 91, 3) := by decide +kernel
theorem dX11_teller_46 : decode cX11_teller 46 = .ok (.aload_n 0, 1) := by decide +kernel
theorem dX11_teller_47 : decode cX11_teller 47 = .ok (.getfield 19, 3) := by decide +kernel
theorem dX11_teller_50 : decode cX11_teller 50 = .ok (.getfield 304, 3) := by decide +kernel
theorem dX11_teller_53 : decode cX11_teller 53 = .ok (.iload_n 1, 1) := by decide +kernel
theorem dX11_teller_54 : decode cX11_teller 54 = .ok (.iload_n 2, 1) := by decide +kernel
theorem dX11_teller_55 : decode cX11_teller 55 = .ok (.iload_n 3, 1) := by decide +kernel
theorem dX11_teller_56 : decode cX11_teller 56 = .ok (.iload 4, 2) := by decide +kernel
theorem dX11_teller_58 : decode cX11_teller 58 = .ok (.invokevirtual 311, 3) := by decide +kernel
theorem dX11_teller_61 : decode cX11_teller 61 = .ok (.ireturn, 1) := by decide +kernel
def w_X11_teller_28  (v0 : Nat) (v1 : Int32) (v2 : Int32) (v3 : Int32) (v4 : Int32) (t0 : Int32) (h : AH) (Q : Int32 → AH → Prop) (X : String → AH → Prop) : Prop :=
  w_X11_need t0 h (fun h =>
  fN h v0 11 1 fun a1 =>
  fN h a1 7 4 fun a2 =>
  fI h a2 9 0 fun x3 =>
  w_X11_needRoom x3 (8 : Int32) h (fun h =>
  fN h v0 11 1 fun a4 =>
  fN h a4 7 4 fun a5 =>
  vr h a5 9 (
  w_X9_add a5 v1 v2 v3 v4 h (fun x6 h =>
  Q x6 h))) X) X
def w_X11_teller_27  (v0 : Nat) (v1 : Int32) (v2 : Int32) (v3 : Int32) (v4 : Int32) (h : AH) (Q : Int32 → AH → Prop) (X : String → AH → Prop) : Prop :=
  w_X11_teller_28 v0 v1 v2 v3 v4 (0 : Int32) h Q X
def w_X11_teller  (v0 : Nat) (v1 : Int32) (v2 : Int32) (v3 : Int32) (v4 : Int32) (h : AH) (Q : Int32 → AH → Prop) (X : String → AH → Prop) : Prop :=
  w_X11_needCell v1 h (fun h =>
  w_X11_areMinutes v2 v3 h (fun x1 h =>
  br (x1 = 0) (
    w_X11_teller_27 v0 v1 v2 v3 v4 h Q X) (
    w_X11_isWithin v4 (0 : Int32) (9 : Int32) h (fun x2 h =>
    br (x2 = 0) (
      w_X11_teller_27 v0 v1 v2 v3 v4 h Q X) (
      w_X11_teller_28 v0 v1 v2 v3 v4 (1 : Int32) h Q X))))) X
set_option maxRecDepth 100000 in
set_option maxHeartbeats 4000000 in
theorem s_X11_teller_28 {p : Program} {l : Launch} {e : Env} {s : State} {m : MethodId} {args : Array Value} {below : List Frame} {meth : Method} {c : Code} {g : GG}  {Q : Int32 → AH → Prop} {X : String → AH → Prop}  (C : CXT p l s m args meth c RX11 cX11_teller 5 g) (hr : meth.sig.returnType = (some .int)) (htb : ∀ x ∈ c.exceptionTable.toList, False)  : ∀ (v0 : Nat) (v1 : Int32) (v2 : Int32) (v3 : Int32) (v4 : Int32) (t0 : Int32) (h : AH), w_X11_teller_28  v0 v1 v2 v3 v4 t0 h Q X → V p l e s m args below meth c g 8 3 18 5 1 6 (vx_MQ below (QCx g (QI Q)) (XCx g X) args s 3 18 (gA g)) 28 [(0, .ref v0), (1, .int v1), (2, .int v2), (3, .int v3), (4, .int v4)] [.int t0] h := by
  intro v0 v1 v2 v3 v4 t0 h hw
  refine w_callXSv (st := []) C cl_X11_58 lk_X11_58 st_X11_need (s_X11_need hw) rfl dX11_teller_28 rfl (by decide) (by decide) (by decide) (by decide) (by decide) (fun E h hx => tx_out C htb _ _ _ _ _ _ _ _ _ (by decide) (by decide) hx) (fun h hw => ?_)
  refine v_aload_n C dX11_teller_31 0 rfl rfl ?_
  refine w_getN C fl_X11_19 dX11_teller_32 rfl hw (fun a1 hw => ?_)
  refine w_getN C fl_X11_304 dX11_teller_35 rfl hw (fun a2 hw => ?_)
  refine w_getI C fl_X11_308 dX11_teller_38 rfl hw (fun x3 hw => ?_)
  refine v_bipush (v := 8) C dX11_teller_41 (by decide) ?_
  refine w_callXSv (st := []) C cl_X11_91 lk_X11_91 st_X11_needRoom (s_X11_needRoom hw) rfl dX11_teller_43 rfl (by decide) (by decide) (by decide) (by decide) (by decide) (fun E h hx => tx_out C htb _ _ _ _ _ _ _ _ _ (by decide) (by decide) hx) (fun h hw => ?_)
  refine v_aload_n C dX11_teller_46 0 rfl rfl ?_
  refine w_getN C fl_X11_19 dX11_teller_47 rfl hw (fun a4 hw => ?_)
  refine w_getN C fl_X11_304 dX11_teller_50 rfl hw (fun a5 hw => ?_)
  refine v_iload_n C dX11_teller_53 1 rfl rfl ?_
  refine v_iload_n C dX11_teller_54 2 rfl rfl ?_
  refine v_iload_n C dX11_teller_55 3 rfl rfl ?_
  refine v_iload C dX11_teller_56 4 rfl ?_
  refine w_callVi (st := []) C cl_X11_311 im_X9_add se_X9_add rfl hw.1 (s_X9_add hw.2) rfl dX11_teller_58 rfl (by decide) (by decide) (by decide) (by decide) (by decide) (fun x6 h hw => ?_)
  exact (rt_VX C _ _).1 _ _ _ _ _ _ hr dX11_teller_61 (by decide) (by decide) ⟨_, rfl, hw⟩
set_option maxRecDepth 100000 in
set_option maxHeartbeats 4000000 in
theorem s_X11_teller_27 {p : Program} {l : Launch} {e : Env} {s : State} {m : MethodId} {args : Array Value} {below : List Frame} {meth : Method} {c : Code} {g : GG}  {Q : Int32 → AH → Prop} {X : String → AH → Prop}  (C : CXT p l s m args meth c RX11 cX11_teller 5 g) (hr : meth.sig.returnType = (some .int)) (htb : ∀ x ∈ c.exceptionTable.toList, False)  : ∀ (v0 : Nat) (v1 : Int32) (v2 : Int32) (v3 : Int32) (v4 : Int32) (h : AH), w_X11_teller_27  v0 v1 v2 v3 v4 h Q X → V p l e s m args below meth c g 8 3 18 5 1 6 (vx_MQ below (QCx g (QI Q)) (XCx g X) args s 3 18 (gA g)) 27 [(0, .ref v0), (1, .int v1), (2, .int v2), (3, .int v3), (4, .int v4)] [] h := by
  intro v0 v1 v2 v3 v4 h hw
  refine v_iconst (v := 0) C dX11_teller_27 (by decide) ?_
  exact s_X11_teller_28 C hr htb  _ _ _ _ _ _ _ hw
set_option maxRecDepth 100000 in
set_option maxHeartbeats 4000000 in
theorem s_X11_teller {l : Launch}  {v0 : Nat} {v1 : Int32} {v2 : Int32} {v3 : Int32} {v4 : Int32} {h : AH} {Q : Int32 → AH → Prop} {X : String → AH → Prop}  (hw : w_X11_teller  v0 v1 v2 v3 v4 h Q X) : CX l yX11_teller cX11_teller 5 (some .int) 8 3 18 [.ref v0, .int v1, .int v2, .int v3, .int v4] h (QI Q) X := by
  refine CX.of (by decide) ⟨rfl, ⟨rfl, ⟨rfl, ⟨rfl, ⟨rfl, trivial⟩⟩⟩⟩⟩ (Nat.le_of_ble_eq_true rfl) ?_
  intro p e s m args below meth c g C hr htb
  refine v_eq (pc' := 0) (ls' := [(0, .ref v0), (1, .int v1), (2, .int v2), (3, .int v3), (4, .int v4)]) rfl rfl rfl rfl ?_
  refine v_iload_n C dX11_teller_0 1 rfl rfl ?_
  refine w_callXSv (st := []) C cl_X11_51 lk_X11_51 st_X11_needCell (s_X11_needCell hw) rfl dX11_teller_1 rfl (by decide) (by decide) (by decide) (by decide) (by decide) (fun E h hx => tx_out C htb _ _ _ _ _ _ _ _ _ (by decide) (by decide) hx) (fun h hw => ?_)
  refine v_iload_n C dX11_teller_4 2 rfl rfl ?_
  refine v_iload_n C dX11_teller_5 3 rfl rfl ?_
  refine w_callSi (st := []) C cl_X11_217 st_X11_areMinutes (s_X11_areMinutes hw) rfl dX11_teller_6 rfl (by decide) (by decide) (by decide) (by decide) (by decide) (fun x1 h hw => ?_)
  refine v_if_eq (tgt := 27) C dX11_teller_9 (by decide) (fun c_9 => ?_) (fun c_9 => ?_)
  · have hw := hw.1 c_9
    exact s_X11_teller_27 C hr htb  _ _ _ _ _ _ hw
  · have hw := hw.2 c_9
    refine v_iload C dX11_teller_12 4 rfl ?_
    refine v_iconst (v := 0) C dX11_teller_14 (by decide) ?_
    refine v_bipush (v := 9) C dX11_teller_15 (by decide) ?_
    refine w_callSi (st := []) C cl_X11_54 st_X11_isWithin (s_X11_isWithin hw) rfl dX11_teller_17 rfl (by decide) (by decide) (by decide) (by decide) (by decide) (fun x2 h hw => ?_)
    refine v_if_eq (tgt := 27) C dX11_teller_20 (by decide) (fun c_20 => ?_) (fun c_20 => ?_)
    · have hw := hw.1 c_20
      exact s_X11_teller_27 C hr htb  _ _ _ _ _ _ hw
    · have hw := hw.2 c_20
      refine v_iconst (v := 1) C dX11_teller_23 (by decide) ?_
      refine v_goto (tgt := 28) C dX11_teller_24 (by decide) ?_
      exact s_X11_teller_28 C hr htb  _ _ _ _ _ _ _ hw
-- GrassField.tells(III)I
theorem dX11_tells_0 : decode cX11_tells 0 = .ok (.iload_n 1, 1) := by decide +kernel
theorem dX11_tells_1 : decode cX11_tells 1 = .ok (.aload_n 0, 1) := by decide +kernel
theorem dX11_tells_2 : decode cX11_tells 2 = .ok (.getfield 19, 3) := by decide +kernel
theorem dX11_tells_5 : decode cX11_tells 5 = .ok (.getfield 304, 3) := by decide +kernel
theorem dX11_tells_8 : decode cX11_tells 8 = .ok (.getfield 308, 3) := by decide +kernel
theorem dX11_tells_11 : decode cX11_tells 11 = .ok (.invokestatic 119, 3) := by decide +kernel
theorem dX11_tells_14 : decode cX11_tells 14 = .ok (.iload_n 2, 1) := by decide +kernel
theorem dX11_tells_15 : decode cX11_tells 15 = .ok (.invokestatic 51, 3) := by decide +kernel
theorem dX11_tells_18 : decode cX11_tells 18 = .ok (.iload_n 3, 1) := by decide +kernel
theorem dX11_tells_19 : decode cX11_tells 19 = .ok (.iconst 0, 1) := by decide +kernel
theorem dX11_tells_20 : decode cX11_tells 20 = .ok (.sipush 239, 3) := by decide +kernel
theorem dX11_tells_23 : decode cX11_tells 23 = .ok (.invokestatic 54, 3) := by decide +kernel
theorem dX11_tells_26 : decode cX11_tells 26 = .ok (.invokestatic 58, 3) := by decide +kernel
theorem dX11_tells_29 : decode cX11_tells 29 = .ok (.aload_n 0, 1) := by decide +kernel
theorem dX11_tells_30 : decode cX11_tells 30 = .ok (.getfield 19, 3) := by decide +kernel
theorem dX11_tells_33 : decode cX11_tells 33 = .ok (.getfield 304, 3) := by decide +kernel
theorem dX11_tells_36 : decode cX11_tells 36 = .ok (.getfield 312, 3) := by decide +kernel
theorem dX11_tells_39 : decode cX11_tells 39 = .ok (.bipush 20, 2) := by decide +kernel
theorem dX11_tells_41 : decode cX11_tells 41 = .ok (.invokestatic 91, 3) := by decide +kernel
theorem dX11_tells_44 : decode cX11_tells 44 = .ok (.aload_n 0, 1) := by decide +kernel
theorem dX11_tells_45 : decode cX11_tells 45 = .ok (.getfield 19, 3) := by decide +kernel
theorem dX11_tells_48 : decode cX11_tells 48 = .ok (.getfield 304, 3) := by decide +kernel
theorem dX11_tells_51 : decode cX11_tells 51 = .ok (.iload_n 1, 1) := by decide +kernel
theorem dX11_tells_52 : decode cX11_tells 52 = .ok (.iload_n 2, 1) := by decide +kernel
theorem dX11_tells_53 : decode cX11_tells 53 = .ok (.iload_n 3, 1) := by decide +kernel
theorem dX11_tells_54 : decode cX11_tells 54 = .ok (.invokevirtual 315, 3) := by decide +kernel
theorem dX11_tells_57 : decode cX11_tells 57 = .ok (.ireturn, 1) := by decide +kernel
def w_X11_tells  (v0 : Nat) (v1 : Int32) (v2 : Int32) (v3 : Int32) (h : AH) (Q : Int32 → AH → Prop) (X : String → AH → Prop) : Prop :=
  fN h v0 11 1 fun a1 =>
  fN h a1 7 4 fun a2 =>
  fI h a2 9 0 fun x3 =>
  w_X11_needNumber v1 x3 h (fun h =>
  w_X11_needCell v2 h (fun h =>
  w_X11_isWithin v3 (0 : Int32) (239 : Int32) h (fun x4 h =>
  w_X11_need x4 h (fun h =>
  fN h v0 11 1 fun a5 =>
  fN h a5 7 4 fun a6 =>
  fI h a6 9 5 fun x7 =>
  w_X11_needRoom x7 (20 : Int32) h (fun h =>
  fN h v0 11 1 fun a8 =>
  fN h a8 7 4 fun a9 =>
  vr h a9 9 (
  w_X9_addTelling a9 v1 v2 v3 h (fun x10 h =>
  Q x10 h))) X) X)) X) X
set_option maxRecDepth 100000 in
set_option maxHeartbeats 4000000 in
theorem s_X11_tells {l : Launch}  {v0 : Nat} {v1 : Int32} {v2 : Int32} {v3 : Int32} {h : AH} {Q : Int32 → AH → Prop} {X : String → AH → Prop}  (hw : w_X11_tells  v0 v1 v2 v3 h Q X) : CX l yX11_tells cX11_tells 4 (some .int) 8 4 24 [.ref v0, .int v1, .int v2, .int v3] h (QI Q) X := by
  refine CX.of (by decide) ⟨rfl, ⟨rfl, ⟨rfl, ⟨rfl, trivial⟩⟩⟩⟩ (Nat.le_of_ble_eq_true rfl) ?_
  intro p e s m args below meth c g C hr htb
  refine v_eq (pc' := 0) (ls' := [(0, .ref v0), (1, .int v1), (2, .int v2), (3, .int v3)]) rfl rfl rfl rfl ?_
  refine v_iload_n C dX11_tells_0 1 rfl rfl ?_
  refine v_aload_n C dX11_tells_1 0 rfl rfl ?_
  refine w_getN C fl_X11_19 dX11_tells_2 rfl hw (fun a1 hw => ?_)
  refine w_getN C fl_X11_304 dX11_tells_5 rfl hw (fun a2 hw => ?_)
  refine w_getI C fl_X11_308 dX11_tells_8 rfl hw (fun x3 hw => ?_)
  refine w_callXSv (st := []) C cl_X11_119 lk_X11_119 st_X11_needNumber (s_X11_needNumber hw) rfl dX11_tells_11 rfl (by decide) (by decide) (by decide) (by decide) (by decide) (fun E h hx => tx_out C htb _ _ _ _ _ _ _ _ _ (by decide) (by decide) hx) (fun h hw => ?_)
  refine v_iload_n C dX11_tells_14 2 rfl rfl ?_
  refine w_callXSv (st := []) C cl_X11_51 lk_X11_51 st_X11_needCell (s_X11_needCell hw) rfl dX11_tells_15 rfl (by decide) (by decide) (by decide) (by decide) (by decide) (fun E h hx => tx_out C htb _ _ _ _ _ _ _ _ _ (by decide) (by decide) hx) (fun h hw => ?_)
  refine v_iload_n C dX11_tells_18 3 rfl rfl ?_
  refine v_iconst (v := 0) C dX11_tells_19 (by decide) ?_
  refine v_sipush (v := 239) C dX11_tells_20 (by decide) ?_
  refine w_callSi (st := []) C cl_X11_54 st_X11_isWithin (s_X11_isWithin hw) rfl dX11_tells_23 rfl (by decide) (by decide) (by decide) (by decide) (by decide) (fun x4 h hw => ?_)
  refine w_callXSv (st := []) C cl_X11_58 lk_X11_58 st_X11_need (s_X11_need hw) rfl dX11_tells_26 rfl (by decide) (by decide) (by decide) (by decide) (by decide) (fun E h hx => tx_out C htb _ _ _ _ _ _ _ _ _ (by decide) (by decide) hx) (fun h hw => ?_)
  refine v_aload_n C dX11_tells_29 0 rfl rfl ?_
  refine w_getN C fl_X11_19 dX11_tells_30 rfl hw (fun a5 hw => ?_)
  refine w_getN C fl_X11_304 dX11_tells_33 rfl hw (fun a6 hw => ?_)
  refine w_getI C fl_X11_312 dX11_tells_36 rfl hw (fun x7 hw => ?_)
  refine v_bipush (v := 20) C dX11_tells_39 (by decide) ?_
  refine w_callXSv (st := []) C cl_X11_91 lk_X11_91 st_X11_needRoom (s_X11_needRoom hw) rfl dX11_tells_41 rfl (by decide) (by decide) (by decide) (by decide) (by decide) (fun E h hx => tx_out C htb _ _ _ _ _ _ _ _ _ (by decide) (by decide) hx) (fun h hw => ?_)
  refine v_aload_n C dX11_tells_44 0 rfl rfl ?_
  refine w_getN C fl_X11_19 dX11_tells_45 rfl hw (fun a8 hw => ?_)
  refine w_getN C fl_X11_304 dX11_tells_48 rfl hw (fun a9 hw => ?_)
  refine v_iload_n C dX11_tells_51 1 rfl rfl ?_
  refine v_iload_n C dX11_tells_52 2 rfl rfl ?_
  refine v_iload_n C dX11_tells_53 3 rfl rfl ?_
  refine w_callVi (st := []) C cl_X11_315 im_X9_addTelling se_X9_addTelling rfl hw.1 (s_X9_addTelling hw.2) rfl dX11_tells_54 rfl (by decide) (by decide) (by decide) (by decide) (by decide) (fun x10 h hw => ?_)
  exact (rt_VX C _ _).1 _ _ _ _ _ _ hr dX11_tells_57 (by decide) (by decide) ⟨_, rfl, hw⟩
-- GrassField.walk(I)I
theorem dX11_walk_0 : decode cX11_walk 0 = .ok (.iload_n 1, 1) := by decide +kernel
theorem dX11_walk_1 : decode cX11_walk 1 = .ok (.bipush 16, 2) := by decide +kernel
theorem dX11_walk_3 : decode cX11_walk 3 = .ok (.invokestatic 119, 3) := by decide +kernel
theorem dX11_walk_6 : decode cX11_walk 6 = .ok (.aload_n 0, 1) := by decide +kernel
theorem dX11_walk_7 : decode cX11_walk 7 = .ok (.getfield 19, 3) := by decide +kernel
theorem dX11_walk_10 : decode cX11_walk 10 = .ok (.getfield 178, 3) := by decide +kernel
theorem dX11_walk_13 : decode cX11_walk 13 = .ok (.invokevirtual 226, 3) := by decide +kernel
theorem dX11_walk_16 : decode cX11_walk 16 = .ok (.istore_n 2, 1) := by decide +kernel
theorem dX11_walk_17 : decode cX11_walk 17 = .ok (.aload_n 0, 1) := by decide +kernel
theorem dX11_walk_18 : decode cX11_walk 18 = .ok (.getfield 19, 3) := by decide +kernel
theorem dX11_walk_21 : decode cX11_walk 21 = .ok (.getfield 178, 3) := by decide +kernel
theorem dX11_walk_24 : decode cX11_walk 24 = .ok (.dup, 1) := by decide +kernel
theorem dX11_walk_25 : decode cX11_walk 25 = .ok (.getfield 229, 3) := by decide +kernel
theorem dX11_walk_28 : decode cX11_walk 28 = .ok (.iconst 1, 1) := by decide +kernel
theorem dX11_walk_29 : decode cX11_walk 29 = .ok (.iload_n 1, 1) := by decide +kernel
theorem dX11_walk_30 : decode cX11_walk 30 = .ok (.ishl, 1) := by decide +kernel
theorem dX11_walk_31 : decode cX11_walk 31 = .ok (.ior, 1) := by decide +kernel
theorem dX11_walk_32 : decode cX11_walk 32 = .ok (.putfield 229, 3) := by decide +kernel
theorem dX11_walk_35 : decode cX11_walk 35 = .ok (.aload_n 0, 1) := by decide +kernel
theorem dX11_walk_36 : decode cX11_walk 36 = .ok (.getfield 19, 3) := by decide +kernel
theorem dX11_walk_39 : decode cX11_walk 39 = .ok (.getfield 178, 3) := by decide +kernel
theorem dX11_walk_42 : decode cX11_walk 42 = .ok (.invokevirtual 226, 3) := by decide +kernel
theorem dX11_walk_45 : decode cX11_walk 45 = .ok (.iload_n 2, 1) := by decide +kernel
theorem dX11_walk_46 : decode cX11_walk 46 = .ok (.isub, 1) := by decide +kernel
theorem dX11_walk_47 : decode cX11_walk 47 = .ok (.ireturn, 1) := by decide +kernel
def w_X11_walk  (v0 : Nat) (v1 : Int32) (h : AH) (Q : Int32 → AH → Prop) (X : String → AH → Prop) : Prop :=
  w_X11_needNumber v1 (16 : Int32) h (fun h =>
  fN h v0 11 1 fun a1 =>
  fN h a1 7 3 fun a2 =>
  vr h a2 1 (
  w_X1_seenCount a2 h (fun x3 h =>
  fN h v0 11 1 fun a4 =>
  fN h a4 7 3 fun a5 =>
  fI h a5 1 9 fun x6 =>
  uI h a5 1 9 (x6 ||| ((1 : Int32) <<< (v1 &&& 31))) fun h =>
  fN h v0 11 1 fun a7 =>
  fN h a7 7 3 fun a8 =>
  vr h a8 1 (
  w_X1_seenCount a8 h (fun x9 h =>
  Q (x9 - x3) h))))) X
set_option maxRecDepth 100000 in
set_option maxHeartbeats 4000000 in
theorem s_X11_walk {l : Launch}  {v0 : Nat} {v1 : Int32} {h : AH} {Q : Int32 → AH → Prop} {X : String → AH → Prop}  (hw : w_X11_walk  v0 v1 h Q X) : CX l yX11_walk cX11_walk 3 (some .int) 7 1 6 [.ref v0, .int v1] h (QI Q) X := by
  refine CX.of (by decide) ⟨rfl, ⟨rfl, trivial⟩⟩ (Nat.le_of_ble_eq_true rfl) ?_
  intro p e s m args below meth c g C hr htb
  refine v_eq (pc' := 0) (ls' := [(0, .ref v0), (1, .int v1)]) rfl rfl rfl rfl ?_
  refine v_iload_n C dX11_walk_0 1 rfl rfl ?_
  refine v_bipush (v := 16) C dX11_walk_1 (by decide) ?_
  refine w_callXSv (st := []) C cl_X11_119 lk_X11_119 st_X11_needNumber (s_X11_needNumber hw) rfl dX11_walk_3 rfl (by decide) (by decide) (by decide) (by decide) (by decide) (fun E h hx => tx_out C htb _ _ _ _ _ _ _ _ _ (by decide) (by decide) hx) (fun h hw => ?_)
  refine v_aload_n C dX11_walk_6 0 rfl rfl ?_
  refine w_getN C fl_X11_19 dX11_walk_7 rfl hw (fun a1 hw => ?_)
  refine w_getN C fl_X11_178 dX11_walk_10 rfl hw (fun a2 hw => ?_)
  refine w_callVi (st := []) C cl_X11_226 im_X1_seenCount se_X1_seenCount rfl hw.1 (s_X1_seenCount hw.2) rfl dX11_walk_13 rfl (by decide) (by decide) (by decide) (by decide) (by decide) (fun x3 h hw => ?_)
  refine v_istore_n (ls' := [(2, .int x3), (0, .ref v0), (1, .int v1)]) C dX11_walk_16 rfl (by decide) rfl ?_
  refine v_aload_n C dX11_walk_17 1 rfl rfl ?_
  refine w_getN C fl_X11_19 dX11_walk_18 rfl hw (fun a4 hw => ?_)
  refine w_getN C fl_X11_178 dX11_walk_21 rfl hw (fun a5 hw => ?_)
  refine v_dup C dX11_walk_24 rfl ?_
  refine w_getI C fl_X11_229 dX11_walk_25 rfl hw (fun x6 hw => ?_)
  refine v_iconst (v := 1) C dX11_walk_28 (by decide) ?_
  refine v_iload_n C dX11_walk_29 2 rfl rfl ?_
  refine v_ishl C dX11_walk_30 ?_
  refine v_ior C dX11_walk_31 ?_
  refine w_putI C fp_X11_229 (Or.inl rfl) dX11_walk_32 hw (fun h hw => ?_)
  refine v_aload_n C dX11_walk_35 1 rfl rfl ?_
  refine w_getN C fl_X11_19 dX11_walk_36 rfl hw (fun a7 hw => ?_)
  refine w_getN C fl_X11_178 dX11_walk_39 rfl hw (fun a8 hw => ?_)
  refine w_callVi (st := []) C cl_X11_226 im_X1_seenCount se_X1_seenCount rfl hw.1 (s_X1_seenCount hw.2) rfl dX11_walk_42 rfl (by decide) (by decide) (by decide) (by decide) (by decide) (fun x9 h hw => ?_)
  refine v_iload_n C dX11_walk_45 0 rfl rfl ?_
  refine v_isub C dX11_walk_46 ?_
  exact (rt_VX C _ _).1 _ _ _ _ _ _ hr dX11_walk_47 (by decide) (by decide) ⟨_, rfl, hw⟩
-- GrassField.way(II)I
theorem dX11_way_0 : decode cX11_way 0 = .ok (.iload_n 1, 1) := by decide +kernel
theorem dX11_way_1 : decode cX11_way 1 = .ok (.aload_n 0, 1) := by decide +kernel
theorem dX11_way_2 : decode cX11_way 2 = .ok (.getfield 19, 3) := by decide +kernel
theorem dX11_way_5 : decode cX11_way 5 = .ok (.getfield 84, 3) := by decide +kernel
theorem dX11_way_8 : decode cX11_way 8 = .ok (.getfield 88, 3) := by decide +kernel
theorem dX11_way_11 : decode cX11_way 11 = .ok (.invokestatic 119, 3) := by decide +kernel
theorem dX11_way_14 : decode cX11_way 14 = .ok (.iload_n 2, 1) := by decide +kernel
theorem dX11_way_15 : decode cX11_way 15 = .ok (.iconst 2, 1) := by decide +kernel
theorem dX11_way_16 : decode cX11_way 16 = .ok (.invokestatic 245, 3) := by decide +kernel
theorem dX11_way_19 : decode cX11_way 19 = .ok (.aload_n 0, 1) := by decide +kernel
theorem dX11_way_20 : decode cX11_way 20 = .ok (.getfield 262, 3) := by decide +kernel
theorem dX11_way_23 : decode cX11_way 23 = .ok (.ifnonnull 14, 3) := by decide +kernel
theorem dX11_way_26 : decode cX11_way 26 = .ok (.aload_n 0, 1) := by decide +kernel
theorem dX11_way_27 : decode cX11_way 27 = .ok (.new 266, 3) := by decide +kernel
theorem dX11_way_30 : decode cX11_way 30 = .ok (.dup, 1) := by decide +kernel
theorem dX11_way_31 : decode cX11_way 31 = .ok (.invokespecial 268, 3) := by decide +kernel
theorem dX11_way_34 : decode cX11_way 34 = .ok (.putfield 262, 3) := by decide +kernel
theorem dX11_way_37 : decode cX11_way 37 = .ok (.aload_n 0, 1) := by decide +kernel
theorem dX11_way_38 : decode cX11_way 38 = .ok (.getfield 35, 3) := by decide +kernel
theorem dX11_way_41 : decode cX11_way 41 = .ok (.invokevirtual 235, 3) := by decide +kernel
theorem dX11_way_44 : decode cX11_way 44 = .ok (.aload_n 0, 1) := by decide +kernel
theorem dX11_way_45 : decode cX11_way 45 = .ok (.getfield 35, 3) := by decide +kernel
theorem dX11_way_48 : decode cX11_way 48 = .ok (.iload_n 1, 1) := by decide +kernel
theorem dX11_way_49 : decode cX11_way 49 = .ok (.aload_n 0, 1) := by decide +kernel
theorem dX11_way_50 : decode cX11_way 50 = .ok (.getfield 262, 3) := by decide +kernel
theorem dX11_way_53 : decode cX11_way 53 = .ok (.invokevirtual 269, 3) := by decide +kernel
theorem dX11_way_56 : decode cX11_way 56 = .ok (.aload_n 0, 1) := by decide +kernel
theorem dX11_way_57 : decode cX11_way 57 = .ok (.getfield 262, 3) := by decide +kernel
theorem dX11_way_60 : decode cX11_way 60 = .ok (.invokevirtual 273, 3) := by decide +kernel
theorem dX11_way_63 : decode cX11_way 63 = .ok (.iload_n 2, 1) := by decide +kernel
theorem dX11_way_64 : decode cX11_way 64 = .ok (.ifCond .ne 11, 3) := by decide +kernel
theorem dX11_way_67 : decode cX11_way 67 = .ok (.aload_n 0, 1) := by decide +kernel
theorem dX11_way_68 : decode cX11_way 68 = .ok (.getfield 262, 3) := by decide +kernel
theorem dX11_way_71 : decode cX11_way 71 = .ok (.invokevirtual 276, 3) := by decide +kernel
theorem dX11_way_74 : decode cX11_way 74 = .ok (.ireturn, 1) := by decide +kernel
theorem dX11_way_75 : decode cX11_way 75 = .ok (.iload_n 2, 1) := by decide +kernel
theorem dX11_way_76 : decode cX11_way 76 = .ok (.iconst 1, 1) := by decide +kernel
theorem dX11_way_77 : decode cX11_way 77 = .ok (.if_icmp .ne 13, 3) := by decide +kernel
theorem dX11_way_80 : decode cX11_way 80 = .ok (.aload_n 0, 1) := by decide +kernel
theorem dX11_way_81 : decode cX11_way 81 = .ok (.getfield 262, 3) := by decide +kernel
theorem dX11_way_84 : decode cX11_way 84 = .ok (.getfield 279, 3) := by decide +kernel
theorem dX11_way_87 : decode cX11_way 87 = .ok (.goto 10, 3) := by decide +kernel
theorem dX11_way_90 : decode cX11_way 90 = .ok (.aload_n 0, 1) := by decide +kernel
theorem dX11_way_91 : decode cX11_way 91 = .ok (.getfield 262, 3) := by decide +kernel
theorem dX11_way_94 : decode cX11_way 94 = .ok (.invokevirtual 282, 3) := by decide +kernel
theorem dX11_way_97 : decode cX11_way 97 = .ok (.ireturn, 1) := by decide +kernel
def w_X11_way_97  (t0 : Int32) (h : AH) (Q : Int32 → AH → Prop) (X : String → AH → Prop) : Prop :=
  Q t0 h
def w_X11_way_37  (v0 : Nat) (v1 : Int32) (v2 : Int32) (h : AH) (Q : Int32 → AH → Prop) (X : String → AH → Prop) : Prop :=
  fN h v0 11 3 fun a1 =>
  vr h a1 8 (
  w_X8_refresh a1 h (fun h =>
  fN h v0 11 3 fun a2 =>
  fO h v0 11 4 fun r3 =>
  nn r3 fun a4 =>
  vr h a2 8 (
  w_X8_fillWays a2 v1 a4 h (fun h =>
  fO h v0 11 4 fun r5 =>
  nn r5 fun a6 =>
  vr h a6 10 (
  w_X10_solve a6 h (fun h =>
  br (v2 = 0) (
    fO h v0 11 4 fun r13 =>
    nn r13 fun a14 =>
    vr h a14 10 (
    w_X10_fewestHands a14 h (fun x15 h =>
    Q x15 h))) (
    br (v2 = (1 : Int32)) (
      fO h v0 11 4 fun r10 =>
      nn r10 fun a11 =>
      fI h a11 10 8 fun x12 =>
      w_X11_way_97 x12 h Q X) (
      fO h v0 11 4 fun r7 =>
      nn r7 fun a8 =>
      vr h a8 10 (
      w_X10_firstFind a8 h (fun x9 h =>
      w_X11_way_97 x9 h Q X))))))))))
def w_X11_way  (v0 : Nat) (v1 : Int32) (v2 : Int32) (h : AH) (Q : Int32 → AH → Prop) (X : String → AH → Prop) : Prop :=
  fN h v0 11 1 fun a1 =>
  fN h a1 7 1 fun a2 =>
  fI h a2 2 0 fun x3 =>
  w_X11_needNumber v1 x3 h (fun h =>
  w_X11_needQuestion v2 (2 : Int32) h (fun h =>
  fO h v0 11 4 fun r4 =>
  br (r4 = none) (
    wO h 10 fun a5 h =>
    w_X10_init a5 h (fun h =>
    uO h v0 11 4 (some a5) fun h =>
    w_X11_way_37 v0 v1 v2 h Q X)) (
    w_X11_way_37 v0 v1 v2 h Q X)) X) X
set_option maxRecDepth 100000 in
set_option maxHeartbeats 4000000 in
theorem s_X11_way_97 {p : Program} {l : Launch} {e : Env} {s : State} {m : MethodId} {args : Array Value} {below : List Frame} {meth : Method} {c : Code} {g : GG}  {Q : Int32 → AH → Prop} {X : String → AH → Prop}  (C : CXT p l s m args meth c RX11 cX11_way 3 g) (hr : meth.sig.returnType = (some .int)) (htb : ∀ x ∈ c.exceptionTable.toList, False)  : ∀ (t0 : Int32) (h : AH), w_X11_way_97  t0 h Q X → V p l e s m args below meth c g 7 10 2669 3 10 2669 (vx_MQ below (QCx g (QI Q)) (XCx g X) args s 10 2669 (gA g)) 97 [] [.int t0] h := by
  intro t0 h hw
  exact (rt_VX C _ _).1 _ _ _ _ _ _ hr dX11_way_97 (by decide) (by decide) ⟨_, rfl, hw⟩
set_option maxRecDepth 100000 in
set_option maxHeartbeats 4000000 in
theorem s_X11_way_37 {p : Program} {l : Launch} {e : Env} {s : State} {m : MethodId} {args : Array Value} {below : List Frame} {meth : Method} {c : Code} {g : GG}  {Q : Int32 → AH → Prop} {X : String → AH → Prop}  (C : CXT p l s m args meth c RX11 cX11_way 3 g) (hr : meth.sig.returnType = (some .int)) (htb : ∀ x ∈ c.exceptionTable.toList, False)  : ∀ (v0 : Nat) (v1 : Int32) (v2 : Int32) (h : AH), w_X11_way_37  v0 v1 v2 h Q X → V p l e s m args below meth c g 7 10 2669 3 10 2669 (vx_MQ below (QCx g (QI Q)) (XCx g X) args s 10 2669 (gA g)) 37 [(0, .ref v0), (1, .int v1), (2, .int v2)] [] h := by
  intro v0 v1 v2 h hw
  refine v_aload_n C dX11_way_37 0 rfl rfl ?_
  refine w_getN C fl_X11_35 dX11_way_38 rfl hw (fun a1 hw => ?_)
  refine w_callVv (st := []) C cl_X11_235 im_X8_refresh se_X8_refresh rfl hw.1 (s_X8_refresh hw.2) rfl dX11_way_41 rfl (by decide) (by decide) (by decide) (by decide) (by decide) (fun h hw => ?_)
  refine v_aload_n C dX11_way_44 0 rfl rfl ?_
  refine w_getN C fl_X11_35 dX11_way_45 rfl hw (fun a2 hw => ?_)
  refine v_iload_n C dX11_way_48 1 rfl rfl ?_
  refine v_aload_n C dX11_way_49 0 rfl rfl ?_
  refine w_getO C fl_X11_262 dX11_way_50 rfl hw (fun r3 hw => ?_)
  refine w_nn hw (fun a4 hw => ?_)
  refine w_callVv (st := []) C cl_X11_269 im_X8_fillWays se_X8_fillWays rfl hw.1 (s_X8_fillWays hw.2) rfl dX11_way_53 rfl (by decide) (by decide) (by decide) (by decide) (by decide) (fun h hw => ?_)
  refine v_aload_n C dX11_way_56 0 rfl rfl ?_
  refine w_getO C fl_X11_262 dX11_way_57 rfl hw (fun r5 hw => ?_)
  refine w_nn hw (fun a6 hw => ?_)
  refine w_callVv (st := []) C cl_X11_273 im_X10_solve se_X10_solve rfl hw.1 (s_X10_solve hw.2) rfl dX11_way_60 rfl (by decide) (by decide) (by decide) (by decide) (by decide) (fun h hw => ?_)
  refine v_iload_n C dX11_way_63 2 rfl rfl ?_
  refine v_if_ne (tgt := 75) C dX11_way_64 (by decide) (fun c_64 => ?_) (fun c_64 => ?_)
  · have hw := hw.2 c_64
    refine v_iload_n C dX11_way_75 2 rfl rfl ?_
    refine v_iconst (v := 1) C dX11_way_76 (by decide) ?_
    refine v_icmp_ne (tgt := 90) C dX11_way_77 (by decide) (fun c_77 => ?_) (fun c_77 => ?_)
    · have hw := hw.2 c_77
      refine v_aload_n C dX11_way_90 0 rfl rfl ?_
      refine w_getO C fl_X11_262 dX11_way_91 rfl hw (fun r7 hw => ?_)
      refine w_nn hw (fun a8 hw => ?_)
      refine w_callVi (st := []) C cl_X11_282 im_X10_firstFind se_X10_firstFind rfl hw.1 (s_X10_firstFind hw.2) rfl dX11_way_94 rfl (by decide) (by decide) (by decide) (by decide) (by decide) (fun x9 h hw => ?_)
      refine v_sub [] rfl ?_
      exact s_X11_way_97 C hr htb  _ _ hw
    · have hw := hw.1 c_77
      refine v_aload_n C dX11_way_80 0 rfl rfl ?_
      refine w_getO C fl_X11_262 dX11_way_81 rfl hw (fun r10 hw => ?_)
      refine w_nn hw (fun a11 hw => ?_)
      refine w_getI C fl_X11_279 dX11_way_84 rfl hw (fun x12 hw => ?_)
      refine v_goto (tgt := 97) C dX11_way_87 (by decide) ?_
      refine v_sub [] rfl ?_
      exact s_X11_way_97 C hr htb  _ _ hw
  · have hw := hw.1 c_64
    refine v_aload_n C dX11_way_67 0 rfl rfl ?_
    refine w_getO C fl_X11_262 dX11_way_68 rfl hw (fun r13 hw => ?_)
    refine w_nn hw (fun a14 hw => ?_)
    refine w_callVi (st := []) C cl_X11_276 im_X10_fewestHands se_X10_fewestHands rfl hw.1 (s_X10_fewestHands hw.2) rfl dX11_way_71 rfl (by decide) (by decide) (by decide) (by decide) (by decide) (fun x15 h hw => ?_)
    exact (rt_VX C _ _).1 _ _ _ _ _ _ hr dX11_way_74 (by decide) (by decide) ⟨_, rfl, hw⟩
set_option maxRecDepth 100000 in
set_option maxHeartbeats 4000000 in
theorem s_X11_way {l : Launch}  {v0 : Nat} {v1 : Int32} {v2 : Int32} {h : AH} {Q : Int32 → AH → Prop} {X : String → AH → Prop}  (hw : w_X11_way  v0 v1 v2 h Q X) : CX l yX11_way cX11_way 3 (some .int) 7 10 2669 [.ref v0, .int v1, .int v2] h (QI Q) X := by
  refine CX.of (by decide) ⟨rfl, ⟨rfl, ⟨rfl, trivial⟩⟩⟩ (Nat.le_of_ble_eq_true rfl) ?_
  intro p e s m args below meth c g C hr htb
  refine v_eq (pc' := 0) (ls' := [(0, .ref v0), (1, .int v1), (2, .int v2)]) rfl rfl rfl rfl ?_
  refine v_iload_n C dX11_way_0 1 rfl rfl ?_
  refine v_aload_n C dX11_way_1 0 rfl rfl ?_
  refine w_getN C fl_X11_19 dX11_way_2 rfl hw (fun a1 hw => ?_)
  refine w_getN C fl_X11_84 dX11_way_5 rfl hw (fun a2 hw => ?_)
  refine w_getI C fl_X11_88 dX11_way_8 rfl hw (fun x3 hw => ?_)
  refine w_callXSv (st := []) C cl_X11_119 lk_X11_119 st_X11_needNumber (s_X11_needNumber hw) rfl dX11_way_11 rfl (by decide) (by decide) (by decide) (by decide) (by decide) (fun E h hx => tx_out C htb _ _ _ _ _ _ _ _ _ (by decide) (by decide) hx) (fun h hw => ?_)
  refine v_iload_n C dX11_way_14 2 rfl rfl ?_
  refine v_iconst (v := 2) C dX11_way_15 (by decide) ?_
  refine w_callXSv (st := []) C cl_X11_245 lk_X11_245 st_X11_needQuestion (s_X11_needQuestion hw) rfl dX11_way_16 rfl (by decide) (by decide) (by decide) (by decide) (by decide) (fun E h hx => tx_out C htb _ _ _ _ _ _ _ _ _ (by decide) (by decide) hx) (fun h hw => ?_)
  refine v_aload_n C dX11_way_19 0 rfl rfl ?_
  refine w_getO C fl_X11_262 dX11_way_20 rfl hw (fun r4 hw => ?_)
  refine v_ifnonnull (tgt := 37) C dX11_way_23 (by decide) (fun a_23 c_23 => ?_) (fun c_23 => ?_)
  · have hw := hw.2 (by rw [c_23]; exact fun z => nomatch z)
    refine v_cells (kc' := 10) (ks' := 2669) (by decide) (by decide) ?_
    exact s_X11_way_37 C hr htb  _ _ _ _ hw
  · have hw := hw.1 c_23
    refine v_aload_n C dX11_way_26 0 rfl rfl ?_
    refine v_new (r := (RX10, TX10, 9)) (N := 9) (ci := 10) C tyX10 rfl iw_X10 tyX10_ok df_X10 (tb6 (List.mem_of_getElem? (i := 26) rfl)) (tb6 (List.mem_of_getElem? (i := 27) rfl)) (tb1 (List.mem_of_getElem? (i := 29) rfl)) rfl dX11_way_27 (by decide) (by decide) (fun a5 hn => ?_)
    have hw := hw a5 hn
    generalize nO h a5 10 = h at hw ⊢
    refine v_dup C dX11_way_30 rfl ?_
    refine w_callIv (st := [.ref a5, .ref v0]) C cl_X11_268 im_X10_init rfl (s_X10_init hw) rfl dX11_way_31 rfl (Nat.le_of_ble_eq_true rfl) (by decide) (by decide) (by decide) (by decide) (fun h hw => ?_)
    refine w_putN C fp_X11_262 (Or.inl rfl) dX11_way_34 hw (fun h hw => ?_)
    exact s_X11_way_37 C hr htb  _ _ _ _ hw
-- GrassField.when(III)V
theorem dX11_when_0 : decode cX11_when 0 = .ok (.iload_n 1, 1) := by decide +kernel
theorem dX11_when_1 : decode cX11_when 1 = .ok (.aload_n 0, 1) := by decide +kernel
theorem dX11_when_2 : decode cX11_when 2 = .ok (.getfield 19, 3) := by decide +kernel
theorem dX11_when_5 : decode cX11_when 5 = .ok (.getfield 178, 3) := by decide +kernel
theorem dX11_when_8 : decode cX11_when 8 = .ok (.getfield 182, 3) := by decide +kernel
theorem dX11_when_11 : decode cX11_when 11 = .ok (.invokestatic 119, 3) := by decide +kernel
theorem dX11_when_14 : decode cX11_when 14 = .ok (.aload_n 0, 1) := by decide +kernel
theorem dX11_when_15 : decode cX11_when 15 = .ok (.getfield 19, 3) := by decide +kernel
theorem dX11_when_18 : decode cX11_when 18 = .ok (.getfield 178, 3) := by decide +kernel
theorem dX11_when_21 : decode cX11_when 21 = .ok (.getfield 189, 3) := by decide +kernel
theorem dX11_when_24 : decode cX11_when 24 = .ok (.iload_n 1, 1) := by decide +kernel
theorem dX11_when_25 : decode cX11_when 25 = .ok (.iaload, 1) := by decide +kernel
theorem dX11_when_26 : decode cX11_when 26 = .ok (.ifCond .ne 15, 3) := by decide +kernel
theorem dX11_when_29 : decode cX11_when 29 = .ok (.iload_n 2, 1) := by decide +kernel
theorem dX11_when_30 : decode cX11_when 30 = .ok (.iload_n 3, 1) := by decide +kernel
theorem dX11_when_31 : decode cX11_when 31 = .ok (.invokestatic 217, 3) := by decide +kernel
theorem dX11_when_34 : decode cX11_when 34 = .ok (.ifCond .eq 7, 3) := by decide +kernel
theorem dX11_when_37 : decode cX11_when 37 = .ok (.iconst 1, 1) := by decide +kernel
theorem dX11_when_38 : decode cX11_when 38 = .ok (.goto 4, 3) := by decide +kernel
theorem dX11_when_41 : decode cX11_when 41 = .ok (.iconst 0, 1) := by decide +kernel
theorem dX11_when_42 : decode cX11_when 42 = .ok (.invokestatic 58, 3) := by decide +kernel
theorem dX11_when_45 : decode cX11_when 45 = .ok (.aload_n 0, 1) := by decide +kernel
theorem dX11_when_46 : decode cX11_when 46 = .ok (.getfield 19, 3) := by decide +kernel
theorem dX11_when_49 : decode cX11_when 49 = .ok (.getfield 178, 3) := by decide +kernel
theorem dX11_when_52 : decode cX11_when 52 = .ok (.getfield 209, 3) := by decide +kernel
theorem dX11_when_55 : decode cX11_when 55 = .ok (.iload_n 1, 1) := by decide +kernel
theorem dX11_when_56 : decode cX11_when 56 = .ok (.iload_n 2, 1) := by decide +kernel
theorem dX11_when_57 : decode cX11_when 57 = .ok (.iastore, 1) := by decide +kernel
theorem dX11_when_58 : decode cX11_when 58 = .ok (.aload_n 0, 1) := by decide +kernel
theorem dX11_when_59 : decode cX11_when 59 = .ok (.getfield 19, 3) := by decide +kernel
theorem dX11_when_62 : decode cX11_when 62 = .ok (.getfield 178, 3) := by decide +kernel
theorem dX11_when_65 : decode cX11_when 65 = .ok (.getfield 212, 3) := by decide +kernel
theorem dX11_when_68 : decode cX11_when 68 = .ok (.iload_n 1, 1) := by decide +kernel
theorem dX11_when_69 : decode cX11_when 69 = .ok (.iload_n 3, 1) := by decide +kernel
theorem dX11_when_70 : decode cX11_when 70 = .ok (.iastore, 1) := by decide +kernel
theorem dX11_when_71 : decode cX11_when 71 = .ok (.return_, 1) := by decide +kernel
def w_X11_when_42  (v0 : Nat) (v1 : Int32) (v2 : Int32) (v3 : Int32) (t0 : Int32) (h : AH) (Q : AH → Prop) (X : String → AH → Prop) : Prop :=
  w_X11_need t0 h (fun h =>
  fN h v0 11 1 fun a1 =>
  fN h a1 7 3 fun a2 =>
  fN h a2 1 5 fun a3 =>
  tI h a3 v1 v2 fun h =>
  fN h v0 11 1 fun a4 =>
  fN h a4 7 3 fun a5 =>
  fN h a5 1 6 fun a6 =>
  tI h a6 v1 v3 fun h =>
  Q h) X
def w_X11_when_41  (v0 : Nat) (v1 : Int32) (v2 : Int32) (v3 : Int32) (h : AH) (Q : AH → Prop) (X : String → AH → Prop) : Prop :=
  w_X11_when_42 v0 v1 v2 v3 (0 : Int32) h Q X
def w_X11_when  (v0 : Nat) (v1 : Int32) (v2 : Int32) (v3 : Int32) (h : AH) (Q : AH → Prop) (X : String → AH → Prop) : Prop :=
  fN h v0 11 1 fun a1 =>
  fN h a1 7 3 fun a2 =>
  fI h a2 1 0 fun x3 =>
  w_X11_needNumber v1 x3 h (fun h =>
  fN h v0 11 1 fun a4 =>
  fN h a4 7 3 fun a5 =>
  fN h a5 1 1 fun a6 =>
  aI h a6 v1 fun x7 =>
  br (x7 = 0) (
    w_X11_areMinutes v2 v3 h (fun x8 h =>
    br (x8 = 0) (
      w_X11_when_41 v0 v1 v2 v3 h Q X) (
      w_X11_when_42 v0 v1 v2 v3 (1 : Int32) h Q X))) (
    w_X11_when_41 v0 v1 v2 v3 h Q X)) X
set_option maxRecDepth 100000 in
set_option maxHeartbeats 4000000 in
theorem s_X11_when_42 {p : Program} {l : Launch} {e : Env} {s : State} {m : MethodId} {args : Array Value} {below : List Frame} {meth : Method} {c : Code} {g : GG}  {Q : AH → Prop} {X : String → AH → Prop}  (C : CXT p l s m args meth c RX11 cX11_when 4 g) (hr : meth.sig.returnType = none) (htb : ∀ x ∈ c.exceptionTable.toList, False)  : ∀ (v0 : Nat) (v1 : Int32) (v2 : Int32) (v3 : Int32) (t0 : Int32) (h : AH), w_X11_when_42  v0 v1 v2 v3 t0 h Q X → V p l e s m args below meth c g 7 2 12 4 1 6 (vx_MQ below (QCx g (QV Q)) (XCx g X) args s 2 12 (gA g)) 42 [(0, .ref v0), (1, .int v1), (2, .int v2), (3, .int v3)] [.int t0] h := by
  intro v0 v1 v2 v3 t0 h hw
  refine w_callXSv (st := []) C cl_X11_58 lk_X11_58 st_X11_need (s_X11_need hw) rfl dX11_when_42 rfl (by decide) (by decide) (by decide) (by decide) (by decide) (fun E h hx => tx_out C htb _ _ _ _ _ _ _ _ _ (by decide) (by decide) hx) (fun h hw => ?_)
  refine v_aload_n C dX11_when_45 0 rfl rfl ?_
  refine w_getN C fl_X11_19 dX11_when_46 rfl hw (fun a1 hw => ?_)
  refine w_getN C fl_X11_178 dX11_when_49 rfl hw (fun a2 hw => ?_)
  refine w_getN C fl_X11_209 dX11_when_52 rfl hw (fun a3 hw => ?_)
  refine v_iload_n C dX11_when_55 1 rfl rfl ?_
  refine v_iload_n C dX11_when_56 2 rfl rfl ?_
  refine w_iastore C dX11_when_57 hw (fun h hw => ?_)
  refine v_aload_n C dX11_when_58 0 rfl rfl ?_
  refine w_getN C fl_X11_19 dX11_when_59 rfl hw (fun a4 hw => ?_)
  refine w_getN C fl_X11_178 dX11_when_62 rfl hw (fun a5 hw => ?_)
  refine w_getN C fl_X11_212 dX11_when_65 rfl hw (fun a6 hw => ?_)
  refine v_iload_n C dX11_when_68 1 rfl rfl ?_
  refine v_iload_n C dX11_when_69 3 rfl rfl ?_
  refine w_iastore C dX11_when_70 hw (fun h hw => ?_)
  exact (rt_VX C _ _).2.2.1 _ _ _ _ _ hr dX11_when_71 (by decide) (by decide) ⟨rfl, hw⟩
set_option maxRecDepth 100000 in
set_option maxHeartbeats 4000000 in
theorem s_X11_when_41 {p : Program} {l : Launch} {e : Env} {s : State} {m : MethodId} {args : Array Value} {below : List Frame} {meth : Method} {c : Code} {g : GG}  {Q : AH → Prop} {X : String → AH → Prop}  (C : CXT p l s m args meth c RX11 cX11_when 4 g) (hr : meth.sig.returnType = none) (htb : ∀ x ∈ c.exceptionTable.toList, False)  : ∀ (v0 : Nat) (v1 : Int32) (v2 : Int32) (v3 : Int32) (h : AH), w_X11_when_41  v0 v1 v2 v3 h Q X → V p l e s m args below meth c g 7 2 12 4 1 6 (vx_MQ below (QCx g (QV Q)) (XCx g X) args s 2 12 (gA g)) 41 [(0, .ref v0), (1, .int v1), (2, .int v2), (3, .int v3)] [] h := by
  intro v0 v1 v2 v3 h hw
  refine v_iconst (v := 0) C dX11_when_41 (by decide) ?_
  exact s_X11_when_42 C hr htb  _ _ _ _ _ _ hw
set_option maxRecDepth 100000 in
set_option maxHeartbeats 4000000 in
theorem s_X11_when {l : Launch}  {v0 : Nat} {v1 : Int32} {v2 : Int32} {v3 : Int32} {h : AH} {Q : AH → Prop} {X : String → AH → Prop}  (hw : w_X11_when  v0 v1 v2 v3 h Q X) : CX l yX11_when cX11_when 4 none 7 2 12 [.ref v0, .int v1, .int v2, .int v3] h (QV Q) X := by
  refine CX.of (by decide) ⟨rfl, ⟨rfl, ⟨rfl, ⟨rfl, trivial⟩⟩⟩⟩ (Nat.le_of_ble_eq_true rfl) ?_
  intro p e s m args below meth c g C hr htb
  refine v_eq (pc' := 0) (ls' := [(0, .ref v0), (1, .int v1), (2, .int v2), (3, .int v3)]) rfl rfl rfl rfl ?_
  refine v_iload_n C dX11_when_0 1 rfl rfl ?_
  refine v_aload_n C dX11_when_1 0 rfl rfl ?_
  refine w_getN C fl_X11_19 dX11_when_2 rfl hw (fun a1 hw => ?_)
  refine w_getN C fl_X11_178 dX11_when_5 rfl hw (fun a2 hw => ?_)
  refine w_getI C fl_X11_182 dX11_when_8 rfl hw (fun x3 hw => ?_)
  refine w_callXSv (st := []) C cl_X11_119 lk_X11_119 st_X11_needNumber (s_X11_needNumber hw) rfl dX11_when_11 rfl (by decide) (by decide) (by decide) (by decide) (by decide) (fun E h hx => tx_out C htb _ _ _ _ _ _ _ _ _ (by decide) (by decide) hx) (fun h hw => ?_)
  refine v_aload_n C dX11_when_14 0 rfl rfl ?_
  refine w_getN C fl_X11_19 dX11_when_15 rfl hw (fun a4 hw => ?_)
  refine w_getN C fl_X11_178 dX11_when_18 rfl hw (fun a5 hw => ?_)
  refine w_getN C fl_X11_189 dX11_when_21 rfl hw (fun a6 hw => ?_)
  refine v_iload_n C dX11_when_24 1 rfl rfl ?_
  refine w_iaload C dX11_when_25 hw (fun x7 hw => ?_)
  refine v_if_ne (tgt := 41) C dX11_when_26 (by decide) (fun c_26 => ?_) (fun c_26 => ?_)
  · have hw := hw.2 c_26
    exact s_X11_when_41 C hr htb  _ _ _ _ _ hw
  · have hw := hw.1 c_26
    refine v_iload_n C dX11_when_29 2 rfl rfl ?_
    refine v_iload_n C dX11_when_30 3 rfl rfl ?_
    refine w_callSi (st := []) C cl_X11_217 st_X11_areMinutes (s_X11_areMinutes hw) rfl dX11_when_31 rfl (by decide) (by decide) (by decide) (by decide) (by decide) (fun x8 h hw => ?_)
    refine v_if_eq (tgt := 41) C dX11_when_34 (by decide) (fun c_34 => ?_) (fun c_34 => ?_)
    · have hw := hw.1 c_34
      exact s_X11_when_41 C hr htb  _ _ _ _ _ hw
    · have hw := hw.2 c_34
      refine v_iconst (v := 1) C dX11_when_37 (by decide) ?_
      refine v_goto (tgt := 42) C dX11_when_38 (by decide) ?_
      exact s_X11_when_42 C hr htb  _ _ _ _ _ _ hw
-- GrassField.who(I)I
theorem dX11_who_0 : decode cX11_who 0 = .ok (.iload_n 1, 1) := by decide +kernel
theorem dX11_who_1 : decode cX11_who 1 = .ok (.aload_n 0, 1) := by decide +kernel
theorem dX11_who_2 : decode cX11_who 2 = .ok (.getfield 19, 3) := by decide +kernel
theorem dX11_who_5 : decode cX11_who 5 = .ok (.getfield 178, 3) := by decide +kernel
theorem dX11_who_8 : decode cX11_who 8 = .ok (.getfield 182, 3) := by decide +kernel
theorem dX11_who_11 : decode cX11_who 11 = .ok (.invokestatic 119, 3) := by decide +kernel
theorem dX11_who_14 : decode cX11_who 14 = .ok (.aload_n 0, 1) := by decide +kernel
theorem dX11_who_15 : decode cX11_who 15 = .ok (.getfield 35, 3) := by decide +kernel
theorem dX11_who_18 : decode cX11_who 18 = .ok (.invokevirtual 331, 3) := by decide +kernel
theorem dX11_who_21 : decode cX11_who 21 = .ok (.aload_n 0, 1) := by decide +kernel
theorem dX11_who_22 : decode cX11_who 22 = .ok (.getfield 35, 3) := by decide +kernel
theorem dX11_who_25 : decode cX11_who 25 = .ok (.iload_n 1, 1) := by decide +kernel
theorem dX11_who_26 : decode cX11_who 26 = .ok (.invokevirtual 334, 3) := by decide +kernel
theorem dX11_who_29 : decode cX11_who 29 = .ok (.istore_n 2, 1) := by decide +kernel
theorem dX11_who_30 : decode cX11_who 30 = .ok (.iload_n 2, 1) := by decide +kernel
theorem dX11_who_31 : decode cX11_who 31 = .ok (.iconst (-1), 1) := by decide +kernel
theorem dX11_who_32 : decode cX11_who 32 = .ok (.if_icmp .eq 7, 3) := by decide +kernel
theorem dX11_who_35 : decode cX11_who 35 = .ok (.iconst 1, 1) := by decide +kernel
theorem dX11_who_36 : decode cX11_who 36 = .ok (.goto 4, 3) := by decide +kernel
theorem dX11_who_39 : decode cX11_who 39 = .ok (.iconst 0, 1) := by decide +kernel
theorem dX11_who_40 : decode cX11_who 40 = .ok (.invokestatic 58, 3) := by decide +kernel
theorem dX11_who_43 : decode cX11_who 43 = .ok (.aload_n 0, 1) := by decide +kernel
theorem dX11_who_44 : decode cX11_who 44 = .ok (.getfield 35, 3) := by decide +kernel
theorem dX11_who_47 : decode cX11_who 47 = .ok (.iload_n 2, 1) := by decide +kernel
theorem dX11_who_48 : decode cX11_who 48 = .ok (.invokevirtual 337, 3) := by decide +kernel
theorem dX11_who_51 : decode cX11_who 51 = .ok (.ireturn, 1) := by decide +kernel
def w_X11_who_40  (v0 : Nat) (v2 : Int32) (t0 : Int32) (h : AH) (Q : Int32 → AH → Prop) (X : String → AH → Prop) : Prop :=
  w_X11_need t0 h (fun h =>
  fN h v0 11 3 fun a1 =>
  vr h a1 8 (
  w_X8_peopleFor a1 v2 h (fun x2 h =>
  Q x2 h))) X
def w_X11_who  (v0 : Nat) (v1 : Int32) (h : AH) (Q : Int32 → AH → Prop) (X : String → AH → Prop) : Prop :=
  fN h v0 11 1 fun a1 =>
  fN h a1 7 3 fun a2 =>
  fI h a2 1 0 fun x3 =>
  w_X11_needNumber v1 x3 h (fun h =>
  fN h v0 11 3 fun a4 =>
  vr h a4 8 (
  w_X8_gatherBones a4 h (fun h =>
  fN h v0 11 3 fun a5 =>
  vr h a5 8 (
  w_X8_placeOfBones a5 v1 h (fun x6 h =>
  br (x6 = (-1 : Int32)) (
    w_X11_who_40 v0 x6 (0 : Int32) h Q X) (
    w_X11_who_40 v0 x6 (1 : Int32) h Q X)))))) X
set_option maxRecDepth 100000 in
set_option maxHeartbeats 4000000 in
theorem s_X11_who_40 {p : Program} {l : Launch} {e : Env} {s : State} {m : MethodId} {args : Array Value} {below : List Frame} {meth : Method} {c : Code} {g : GG}  {Q : Int32 → AH → Prop} {X : String → AH → Prop}  (C : CXT p l s m args meth c RX11 cX11_who 3 g) (hr : meth.sig.returnType = (some .int)) (htb : ∀ x ∈ c.exceptionTable.toList, False)  : ∀ (v0 : Nat) (v2 : Int32) (t0 : Int32) (h : AH), w_X11_who_40  v0 v2 t0 h Q X → V p l e s m args below meth c g 7 2 12 3 1 6 (vx_MQ below (QCx g (QI Q)) (XCx g X) args s 2 12 (gA g)) 40 [(0, .ref v0), (2, .int v2)] [.int t0] h := by
  intro v0 v2 t0 h hw
  refine w_callXSv (st := []) C cl_X11_58 lk_X11_58 st_X11_need (s_X11_need hw) rfl dX11_who_40 rfl (by decide) (by decide) (by decide) (by decide) (by decide) (fun E h hx => tx_out C htb _ _ _ _ _ _ _ _ _ (by decide) (by decide) hx) (fun h hw => ?_)
  refine v_aload_n C dX11_who_43 0 rfl rfl ?_
  refine w_getN C fl_X11_35 dX11_who_44 rfl hw (fun a1 hw => ?_)
  refine v_iload_n C dX11_who_47 1 rfl rfl ?_
  refine w_callVi (st := []) C cl_X11_337 im_X8_peopleFor se_X8_peopleFor rfl hw.1 (s_X8_peopleFor hw.2) rfl dX11_who_48 rfl (by decide) (by decide) (by decide) (by decide) (by decide) (fun x2 h hw => ?_)
  exact (rt_VX C _ _).1 _ _ _ _ _ _ hr dX11_who_51 (by decide) (by decide) ⟨_, rfl, hw⟩
set_option maxRecDepth 100000 in
set_option maxHeartbeats 4000000 in
theorem s_X11_who {l : Launch}  {v0 : Nat} {v1 : Int32} {h : AH} {Q : Int32 → AH → Prop} {X : String → AH → Prop}  (hw : w_X11_who  v0 v1 h Q X) : CX l yX11_who cX11_who 3 (some .int) 7 2 12 [.ref v0, .int v1] h (QI Q) X := by
  refine CX.of (by decide) ⟨rfl, ⟨rfl, trivial⟩⟩ (Nat.le_of_ble_eq_true rfl) ?_
  intro p e s m args below meth c g C hr htb
  refine v_eq (pc' := 0) (ls' := [(0, .ref v0), (1, .int v1)]) rfl rfl rfl rfl ?_
  refine v_iload_n C dX11_who_0 1 rfl rfl ?_
  refine v_aload_n C dX11_who_1 0 rfl rfl ?_
  refine w_getN C fl_X11_19 dX11_who_2 rfl hw (fun a1 hw => ?_)
  refine w_getN C fl_X11_178 dX11_who_5 rfl hw (fun a2 hw => ?_)
  refine w_getI C fl_X11_182 dX11_who_8 rfl hw (fun x3 hw => ?_)
  refine w_callXSv (st := []) C cl_X11_119 lk_X11_119 st_X11_needNumber (s_X11_needNumber hw) rfl dX11_who_11 rfl (by decide) (by decide) (by decide) (by decide) (by decide) (fun E h hx => tx_out C htb _ _ _ _ _ _ _ _ _ (by decide) (by decide) hx) (fun h hw => ?_)
  refine v_aload_n C dX11_who_14 0 rfl rfl ?_
  refine w_getN C fl_X11_35 dX11_who_15 rfl hw (fun a4 hw => ?_)
  refine w_callVv (st := []) C cl_X11_331 im_X8_gatherBones se_X8_gatherBones rfl hw.1 (s_X8_gatherBones hw.2) rfl dX11_who_18 rfl (by decide) (by decide) (by decide) (by decide) (by decide) (fun h hw => ?_)
  refine v_aload_n C dX11_who_21 0 rfl rfl ?_
  refine w_getN C fl_X11_35 dX11_who_22 rfl hw (fun a5 hw => ?_)
  refine v_iload_n C dX11_who_25 1 rfl rfl ?_
  refine w_callVi (st := []) C cl_X11_334 im_X8_placeOfBones se_X8_placeOfBones rfl hw.1 (s_X8_placeOfBones hw.2) rfl dX11_who_26 rfl (by decide) (by decide) (by decide) (by decide) (by decide) (fun x6 h hw => ?_)
  refine v_istore_n (ls' := [(2, .int x6), (0, .ref v0), (1, .int v1)]) C dX11_who_29 rfl (by decide) rfl ?_
  refine v_iload_n C dX11_who_30 0 rfl rfl ?_
  refine v_iconst (v := -1) C dX11_who_31 (by decide) ?_
  refine v_icmp_eq (tgt := 39) C dX11_who_32 (by decide) (fun c_32 => ?_) (fun c_32 => ?_)
  · have hw := hw.1 c_32
    refine v_iconst (v := 0) C dX11_who_39 (by decide) ?_
    refine v_sub [1, 0] rfl ?_
    exact s_X11_who_40 C hr htb  _ _ _ _ hw
  · have hw := hw.2 c_32
    refine v_iconst (v := 1) C dX11_who_35 (by decide) ?_
    refine v_goto (tgt := 40) C dX11_who_36 (by decide) ?_
    refine v_sub [1, 0] rfl ?_
    exact s_X11_who_40 C hr htb  _ _ _ _ hw
