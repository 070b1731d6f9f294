theorem iw_X8 : ∀ w ∈ u_ws RX8 TX8 9, w ∈ lw_tbl := (show ∀ w ∈ ([Cond.laysFinal "GrassField$Study" "GrassField$Study" "state" "LGrassField$State;", Cond.laysFinal "GrassField$Study" "GrassField$Study" "caseGuns" "[I", Cond.laysFinal "GrassField$Study" "GrassField$Study" "choices" "[I", Cond.laysFinal "GrassField$Study" "GrassField$Study" "columns" "[I", Cond.laysFinal "GrassField$Study" "GrassField$Study" "tally" "[I", Cond.laysFinal "GrassField$Study" "GrassField$Study" "bones" "[I", Cond.lays "GrassField$Study" "GrassField$Study" "bodies" "I", Cond.laysFinal "GrassField$Study" "GrassField$Study" "named" "[I", Cond.laysFinal "GrassField$Study" "GrassField$Study" "facts" "[I"] : List Cond), w ∈ lw_tbl from List.forall_mem_cons.mpr ⟨(tb2 (List.mem_of_getElem? (i := 119) rfl)), List.forall_mem_cons.mpr ⟨(tb2 (List.mem_of_getElem? (i := 121) rfl)), List.forall_mem_cons.mpr ⟨(tb2 (List.mem_of_getElem? (i := 123) rfl)), List.forall_mem_cons.mpr ⟨(tb2 (List.mem_of_getElem? (i := 125) rfl)), List.forall_mem_cons.mpr ⟨(tb2 (List.mem_of_getElem? (i := 127) rfl)), List.forall_mem_cons.mpr ⟨(tb2 (List.mem_of_getElem? (i := 129) rfl)), List.forall_mem_cons.mpr ⟨(tb2 (List.mem_of_getElem? (i := 131) rfl)), List.forall_mem_cons.mpr ⟨(tb2 (List.mem_of_getElem? (i := 133) rfl)), List.forall_mem_cons.mpr ⟨(tb2 (List.mem_of_getElem? (i := 135) rfl)), fun _ h => nomatch h⟩⟩⟩⟩⟩⟩⟩⟩⟩)
theorem fl_X8_9 : FLk RX8 9 8 1 (RX8, TX8, 9) := ⟨rfl, by decide, iw_X8, Or.inl (tb2 (List.mem_of_getElem? (i := 110) rfl))⟩
theorem fp_X8_9 : FPk RX8 9 8 1 (RX8, TX8, 9) tyX8 2 := ⟨fl_X8_9, nmX8, tyX8_ok, Or.inr (Or.inr ⟨rfl, Or.inr ⟨_, rfl⟩, rfl⟩)⟩
theorem fl_X8_15 : FLk RX8 15 8 2 (RX8, TX8, 9) := ⟨rfl, by decide, iw_X8, Or.inl (tb2 (List.mem_of_getElem? (i := 112) rfl))⟩
theorem fp_X8_15 : FPk RX8 15 8 2 (RX8, TX8, 9) tyX8 2 := ⟨fl_X8_15, nmX8, tyX8_ok, Or.inr (Or.inr ⟨rfl, Or.inr ⟨_, rfl⟩, rfl⟩)⟩
theorem fl_X8_18 : FLk RX8 18 8 3 (RX8, TX8, 9) := ⟨rfl, by decide, iw_X8, Or.inl (tb2 (List.mem_of_getElem? (i := 113) rfl))⟩
theorem fp_X8_18 : FPk RX8 18 8 3 (RX8, TX8, 9) tyX8 2 := ⟨fl_X8_18, nmX8, tyX8_ok, Or.inr (Or.inr ⟨rfl, Or.inr ⟨_, rfl⟩, rfl⟩)⟩
theorem fl_X8_21 : FLk RX8 21 8 4 (RX8, TX8, 9) := ⟨rfl, by decide, iw_X8, Or.inl (tb2 (List.mem_of_getElem? (i := 114) rfl))⟩
theorem fp_X8_21 : FPk RX8 21 8 4 (RX8, TX8, 9) tyX8 2 := ⟨fl_X8_21, nmX8, tyX8_ok, Or.inr (Or.inr ⟨rfl, Or.inr ⟨_, rfl⟩, rfl⟩)⟩
theorem fl_X8_24 : FLk RX8 24 8 5 (RX8, TX8, 9) := ⟨rfl, by decide, iw_X8, Or.inl (tb2 (List.mem_of_getElem? (i := 115) rfl))⟩
theorem fp_X8_24 : FPk RX8 24 8 5 (RX8, TX8, 9) tyX8 2 := ⟨fl_X8_24, nmX8, tyX8_ok, Or.inr (Or.inr ⟨rfl, Or.inr ⟨_, rfl⟩, rfl⟩)⟩
theorem fl_X8_27 : FLk RX8 27 8 7 (RX8, TX8, 9) := ⟨rfl, by decide, iw_X8, Or.inl (tb2 (List.mem_of_getElem? (i := 117) rfl))⟩
theorem fp_X8_27 : FPk RX8 27 8 7 (RX8, TX8, 9) tyX8 2 := ⟨fl_X8_27, nmX8, tyX8_ok, Or.inr (Or.inr ⟨rfl, Or.inr ⟨_, rfl⟩, rfl⟩)⟩
theorem fl_X8_30 : FLk RX8 30 8 8 (RX8, TX8, 9) := ⟨rfl, by decide, iw_X8, Or.inl (tb2 (List.mem_of_getElem? (i := 118) rfl))⟩
theorem fp_X8_30 : FPk RX8 30 8 8 (RX8, TX8, 9) tyX8 2 := ⟨fl_X8_30, nmX8, tyX8_ok, Or.inr (Or.inr ⟨rfl, Or.inr ⟨_, rfl⟩, rfl⟩)⟩
theorem fl_X8_33 : FLk RX8 33 8 0 (RX8, TX8, 9) := ⟨rfl, by decide, iw_X8, Or.inl (tb2 (List.mem_of_getElem? (i := 109) rfl))⟩
theorem fp_X8_33 : FPk RX8 33 8 0 (RX8, TX8, 9) tyX8 2 := ⟨fl_X8_33, nmX8, tyX8_ok, Or.inr (Or.inr ⟨rfl, Or.inl ⟨_, rfl⟩, rfl⟩)⟩
theorem cl_X8_64 : CLk RX8 64 yX8_isCase cX8_isCase 2 (some .boolean) 1 := ⟨Or.inl (tb6 (List.mem_of_getElem? (i := 135) rfl)), (tb6 (List.mem_of_getElem? (i := 138) rfl)), (tb1 (List.mem_of_getElem? (i := 10) rfl)), by decide +kernel, by decide +kernel, by decide +kernel⟩
theorem im_X8_isCase : Cond.instanceMethod yX8_isCase ∈ lw_tbl := (tb6 (List.mem_of_getElem? (i := 137) rfl))
theorem se_X8_isCase : Cond.selects RX8 yX8_isCase yX8_isCase ∈ lw_tbl := (tbp3 12 rfl)
theorem cl_X8_68 : CLk RX8 68 yJ6_bitCount_0f7a4 cJ6_bitCount_0f7a4 1 (some .int) 1 := ⟨Or.inl (tb3 (List.mem_of_getElem? (i := 8) rfl)), (tb3 (List.mem_of_getElem? (i := 10) rfl)), (tb1 (List.mem_of_getElem? (i := 28) rfl)), by decide +kernel, by decide +kernel, by decide +kernel⟩
theorem st_J6_bitCount_0f7a4 : Cond.static yJ6_bitCount_0f7a4 ∈ lw_tbl := (tb3 (List.mem_of_getElem? (i := 9) rfl))
theorem fl_X8_37 : FLk RX8 37 7 3 (RX7, TX7, 13) := ⟨rfl, by decide, iw_X7, Or.inr ⟨"GrassField", (tb2 (List.mem_of_getElem? (i := 36) rfl))⟩⟩
theorem fl_X8_49 : FLk RX8 49 1 0 (RX1, TX1, 10) := ⟨rfl, by decide, iw_X1, Or.inr ⟨"GrassField", (tb1 (List.mem_of_getElem? (i := 173) rfl))⟩⟩
theorem fl_X8_87 : FLk RX8 87 1 2 (RX1, TX1, 10) := ⟨rfl, by decide, iw_X1, Or.inr ⟨"GrassField", (tb1 (List.mem_of_getElem? (i := 181) rfl))⟩⟩
theorem cl_X8_126 : CLk RX8 126 yX3_row cX3_row 1 (some .int) 1 := ⟨Or.inl (tb6 (List.mem_of_getElem? (i := 130) rfl)), (tb2 (List.mem_of_getElem? (i := 208) rfl)), (tb1 (List.mem_of_getElem? (i := 4) rfl)), by decide +kernel, by decide +kernel, by decide +kernel⟩
theorem cl_X8_96 : CLk RX8 96 yX8_isSure cX8_isSure 2 (some .boolean) 1 := ⟨Or.inl (tb6 (List.mem_of_getElem? (i := 131) rfl)), (tb6 (List.mem_of_getElem? (i := 134) rfl)), (tb1 (List.mem_of_getElem? (i := 10) rfl)), by decide +kernel, by decide +kernel, by decide +kernel⟩
theorem im_X8_isSure : Cond.instanceMethod yX8_isSure ∈ lw_tbl := (tb6 (List.mem_of_getElem? (i := 133) rfl))
theorem se_X8_isSure : Cond.selects RX8 yX8_isSure yX8_isSure ∈ lw_tbl := (tbp3 11 rfl)
theorem cl_X8_129 : CLk RX8 129 yX3_column cX3_column 1 (some .int) 1 := ⟨Or.inl (tb6 (List.mem_of_getElem? (i := 139) rfl)), (tb3 (List.mem_of_getElem? (i := 0) rfl)), (tb1 (List.mem_of_getElem? (i := 4) rfl)), by decide +kernel, by decide +kernel, by decide +kernel⟩
theorem fl_X8_77 : FLk RX8 77 7 1 (RX7, TX7, 13) := ⟨rfl, by decide, iw_X7, Or.inr ⟨"GrassField", (tb2 (List.mem_of_getElem? (i := 30) rfl))⟩⟩
theorem cl_X8_123 : CLk RX8 123 yX2_ofSide cX2_ofSide 4 (some .int) 1 := ⟨Or.inl (tb6 (List.mem_of_getElem? (i := 126) rfl)), (tb6 (List.mem_of_getElem? (i := 129) rfl)), (tb1 (List.mem_of_getElem? (i := 5) rfl)), by decide +kernel, by decide +kernel, by decide +kernel⟩
theorem im_X2_ofSide : Cond.instanceMethod yX2_ofSide ∈ lw_tbl := (tb6 (List.mem_of_getElem? (i := 127) rfl))
theorem se_X2_ofSide : Cond.selects RX2 yX2_ofSide yX2_ofSide ∈ lw_tbl := (tb6 (List.mem_of_getElem? (i := 128) rfl))
theorem cl_X8_144 : CLk RX8 144 yX8_stepFrom cX8_stepFrom 2 (some .int) 1 := ⟨Or.inl (tb6 (List.mem_of_getElem? (i := 140) rfl)), (tb6 (List.mem_of_getElem? (i := 143) rfl)), (tb1 (List.mem_of_getElem? (i := 10) rfl)), by decide +kernel, by decide +kernel, by decide +kernel⟩
theorem im_X8_stepFrom : Cond.instanceMethod yX8_stepFrom ∈ lw_tbl := (tb6 (List.mem_of_getElem? (i := 142) rfl))
theorem se_X8_stepFrom : Cond.selects RX8 yX8_stepFrom yX8_stepFrom ∈ lw_tbl := (tbp3 13 rfl)
theorem cl_X8_132 : CLk RX8 132 yX8_gatherColumns cX8_gatherColumns 7 (some .int) 2 := ⟨Or.inl (tb6 (List.mem_of_getElem? (i := 122) rfl)), (tb6 (List.mem_of_getElem? (i := 125) rfl)), (tb1 (List.mem_of_getElem? (i := 10) rfl)), by decide +kernel, by decide +kernel, by decide +kernel⟩
theorem im_X8_gatherColumns : Cond.instanceMethod yX8_gatherColumns ∈ lw_tbl := (tb6 (List.mem_of_getElem? (i := 124) rfl))
theorem se_X8_gatherColumns : Cond.selects RX8 yX8_gatherColumns yX8_gatherColumns ∈ lw_tbl := (tbp3 10 rfl)
theorem cl_X8_90 : CLk RX8 90 yX3_isInArea cX3_isInArea 3 (some .boolean) 3 := ⟨Or.inl (tb5 (List.mem_of_getElem? (i := 220) rfl)), (tb3 (List.mem_of_getElem? (i := 198) rfl)), (tb1 (List.mem_of_getElem? (i := 4) rfl)), by decide +kernel, by decide +kernel, by decide +kernel⟩
theorem fl_X8_81 : FLk RX8 81 2 0 (RX2, TX2, 5) := ⟨rfl, by decide, iw_X2, Or.inr ⟨"GrassField", (tb1 (List.mem_of_getElem? (i := 103) rfl))⟩⟩
theorem cl_X8_84 : CLk RX8 84 yX8_meetsChoices cX8_meetsChoices 4 (some .boolean) 2 := ⟨Or.inl (tb5 (List.mem_of_getElem? (i := 221) rfl)), (tb5 (List.mem_of_getElem? (i := 224) rfl)), (tb1 (List.mem_of_getElem? (i := 10) rfl)), by decide +kernel, by decide +kernel, by decide +kernel⟩
theorem im_X8_meetsChoices : Cond.instanceMethod yX8_meetsChoices ∈ lw_tbl := (tb5 (List.mem_of_getElem? (i := 223) rfl))
theorem se_X8_meetsChoices : Cond.selects RX8 yX8_meetsChoices yX8_meetsChoices ∈ lw_tbl := (tbp3 5 rfl)
theorem cl_X8_73 : CLk RX8 73 yX8_gatherChoices cX8_gatherChoices 5 (some .int) 2 := ⟨Or.inl (tb5 (List.mem_of_getElem? (i := 216) rfl)), (tb5 (List.mem_of_getElem? (i := 219) rfl)), (tb1 (List.mem_of_getElem? (i := 10) rfl)), by decide +kernel, by decide +kernel, by decide +kernel⟩
theorem im_X8_gatherChoices : Cond.instanceMethod yX8_gatherChoices ∈ lw_tbl := (tb5 (List.mem_of_getElem? (i := 218) rfl))
theorem se_X8_gatherChoices : Cond.selects RX8 yX8_gatherChoices yX8_gatherChoices ∈ lw_tbl := (tbp3 4 rfl)
theorem cl_X8_111 : CLk RX8 111 yX10_isFull cX10_isFull 1 (some .boolean) 0 := ⟨Or.inl (tb6 (List.mem_of_getElem? (i := 66) rfl)), (tb6 (List.mem_of_getElem? (i := 69) rfl)), (tb1 (List.mem_of_getElem? (i := 29) rfl)), by decide +kernel, by decide +kernel, by decide +kernel⟩
theorem im_X10_isFull : Cond.instanceMethod yX10_isFull ∈ lw_tbl := (tb6 (List.mem_of_getElem? (i := 67) rfl))
theorem se_X10_isFull : Cond.selects RX10 yX10_isFull yX10_isFull ∈ lw_tbl := (tb6 (List.mem_of_getElem? (i := 68) rfl))
theorem fl_X8_115 : FLk RX8 115 7 0 (RX7, TX7, 13) := ⟨rfl, by decide, iw_X7, Or.inr ⟨"GrassField", (tb2 (List.mem_of_getElem? (i := 27) rfl))⟩⟩
theorem cl_X8_119 : CLk RX8 119 yX10_add cX10_add 7 none 3 := ⟨Or.inl (tb6 (List.mem_of_getElem? (i := 70) rfl)), (tb6 (List.mem_of_getElem? (i := 73) rfl)), (tb1 (List.mem_of_getElem? (i := 29) rfl)), by decide +kernel, by decide +kernel, by decide +kernel⟩
theorem im_X10_add : Cond.instanceMethod yX10_add ∈ lw_tbl := (tb6 (List.mem_of_getElem? (i := 71) rfl))
theorem se_X10_add : Cond.selects RX10 yX10_add yX10_add ∈ lw_tbl := (tb6 (List.mem_of_getElem? (i := 72) rfl))
theorem fl_X8_108 : FLk RX8 108 10 0 (RX10, TX10, 9) := ⟨rfl, by decide, iw_X10, Or.inr ⟨"GrassField", (tb6 (List.mem_of_getElem? (i := 33) rfl))⟩⟩
theorem fp_X8_108 : FPk RX8 108 10 0 (RX10, TX10, 9) tyX10 0 := ⟨fl_X8_108, nmX10, tyX10_ok, Or.inl ⟨rfl, rfl, rfl⟩⟩
theorem cl_X8_56 : CLk RX8 56 yX1_isSeen cX1_isSeen 3 (some .boolean) 2 := ⟨Or.inl (tb3 (List.mem_of_getElem? (i := 6) rfl)), (tb2 (List.mem_of_getElem? (i := 205) rfl)), (tb1 (List.mem_of_getElem? (i := 7) rfl)), by decide +kernel, by decide +kernel, by decide +kernel⟩
theorem cl_X8_43 : CLk RX8 43 yX1_nearRows cX1_nearRows 1 (some .int) 0 := ⟨Or.inl (tb3 (List.mem_of_getElem? (i := 5) rfl)), (tb2 (List.mem_of_getElem? (i := 192) rfl)), (tb1 (List.mem_of_getElem? (i := 7) rfl)), by decide +kernel, by decide +kernel, by decide +kernel⟩
theorem cl_X8_150 : CLk RX8 150 yJ7_fill_53178 cJ7_fill_53178 4 none 2 := ⟨Or.inl (tb6 (List.mem_of_getElem? (i := 169) rfl)), (tb6 (List.mem_of_getElem? (i := 171) rfl)), (tb1 (List.mem_of_getElem? (i := 25) rfl)), by decide +kernel, by decide +kernel, by decide +kernel⟩
theorem st_J7_fill_53178 : Cond.static yJ7_fill_53178 ∈ lw_tbl := (tb6 (List.mem_of_getElem? (i := 170) rfl))
theorem cl_X8_156 : CLk RX8 156 yX8_tallyCells cX8_tallyCells 5 none 1 := ⟨Or.inl (tb6 (List.mem_of_getElem? (i := 165) rfl)), (tb6 (List.mem_of_getElem? (i := 168) rfl)), (tb1 (List.mem_of_getElem? (i := 10) rfl)), by decide +kernel, by decide +kernel, by decide +kernel⟩
theorem im_X8_tallyCells : Cond.instanceMethod yX8_tallyCells ∈ lw_tbl := (tb6 (List.mem_of_getElem? (i := 167) rfl))
theorem se_X8_tallyCells : Cond.selects RX8 yX8_tallyCells yX8_tallyCells ∈ lw_tbl := (tbp3 15 rfl)
theorem fl_X8_198 : FLk RX8 198 8 6 (RX8, TX8, 9) := ⟨rfl, by decide, iw_X8, Or.inl (tb2 (List.mem_of_getElem? (i := 116) rfl))⟩
theorem fl_X8_53 : FLk RX8 53 1 1 (RX1, TX1, 10) := ⟨rfl, by decide, iw_X1, Or.inr ⟨"GrassField", (tb1 (List.mem_of_getElem? (i := 176) rfl))⟩⟩
theorem fp_X8_198 : FPk RX8 198 8 6 (RX8, TX8, 9) tyX8 0 := ⟨fl_X8_198, nmX8, tyX8_ok, Or.inl ⟨rfl, rfl, rfl⟩⟩
theorem cl_X8_60 : CLk RX8 60 yX7_gunsOf cX7_gunsOf 2 (some .int) 1 := ⟨Or.inl (tb5 (List.mem_of_getElem? (i := 211) rfl)), (tb5 (List.mem_of_getElem? (i := 170) rfl)), (tb1 (List.mem_of_getElem? (i := 3) rfl)), by decide +kernel, by decide +kernel, by decide +kernel⟩
theorem im_X7_gunsOf : Cond.instanceMethod yX7_gunsOf ∈ lw_tbl := (tb5 (List.mem_of_getElem? (i := 168) rfl))
theorem se_X7_gunsOf : Cond.selects RX7 yX7_gunsOf yX7_gunsOf ∈ lw_tbl := (tb5 (List.mem_of_getElem? (i := 169) rfl))
theorem cl_X8_179 : CLk RX8 179 yX3_far cX3_far 4 (some .int) 2 := ⟨Or.inl (tb3 (List.mem_of_getElem? (i := 7) rfl)), (tb2 (List.mem_of_getElem? (i := 231) rfl)), (tb1 (List.mem_of_getElem? (i := 4) rfl)), by decide +kernel, by decide +kernel, by decide +kernel⟩
theorem fl_X8_166 : FLk RX8 166 7 4 (RX7, TX7, 13) := ⟨rfl, by decide, iw_X7, Or.inr ⟨"GrassField", (tb2 (List.mem_of_getElem? (i := 40) rfl))⟩⟩
theorem cl_X8_170 : CLk RX8 170 yX9_isPossible cX9_isPossible 5 (some .boolean) 2 := ⟨Or.inl (tb2 (List.mem_of_getElem? (i := 221) rfl)), (tb2 (List.mem_of_getElem? (i := 224) rfl)), (tb1 (List.mem_of_getElem? (i := 8) rfl)), by decide +kernel, by decide +kernel, by decide +kernel⟩
theorem im_X9_isPossible : Cond.instanceMethod yX9_isPossible ∈ lw_tbl := (tb2 (List.mem_of_getElem? (i := 222) rfl))
theorem se_X9_isPossible : Cond.selects RX9 yX9_isPossible yX9_isPossible ∈ lw_tbl := (tb2 (List.mem_of_getElem? (i := 223) rfl))
theorem fl_X8_176 : FLk RX8 176 9 7 (RX9, TX9, 9) := ⟨rfl, by decide, iw_X9, Or.inr ⟨"GrassField", (tb2 (List.mem_of_getElem? (i := 1) rfl))⟩⟩
theorem ml_X8_147 : Cond.methodLink RX8 147 Lib.Math.min.name ∈ lw_tbl := (tb6 (List.mem_of_getElem? (i := 152) rfl))
theorem ml_X8_139 : Cond.methodLink RX8 139 Lib.Math.max.name ∈ lw_tbl := (tb6 (List.mem_of_getElem? (i := 153) rfl))
theorem cl_X8_135 : CLk RX8 135 yX8_pieceFrom cX8_pieceFrom 7 (some .int) 3 := ⟨Or.inl (tb6 (List.mem_of_getElem? (i := 148) rfl)), (tb6 (List.mem_of_getElem? (i := 151) rfl)), (tb1 (List.mem_of_getElem? (i := 10) rfl)), by decide +kernel, by decide +kernel, by decide +kernel⟩
theorem im_X8_pieceFrom : Cond.instanceMethod yX8_pieceFrom ∈ lw_tbl := (tb6 (List.mem_of_getElem? (i := 150) rfl))
theorem se_X8_pieceFrom : Cond.selects RX8 yX8_pieceFrom yX8_pieceFrom ∈ lw_tbl := (tbp3 14 rfl)
theorem cl_X8_218 : CLk RX8 218 yX8_longestPiece cX8_longestPiece 7 (some .int) 3 := ⟨Or.inl (tb7 (List.mem_of_getElem? (i := 68) rfl)), (tb6 (List.mem_of_getElem? (i := 147) rfl)), (tb1 (List.mem_of_getElem? (i := 10) rfl)), by decide +kernel, by decide +kernel, by decide +kernel⟩
theorem im_X8_longestPiece : Cond.instanceMethod yX8_longestPiece ∈ lw_tbl := (tb6 (List.mem_of_getElem? (i := 145) rfl))
theorem se_X8_longestPiece : Cond.selects RX8 yX8_longestPiece yX8_longestPiece ∈ lw_tbl := (tb6 (List.mem_of_getElem? (i := 146) rfl))
theorem cl_X8_215 : CLk RX8 215 yX8_heapCount cX8_heapCount 4 (some .int) 1 := ⟨Or.inl (tb7 (List.mem_of_getElem? (i := 67) rfl)), (tb6 (List.mem_of_getElem? (i := 175) rfl)), (tb1 (List.mem_of_getElem? (i := 10) rfl)), by decide +kernel, by decide +kernel, by decide +kernel⟩
theorem im_X8_heapCount : Cond.instanceMethod yX8_heapCount ∈ lw_tbl := (tb6 (List.mem_of_getElem? (i := 173) rfl))
theorem se_X8_heapCount : Cond.selects RX8 yX8_heapCount yX8_heapCount ∈ lw_tbl := (tb6 (List.mem_of_getElem? (i := 174) rfl))
theorem fl_X8_182 : FLk RX8 182 9 5 (RX9, TX9, 9) := ⟨rfl, by decide, iw_X9, Or.inr ⟨"GrassField", (tb1 (List.mem_of_getElem? (i := 236) rfl))⟩⟩
theorem cl_X8_185 : CLk RX8 185 yX8_isBorneOut cX8_isBorneOut 6 (some .boolean) 1 := ⟨Or.inl (tb2 (List.mem_of_getElem? (i := 217) rfl)), (tb2 (List.mem_of_getElem? (i := 220) rfl)), (tb1 (List.mem_of_getElem? (i := 10) rfl)), by decide +kernel, by decide +kernel, by decide +kernel⟩
theorem im_X8_isBorneOut : Cond.instanceMethod yX8_isBorneOut ∈ lw_tbl := (tb2 (List.mem_of_getElem? (i := 218) rfl))
theorem se_X8_isBorneOut : Cond.selects RX8 yX8_isBorneOut yX8_isBorneOut ∈ lw_tbl := (tb2 (List.mem_of_getElem? (i := 219) rfl))
theorem cl_X8_212 : CLk RX8 212 yX8_fewestGuns cX8_fewestGuns 6 (some .int) 2 := ⟨Or.inl (tb7 (List.mem_of_getElem? (i := 66) rfl)), (tb5 (List.mem_of_getElem? (i := 215) rfl)), (tb1 (List.mem_of_getElem? (i := 10) rfl)), by decide +kernel, by decide +kernel, by decide +kernel⟩
theorem im_X8_fewestGuns : Cond.instanceMethod yX8_fewestGuns ∈ lw_tbl := (tb5 (List.mem_of_getElem? (i := 213) rfl))
theorem se_X8_fewestGuns : Cond.selects RX8 yX8_fewestGuns yX8_fewestGuns ∈ lw_tbl := (tb5 (List.mem_of_getElem? (i := 214) rfl))
theorem cl_X8_209 : CLk RX8 209 yX8_refresh cX8_refresh 5 none 0 := ⟨Or.inl (tb7 (List.mem_of_getElem? (i := 65) rfl)), (tb5 (List.mem_of_getElem? (i := 210) rfl)), (tb1 (List.mem_of_getElem? (i := 10) rfl)), by decide +kernel, by decide +kernel, by decide +kernel⟩
theorem im_X8_refresh : Cond.instanceMethod yX8_refresh ∈ lw_tbl := (tb5 (List.mem_of_getElem? (i := 208) rfl))
theorem se_X8_refresh : Cond.selects RX8 yX8_refresh yX8_refresh ∈ lw_tbl := (tb5 (List.mem_of_getElem? (i := 209) rfl))
theorem fl_X8_221 : FLk RX8 221 7 7 (RX7, TX7, 13) := ⟨rfl, by decide, iw_X7, Or.inr ⟨"GrassField", (tb2 (List.mem_of_getElem? (i := 48) rfl))⟩⟩
theorem cl_X8_225 : CLk RX8 225 yX5_answer cX5_answer 6 (some .int) 1 := ⟨Or.inl (tb7 (List.mem_of_getElem? (i := 73) rfl)), (tb5 (List.mem_of_getElem? (i := 96) rfl)), (tb1 (List.mem_of_getElem? (i := 24) rfl)), by decide +kernel, by decide +kernel, by decide +kernel⟩
theorem im_X5_answer : Cond.instanceMethod yX5_answer ∈ lw_tbl := (tb5 (List.mem_of_getElem? (i := 94) rfl))
theorem se_X5_answer : Cond.selects RX5 yX5_answer yX5_answer ∈ lw_tbl := (tb5 (List.mem_of_getElem? (i := 95) rfl))
theorem fl_X8_105 : FLk RX8 105 1 4 (RX1, TX1, 10) := ⟨rfl, by decide, iw_X1, Or.inr ⟨"GrassField", (tb1 (List.mem_of_getElem? (i := 187) rfl))⟩⟩
theorem fl_X8_99 : FLk RX8 99 7 10 (RX7, TX7, 13) := ⟨rfl, by decide, iw_X7, Or.inr ⟨"GrassField", (tb2 (List.mem_of_getElem? (i := 56) rfl))⟩⟩
theorem fl_X8_160 : FLk RX8 160 2 1 (RX2, TX2, 5) := ⟨rfl, by decide, iw_X2, Or.inr ⟨"GrassField", (tb1 (List.mem_of_getElem? (i := 107) rfl))⟩⟩
theorem cl_X8_163 : CLk RX8 163 yX8_sureCases cX8_sureCases 4 (some .int) 1 := ⟨Or.inl (tb6 (List.mem_of_getElem? (i := 187) rfl)), (tb6 (List.mem_of_getElem? (i := 190) rfl)), (tb1 (List.mem_of_getElem? (i := 10) rfl)), by decide +kernel, by decide +kernel, by decide +kernel⟩
theorem im_X8_sureCases : Cond.instanceMethod yX8_sureCases ∈ lw_tbl := (tb6 (List.mem_of_getElem? (i := 189) rfl))
theorem se_X8_sureCases : Cond.selects RX8 yX8_sureCases yX8_sureCases ∈ lw_tbl := (tbp4 0 rfl)
theorem cl_X8_102 : CLk RX8 102 yX2_madeBehind cX2_madeBehind 4 (some .int) 1 := ⟨Or.inl (tb6 (List.mem_of_getElem? (i := 11) rfl)), (tb6 (List.mem_of_getElem? (i := 14) rfl)), (tb1 (List.mem_of_getElem? (i := 5) rfl)), by decide +kernel, by decide +kernel, by decide +kernel⟩
theorem im_X2_madeBehind : Cond.instanceMethod yX2_madeBehind ∈ lw_tbl := (tb6 (List.mem_of_getElem? (i := 12) rfl))
theorem se_X2_madeBehind : Cond.selects RX2 yX2_madeBehind yX2_madeBehind ∈ lw_tbl := (tb6 (List.mem_of_getElem? (i := 13) rfl))
theorem cl_X8_195 : CLk RX8 195 yX9_mayHaveTalked cX9_mayHaveTalked 3 (some .boolean) 2 := ⟨Or.inl (tb3 (List.mem_of_getElem? (i := 18) rfl)), (tb3 (List.mem_of_getElem? (i := 21) rfl)), (tb1 (List.mem_of_getElem? (i := 8) rfl)), by decide +kernel, by decide +kernel, by decide +kernel⟩
theorem im_X9_mayHaveTalked : Cond.instanceMethod yX9_mayHaveTalked ∈ lw_tbl := (tb3 (List.mem_of_getElem? (i := 19) rfl))
theorem se_X9_mayHaveTalked : Cond.selects RX9 yX9_mayHaveTalked yX9_mayHaveTalked ∈ lw_tbl := (tb3 (List.mem_of_getElem? (i := 20) rfl))
theorem fl_X8_194 : FLk RX8 194 9 0 (RX9, TX9, 9) := ⟨rfl, by decide, iw_X9, Or.inr ⟨"GrassField", (tb1 (List.mem_of_getElem? (i := 229) rfl))⟩⟩
theorem cl_X8_191 : CLk RX8 191 yX8_nobodyTalked cX8_nobodyTalked 5 (some .boolean) 1 := ⟨Or.inl (tb3 (List.mem_of_getElem? (i := 14) rfl)), (tb3 (List.mem_of_getElem? (i := 17) rfl)), (tb1 (List.mem_of_getElem? (i := 10) rfl)), by decide +kernel, by decide +kernel, by decide +kernel⟩
theorem im_X8_nobodyTalked : Cond.instanceMethod yX8_nobodyTalked ∈ lw_tbl := (tb3 (List.mem_of_getElem? (i := 16) rfl))
theorem se_X8_nobodyTalked : Cond.selects RX8 yX8_nobodyTalked yX8_nobodyTalked ∈ lw_tbl := (tbp1 2 rfl)
theorem fl_X8_188 : FLk RX8 188 9 6 (RX9, TX9, 9) := ⟨rfl, by decide, iw_X9, Or.inr ⟨"GrassField", (tb1 (List.mem_of_getElem? (i := 239) rfl))⟩⟩
theorem cl_X8_205 : CLk RX8 205 yX8_nameOne cX8_nameOne 5 none 2 := ⟨Or.inl (tb7 (List.mem_of_getElem? (i := 24) rfl)), (tb7 (List.mem_of_getElem? (i := 27) rfl)), (tb1 (List.mem_of_getElem? (i := 10) rfl)), by decide +kernel, by decide +kernel, by decide +kernel⟩
theorem im_X8_nameOne : Cond.instanceMethod yX8_nameOne ∈ lw_tbl := (tb7 (List.mem_of_getElem? (i := 26) rfl))
theorem se_X8_nameOne : Cond.selects RX8 yX8_nameOne yX8_nameOne ∈ lw_tbl := (tbp4 2 rfl)
theorem cl_X8_201 : CLk RX8 201 yX8_nameOthers cX8_nameOthers 4 none 1 := ⟨Or.inl (tb7 (List.mem_of_getElem? (i := 20) rfl)), (tb7 (List.mem_of_getElem? (i := 23) rfl)), (tb1 (List.mem_of_getElem? (i := 10) rfl)), by decide +kernel, by decide +kernel, by decide +kernel⟩
theorem im_X8_nameOthers : Cond.instanceMethod yX8_nameOthers ∈ lw_tbl := (tb7 (List.mem_of_getElem? (i := 22) rfl))
theorem se_X8_nameOthers : Cond.selects RX8 yX8_nameOthers yX8_nameOthers ∈ lw_tbl := (tbp4 1 rfl)
theorem cl_X8_234 : CLk RX8 234 yX8_isTrue cX8_isTrue 3 (some .boolean) 1 := ⟨Or.inl (tb7 (List.mem_of_getElem? (i := 85) rfl)), (tb7 (List.mem_of_getElem? (i := 72) rfl)), (tb1 (List.mem_of_getElem? (i := 10) rfl)), by decide +kernel, by decide +kernel, by decide +kernel⟩
theorem im_X8_isTrue : Cond.instanceMethod yX8_isTrue ∈ lw_tbl := (tb7 (List.mem_of_getElem? (i := 70) rfl))
theorem se_X8_isTrue : Cond.selects RX8 yX8_isTrue yX8_isTrue ∈ lw_tbl := (tb7 (List.mem_of_getElem? (i := 71) rfl))
theorem fl_X8_237 : FLk RX8 237 7 8 (RX7, TX7, 13) := ⟨rfl, by decide, iw_X7, Or.inr ⟨"GrassField", (tb2 (List.mem_of_getElem? (i := 50) rfl))⟩⟩
theorem fl_X8_231 : FLk RX8 231 7 9 (RX7, TX7, 13) := ⟨rfl, by decide, iw_X7, Or.inr ⟨"GrassField", (tb2 (List.mem_of_getElem? (i := 52) rfl))⟩⟩
-- GrassField$Study.<init>(LGrassField$State;)V
theorem dX8_init_0 : decode cX8_init 0 = .ok (.aload_n 0, 1) := by decide +kernel
theorem dX8_init_1 : decode cX8_init 1 = .ok (.invokespecial 3, 3) := by decide +kernel
theorem dX8_init_4 : decode cX8_init 4 = .ok (.aload_n 0, 1) := by decide +kernel
theorem dX8_init_5 : decode cX8_init 5 = .ok (.bipush 120, 2) := by decide +kernel
theorem dX8_init_7 : decode cX8_init 7 = .ok (.newarray .int, 2) := by decide +kernel
theorem dX8_init_9 : decode cX8_init 9 = .ok (.putfield 9, 3) := by decide +kernel
theorem dX8_init_12 : decode cX8_init 12 = .ok (.aload_n 0, 1) := by decide +kernel
theorem dX8_init_13 : decode cX8_init 13 = .ok (.bipush 120, 2) := by decide +kernel
theorem dX8_init_15 : decode cX8_init 15 = .ok (.newarray .int, 2) := by decide +kernel
theorem dX8_init_17 : decode cX8_init 17 = .ok (.putfield 15, 3) := by decide +kernel
theorem dX8_init_20 : decode cX8_init 20 = .ok (.aload_n 0, 1) := by decide +kernel
theorem dX8_init_21 : decode cX8_init 21 = .ok (.bipush 16, 2) := by decide +kernel
theorem dX8_init_23 : decode cX8_init 23 = .ok (.newarray .int, 2) := by decide +kernel
theorem dX8_init_25 : decode cX8_init 25 = .ok (.putfield 18, 3) := by decide +kernel
theorem dX8_init_28 : decode cX8_init 28 = .ok (.aload_n 0, 1) := by decide +kernel
theorem dX8_init_29 : decode cX8_init 29 = .ok (.sipush 256, 3) := by decide +kernel
theorem dX8_init_32 : decode cX8_init 32 = .ok (.newarray .int, 2) := by decide +kernel
theorem dX8_init_34 : decode cX8_init 34 = .ok (.putfield 21, 3) := by decide +kernel
theorem dX8_init_37 : decode cX8_init 37 = .ok (.aload_n 0, 1) := by decide +kernel
theorem dX8_init_38 : decode cX8_init 38 = .ok (.bipush 8, 2) := by decide +kernel
theorem dX8_init_40 : decode cX8_init 40 = .ok (.newarray .int, 2) := by decide +kernel
theorem dX8_init_42 : decode cX8_init 42 = .ok (.putfield 24, 3) := by decide +kernel
theorem dX8_init_45 : decode cX8_init 45 = .ok (.aload_n 0, 1) := by decide +kernel
theorem dX8_init_46 : decode cX8_init 46 = .ok (.sipush 256, 3) := by decide +kernel
theorem dX8_init_49 : decode cX8_init 49 = .ok (.newarray .int, 2) := by decide +kernel
theorem dX8_init_51 : decode cX8_init 51 = .ok (.putfield 27, 3) := by decide +kernel
theorem dX8_init_54 : decode cX8_init 54 = .ok (.aload_n 0, 1) := by decide +kernel
theorem dX8_init_55 : decode cX8_init 55 = .ok (.bipush 8, 2) := by decide +kernel
theorem dX8_init_57 : decode cX8_init 57 = .ok (.newarray .int, 2) := by decide +kernel
theorem dX8_init_59 : decode cX8_init 59 = .ok (.putfield 30, 3) := by decide +kernel
theorem dX8_init_62 : decode cX8_init 62 = .ok (.aload_n 0, 1) := by decide +kernel
theorem dX8_init_63 : decode cX8_init 63 = .ok (.aload_n 1, 1) := by decide +kernel
theorem dX8_init_64 : decode cX8_init 64 = .ok (.putfield 33, 3) := by decide +kernel
theorem dX8_init_67 : decode cX8_init 67 = .ok (.return_, 1) := by decide +kernel
def w_X8_init  (v0 : Nat) (v1 : Nat) (h : AH) (Q : AH → Prop) : Prop :=
  wA h 0 120 fun a1 h =>
  uO h v0 8 1 (some a1) fun h =>
  wA h 0 120 fun a2 h =>
  uO h v0 8 2 (some a2) fun h =>
  wA h 0 16 fun a3 h =>
  uO h v0 8 3 (some a3) fun h =>
  wA h 0 256 fun a4 h =>
  uO h v0 8 4 (some a4) fun h =>
  wA h 0 8 fun a5 h =>
  uO h v0 8 5 (some a5) fun h =>
  wA h 0 256 fun a6 h =>
  uO h v0 8 7 (some a6) fun h =>
  wA h 0 8 fun a7 h =>
  uO h v0 8 8 (some a7) fun h =>
  uO h v0 8 0 (some v1) fun h =>
  Q h
set_option maxRecDepth 100000 in
set_option maxHeartbeats 4000000 in
theorem s_X8_init {l : Launch}  {v0 : Nat} {v1 : Nat} {h : AH} {Q : AH → Prop}  (hw : w_X8_init  v0 v1 h Q) : CT l yX8_init cX8_init 2 none 1 7 784 [.ref v0, .ref v1] h (QV Q) := by
  refine CT.of (by decide) ⟨rfl, ⟨rfl, trivial⟩⟩ (Nat.le_of_ble_eq_true rfl) ?_
  intro p e s m args below meth c g C hr hin
  refine v_eq (pc' := 0) (ls' := [(0, .ref v0), (1, .ref v1)]) rfl rfl rfl rfl ?_
  refine v_aload_n C dX8_init_0 0 rfl rfl ?_
  refine v_objInit C (tb2 (List.mem_of_getElem? (i := 108) rfl)) (tb1 (List.mem_of_getElem? (i := 36) rfl)) (tb1 (List.mem_of_getElem? (i := 37) rfl)) dX8_init_1 (by decide) (by decide) ?_
  refine v_aload_n C dX8_init_4 0 rfl rfl ?_
  refine v_bipush (v := 120) C dX8_init_5 (by decide) ?_
  refine v_newa (atype := .int) (j := 0) (N := 120) C rfl rfl (by decide) rfl rfl (tb1 (List.mem_of_getElem? (i := 77) rfl)) dX8_init_7 (by decide) (by decide) (by decide) (by decide) (by decide) (fun a1 hn => ?_)
  have hw := hw a1 hn
  generalize nA h a1 0 120 = h at hw ⊢
  refine w_putN C fp_X8_9 (Or.inr ⟨hin, rfl, rfl, (tb2 (List.mem_of_getElem? (i := 110) rfl))⟩) dX8_init_9 hw (fun h hw => ?_)
  refine v_aload_n C dX8_init_12 0 rfl rfl ?_
  refine v_bipush (v := 120) C dX8_init_13 (by decide) ?_
  refine v_newa (atype := .int) (j := 0) (N := 120) C rfl rfl (by decide) rfl rfl (tb1 (List.mem_of_getElem? (i := 77) rfl)) dX8_init_15 (by decide) (by decide) (by decide) (by decide) (by decide) (fun a2 hn => ?_)
  have hw := hw a2 hn
  generalize nA h a2 0 120 = h at hw ⊢
  refine w_putN C fp_X8_15 (Or.inr ⟨hin, rfl, rfl, (tb2 (List.mem_of_getElem? (i := 112) rfl))⟩) dX8_init_17 hw (fun h hw => ?_)
  refine v_aload_n C dX8_init_20 0 rfl rfl ?_
  refine v_bipush (v := 16) C dX8_init_21 (by decide) ?_
  refine v_newa (atype := .int) (j := 0) (N := 16) C rfl rfl (by decide) rfl rfl (tb1 (List.mem_of_getElem? (i := 77) rfl)) dX8_init_23 (by decide) (by decide) (by decide) (by decide) (by decide) (fun a3 hn => ?_)
  have hw := hw a3 hn
  generalize nA h a3 0 16 = h at hw ⊢
  refine w_putN C fp_X8_18 (Or.inr ⟨hin, rfl, rfl, (tb2 (List.mem_of_getElem? (i := 113) rfl))⟩) dX8_init_25 hw (fun h hw => ?_)
  refine v_aload_n C dX8_init_28 0 rfl rfl ?_
  refine v_sipush (v := 256) C dX8_init_29 (by decide) ?_
  refine v_newa (atype := .int) (j := 0) (N := 256) C rfl rfl (by decide) rfl rfl (tb1 (List.mem_of_getElem? (i := 77) rfl)) dX8_init_32 (by decide) (by decide) (by decide) (by decide) (by decide) (fun a4 hn => ?_)
  have hw := hw a4 hn
  generalize nA h a4 0 256 = h at hw ⊢
  refine w_putN C fp_X8_21 (Or.inr ⟨hin, rfl, rfl, (tb2 (List.mem_of_getElem? (i := 114) rfl))⟩) dX8_init_34 hw (fun h hw => ?_)
  refine v_aload_n C dX8_init_37 0 rfl rfl ?_
  refine v_bipush (v := 8) C dX8_init_38 (by decide) ?_
  refine v_newa (atype := .int) (j := 0) (N := 8) C rfl rfl (by decide) rfl rfl (tb1 (List.mem_of_getElem? (i := 77) rfl)) dX8_init_40 (by decide) (by decide) (by decide) (by decide) (by decide) (fun a5 hn => ?_)
  have hw := hw a5 hn
  generalize nA h a5 0 8 = h at hw ⊢
  refine w_putN C fp_X8_24 (Or.inr ⟨hin, rfl, rfl, (tb2 (List.mem_of_getElem? (i := 115) rfl))⟩) dX8_init_42 hw (fun h hw => ?_)
  refine v_aload_n C dX8_init_45 0 rfl rfl ?_
  refine v_sipush (v := 256) C dX8_init_46 (by decide) ?_
  refine v_newa (atype := .int) (j := 0) (N := 256) C rfl rfl (by decide) rfl rfl (tb1 (List.mem_of_getElem? (i := 77) rfl)) dX8_init_49 (by decide) (by decide) (by decide) (by decide) (by decide) (fun a6 hn => ?_)
  have hw := hw a6 hn
  generalize nA h a6 0 256 = h at hw ⊢
  refine w_putN C fp_X8_27 (Or.inr ⟨hin, rfl, rfl, (tb2 (List.mem_of_getElem? (i := 117) rfl))⟩) dX8_init_51 hw (fun h hw => ?_)
  refine v_aload_n C dX8_init_54 0 rfl rfl ?_
  refine v_bipush (v := 8) C dX8_init_55 (by decide) ?_
  refine v_newa (atype := .int) (j := 0) (N := 8) C rfl rfl (by decide) rfl rfl (tb1 (List.mem_of_getElem? (i := 77) rfl)) dX8_init_57 (by decide) (by decide) (by decide) (by decide) (by decide) (fun a7 hn => ?_)
  have hw := hw a7 hn
  generalize nA h a7 0 8 = h at hw ⊢
  refine w_putN C fp_X8_30 (Or.inr ⟨hin, rfl, rfl, (tb2 (List.mem_of_getElem? (i := 118) rfl))⟩) dX8_init_59 hw (fun h hw => ?_)
  refine v_aload_n C dX8_init_62 0 rfl rfl ?_
  refine v_aload_n C dX8_init_63 1 rfl rfl ?_
  refine w_putN C fp_X8_33 (Or.inr ⟨hin, rfl, rfl, (tb2 (List.mem_of_getElem? (i := 109) rfl))⟩) dX8_init_64 hw (fun h hw => ?_)
  exact (rt_MQ C _).2.2.1 _ _ _ _ _ hr dX8_init_67 (by decide) (by decide) ⟨rfl, hw⟩
-- GrassField$Study.isCase(I)Z
theorem dX8_isCase_0 : decode cX8_isCase 0 = .ok (.aload_n 0, 1) := by decide +kernel
theorem dX8_isCase_1 : decode cX8_isCase 1 = .ok (.getfield 9, 3) := by decide +kernel
theorem dX8_isCase_4 : decode cX8_isCase 4 = .ok (.iload_n 1, 1) := by decide +kernel
theorem dX8_isCase_5 : decode cX8_isCase 5 = .ok (.iaload, 1) := by decide +kernel
theorem dX8_isCase_6 : decode cX8_isCase 6 = .ok (.iconst (-1), 1) := by decide +kernel
theorem dX8_isCase_7 : decode cX8_isCase 7 = .ok (.if_icmp .eq 7, 3) := by decide +kernel
theorem dX8_isCase_10 : decode cX8_isCase 10 = .ok (.iconst 1, 1) := by decide +kernel
theorem dX8_isCase_11 : decode cX8_isCase 11 = .ok (.goto 4, 3) := by decide +kernel
theorem dX8_isCase_14 : decode cX8_isCase 14 = .ok (.iconst 0, 1) := by decide +kernel
theorem dX8_isCase_15 : decode cX8_isCase 15 = .ok (.ireturn, 1) := by decide +kernel
def w_X8_isCase_15  (t0 : Int32) (h : AH) (Q : Int32 → AH → Prop) : Prop :=
  z1 t0 (Q t0 h)
def w_X8_isCase  (v0 : Nat) (v1 : Int32) (h : AH) (Q : Int32 → AH → Prop) : Prop :=
  fN h v0 8 1 fun a1 =>
  aI h a1 v1 fun x2 =>
  br (x2 = (-1 : Int32)) (
    w_X8_isCase_15 (0 : Int32) h Q) (
    w_X8_isCase_15 (1 : Int32) h Q)
set_option maxRecDepth 100000 in
set_option maxHeartbeats 4000000 in
theorem s_X8_isCase_15 {p : Program} {l : Launch} {e : Env} {s : State} {m : MethodId} {args : Array Value} {below : List Frame} {meth : Method} {c : Code} {g : GG}  {Q : Int32 → AH → Prop}  (C : CXT p l s m args meth c RX8 cX8_isCase 2 g) (hr : meth.sig.returnType = (some .boolean))  : ∀ (t0 : Int32) (h : AH), w_X8_isCase_15  t0 h Q → V p l e s m args below meth c g 0 0 0 2 0 0 (MQ below (QCx g (QI Q)) args s 0 0 (gA g)) 15 [] [.int t0] h := by
  intro t0 h hw
  exact (rt_MQ C _).2.1 _ _ _ _ _ _ _ hr (by rcases hw.1 with z | z <;> rw [z] <;> rfl) dX8_isCase_15 (by decide) (by decide) ⟨_, rfl, hw.2⟩
set_option maxRecDepth 100000 in
set_option maxHeartbeats 4000000 in
theorem s_X8_isCase {l : Launch}  {v0 : Nat} {v1 : Int32} {h : AH} {Q : Int32 → AH → Prop}  (hw : w_X8_isCase  v0 v1 h Q) : CT l yX8_isCase cX8_isCase 2 (some .boolean) 0 0 0 [.ref v0, .int v1] h (QI Q) := by
  refine CT.of (by decide) ⟨rfl, ⟨rfl, trivial⟩⟩ (Nat.le_of_ble_eq_true rfl) ?_
  intro p e s m args below meth c g C hr hin
  refine v_eq (pc' := 0) (ls' := [(0, .ref v0), (1, .int v1)]) rfl rfl rfl rfl ?_
  refine v_aload_n C dX8_isCase_0 0 rfl rfl ?_
  refine w_getN C fl_X8_9 dX8_isCase_1 rfl hw (fun a1 hw => ?_)
  refine v_iload_n C dX8_isCase_4 1 rfl rfl ?_
  refine w_iaload C dX8_isCase_5 hw (fun x2 hw => ?_)
  refine v_iconst (v := -1) C dX8_isCase_6 (by decide) ?_
  refine v_icmp_eq (tgt := 14) C dX8_isCase_7 (by decide) (fun c_7 => ?_) (fun c_7 => ?_)
  · have hw := hw.1 c_7
    refine v_iconst (v := 0) C dX8_isCase_14 (by decide) ?_
    refine v_sub [] rfl ?_
    exact s_X8_isCase_15 C hr  _ _ hw
  · have hw := hw.2 c_7
    refine v_iconst (v := 1) C dX8_isCase_10 (by decide) ?_
    refine v_goto (tgt := 15) C dX8_isCase_11 (by decide) ?_
    refine v_sub [] rfl ?_
    exact s_X8_isCase_15 C hr  _ _ hw
-- GrassField$Study.isSure(I)Z
theorem dX8_isSure_0 : decode cX8_isSure 0 = .ok (.aload_n 0, 1) := by decide +kernel
theorem dX8_isSure_1 : decode cX8_isSure 1 = .ok (.iload_n 1, 1) := by decide +kernel
theorem dX8_isSure_2 : decode cX8_isSure 2 = .ok (.invokevirtual 64, 3) := by decide +kernel
theorem dX8_isSure_5 : decode cX8_isSure 5 = .ok (.ifCond .eq 20, 3) := by decide +kernel
theorem dX8_isSure_8 : decode cX8_isSure 8 = .ok (.aload_n 0, 1) := by decide +kernel
theorem dX8_isSure_9 : decode cX8_isSure 9 = .ok (.getfield 9, 3) := by decide +kernel
theorem dX8_isSure_12 : decode cX8_isSure 12 = .ok (.iload_n 1, 1) := by decide +kernel
theorem dX8_isSure_13 : decode cX8_isSure 13 = .ok (.iaload, 1) := by decide +kernel
theorem dX8_isSure_14 : decode cX8_isSure 14 = .ok (.invokestatic 68, 3) := by decide +kernel
theorem dX8_isSure_17 : decode cX8_isSure 17 = .ok (.iconst 1, 1) := by decide +kernel
theorem dX8_isSure_18 : decode cX8_isSure 18 = .ok (.if_icmp .ne 7, 3) := by decide +kernel
theorem dX8_isSure_21 : decode cX8_isSure 21 = .ok (.iconst 1, 1) := by decide +kernel
theorem dX8_isSure_22 : decode cX8_isSure 22 = .ok (.goto 4, 3) := by decide +kernel
theorem dX8_isSure_25 : decode cX8_isSure 25 = .ok (.iconst 0, 1) := by decide +kernel
theorem dX8_isSure_26 : decode cX8_isSure 26 = .ok (.ireturn, 1) := by decide +kernel
def w_X8_isSure_26  (t0 : Int32) (h : AH) (Q : Int32 → AH → Prop) : Prop :=
  z1 t0 (Q t0 h)
def w_X8_isSure_25  (h : AH) (Q : Int32 → AH → Prop) : Prop :=
  w_X8_isSure_26 (0 : Int32) h Q
def w_X8_isSure  (v0 : Nat) (v1 : Int32) (h : AH) (Q : Int32 → AH → Prop) : Prop :=
  vr h v0 8 (
  w_X8_isCase v0 v1 h (fun x1 h =>
  br (x1 = 0) (
    w_X8_isSure_25  h Q) (
    fN h v0 8 1 fun a2 =>
    aI h a2 v1 fun x3 =>
    w_J6_bitCount_0f7a4 x3 h (fun x4 h =>
    br (x4 = (1 : Int32)) (
      w_X8_isSure_26 (1 : Int32) h Q) (
      w_X8_isSure_25  h Q)))))
set_option maxRecDepth 100000 in
set_option maxHeartbeats 4000000 in
theorem s_X8_isSure_26 {p : Program} {l : Launch} {e : Env} {s : State} {m : MethodId} {args : Array Value} {below : List Frame} {meth : Method} {c : Code} {g : GG}  {Q : Int32 → AH → Prop}  (C : CXT p l s m args meth c RX8 cX8_isSure 2 g) (hr : meth.sig.returnType = (some .boolean))  : ∀ (t0 : Int32) (h : AH), w_X8_isSure_26  t0 h Q → V p l e s m args below meth c g 1 0 0 2 0 0 (MQ below (QCx g (QI Q)) args s 0 0 (gA g)) 26 [] [.int t0] h := by
  intro t0 h hw
  exact (rt_MQ C _).2.1 _ _ _ _ _ _ _ hr (by rcases hw.1 with z | z <;> rw [z] <;> rfl) dX8_isSure_26 (by decide) (by decide) ⟨_, rfl, hw.2⟩
set_option maxRecDepth 100000 in
set_option maxHeartbeats 4000000 in
theorem s_X8_isSure_25 {p : Program} {l : Launch} {e : Env} {s : State} {m : MethodId} {args : Array Value} {below : List Frame} {meth : Method} {c : Code} {g : GG}  {Q : Int32 → AH → Prop}  (C : CXT p l s m args meth c RX8 cX8_isSure 2 g) (hr : meth.sig.returnType = (some .boolean))  : ∀  (h : AH), w_X8_isSure_25  h Q → V p l e s m args below meth c g 1 0 0 2 0 0 (MQ below (QCx g (QI Q)) args s 0 0 (gA g)) 25 [] [] h := by
  intro  h hw
  refine v_iconst (v := 0) C dX8_isSure_25 (by decide) ?_
  exact s_X8_isSure_26 C hr  _ _ hw
set_option maxRecDepth 100000 in
set_option maxHeartbeats 4000000 in
theorem s_X8_isSure {l : Launch}  {v0 : Nat} {v1 : Int32} {h : AH} {Q : Int32 → AH → Prop}  (hw : w_X8_isSure  v0 v1 h Q) : CT l yX8_isSure cX8_isSure 2 (some .boolean) 1 0 0 [.ref v0, .int v1] h (QI Q) := by
  refine CT.of (by decide) ⟨rfl, ⟨rfl, trivial⟩⟩ (Nat.le_of_ble_eq_true rfl) ?_
  intro p e s m args below meth c g C hr hin
  refine v_eq (pc' := 0) (ls' := [(0, .ref v0), (1, .int v1)]) rfl rfl rfl rfl ?_
  refine v_aload_n C dX8_isSure_0 0 rfl rfl ?_
  refine v_iload_n C dX8_isSure_1 1 rfl rfl ?_
  refine w_callVi (st := []) C cl_X8_64 im_X8_isCase se_X8_isCase rfl hw.1 (s_X8_isCase hw.2) rfl dX8_isSure_2 rfl (by decide) (by decide) (by decide) (by decide) (by decide) (fun x1 h hw => ?_)
  refine v_if_eq (tgt := 25) C dX8_isSure_5 (by decide) (fun c_5 => ?_) (fun c_5 => ?_)
  · have hw := hw.1 c_5
    refine v_sub [] rfl ?_
    exact s_X8_isSure_25 C hr   _ hw
  · have hw := hw.2 c_5
    refine v_aload_n C dX8_isSure_8 0 rfl rfl ?_
    refine w_getN C fl_X8_9 dX8_isSure_9 rfl hw (fun a2 hw => ?_)
    refine v_iload_n C dX8_isSure_12 1 rfl rfl ?_
    refine w_iaload C dX8_isSure_13 hw (fun x3 hw => ?_)
    refine w_callSi (st := []) C cl_X8_68 st_J6_bitCount_0f7a4 (s_J6_bitCount_0f7a4 hw) rfl dX8_isSure_14 rfl (by decide) (by decide) (by decide) (by decide) (by decide) (fun x4 h hw => ?_)
    refine v_iconst (v := 1) C dX8_isSure_17 (by decide) ?_
    refine v_icmp_ne (tgt := 25) C dX8_isSure_18 (by decide) (fun c_18 => ?_) (fun c_18 => ?_)
    · have hw := hw.2 c_18
      refine v_sub [] rfl ?_
      exact s_X8_isSure_25 C hr   _ hw
    · have hw := hw.1 c_18
      refine v_iconst (v := 1) C dX8_isSure_21 (by decide) ?_
      refine v_goto (tgt := 26) C dX8_isSure_22 (by decide) ?_
      refine v_sub [] rfl ?_
      exact s_X8_isSure_26 C hr  _ _ hw
-- GrassField$Study.gatherColumns(II)I
theorem dX8_gatherColumns_0 : decode cX8_gatherColumns 0 = .ok (.aload_n 0, 1) := by decide +kernel
theorem dX8_gatherColumns_1 : decode cX8_gatherColumns 1 = .ok (.getfield 33, 3) := by decide +kernel
theorem dX8_gatherColumns_4 : decode cX8_gatherColumns 4 = .ok (.getfield 77, 3) := by decide +kernel
theorem dX8_gatherColumns_7 : decode cX8_gatherColumns 7 = .ok (.iload_n 1, 1) := by decide +kernel
theorem dX8_gatherColumns_8 : decode cX8_gatherColumns 8 = .ok (.invokevirtual 123, 3) := by decide +kernel
theorem dX8_gatherColumns_11 : decode cX8_gatherColumns 11 = .ok (.istore_n 3, 1) := by decide +kernel
theorem dX8_gatherColumns_12 : decode cX8_gatherColumns 12 = .ok (.iconst 0, 1) := by decide +kernel
theorem dX8_gatherColumns_13 : decode cX8_gatherColumns 13 = .ok (.istore 4, 2) := by decide +kernel
theorem dX8_gatherColumns_15 : decode cX8_gatherColumns 15 = .ok (.iconst 0, 1) := by decide +kernel
theorem dX8_gatherColumns_16 : decode cX8_gatherColumns 16 = .ok (.istore 5, 2) := by decide +kernel
theorem dX8_gatherColumns_18 : decode cX8_gatherColumns 18 = .ok (.iload 5, 2) := by decide +kernel
theorem dX8_gatherColumns_20 : decode cX8_gatherColumns 20 = .ok (.aload_n 0, 1) := by decide +kernel
theorem dX8_gatherColumns_21 : decode cX8_gatherColumns 21 = .ok (.getfield 33, 3) := by decide +kernel
theorem dX8_gatherColumns_24 : decode cX8_gatherColumns 24 = .ok (.getfield 37, 3) := by decide +kernel
theorem dX8_gatherColumns_27 : decode cX8_gatherColumns 27 = .ok (.getfield 49, 3) := by decide +kernel
theorem dX8_gatherColumns_30 : decode cX8_gatherColumns 30 = .ok (.if_icmp .ge 66, 3) := by decide +kernel
theorem dX8_gatherColumns_33 : decode cX8_gatherColumns 33 = .ok (.aload_n 0, 1) := by decide +kernel
theorem dX8_gatherColumns_34 : decode cX8_gatherColumns 34 = .ok (.getfield 33, 3) := by decide +kernel
theorem dX8_gatherColumns_37 : decode cX8_gatherColumns 37 = .ok (.getfield 37, 3) := by decide +kernel
theorem dX8_gatherColumns_40 : decode cX8_gatherColumns 40 = .ok (.getfield 87, 3) := by decide +kernel
theorem dX8_gatherColumns_43 : decode cX8_gatherColumns 43 = .ok (.iload 5, 2) := by decide +kernel
theorem dX8_gatherColumns_45 : decode cX8_gatherColumns 45 = .ok (.iaload, 1) := by decide +kernel
theorem dX8_gatherColumns_46 : decode cX8_gatherColumns 46 = .ok (.istore 6, 2) := by decide +kernel
theorem dX8_gatherColumns_48 : decode cX8_gatherColumns 48 = .ok (.iload 6, 2) := by decide +kernel
theorem dX8_gatherColumns_50 : decode cX8_gatherColumns 50 = .ok (.invokestatic 126, 3) := by decide +kernel
theorem dX8_gatherColumns_53 : decode cX8_gatherColumns 53 = .ok (.iload_n 2, 1) := by decide +kernel
theorem dX8_gatherColumns_54 : decode cX8_gatherColumns 54 = .ok (.if_icmp .ne 36, 3) := by decide +kernel
theorem dX8_gatherColumns_57 : decode cX8_gatherColumns 57 = .ok (.aload_n 0, 1) := by decide +kernel
theorem dX8_gatherColumns_58 : decode cX8_gatherColumns 58 = .ok (.iload 5, 2) := by decide +kernel
theorem dX8_gatherColumns_60 : decode cX8_gatherColumns 60 = .ok (.invokevirtual 96, 3) := by decide +kernel
theorem dX8_gatherColumns_63 : decode cX8_gatherColumns 63 = .ok (.ifCond .eq 27, 3) := by decide +kernel
theorem dX8_gatherColumns_66 : decode cX8_gatherColumns 66 = .ok (.aload_n 0, 1) := by decide +kernel
theorem dX8_gatherColumns_67 : decode cX8_gatherColumns 67 = .ok (.getfield 9, 3) := by decide +kernel
theorem dX8_gatherColumns_70 : decode cX8_gatherColumns 70 = .ok (.iload 5, 2) := by decide +kernel
theorem dX8_gatherColumns_72 : decode cX8_gatherColumns 72 = .ok (.iaload, 1) := by decide +kernel
theorem dX8_gatherColumns_73 : decode cX8_gatherColumns 73 = .ok (.iload_n 3, 1) := by decide +kernel
theorem dX8_gatherColumns_74 : decode cX8_gatherColumns 74 = .ok (.iand, 1) := by decide +kernel
theorem dX8_gatherColumns_75 : decode cX8_gatherColumns 75 = .ok (.ifCond .eq 15, 3) := by decide +kernel
theorem dX8_gatherColumns_78 : decode cX8_gatherColumns 78 = .ok (.iload 4, 2) := by decide +kernel
theorem dX8_gatherColumns_80 : decode cX8_gatherColumns 80 = .ok (.iconst 1, 1) := by decide +kernel
theorem dX8_gatherColumns_81 : decode cX8_gatherColumns 81 = .ok (.iload 6, 2) := by decide +kernel
theorem dX8_gatherColumns_83 : decode cX8_gatherColumns 83 = .ok (.invokestatic 129, 3) := by decide +kernel
theorem dX8_gatherColumns_86 : decode cX8_gatherColumns 86 = .ok (.ishl, 1) := by decide +kernel
theorem dX8_gatherColumns_87 : decode cX8_gatherColumns 87 = .ok (.ior, 1) := by decide +kernel
theorem dX8_gatherColumns_88 : decode cX8_gatherColumns 88 = .ok (.istore 4, 2) := by decide +kernel
theorem dX8_gatherColumns_90 : decode cX8_gatherColumns 90 = .ok (.iinc 5 1, 3) := by decide +kernel
theorem dX8_gatherColumns_93 : decode cX8_gatherColumns 93 = .ok (.goto (-75), 3) := by decide +kernel
theorem dX8_gatherColumns_96 : decode cX8_gatherColumns 96 = .ok (.iconst 0, 1) := by decide +kernel
theorem dX8_gatherColumns_97 : decode cX8_gatherColumns 97 = .ok (.istore 5, 2) := by decide +kernel
theorem dX8_gatherColumns_99 : decode cX8_gatherColumns 99 = .ok (.iconst 0, 1) := by decide +kernel
theorem dX8_gatherColumns_100 : decode cX8_gatherColumns 100 = .ok (.istore 6, 2) := by decide +kernel
theorem dX8_gatherColumns_102 : decode cX8_gatherColumns 102 = .ok (.iload 6, 2) := by decide +kernel
theorem dX8_gatherColumns_104 : decode cX8_gatherColumns 104 = .ok (.bipush 16, 2) := by decide +kernel
theorem dX8_gatherColumns_106 : decode cX8_gatherColumns 106 = .ok (.if_icmp .ge 32, 3) := by decide +kernel
theorem dX8_gatherColumns_109 : decode cX8_gatherColumns 109 = .ok (.iload 4, 2) := by decide +kernel
theorem dX8_gatherColumns_111 : decode cX8_gatherColumns 111 = .ok (.iload 6, 2) := by decide +kernel
theorem dX8_gatherColumns_113 : decode cX8_gatherColumns 113 = .ok (.ishr, 1) := by decide +kernel
theorem dX8_gatherColumns_114 : decode cX8_gatherColumns 114 = .ok (.iconst 1, 1) := by decide +kernel
theorem dX8_gatherColumns_115 : decode cX8_gatherColumns 115 = .ok (.iand, 1) := by decide +kernel
theorem dX8_gatherColumns_116 : decode cX8_gatherColumns 116 = .ok (.iconst 1, 1) := by decide +kernel
theorem dX8_gatherColumns_117 : decode cX8_gatherColumns 117 = .ok (.if_icmp .ne 15, 3) := by decide +kernel
theorem dX8_gatherColumns_120 : decode cX8_gatherColumns 120 = .ok (.aload_n 0, 1) := by decide +kernel
theorem dX8_gatherColumns_121 : decode cX8_gatherColumns 121 = .ok (.getfield 18, 3) := by decide +kernel
theorem dX8_gatherColumns_124 : decode cX8_gatherColumns 124 = .ok (.iload 5, 2) := by decide +kernel
theorem dX8_gatherColumns_126 : decode cX8_gatherColumns 126 = .ok (.iload 6, 2) := by decide +kernel
theorem dX8_gatherColumns_128 : decode cX8_gatherColumns 128 = .ok (.iastore, 1) := by decide +kernel
theorem dX8_gatherColumns_129 : decode cX8_gatherColumns 129 = .ok (.iinc 5 1, 3) := by decide +kernel
theorem dX8_gatherColumns_132 : decode cX8_gatherColumns 132 = .ok (.iinc 6 1, 3) := by decide +kernel
theorem dX8_gatherColumns_135 : decode cX8_gatherColumns 135 = .ok (.goto (-33), 3) := by decide +kernel
theorem dX8_gatherColumns_138 : decode cX8_gatherColumns 138 = .ok (.iload 5, 2) := by decide +kernel
theorem dX8_gatherColumns_140 : decode cX8_gatherColumns 140 = .ok (.ireturn, 1) := by decide +kernel
def w_X8_gatherColumns_138  (v5 : Int32) (h : AH) (Q : Int32 → AH → Prop) : Prop :=
  Q v5 h
def w_X8_gatherColumns_132  (x138 : Int32 → AH → Prop) (k : Int32 → Int32 → AH → Prop) (v0 : Nat) (v4 : Int32) (v5 : Int32) (v6 : Int32) (h : AH) (Q : Int32 → AH → Prop) : Prop :=
  k v5 (v6 + 1) h
def w_X8_gatherColumns_102  (x138 : Int32 → AH → Prop) (k : Int32 → Int32 → AH → Prop) (v0 : Nat) (v4 : Int32) (v5 : Int32) (v6 : Int32) (h : AH) (Q : Int32 → AH → Prop) : Prop :=
  br ((16 : Int32) ≤ v6) (
    x138 v5 h) (
    br (((v4 >>> (v6 &&& 31)) &&& (1 : Int32)) = (1 : Int32)) (
      fN h v0 8 3 fun a1 =>
      tI h a1 v5 v6 fun h =>
      w_X8_gatherColumns_132 x138 k v0 v4 (v5 + 1) v6 h Q) (
      w_X8_gatherColumns_132 x138 k v0 v4 v5 v6 h Q))
def w_X8_gatherColumns_96  (v0 : Nat) (v4 : Int32) (h : AH) (Q : Int32 → AH → Prop) : Prop :=
  lp (fun (k2 : Int32 × Int32 × AH → Prop) (s2 : Int32 × Int32 × AH) => w_X8_gatherColumns_102  (fun (y5 : Int32) h => w_X8_gatherColumns_138 y5 h Q) (fun (y5 : Int32) (y6 : Int32) h => k2 (y5, y6, h)) v0 v4 s2.1 s2.2.1 s2.2.2 Q) ((0 : Int32), (0 : Int32), h)
def w_X8_gatherColumns_90  (x96 : Int32 → AH → Prop) (k : Int32 → Int32 → AH → Prop) (v0 : Nat) (v2 : Int32) (v3 : Int32) (v4 : Int32) (v5 : Int32) (h : AH) (Q : Int32 → AH → Prop) : Prop :=
  k v4 (v5 + 1) h
def w_X8_gatherColumns_18  (x96 : Int32 → AH → Prop) (k : Int32 → Int32 → AH → Prop) (v0 : Nat) (v2 : Int32) (v3 : Int32) (v4 : Int32) (v5 : Int32) (h : AH) (Q : Int32 → AH → Prop) : Prop :=
  fN h v0 8 0 fun a1 =>
  fN h a1 7 3 fun a2 =>
  fI h a2 1 0 fun x3 =>
  br (x3 ≤ v5) (
    x96 v4 h) (
    fN h v0 8 0 fun a4 =>
    fN h a4 7 3 fun a5 =>
    fN h a5 1 2 fun a6 =>
    aI h a6 v5 fun x7 =>
    w_X3_row x7 h (fun x8 h =>
    br (x8 = v2) (
      vr h v0 8 (
      w_X8_isSure v0 v5 h (fun x9 h =>
      br (x9 = 0) (
        w_X8_gatherColumns_90 x96 k v0 v2 v3 v4 v5 h Q) (
        fN h v0 8 1 fun a10 =>
        aI h a10 v5 fun x11 =>
        br ((x11 &&& v3) = 0) (
          w_X8_gatherColumns_90 x96 k v0 v2 v3 v4 v5 h Q) (
          w_X3_column x7 h (fun x12 h =>
          bd (v4 ||| ((1 : Int32) <<< (x12 &&& 31))) fun x13 =>
          w_X8_gatherColumns_90 x96 k v0 v2 v3 x13 v5 h Q)))))) (
      w_X8_gatherColumns_90 x96 k v0 v2 v3 v4 v5 h Q)))
def w_X8_gatherColumns  (v0 : Nat) (v1 : Int32) (v2 : Int32) (h : AH) (Q : Int32 → AH → Prop) : Prop :=
  fN h v0 8 0 fun a1 =>
  fN h a1 7 1 fun a2 =>
  vr h a2 2 (
  w_X2_ofSide a2 v1 h (fun x3 h =>
  lp (fun (k2 : Int32 × Int32 × AH → Prop) (s2 : Int32 × Int32 × AH) => w_X8_gatherColumns_18  (fun (y4 : Int32) h => w_X8_gatherColumns_96 v0 y4 h Q) (fun (y4 : Int32) (y5 : Int32) h => k2 (y4, y5, h)) v0 v2 x3 s2.1 s2.2.1 s2.2.2 Q) ((0 : Int32), (0 : Int32), h)))
set_option maxRecDepth 100000 in
set_option maxHeartbeats 4000000 in
theorem s_X8_gatherColumns_138 {p : Program} {l : Launch} {e : Env} {s : State} {m : MethodId} {args : Array Value} {below : List Frame} {meth : Method} {c : Code} {g : GG}  {Q : Int32 → AH → Prop}  (C : CXT p l s m args meth c RX8 cX8_gatherColumns 7 g) (hr : meth.sig.returnType = (some .int))  : ∀ (v5 : Int32) (h : AH), w_X8_gatherColumns_138  v5 h Q → V p l e s m args below meth c g 2 0 0 7 0 0 (MQ below (QCx g (QI Q)) args s 0 0 (gA g)) 138 [(5, .int v5)] [] h := by
  intro v5 h hw
  refine v_iload C dX8_gatherColumns_138 0 rfl ?_
  exact (rt_MQ C _).1 _ _ _ _ _ _ hr dX8_gatherColumns_140 (by decide) (by decide) ⟨_, rfl, hw⟩
set_option maxRecDepth 100000 in
set_option maxHeartbeats 4000000 in
theorem s_X8_gatherColumns_132 {p : Program} {l : Launch} {e : Env} {s : State} {m : MethodId} {args : Array Value} {below : List Frame} {meth : Method} {c : Code} {g : GG} {v0 : Nat} {v4 : Int32} {Q : Int32 → AH → Prop} {x138 : Int32 → AH → Prop} {k : Int32 → Int32 → AH → Prop} (C : CXT p l s m args meth c RX8 cX8_gatherColumns 7 g) (hr : meth.sig.returnType = (some .int)) (hx138 : ∀ (y5 : Int32) (h : AH), x138 y5 h → V p l e s m args below meth c g 2 0 0 7 0 0 (MQ below (QCx g (QI Q)) args s 0 0 (gA g)) 138 [(5, .int y5)] [] h) (hk : ∀ (y5 : Int32) (y6 : Int32) (h : AH), k y5 y6 h → V p l e s m args below meth c g 2 0 0 7 0 0 (MQ below (QCx g (QI Q)) args s 0 0 (gA g)) 102 [(0, .ref v0), (4, .int v4), (5, .int y5), (6, .int y6)] [] h) : ∀ (v5 : Int32) (v6 : Int32) (h : AH), w_X8_gatherColumns_132  x138 k v0 v4 v5 v6 h Q → V p l e s m args below meth c g 2 0 0 7 0 0 (MQ below (QCx g (QI Q)) args s 0 0 (gA g)) 132 [(0, .ref v0), (4, .int v4), (5, .int v5), (6, .int v6)] [] h := by
  intro v5 v6 h hw
  refine v_iinc (v := 1) (ls' := [(6, .int (v6 + 1)), (0, .ref v0), (4, .int v4), (5, .int v5)]) C dX8_gatherColumns_132 3 rfl (by decide) (by decide) rfl ?_
  refine v_goto (tgt := 102) C dX8_gatherColumns_135 (by decide) ?_
  refine v_sub [1, 2, 3, 0] rfl ?_
  exact hk _ _ _ hw
set_option maxRecDepth 100000 in
set_option maxHeartbeats 4000000 in
theorem s_X8_gatherColumns_102 {p : Program} {l : Launch} {e : Env} {s : State} {m : MethodId} {args : Array Value} {below : List Frame} {meth : Method} {c : Code} {g : GG} {v0 : Nat} {v4 : Int32} {Q : Int32 → AH → Prop} {x138 : Int32 → AH → Prop} {k : Int32 → Int32 → AH → Prop} (C : CXT p l s m args meth c RX8 cX8_gatherColumns 7 g) (hr : meth.sig.returnType = (some .int)) (hx138 : ∀ (y5 : Int32) (h : AH), x138 y5 h → V p l e s m args below meth c g 2 0 0 7 0 0 (MQ below (QCx g (QI Q)) args s 0 0 (gA g)) 138 [(5, .int y5)] [] h) (hk : ∀ (y5 : Int32) (y6 : Int32) (h : AH), k y5 y6 h → V p l e s m args below meth c g 2 0 0 7 0 0 (MQ below (QCx g (QI Q)) args s 0 0 (gA g)) 102 [(0, .ref v0), (4, .int v4), (5, .int y5), (6, .int y6)] [] h) : ∀ (v5 : Int32) (v6 : Int32) (h : AH), w_X8_gatherColumns_102  x138 k v0 v4 v5 v6 h Q → V p l e s m args below meth c g 2 0 0 7 0 0 (MQ below (QCx g (QI Q)) args s 0 0 (gA g)) 102 [(0, .ref v0), (4, .int v4), (5, .int v5), (6, .int v6)] [] h := by
  intro v5 v6 h hw
  refine v_iload C dX8_gatherColumns_102 3 rfl ?_
  refine v_bipush (v := 16) C dX8_gatherColumns_104 (by decide) ?_
  refine v_icmp_ge (tgt := 138) C dX8_gatherColumns_106 (by decide) (fun c_106 => ?_) (fun c_106 => ?_)
  · have hw := hw.1 c_106
    refine v_sub [2] rfl ?_
    exact hx138 _ _ hw
  · have hw := hw.2 c_106
    refine v_iload C dX8_gatherColumns_109 1 rfl ?_
    refine v_iload C dX8_gatherColumns_111 3 rfl ?_
    refine v_ishr C dX8_gatherColumns_113 ?_
    refine v_iconst (v := 1) C dX8_gatherColumns_114 (by decide) ?_
    refine v_iand C dX8_gatherColumns_115 ?_
    refine v_iconst (v := 1) C dX8_gatherColumns_116 (by decide) ?_
    refine v_icmp_ne (tgt := 132) C dX8_gatherColumns_117 (by decide) (fun c_117 => ?_) (fun c_117 => ?_)
    · have hw := hw.2 c_117
      exact s_X8_gatherColumns_132 C hr hx138 hk _ _ _ hw
    · have hw := hw.1 c_117
      refine v_aload_n C dX8_gatherColumns_120 0 rfl rfl ?_
      refine w_getN C fl_X8_18 dX8_gatherColumns_121 rfl hw (fun a1 hw => ?_)
      refine v_iload C dX8_gatherColumns_124 2 rfl ?_
      refine v_iload C dX8_gatherColumns_126 3 rfl ?_
      refine w_iastore C dX8_gatherColumns_128 hw (fun h hw => ?_)
      refine v_iinc (v := 1) (ls' := [(5, .int (v5 + 1)), (0, .ref v0), (4, .int v4), (6, .int v6)]) C dX8_gatherColumns_129 2 rfl (by decide) (by decide) rfl ?_
      refine v_sub [1, 2, 0, 3] rfl ?_
      exact s_X8_gatherColumns_132 C hr hx138 hk _ _ _ hw
set_option maxRecDepth 100000 in
set_option maxHeartbeats 4000000 in
theorem s_X8_gatherColumns_96 {p : Program} {l : Launch} {e : Env} {s : State} {m : MethodId} {args : Array Value} {below : List Frame} {meth : Method} {c : Code} {g : GG}  {Q : Int32 → AH → Prop}  (C : CXT p l s m args meth c RX8 cX8_gatherColumns 7 g) (hr : meth.sig.returnType = (some .int))  : ∀ (v0 : Nat) (v4 : Int32) (h : AH), w_X8_gatherColumns_96  v0 v4 h Q → V p l e s m args below meth c g 2 0 0 7 0 0 (MQ below (QCx g (QI Q)) args s 0 0 (gA g)) 96 [(0, .ref v0), (4, .int v4)] [] h := by
  intro v0 v4 h hw
  refine v_iconst (v := 0) C dX8_gatherColumns_96 (by decide) ?_
  refine v_istore (ls' := [(5, .int (0 : Int32)), (0, .ref v0), (4, .int v4)]) C dX8_gatherColumns_97 (by decide) rfl ?_
  refine v_iconst (v := 0) C dX8_gatherColumns_99 (by decide) ?_
  refine v_istore (ls' := [(6, .int (0 : Int32)), (5, .int (0 : Int32)), (0, .ref v0), (4, .int v4)]) C dX8_gatherColumns_100 (by decide) rfl ?_
  refine v_sub [2, 3, 1, 0] rfl ?_
  refine lp_walk (P := fun (s' : Int32 × Int32 × AH) => V p l e s m args below meth c g 2 0 0 7 0 0 (MQ below (QCx g (QI Q)) args s 0 0 (gA g)) 102 [(0, .ref v0), (4, .int v4), (5, .int (s'.1)), (6, .int (s'.2.1))] [] s'.2.2) (fun k2 hk2 s' hw => ?_) ((0 : Int32), (0 : Int32), h) hw
  exact s_X8_gatherColumns_102 C hr (fun y5 h hw => s_X8_gatherColumns_138 C hr  _ h hw) (fun y5 y6 h hw => hk2 (y5, y6, h) hw) _ _ _ hw
set_option maxRecDepth 100000 in
set_option maxHeartbeats 4000000 in
theorem s_X8_gatherColumns_90 {p : Program} {l : Launch} {e : Env} {s : State} {m : MethodId} {args : Array Value} {below : List Frame} {meth : Method} {c : Code} {g : GG} {v0 : Nat} {v2 : Int32} {v3 : Int32} {Q : Int32 → AH → Prop} {x96 : Int32 → AH → Prop} {k : Int32 → Int32 → AH → Prop} (C : CXT p l s m args meth c RX8 cX8_gatherColumns 7 g) (hr : meth.sig.returnType = (some .int)) (hx96 : ∀ (y4 : Int32) (h : AH), x96 y4 h → V p l e s m args below meth c g 2 0 0 7 0 0 (MQ below (QCx g (QI Q)) args s 0 0 (gA g)) 96 [(0, .ref v0), (4, .int y4)] [] h) (hk : ∀ (y4 : Int32) (y5 : Int32) (h : AH), k y4 y5 h → V p l e s m args below meth c g 2 0 0 7 0 0 (MQ below (QCx g (QI Q)) args s 0 0 (gA g)) 18 [(0, .ref v0), (2, .int v2), (3, .int v3), (4, .int y4), (5, .int y5)] [] h) : ∀ (v4 : Int32) (v5 : Int32) (h : AH), w_X8_gatherColumns_90  x96 k v0 v2 v3 v4 v5 h Q → V p l e s m args below meth c g 2 0 0 7 0 0 (MQ below (QCx g (QI Q)) args s 0 0 (gA g)) 90 [(0, .ref v0), (2, .int v2), (3, .int v3), (4, .int v4), (5, .int v5)] [] h := by
  intro v4 v5 h hw
  refine v_iinc (v := 1) (ls' := [(5, .int (v5 + 1)), (0, .ref v0), (2, .int v2), (3, .int v3), (4, .int v4)]) C dX8_gatherColumns_90 4 rfl (by decide) (by decide) rfl ?_
  refine v_goto (tgt := 18) C dX8_gatherColumns_93 (by decide) ?_
  refine v_sub [1, 2, 3, 4, 0] rfl ?_
  exact hk _ _ _ hw
set_option maxRecDepth 100000 in
set_option maxHeartbeats 4000000 in
theorem s_X8_gatherColumns_18 {p : Program} {l : Launch} {e : Env} {s : State} {m : MethodId} {args : Array Value} {below : List Frame} {meth : Method} {c : Code} {g : GG} {v0 : Nat} {v2 : Int32} {v3 : Int32} {Q : Int32 → AH → Prop} {x96 : Int32 → AH → Prop} {k : Int32 → Int32 → AH → Prop} (C : CXT p l s m args meth c RX8 cX8_gatherColumns 7 g) (hr : meth.sig.returnType = (some .int)) (hx96 : ∀ (y4 : Int32) (h : AH), x96 y4 h → V p l e s m args below meth c g 2 0 0 7 0 0 (MQ below (QCx g (QI Q)) args s 0 0 (gA g)) 96 [(0, .ref v0), (4, .int y4)] [] h) (hk : ∀ (y4 : Int32) (y5 : Int32) (h : AH), k y4 y5 h → V p l e s m args below meth c g 2 0 0 7 0 0 (MQ below (QCx g (QI Q)) args s 0 0 (gA g)) 18 [(0, .ref v0), (2, .int v2), (3, .int v3), (4, .int y4), (5, .int y5)] [] h) : ∀ (v4 : Int32) (v5 : Int32) (h : AH), w_X8_gatherColumns_18  x96 k v0 v2 v3 v4 v5 h Q → V p l e s m args below meth c g 2 0 0 7 0 0 (MQ below (QCx g (QI Q)) args s 0 0 (gA g)) 18 [(0, .ref v0), (2, .int v2), (3, .int v3), (4, .int v4), (5, .int v5)] [] h := by
  intro v4 v5 h hw
  refine v_iload C dX8_gatherColumns_18 4 rfl ?_
  refine v_aload_n C dX8_gatherColumns_20 0 rfl rfl ?_
  refine w_getN C fl_X8_33 dX8_gatherColumns_21 rfl hw (fun a1 hw => ?_)
  refine w_getN C fl_X8_37 dX8_gatherColumns_24 rfl hw (fun a2 hw => ?_)
  refine w_getI C fl_X8_49 dX8_gatherColumns_27 rfl hw (fun x3 hw => ?_)
  refine v_icmp_ge (tgt := 96) C dX8_gatherColumns_30 (by decide) (fun c_30 => ?_) (fun c_30 => ?_)
  · have hw := hw.1 c_30
    refine v_sub [0, 3] rfl ?_
    exact hx96 _ _ hw
  · have hw := hw.2 c_30
    refine v_aload_n C dX8_gatherColumns_33 0 rfl rfl ?_
    refine w_getN C fl_X8_33 dX8_gatherColumns_34 rfl hw (fun a4 hw => ?_)
    refine w_getN C fl_X8_37 dX8_gatherColumns_37 rfl hw (fun a5 hw => ?_)
    refine w_getN C fl_X8_87 dX8_gatherColumns_40 rfl hw (fun a6 hw => ?_)
    refine v_iload C dX8_gatherColumns_43 4 rfl ?_
    refine w_iaload C dX8_gatherColumns_45 hw (fun x7 hw => ?_)
    refine v_istore (ls' := [(6, .int x7), (0, .ref v0), (2, .int v2), (3, .int v3), (4, .int v4), (5, .int v5)]) C dX8_gatherColumns_46 (by decide) rfl ?_
    refine v_iload C dX8_gatherColumns_48 0 rfl ?_
    refine w_callSi (st := []) C cl_X8_126 st_X3_row (s_X3_row hw) rfl dX8_gatherColumns_50 rfl (by decide) (by decide) (by decide) (by decide) (by decide) (fun x8 h hw => ?_)
    refine v_iload_n C dX8_gatherColumns_53 2 rfl rfl ?_
    refine v_icmp_ne (tgt := 90) C dX8_gatherColumns_54 (by decide) (fun c_54 => ?_) (fun c_54 => ?_)
    · have hw := hw.2 c_54
      refine v_sub [1, 2, 3, 4, 5] rfl ?_
      exact s_X8_gatherColumns_90 C hr hx96 hk _ _ _ hw
    · have hw := hw.1 c_54
      refine v_aload_n C dX8_gatherColumns_57 1 rfl rfl ?_
      refine v_iload C dX8_gatherColumns_58 5 rfl ?_
      refine w_callVi (st := []) C cl_X8_96 im_X8_isSure se_X8_isSure rfl hw.1 (s_X8_isSure hw.2) rfl dX8_gatherColumns_60 rfl (by decide) (by decide) (by decide) (by decide) (by decide) (fun x9 h hw => ?_)
      refine v_if_eq (tgt := 90) C dX8_gatherColumns_63 (by decide) (fun c_63 => ?_) (fun c_63 => ?_)
      · have hw := hw.1 c_63
        refine v_sub [1, 2, 3, 4, 5] rfl ?_
        exact s_X8_gatherColumns_90 C hr hx96 hk _ _ _ hw
      · have hw := hw.2 c_63
        refine v_aload_n C dX8_gatherColumns_66 1 rfl rfl ?_
        refine w_getN C fl_X8_9 dX8_gatherColumns_67 rfl hw (fun a10 hw => ?_)
        refine v_iload C dX8_gatherColumns_70 5 rfl ?_
        refine w_iaload C dX8_gatherColumns_72 hw (fun x11 hw => ?_)
        refine v_iload_n C dX8_gatherColumns_73 3 rfl rfl ?_
        refine v_iand C dX8_gatherColumns_74 ?_
        refine v_if_eq (tgt := 90) C dX8_gatherColumns_75 (by decide) (fun c_75 => ?_) (fun c_75 => ?_)
        · have hw := hw.1 c_75
          refine v_sub [1, 2, 3, 4, 5] rfl ?_
          exact s_X8_gatherColumns_90 C hr hx96 hk _ _ _ hw
        · have hw := hw.2 c_75
          refine v_iload C dX8_gatherColumns_78 4 rfl ?_
          refine v_iconst (v := 1) C dX8_gatherColumns_80 (by decide) ?_
          refine v_iload C dX8_gatherColumns_81 0 rfl ?_
          refine w_callSi (st := [.int (1 : Int32), .int v4]) C cl_X8_129 st_X3_column (s_X3_column hw) rfl dX8_gatherColumns_83 rfl (Nat.le_of_ble_eq_true rfl) (by decide) (by decide) (by decide) (by decide) (fun x12 h hw => ?_)
          refine v_ishl C dX8_gatherColumns_86 ?_
          refine v_ior C dX8_gatherColumns_87 ?_
          refine w_bd hw (fun x13 hw => ?_)
          refine v_istore (ls' := [(4, .int x13), (6, .int x7), (0, .ref v0), (2, .int v2), (3, .int v3), (5, .int v5)]) C dX8_gatherColumns_88 (by decide) rfl ?_
          refine v_sub [2, 3, 4, 0, 5] rfl ?_
          exact s_X8_gatherColumns_90 C hr hx96 hk _ _ _ hw
set_option maxRecDepth 100000 in
set_option maxHeartbeats 4000000 in
theorem s_X8_gatherColumns {l : Launch}  {v0 : Nat} {v1 : Int32} {v2 : Int32} {h : AH} {Q : Int32 → AH → Prop}  (hw : w_X8_gatherColumns  v0 v1 v2 h Q) : CT l yX8_gatherColumns cX8_gatherColumns 7 (some .int) 2 0 0 [.ref v0, .int v1, .int v2] h (QI Q) := by
  refine CT.of (by decide) ⟨rfl, ⟨rfl, ⟨rfl, trivial⟩⟩⟩ (Nat.le_of_ble_eq_true rfl) ?_
  intro p e s m args below meth c g C hr hin
  refine v_eq (pc' := 0) (ls' := [(0, .ref v0), (1, .int v1), (2, .int v2)]) rfl rfl rfl rfl ?_
  refine v_aload_n C dX8_gatherColumns_0 0 rfl rfl ?_
  refine w_getN C fl_X8_33 dX8_gatherColumns_1 rfl hw (fun a1 hw => ?_)
  refine w_getN C fl_X8_77 dX8_gatherColumns_4 rfl hw (fun a2 hw => ?_)
  refine v_iload_n C dX8_gatherColumns_7 1 rfl rfl ?_
  refine w_callVi (st := []) C cl_X8_123 im_X2_ofSide se_X2_ofSide rfl hw.1 (s_X2_ofSide hw.2) rfl dX8_gatherColumns_8 rfl (by decide) (by decide) (by decide) (by decide) (by decide) (fun x3 h hw => ?_)
  refine v_istore_n (ls' := [(3, .int x3), (0, .ref v0), (1, .int v1), (2, .int v2)]) C dX8_gatherColumns_11 rfl (by decide) rfl ?_
  refine v_iconst (v := 0) C dX8_gatherColumns_12 (by decide) ?_
  refine v_istore (ls' := [(4, .int (0 : Int32)), (3, .int x3), (0, .ref v0), (1, .int v1), (2, .int v2)]) C dX8_gatherColumns_13 (by decide) rfl ?_
  refine v_iconst (v := 0) C dX8_gatherColumns_15 (by decide) ?_
  refine v_istore (ls' := [(5, .int (0 : Int32)), (4, .int (0 : Int32)), (3, .int x3), (0, .ref v0), (1, .int v1), (2, .int v2)]) C dX8_gatherColumns_16 (by decide) rfl ?_
  refine v_sub [3, 5, 2, 1, 0] rfl ?_
  refine lp_walk (P := fun (s' : Int32 × Int32 × AH) => V p l e s m args below meth c g 2 0 0 7 0 0 (MQ below (QCx g (QI Q)) args s 0 0 (gA g)) 18 [(0, .ref v0), (2, .int v2), (3, .int x3), (4, .int (s'.1)), (5, .int (s'.2.1))] [] s'.2.2) (fun k2 hk2 s' hw => ?_) ((0 : Int32), (0 : Int32), h) hw
  exact s_X8_gatherColumns_18 C hr (fun y4 h hw => s_X8_gatherColumns_96 C hr  _ _ h hw) (fun y4 y5 h hw => hk2 (y4, y5, h) hw) _ _ _ hw
-- GrassField$Study.stepFrom(I)I
theorem dX8_stepFrom_0 : decode cX8_stepFrom 0 = .ok (.aload_n 0, 1) := by decide +kernel
theorem dX8_stepFrom_1 : decode cX8_stepFrom 1 = .ok (.getfield 18, 3) := by decide +kernel
theorem dX8_stepFrom_4 : decode cX8_stepFrom 4 = .ok (.iload_n 1, 1) := by decide +kernel
theorem dX8_stepFrom_5 : decode cX8_stepFrom 5 = .ok (.iconst 1, 1) := by decide +kernel
theorem dX8_stepFrom_6 : decode cX8_stepFrom 6 = .ok (.iadd, 1) := by decide +kernel
theorem dX8_stepFrom_7 : decode cX8_stepFrom 7 = .ok (.iaload, 1) := by decide +kernel
theorem dX8_stepFrom_8 : decode cX8_stepFrom 8 = .ok (.aload_n 0, 1) := by decide +kernel
theorem dX8_stepFrom_9 : decode cX8_stepFrom 9 = .ok (.getfield 18, 3) := by decide +kernel
theorem dX8_stepFrom_12 : decode cX8_stepFrom 12 = .ok (.iload_n 1, 1) := by decide +kernel
theorem dX8_stepFrom_13 : decode cX8_stepFrom 13 = .ok (.iaload, 1) := by decide +kernel
theorem dX8_stepFrom_14 : decode cX8_stepFrom 14 = .ok (.isub, 1) := by decide +kernel
theorem dX8_stepFrom_15 : decode cX8_stepFrom 15 = .ok (.ireturn, 1) := by decide +kernel
def w_X8_stepFrom  (v0 : Nat) (v1 : Int32) (h : AH) (Q : Int32 → AH → Prop) : Prop :=
  fN h v0 8 3 fun a1 =>
  aI h a1 (v1 + (1 : Int32)) fun x2 =>
  fN h v0 8 3 fun a3 =>
  aI h a3 v1 fun x4 =>
  Q (x2 - x4) h
set_option maxRecDepth 100000 in
set_option maxHeartbeats 4000000 in
theorem s_X8_stepFrom {l : Launch}  {v0 : Nat} {v1 : Int32} {h : AH} {Q : Int32 → AH → Prop}  (hw : w_X8_stepFrom  v0 v1 h Q) : CT l yX8_stepFrom cX8_stepFrom 2 (some .int) 0 0 0 [.ref v0, .int v1] h (QI Q) := by
  refine CT.of (by decide) ⟨rfl, ⟨rfl, trivial⟩⟩ (Nat.le_of_ble_eq_true rfl) ?_
  intro p e s m args below meth c g C hr hin
  refine v_eq (pc' := 0) (ls' := [(0, .ref v0), (1, .int v1)]) rfl rfl rfl rfl ?_
  refine v_aload_n C dX8_stepFrom_0 0 rfl rfl ?_
  refine w_getN C fl_X8_18 dX8_stepFrom_1 rfl hw (fun a1 hw => ?_)
  refine v_iload_n C dX8_stepFrom_4 1 rfl rfl ?_
  refine v_iconst (v := 1) C dX8_stepFrom_5 (by decide) ?_
  refine v_iadd C dX8_stepFrom_6 ?_
  refine w_iaload C dX8_stepFrom_7 hw (fun x2 hw => ?_)
  refine v_aload_n C dX8_stepFrom_8 0 rfl rfl ?_
  refine w_getN C fl_X8_18 dX8_stepFrom_9 rfl hw (fun a3 hw => ?_)
  refine v_iload_n C dX8_stepFrom_12 1 rfl rfl ?_
  refine w_iaload C dX8_stepFrom_13 hw (fun x4 hw => ?_)
  refine v_isub C dX8_stepFrom_14 ?_
  exact (rt_MQ C _).1 _ _ _ _ _ _ hr dX8_stepFrom_15 (by decide) (by decide) ⟨_, rfl, hw⟩
-- GrassField$Study.breakOf(III)I
theorem dX8_breakOf_0 : decode cX8_breakOf 0 = .ok (.aload_n 0, 1) := by decide +kernel
theorem dX8_breakOf_1 : decode cX8_breakOf 1 = .ok (.iload_n 1, 1) := by decide +kernel
theorem dX8_breakOf_2 : decode cX8_breakOf 2 = .ok (.iload_n 2, 1) := by decide +kernel
theorem dX8_breakOf_3 : decode cX8_breakOf 3 = .ok (.invokevirtual 132, 3) := by decide +kernel
theorem dX8_breakOf_6 : decode cX8_breakOf 6 = .ok (.iconst 1, 1) := by decide +kernel
theorem dX8_breakOf_7 : decode cX8_breakOf 7 = .ok (.isub, 1) := by decide +kernel
theorem dX8_breakOf_8 : decode cX8_breakOf 8 = .ok (.istore 4, 2) := by decide +kernel
theorem dX8_breakOf_10 : decode cX8_breakOf 10 = .ok (.iconst 1, 1) := by decide +kernel
theorem dX8_breakOf_11 : decode cX8_breakOf 11 = .ok (.istore 5, 2) := by decide +kernel
theorem dX8_breakOf_13 : decode cX8_breakOf 13 = .ok (.iload 5, 2) := by decide +kernel
theorem dX8_breakOf_15 : decode cX8_breakOf 15 = .ok (.iload 4, 2) := by decide +kernel
theorem dX8_breakOf_17 : decode cX8_breakOf 17 = .ok (.if_icmp .ge 36, 3) := by decide +kernel
theorem dX8_breakOf_20 : decode cX8_breakOf 20 = .ok (.aload_n 0, 1) := by decide +kernel
theorem dX8_breakOf_21 : decode cX8_breakOf 21 = .ok (.iload 5, 2) := by decide +kernel
theorem dX8_breakOf_23 : decode cX8_breakOf 23 = .ok (.invokevirtual 144, 3) := by decide +kernel
theorem dX8_breakOf_26 : decode cX8_breakOf 26 = .ok (.aload_n 0, 1) := by decide +kernel
theorem dX8_breakOf_27 : decode cX8_breakOf 27 = .ok (.iload 5, 2) := by decide +kernel
theorem dX8_breakOf_29 : decode cX8_breakOf 29 = .ok (.iconst 1, 1) := by decide +kernel
theorem dX8_breakOf_30 : decode cX8_breakOf 30 = .ok (.isub, 1) := by decide +kernel
theorem dX8_breakOf_31 : decode cX8_breakOf 31 = .ok (.invokevirtual 144, 3) := by decide +kernel
theorem dX8_breakOf_34 : decode cX8_breakOf 34 = .ok (.isub, 1) := by decide +kernel
theorem dX8_breakOf_35 : decode cX8_breakOf 35 = .ok (.iload_n 3, 1) := by decide +kernel
theorem dX8_breakOf_36 : decode cX8_breakOf 36 = .ok (.if_icmp .le 11, 3) := by decide +kernel
theorem dX8_breakOf_39 : decode cX8_breakOf 39 = .ok (.aload_n 0, 1) := by decide +kernel
theorem dX8_breakOf_40 : decode cX8_breakOf 40 = .ok (.getfield 18, 3) := by decide +kernel
theorem dX8_breakOf_43 : decode cX8_breakOf 43 = .ok (.iload 5, 2) := by decide +kernel
theorem dX8_breakOf_45 : decode cX8_breakOf 45 = .ok (.iaload, 1) := by decide +kernel
theorem dX8_breakOf_46 : decode cX8_breakOf 46 = .ok (.ireturn, 1) := by decide +kernel
theorem dX8_breakOf_47 : decode cX8_breakOf 47 = .ok (.iinc 5 1, 3) := by decide +kernel
theorem dX8_breakOf_50 : decode cX8_breakOf 50 = .ok (.goto (-37), 3) := by decide +kernel
theorem dX8_breakOf_53 : decode cX8_breakOf 53 = .ok (.iconst (-1), 1) := by decide +kernel
theorem dX8_breakOf_54 : decode cX8_breakOf 54 = .ok (.ireturn, 1) := by decide +kernel
def w_X8_breakOf_53  (h : AH) (Q : Int32 → AH → Prop) : Prop :=
  Q (-1 : Int32) h
def w_X8_breakOf_39  (v0 : Nat) (v5 : Int32) (h : AH) (Q : Int32 → AH → Prop) : Prop :=
  fN h v0 8 3 fun a1 =>
  aI h a1 v5 fun x2 =>
  Q x2 h
def w_X8_breakOf_13  (x39 : Int32 → AH → Prop) (x53 : AH → Prop) (k : Int32 → AH → Prop) (v0 : Nat) (v3 : Int32) (v4 : Int32) (v5 : Int32) (h : AH) (Q : Int32 → AH → Prop) : Prop :=
  br (v4 ≤ v5) (
    x53  h) (
    vr h v0 8 (
    w_X8_stepFrom v0 v5 h (fun x1 h =>
    vr h v0 8 (
    w_X8_stepFrom v0 (v5 - (1 : Int32)) h (fun x2 h =>
    br ((x1 - x2) ≤ v3) (
      k (v5 + 1) h) (
      x39 v5 h))))))
def w_X8_breakOf  (v0 : Nat) (v1 : Int32) (v2 : Int32) (v3 : Int32) (h : AH) (Q : Int32 → AH → Prop) : Prop :=
  vr h v0 8 (
  w_X8_gatherColumns v0 v1 v2 h (fun x1 h =>
  bd (x1 - (1 : Int32)) fun x2 =>
  lp (fun (k2 : Int32 × AH → Prop) (s2 : Int32 × AH) => w_X8_breakOf_13  (fun (y5 : Int32) h => w_X8_breakOf_39 v0 y5 h Q) (fun  h => w_X8_breakOf_53  h Q) (fun (y5 : Int32) h => k2 (y5, h)) v0 v3 x2 s2.1 s2.2 Q) ((1 : Int32), h)))
set_option maxRecDepth 100000 in
set_option maxHeartbeats 4000000 in
theorem s_X8_breakOf_53 {p : Program} {l : Launch} {e : Env} {s : State} {m : MethodId} {args : Array Value} {below : List Frame} {meth : Method} {c : Code} {g : GG}  {Q : Int32 → AH → Prop}  (C : CXT p l s m args meth c RX8 cX8_breakOf 6 g) (hr : meth.sig.returnType = (some .int))  : ∀  (h : AH), w_X8_breakOf_53  h Q → V p l e s m args below meth c g 3 0 0 6 0 0 (MQ below (QCx g (QI Q)) args s 0 0 (gA g)) 53 [] [] h := by
  intro  h hw
  refine v_iconst (v := -1) C dX8_breakOf_53 (by decide) ?_
  exact (rt_MQ C _).1 _ _ _ _ _ _ hr dX8_breakOf_54 (by decide) (by decide) ⟨_, rfl, hw⟩
set_option maxRecDepth 100000 in
set_option maxHeartbeats 4000000 in
theorem s_X8_breakOf_39 {p : Program} {l : Launch} {e : Env} {s : State} {m : MethodId} {args : Array Value} {below : List Frame} {meth : Method} {c : Code} {g : GG}  {Q : Int32 → AH → Prop}  (C : CXT p l s m args meth c RX8 cX8_breakOf 6 g) (hr : meth.sig.returnType = (some .int))  : ∀ (v0 : Nat) (v5 : Int32) (h : AH), w_X8_breakOf_39  v0 v5 h Q → V p l e s m args below meth c g 3 0 0 6 0 0 (MQ below (QCx g (QI Q)) args s 0 0 (gA g)) 39 [(0, .ref v0), (5, .int v5)] [] h := by
  intro v0 v5 h hw
  refine v_aload_n C dX8_breakOf_39 0 rfl rfl ?_
  refine w_getN C fl_X8_18 dX8_breakOf_40 rfl hw (fun a1 hw => ?_)
  refine v_iload C dX8_breakOf_43 1 rfl ?_
  refine w_iaload C dX8_breakOf_45 hw (fun x2 hw => ?_)
  exact (rt_MQ C _).1 _ _ _ _ _ _ hr dX8_breakOf_46 (by decide) (by decide) ⟨_, rfl, hw⟩
set_option maxRecDepth 100000 in
set_option maxHeartbeats 4000000 in
theorem s_X8_breakOf_13 {p : Program} {l : Launch} {e : Env} {s : State} {m : MethodId} {args : Array Value} {below : List Frame} {meth : Method} {c : Code} {g : GG} {v0 : Nat} {v3 : Int32} {v4 : Int32} {Q : Int32 → AH → Prop} {x39 : Int32 → AH → Prop} {x53 : AH → Prop} {k : Int32 → AH → Prop} (C : CXT p l s m args meth c RX8 cX8_breakOf 6 g) (hr : meth.sig.returnType = (some .int)) (hx39 : ∀ (y5 : Int32) (h : AH), x39 y5 h → V p l e s m args below meth c g 3 0 0 6 0 0 (MQ below (QCx g (QI Q)) args s 0 0 (gA g)) 39 [(0, .ref v0), (5, .int y5)] [] h) (hx53 : ∀  (h : AH), x53  h → V p l e s m args below meth c g 3 0 0 6 0 0 (MQ below (QCx g (QI Q)) args s 0 0 (gA g)) 53 [] [] h) (hk : ∀ (y5 : Int32) (h : AH), k y5 h → V p l e s m args below meth c g 3 0 0 6 0 0 (MQ below (QCx g (QI Q)) args s 0 0 (gA g)) 13 [(0, .ref v0), (3, .int v3), (4, .int v4), (5, .int y5)] [] h) : ∀ (v5 : Int32) (h : AH), w_X8_breakOf_13  x39 x53 k v0 v3 v4 v5 h Q → V p l e s m args below meth c g 3 0 0 6 0 0 (MQ below (QCx g (QI Q)) args s 0 0 (gA g)) 13 [(0, .ref v0), (3, .int v3), (4, .int v4), (5, .int v5)] [] h := by
  intro v5 h hw
  refine v_iload C dX8_breakOf_13 3 rfl ?_
  refine v_iload C dX8_breakOf_15 2 rfl ?_
  refine v_icmp_ge (tgt := 53) C dX8_breakOf_17 (by decide) (fun c_17 => ?_) (fun c_17 => ?_)
  · have hw := hw.1 c_17
    refine v_sub [] rfl ?_
    exact hx53  _ hw
  · have hw := hw.2 c_17
    refine v_aload_n C dX8_breakOf_20 0 rfl rfl ?_
    refine v_iload C dX8_breakOf_21 3 rfl ?_
    refine w_callVi (st := []) C cl_X8_144 im_X8_stepFrom se_X8_stepFrom rfl hw.1 (s_X8_stepFrom hw.2) rfl dX8_breakOf_23 rfl (by decide) (by decide) (by decide) (by decide) (by decide) (fun x1 h hw => ?_)
    refine v_aload_n C dX8_breakOf_26 0 rfl rfl ?_
    refine v_iload C dX8_breakOf_27 3 rfl ?_
    refine v_iconst (v := 1) C dX8_breakOf_29 (by decide) ?_
    refine v_isub C dX8_breakOf_30 ?_
    refine w_callVi (st := [.int x1]) C cl_X8_144 im_X8_stepFrom se_X8_stepFrom rfl hw.1 (s_X8_stepFrom hw.2) rfl dX8_breakOf_31 rfl (Nat.le_of_ble_eq_true rfl) (by decide) (by decide) (by decide) (by decide) (fun x2 h hw => ?_)
    refine v_isub C dX8_breakOf_34 ?_
    refine v_iload_n C dX8_breakOf_35 1 rfl rfl ?_
    refine v_icmp_le (tgt := 47) C dX8_breakOf_36 (by decide) (fun c_36 => ?_) (fun c_36 => ?_)
    · have hw := hw.1 c_36
      refine v_iinc (v := 1) (ls' := [(5, .int (v5 + 1)), (0, .ref v0), (3, .int v3), (4, .int v4)]) C dX8_breakOf_47 3 rfl (by decide) (by decide) rfl ?_
      refine v_goto (tgt := 13) C dX8_breakOf_50 (by decide) ?_
      refine v_sub [1, 2, 3, 0] rfl ?_
      exact hk _ _ hw
    · have hw := hw.2 c_36
      refine v_sub [0, 3] rfl ?_
      exact hx39 _ _ hw
set_option maxRecDepth 100000 in
set_option maxHeartbeats 4000000 in
theorem s_X8_breakOf {l : Launch}  {v0 : Nat} {v1 : Int32} {v2 : Int32} {v3 : Int32} {h : AH} {Q : Int32 → AH → Prop}  (hw : w_X8_breakOf  v0 v1 v2 v3 h Q) : CT l yX8_breakOf cX8_breakOf 6 (some .int) 3 0 0 [.ref v0, .int v1, .int v2, .int v3] h (QI Q) := by
  refine CT.of (by decide) ⟨rfl, ⟨rfl, ⟨rfl, ⟨rfl, trivial⟩⟩⟩⟩ (Nat.le_of_ble_eq_true rfl) ?_
  intro p e s m args below meth c g C hr hin
  refine v_eq (pc' := 0) (ls' := [(0, .ref v0), (1, .int v1), (2, .int v2), (3, .int v3)]) rfl rfl rfl rfl ?_
  refine v_aload_n C dX8_breakOf_0 0 rfl rfl ?_
  refine v_iload_n C dX8_breakOf_1 1 rfl rfl ?_
  refine v_iload_n C dX8_breakOf_2 2 rfl rfl ?_
  refine w_callVi (st := []) C cl_X8_132 im_X8_gatherColumns se_X8_gatherColumns rfl hw.1 (s_X8_gatherColumns hw.2) rfl dX8_breakOf_3 rfl (by decide) (by decide) (by decide) (by decide) (by decide) (fun x1 h hw => ?_)
  refine v_iconst (v := 1) C dX8_breakOf_6 (by decide) ?_
  refine v_isub C dX8_breakOf_7 ?_
  refine w_bd hw (fun x2 hw => ?_)
  refine v_istore (ls' := [(4, .int x2), (0, .ref v0), (1, .int v1), (2, .int v2), (3, .int v3)]) C dX8_breakOf_8 (by decide) rfl ?_
  refine v_iconst (v := 1) C dX8_breakOf_10 (by decide) ?_
  refine v_istore (ls' := [(5, .int (1 : Int32)), (4, .int x2), (0, .ref v0), (1, .int v1), (2, .int v2), (3, .int v3)]) C dX8_breakOf_11 (by decide) rfl ?_
  refine v_sub [2, 5, 1, 0] rfl ?_
  refine lp_walk (P := fun (s' : Int32 × AH) => V p l e s m args below meth c g 3 0 0 6 0 0 (MQ below (QCx g (QI Q)) args s 0 0 (gA g)) 13 [(0, .ref v0), (3, .int v3), (4, .int x2), (5, .int (s'.1))] [] s'.2) (fun k2 hk2 s' hw => ?_) ((1 : Int32), h) hw
  exact s_X8_breakOf_13 C hr (fun y5 h hw => s_X8_breakOf_39 C hr  _ _ h hw) (fun  h hw => s_X8_breakOf_53 C hr   h hw) (fun y5 h hw => hk2 (y5, h) hw) _ _ hw
-- GrassField$Study.gatherChoices(II)I
theorem dX8_gatherChoices_0 : decode cX8_gatherChoices 0 = .ok (.iconst 0, 1) := by decide +kernel
theorem dX8_gatherChoices_1 : decode cX8_gatherChoices 1 = .ok (.istore_n 3, 1) := by decide +kernel
theorem dX8_gatherChoices_2 : decode cX8_gatherChoices 2 = .ok (.iconst 0, 1) := by decide +kernel
theorem dX8_gatherChoices_3 : decode cX8_gatherChoices 3 = .ok (.istore 4, 2) := by decide +kernel
theorem dX8_gatherChoices_5 : decode cX8_gatherChoices 5 = .ok (.iload 4, 2) := by decide +kernel
theorem dX8_gatherChoices_7 : decode cX8_gatherChoices 7 = .ok (.aload_n 0, 1) := by decide +kernel
theorem dX8_gatherChoices_8 : decode cX8_gatherChoices 8 = .ok (.getfield 33, 3) := by decide +kernel
theorem dX8_gatherChoices_11 : decode cX8_gatherChoices 11 = .ok (.getfield 37, 3) := by decide +kernel
theorem dX8_gatherChoices_14 : decode cX8_gatherChoices 14 = .ok (.getfield 49, 3) := by decide +kernel
theorem dX8_gatherChoices_17 : decode cX8_gatherChoices 17 = .ok (.if_icmp .ge 56, 3) := by decide +kernel
theorem dX8_gatherChoices_20 : decode cX8_gatherChoices 20 = .ok (.aload_n 0, 1) := by decide +kernel
theorem dX8_gatherChoices_21 : decode cX8_gatherChoices 21 = .ok (.getfield 9, 3) := by decide +kernel
theorem dX8_gatherChoices_24 : decode cX8_gatherChoices 24 = .ok (.iload 4, 2) := by decide +kernel
theorem dX8_gatherChoices_26 : decode cX8_gatherChoices 26 = .ok (.iaload, 1) := by decide +kernel
theorem dX8_gatherChoices_27 : decode cX8_gatherChoices 27 = .ok (.ifCond .le 40, 3) := by decide +kernel
theorem dX8_gatherChoices_30 : decode cX8_gatherChoices 30 = .ok (.aload_n 0, 1) := by decide +kernel
theorem dX8_gatherChoices_31 : decode cX8_gatherChoices 31 = .ok (.getfield 33, 3) := by decide +kernel
theorem dX8_gatherChoices_34 : decode cX8_gatherChoices 34 = .ok (.getfield 37, 3) := by decide +kernel
theorem dX8_gatherChoices_37 : decode cX8_gatherChoices 37 = .ok (.getfield 87, 3) := by decide +kernel
theorem dX8_gatherChoices_40 : decode cX8_gatherChoices 40 = .ok (.iload 4, 2) := by decide +kernel
theorem dX8_gatherChoices_42 : decode cX8_gatherChoices 42 = .ok (.iaload, 1) := by decide +kernel
theorem dX8_gatherChoices_43 : decode cX8_gatherChoices 43 = .ok (.iload_n 1, 1) := by decide +kernel
theorem dX8_gatherChoices_44 : decode cX8_gatherChoices 44 = .ok (.iload_n 2, 1) := by decide +kernel
theorem dX8_gatherChoices_45 : decode cX8_gatherChoices 45 = .ok (.invokestatic 90, 3) := by decide +kernel
theorem dX8_gatherChoices_48 : decode cX8_gatherChoices 48 = .ok (.ifCond .eq 19, 3) := by decide +kernel
theorem dX8_gatherChoices_51 : decode cX8_gatherChoices 51 = .ok (.aload_n 0, 1) := by decide +kernel
theorem dX8_gatherChoices_52 : decode cX8_gatherChoices 52 = .ok (.getfield 15, 3) := by decide +kernel
theorem dX8_gatherChoices_55 : decode cX8_gatherChoices 55 = .ok (.iload_n 3, 1) := by decide +kernel
theorem dX8_gatherChoices_56 : decode cX8_gatherChoices 56 = .ok (.aload_n 0, 1) := by decide +kernel
theorem dX8_gatherChoices_57 : decode cX8_gatherChoices 57 = .ok (.getfield 9, 3) := by decide +kernel
theorem dX8_gatherChoices_60 : decode cX8_gatherChoices 60 = .ok (.iload 4, 2) := by decide +kernel
theorem dX8_gatherChoices_62 : decode cX8_gatherChoices 62 = .ok (.iaload, 1) := by decide +kernel
theorem dX8_gatherChoices_63 : decode cX8_gatherChoices 63 = .ok (.iastore, 1) := by decide +kernel
theorem dX8_gatherChoices_64 : decode cX8_gatherChoices 64 = .ok (.iinc 3 1, 3) := by decide +kernel
theorem dX8_gatherChoices_67 : decode cX8_gatherChoices 67 = .ok (.iinc 4 1, 3) := by decide +kernel
theorem dX8_gatherChoices_70 : decode cX8_gatherChoices 70 = .ok (.goto (-65), 3) := by decide +kernel
theorem dX8_gatherChoices_73 : decode cX8_gatherChoices 73 = .ok (.iload_n 3, 1) := by decide +kernel
theorem dX8_gatherChoices_74 : decode cX8_gatherChoices 74 = .ok (.ireturn, 1) := by decide +kernel
def w_X8_gatherChoices_73  (v3 : Int32) (h : AH) (Q : Int32 → AH → Prop) : Prop :=
  Q v3 h
def w_X8_gatherChoices_67  (x73 : Int32 → AH → Prop) (k : Int32 → Int32 → AH → Prop) (v0 : Nat) (v1 : Int32) (v2 : Int32) (v3 : Int32) (v4 : Int32) (h : AH) (Q : Int32 → AH → Prop) : Prop :=
  k v3 (v4 + 1) h
def w_X8_gatherChoices_5  (x73 : Int32 → AH → Prop) (k : Int32 → Int32 → AH → Prop) (v0 : Nat) (v1 : Int32) (v2 : Int32) (v3 : Int32) (v4 : Int32) (h : AH) (Q : Int32 → AH → Prop) : Prop :=
  fN h v0 8 0 fun a1 =>
  fN h a1 7 3 fun a2 =>
  fI h a2 1 0 fun x3 =>
  br (x3 ≤ v4) (
    x73 v3 h) (
    fN h v0 8 1 fun a4 =>
    aI h a4 v4 fun x5 =>
    br (x5 ≤ 0) (
      w_X8_gatherChoices_67 x73 k v0 v1 v2 v3 v4 h Q) (
      fN h v0 8 0 fun a6 =>
      fN h a6 7 3 fun a7 =>
      fN h a7 1 2 fun a8 =>
      aI h a8 v4 fun x9 =>
      w_X3_isInArea x9 v1 v2 h (fun x10 h =>
      br (x10 = 0) (
        w_X8_gatherChoices_67 x73 k v0 v1 v2 v3 v4 h Q) (
        fN h v0 8 2 fun a11 =>
        fN h v0 8 1 fun a12 =>
        aI h a12 v4 fun x13 =>
        tI h a11 v3 x13 fun h =>
        w_X8_gatherChoices_67 x73 k v0 v1 v2 (v3 + 1) v4 h Q))))
def w_X8_gatherChoices  (v0 : Nat) (v1 : Int32) (v2 : Int32) (h : AH) (Q : Int32 → AH → Prop) : Prop :=
  lp (fun (k2 : Int32 × Int32 × AH → Prop) (s2 : Int32 × Int32 × AH) => w_X8_gatherChoices_5  (fun (y3 : Int32) h => w_X8_gatherChoices_73 y3 h Q) (fun (y3 : Int32) (y4 : Int32) h => k2 (y3, y4, h)) v0 v1 v2 s2.1 s2.2.1 s2.2.2 Q) ((0 : Int32), (0 : Int32), h)
set_option maxRecDepth 100000 in
set_option maxHeartbeats 4000000 in
theorem s_X8_gatherChoices_73 {p : Program} {l : Launch} {e : Env} {s : State} {m : MethodId} {args : Array Value} {below : List Frame} {meth : Method} {c : Code} {g : GG}  {Q : Int32 → AH → Prop}  (C : CXT p l s m args meth c RX8 cX8_gatherChoices 5 g) (hr : meth.sig.returnType = (some .int))  : ∀ (v3 : Int32) (h : AH), w_X8_gatherChoices_73  v3 h Q → V p l e s m args below meth c g 3 0 0 5 0 0 (MQ below (QCx g (QI Q)) args s 0 0 (gA g)) 73 [(3, .int v3)] [] h := by
  intro v3 h hw
  refine v_iload_n C dX8_gatherChoices_73 0 rfl rfl ?_
  exact (rt_MQ C _).1 _ _ _ _ _ _ hr dX8_gatherChoices_74 (by decide) (by decide) ⟨_, rfl, hw⟩
set_option maxRecDepth 100000 in
set_option maxHeartbeats 4000000 in
theorem s_X8_gatherChoices_67 {p : Program} {l : Launch} {e : Env} {s : State} {m : MethodId} {args : Array Value} {below : List Frame} {meth : Method} {c : Code} {g : GG} {v0 : Nat} {v1 : Int32} {v2 : Int32} {Q : Int32 → AH → Prop} {x73 : Int32 → AH → Prop} {k : Int32 → Int32 → AH → Prop} (C : CXT p l s m args meth c RX8 cX8_gatherChoices 5 g) (hr : meth.sig.returnType = (some .int)) (hx73 : ∀ (y3 : Int32) (h : AH), x73 y3 h → V p l e s m args below meth c g 3 0 0 5 0 0 (MQ below (QCx g (QI Q)) args s 0 0 (gA g)) 73 [(3, .int y3)] [] h) (hk : ∀ (y3 : Int32) (y4 : Int32) (h : AH), k y3 y4 h → V p l e s m args below meth c g 3 0 0 5 0 0 (MQ below (QCx g (QI Q)) args s 0 0 (gA g)) 5 [(0, .ref v0), (1, .int v1), (2, .int v2), (3, .int y3), (4, .int y4)] [] h) : ∀ (v3 : Int32) (v4 : Int32) (h : AH), w_X8_gatherChoices_67  x73 k v0 v1 v2 v3 v4 h Q → V p l e s m args below meth c g 3 0 0 5 0 0 (MQ below (QCx g (QI Q)) args s 0 0 (gA g)) 67 [(0, .ref v0), (1, .int v1), (2, .int v2), (3, .int v3), (4, .int v4)] [] h := by
  intro v3 v4 h hw
  refine v_iinc (v := 1) (ls' := [(4, .int (v4 + 1)), (0, .ref v0), (1, .int v1), (2, .int v2), (3, .int v3)]) C dX8_gatherChoices_67 4 rfl (by decide) (by decide) rfl ?_
  refine v_goto (tgt := 5) C dX8_gatherChoices_70 (by decide) ?_
  refine v_sub [1, 2, 3, 4, 0] rfl ?_
  exact hk _ _ _ hw
set_option maxRecDepth 100000 in
set_option maxHeartbeats 4000000 in
theorem s_X8_gatherChoices_5 {p : Program} {l : Launch} {e : Env} {s : State} {m : MethodId} {args : Array Value} {below : List Frame} {meth : Method} {c : Code} {g : GG} {v0 : Nat} {v1 : Int32} {v2 : Int32} {Q : Int32 → AH → Prop} {x73 : Int32 → AH → Prop} {k : Int32 → Int32 → AH → Prop} (C : CXT p l s m args meth c RX8 cX8_gatherChoices 5 g) (hr : meth.sig.returnType = (some .int)) (hx73 : ∀ (y3 : Int32) (h : AH), x73 y3 h → V p l e s m args below meth c g 3 0 0 5 0 0 (MQ below (QCx g (QI Q)) args s 0 0 (gA g)) 73 [(3, .int y3)] [] h) (hk : ∀ (y3 : Int32) (y4 : Int32) (h : AH), k y3 y4 h → V p l e s m args below meth c g 3 0 0 5 0 0 (MQ below (QCx g (QI Q)) args s 0 0 (gA g)) 5 [(0, .ref v0), (1, .int v1), (2, .int v2), (3, .int y3), (4, .int y4)] [] h) : ∀ (v3 : Int32) (v4 : Int32) (h : AH), w_X8_gatherChoices_5  x73 k v0 v1 v2 v3 v4 h Q → V p l e s m args below meth c g 3 0 0 5 0 0 (MQ below (QCx g (QI Q)) args s 0 0 (gA g)) 5 [(0, .ref v0), (1, .int v1), (2, .int v2), (3, .int v3), (4, .int v4)] [] h := by
  intro v3 v4 h hw
  refine v_iload C dX8_gatherChoices_5 4 rfl ?_
  refine v_aload_n C dX8_gatherChoices_7 0 rfl rfl ?_
  refine w_getN C fl_X8_33 dX8_gatherChoices_8 rfl hw (fun a1 hw => ?_)
  refine w_getN C fl_X8_37 dX8_gatherChoices_11 rfl hw (fun a2 hw => ?_)
  refine w_getI C fl_X8_49 dX8_gatherChoices_14 rfl hw (fun x3 hw => ?_)
  refine v_icmp_ge (tgt := 73) C dX8_gatherChoices_17 (by decide) (fun c_17 => ?_) (fun c_17 => ?_)
  · have hw := hw.1 c_17
    refine v_sub [3] rfl ?_
    exact hx73 _ _ hw
  · have hw := hw.2 c_17
    refine v_aload_n C dX8_gatherChoices_20 0 rfl rfl ?_
    refine w_getN C fl_X8_9 dX8_gatherChoices_21 rfl hw (fun a4 hw => ?_)
    refine v_iload C dX8_gatherChoices_24 4 rfl ?_
    refine w_iaload C dX8_gatherChoices_26 hw (fun x5 hw => ?_)
    refine v_if_le (tgt := 67) C dX8_gatherChoices_27 (by decide) (fun c_27 => ?_) (fun c_27 => ?_)
    · have hw := hw.1 c_27
      exact s_X8_gatherChoices_67 C hr hx73 hk _ _ _ hw
    · have hw := hw.2 c_27
      refine v_aload_n C dX8_gatherChoices_30 0 rfl rfl ?_
      refine w_getN C fl_X8_33 dX8_gatherChoices_31 rfl hw (fun a6 hw => ?_)
      refine w_getN C fl_X8_37 dX8_gatherChoices_34 rfl hw (fun a7 hw => ?_)
      refine w_getN C fl_X8_87 dX8_gatherChoices_37 rfl hw (fun a8 hw => ?_)
      refine v_iload C dX8_gatherChoices_40 4 rfl ?_
      refine w_iaload C dX8_gatherChoices_42 hw (fun x9 hw => ?_)
      refine v_iload_n C dX8_gatherChoices_43 1 rfl rfl ?_
      refine v_iload_n C dX8_gatherChoices_44 2 rfl rfl ?_
      refine w_callSi (st := []) C cl_X8_90 st_X3_isInArea (s_X3_isInArea hw) rfl dX8_gatherChoices_45 rfl (by decide) (by decide) (by decide) (by decide) (by decide) (fun x10 h hw => ?_)
      refine v_if_eq (tgt := 67) C dX8_gatherChoices_48 (by decide) (fun c_48 => ?_) (fun c_48 => ?_)
      · have hw := hw.1 c_48
        exact s_X8_gatherChoices_67 C hr hx73 hk _ _ _ hw
      · have hw := hw.2 c_48
        refine v_aload_n C dX8_gatherChoices_51 0 rfl rfl ?_
        refine w_getN C fl_X8_15 dX8_gatherChoices_52 rfl hw (fun a11 hw => ?_)
        refine v_iload_n C dX8_gatherChoices_55 3 rfl rfl ?_
        refine v_aload_n C dX8_gatherChoices_56 0 rfl rfl ?_
        refine w_getN C fl_X8_9 dX8_gatherChoices_57 rfl hw (fun a12 hw => ?_)
        refine v_iload C dX8_gatherChoices_60 4 rfl ?_
        refine w_iaload C dX8_gatherChoices_62 hw (fun x13 hw => ?_)
        refine w_iastore C dX8_gatherChoices_63 hw (fun h hw => ?_)
        refine v_iinc (v := 1) (ls' := [(3, .int (v3 + 1)), (0, .ref v0), (1, .int v1), (2, .int v2), (4, .int v4)]) C dX8_gatherChoices_64 3 rfl (by decide) (by decide) rfl ?_
        refine v_sub [1, 2, 3, 0, 4] rfl ?_
        exact s_X8_gatherChoices_67 C hr hx73 hk _ _ _ hw
set_option maxRecDepth 100000 in
set_option maxHeartbeats 4000000 in
theorem s_X8_gatherChoices {l : Launch}  {v0 : Nat} {v1 : Int32} {v2 : Int32} {h : AH} {Q : Int32 → AH → Prop}  (hw : w_X8_gatherChoices  v0 v1 v2 h Q) : CT l yX8_gatherChoices cX8_gatherChoices 5 (some .int) 3 0 0 [.ref v0, .int v1, .int v2] h (QI Q) := by
  refine CT.of (by decide) ⟨rfl, ⟨rfl, ⟨rfl, trivial⟩⟩⟩ (Nat.le_of_ble_eq_true rfl) ?_
  intro p e s m args below meth c g C hr hin
  refine v_eq (pc' := 0) (ls' := [(0, .ref v0), (1, .int v1), (2, .int v2)]) rfl rfl rfl rfl ?_
  refine v_iconst (v := 0) C dX8_gatherChoices_0 (by decide) ?_
  refine v_istore_n (ls' := [(3, .int (0 : Int32)), (0, .ref v0), (1, .int v1), (2, .int v2)]) C dX8_gatherChoices_1 rfl (by decide) rfl ?_
  refine v_iconst (v := 0) C dX8_gatherChoices_2 (by decide) ?_
  refine v_istore (ls' := [(4, .int (0 : Int32)), (3, .int (0 : Int32)), (0, .ref v0), (1, .int v1), (2, .int v2)]) C dX8_gatherChoices_3 (by decide) rfl ?_
  refine v_sub [2, 3, 4, 1, 0] rfl ?_
  refine lp_walk (P := fun (s' : Int32 × Int32 × AH) => V p l e s m args below meth c g 3 0 0 5 0 0 (MQ below (QCx g (QI Q)) args s 0 0 (gA g)) 5 [(0, .ref v0), (1, .int v1), (2, .int v2), (3, .int (s'.1)), (4, .int (s'.2.1))] [] s'.2.2) (fun k2 hk2 s' hw => ?_) ((0 : Int32), (0 : Int32), h) hw
  exact s_X8_gatherChoices_5 C hr (fun y3 h hw => s_X8_gatherChoices_73 C hr  _ h hw) (fun y3 y4 h hw => hk2 (y3, y4, h) hw) _ _ _ hw
-- GrassField$Study.meetsChoices(II)Z
theorem dX8_meetsChoices_0 : decode cX8_meetsChoices 0 = .ok (.iconst 0, 1) := by decide +kernel
theorem dX8_meetsChoices_1 : decode cX8_meetsChoices 1 = .ok (.istore_n 3, 1) := by decide +kernel
theorem dX8_meetsChoices_2 : decode cX8_meetsChoices 2 = .ok (.iload_n 3, 1) := by decide +kernel
theorem dX8_meetsChoices_3 : decode cX8_meetsChoices 3 = .ok (.iload_n 2, 1) := by decide +kernel
theorem dX8_meetsChoices_4 : decode cX8_meetsChoices 4 = .ok (.if_icmp .ge 22, 3) := by decide +kernel
theorem dX8_meetsChoices_7 : decode cX8_meetsChoices 7 = .ok (.aload_n 0, 1) := by decide +kernel
theorem dX8_meetsChoices_8 : decode cX8_meetsChoices 8 = .ok (.getfield 15, 3) := by decide +kernel
theorem dX8_meetsChoices_11 : decode cX8_meetsChoices 11 = .ok (.iload_n 3, 1) := by decide +kernel
theorem dX8_meetsChoices_12 : decode cX8_meetsChoices 12 = .ok (.iaload, 1) := by decide +kernel
theorem dX8_meetsChoices_13 : decode cX8_meetsChoices 13 = .ok (.iload_n 1, 1) := by decide +kernel
theorem dX8_meetsChoices_14 : decode cX8_meetsChoices 14 = .ok (.iand, 1) := by decide +kernel
theorem dX8_meetsChoices_15 : decode cX8_meetsChoices 15 = .ok (.ifCond .ne 5, 3) := by decide +kernel
theorem dX8_meetsChoices_18 : decode cX8_meetsChoices 18 = .ok (.iconst 0, 1) := by decide +kernel
theorem dX8_meetsChoices_19 : decode cX8_meetsChoices 19 = .ok (.ireturn, 1) := by decide +kernel
theorem dX8_meetsChoices_20 : decode cX8_meetsChoices 20 = .ok (.iinc 3 1, 3) := by decide +kernel
theorem dX8_meetsChoices_23 : decode cX8_meetsChoices 23 = .ok (.goto (-21), 3) := by decide +kernel
theorem dX8_meetsChoices_26 : decode cX8_meetsChoices 26 = .ok (.iconst 1, 1) := by decide +kernel
theorem dX8_meetsChoices_27 : decode cX8_meetsChoices 27 = .ok (.ireturn, 1) := by decide +kernel
def w_X8_meetsChoices_26  (h : AH) (Q : Int32 → AH → Prop) : Prop :=
  Q (1 : Int32) h
def w_X8_meetsChoices_18  (h : AH) (Q : Int32 → AH → Prop) : Prop :=
  Q (0 : Int32) h
def w_X8_meetsChoices_2  (x18 : AH → Prop) (x26 : AH → Prop) (k : Int32 → AH → Prop) (v0 : Nat) (v1 : Int32) (v2 : Int32) (v3 : Int32) (h : AH) (Q : Int32 → AH → Prop) : Prop :=
  br (v2 ≤ v3) (
    x26  h) (
    fN h v0 8 2 fun a1 =>
    aI h a1 v3 fun x2 =>
    br ((x2 &&& v1) = 0) (
      x18  h) (
      k (v3 + 1) h))
def w_X8_meetsChoices  (v0 : Nat) (v1 : Int32) (v2 : Int32) (h : AH) (Q : Int32 → AH → Prop) : Prop :=
  lp (fun (k2 : Int32 × AH → Prop) (s2 : Int32 × AH) => w_X8_meetsChoices_2  (fun  h => w_X8_meetsChoices_18  h Q) (fun  h => w_X8_meetsChoices_26  h Q) (fun (y3 : Int32) h => k2 (y3, h)) v0 v1 v2 s2.1 s2.2 Q) ((0 : Int32), h)
set_option maxRecDepth 100000 in
set_option maxHeartbeats 4000000 in
theorem s_X8_meetsChoices_26 {p : Program} {l : Launch} {e : Env} {s : State} {m : MethodId} {args : Array Value} {below : List Frame} {meth : Method} {c : Code} {g : GG}  {Q : Int32 → AH → Prop}  (C : CXT p l s m args meth c RX8 cX8_meetsChoices 4 g) (hr : meth.sig.returnType = (some .boolean))  : ∀  (h : AH), w_X8_meetsChoices_26  h Q → V p l e s m args below meth c g 0 0 0 4 0 0 (MQ below (QCx g (QI Q)) args s 0 0 (gA g)) 26 [] [] h := by
  intro  h hw
  refine v_iconst (v := 1) C dX8_meetsChoices_26 (by decide) ?_
  exact (rt_MQ C _).2.1 _ _ _ _ _ _ _ hr rfl dX8_meetsChoices_27 (by decide) (by decide) ⟨_, rfl, hw⟩
set_option maxRecDepth 100000 in
set_option maxHeartbeats 4000000 in
theorem s_X8_meetsChoices_18 {p : Program} {l : Launch} {e : Env} {s : State} {m : MethodId} {args : Array Value} {below : List Frame} {meth : Method} {c : Code} {g : GG}  {Q : Int32 → AH → Prop}  (C : CXT p l s m args meth c RX8 cX8_meetsChoices 4 g) (hr : meth.sig.returnType = (some .boolean))  : ∀  (h : AH), w_X8_meetsChoices_18  h Q → V p l e s m args below meth c g 0 0 0 4 0 0 (MQ below (QCx g (QI Q)) args s 0 0 (gA g)) 18 [] [] h := by
  intro  h hw
  refine v_iconst (v := 0) C dX8_meetsChoices_18 (by decide) ?_
  exact (rt_MQ C _).2.1 _ _ _ _ _ _ _ hr rfl dX8_meetsChoices_19 (by decide) (by decide) ⟨_, rfl, hw⟩
set_option maxRecDepth 100000 in
set_option maxHeartbeats 4000000 in
theorem s_X8_meetsChoices_2 {p : Program} {l : Launch} {e : Env} {s : State} {m : MethodId} {args : Array Value} {below : List Frame} {meth : Method} {c : Code} {g : GG} {v0 : Nat} {v1 : Int32} {v2 : Int32} {Q : Int32 → AH → Prop} {x18 : AH → Prop} {x26 : AH → Prop} {k : Int32 → AH → Prop} (C : CXT p l s m args meth c RX8 cX8_meetsChoices 4 g) (hr : meth.sig.returnType = (some .boolean)) (hx18 : ∀  (h : AH), x18  h → V p l e s m args below meth c g 0 0 0 4 0 0 (MQ below (QCx g (QI Q)) args s 0 0 (gA g)) 18 [] [] h) (hx26 : ∀  (h : AH), x26  h → V p l e s m args below meth c g 0 0 0 4 0 0 (MQ below (QCx g (QI Q)) args s 0 0 (gA g)) 26 [] [] h) (hk : ∀ (y3 : Int32) (h : AH), k y3 h → V p l e s m args below meth c g 0 0 0 4 0 0 (MQ below (QCx g (QI Q)) args s 0 0 (gA g)) 2 [(0, .ref v0), (1, .int v1), (2, .int v2), (3, .int y3)] [] h) : ∀ (v3 : Int32) (h : AH), w_X8_meetsChoices_2  x18 x26 k v0 v1 v2 v3 h Q → V p l e s m args below meth c g 0 0 0 4 0 0 (MQ below (QCx g (QI Q)) args s 0 0 (gA g)) 2 [(0, .ref v0), (1, .int v1), (2, .int v2), (3, .int v3)] [] h := by
  intro v3 h hw
  refine v_iload_n C dX8_meetsChoices_2 3 rfl rfl ?_
  refine v_iload_n C dX8_meetsChoices_3 2 rfl rfl ?_
  refine v_icmp_ge (tgt := 26) C dX8_meetsChoices_4 (by decide) (fun c_4 => ?_) (fun c_4 => ?_)
  · have hw := hw.1 c_4
    refine v_sub [] rfl ?_
    exact hx26  _ hw
  · have hw := hw.2 c_4
    refine v_aload_n C dX8_meetsChoices_7 0 rfl rfl ?_
    refine w_getN C fl_X8_15 dX8_meetsChoices_8 rfl hw (fun a1 hw => ?_)
    refine v_iload_n C dX8_meetsChoices_11 3 rfl rfl ?_
    refine w_iaload C dX8_meetsChoices_12 hw (fun x2 hw => ?_)
    refine v_iload_n C dX8_meetsChoices_13 1 rfl rfl ?_
    refine v_iand C dX8_meetsChoices_14 ?_
    refine v_if_ne (tgt := 20) C dX8_meetsChoices_15 (by decide) (fun c_15 => ?_) (fun c_15 => ?_)
    · have hw := hw.2 c_15
      refine v_iinc (v := 1) (ls' := [(3, .int (v3 + 1)), (0, .ref v0), (1, .int v1), (2, .int v2)]) C dX8_meetsChoices_20 3 rfl (by decide) (by decide) rfl ?_
      refine v_goto (tgt := 2) C dX8_meetsChoices_23 (by decide) ?_
      refine v_sub [1, 2, 3, 0] rfl ?_
      exact hk _ _ hw
    · have hw := hw.1 c_15
      refine v_sub [] rfl ?_
      exact hx18  _ hw
set_option maxRecDepth 100000 in
set_option maxHeartbeats 4000000 in
theorem s_X8_meetsChoices {l : Launch}  {v0 : Nat} {v1 : Int32} {v2 : Int32} {h : AH} {Q : Int32 → AH → Prop}  (hw : w_X8_meetsChoices  v0 v1 v2 h Q) : CT l yX8_meetsChoices cX8_meetsChoices 4 (some .boolean) 0 0 0 [.ref v0, .int v1, .int v2] h (QI Q) := by
  refine CT.of (by decide) ⟨rfl, ⟨rfl, ⟨rfl, trivial⟩⟩⟩ (Nat.le_of_ble_eq_true rfl) ?_
  intro p e s m args below meth c g C hr hin
  refine v_eq (pc' := 0) (ls' := [(0, .ref v0), (1, .int v1), (2, .int v2)]) rfl rfl rfl rfl ?_
  refine v_iconst (v := 0) C dX8_meetsChoices_0 (by decide) ?_
  refine v_istore_n (ls' := [(3, .int (0 : Int32)), (0, .ref v0), (1, .int v1), (2, .int v2)]) C dX8_meetsChoices_1 rfl (by decide) rfl ?_
  refine v_sub [1, 2, 3, 0] rfl ?_
  refine lp_walk (P := fun (s' : Int32 × AH) => V p l e s m args below meth c g 0 0 0 4 0 0 (MQ below (QCx g (QI Q)) args s 0 0 (gA g)) 2 [(0, .ref v0), (1, .int v1), (2, .int v2), (3, .int (s'.1))] [] s'.2) (fun k2 hk2 s' hw => ?_) ((0 : Int32), h) hw
  exact s_X8_meetsChoices_2 C hr (fun  h hw => s_X8_meetsChoices_18 C hr   h hw) (fun  h hw => s_X8_meetsChoices_26 C hr   h hw) (fun y3 h hw => hk2 (y3, h) hw) _ _ hw
-- GrassField$Study.fewestGuns(II)I
theorem dX8_fewestGuns_0 : decode cX8_fewestGuns 0 = .ok (.aload_n 0, 1) := by decide +kernel
theorem dX8_fewestGuns_1 : decode cX8_fewestGuns 1 = .ok (.iload_n 1, 1) := by decide +kernel
theorem dX8_fewestGuns_2 : decode cX8_fewestGuns 2 = .ok (.iload_n 2, 1) := by decide +kernel
theorem dX8_fewestGuns_3 : decode cX8_fewestGuns 3 = .ok (.invokevirtual 73, 3) := by decide +kernel
theorem dX8_fewestGuns_6 : decode cX8_fewestGuns 6 = .ok (.istore_n 3, 1) := by decide +kernel
theorem dX8_fewestGuns_7 : decode cX8_fewestGuns 7 = .ok (.iconst 1, 1) := by decide +kernel
theorem dX8_fewestGuns_8 : decode cX8_fewestGuns 8 = .ok (.aload_n 0, 1) := by decide +kernel
theorem dX8_fewestGuns_9 : decode cX8_fewestGuns 9 = .ok (.getfield 33, 3) := by decide +kernel
theorem dX8_fewestGuns_12 : decode cX8_fewestGuns 12 = .ok (.getfield 77, 3) := by decide +kernel
theorem dX8_fewestGuns_15 : decode cX8_fewestGuns 15 = .ok (.getfield 81, 3) := by decide +kernel
theorem dX8_fewestGuns_18 : decode cX8_fewestGuns 18 = .ok (.ishl, 1) := by decide +kernel
theorem dX8_fewestGuns_19 : decode cX8_fewestGuns 19 = .ok (.iconst 1, 1) := by decide +kernel
theorem dX8_fewestGuns_20 : decode cX8_fewestGuns 20 = .ok (.isub, 1) := by decide +kernel
theorem dX8_fewestGuns_21 : decode cX8_fewestGuns 21 = .ok (.istore 4, 2) := by decide +kernel
theorem dX8_fewestGuns_23 : decode cX8_fewestGuns 23 = .ok (.iconst 0, 1) := by decide +kernel
theorem dX8_fewestGuns_24 : decode cX8_fewestGuns 24 = .ok (.istore 5, 2) := by decide +kernel
theorem dX8_fewestGuns_26 : decode cX8_fewestGuns 26 = .ok (.iload 5, 2) := by decide +kernel
theorem dX8_fewestGuns_28 : decode cX8_fewestGuns 28 = .ok (.iconst 1, 1) := by decide +kernel
theorem dX8_fewestGuns_29 : decode cX8_fewestGuns 29 = .ok (.aload_n 0, 1) := by decide +kernel
theorem dX8_fewestGuns_30 : decode cX8_fewestGuns 30 = .ok (.getfield 33, 3) := by decide +kernel
theorem dX8_fewestGuns_33 : decode cX8_fewestGuns 33 = .ok (.getfield 77, 3) := by decide +kernel
theorem dX8_fewestGuns_36 : decode cX8_fewestGuns 36 = .ok (.getfield 81, 3) := by decide +kernel
theorem dX8_fewestGuns_39 : decode cX8_fewestGuns 39 = .ok (.ishl, 1) := by decide +kernel
theorem dX8_fewestGuns_40 : decode cX8_fewestGuns 40 = .ok (.if_icmp .ge 36, 3) := by decide +kernel
theorem dX8_fewestGuns_43 : decode cX8_fewestGuns 43 = .ok (.iload 5, 2) := by decide +kernel
theorem dX8_fewestGuns_45 : decode cX8_fewestGuns 45 = .ok (.invokestatic 68, 3) := by decide +kernel
theorem dX8_fewestGuns_48 : decode cX8_fewestGuns 48 = .ok (.iload 4, 2) := by decide +kernel
theorem dX8_fewestGuns_50 : decode cX8_fewestGuns 50 = .ok (.invokestatic 68, 3) := by decide +kernel
theorem dX8_fewestGuns_53 : decode cX8_fewestGuns 53 = .ok (.if_icmp .ge 17, 3) := by decide +kernel
theorem dX8_fewestGuns_56 : decode cX8_fewestGuns 56 = .ok (.aload_n 0, 1) := by decide +kernel
theorem dX8_fewestGuns_57 : decode cX8_fewestGuns 57 = .ok (.iload 5, 2) := by decide +kernel
theorem dX8_fewestGuns_59 : decode cX8_fewestGuns 59 = .ok (.iload_n 3, 1) := by decide +kernel
theorem dX8_fewestGuns_60 : decode cX8_fewestGuns 60 = .ok (.invokevirtual 84, 3) := by decide +kernel
theorem dX8_fewestGuns_63 : decode cX8_fewestGuns 63 = .ok (.ifCond .eq 7, 3) := by decide +kernel
theorem dX8_fewestGuns_66 : decode cX8_fewestGuns 66 = .ok (.iload 5, 2) := by decide +kernel
theorem dX8_fewestGuns_68 : decode cX8_fewestGuns 68 = .ok (.istore 4, 2) := by decide +kernel
theorem dX8_fewestGuns_70 : decode cX8_fewestGuns 70 = .ok (.iinc 5 1, 3) := by decide +kernel
theorem dX8_fewestGuns_73 : decode cX8_fewestGuns 73 = .ok (.goto (-47), 3) := by decide +kernel
theorem dX8_fewestGuns_76 : decode cX8_fewestGuns 76 = .ok (.iload 4, 2) := by decide +kernel
theorem dX8_fewestGuns_78 : decode cX8_fewestGuns 78 = .ok (.ireturn, 1) := by decide +kernel
def w_X8_fewestGuns_76  (v4 : Int32) (h : AH) (Q : Int32 → AH → Prop) : Prop :=
  Q v4 h
def w_X8_fewestGuns_70  (x76 : Int32 → AH → Prop) (k : Int32 → Int32 → AH → Prop) (v0 : Nat) (v3 : Int32) (v4 : Int32) (v5 : Int32) (h : AH) (Q : Int32 → AH → Prop) : Prop :=
  k v4 (v5 + 1) h
def w_X8_fewestGuns_26  (x76 : Int32 → AH → Prop) (k : Int32 → Int32 → AH → Prop) (v0 : Nat) (v3 : Int32) (v4 : Int32) (v5 : Int32) (h : AH) (Q : Int32 → AH → Prop) : Prop :=
  fN h v0 8 0 fun a1 =>
  fN h a1 7 1 fun a2 =>
  fI h a2 2 0 fun x3 =>
  br (((1 : Int32) <<< (x3 &&& 31)) ≤ v5) (
    x76 v4 h) (
    w_J6_bitCount_0f7a4 v5 h (fun x4 h =>
    w_J6_bitCount_0f7a4 v4 h (fun x5 h =>
    br (x5 ≤ x4) (
      w_X8_fewestGuns_70 x76 k v0 v3 v4 v5 h Q) (
      vr h v0 8 (
      w_X8_meetsChoices v0 v5 v3 h (fun x6 h =>
      br (x6 = 0) (
        w_X8_fewestGuns_70 x76 k v0 v3 v4 v5 h Q) (
        w_X8_fewestGuns_70 x76 k v0 v3 v5 v5 h Q)))))))
def w_X8_fewestGuns  (v0 : Nat) (v1 : Int32) (v2 : Int32) (h : AH) (Q : Int32 → AH → Prop) : Prop :=
  vr h v0 8 (
  w_X8_gatherChoices v0 v1 v2 h (fun x1 h =>
  fN h v0 8 0 fun a2 =>
  fN h a2 7 1 fun a3 =>
  fI h a3 2 0 fun x4 =>
  bd (((1 : Int32) <<< (x4 &&& 31)) - (1 : Int32)) fun x5 =>
  lp (fun (k2 : Int32 × Int32 × AH → Prop) (s2 : Int32 × Int32 × AH) => w_X8_fewestGuns_26  (fun (y4 : Int32) h => w_X8_fewestGuns_76 y4 h Q) (fun (y4 : Int32) (y5 : Int32) h => k2 (y4, y5, h)) v0 x1 s2.1 s2.2.1 s2.2.2 Q) (x5, (0 : Int32), h)))
set_option maxRecDepth 100000 in
set_option maxHeartbeats 4000000 in
theorem s_X8_fewestGuns_76 {p : Program} {l : Launch} {e : Env} {s : State} {m : MethodId} {args : Array Value} {below : List Frame} {meth : Method} {c : Code} {g : GG}  {Q : Int32 → AH → Prop}  (C : CXT p l s m args meth c RX8 cX8_fewestGuns 6 g) (hr : meth.sig.returnType = (some .int))  : ∀ (v4 : Int32) (h : AH), w_X8_fewestGuns_76  v4 h Q → V p l e s m args below meth c g 4 0 0 6 0 0 (MQ below (QCx g (QI Q)) args s 0 0 (gA g)) 76 [(4, .int v4)] [] h := by
  intro v4 h hw
  refine v_iload C dX8_fewestGuns_76 0 rfl ?_
  exact (rt_MQ C _).1 _ _ _ _ _ _ hr dX8_fewestGuns_78 (by decide) (by decide) ⟨_, rfl, hw⟩
set_option maxRecDepth 100000 in
set_option maxHeartbeats 4000000 in
theorem s_X8_fewestGuns_70 {p : Program} {l : Launch} {e : Env} {s : State} {m : MethodId} {args : Array Value} {below : List Frame} {meth : Method} {c : Code} {g : GG} {v0 : Nat} {v3 : Int32} {Q : Int32 → AH → Prop} {x76 : Int32 → AH → Prop} {k : Int32 → Int32 → AH → Prop} (C : CXT p l s m args meth c RX8 cX8_fewestGuns 6 g) (hr : meth.sig.returnType = (some .int)) (hx76 : ∀ (y4 : Int32) (h : AH), x76 y4 h → V p l e s m args below meth c g 4 0 0 6 0 0 (MQ below (QCx g (QI Q)) args s 0 0 (gA g)) 76 [(4, .int y4)] [] h) (hk : ∀ (y4 : Int32) (y5 : Int32) (h : AH), k y4 y5 h → V p l e s m args below meth c g 4 0 0 6 0 0 (MQ below (QCx g (QI Q)) args s 0 0 (gA g)) 26 [(0, .ref v0), (3, .int v3), (4, .int y4), (5, .int y5)] [] h) : ∀ (v4 : Int32) (v5 : Int32) (h : AH), w_X8_fewestGuns_70  x76 k v0 v3 v4 v5 h Q → V p l e s m args below meth c g 4 0 0 6 0 0 (MQ below (QCx g (QI Q)) args s 0 0 (gA g)) 70 [(0, .ref v0), (3, .int v3), (4, .int v4), (5, .int v5)] [] h := by
  intro v4 v5 h hw
  refine v_iinc (v := 1) (ls' := [(5, .int (v5 + 1)), (0, .ref v0), (3, .int v3), (4, .int v4)]) C dX8_fewestGuns_70 3 rfl (by decide) (by decide) rfl ?_
  refine v_goto (tgt := 26) C dX8_fewestGuns_73 (by decide) ?_
  refine v_sub [1, 2, 3, 0] rfl ?_
  exact hk _ _ _ hw
set_option maxRecDepth 100000 in
set_option maxHeartbeats 4000000 in
theorem s_X8_fewestGuns_26 {p : Program} {l : Launch} {e : Env} {s : State} {m : MethodId} {args : Array Value} {below : List Frame} {meth : Method} {c : Code} {g : GG} {v0 : Nat} {v3 : Int32} {Q : Int32 → AH → Prop} {x76 : Int32 → AH → Prop} {k : Int32 → Int32 → AH → Prop} (C : CXT p l s m args meth c RX8 cX8_fewestGuns 6 g) (hr : meth.sig.returnType = (some .int)) (hx76 : ∀ (y4 : Int32) (h : AH), x76 y4 h → V p l e s m args below meth c g 4 0 0 6 0 0 (MQ below (QCx g (QI Q)) args s 0 0 (gA g)) 76 [(4, .int y4)] [] h) (hk : ∀ (y4 : Int32) (y5 : Int32) (h : AH), k y4 y5 h → V p l e s m args below meth c g 4 0 0 6 0 0 (MQ below (QCx g (QI Q)) args s 0 0 (gA g)) 26 [(0, .ref v0), (3, .int v3), (4, .int y4), (5, .int y5)] [] h) : ∀ (v4 : Int32) (v5 : Int32) (h : AH), w_X8_fewestGuns_26  x76 k v0 v3 v4 v5 h Q → V p l e s m args below meth c g 4 0 0 6 0 0 (MQ below (QCx g (QI Q)) args s 0 0 (gA g)) 26 [(0, .ref v0), (3, .int v3), (4, .int v4), (5, .int v5)] [] h := by
  intro v4 v5 h hw
  refine v_iload C dX8_fewestGuns_26 3 rfl ?_
  refine v_iconst (v := 1) C dX8_fewestGuns_28 (by decide) ?_
  refine v_aload_n C dX8_fewestGuns_29 0 rfl rfl ?_
  refine w_getN C fl_X8_33 dX8_fewestGuns_30 rfl hw (fun a1 hw => ?_)
  refine w_getN C fl_X8_77 dX8_fewestGuns_33 rfl hw (fun a2 hw => ?_)
  refine w_getI C fl_X8_81 dX8_fewestGuns_36 rfl hw (fun x3 hw => ?_)
  refine v_ishl C dX8_fewestGuns_39 ?_
  refine v_icmp_ge (tgt := 76) C dX8_fewestGuns_40 (by decide) (fun c_40 => ?_) (fun c_40 => ?_)
  · have hw := hw.1 c_40
    refine v_sub [2] rfl ?_
    exact hx76 _ _ hw
  · have hw := hw.2 c_40
    refine v_iload C dX8_fewestGuns_43 3 rfl ?_
    refine w_callSi (st := []) C cl_X8_68 st_J6_bitCount_0f7a4 (s_J6_bitCount_0f7a4 hw) rfl dX8_fewestGuns_45 rfl (by decide) (by decide) (by decide) (by decide) (by decide) (fun x4 h hw => ?_)
    refine v_iload C dX8_fewestGuns_48 2 rfl ?_
    refine w_callSi (st := [.int x4]) C cl_X8_68 st_J6_bitCount_0f7a4 (s_J6_bitCount_0f7a4 hw) rfl dX8_fewestGuns_50 rfl (Nat.le_of_ble_eq_true rfl) (by decide) (by decide) (by decide) (by decide) (fun x5 h hw => ?_)
    refine v_icmp_ge (tgt := 70) C dX8_fewestGuns_53 (by decide) (fun c_53 => ?_) (fun c_53 => ?_)
    · have hw := hw.1 c_53
      exact s_X8_fewestGuns_70 C hr hx76 hk _ _ _ hw
    · have hw := hw.2 c_53
      refine v_aload_n C dX8_fewestGuns_56 0 rfl rfl ?_
      refine v_iload C dX8_fewestGuns_57 3 rfl ?_
      refine v_iload_n C dX8_fewestGuns_59 1 rfl rfl ?_
      refine w_callVi (st := []) C cl_X8_84 im_X8_meetsChoices se_X8_meetsChoices rfl hw.1 (s_X8_meetsChoices hw.2) rfl dX8_fewestGuns_60 rfl (by decide) (by decide) (by decide) (by decide) (by decide) (fun x6 h hw => ?_)
      refine v_if_eq (tgt := 70) C dX8_fewestGuns_63 (by decide) (fun c_63 => ?_) (fun c_63 => ?_)
      · have hw := hw.1 c_63
        exact s_X8_fewestGuns_70 C hr hx76 hk _ _ _ hw
      · have hw := hw.2 c_63
        refine v_iload C dX8_fewestGuns_66 3 rfl ?_
        refine v_istore (ls' := [(4, .int v5), (0, .ref v0), (3, .int v3), (5, .int v5)]) C dX8_fewestGuns_68 (by decide) rfl ?_
        refine v_sub [1, 2, 0, 3] rfl ?_
        exact s_X8_fewestGuns_70 C hr hx76 hk _ _ _ hw
set_option maxRecDepth 100000 in
set_option maxHeartbeats 4000000 in
theorem s_X8_fewestGuns {l : Launch}  {v0 : Nat} {v1 : Int32} {v2 : Int32} {h : AH} {Q : Int32 → AH → Prop}  (hw : w_X8_fewestGuns  v0 v1 v2 h Q) : CT l yX8_fewestGuns cX8_fewestGuns 6 (some .int) 4 0 0 [.ref v0, .int v1, .int v2] h (QI Q) := by
  refine CT.of (by decide) ⟨rfl, ⟨rfl, ⟨rfl, trivial⟩⟩⟩ (Nat.le_of_ble_eq_true rfl) ?_
  intro p e s m args below meth c g C hr hin
  refine v_eq (pc' := 0) (ls' := [(0, .ref v0), (1, .int v1), (2, .int v2)]) rfl rfl rfl rfl ?_
  refine v_aload_n C dX8_fewestGuns_0 0 rfl rfl ?_
  refine v_iload_n C dX8_fewestGuns_1 1 rfl rfl ?_
  refine v_iload_n C dX8_fewestGuns_2 2 rfl rfl ?_
  refine w_callVi (st := []) C cl_X8_73 im_X8_gatherChoices se_X8_gatherChoices rfl hw.1 (s_X8_gatherChoices hw.2) rfl dX8_fewestGuns_3 rfl (by decide) (by decide) (by decide) (by decide) (by decide) (fun x1 h hw => ?_)
  refine v_istore_n (ls' := [(3, .int x1), (0, .ref v0), (1, .int v1), (2, .int v2)]) C dX8_fewestGuns_6 rfl (by decide) rfl ?_
  refine v_iconst (v := 1) C dX8_fewestGuns_7 (by decide) ?_
  refine v_aload_n C dX8_fewestGuns_8 1 rfl rfl ?_
  refine w_getN C fl_X8_33 dX8_fewestGuns_9 rfl hw (fun a2 hw => ?_)
  refine w_getN C fl_X8_77 dX8_fewestGuns_12 rfl hw (fun a3 hw => ?_)
  refine w_getI C fl_X8_81 dX8_fewestGuns_15 rfl hw (fun x4 hw => ?_)
  refine v_ishl C dX8_fewestGuns_18 ?_
  refine v_iconst (v := 1) C dX8_fewestGuns_19 (by decide) ?_
  refine v_isub C dX8_fewestGuns_20 ?_
  refine w_bd hw (fun x5 hw => ?_)
  refine v_istore (ls' := [(4, .int x5), (3, .int x1), (0, .ref v0), (1, .int v1), (2, .int v2)]) C dX8_fewestGuns_21 (by decide) rfl ?_
  refine v_iconst (v := 0) C dX8_fewestGuns_23 (by decide) ?_
  refine v_istore (ls' := [(5, .int (0 : Int32)), (4, .int x5), (3, .int x1), (0, .ref v0), (1, .int v1), (2, .int v2)]) C dX8_fewestGuns_24 (by decide) rfl ?_
  refine v_sub [3, 2, 1, 0] rfl ?_
  refine lp_walk (P := fun (s' : Int32 × Int32 × AH) => V p l e s m args below meth c g 4 0 0 6 0 0 (MQ below (QCx g (QI Q)) args s 0 0 (gA g)) 26 [(0, .ref v0), (3, .int x1), (4, .int (s'.1)), (5, .int (s'.2.1))] [] s'.2.2) (fun k2 hk2 s' hw => ?_) (x5, (0 : Int32), h) hw
  exact s_X8_fewestGuns_26 C hr (fun y4 h hw => s_X8_fewestGuns_76 C hr  _ h hw) (fun y4 y5 h hw => hk2 (y4, y5, h) hw) _ _ _ hw
-- GrassField$Study.fillWays(ILGrassField$Ways;)V
theorem dX8_fillWays_0 : decode cX8_fillWays 0 = .ok (.aload_n 2, 1) := by decide +kernel
theorem dX8_fillWays_1 : decode cX8_fillWays 1 = .ok (.iconst 0, 1) := by decide +kernel
theorem dX8_fillWays_2 : decode cX8_fillWays 2 = .ok (.putfield 108, 3) := by decide +kernel
theorem dX8_fillWays_5 : decode cX8_fillWays 5 = .ok (.iconst 0, 1) := by decide +kernel
theorem dX8_fillWays_6 : decode cX8_fillWays 6 = .ok (.istore_n 3, 1) := by decide +kernel
theorem dX8_fillWays_7 : decode cX8_fillWays 7 = .ok (.iload_n 3, 1) := by decide +kernel
theorem dX8_fillWays_8 : decode cX8_fillWays 8 = .ok (.aload_n 0, 1) := by decide +kernel
theorem dX8_fillWays_9 : decode cX8_fillWays 9 = .ok (.getfield 33, 3) := by decide +kernel
theorem dX8_fillWays_12 : decode cX8_fillWays 12 = .ok (.getfield 37, 3) := by decide +kernel
theorem dX8_fillWays_15 : decode cX8_fillWays 15 = .ok (.getfield 49, 3) := by decide +kernel
theorem dX8_fillWays_18 : decode cX8_fillWays 18 = .ok (.if_icmp .ge 47, 3) := by decide +kernel
theorem dX8_fillWays_21 : decode cX8_fillWays 21 = .ok (.aload_n 0, 1) := by decide +kernel
theorem dX8_fillWays_22 : decode cX8_fillWays 22 = .ok (.getfield 9, 3) := by decide +kernel
theorem dX8_fillWays_25 : decode cX8_fillWays 25 = .ok (.iload_n 3, 1) := by decide +kernel
theorem dX8_fillWays_26 : decode cX8_fillWays 26 = .ok (.iaload, 1) := by decide +kernel
theorem dX8_fillWays_27 : decode cX8_fillWays 27 = .ok (.iconst 1, 1) := by decide +kernel
theorem dX8_fillWays_28 : decode cX8_fillWays 28 = .ok (.iload_n 1, 1) := by decide +kernel
theorem dX8_fillWays_29 : decode cX8_fillWays 29 = .ok (.ishl, 1) := by decide +kernel
theorem dX8_fillWays_30 : decode cX8_fillWays 30 = .ok (.if_icmp .ne 29, 3) := by decide +kernel
theorem dX8_fillWays_33 : decode cX8_fillWays 33 = .ok (.aload_n 2, 1) := by decide +kernel
theorem dX8_fillWays_34 : decode cX8_fillWays 34 = .ok (.invokevirtual 111, 3) := by decide +kernel
theorem dX8_fillWays_37 : decode cX8_fillWays 37 = .ok (.ifCond .ne 22, 3) := by decide +kernel
theorem dX8_fillWays_40 : decode cX8_fillWays 40 = .ok (.aload_n 2, 1) := by decide +kernel
theorem dX8_fillWays_41 : decode cX8_fillWays 41 = .ok (.iload_n 3, 1) := by decide +kernel
theorem dX8_fillWays_42 : decode cX8_fillWays 42 = .ok (.aload_n 0, 1) := by decide +kernel
theorem dX8_fillWays_43 : decode cX8_fillWays 43 = .ok (.getfield 33, 3) := by decide +kernel
theorem dX8_fillWays_46 : decode cX8_fillWays 46 = .ok (.getfield 37, 3) := by decide +kernel
theorem dX8_fillWays_49 : decode cX8_fillWays 49 = .ok (.aload_n 0, 1) := by decide +kernel
theorem dX8_fillWays_50 : decode cX8_fillWays 50 = .ok (.getfield 33, 3) := by decide +kernel
theorem dX8_fillWays_53 : decode cX8_fillWays 53 = .ok (.getfield 115, 3) := by decide +kernel
theorem dX8_fillWays_56 : decode cX8_fillWays 56 = .ok (.invokevirtual 119, 3) := by decide +kernel
theorem dX8_fillWays_59 : decode cX8_fillWays 59 = .ok (.iinc 3 1, 3) := by decide +kernel
theorem dX8_fillWays_62 : decode cX8_fillWays 62 = .ok (.goto (-55), 3) := by decide +kernel
theorem dX8_fillWays_65 : decode cX8_fillWays 65 = .ok (.return_, 1) := by decide +kernel
def w_X8_fillWays_65  (h : AH) (Q : AH → Prop) : Prop :=
  Q h
def w_X8_fillWays_59  (x65 : AH → Prop) (k : Int32 → AH → Prop) (v0 : Nat) (v1 : Int32) (v2 : Nat) (v3 : Int32) (h : AH) (Q : AH → Prop) : Prop :=
  k (v3 + 1) h
def w_X8_fillWays_7  (x65 : AH → Prop) (k : Int32 → AH → Prop) (v0 : Nat) (v1 : Int32) (v2 : Nat) (v3 : Int32) (h : AH) (Q : AH → Prop) : Prop :=
  fN h v0 8 0 fun a1 =>
  fN h a1 7 3 fun a2 =>
  fI h a2 1 0 fun x3 =>
  br (x3 ≤ v3) (
    x65  h) (
    fN h v0 8 1 fun a4 =>
    aI h a4 v3 fun x5 =>
    br (x5 = ((1 : Int32) <<< (v1 &&& 31))) (
      vr h v2 10 (
      w_X10_isFull v2 h (fun x6 h =>
      br (x6 = 0) (
        fN h v0 8 0 fun a7 =>
        fN h a7 7 3 fun a8 =>
        fN h v0 8 0 fun a9 =>
        fN h a9 7 0 fun a10 =>
        vr h v2 10 (
        w_X10_add v2 v3 a8 a10 h (fun h =>
        w_X8_fillWays_59 x65 k v0 v1 v2 v3 h Q))) (
        w_X8_fillWays_59 x65 k v0 v1 v2 v3 h Q)))) (
      w_X8_fillWays_59 x65 k v0 v1 v2 v3 h Q))
def w_X8_fillWays  (v0 : Nat) (v1 : Int32) (v2 : Nat) (h : AH) (Q : AH → Prop) : Prop :=
  uI h v2 10 0 (0 : Int32) fun h =>
  lp (fun (k2 : Int32 × AH → Prop) (s2 : Int32 × AH) => w_X8_fillWays_7  (fun  h => w_X8_fillWays_65  h Q) (fun (y3 : Int32) h => k2 (y3, h)) v0 v1 v2 s2.1 s2.2 Q) ((0 : Int32), h)
set_option maxRecDepth 100000 in
set_option maxHeartbeats 4000000 in
theorem s_X8_fillWays_65 {p : Program} {l : Launch} {e : Env} {s : State} {m : MethodId} {args : Array Value} {below : List Frame} {meth : Method} {c : Code} {g : GG}  {Q : AH → Prop}  (C : CXT p l s m args meth c RX8 cX8_fillWays 4 g) (hr : meth.sig.returnType = none)  : ∀  (h : AH), w_X8_fillWays_65  h Q → V p l e s m args below meth c g 4 0 0 4 0 0 (MQ below (QCx g (QV Q)) args s 0 0 (gA g)) 65 [] [] h := by
  intro  h hw
  exact (rt_MQ C _).2.2.1 _ _ _ _ _ hr dX8_fillWays_65 (by decide) (by decide) ⟨rfl, hw⟩
set_option maxRecDepth 100000 in
set_option maxHeartbeats 4000000 in
theorem s_X8_fillWays_59 {p : Program} {l : Launch} {e : Env} {s : State} {m : MethodId} {args : Array Value} {below : List Frame} {meth : Method} {c : Code} {g : GG} {v0 : Nat} {v1 : Int32} {v2 : Nat} {Q : AH → Prop} {x65 : AH → Prop} {k : Int32 → AH → Prop} (C : CXT p l s m args meth c RX8 cX8_fillWays 4 g) (hr : meth.sig.returnType = none) (hx65 : ∀  (h : AH), x65  h → V p l e s m args below meth c g 4 0 0 4 0 0 (MQ below (QCx g (QV Q)) args s 0 0 (gA g)) 65 [] [] h) (hk : ∀ (y3 : Int32) (h : AH), k y3 h → V p l e s m args below meth c g 4 0 0 4 0 0 (MQ below (QCx g (QV Q)) args s 0 0 (gA g)) 7 [(0, .ref v0), (1, .int v1), (2, .ref v2), (3, .int y3)] [] h) : ∀ (v3 : Int32) (h : AH), w_X8_fillWays_59  x65 k v0 v1 v2 v3 h Q → V p l e s m args below meth c g 4 0 0 4 0 0 (MQ below (QCx g (QV Q)) args s 0 0 (gA g)) 59 [(0, .ref v0), (1, .int v1), (2, .ref v2), (3, .int v3)] [] h := by
  intro v3 h hw
  refine v_iinc (v := 1) (ls' := [(3, .int (v3 + 1)), (0, .ref v0), (1, .int v1), (2, .ref v2)]) C dX8_fillWays_59 3 rfl (by decide) (by decide) rfl ?_
  refine v_goto (tgt := 7) C dX8_fillWays_62 (by decide) ?_
  refine v_sub [1, 2, 3, 0] rfl ?_
  exact hk _ _ hw
set_option maxRecDepth 100000 in
set_option maxHeartbeats 4000000 in
theorem s_X8_fillWays_7 {p : Program} {l : Launch} {e : Env} {s : State} {m : MethodId} {args : Array Value} {below : List Frame} {meth : Method} {c : Code} {g : GG} {v0 : Nat} {v1 : Int32} {v2 : Nat} {Q : AH → Prop} {x65 : AH → Prop} {k : Int32 → AH → Prop} (C : CXT p l s m args meth c RX8 cX8_fillWays 4 g) (hr : meth.sig.returnType = none) (hx65 : ∀  (h : AH), x65  h → V p l e s m args below meth c g 4 0 0 4 0 0 (MQ below (QCx g (QV Q)) args s 0 0 (gA g)) 65 [] [] h) (hk : ∀ (y3 : Int32) (h : AH), k y3 h → V p l e s m args below meth c g 4 0 0 4 0 0 (MQ below (QCx g (QV Q)) args s 0 0 (gA g)) 7 [(0, .ref v0), (1, .int v1), (2, .ref v2), (3, .int y3)] [] h) : ∀ (v3 : Int32) (h : AH), w_X8_fillWays_7  x65 k v0 v1 v2 v3 h Q → V p l e s m args below meth c g 4 0 0 4 0 0 (MQ below (QCx g (QV Q)) args s 0 0 (gA g)) 7 [(0, .ref v0), (1, .int v1), (2, .ref v2), (3, .int v3)] [] h := by
  intro v3 h hw
  refine v_iload_n C dX8_fillWays_7 3 rfl rfl ?_
  refine v_aload_n C dX8_fillWays_8 0 rfl rfl ?_
  refine w_getN C fl_X8_33 dX8_fillWays_9 rfl hw (fun a1 hw => ?_)
  refine w_getN C fl_X8_37 dX8_fillWays_12 rfl hw (fun a2 hw => ?_)
  refine w_getI C fl_X8_49 dX8_fillWays_15 rfl hw (fun x3 hw => ?_)
  refine v_icmp_ge (tgt := 65) C dX8_fillWays_18 (by decide) (fun c_18 => ?_) (fun c_18 => ?_)
  · have hw := hw.1 c_18
    refine v_sub [] rfl ?_
    exact hx65  _ hw
  · have hw := hw.2 c_18
    refine v_aload_n C dX8_fillWays_21 0 rfl rfl ?_
    refine w_getN C fl_X8_9 dX8_fillWays_22 rfl hw (fun a4 hw => ?_)
    refine v_iload_n C dX8_fillWays_25 3 rfl rfl ?_
    refine w_iaload C dX8_fillWays_26 hw (fun x5 hw => ?_)
    refine v_iconst (v := 1) C dX8_fillWays_27 (by decide) ?_
    refine v_iload_n C dX8_fillWays_28 1 rfl rfl ?_
    refine v_ishl C dX8_fillWays_29 ?_
    refine v_icmp_ne (tgt := 59) C dX8_fillWays_30 (by decide) (fun c_30 => ?_) (fun c_30 => ?_)
    · have hw := hw.2 c_30
      exact s_X8_fillWays_59 C hr hx65 hk _ _ hw
    · have hw := hw.1 c_30
      refine v_aload_n C dX8_fillWays_33 2 rfl rfl ?_
      refine w_callVi (st := []) C cl_X8_111 im_X10_isFull se_X10_isFull rfl hw.1 (s_X10_isFull hw.2) rfl dX8_fillWays_34 rfl (by decide) (by decide) (by decide) (by decide) (by decide) (fun x6 h hw => ?_)
      refine v_if_ne (tgt := 59) C dX8_fillWays_37 (by decide) (fun c_37 => ?_) (fun c_37 => ?_)
      · have hw := hw.2 c_37
        exact s_X8_fillWays_59 C hr hx65 hk _ _ hw
      · have hw := hw.1 c_37
        refine v_aload_n C dX8_fillWays_40 2 rfl rfl ?_
        refine v_iload_n C dX8_fillWays_41 3 rfl rfl ?_
        refine v_aload_n C dX8_fillWays_42 0 rfl rfl ?_
        refine w_getN C fl_X8_33 dX8_fillWays_43 rfl hw (fun a7 hw => ?_)
        refine w_getN C fl_X8_37 dX8_fillWays_46 rfl hw (fun a8 hw => ?_)
        refine v_aload_n C dX8_fillWays_49 0 rfl rfl ?_
        refine w_getN C fl_X8_33 dX8_fillWays_50 rfl hw (fun a9 hw => ?_)
        refine w_getN C fl_X8_115 dX8_fillWays_53 rfl hw (fun a10 hw => ?_)
        refine w_callVv (st := []) C cl_X8_119 im_X10_add se_X10_add rfl hw.1 (s_X10_add hw.2) rfl dX8_fillWays_56 rfl (by decide) (by decide) (by decide) (by decide) (by decide) (fun h hw => ?_)
        exact s_X8_fillWays_59 C hr hx65 hk _ _ hw
set_option maxRecDepth 100000 in
set_option maxHeartbeats 4000000 in
theorem s_X8_fillWays {l : Launch}  {v0 : Nat} {v1 : Int32} {v2 : Nat} {h : AH} {Q : AH → Prop}  (hw : w_X8_fillWays  v0 v1 v2 h Q) : CT l yX8_fillWays cX8_fillWays 4 none 4 0 0 [.ref v0, .int v1, .ref v2] h (QV Q) := by
  refine CT.of (by decide) ⟨rfl, ⟨rfl, ⟨rfl, trivial⟩⟩⟩ (Nat.le_of_ble_eq_true rfl) ?_
  intro p e s m args below meth c g C hr hin
  refine v_eq (pc' := 0) (ls' := [(0, .ref v0), (1, .int v1), (2, .ref v2)]) rfl rfl rfl rfl ?_
  refine v_aload_n C dX8_fillWays_0 2 rfl rfl ?_
  refine v_iconst (v := 0) C dX8_fillWays_1 (by decide) ?_
  refine w_putI C fp_X8_108 (Or.inl rfl) dX8_fillWays_2 hw (fun h hw => ?_)
  refine v_iconst (v := 0) C dX8_fillWays_5 (by decide) ?_
  refine v_istore_n (ls' := [(3, .int (0 : Int32)), (0, .ref v0), (1, .int v1), (2, .ref v2)]) C dX8_fillWays_6 rfl (by decide) rfl ?_
  refine v_sub [1, 2, 3, 0] rfl ?_
  refine lp_walk (P := fun (s' : Int32 × AH) => V p l e s m args below meth c g 4 0 0 4 0 0 (MQ below (QCx g (QV Q)) args s 0 0 (gA g)) 7 [(0, .ref v0), (1, .int v1), (2, .ref v2), (3, .int (s'.1))] [] s'.2) (fun k2 hk2 s' hw => ?_) ((0 : Int32), h) hw
  exact s_X8_fillWays_7 C hr (fun  h hw => s_X8_fillWays_65 C hr   h hw) (fun y3 h hw => hk2 (y3, h) hw) _ _ hw
-- GrassField$Study.tallyCells(Z)V
theorem dX8_tallyCells_0 : decode cX8_tallyCells 0 = .ok (.aload_n 0, 1) := by decide +kernel
theorem dX8_tallyCells_1 : decode cX8_tallyCells 1 = .ok (.getfield 33, 3) := by decide +kernel
theorem dX8_tallyCells_4 : decode cX8_tallyCells 4 = .ok (.getfield 37, 3) := by decide +kernel
theorem dX8_tallyCells_7 : decode cX8_tallyCells 7 = .ok (.astore_n 2, 1) := by decide +kernel
theorem dX8_tallyCells_8 : decode cX8_tallyCells 8 = .ok (.aload_n 2, 1) := by decide +kernel
theorem dX8_tallyCells_9 : decode cX8_tallyCells 9 = .ok (.invokevirtual 43, 3) := by decide +kernel
theorem dX8_tallyCells_12 : decode cX8_tallyCells 12 = .ok (.istore_n 3, 1) := by decide +kernel
theorem dX8_tallyCells_13 : decode cX8_tallyCells 13 = .ok (.aload_n 0, 1) := by decide +kernel
theorem dX8_tallyCells_14 : decode cX8_tallyCells 14 = .ok (.getfield 21, 3) := by decide +kernel
theorem dX8_tallyCells_17 : decode cX8_tallyCells 17 = .ok (.iconst 0, 1) := by decide +kernel
theorem dX8_tallyCells_18 : decode cX8_tallyCells 18 = .ok (.invokestatic 150, 3) := by decide +kernel
theorem dX8_tallyCells_21 : decode cX8_tallyCells 21 = .ok (.iconst 0, 1) := by decide +kernel
theorem dX8_tallyCells_22 : decode cX8_tallyCells 22 = .ok (.istore 4, 2) := by decide +kernel
theorem dX8_tallyCells_24 : decode cX8_tallyCells 24 = .ok (.iload 4, 2) := by decide +kernel
theorem dX8_tallyCells_26 : decode cX8_tallyCells 26 = .ok (.aload_n 2, 1) := by decide +kernel
theorem dX8_tallyCells_27 : decode cX8_tallyCells 27 = .ok (.getfield 49, 3) := by decide +kernel
theorem dX8_tallyCells_30 : decode cX8_tallyCells 30 = .ok (.if_icmp .ge 51, 3) := by decide +kernel
theorem dX8_tallyCells_33 : decode cX8_tallyCells 33 = .ok (.iload_n 1, 1) := by decide +kernel
theorem dX8_tallyCells_34 : decode cX8_tallyCells 34 = .ok (.ifCond .eq 15, 3) := by decide +kernel
theorem dX8_tallyCells_37 : decode cX8_tallyCells 37 = .ok (.aload_n 0, 1) := by decide +kernel
theorem dX8_tallyCells_38 : decode cX8_tallyCells 38 = .ok (.iload 4, 2) := by decide +kernel
theorem dX8_tallyCells_40 : decode cX8_tallyCells 40 = .ok (.invokevirtual 64, 3) := by decide +kernel
theorem dX8_tallyCells_43 : decode cX8_tallyCells 43 = .ok (.ifCond .eq 32, 3) := by decide +kernel
theorem dX8_tallyCells_46 : decode cX8_tallyCells 46 = .ok (.goto 13, 3) := by decide +kernel
theorem dX8_tallyCells_49 : decode cX8_tallyCells 49 = .ok (.aload_n 2, 1) := by decide +kernel
theorem dX8_tallyCells_50 : decode cX8_tallyCells 50 = .ok (.iload 4, 2) := by decide +kernel
theorem dX8_tallyCells_52 : decode cX8_tallyCells 52 = .ok (.iload_n 3, 1) := by decide +kernel
theorem dX8_tallyCells_53 : decode cX8_tallyCells 53 = .ok (.invokevirtual 56, 3) := by decide +kernel
theorem dX8_tallyCells_56 : decode cX8_tallyCells 56 = .ok (.ifCond .eq 19, 3) := by decide +kernel
theorem dX8_tallyCells_59 : decode cX8_tallyCells 59 = .ok (.aload_n 0, 1) := by decide +kernel
theorem dX8_tallyCells_60 : decode cX8_tallyCells 60 = .ok (.getfield 21, 3) := by decide +kernel
theorem dX8_tallyCells_63 : decode cX8_tallyCells 63 = .ok (.aload_n 2, 1) := by decide +kernel
theorem dX8_tallyCells_64 : decode cX8_tallyCells 64 = .ok (.getfield 87, 3) := by decide +kernel
theorem dX8_tallyCells_67 : decode cX8_tallyCells 67 = .ok (.iload 4, 2) := by decide +kernel
theorem dX8_tallyCells_69 : decode cX8_tallyCells 69 = .ok (.iaload, 1) := by decide +kernel
theorem dX8_tallyCells_70 : decode cX8_tallyCells 70 = .ok (.dup2, 1) := by decide +kernel
theorem dX8_tallyCells_71 : decode cX8_tallyCells 71 = .ok (.iaload, 1) := by decide +kernel
theorem dX8_tallyCells_72 : decode cX8_tallyCells 72 = .ok (.iconst 1, 1) := by decide +kernel
theorem dX8_tallyCells_73 : decode cX8_tallyCells 73 = .ok (.iadd, 1) := by decide +kernel
theorem dX8_tallyCells_74 : decode cX8_tallyCells 74 = .ok (.iastore, 1) := by decide +kernel
theorem dX8_tallyCells_75 : decode cX8_tallyCells 75 = .ok (.iinc 4 1, 3) := by decide +kernel
theorem dX8_tallyCells_78 : decode cX8_tallyCells 78 = .ok (.goto (-54), 3) := by decide +kernel
theorem dX8_tallyCells_81 : decode cX8_tallyCells 81 = .ok (.return_, 1) := by decide +kernel
def w_X8_tallyCells_81  (h : AH) (Q : AH → Prop) : Prop :=
  Q h
def w_X8_tallyCells_75  (x81 : AH → Prop) (k : Int32 → AH → Prop) (v0 : Nat) (v1 : Int32) (v2 : Nat) (v3 : Int32) (v4 : Int32) (h : AH) (Q : AH → Prop) : Prop :=
  k (v4 + 1) h
def w_X8_tallyCells_59  (x81 : AH → Prop) (k : Int32 → AH → Prop) (v0 : Nat) (v1 : Int32) (v2 : Nat) (v3 : Int32) (v4 : Int32) (h : AH) (Q : AH → Prop) : Prop :=
  fN h v0 8 4 fun a1 =>
  fN h v2 1 2 fun a2 =>
  aI h a2 v4 fun x3 =>
  aI h a1 x3 fun x4 =>
  tI h a1 x3 (x4 + (1 : Int32)) fun h =>
  w_X8_tallyCells_75 x81 k v0 v1 v2 v3 v4 h Q
def w_X8_tallyCells_24  (x81 : AH → Prop) (k : Int32 → AH → Prop) (v0 : Nat) (v1 : Int32) (v2 : Nat) (v3 : Int32) (v4 : Int32) (h : AH) (Q : AH → Prop) : Prop :=
  fI h v2 1 0 fun x1 =>
  br (x1 ≤ v4) (
    x81  h) (
    br (v1 = 0) (
      vr h v2 1 (
      w_X1_isSeen v2 v4 v3 h (fun x2 h =>
      br (x2 = 0) (
        w_X8_tallyCells_75 x81 k v0 v1 v2 v3 v4 h Q) (
        w_X8_tallyCells_59 x81 k v0 v1 v2 v3 v4 h Q)))) (
      vr h v0 8 (
      w_X8_isCase v0 v4 h (fun x3 h =>
      br (x3 = 0) (
        w_X8_tallyCells_75 x81 k v0 v1 v2 v3 v4 h Q) (
        w_X8_tallyCells_59 x81 k v0 v1 v2 v3 v4 h Q)))))
def w_X8_tallyCells  (v0 : Nat) (v1 : Int32) (h : AH) (Q : AH → Prop) : Prop :=
  fN h v0 8 0 fun a1 =>
  fN h a1 7 3 fun a2 =>
  vr h a2 1 (
  w_X1_nearRows a2 h (fun x3 h =>
  fN h v0 8 4 fun a4 =>
  w_J7_fill_53178 a4 (0 : Int32) h (fun h =>
  lp (fun (k2 : Int32 × AH → Prop) (s2 : Int32 × AH) => w_X8_tallyCells_24  (fun  h => w_X8_tallyCells_81  h Q) (fun (y4 : Int32) h => k2 (y4, h)) v0 v1 a2 x3 s2.1 s2.2 Q) ((0 : Int32), h))))
set_option maxRecDepth 100000 in
set_option maxHeartbeats 4000000 in
theorem s_X8_tallyCells_81 {p : Program} {l : Launch} {e : Env} {s : State} {m : MethodId} {args : Array Value} {below : List Frame} {meth : Method} {c : Code} {g : GG}  {Q : AH → Prop}  (C : CXT p l s m args meth c RX8 cX8_tallyCells 5 g) (hr : meth.sig.returnType = none)  : ∀  (h : AH), w_X8_tallyCells_81  h Q → V p l e s m args below meth c g 2 0 0 5 0 0 (MQ below (QCx g (QV Q)) args s 0 0 (gA g)) 81 [] [] h := by
  intro  h hw
  exact (rt_MQ C _).2.2.1 _ _ _ _ _ hr dX8_tallyCells_81 (by decide) (by decide) ⟨rfl, hw⟩
set_option maxRecDepth 100000 in
set_option maxHeartbeats 4000000 in
theorem s_X8_tallyCells_75 {p : Program} {l : Launch} {e : Env} {s : State} {m : MethodId} {args : Array Value} {below : List Frame} {meth : Method} {c : Code} {g : GG} {v0 : Nat} {v1 : Int32} {v2 : Nat} {v3 : Int32} {Q : AH → Prop} {x81 : AH → Prop} {k : Int32 → AH → Prop} (C : CXT p l s m args meth c RX8 cX8_tallyCells 5 g) (hr : meth.sig.returnType = none) (hx81 : ∀  (h : AH), x81  h → V p l e s m args below meth c g 2 0 0 5 0 0 (MQ below (QCx g (QV Q)) args s 0 0 (gA g)) 81 [] [] h) (hk : ∀ (y4 : Int32) (h : AH), k y4 h → V p l e s m args below meth c g 2 0 0 5 0 0 (MQ below (QCx g (QV Q)) args s 0 0 (gA g)) 24 [(0, .ref v0), (1, .int v1), (2, .ref v2), (3, .int v3), (4, .int y4)] [] h) : ∀ (v4 : Int32) (h : AH), w_X8_tallyCells_75  x81 k v0 v1 v2 v3 v4 h Q → V p l e s m args below meth c g 2 0 0 5 0 0 (MQ below (QCx g (QV Q)) args s 0 0 (gA g)) 75 [(0, .ref v0), (1, .int v1), (2, .ref v2), (3, .int v3), (4, .int v4)] [] h := by
  intro v4 h hw
  refine v_iinc (v := 1) (ls' := [(4, .int (v4 + 1)), (0, .ref v0), (1, .int v1), (2, .ref v2), (3, .int v3)]) C dX8_tallyCells_75 4 rfl (by decide) (by decide) rfl ?_
  refine v_goto (tgt := 24) C dX8_tallyCells_78 (by decide) ?_
  refine v_sub [1, 2, 3, 4, 0] rfl ?_
  exact hk _ _ hw
set_option maxRecDepth 100000 in
set_option maxHeartbeats 4000000 in
theorem s_X8_tallyCells_59 {p : Program} {l : Launch} {e : Env} {s : State} {m : MethodId} {args : Array Value} {below : List Frame} {meth : Method} {c : Code} {g : GG} {v0 : Nat} {v1 : Int32} {v2 : Nat} {v3 : Int32} {Q : AH → Prop} {x81 : AH → Prop} {k : Int32 → AH → Prop} (C : CXT p l s m args meth c RX8 cX8_tallyCells 5 g) (hr : meth.sig.returnType = none) (hx81 : ∀  (h : AH), x81  h → V p l e s m args below meth c g 2 0 0 5 0 0 (MQ below (QCx g (QV Q)) args s 0 0 (gA g)) 81 [] [] h) (hk : ∀ (y4 : Int32) (h : AH), k y4 h → V p l e s m args below meth c g 2 0 0 5 0 0 (MQ below (QCx g (QV Q)) args s 0 0 (gA g)) 24 [(0, .ref v0), (1, .int v1), (2, .ref v2), (3, .int v3), (4, .int y4)] [] h) : ∀ (v4 : Int32) (h : AH), w_X8_tallyCells_59  x81 k v0 v1 v2 v3 v4 h Q → V p l e s m args below meth c g 2 0 0 5 0 0 (MQ below (QCx g (QV Q)) args s 0 0 (gA g)) 59 [(0, .ref v0), (1, .int v1), (2, .ref v2), (3, .int v3), (4, .int v4)] [] h := by
  intro v4 h hw
  refine v_aload_n C dX8_tallyCells_59 0 rfl rfl ?_
  refine w_getN C fl_X8_21 dX8_tallyCells_60 rfl hw (fun a1 hw => ?_)
  refine v_aload_n C dX8_tallyCells_63 2 rfl rfl ?_
  refine w_getN C fl_X8_87 dX8_tallyCells_64 rfl hw (fun a2 hw => ?_)
  refine v_iload C dX8_tallyCells_67 4 rfl ?_
  refine w_iaload C dX8_tallyCells_69 hw (fun x3 hw => ?_)
  refine v_dup2 C dX8_tallyCells_70 rfl rfl ?_
  refine w_iaload C dX8_tallyCells_71 hw (fun x4 hw => ?_)
  refine v_iconst (v := 1) C dX8_tallyCells_72 (by decide) ?_
  refine v_iadd C dX8_tallyCells_73 ?_
  refine w_iastore C dX8_tallyCells_74 hw (fun h hw => ?_)
  exact s_X8_tallyCells_75 C hr hx81 hk _ _ hw
set_option maxRecDepth 100000 in
set_option maxHeartbeats 4000000 in
theorem s_X8_tallyCells_24 {p : Program} {l : Launch} {e : Env} {s : State} {m : MethodId} {args : Array Value} {below : List Frame} {meth : Method} {c : Code} {g : GG} {v0 : Nat} {v1 : Int32} {v2 : Nat} {v3 : Int32} {Q : AH → Prop} {x81 : AH → Prop} {k : Int32 → AH → Prop} (C : CXT p l s m args meth c RX8 cX8_tallyCells 5 g) (hr : meth.sig.returnType = none) (hx81 : ∀  (h : AH), x81  h → V p l e s m args below meth c g 2 0 0 5 0 0 (MQ below (QCx g (QV Q)) args s 0 0 (gA g)) 81 [] [] h) (hk : ∀ (y4 : Int32) (h : AH), k y4 h → V p l e s m args below meth c g 2 0 0 5 0 0 (MQ below (QCx g (QV Q)) args s 0 0 (gA g)) 24 [(0, .ref v0), (1, .int v1), (2, .ref v2), (3, .int v3), (4, .int y4)] [] h) : ∀ (v4 : Int32) (h : AH), w_X8_tallyCells_24  x81 k v0 v1 v2 v3 v4 h Q → V p l e s m args below meth c g 2 0 0 5 0 0 (MQ below (QCx g (QV Q)) args s 0 0 (gA g)) 24 [(0, .ref v0), (1, .int v1), (2, .ref v2), (3, .int v3), (4, .int v4)] [] h := by
  intro v4 h hw
  refine v_iload C dX8_tallyCells_24 4 rfl ?_
  refine v_aload_n C dX8_tallyCells_26 2 rfl rfl ?_
  refine w_getI C fl_X8_49 dX8_tallyCells_27 rfl hw (fun x1 hw => ?_)
  refine v_icmp_ge (tgt := 81) C dX8_tallyCells_30 (by decide) (fun c_30 => ?_) (fun c_30 => ?_)
  · have hw := hw.1 c_30
    refine v_sub [] rfl ?_
    exact hx81  _ hw
  · have hw := hw.2 c_30
    refine v_iload_n C dX8_tallyCells_33 1 rfl rfl ?_
    refine v_if_eq (tgt := 49) C dX8_tallyCells_34 (by decide) (fun c_34 => ?_) (fun c_34 => ?_)
    · have hw := hw.1 c_34
      refine v_aload_n C dX8_tallyCells_49 2 rfl rfl ?_
      refine v_iload C dX8_tallyCells_50 4 rfl ?_
      refine v_iload_n C dX8_tallyCells_52 3 rfl rfl ?_
      refine w_callVi (st := []) C cl_X8_56 im_X1_isSeen se_X1_isSeen rfl hw.1 (s_X1_isSeen hw.2) rfl dX8_tallyCells_53 rfl (by decide) (by decide) (by decide) (by decide) (by decide) (fun x2 h hw => ?_)
      refine v_if_eq (tgt := 75) C dX8_tallyCells_56 (by decide) (fun c_56 => ?_) (fun c_56 => ?_)
      · have hw := hw.1 c_56
        exact s_X8_tallyCells_75 C hr hx81 hk _ _ hw
      · have hw := hw.2 c_56
        exact s_X8_tallyCells_59 C hr hx81 hk _ _ hw
    · have hw := hw.2 c_34
      refine v_aload_n C dX8_tallyCells_37 0 rfl rfl ?_
      refine v_iload C dX8_tallyCells_38 4 rfl ?_
      refine w_callVi (st := []) C cl_X8_64 im_X8_isCase se_X8_isCase rfl hw.1 (s_X8_isCase hw.2) rfl dX8_tallyCells_40 rfl (by decide) (by decide) (by decide) (by decide) (by decide) (fun x3 h hw => ?_)
      refine v_if_eq (tgt := 75) C dX8_tallyCells_43 (by decide) (fun c_43 => ?_) (fun c_43 => ?_)
      · have hw := hw.1 c_43
        exact s_X8_tallyCells_75 C hr hx81 hk _ _ hw
      · have hw := hw.2 c_43
        refine v_goto (tgt := 59) C dX8_tallyCells_46 (by decide) ?_
        exact s_X8_tallyCells_59 C hr hx81 hk _ _ hw
set_option maxRecDepth 100000 in
set_option maxHeartbeats 4000000 in
theorem s_X8_tallyCells {l : Launch}  {v0 : Nat} {v1 : Int32} {h : AH} {Q : AH → Prop}  (hw : w_X8_tallyCells  v0 v1 h Q) : CT l yX8_tallyCells cX8_tallyCells 5 none 2 0 0 [.ref v0, .int v1] h (QV Q) := by
  refine CT.of (by decide) ⟨rfl, ⟨rfl, trivial⟩⟩ (Nat.le_of_ble_eq_true rfl) ?_
  intro p e s m args below meth c g C hr hin
  refine v_eq (pc' := 0) (ls' := [(0, .ref v0), (1, .int v1)]) rfl rfl rfl rfl ?_
  refine v_aload_n C dX8_tallyCells_0 0 rfl rfl ?_
  refine w_getN C fl_X8_33 dX8_tallyCells_1 rfl hw (fun a1 hw => ?_)
  refine w_getN C fl_X8_37 dX8_tallyCells_4 rfl hw (fun a2 hw => ?_)
  refine v_astore_n (ls' := [(2, .ref a2), (0, .ref v0), (1, .int v1)]) C dX8_tallyCells_7 rfl (by decide) rfl ?_
  refine v_aload_n C dX8_tallyCells_8 0 rfl rfl ?_
  refine w_callVi (st := []) C cl_X8_43 im_X1_nearRows se_X1_nearRows rfl hw.1 (s_X1_nearRows hw.2) rfl dX8_tallyCells_9 rfl (by decide) (by decide) (by decide) (by decide) (by decide) (fun x3 h hw => ?_)
  refine v_istore_n (ls' := [(3, .int x3), (2, .ref a2), (0, .ref v0), (1, .int v1)]) C dX8_tallyCells_12 rfl (by decide) rfl ?_
  refine v_aload_n C dX8_tallyCells_13 2 rfl rfl ?_
  refine w_getN C fl_X8_21 dX8_tallyCells_14 rfl hw (fun a4 hw => ?_)
  refine v_iconst (v := 0) C dX8_tallyCells_17 (by decide) ?_
  refine w_callSv (st := []) C cl_X8_150 st_J7_fill_53178 (s_J7_fill_53178 hw) rfl dX8_tallyCells_18 rfl (by decide) (by decide) (by decide) (by decide) (by decide) (fun h hw => ?_)
  refine v_iconst (v := 0) C dX8_tallyCells_21 (by decide) ?_
  refine v_istore (ls' := [(4, .int (0 : Int32)), (3, .int x3), (2, .ref a2), (0, .ref v0), (1, .int v1)]) C dX8_tallyCells_22 (by decide) rfl ?_
  refine v_sub [3, 4, 2, 1, 0] rfl ?_
  refine lp_walk (P := fun (s' : Int32 × AH) => V p l e s m args below meth c g 2 0 0 5 0 0 (MQ below (QCx g (QV Q)) args s 0 0 (gA g)) 24 [(0, .ref v0), (1, .int v1), (2, .ref a2), (3, .int x3), (4, .int (s'.1))] [] s'.2) (fun k2 hk2 s' hw => ?_) ((0 : Int32), h) hw
  exact s_X8_tallyCells_24 C hr (fun  h hw => s_X8_tallyCells_81 C hr   h hw) (fun y4 h hw => hk2 (y4, h) hw) _ _ hw
-- GrassField$Study.firstHeap(I)I
theorem dX8_firstHeap_0 : decode cX8_firstHeap 0 = .ok (.aload_n 0, 1) := by decide +kernel
theorem dX8_firstHeap_1 : decode cX8_firstHeap 1 = .ok (.iconst 1, 1) := by decide +kernel
theorem dX8_firstHeap_2 : decode cX8_firstHeap 2 = .ok (.invokevirtual 156, 3) := by decide +kernel
theorem dX8_firstHeap_5 : decode cX8_firstHeap 5 = .ok (.iconst 0, 1) := by decide +kernel
theorem dX8_firstHeap_6 : decode cX8_firstHeap 6 = .ok (.istore_n 2, 1) := by decide +kernel
theorem dX8_firstHeap_7 : decode cX8_firstHeap 7 = .ok (.iload_n 2, 1) := by decide +kernel
theorem dX8_firstHeap_8 : decode cX8_firstHeap 8 = .ok (.sipush 256, 3) := by decide +kernel
theorem dX8_firstHeap_11 : decode cX8_firstHeap 11 = .ok (.if_icmp .ge 21, 3) := by decide +kernel
theorem dX8_firstHeap_14 : decode cX8_firstHeap 14 = .ok (.aload_n 0, 1) := by decide +kernel
theorem dX8_firstHeap_15 : decode cX8_firstHeap 15 = .ok (.getfield 21, 3) := by decide +kernel
theorem dX8_firstHeap_18 : decode cX8_firstHeap 18 = .ok (.iload_n 2, 1) := by decide +kernel
theorem dX8_firstHeap_19 : decode cX8_firstHeap 19 = .ok (.iaload, 1) := by decide +kernel
theorem dX8_firstHeap_20 : decode cX8_firstHeap 20 = .ok (.iload_n 1, 1) := by decide +kernel
theorem dX8_firstHeap_21 : decode cX8_firstHeap 21 = .ok (.if_icmp .lt 5, 3) := by decide +kernel
theorem dX8_firstHeap_24 : decode cX8_firstHeap 24 = .ok (.iload_n 2, 1) := by decide +kernel
theorem dX8_firstHeap_25 : decode cX8_firstHeap 25 = .ok (.ireturn, 1) := by decide +kernel
theorem dX8_firstHeap_26 : decode cX8_firstHeap 26 = .ok (.iinc 2 1, 3) := by decide +kernel
theorem dX8_firstHeap_29 : decode cX8_firstHeap 29 = .ok (.goto (-22), 3) := by decide +kernel
theorem dX8_firstHeap_32 : decode cX8_firstHeap 32 = .ok (.iconst (-1), 1) := by decide +kernel
theorem dX8_firstHeap_33 : decode cX8_firstHeap 33 = .ok (.ireturn, 1) := by decide +kernel
def w_X8_firstHeap_32  (h : AH) (Q : Int32 → AH → Prop) : Prop :=
  Q (-1 : Int32) h
def w_X8_firstHeap_24  (v2 : Int32) (h : AH) (Q : Int32 → AH → Prop) : Prop :=
  Q v2 h
def w_X8_firstHeap_7  (x24 : Int32 → AH → Prop) (x32 : AH → Prop) (k : Int32 → AH → Prop) (v0 : Nat) (v1 : Int32) (v2 : Int32) (h : AH) (Q : Int32 → AH → Prop) : Prop :=
  br ((256 : Int32) ≤ v2) (
    x32  h) (
    fN h v0 8 4 fun a1 =>
    aI h a1 v2 fun x2 =>
    br (x2 < v1) (
      k (v2 + 1) h) (
      x24 v2 h))
def w_X8_firstHeap  (v0 : Nat) (v1 : Int32) (h : AH) (Q : Int32 → AH → Prop) : Prop :=
  vr h v0 8 (
  w_X8_tallyCells v0 (1 : Int32) h (fun h =>
  lp (fun (k2 : Int32 × AH → Prop) (s2 : Int32 × AH) => w_X8_firstHeap_7  (fun (y2 : Int32) h => w_X8_firstHeap_24 y2 h Q) (fun  h => w_X8_firstHeap_32  h Q) (fun (y2 : Int32) h => k2 (y2, h)) v0 v1 s2.1 s2.2 Q) ((0 : Int32), h)))
set_option maxRecDepth 100000 in
set_option maxHeartbeats 4000000 in
theorem s_X8_firstHeap_32 {p : Program} {l : Launch} {e : Env} {s : State} {m : MethodId} {args : Array Value} {below : List Frame} {meth : Method} {c : Code} {g : GG}  {Q : Int32 → AH → Prop}  (C : CXT p l s m args meth c RX8 cX8_firstHeap 3 g) (hr : meth.sig.returnType = (some .int))  : ∀  (h : AH), w_X8_firstHeap_32  h Q → V p l e s m args below meth c g 3 0 0 3 0 0 (MQ below (QCx g (QI Q)) args s 0 0 (gA g)) 32 [] [] h := by
  intro  h hw
  refine v_iconst (v := -1) C dX8_firstHeap_32 (by decide) ?_
  exact (rt_MQ C _).1 _ _ _ _ _ _ hr dX8_firstHeap_33 (by decide) (by decide) ⟨_, rfl, hw⟩
set_option maxRecDepth 100000 in
set_option maxHeartbeats 4000000 in
theorem s_X8_firstHeap_24 {p : Program} {l : Launch} {e : Env} {s : State} {m : MethodId} {args : Array Value} {below : List Frame} {meth : Method} {c : Code} {g : GG}  {Q : Int32 → AH → Prop}  (C : CXT p l s m args meth c RX8 cX8_firstHeap 3 g) (hr : meth.sig.returnType = (some .int))  : ∀ (v2 : Int32) (h : AH), w_X8_firstHeap_24  v2 h Q → V p l e s m args below meth c g 3 0 0 3 0 0 (MQ below (QCx g (QI Q)) args s 0 0 (gA g)) 24 [(2, .int v2)] [] h := by
  intro v2 h hw
  refine v_iload_n C dX8_firstHeap_24 0 rfl rfl ?_
  exact (rt_MQ C _).1 _ _ _ _ _ _ hr dX8_firstHeap_25 (by decide) (by decide) ⟨_, rfl, hw⟩
set_option maxRecDepth 100000 in
set_option maxHeartbeats 4000000 in
theorem s_X8_firstHeap_7 {p : Program} {l : Launch} {e : Env} {s : State} {m : MethodId} {args : Array Value} {below : List Frame} {meth : Method} {c : Code} {g : GG} {v0 : Nat} {v1 : Int32} {Q : Int32 → AH → Prop} {x24 : Int32 → AH → Prop} {x32 : AH → Prop} {k : Int32 → AH → Prop} (C : CXT p l s m args meth c RX8 cX8_firstHeap 3 g) (hr : meth.sig.returnType = (some .int)) (hx24 : ∀ (y2 : Int32) (h : AH), x24 y2 h → V p l e s m args below meth c g 3 0 0 3 0 0 (MQ below (QCx g (QI Q)) args s 0 0 (gA g)) 24 [(2, .int y2)] [] h) (hx32 : ∀  (h : AH), x32  h → V p l e s m args below meth c g 3 0 0 3 0 0 (MQ below (QCx g (QI Q)) args s 0 0 (gA g)) 32 [] [] h) (hk : ∀ (y2 : Int32) (h : AH), k y2 h → V p l e s m args below meth c g 3 0 0 3 0 0 (MQ below (QCx g (QI Q)) args s 0 0 (gA g)) 7 [(0, .ref v0), (1, .int v1), (2, .int y2)] [] h) : ∀ (v2 : Int32) (h : AH), w_X8_firstHeap_7  x24 x32 k v0 v1 v2 h Q → V p l e s m args below meth c g 3 0 0 3 0 0 (MQ below (QCx g (QI Q)) args s 0 0 (gA g)) 7 [(0, .ref v0), (1, .int v1), (2, .int v2)] [] h := by
  intro v2 h hw
  refine v_iload_n C dX8_firstHeap_7 2 rfl rfl ?_
  refine v_sipush (v := 256) C dX8_firstHeap_8 (by decide) ?_
  refine v_icmp_ge (tgt := 32) C dX8_firstHeap_11 (by decide) (fun c_11 => ?_) (fun c_11 => ?_)
  · have hw := hw.1 c_11
    refine v_sub [] rfl ?_
    exact hx32  _ hw
  · have hw := hw.2 c_11
    refine v_aload_n C dX8_firstHeap_14 0 rfl rfl ?_
    refine w_getN C fl_X8_21 dX8_firstHeap_15 rfl hw (fun a1 hw => ?_)
    refine v_iload_n C dX8_firstHeap_18 2 rfl rfl ?_
    refine w_iaload C dX8_firstHeap_19 hw (fun x2 hw => ?_)
    refine v_iload_n C dX8_firstHeap_20 1 rfl rfl ?_
    refine v_icmp_lt (tgt := 26) C dX8_firstHeap_21 (by decide) (fun c_21 => ?_) (fun c_21 => ?_)
    · have hw := hw.1 c_21
      refine v_iinc (v := 1) (ls' := [(2, .int (v2 + 1)), (0, .ref v0), (1, .int v1)]) C dX8_firstHeap_26 2 rfl (by decide) (by decide) rfl ?_
      refine v_goto (tgt := 7) C dX8_firstHeap_29 (by decide) ?_
      refine v_sub [1, 2, 0] rfl ?_
      exact hk _ _ hw
    · have hw := hw.2 c_21
      refine v_sub [2] rfl ?_
      exact hx24 _ _ hw
set_option maxRecDepth 100000 in
set_option maxHeartbeats 4000000 in
theorem s_X8_firstHeap {l : Launch}  {v0 : Nat} {v1 : Int32} {h : AH} {Q : Int32 → AH → Prop}  (hw : w_X8_firstHeap  v0 v1 h Q) : CT l yX8_firstHeap cX8_firstHeap 3 (some .int) 3 0 0 [.ref v0, .int v1] h (QI Q) := by
  refine CT.of (by decide) ⟨rfl, ⟨rfl, trivial⟩⟩ (Nat.le_of_ble_eq_true rfl) ?_
  intro p e s m args below meth c g C hr hin
  refine v_eq (pc' := 0) (ls' := [(0, .ref v0), (1, .int v1)]) rfl rfl rfl rfl ?_
  refine v_aload_n C dX8_firstHeap_0 0 rfl rfl ?_
  refine v_iconst (v := 1) C dX8_firstHeap_1 (by decide) ?_
  refine w_callVv (st := []) C cl_X8_156 im_X8_tallyCells se_X8_tallyCells rfl hw.1 (s_X8_tallyCells hw.2) rfl dX8_firstHeap_2 rfl (by decide) (by decide) (by decide) (by decide) (by decide) (fun h hw => ?_)
  refine v_iconst (v := 0) C dX8_firstHeap_5 (by decide) ?_
  refine v_istore_n (ls' := [(2, .int (0 : Int32)), (0, .ref v0), (1, .int v1)]) C dX8_firstHeap_6 rfl (by decide) rfl ?_
  refine v_sub [1, 2, 0] rfl ?_
  refine lp_walk (P := fun (s' : Int32 × AH) => V p l e s m args below meth c g 3 0 0 3 0 0 (MQ below (QCx g (QI Q)) args s 0 0 (gA g)) 7 [(0, .ref v0), (1, .int v1), (2, .int (s'.1))] [] s'.2) (fun k2 hk2 s' hw => ?_) ((0 : Int32), h) hw
  exact s_X8_firstHeap_7 C hr (fun y2 h hw => s_X8_firstHeap_24 C hr  _ h hw) (fun  h hw => s_X8_firstHeap_32 C hr   h hw) (fun y2 h hw => hk2 (y2, h) hw) _ _ hw
-- GrassField$Study.gatherBones()V
theorem dX8_gatherBones_0 : decode cX8_gatherBones 0 = .ok (.aload_n 0, 1) := by decide +kernel
theorem dX8_gatherBones_1 : decode cX8_gatherBones 1 = .ok (.getfield 33, 3) := by decide +kernel
theorem dX8_gatherBones_4 : decode cX8_gatherBones 4 = .ok (.getfield 37, 3) := by decide +kernel
theorem dX8_gatherBones_7 : decode cX8_gatherBones 7 = .ok (.astore_n 1, 1) := by decide +kernel
theorem dX8_gatherBones_8 : decode cX8_gatherBones 8 = .ok (.aload_n 1, 1) := by decide +kernel
theorem dX8_gatherBones_9 : decode cX8_gatherBones 9 = .ok (.invokevirtual 43, 3) := by decide +kernel
theorem dX8_gatherBones_12 : decode cX8_gatherBones 12 = .ok (.istore_n 2, 1) := by decide +kernel
theorem dX8_gatherBones_13 : decode cX8_gatherBones 13 = .ok (.aload_n 0, 1) := by decide +kernel
theorem dX8_gatherBones_14 : decode cX8_gatherBones 14 = .ok (.iconst 0, 1) := by decide +kernel
theorem dX8_gatherBones_15 : decode cX8_gatherBones 15 = .ok (.putfield 198, 3) := by decide +kernel
theorem dX8_gatherBones_18 : decode cX8_gatherBones 18 = .ok (.iconst 0, 1) := by decide +kernel
theorem dX8_gatherBones_19 : decode cX8_gatherBones 19 = .ok (.istore_n 3, 1) := by decide +kernel
theorem dX8_gatherBones_20 : decode cX8_gatherBones 20 = .ok (.iload_n 3, 1) := by decide +kernel
theorem dX8_gatherBones_21 : decode cX8_gatherBones 21 = .ok (.aload_n 1, 1) := by decide +kernel
theorem dX8_gatherBones_22 : decode cX8_gatherBones 22 = .ok (.getfield 49, 3) := by decide +kernel
theorem dX8_gatherBones_25 : decode cX8_gatherBones 25 = .ok (.if_icmp .ge 57, 3) := by decide +kernel
theorem dX8_gatherBones_28 : decode cX8_gatherBones 28 = .ok (.aload_n 0, 1) := by decide +kernel
theorem dX8_gatherBones_29 : decode cX8_gatherBones 29 = .ok (.getfield 198, 3) := by decide +kernel
theorem dX8_gatherBones_32 : decode cX8_gatherBones 32 = .ok (.bipush 8, 2) := by decide +kernel
theorem dX8_gatherBones_34 : decode cX8_gatherBones 34 = .ok (.if_icmp .ge 48, 3) := by decide +kernel
theorem dX8_gatherBones_37 : decode cX8_gatherBones 37 = .ok (.aload_n 1, 1) := by decide +kernel
theorem dX8_gatherBones_38 : decode cX8_gatherBones 38 = .ok (.getfield 53, 3) := by decide +kernel
theorem dX8_gatherBones_41 : decode cX8_gatherBones 41 = .ok (.iload_n 3, 1) := by decide +kernel
theorem dX8_gatherBones_42 : decode cX8_gatherBones 42 = .ok (.iaload, 1) := by decide +kernel
theorem dX8_gatherBones_43 : decode cX8_gatherBones 43 = .ok (.iconst 2, 1) := by decide +kernel
theorem dX8_gatherBones_44 : decode cX8_gatherBones 44 = .ok (.if_icmp .ne 32, 3) := by decide +kernel
theorem dX8_gatherBones_47 : decode cX8_gatherBones 47 = .ok (.aload_n 1, 1) := by decide +kernel
theorem dX8_gatherBones_48 : decode cX8_gatherBones 48 = .ok (.iload_n 3, 1) := by decide +kernel
theorem dX8_gatherBones_49 : decode cX8_gatherBones 49 = .ok (.iload_n 2, 1) := by decide +kernel
theorem dX8_gatherBones_50 : decode cX8_gatherBones 50 = .ok (.invokevirtual 56, 3) := by decide +kernel
theorem dX8_gatherBones_53 : decode cX8_gatherBones 53 = .ok (.ifCond .eq 23, 3) := by decide +kernel
theorem dX8_gatherBones_56 : decode cX8_gatherBones 56 = .ok (.aload_n 0, 1) := by decide +kernel
theorem dX8_gatherBones_57 : decode cX8_gatherBones 57 = .ok (.getfield 24, 3) := by decide +kernel
theorem dX8_gatherBones_60 : decode cX8_gatherBones 60 = .ok (.aload_n 0, 1) := by decide +kernel
theorem dX8_gatherBones_61 : decode cX8_gatherBones 61 = .ok (.getfield 198, 3) := by decide +kernel
theorem dX8_gatherBones_64 : decode cX8_gatherBones 64 = .ok (.iload_n 3, 1) := by decide +kernel
theorem dX8_gatherBones_65 : decode cX8_gatherBones 65 = .ok (.iastore, 1) := by decide +kernel
theorem dX8_gatherBones_66 : decode cX8_gatherBones 66 = .ok (.aload_n 0, 1) := by decide +kernel
theorem dX8_gatherBones_67 : decode cX8_gatherBones 67 = .ok (.dup, 1) := by decide +kernel
theorem dX8_gatherBones_68 : decode cX8_gatherBones 68 = .ok (.getfield 198, 3) := by decide +kernel
theorem dX8_gatherBones_71 : decode cX8_gatherBones 71 = .ok (.iconst 1, 1) := by decide +kernel
theorem dX8_gatherBones_72 : decode cX8_gatherBones 72 = .ok (.iadd, 1) := by decide +kernel
theorem dX8_gatherBones_73 : decode cX8_gatherBones 73 = .ok (.putfield 198, 3) := by decide +kernel
theorem dX8_gatherBones_76 : decode cX8_gatherBones 76 = .ok (.iinc 3 1, 3) := by decide +kernel
theorem dX8_gatherBones_79 : decode cX8_gatherBones 79 = .ok (.goto (-59), 3) := by decide +kernel
theorem dX8_gatherBones_82 : decode cX8_gatherBones 82 = .ok (.return_, 1) := by decide +kernel
def w_X8_gatherBones_82  (h : AH) (Q : AH → Prop) : Prop :=
  Q h
def w_X8_gatherBones_76  (x82 : AH → Prop) (k : Int32 → AH → Prop) (v0 : Nat) (v1 : Nat) (v2 : Int32) (v3 : Int32) (h : AH) (Q : AH → Prop) : Prop :=
  k (v3 + 1) h
def w_X8_gatherBones_20  (x82 : AH → Prop) (k : Int32 → AH → Prop) (v0 : Nat) (v1 : Nat) (v2 : Int32) (v3 : Int32) (h : AH) (Q : AH → Prop) : Prop :=
  fI h v1 1 0 fun x1 =>
  br (x1 ≤ v3) (
    x82  h) (
    fI h v0 8 6 fun x2 =>
    br ((8 : Int32) ≤ x2) (
      x82  h) (
      fN h v1 1 1 fun a3 =>
      aI h a3 v3 fun x4 =>
      br (x4 = (2 : Int32)) (
        vr h v1 1 (
        w_X1_isSeen v1 v3 v2 h (fun x5 h =>
        br (x5 = 0) (
          w_X8_gatherBones_76 x82 k v0 v1 v2 v3 h Q) (
          fN h v0 8 5 fun a6 =>
          fI h v0 8 6 fun x7 =>
          tI h a6 x7 v3 fun h =>
          fI h v0 8 6 fun x8 =>
          uI h v0 8 6 (x8 + (1 : Int32)) fun h =>
          w_X8_gatherBones_76 x82 k v0 v1 v2 v3 h Q)))) (
        w_X8_gatherBones_76 x82 k v0 v1 v2 v3 h Q)))
def w_X8_gatherBones  (v0 : Nat) (h : AH) (Q : AH → Prop) : Prop :=
  fN h v0 8 0 fun a1 =>
  fN h a1 7 3 fun a2 =>
  vr h a2 1 (
  w_X1_nearRows a2 h (fun x3 h =>
  uI h v0 8 6 (0 : Int32) fun h =>
  lp (fun (k2 : Int32 × AH → Prop) (s2 : Int32 × AH) => w_X8_gatherBones_20  (fun  h => w_X8_gatherBones_82  h Q) (fun (y3 : Int32) h => k2 (y3, h)) v0 a2 x3 s2.1 s2.2 Q) ((0 : Int32), h)))
set_option maxRecDepth 100000 in
set_option maxHeartbeats 4000000 in
theorem s_X8_gatherBones_82 {p : Program} {l : Launch} {e : Env} {s : State} {m : MethodId} {args : Array Value} {below : List Frame} {meth : Method} {c : Code} {g : GG}  {Q : AH → Prop}  (C : CXT p l s m args meth c RX8 cX8_gatherBones 4 g) (hr : meth.sig.returnType = none)  : ∀  (h : AH), w_X8_gatherBones_82  h Q → V p l e s m args below meth c g 2 0 0 4 0 0 (MQ below (QCx g (QV Q)) args s 0 0 (gA g)) 82 [] [] h := by
  intro  h hw
  exact (rt_MQ C _).2.2.1 _ _ _ _ _ hr dX8_gatherBones_82 (by decide) (by decide) ⟨rfl, hw⟩
set_option maxRecDepth 100000 in
set_option maxHeartbeats 4000000 in
theorem s_X8_gatherBones_76 {p : Program} {l : Launch} {e : Env} {s : State} {m : MethodId} {args : Array Value} {below : List Frame} {meth : Method} {c : Code} {g : GG} {v0 : Nat} {v1 : Nat} {v2 : Int32} {Q : AH → Prop} {x82 : AH → Prop} {k : Int32 → AH → Prop} (C : CXT p l s m args meth c RX8 cX8_gatherBones 4 g) (hr : meth.sig.returnType = none) (hx82 : ∀  (h : AH), x82  h → V p l e s m args below meth c g 2 0 0 4 0 0 (MQ below (QCx g (QV Q)) args s 0 0 (gA g)) 82 [] [] h) (hk : ∀ (y3 : Int32) (h : AH), k y3 h → V p l e s m args below meth c g 2 0 0 4 0 0 (MQ below (QCx g (QV Q)) args s 0 0 (gA g)) 20 [(0, .ref v0), (1, .ref v1), (2, .int v2), (3, .int y3)] [] h) : ∀ (v3 : Int32) (h : AH), w_X8_gatherBones_76  x82 k v0 v1 v2 v3 h Q → V p l e s m args below meth c g 2 0 0 4 0 0 (MQ below (QCx g (QV Q)) args s 0 0 (gA g)) 76 [(0, .ref v0), (1, .ref v1), (2, .int v2), (3, .int v3)] [] h := by
  intro v3 h hw
  refine v_iinc (v := 1) (ls' := [(3, .int (v3 + 1)), (0, .ref v0), (1, .ref v1), (2, .int v2)]) C dX8_gatherBones_76 3 rfl (by decide) (by decide) rfl ?_
  refine v_goto (tgt := 20) C dX8_gatherBones_79 (by decide) ?_
  refine v_sub [1, 2, 3, 0] rfl ?_
  exact hk _ _ hw
set_option maxRecDepth 100000 in
set_option maxHeartbeats 4000000 in
theorem s_X8_gatherBones_20 {p : Program} {l : Launch} {e : Env} {s : State} {m : MethodId} {args : Array Value} {below : List Frame} {meth : Method} {c : Code} {g : GG} {v0 : Nat} {v1 : Nat} {v2 : Int32} {Q : AH → Prop} {x82 : AH → Prop} {k : Int32 → AH → Prop} (C : CXT p l s m args meth c RX8 cX8_gatherBones 4 g) (hr : meth.sig.returnType = none) (hx82 : ∀  (h : AH), x82  h → V p l e s m args below meth c g 2 0 0 4 0 0 (MQ below (QCx g (QV Q)) args s 0 0 (gA g)) 82 [] [] h) (hk : ∀ (y3 : Int32) (h : AH), k y3 h → V p l e s m args below meth c g 2 0 0 4 0 0 (MQ below (QCx g (QV Q)) args s 0 0 (gA g)) 20 [(0, .ref v0), (1, .ref v1), (2, .int v2), (3, .int y3)] [] h) : ∀ (v3 : Int32) (h : AH), w_X8_gatherBones_20  x82 k v0 v1 v2 v3 h Q → V p l e s m args below meth c g 2 0 0 4 0 0 (MQ below (QCx g (QV Q)) args s 0 0 (gA g)) 20 [(0, .ref v0), (1, .ref v1), (2, .int v2), (3, .int v3)] [] h := by
  intro v3 h hw
  refine v_iload_n C dX8_gatherBones_20 3 rfl rfl ?_
  refine v_aload_n C dX8_gatherBones_21 1 rfl rfl ?_
  refine w_getI C fl_X8_49 dX8_gatherBones_22 rfl hw (fun x1 hw => ?_)
  refine v_icmp_ge (tgt := 82) C dX8_gatherBones_25 (by decide) (fun c_25 => ?_) (fun c_25 => ?_)
  · have hw := hw.1 c_25
    refine v_sub [] rfl ?_
    exact hx82  _ hw
  · have hw := hw.2 c_25
    refine v_aload_n C dX8_gatherBones_28 0 rfl rfl ?_
    refine w_getI C fl_X8_198 dX8_gatherBones_29 rfl hw (fun x2 hw => ?_)
    refine v_bipush (v := 8) C dX8_gatherBones_32 (by decide) ?_
    refine v_icmp_ge (tgt := 82) C dX8_gatherBones_34 (by decide) (fun c_34 => ?_) (fun c_34 => ?_)
    · have hw := hw.1 c_34
      refine v_sub [] rfl ?_
      exact hx82  _ hw
    · have hw := hw.2 c_34
      refine v_aload_n C dX8_gatherBones_37 1 rfl rfl ?_
      refine w_getN C fl_X8_53 dX8_gatherBones_38 rfl hw (fun a3 hw => ?_)
      refine v_iload_n C dX8_gatherBones_41 3 rfl rfl ?_
      refine w_iaload C dX8_gatherBones_42 hw (fun x4 hw => ?_)
      refine v_iconst (v := 2) C dX8_gatherBones_43 (by decide) ?_
      refine v_icmp_ne (tgt := 76) C dX8_gatherBones_44 (by decide) (fun c_44 => ?_) (fun c_44 => ?_)
      · have hw := hw.2 c_44
        exact s_X8_gatherBones_76 C hr hx82 hk _ _ hw
      · have hw := hw.1 c_44
        refine v_aload_n C dX8_gatherBones_47 1 rfl rfl ?_
        refine v_iload_n C dX8_gatherBones_48 3 rfl rfl ?_
        refine v_iload_n C dX8_gatherBones_49 2 rfl rfl ?_
        refine w_callVi (st := []) C cl_X8_56 im_X1_isSeen se_X1_isSeen rfl hw.1 (s_X1_isSeen hw.2) rfl dX8_gatherBones_50 rfl (by decide) (by decide) (by decide) (by decide) (by decide) (fun x5 h hw => ?_)
        refine v_if_eq (tgt := 76) C dX8_gatherBones_53 (by decide) (fun c_53 => ?_) (fun c_53 => ?_)
        · have hw := hw.1 c_53
          exact s_X8_gatherBones_76 C hr hx82 hk _ _ hw
        · have hw := hw.2 c_53
          refine v_aload_n C dX8_gatherBones_56 0 rfl rfl ?_
          refine w_getN C fl_X8_24 dX8_gatherBones_57 rfl hw (fun a6 hw => ?_)
          refine v_aload_n C dX8_gatherBones_60 0 rfl rfl ?_
          refine w_getI C fl_X8_198 dX8_gatherBones_61 rfl hw (fun x7 hw => ?_)
          refine v_iload_n C dX8_gatherBones_64 3 rfl rfl ?_
          refine w_iastore C dX8_gatherBones_65 hw (fun h hw => ?_)
          refine v_aload_n C dX8_gatherBones_66 0 rfl rfl ?_
          refine v_dup C dX8_gatherBones_67 rfl ?_
          refine w_getI C fl_X8_198 dX8_gatherBones_68 rfl hw (fun x8 hw => ?_)
          refine v_iconst (v := 1) C dX8_gatherBones_71 (by decide) ?_
          refine v_iadd C dX8_gatherBones_72 ?_
          refine w_putI C fp_X8_198 (Or.inl rfl) dX8_gatherBones_73 hw (fun h hw => ?_)
          exact s_X8_gatherBones_76 C hr hx82 hk _ _ hw
set_option maxRecDepth 100000 in
set_option maxHeartbeats 4000000 in
theorem s_X8_gatherBones {l : Launch}  {v0 : Nat} {h : AH} {Q : AH → Prop}  (hw : w_X8_gatherBones  v0 h Q) : CT l yX8_gatherBones cX8_gatherBones 4 none 2 0 0 [.ref v0] h (QV Q) := by
  refine CT.of (by decide) ⟨rfl, trivial⟩ (Nat.le_of_ble_eq_true rfl) ?_
  intro p e s m args below meth c g C hr hin
  refine v_eq (pc' := 0) (ls' := [(0, .ref v0)]) rfl rfl rfl rfl ?_
  refine v_aload_n C dX8_gatherBones_0 0 rfl rfl ?_
  refine w_getN C fl_X8_33 dX8_gatherBones_1 rfl hw (fun a1 hw => ?_)
  refine w_getN C fl_X8_37 dX8_gatherBones_4 rfl hw (fun a2 hw => ?_)
  refine v_astore_n (ls' := [(1, .ref a2), (0, .ref v0)]) C dX8_gatherBones_7 rfl (by decide) rfl ?_
  refine v_aload_n C dX8_gatherBones_8 0 rfl rfl ?_
  refine w_callVi (st := []) C cl_X8_43 im_X1_nearRows se_X1_nearRows rfl hw.1 (s_X1_nearRows hw.2) rfl dX8_gatherBones_9 rfl (by decide) (by decide) (by decide) (by decide) (by decide) (fun x3 h hw => ?_)
  refine v_istore_n (ls' := [(2, .int x3), (1, .ref a2), (0, .ref v0)]) C dX8_gatherBones_12 rfl (by decide) rfl ?_
  refine v_aload_n C dX8_gatherBones_13 2 rfl rfl ?_
  refine v_iconst (v := 0) C dX8_gatherBones_14 (by decide) ?_
  refine w_putI C fp_X8_198 (Or.inl rfl) dX8_gatherBones_15 hw (fun h hw => ?_)
  refine v_iconst (v := 0) C dX8_gatherBones_18 (by decide) ?_
  refine v_istore_n (ls' := [(3, .int (0 : Int32)), (2, .int x3), (1, .ref a2), (0, .ref v0)]) C dX8_gatherBones_19 rfl (by decide) rfl ?_
  refine v_sub [3, 2, 1, 0] rfl ?_
  refine lp_walk (P := fun (s' : Int32 × AH) => V p l e s m args below meth c g 2 0 0 4 0 0 (MQ below (QCx g (QV Q)) args s 0 0 (gA g)) 20 [(0, .ref v0), (1, .ref a2), (2, .int x3), (3, .int (s'.1))] [] s'.2) (fun k2 hk2 s' hw => ?_) ((0 : Int32), h) hw
  exact s_X8_gatherBones_20 C hr (fun  h hw => s_X8_gatherBones_82 C hr   h hw) (fun y3 h hw => hk2 (y3, h) hw) _ _ hw
-- GrassField$Study.refresh()V
theorem dX8_refresh_0 : decode cX8_refresh 0 = .ok (.aload_n 0, 1) := by decide +kernel
theorem dX8_refresh_1 : decode cX8_refresh 1 = .ok (.getfield 33, 3) := by decide +kernel
theorem dX8_refresh_4 : decode cX8_refresh 4 = .ok (.getfield 37, 3) := by decide +kernel
theorem dX8_refresh_7 : decode cX8_refresh 7 = .ok (.astore_n 1, 1) := by decide +kernel
theorem dX8_refresh_8 : decode cX8_refresh 8 = .ok (.aload_n 1, 1) := by decide +kernel
theorem dX8_refresh_9 : decode cX8_refresh 9 = .ok (.invokevirtual 43, 3) := by decide +kernel
theorem dX8_refresh_12 : decode cX8_refresh 12 = .ok (.istore_n 2, 1) := by decide +kernel
theorem dX8_refresh_13 : decode cX8_refresh 13 = .ok (.iconst 0, 1) := by decide +kernel
theorem dX8_refresh_14 : decode cX8_refresh 14 = .ok (.istore_n 3, 1) := by decide +kernel
theorem dX8_refresh_15 : decode cX8_refresh 15 = .ok (.iload_n 3, 1) := by decide +kernel
theorem dX8_refresh_16 : decode cX8_refresh 16 = .ok (.aload_n 1, 1) := by decide +kernel
theorem dX8_refresh_17 : decode cX8_refresh 17 = .ok (.getfield 49, 3) := by decide +kernel
theorem dX8_refresh_20 : decode cX8_refresh 20 = .ok (.if_icmp .ge 57, 3) := by decide +kernel
theorem dX8_refresh_23 : decode cX8_refresh 23 = .ok (.aload_n 1, 1) := by decide +kernel
theorem dX8_refresh_24 : decode cX8_refresh 24 = .ok (.getfield 53, 3) := by decide +kernel
theorem dX8_refresh_27 : decode cX8_refresh 27 = .ok (.iload_n 3, 1) := by decide +kernel
theorem dX8_refresh_28 : decode cX8_refresh 28 = .ok (.iaload, 1) := by decide +kernel
theorem dX8_refresh_29 : decode cX8_refresh 29 = .ok (.ifCond .ne 16, 3) := by decide +kernel
theorem dX8_refresh_32 : decode cX8_refresh 32 = .ok (.aload_n 1, 1) := by decide +kernel
theorem dX8_refresh_33 : decode cX8_refresh 33 = .ok (.iload_n 3, 1) := by decide +kernel
theorem dX8_refresh_34 : decode cX8_refresh 34 = .ok (.iload_n 2, 1) := by decide +kernel
theorem dX8_refresh_35 : decode cX8_refresh 35 = .ok (.invokevirtual 56, 3) := by decide +kernel
theorem dX8_refresh_38 : decode cX8_refresh 38 = .ok (.ifCond .eq 7, 3) := by decide +kernel
theorem dX8_refresh_41 : decode cX8_refresh 41 = .ok (.iconst 1, 1) := by decide +kernel
theorem dX8_refresh_42 : decode cX8_refresh 42 = .ok (.goto 4, 3) := by decide +kernel
theorem dX8_refresh_45 : decode cX8_refresh 45 = .ok (.iconst 0, 1) := by decide +kernel
theorem dX8_refresh_46 : decode cX8_refresh 46 = .ok (.istore 4, 2) := by decide +kernel
theorem dX8_refresh_48 : decode cX8_refresh 48 = .ok (.aload_n 0, 1) := by decide +kernel
theorem dX8_refresh_49 : decode cX8_refresh 49 = .ok (.getfield 9, 3) := by decide +kernel
theorem dX8_refresh_52 : decode cX8_refresh 52 = .ok (.iload_n 3, 1) := by decide +kernel
theorem dX8_refresh_53 : decode cX8_refresh 53 = .ok (.iload 4, 2) := by decide +kernel
theorem dX8_refresh_55 : decode cX8_refresh 55 = .ok (.ifCond .eq 14, 3) := by decide +kernel
theorem dX8_refresh_58 : decode cX8_refresh 58 = .ok (.aload_n 0, 1) := by decide +kernel
theorem dX8_refresh_59 : decode cX8_refresh 59 = .ok (.getfield 33, 3) := by decide +kernel
theorem dX8_refresh_62 : decode cX8_refresh 62 = .ok (.iload_n 3, 1) := by decide +kernel
theorem dX8_refresh_63 : decode cX8_refresh 63 = .ok (.invokevirtual 60, 3) := by decide +kernel
theorem dX8_refresh_66 : decode cX8_refresh 66 = .ok (.goto 4, 3) := by decide +kernel
theorem dX8_refresh_69 : decode cX8_refresh 69 = .ok (.iconst (-1), 1) := by decide +kernel
theorem dX8_refresh_70 : decode cX8_refresh 70 = .ok (.iastore, 1) := by decide +kernel
theorem dX8_refresh_71 : decode cX8_refresh 71 = .ok (.iinc 3 1, 3) := by decide +kernel
theorem dX8_refresh_74 : decode cX8_refresh 74 = .ok (.goto (-59), 3) := by decide +kernel
theorem dX8_refresh_77 : decode cX8_refresh 77 = .ok (.return_, 1) := by decide +kernel
def w_X8_refresh_77  (h : AH) (Q : AH → Prop) : Prop :=
  Q h
def w_X8_refresh_70  (x77 : AH → Prop) (k : Int32 → AH → Prop) (v0 : Nat) (v1 : Nat) (v2 : Int32) (v3 : Int32) (t0 : Nat) (t1 : Int32) (t2 : Int32) (h : AH) (Q : AH → Prop) : Prop :=
  tI h t0 t1 t2 fun h =>
  k (v3 + 1) h
def w_X8_refresh_46  (x77 : AH → Prop) (k : Int32 → AH → Prop) (v0 : Nat) (v1 : Nat) (v2 : Int32) (v3 : Int32) (t0 : Int32) (h : AH) (Q : AH → Prop) : Prop :=
  fN h v0 8 1 fun a1 =>
  br (t0 = 0) (
    w_X8_refresh_70 x77 k v0 v1 v2 v3 a1 v3 (-1 : Int32) h Q) (
    fN h v0 8 0 fun a2 =>
    vr h a2 7 (
    w_X7_gunsOf a2 v3 h (fun x3 h =>
    w_X8_refresh_70 x77 k v0 v1 v2 v3 a1 v3 x3 h Q)))
def w_X8_refresh_45  (x77 : AH → Prop) (k : Int32 → AH → Prop) (v0 : Nat) (v1 : Nat) (v2 : Int32) (v3 : Int32) (h : AH) (Q : AH → Prop) : Prop :=
  w_X8_refresh_46 x77 k v0 v1 v2 v3 (0 : Int32) h Q
def w_X8_refresh_15  (x77 : AH → Prop) (k : Int32 → AH → Prop) (v0 : Nat) (v1 : Nat) (v2 : Int32) (v3 : Int32) (h : AH) (Q : AH → Prop) : Prop :=
  fI h v1 1 0 fun x1 =>
  br (x1 ≤ v3) (
    x77  h) (
    fN h v1 1 1 fun a2 =>
    aI h a2 v3 fun x3 =>
    br (x3 = 0) (
      vr h v1 1 (
      w_X1_isSeen v1 v3 v2 h (fun x4 h =>
      br (x4 = 0) (
        w_X8_refresh_45 x77 k v0 v1 v2 v3 h Q) (
        w_X8_refresh_46 x77 k v0 v1 v2 v3 (1 : Int32) h Q)))) (
      w_X8_refresh_45 x77 k v0 v1 v2 v3 h Q))
def w_X8_refresh  (v0 : Nat) (h : AH) (Q : AH → Prop) : Prop :=
  fN h v0 8 0 fun a1 =>
  fN h a1 7 3 fun a2 =>
  vr h a2 1 (
  w_X1_nearRows a2 h (fun x3 h =>
  lp (fun (k2 : Int32 × AH → Prop) (s2 : Int32 × AH) => w_X8_refresh_15  (fun  h => w_X8_refresh_77  h Q) (fun (y3 : Int32) h => k2 (y3, h)) v0 a2 x3 s2.1 s2.2 Q) ((0 : Int32), h)))
set_option maxRecDepth 100000 in
set_option maxHeartbeats 4000000 in
theorem s_X8_refresh_77 {p : Program} {l : Launch} {e : Env} {s : State} {m : MethodId} {args : Array Value} {below : List Frame} {meth : Method} {c : Code} {g : GG}  {Q : AH → Prop}  (C : CXT p l s m args meth c RX8 cX8_refresh 5 g) (hr : meth.sig.returnType = none)  : ∀  (h : AH), w_X8_refresh_77  h Q → V p l e s m args below meth c g 2 0 0 5 0 0 (MQ below (QCx g (QV Q)) args s 0 0 (gA g)) 77 [] [] h := by
  intro  h hw
  exact (rt_MQ C _).2.2.1 _ _ _ _ _ hr dX8_refresh_77 (by decide) (by decide) ⟨rfl, hw⟩
set_option maxRecDepth 100000 in
set_option maxHeartbeats 4000000 in
theorem s_X8_refresh_70 {p : Program} {l : Launch} {e : Env} {s : State} {m : MethodId} {args : Array Value} {below : List Frame} {meth : Method} {c : Code} {g : GG} {v0 : Nat} {v1 : Nat} {v2 : Int32} {Q : AH → Prop} {x77 : AH → Prop} {k : Int32 → AH → Prop} (C : CXT p l s m args meth c RX8 cX8_refresh 5 g) (hr : meth.sig.returnType = none) (hx77 : ∀  (h : AH), x77  h → V p l e s m args below meth c g 2 0 0 5 0 0 (MQ below (QCx g (QV Q)) args s 0 0 (gA g)) 77 [] [] h) (hk : ∀ (y3 : Int32) (h : AH), k y3 h → V p l e s m args below meth c g 2 0 0 5 0 0 (MQ below (QCx g (QV Q)) args s 0 0 (gA g)) 15 [(0, .ref v0), (1, .ref v1), (2, .int v2), (3, .int y3)] [] h) : ∀ (v3 : Int32) (t0 : Nat) (t1 : Int32) (t2 : Int32) (h : AH), w_X8_refresh_70  x77 k v0 v1 v2 v3 t0 t1 t2 h Q → V p l e s m args below meth c g 2 0 0 5 0 0 (MQ below (QCx g (QV Q)) args s 0 0 (gA g)) 70 [(0, .ref v0), (1, .ref v1), (2, .int v2), (3, .int v3)] [.int t2, .int t1, .ref t0] h := by
  intro v3 t0 t1 t2 h hw
  refine w_iastore C dX8_refresh_70 hw (fun h hw => ?_)
  refine v_iinc (v := 1) (ls' := [(3, .int (v3 + 1)), (0, .ref v0), (1, .ref v1), (2, .int v2)]) C dX8_refresh_71 3 rfl (by decide) (by decide) rfl ?_
  refine v_goto (tgt := 15) C dX8_refresh_74 (by decide) ?_
  refine v_sub [1, 2, 3, 0] rfl ?_
  exact hk _ _ hw
set_option maxRecDepth 100000 in
set_option maxHeartbeats 4000000 in
theorem s_X8_refresh_46 {p : Program} {l : Launch} {e : Env} {s : State} {m : MethodId} {args : Array Value} {below : List Frame} {meth : Method} {c : Code} {g : GG} {v0 : Nat} {v1 : Nat} {v2 : Int32} {Q : AH → Prop} {x77 : AH → Prop} {k : Int32 → AH → Prop} (C : CXT p l s m args meth c RX8 cX8_refresh 5 g) (hr : meth.sig.returnType = none) (hx77 : ∀  (h : AH), x77  h → V p l e s m args below meth c g 2 0 0 5 0 0 (MQ below (QCx g (QV Q)) args s 0 0 (gA g)) 77 [] [] h) (hk : ∀ (y3 : Int32) (h : AH), k y3 h → V p l e s m args below meth c g 2 0 0 5 0 0 (MQ below (QCx g (QV Q)) args s 0 0 (gA g)) 15 [(0, .ref v0), (1, .ref v1), (2, .int v2), (3, .int y3)] [] h) : ∀ (v3 : Int32) (t0 : Int32) (h : AH), w_X8_refresh_46  x77 k v0 v1 v2 v3 t0 h Q → V p l e s m args below meth c g 2 0 0 5 0 0 (MQ below (QCx g (QV Q)) args s 0 0 (gA g)) 46 [(0, .ref v0), (1, .ref v1), (2, .int v2), (3, .int v3)] [.int t0] h := by
  intro v3 t0 h hw
  refine v_istore (ls' := [(4, .int t0), (0, .ref v0), (1, .ref v1), (2, .int v2), (3, .int v3)]) C dX8_refresh_46 (by decide) rfl ?_
  refine v_aload_n C dX8_refresh_48 1 rfl rfl ?_
  refine w_getN C fl_X8_9 dX8_refresh_49 rfl hw (fun a1 hw => ?_)
  refine v_iload_n C dX8_refresh_52 4 rfl rfl ?_
  refine v_iload C dX8_refresh_53 0 rfl ?_
  refine v_if_eq (tgt := 69) C dX8_refresh_55 (by decide) (fun c_55 => ?_) (fun c_55 => ?_)
  · have hw := hw.1 c_55
    refine v_iconst (v := -1) C dX8_refresh_69 (by decide) ?_
    refine v_sub [1, 2, 3, 4] rfl ?_
    exact s_X8_refresh_70 C hr hx77 hk _ _ _ _ _ hw
  · have hw := hw.2 c_55
    refine v_aload_n C dX8_refresh_58 1 rfl rfl ?_
    refine w_getN C fl_X8_33 dX8_refresh_59 rfl hw (fun a2 hw => ?_)
    refine v_iload_n C dX8_refresh_62 4 rfl rfl ?_
    refine w_callVi (st := [.int v3, .ref a1]) C cl_X8_60 im_X7_gunsOf se_X7_gunsOf rfl hw.1 (s_X7_gunsOf hw.2) rfl dX8_refresh_63 rfl (Nat.le_of_ble_eq_true rfl) (by decide) (by decide) (by decide) (by decide) (fun x3 h hw => ?_)
    refine v_goto (tgt := 70) C dX8_refresh_66 (by decide) ?_
    refine v_sub [1, 2, 3, 4] rfl ?_
    exact s_X8_refresh_70 C hr hx77 hk _ _ _ _ _ hw
set_option maxRecDepth 100000 in
set_option maxHeartbeats 4000000 in
theorem s_X8_refresh_45 {p : Program} {l : Launch} {e : Env} {s : State} {m : MethodId} {args : Array Value} {below : List Frame} {meth : Method} {c : Code} {g : GG} {v0 : Nat} {v1 : Nat} {v2 : Int32} {Q : AH → Prop} {x77 : AH → Prop} {k : Int32 → AH → Prop} (C : CXT p l s m args meth c RX8 cX8_refresh 5 g) (hr : meth.sig.returnType = none) (hx77 : ∀  (h : AH), x77  h → V p l e s m args below meth c g 2 0 0 5 0 0 (MQ below (QCx g (QV Q)) args s 0 0 (gA g)) 77 [] [] h) (hk : ∀ (y3 : Int32) (h : AH), k y3 h → V p l e s m args below meth c g 2 0 0 5 0 0 (MQ below (QCx g (QV Q)) args s 0 0 (gA g)) 15 [(0, .ref v0), (1, .ref v1), (2, .int v2), (3, .int y3)] [] h) : ∀ (v3 : Int32) (h : AH), w_X8_refresh_45  x77 k v0 v1 v2 v3 h Q → V p l e s m args below meth c g 2 0 0 5 0 0 (MQ below (QCx g (QV Q)) args s 0 0 (gA g)) 45 [(0, .ref v0), (1, .ref v1), (2, .int v2), (3, .int v3)] [] h := by
  intro v3 h hw
  refine v_iconst (v := 0) C dX8_refresh_45 (by decide) ?_
  exact s_X8_refresh_46 C hr hx77 hk _ _ _ hw
set_option maxRecDepth 100000 in
set_option maxHeartbeats 4000000 in
theorem s_X8_refresh_15 {p : Program} {l : Launch} {e : Env} {s : State} {m : MethodId} {args : Array Value} {below : List Frame} {meth : Method} {c : Code} {g : GG} {v0 : Nat} {v1 : Nat} {v2 : Int32} {Q : AH → Prop} {x77 : AH → Prop} {k : Int32 → AH → Prop} (C : CXT p l s m args meth c RX8 cX8_refresh 5 g) (hr : meth.sig.returnType = none) (hx77 : ∀  (h : AH), x77  h → V p l e s m args below meth c g 2 0 0 5 0 0 (MQ below (QCx g (QV Q)) args s 0 0 (gA g)) 77 [] [] h) (hk : ∀ (y3 : Int32) (h : AH), k y3 h → V p l e s m args below meth c g 2 0 0 5 0 0 (MQ below (QCx g (QV Q)) args s 0 0 (gA g)) 15 [(0, .ref v0), (1, .ref v1), (2, .int v2), (3, .int y3)] [] h) : ∀ (v3 : Int32) (h : AH), w_X8_refresh_15  x77 k v0 v1 v2 v3 h Q → V p l e s m args below meth c g 2 0 0 5 0 0 (MQ below (QCx g (QV Q)) args s 0 0 (gA g)) 15 [(0, .ref v0), (1, .ref v1), (2, .int v2), (3, .int v3)] [] h := by
  intro v3 h hw
  refine v_iload_n C dX8_refresh_15 3 rfl rfl ?_
  refine v_aload_n C dX8_refresh_16 1 rfl rfl ?_
  refine w_getI C fl_X8_49 dX8_refresh_17 rfl hw (fun x1 hw => ?_)
  refine v_icmp_ge (tgt := 77) C dX8_refresh_20 (by decide) (fun c_20 => ?_) (fun c_20 => ?_)
  · have hw := hw.1 c_20
    refine v_sub [] rfl ?_
    exact hx77  _ hw
  · have hw := hw.2 c_20
    refine v_aload_n C dX8_refresh_23 1 rfl rfl ?_
    refine w_getN C fl_X8_53 dX8_refresh_24 rfl hw (fun a2 hw => ?_)
    refine v_iload_n C dX8_refresh_27 3 rfl rfl ?_
    refine w_iaload C dX8_refresh_28 hw (fun x3 hw => ?_)
    refine v_if_ne (tgt := 45) C dX8_refresh_29 (by decide) (fun c_29 => ?_) (fun c_29 => ?_)
    · have hw := hw.2 c_29
      exact s_X8_refresh_45 C hr hx77 hk _ _ hw
    · have hw := hw.1 c_29
      refine v_aload_n C dX8_refresh_32 1 rfl rfl ?_
      refine v_iload_n C dX8_refresh_33 3 rfl rfl ?_
      refine v_iload_n C dX8_refresh_34 2 rfl rfl ?_
      refine w_callVi (st := []) C cl_X8_56 im_X1_isSeen se_X1_isSeen rfl hw.1 (s_X1_isSeen hw.2) rfl dX8_refresh_35 rfl (by decide) (by decide) (by decide) (by decide) (by decide) (fun x4 h hw => ?_)
      refine v_if_eq (tgt := 45) C dX8_refresh_38 (by decide) (fun c_38 => ?_) (fun c_38 => ?_)
      · have hw := hw.1 c_38
        exact s_X8_refresh_45 C hr hx77 hk _ _ hw
      · have hw := hw.2 c_38
        refine v_iconst (v := 1) C dX8_refresh_41 (by decide) ?_
        refine v_goto (tgt := 46) C dX8_refresh_42 (by decide) ?_
        exact s_X8_refresh_46 C hr hx77 hk _ _ _ hw
set_option maxRecDepth 100000 in
set_option maxHeartbeats 4000000 in
theorem s_X8_refresh {l : Launch}  {v0 : Nat} {h : AH} {Q : AH → Prop}  (hw : w_X8_refresh  v0 h Q) : CT l yX8_refresh cX8_refresh 5 none 2 0 0 [.ref v0] h (QV Q) := by
  refine CT.of (by decide) ⟨rfl, trivial⟩ (Nat.le_of_ble_eq_true rfl) ?_
  intro p e s m args below meth c g C hr hin
  refine v_eq (pc' := 0) (ls' := [(0, .ref v0)]) rfl rfl rfl rfl ?_
  refine v_aload_n C dX8_refresh_0 0 rfl rfl ?_
  refine w_getN C fl_X8_33 dX8_refresh_1 rfl hw (fun a1 hw => ?_)
  refine w_getN C fl_X8_37 dX8_refresh_4 rfl hw (fun a2 hw => ?_)
  refine v_astore_n (ls' := [(1, .ref a2), (0, .ref v0)]) C dX8_refresh_7 rfl (by decide) rfl ?_
  refine v_aload_n C dX8_refresh_8 0 rfl rfl ?_
  refine w_callVi (st := []) C cl_X8_43 im_X1_nearRows se_X1_nearRows rfl hw.1 (s_X1_nearRows hw.2) rfl dX8_refresh_9 rfl (by decide) (by decide) (by decide) (by decide) (by decide) (fun x3 h hw => ?_)
  refine v_istore_n (ls' := [(2, .int x3), (1, .ref a2), (0, .ref v0)]) C dX8_refresh_12 rfl (by decide) rfl ?_
  refine v_iconst (v := 0) C dX8_refresh_13 (by decide) ?_
  refine v_istore_n (ls' := [(3, .int (0 : Int32)), (2, .int x3), (1, .ref a2), (0, .ref v0)]) C dX8_refresh_14 rfl (by decide) rfl ?_
  refine v_sub [3, 2, 1, 0] rfl ?_
  refine lp_walk (P := fun (s' : Int32 × AH) => V p l e s m args below meth c g 2 0 0 5 0 0 (MQ below (QCx g (QV Q)) args s 0 0 (gA g)) 15 [(0, .ref v0), (1, .ref a2), (2, .int x3), (3, .int (s'.1))] [] s'.2) (fun k2 hk2 s' hw => ?_) ((0 : Int32), h) hw
  exact s_X8_refresh_15 C hr (fun  h hw => s_X8_refresh_77 C hr   h hw) (fun y3 h hw => hk2 (y3, h) hw) _ _ hw
-- GrassField$Study.isBorneOut(I)Z
theorem dX8_isBorneOut_0 : decode cX8_isBorneOut 0 = .ok (.aload_n 0, 1) := by decide +kernel
theorem dX8_isBorneOut_1 : decode cX8_isBorneOut 1 = .ok (.getfield 33, 3) := by decide +kernel
theorem dX8_isBorneOut_4 : decode cX8_isBorneOut 4 = .ok (.getfield 37, 3) := by decide +kernel
theorem dX8_isBorneOut_7 : decode cX8_isBorneOut 7 = .ok (.astore_n 2, 1) := by decide +kernel
theorem dX8_isBorneOut_8 : decode cX8_isBorneOut 8 = .ok (.aload_n 0, 1) := by decide +kernel
theorem dX8_isBorneOut_9 : decode cX8_isBorneOut 9 = .ok (.getfield 33, 3) := by decide +kernel
theorem dX8_isBorneOut_12 : decode cX8_isBorneOut 12 = .ok (.getfield 166, 3) := by decide +kernel
theorem dX8_isBorneOut_15 : decode cX8_isBorneOut 15 = .ok (.iload_n 1, 1) := by decide +kernel
theorem dX8_isBorneOut_16 : decode cX8_isBorneOut 16 = .ok (.aload_n 0, 1) := by decide +kernel
theorem dX8_isBorneOut_17 : decode cX8_isBorneOut 17 = .ok (.getfield 33, 3) := by decide +kernel
theorem dX8_isBorneOut_20 : decode cX8_isBorneOut 20 = .ok (.getfield 115, 3) := by decide +kernel
theorem dX8_isBorneOut_23 : decode cX8_isBorneOut 23 = .ok (.invokevirtual 170, 3) := by decide +kernel
theorem dX8_isBorneOut_26 : decode cX8_isBorneOut 26 = .ok (.ifCond .ne 5, 3) := by decide +kernel
theorem dX8_isBorneOut_29 : decode cX8_isBorneOut 29 = .ok (.iconst 0, 1) := by decide +kernel
theorem dX8_isBorneOut_30 : decode cX8_isBorneOut 30 = .ok (.ireturn, 1) := by decide +kernel
theorem dX8_isBorneOut_31 : decode cX8_isBorneOut 31 = .ok (.aload_n 2, 1) := by decide +kernel
theorem dX8_isBorneOut_32 : decode cX8_isBorneOut 32 = .ok (.invokevirtual 43, 3) := by decide +kernel
theorem dX8_isBorneOut_35 : decode cX8_isBorneOut 35 = .ok (.istore_n 3, 1) := by decide +kernel
theorem dX8_isBorneOut_36 : decode cX8_isBorneOut 36 = .ok (.aload_n 0, 1) := by decide +kernel
theorem dX8_isBorneOut_37 : decode cX8_isBorneOut 37 = .ok (.getfield 33, 3) := by decide +kernel
theorem dX8_isBorneOut_40 : decode cX8_isBorneOut 40 = .ok (.getfield 166, 3) := by decide +kernel
theorem dX8_isBorneOut_43 : decode cX8_isBorneOut 43 = .ok (.getfield 176, 3) := by decide +kernel
theorem dX8_isBorneOut_46 : decode cX8_isBorneOut 46 = .ok (.iload_n 1, 1) := by decide +kernel
theorem dX8_isBorneOut_47 : decode cX8_isBorneOut 47 = .ok (.iaload, 1) := by decide +kernel
theorem dX8_isBorneOut_48 : decode cX8_isBorneOut 48 = .ok (.istore 4, 2) := by decide +kernel
theorem dX8_isBorneOut_50 : decode cX8_isBorneOut 50 = .ok (.iconst 0, 1) := by decide +kernel
theorem dX8_isBorneOut_51 : decode cX8_isBorneOut 51 = .ok (.istore 5, 2) := by decide +kernel
theorem dX8_isBorneOut_53 : decode cX8_isBorneOut 53 = .ok (.iload 5, 2) := by decide +kernel
theorem dX8_isBorneOut_55 : decode cX8_isBorneOut 55 = .ok (.aload_n 2, 1) := by decide +kernel
theorem dX8_isBorneOut_56 : decode cX8_isBorneOut 56 = .ok (.getfield 49, 3) := by decide +kernel
theorem dX8_isBorneOut_59 : decode cX8_isBorneOut 59 = .ok (.if_icmp .ge 48, 3) := by decide +kernel
theorem dX8_isBorneOut_62 : decode cX8_isBorneOut 62 = .ok (.aload_n 2, 1) := by decide +kernel
theorem dX8_isBorneOut_63 : decode cX8_isBorneOut 63 = .ok (.getfield 53, 3) := by decide +kernel
theorem dX8_isBorneOut_66 : decode cX8_isBorneOut 66 = .ok (.iload 5, 2) := by decide +kernel
theorem dX8_isBorneOut_68 : decode cX8_isBorneOut 68 = .ok (.iaload, 1) := by decide +kernel
theorem dX8_isBorneOut_69 : decode cX8_isBorneOut 69 = .ok (.iconst 3, 1) := by decide +kernel
theorem dX8_isBorneOut_70 : decode cX8_isBorneOut 70 = .ok (.if_icmp .eq 31, 3) := by decide +kernel
theorem dX8_isBorneOut_73 : decode cX8_isBorneOut 73 = .ok (.aload_n 2, 1) := by decide +kernel
theorem dX8_isBorneOut_74 : decode cX8_isBorneOut 74 = .ok (.iload 5, 2) := by decide +kernel
theorem dX8_isBorneOut_76 : decode cX8_isBorneOut 76 = .ok (.iload_n 3, 1) := by decide +kernel
theorem dX8_isBorneOut_77 : decode cX8_isBorneOut 77 = .ok (.invokevirtual 56, 3) := by decide +kernel
theorem dX8_isBorneOut_80 : decode cX8_isBorneOut 80 = .ok (.ifCond .eq 21, 3) := by decide +kernel
theorem dX8_isBorneOut_83 : decode cX8_isBorneOut 83 = .ok (.aload_n 2, 1) := by decide +kernel
theorem dX8_isBorneOut_84 : decode cX8_isBorneOut 84 = .ok (.getfield 87, 3) := by decide +kernel
theorem dX8_isBorneOut_87 : decode cX8_isBorneOut 87 = .ok (.iload 5, 2) := by decide +kernel
theorem dX8_isBorneOut_89 : decode cX8_isBorneOut 89 = .ok (.iaload, 1) := by decide +kernel
theorem dX8_isBorneOut_90 : decode cX8_isBorneOut 90 = .ok (.iload 4, 2) := by decide +kernel
theorem dX8_isBorneOut_92 : decode cX8_isBorneOut 92 = .ok (.invokestatic 179, 3) := by decide +kernel
theorem dX8_isBorneOut_95 : decode cX8_isBorneOut 95 = .ok (.iconst 1, 1) := by decide +kernel
theorem dX8_isBorneOut_96 : decode cX8_isBorneOut 96 = .ok (.if_icmp .gt 5, 3) := by decide +kernel
theorem dX8_isBorneOut_99 : decode cX8_isBorneOut 99 = .ok (.iconst 1, 1) := by decide +kernel
theorem dX8_isBorneOut_100 : decode cX8_isBorneOut 100 = .ok (.ireturn, 1) := by decide +kernel
theorem dX8_isBorneOut_101 : decode cX8_isBorneOut 101 = .ok (.iinc 5 1, 3) := by decide +kernel
theorem dX8_isBorneOut_104 : decode cX8_isBorneOut 104 = .ok (.goto (-51), 3) := by decide +kernel
theorem dX8_isBorneOut_107 : decode cX8_isBorneOut 107 = .ok (.iconst 0, 1) := by decide +kernel
theorem dX8_isBorneOut_108 : decode cX8_isBorneOut 108 = .ok (.ireturn, 1) := by decide +kernel
def w_X8_isBorneOut_107  (h : AH) (Q : Int32 → AH → Prop) : Prop :=
  Q (0 : Int32) h
def w_X8_isBorneOut_101  (x99 : AH → Prop) (x107 : AH → Prop) (k : Int32 → AH → Prop) (v2 : Nat) (v3 : Int32) (v4 : Int32) (v5 : Int32) (h : AH) (Q : Int32 → AH → Prop) : Prop :=
  k (v5 + 1) h
def w_X8_isBorneOut_99  (h : AH) (Q : Int32 → AH → Prop) : Prop :=
  Q (1 : Int32) h
def w_X8_isBorneOut_53  (x99 : AH → Prop) (x107 : AH → Prop) (k : Int32 → AH → Prop) (v2 : Nat) (v3 : Int32) (v4 : Int32) (v5 : Int32) (h : AH) (Q : Int32 → AH → Prop) : Prop :=
  fI h v2 1 0 fun x1 =>
  br (x1 ≤ v5) (
    x107  h) (
    fN h v2 1 1 fun a2 =>
    aI h a2 v5 fun x3 =>
    br (x3 = (3 : Int32)) (
      w_X8_isBorneOut_101 x99 x107 k v2 v3 v4 v5 h Q) (
      vr h v2 1 (
      w_X1_isSeen v2 v5 v3 h (fun x4 h =>
      br (x4 = 0) (
        w_X8_isBorneOut_101 x99 x107 k v2 v3 v4 v5 h Q) (
        fN h v2 1 2 fun a5 =>
        aI h a5 v5 fun x6 =>
        w_X3_far x6 v4 h (fun x7 h =>
        br ((1 : Int32) < x7) (
          w_X8_isBorneOut_101 x99 x107 k v2 v3 v4 v5 h Q) (
          x99  h)))))))
def w_X8_isBorneOut  (v0 : Nat) (v1 : Int32) (h : AH) (Q : Int32 → AH → Prop) : Prop :=
  fN h v0 8 0 fun a1 =>
  fN h a1 7 3 fun a2 =>
  fN h v0 8 0 fun a3 =>
  fN h a3 7 4 fun a4 =>
  fN h v0 8 0 fun a5 =>
  fN h a5 7 0 fun a6 =>
  vr h a4 9 (
  w_X9_isPossible a4 v1 a6 h (fun x7 h =>
  br (x7 = 0) (
    Q (0 : Int32) h) (
    vr h a2 1 (
    w_X1_nearRows a2 h (fun x8 h =>
    fN h v0 8 0 fun a9 =>
    fN h a9 7 4 fun a10 =>
    fN h a10 9 7 fun a11 =>
    aI h a11 v1 fun x12 =>
    lp (fun (k2 : Int32 × AH → Prop) (s2 : Int32 × AH) => w_X8_isBorneOut_53  (fun  h => w_X8_isBorneOut_99  h Q) (fun  h => w_X8_isBorneOut_107  h Q) (fun (y5 : Int32) h => k2 (y5, h)) a2 x8 x12 s2.1 s2.2 Q) ((0 : Int32), h))))))
set_option maxRecDepth 100000 in
set_option maxHeartbeats 4000000 in
theorem s_X8_isBorneOut_107 {p : Program} {l : Launch} {e : Env} {s : State} {m : MethodId} {args : Array Value} {below : List Frame} {meth : Method} {c : Code} {g : GG}  {Q : Int32 → AH → Prop}  (C : CXT p l s m args meth c RX8 cX8_isBorneOut 6 g) (hr : meth.sig.returnType = (some .boolean))  : ∀  (h : AH), w_X8_isBorneOut_107  h Q → V p l e s m args below meth c g 4 0 0 6 0 0 (MQ below (QCx g (QI Q)) args s 0 0 (gA g)) 107 [] [] h := by
  intro  h hw
  refine v_iconst (v := 0) C dX8_isBorneOut_107 (by decide) ?_
  exact (rt_MQ C _).2.1 _ _ _ _ _ _ _ hr rfl dX8_isBorneOut_108 (by decide) (by decide) ⟨_, rfl, hw⟩
set_option maxRecDepth 100000 in
set_option maxHeartbeats 4000000 in
theorem s_X8_isBorneOut_101 {p : Program} {l : Launch} {e : Env} {s : State} {m : MethodId} {args : Array Value} {below : List Frame} {meth : Method} {c : Code} {g : GG} {v2 : Nat} {v3 : Int32} {v4 : Int32} {Q : Int32 → AH → Prop} {x99 : AH → Prop} {x107 : AH → Prop} {k : Int32 → AH → Prop} (C : CXT p l s m args meth c RX8 cX8_isBorneOut 6 g) (hr : meth.sig.returnType = (some .boolean)) (hx99 : ∀  (h : AH), x99  h → V p l e s m args below meth c g 4 0 0 6 0 0 (MQ below (QCx g (QI Q)) args s 0 0 (gA g)) 99 [] [] h) (hx107 : ∀  (h : AH), x107  h → V p l e s m args below meth c g 4 0 0 6 0 0 (MQ below (QCx g (QI Q)) args s 0 0 (gA g)) 107 [] [] h) (hk : ∀ (y5 : Int32) (h : AH), k y5 h → V p l e s m args below meth c g 4 0 0 6 0 0 (MQ below (QCx g (QI Q)) args s 0 0 (gA g)) 53 [(2, .ref v2), (3, .int v3), (4, .int v4), (5, .int y5)] [] h) : ∀ (v5 : Int32) (h : AH), w_X8_isBorneOut_101  x99 x107 k v2 v3 v4 v5 h Q → V p l e s m args below meth c g 4 0 0 6 0 0 (MQ below (QCx g (QI Q)) args s 0 0 (gA g)) 101 [(2, .ref v2), (3, .int v3), (4, .int v4), (5, .int v5)] [] h := by
  intro v5 h hw
  refine v_iinc (v := 1) (ls' := [(5, .int (v5 + 1)), (2, .ref v2), (3, .int v3), (4, .int v4)]) C dX8_isBorneOut_101 3 rfl (by decide) (by decide) rfl ?_
  refine v_goto (tgt := 53) C dX8_isBorneOut_104 (by decide) ?_
  refine v_sub [1, 2, 3, 0] rfl ?_
  exact hk _ _ hw
set_option maxRecDepth 100000 in
set_option maxHeartbeats 4000000 in
theorem s_X8_isBorneOut_99 {p : Program} {l : Launch} {e : Env} {s : State} {m : MethodId} {args : Array Value} {below : List Frame} {meth : Method} {c : Code} {g : GG}  {Q : Int32 → AH → Prop}  (C : CXT p l s m args meth c RX8 cX8_isBorneOut 6 g) (hr : meth.sig.returnType = (some .boolean))  : ∀  (h : AH), w_X8_isBorneOut_99  h Q → V p l e s m args below meth c g 4 0 0 6 0 0 (MQ below (QCx g (QI Q)) args s 0 0 (gA g)) 99 [] [] h := by
  intro  h hw
  refine v_iconst (v := 1) C dX8_isBorneOut_99 (by decide) ?_
  exact (rt_MQ C _).2.1 _ _ _ _ _ _ _ hr rfl dX8_isBorneOut_100 (by decide) (by decide) ⟨_, rfl, hw⟩
set_option maxRecDepth 100000 in
set_option maxHeartbeats 4000000 in
theorem s_X8_isBorneOut_53 {p : Program} {l : Launch} {e : Env} {s : State} {m : MethodId} {args : Array Value} {below : List Frame} {meth : Method} {c : Code} {g : GG} {v2 : Nat} {v3 : Int32} {v4 : Int32} {Q : Int32 → AH → Prop} {x99 : AH → Prop} {x107 : AH → Prop} {k : Int32 → AH → Prop} (C : CXT p l s m args meth c RX8 cX8_isBorneOut 6 g) (hr : meth.sig.returnType = (some .boolean)) (hx99 : ∀  (h : AH), x99  h → V p l e s m args below meth c g 4 0 0 6 0 0 (MQ below (QCx g (QI Q)) args s 0 0 (gA g)) 99 [] [] h) (hx107 : ∀  (h : AH), x107  h → V p l e s m args below meth c g 4 0 0 6 0 0 (MQ below (QCx g (QI Q)) args s 0 0 (gA g)) 107 [] [] h) (hk : ∀ (y5 : Int32) (h : AH), k y5 h → V p l e s m args below meth c g 4 0 0 6 0 0 (MQ below (QCx g (QI Q)) args s 0 0 (gA g)) 53 [(2, .ref v2), (3, .int v3), (4, .int v4), (5, .int y5)] [] h) : ∀ (v5 : Int32) (h : AH), w_X8_isBorneOut_53  x99 x107 k v2 v3 v4 v5 h Q → V p l e s m args below meth c g 4 0 0 6 0 0 (MQ below (QCx g (QI Q)) args s 0 0 (gA g)) 53 [(2, .ref v2), (3, .int v3), (4, .int v4), (5, .int v5)] [] h := by
  intro v5 h hw
  refine v_iload C dX8_isBorneOut_53 3 rfl ?_
  refine v_aload_n C dX8_isBorneOut_55 0 rfl rfl ?_
  refine w_getI C fl_X8_49 dX8_isBorneOut_56 rfl hw (fun x1 hw => ?_)
  refine v_icmp_ge (tgt := 107) C dX8_isBorneOut_59 (by decide) (fun c_59 => ?_) (fun c_59 => ?_)
  · have hw := hw.1 c_59
    refine v_sub [] rfl ?_
    exact hx107  _ hw
  · have hw := hw.2 c_59
    refine v_aload_n C dX8_isBorneOut_62 0 rfl rfl ?_
    refine w_getN C fl_X8_53 dX8_isBorneOut_63 rfl hw (fun a2 hw => ?_)
    refine v_iload C dX8_isBorneOut_66 3 rfl ?_
    refine w_iaload C dX8_isBorneOut_68 hw (fun x3 hw => ?_)
    refine v_iconst (v := 3) C dX8_isBorneOut_69 (by decide) ?_
    refine v_icmp_eq (tgt := 101) C dX8_isBorneOut_70 (by decide) (fun c_70 => ?_) (fun c_70 => ?_)
    · have hw := hw.1 c_70
      exact s_X8_isBorneOut_101 C hr hx99 hx107 hk _ _ hw
    · have hw := hw.2 c_70
      refine v_aload_n C dX8_isBorneOut_73 0 rfl rfl ?_
      refine v_iload C dX8_isBorneOut_74 3 rfl ?_
      refine v_iload_n C dX8_isBorneOut_76 1 rfl rfl ?_
      refine w_callVi (st := []) C cl_X8_56 im_X1_isSeen se_X1_isSeen rfl hw.1 (s_X1_isSeen hw.2) rfl dX8_isBorneOut_77 rfl (by decide) (by decide) (by decide) (by decide) (by decide) (fun x4 h hw => ?_)
      refine v_if_eq (tgt := 101) C dX8_isBorneOut_80 (by decide) (fun c_80 => ?_) (fun c_80 => ?_)
      · have hw := hw.1 c_80
        exact s_X8_isBorneOut_101 C hr hx99 hx107 hk _ _ hw
      · have hw := hw.2 c_80
        refine v_aload_n C dX8_isBorneOut_83 0 rfl rfl ?_
        refine w_getN C fl_X8_87 dX8_isBorneOut_84 rfl hw (fun a5 hw => ?_)
        refine v_iload C dX8_isBorneOut_87 3 rfl ?_
        refine w_iaload C dX8_isBorneOut_89 hw (fun x6 hw => ?_)
        refine v_iload C dX8_isBorneOut_90 2 rfl ?_
        refine w_callSi (st := []) C cl_X8_179 st_X3_far (s_X3_far hw) rfl dX8_isBorneOut_92 rfl (by decide) (by decide) (by decide) (by decide) (by decide) (fun x7 h hw => ?_)
        refine v_iconst (v := 1) C dX8_isBorneOut_95 (by decide) ?_
        refine v_icmp_gt (tgt := 101) C dX8_isBorneOut_96 (by decide) (fun c_96 => ?_) (fun c_96 => ?_)
        · have hw := hw.1 c_96
          exact s_X8_isBorneOut_101 C hr hx99 hx107 hk _ _ hw
        · have hw := hw.2 c_96
          refine v_sub [] rfl ?_
          exact hx99  _ hw
set_option maxRecDepth 100000 in
set_option maxHeartbeats 4000000 in
theorem s_X8_isBorneOut {l : Launch}  {v0 : Nat} {v1 : Int32} {h : AH} {Q : Int32 → AH → Prop}  (hw : w_X8_isBorneOut  v0 v1 h Q) : CT l yX8_isBorneOut cX8_isBorneOut 6 (some .boolean) 4 0 0 [.ref v0, .int v1] h (QI Q) := by
  refine CT.of (by decide) ⟨rfl, ⟨rfl, trivial⟩⟩ (Nat.le_of_ble_eq_true rfl) ?_
  intro p e s m args below meth c g C hr hin
  refine v_eq (pc' := 0) (ls' := [(0, .ref v0), (1, .int v1)]) rfl rfl rfl rfl ?_
  refine v_aload_n C dX8_isBorneOut_0 0 rfl rfl ?_
  refine w_getN C fl_X8_33 dX8_isBorneOut_1 rfl hw (fun a1 hw => ?_)
  refine w_getN C fl_X8_37 dX8_isBorneOut_4 rfl hw (fun a2 hw => ?_)
  refine v_astore_n (ls' := [(2, .ref a2), (0, .ref v0), (1, .int v1)]) C dX8_isBorneOut_7 rfl (by decide) rfl ?_
  refine v_aload_n C dX8_isBorneOut_8 1 rfl rfl ?_
  refine w_getN C fl_X8_33 dX8_isBorneOut_9 rfl hw (fun a3 hw => ?_)
  refine w_getN C fl_X8_166 dX8_isBorneOut_12 rfl hw (fun a4 hw => ?_)
  refine v_iload_n C dX8_isBorneOut_15 2 rfl rfl ?_
  refine v_aload_n C dX8_isBorneOut_16 1 rfl rfl ?_
  refine w_getN C fl_X8_33 dX8_isBorneOut_17 rfl hw (fun a5 hw => ?_)
  refine w_getN C fl_X8_115 dX8_isBorneOut_20 rfl hw (fun a6 hw => ?_)
  refine w_callVi (st := []) C cl_X8_170 im_X9_isPossible se_X9_isPossible rfl hw.1 (s_X9_isPossible hw.2) rfl dX8_isBorneOut_23 rfl (by decide) (by decide) (by decide) (by decide) (by decide) (fun x7 h hw => ?_)
  refine v_if_ne (tgt := 31) C dX8_isBorneOut_26 (by decide) (fun c_26 => ?_) (fun c_26 => ?_)
  · have hw := hw.2 c_26
    refine v_aload_n C dX8_isBorneOut_31 0 rfl rfl ?_
    refine w_callVi (st := []) C cl_X8_43 im_X1_nearRows se_X1_nearRows rfl hw.1 (s_X1_nearRows hw.2) rfl dX8_isBorneOut_32 rfl (by decide) (by decide) (by decide) (by decide) (by decide) (fun x8 h hw => ?_)
    refine v_istore_n (ls' := [(3, .int x8), (2, .ref a2), (0, .ref v0), (1, .int v1)]) C dX8_isBorneOut_35 rfl (by decide) rfl ?_
    refine v_aload_n C dX8_isBorneOut_36 2 rfl rfl ?_
    refine w_getN C fl_X8_33 dX8_isBorneOut_37 rfl hw (fun a9 hw => ?_)
    refine w_getN C fl_X8_166 dX8_isBorneOut_40 rfl hw (fun a10 hw => ?_)
    refine w_getN C fl_X8_176 dX8_isBorneOut_43 rfl hw (fun a11 hw => ?_)
    refine v_iload_n C dX8_isBorneOut_46 3 rfl rfl ?_
    refine w_iaload C dX8_isBorneOut_47 hw (fun x12 hw => ?_)
    refine v_istore (ls' := [(4, .int x12), (3, .int x8), (2, .ref a2), (0, .ref v0), (1, .int v1)]) C dX8_isBorneOut_48 (by decide) rfl ?_
    refine v_iconst (v := 0) C dX8_isBorneOut_50 (by decide) ?_
    refine v_istore (ls' := [(5, .int (0 : Int32)), (4, .int x12), (3, .int x8), (2, .ref a2), (0, .ref v0), (1, .int v1)]) C dX8_isBorneOut_51 (by decide) rfl ?_
    refine v_sub [3, 2, 1, 0] rfl ?_
    refine lp_walk (P := fun (s' : Int32 × AH) => V p l e s m args below meth c g 4 0 0 6 0 0 (MQ below (QCx g (QI Q)) args s 0 0 (gA g)) 53 [(2, .ref a2), (3, .int x8), (4, .int x12), (5, .int (s'.1))] [] s'.2) (fun k2 hk2 s' hw => ?_) ((0 : Int32), h) hw
    exact s_X8_isBorneOut_53 C hr (fun  h hw => s_X8_isBorneOut_99 C hr   h hw) (fun  h hw => s_X8_isBorneOut_107 C hr   h hw) (fun y5 h hw => hk2 (y5, h) hw) _ _ hw
  · have hw := hw.1 c_26
    refine v_iconst (v := 0) C dX8_isBorneOut_29 (by decide) ?_
    exact (rt_MQ C _).2.1 _ _ _ _ _ _ _ hr rfl dX8_isBorneOut_30 (by decide) (by decide) ⟨_, rfl, hw⟩
-- GrassField$Study.heapCount(I)I
theorem dX8_heapCount_0 : decode cX8_heapCount 0 = .ok (.aload_n 0, 1) := by decide +kernel
theorem dX8_heapCount_1 : decode cX8_heapCount 1 = .ok (.iconst 1, 1) := by decide +kernel
theorem dX8_heapCount_2 : decode cX8_heapCount 2 = .ok (.invokevirtual 156, 3) := by decide +kernel
theorem dX8_heapCount_5 : decode cX8_heapCount 5 = .ok (.iconst 0, 1) := by decide +kernel
theorem dX8_heapCount_6 : decode cX8_heapCount 6 = .ok (.istore_n 2, 1) := by decide +kernel
theorem dX8_heapCount_7 : decode cX8_heapCount 7 = .ok (.iconst 0, 1) := by decide +kernel
theorem dX8_heapCount_8 : decode cX8_heapCount 8 = .ok (.istore_n 3, 1) := by decide +kernel
theorem dX8_heapCount_9 : decode cX8_heapCount 9 = .ok (.iload_n 3, 1) := by decide +kernel
theorem dX8_heapCount_10 : decode cX8_heapCount 10 = .ok (.sipush 256, 3) := by decide +kernel
theorem dX8_heapCount_13 : decode cX8_heapCount 13 = .ok (.if_icmp .ge 22, 3) := by decide +kernel
theorem dX8_heapCount_16 : decode cX8_heapCount 16 = .ok (.aload_n 0, 1) := by decide +kernel
theorem dX8_heapCount_17 : decode cX8_heapCount 17 = .ok (.getfield 21, 3) := by decide +kernel
theorem dX8_heapCount_20 : decode cX8_heapCount 20 = .ok (.iload_n 3, 1) := by decide +kernel
theorem dX8_heapCount_21 : decode cX8_heapCount 21 = .ok (.iaload, 1) := by decide +kernel
theorem dX8_heapCount_22 : decode cX8_heapCount 22 = .ok (.iload_n 1, 1) := by decide +kernel
theorem dX8_heapCount_23 : decode cX8_heapCount 23 = .ok (.if_icmp .lt 6, 3) := by decide +kernel
theorem dX8_heapCount_26 : decode cX8_heapCount 26 = .ok (.iinc 2 1, 3) := by decide +kernel
theorem dX8_heapCount_29 : decode cX8_heapCount 29 = .ok (.iinc 3 1, 3) := by decide +kernel
theorem dX8_heapCount_32 : decode cX8_heapCount 32 = .ok (.goto (-23), 3) := by decide +kernel
theorem dX8_heapCount_35 : decode cX8_heapCount 35 = .ok (.iload_n 2, 1) := by decide +kernel
theorem dX8_heapCount_36 : decode cX8_heapCount 36 = .ok (.ireturn, 1) := by decide +kernel
def w_X8_heapCount_35  (v2 : Int32) (h : AH) (Q : Int32 → AH → Prop) : Prop :=
  Q v2 h
def w_X8_heapCount_29  (x35 : Int32 → AH → Prop) (k : Int32 → Int32 → AH → Prop) (v0 : Nat) (v1 : Int32) (v2 : Int32) (v3 : Int32) (h : AH) (Q : Int32 → AH → Prop) : Prop :=
  k v2 (v3 + 1) h
def w_X8_heapCount_9  (x35 : Int32 → AH → Prop) (k : Int32 → Int32 → AH → Prop) (v0 : Nat) (v1 : Int32) (v2 : Int32) (v3 : Int32) (h : AH) (Q : Int32 → AH → Prop) : Prop :=
  br ((256 : Int32) ≤ v3) (
    x35 v2 h) (
    fN h v0 8 4 fun a1 =>
    aI h a1 v3 fun x2 =>
    br (x2 < v1) (
      w_X8_heapCount_29 x35 k v0 v1 v2 v3 h Q) (
      w_X8_heapCount_29 x35 k v0 v1 (v2 + 1) v3 h Q))
def w_X8_heapCount  (v0 : Nat) (v1 : Int32) (h : AH) (Q : Int32 → AH → Prop) : Prop :=
  vr h v0 8 (
  w_X8_tallyCells v0 (1 : Int32) h (fun h =>
  lp (fun (k2 : Int32 × Int32 × AH → Prop) (s2 : Int32 × Int32 × AH) => w_X8_heapCount_9  (fun (y2 : Int32) h => w_X8_heapCount_35 y2 h Q) (fun (y2 : Int32) (y3 : Int32) h => k2 (y2, y3, h)) v0 v1 s2.1 s2.2.1 s2.2.2 Q) ((0 : Int32), (0 : Int32), h)))
set_option maxRecDepth 100000 in
set_option maxHeartbeats 4000000 in
theorem s_X8_heapCount_35 {p : Program} {l : Launch} {e : Env} {s : State} {m : MethodId} {args : Array Value} {below : List Frame} {meth : Method} {c : Code} {g : GG}  {Q : Int32 → AH → Prop}  (C : CXT p l s m args meth c RX8 cX8_heapCount 4 g) (hr : meth.sig.returnType = (some .int))  : ∀ (v2 : Int32) (h : AH), w_X8_heapCount_35  v2 h Q → V p l e s m args below meth c g 3 0 0 4 0 0 (MQ below (QCx g (QI Q)) args s 0 0 (gA g)) 35 [(2, .int v2)] [] h := by
  intro v2 h hw
  refine v_iload_n C dX8_heapCount_35 0 rfl rfl ?_
  exact (rt_MQ C _).1 _ _ _ _ _ _ hr dX8_heapCount_36 (by decide) (by decide) ⟨_, rfl, hw⟩
set_option maxRecDepth 100000 in
set_option maxHeartbeats 4000000 in
theorem s_X8_heapCount_29 {p : Program} {l : Launch} {e : Env} {s : State} {m : MethodId} {args : Array Value} {below : List Frame} {meth : Method} {c : Code} {g : GG} {v0 : Nat} {v1 : Int32} {Q : Int32 → AH → Prop} {x35 : Int32 → AH → Prop} {k : Int32 → Int32 → AH → Prop} (C : CXT p l s m args meth c RX8 cX8_heapCount 4 g) (hr : meth.sig.returnType = (some .int)) (hx35 : ∀ (y2 : Int32) (h : AH), x35 y2 h → V p l e s m args below meth c g 3 0 0 4 0 0 (MQ below (QCx g (QI Q)) args s 0 0 (gA g)) 35 [(2, .int y2)] [] h) (hk : ∀ (y2 : Int32) (y3 : Int32) (h : AH), k y2 y3 h → V p l e s m args below meth c g 3 0 0 4 0 0 (MQ below (QCx g (QI Q)) args s 0 0 (gA g)) 9 [(0, .ref v0), (1, .int v1), (2, .int y2), (3, .int y3)] [] h) : ∀ (v2 : Int32) (v3 : Int32) (h : AH), w_X8_heapCount_29  x35 k v0 v1 v2 v3 h Q → V p l e s m args below meth c g 3 0 0 4 0 0 (MQ below (QCx g (QI Q)) args s 0 0 (gA g)) 29 [(0, .ref v0), (1, .int v1), (2, .int v2), (3, .int v3)] [] h := by
  intro v2 v3 h hw
  refine v_iinc (v := 1) (ls' := [(3, .int (v3 + 1)), (0, .ref v0), (1, .int v1), (2, .int v2)]) C dX8_heapCount_29 3 rfl (by decide) (by decide) rfl ?_
  refine v_goto (tgt := 9) C dX8_heapCount_32 (by decide) ?_
  refine v_sub [1, 2, 3, 0] rfl ?_
  exact hk _ _ _ hw
set_option maxRecDepth 100000 in
set_option maxHeartbeats 4000000 in
theorem s_X8_heapCount_9 {p : Program} {l : Launch} {e : Env} {s : State} {m : MethodId} {args : Array Value} {below : List Frame} {meth : Method} {c : Code} {g : GG} {v0 : Nat} {v1 : Int32} {Q : Int32 → AH → Prop} {x35 : Int32 → AH → Prop} {k : Int32 → Int32 → AH → Prop} (C : CXT p l s m args meth c RX8 cX8_heapCount 4 g) (hr : meth.sig.returnType = (some .int)) (hx35 : ∀ (y2 : Int32) (h : AH), x35 y2 h → V p l e s m args below meth c g 3 0 0 4 0 0 (MQ below (QCx g (QI Q)) args s 0 0 (gA g)) 35 [(2, .int y2)] [] h) (hk : ∀ (y2 : Int32) (y3 : Int32) (h : AH), k y2 y3 h → V p l e s m args below meth c g 3 0 0 4 0 0 (MQ below (QCx g (QI Q)) args s 0 0 (gA g)) 9 [(0, .ref v0), (1, .int v1), (2, .int y2), (3, .int y3)] [] h) : ∀ (v2 : Int32) (v3 : Int32) (h : AH), w_X8_heapCount_9  x35 k v0 v1 v2 v3 h Q → V p l e s m args below meth c g 3 0 0 4 0 0 (MQ below (QCx g (QI Q)) args s 0 0 (gA g)) 9 [(0, .ref v0), (1, .int v1), (2, .int v2), (3, .int v3)] [] h := by
  intro v2 v3 h hw
  refine v_iload_n C dX8_heapCount_9 3 rfl rfl ?_
  refine v_sipush (v := 256) C dX8_heapCount_10 (by decide) ?_
  refine v_icmp_ge (tgt := 35) C dX8_heapCount_13 (by decide) (fun c_13 => ?_) (fun c_13 => ?_)
  · have hw := hw.1 c_13
    refine v_sub [2] rfl ?_
    exact hx35 _ _ hw
  · have hw := hw.2 c_13
    refine v_aload_n C dX8_heapCount_16 0 rfl rfl ?_
    refine w_getN C fl_X8_21 dX8_heapCount_17 rfl hw (fun a1 hw => ?_)
    refine v_iload_n C dX8_heapCount_20 3 rfl rfl ?_
    refine w_iaload C dX8_heapCount_21 hw (fun x2 hw => ?_)
    refine v_iload_n C dX8_heapCount_22 1 rfl rfl ?_
    refine v_icmp_lt (tgt := 29) C dX8_heapCount_23 (by decide) (fun c_23 => ?_) (fun c_23 => ?_)
    · have hw := hw.1 c_23
      exact s_X8_heapCount_29 C hr hx35 hk _ _ _ hw
    · have hw := hw.2 c_23
      refine v_iinc (v := 1) (ls' := [(2, .int (v2 + 1)), (0, .ref v0), (1, .int v1), (3, .int v3)]) C dX8_heapCount_26 2 rfl (by decide) (by decide) rfl ?_
      refine v_sub [1, 2, 0, 3] rfl ?_
      exact s_X8_heapCount_29 C hr hx35 hk _ _ _ hw
set_option maxRecDepth 100000 in
set_option maxHeartbeats 4000000 in
theorem s_X8_heapCount {l : Launch}  {v0 : Nat} {v1 : Int32} {h : AH} {Q : Int32 → AH → Prop}  (hw : w_X8_heapCount  v0 v1 h Q) : CT l yX8_heapCount cX8_heapCount 4 (some .int) 3 0 0 [.ref v0, .int v1] h (QI Q) := by
  refine CT.of (by decide) ⟨rfl, ⟨rfl, trivial⟩⟩ (Nat.le_of_ble_eq_true rfl) ?_
  intro p e s m args below meth c g C hr hin
  refine v_eq (pc' := 0) (ls' := [(0, .ref v0), (1, .int v1)]) rfl rfl rfl rfl ?_
  refine v_aload_n C dX8_heapCount_0 0 rfl rfl ?_
  refine v_iconst (v := 1) C dX8_heapCount_1 (by decide) ?_
  refine w_callVv (st := []) C cl_X8_156 im_X8_tallyCells se_X8_tallyCells rfl hw.1 (s_X8_tallyCells hw.2) rfl dX8_heapCount_2 rfl (by decide) (by decide) (by decide) (by decide) (by decide) (fun h hw => ?_)
  refine v_iconst (v := 0) C dX8_heapCount_5 (by decide) ?_
  refine v_istore_n (ls' := [(2, .int (0 : Int32)), (0, .ref v0), (1, .int v1)]) C dX8_heapCount_6 rfl (by decide) rfl ?_
  refine v_iconst (v := 0) C dX8_heapCount_7 (by decide) ?_
  refine v_istore_n (ls' := [(3, .int (0 : Int32)), (2, .int (0 : Int32)), (0, .ref v0), (1, .int v1)]) C dX8_heapCount_8 rfl (by decide) rfl ?_
  refine v_sub [2, 3, 1, 0] rfl ?_
  refine lp_walk (P := fun (s' : Int32 × Int32 × AH) => V p l e s m args below meth c g 3 0 0 4 0 0 (MQ below (QCx g (QI Q)) args s 0 0 (gA g)) 9 [(0, .ref v0), (1, .int v1), (2, .int (s'.1)), (3, .int (s'.2.1))] [] s'.2.2) (fun k2 hk2 s' hw => ?_) ((0 : Int32), (0 : Int32), h) hw
  exact s_X8_heapCount_9 C hr (fun y2 h hw => s_X8_heapCount_35 C hr  _ h hw) (fun y2 y3 h hw => hk2 (y2, y3, h) hw) _ _ _ hw
-- GrassField$Study.pieceFrom(III)I
theorem dX8_pieceFrom_0 : decode cX8_pieceFrom 0 = .ok (.aload_n 0, 1) := by decide +kernel
theorem dX8_pieceFrom_1 : decode cX8_pieceFrom 1 = .ok (.iload_n 1, 1) := by decide +kernel
theorem dX8_pieceFrom_2 : decode cX8_pieceFrom 2 = .ok (.invokevirtual 144, 3) := by decide +kernel
theorem dX8_pieceFrom_5 : decode cX8_pieceFrom 5 = .ok (.istore 4, 2) := by decide +kernel
theorem dX8_pieceFrom_7 : decode cX8_pieceFrom 7 = .ok (.iload 4, 2) := by decide +kernel
theorem dX8_pieceFrom_9 : decode cX8_pieceFrom 9 = .ok (.istore 5, 2) := by decide +kernel
theorem dX8_pieceFrom_11 : decode cX8_pieceFrom 11 = .ok (.iload_n 1, 1) := by decide +kernel
theorem dX8_pieceFrom_12 : decode cX8_pieceFrom 12 = .ok (.istore 6, 2) := by decide +kernel
theorem dX8_pieceFrom_14 : decode cX8_pieceFrom 14 = .ok (.iload 6, 2) := by decide +kernel
theorem dX8_pieceFrom_16 : decode cX8_pieceFrom 16 = .ok (.iload_n 2, 1) := by decide +kernel
theorem dX8_pieceFrom_17 : decode cX8_pieceFrom 17 = .ok (.if_icmp .ge 49, 3) := by decide +kernel
theorem dX8_pieceFrom_20 : decode cX8_pieceFrom 20 = .ok (.iload 4, 2) := by decide +kernel
theorem dX8_pieceFrom_22 : decode cX8_pieceFrom 22 = .ok (.aload_n 0, 1) := by decide +kernel
theorem dX8_pieceFrom_23 : decode cX8_pieceFrom 23 = .ok (.iload 6, 2) := by decide +kernel
theorem dX8_pieceFrom_25 : decode cX8_pieceFrom 25 = .ok (.invokevirtual 144, 3) := by decide +kernel
theorem dX8_pieceFrom_28 : decode cX8_pieceFrom 28 = .ok (.invokestatic 147, 3) := by decide +kernel
theorem dX8_pieceFrom_31 : decode cX8_pieceFrom 31 = .ok (.istore 4, 2) := by decide +kernel
theorem dX8_pieceFrom_33 : decode cX8_pieceFrom 33 = .ok (.iload 5, 2) := by decide +kernel
theorem dX8_pieceFrom_35 : decode cX8_pieceFrom 35 = .ok (.aload_n 0, 1) := by decide +kernel
theorem dX8_pieceFrom_36 : decode cX8_pieceFrom 36 = .ok (.iload 6, 2) := by decide +kernel
theorem dX8_pieceFrom_38 : decode cX8_pieceFrom 38 = .ok (.invokevirtual 144, 3) := by decide +kernel
theorem dX8_pieceFrom_41 : decode cX8_pieceFrom 41 = .ok (.invokestatic 139, 3) := by decide +kernel
theorem dX8_pieceFrom_44 : decode cX8_pieceFrom 44 = .ok (.istore 5, 2) := by decide +kernel
theorem dX8_pieceFrom_46 : decode cX8_pieceFrom 46 = .ok (.iload 5, 2) := by decide +kernel
theorem dX8_pieceFrom_48 : decode cX8_pieceFrom 48 = .ok (.iload 4, 2) := by decide +kernel
theorem dX8_pieceFrom_50 : decode cX8_pieceFrom 50 = .ok (.isub, 1) := by decide +kernel
theorem dX8_pieceFrom_51 : decode cX8_pieceFrom 51 = .ok (.iload_n 3, 1) := by decide +kernel
theorem dX8_pieceFrom_52 : decode cX8_pieceFrom 52 = .ok (.if_icmp .le 8, 3) := by decide +kernel
theorem dX8_pieceFrom_55 : decode cX8_pieceFrom 55 = .ok (.iload 6, 2) := by decide +kernel
theorem dX8_pieceFrom_57 : decode cX8_pieceFrom 57 = .ok (.iload_n 1, 1) := by decide +kernel
theorem dX8_pieceFrom_58 : decode cX8_pieceFrom 58 = .ok (.isub, 1) := by decide +kernel
theorem dX8_pieceFrom_59 : decode cX8_pieceFrom 59 = .ok (.ireturn, 1) := by decide +kernel
theorem dX8_pieceFrom_60 : decode cX8_pieceFrom 60 = .ok (.iinc 6 1, 3) := by decide +kernel
theorem dX8_pieceFrom_63 : decode cX8_pieceFrom 63 = .ok (.goto (-49), 3) := by decide +kernel
theorem dX8_pieceFrom_66 : decode cX8_pieceFrom 66 = .ok (.iload_n 2, 1) := by decide +kernel
theorem dX8_pieceFrom_67 : decode cX8_pieceFrom 67 = .ok (.iload_n 1, 1) := by decide +kernel
theorem dX8_pieceFrom_68 : decode cX8_pieceFrom 68 = .ok (.isub, 1) := by decide +kernel
theorem dX8_pieceFrom_69 : decode cX8_pieceFrom 69 = .ok (.ireturn, 1) := by decide +kernel
def w_X8_pieceFrom_66  (v1 : Int32) (v2 : Int32) (h : AH) (Q : Int32 → AH → Prop) : Prop :=
  Q (v2 - v1) h
def w_X8_pieceFrom_55  (v1 : Int32) (v6 : Int32) (h : AH) (Q : Int32 → AH → Prop) : Prop :=
  Q (v6 - v1) h
def w_X8_pieceFrom_14  (x55 : Int32 → AH → Prop) (x66 : AH → Prop) (k : Int32 → Int32 → Int32 → AH → Prop) (v0 : Nat) (v1 : Int32) (v2 : Int32) (v3 : Int32) (v4 : Int32) (v5 : Int32) (v6 : Int32) (h : AH) (Q : Int32 → AH → Prop) : Prop :=
  br (v2 ≤ v6) (
    x66  h) (
    vr h v0 8 (
    w_X8_stepFrom v0 v6 h (fun x1 h =>
    bd (jmin v4 x1) fun x2 =>
    vr h v0 8 (
    w_X8_stepFrom v0 v6 h (fun x3 h =>
    bd (jmax v5 x3) fun x4 =>
    br ((x4 - x2) ≤ v3) (
      k x2 x4 (v6 + 1) h) (
      x55 v6 h))))))
def w_X8_pieceFrom  (v0 : Nat) (v1 : Int32) (v2 : Int32) (v3 : Int32) (h : AH) (Q : Int32 → AH → Prop) : Prop :=
  vr h v0 8 (
  w_X8_stepFrom v0 v1 h (fun x1 h =>
  lp (fun (k2 : Int32 × Int32 × Int32 × AH → Prop) (s2 : Int32 × Int32 × Int32 × AH) => w_X8_pieceFrom_14  (fun (y6 : Int32) h => w_X8_pieceFrom_55 v1 y6 h Q) (fun  h => w_X8_pieceFrom_66 v1 v2 h Q) (fun (y4 : Int32) (y5 : Int32) (y6 : Int32) h => k2 (y4, y5, y6, h)) v0 v1 v2 v3 s2.1 s2.2.1 s2.2.2.1 s2.2.2.2 Q) (x1, x1, v1, h)))
set_option maxRecDepth 100000 in
set_option maxHeartbeats 4000000 in
theorem s_X8_pieceFrom_66 {p : Program} {l : Launch} {e : Env} {s : State} {m : MethodId} {args : Array Value} {below : List Frame} {meth : Method} {c : Code} {g : GG}  {Q : Int32 → AH → Prop}  (C : CXT p l s m args meth c RX8 cX8_pieceFrom 7 g) (hr : meth.sig.returnType = (some .int))  : ∀ (v1 : Int32) (v2 : Int32) (h : AH), w_X8_pieceFrom_66  v1 v2 h Q → V p l e s m args below meth c g 1 0 0 7 0 0 (MQ below (QCx g (QI Q)) args s 0 0 (gA g)) 66 [(1, .int v1), (2, .int v2)] [] h := by
  intro v1 v2 h hw
  refine v_iload_n C dX8_pieceFrom_66 1 rfl rfl ?_
  refine v_iload_n C dX8_pieceFrom_67 0 rfl rfl ?_
  refine v_isub C dX8_pieceFrom_68 ?_
  exact (rt_MQ C _).1 _ _ _ _ _ _ hr dX8_pieceFrom_69 (by decide) (by decide) ⟨_, rfl, hw⟩
set_option maxRecDepth 100000 in
set_option maxHeartbeats 4000000 in
theorem s_X8_pieceFrom_55 {p : Program} {l : Launch} {e : Env} {s : State} {m : MethodId} {args : Array Value} {below : List Frame} {meth : Method} {c : Code} {g : GG}  {Q : Int32 → AH → Prop}  (C : CXT p l s m args meth c RX8 cX8_pieceFrom 7 g) (hr : meth.sig.returnType = (some .int))  : ∀ (v1 : Int32) (v6 : Int32) (h : AH), w_X8_pieceFrom_55  v1 v6 h Q → V p l e s m args below meth c g 1 0 0 7 0 0 (MQ below (QCx g (QI Q)) args s 0 0 (gA g)) 55 [(1, .int v1), (6, .int v6)] [] h := by
  intro v1 v6 h hw
  refine v_iload C dX8_pieceFrom_55 1 rfl ?_
  refine v_iload_n C dX8_pieceFrom_57 0 rfl rfl ?_
  refine v_isub C dX8_pieceFrom_58 ?_
  exact (rt_MQ C _).1 _ _ _ _ _ _ hr dX8_pieceFrom_59 (by decide) (by decide) ⟨_, rfl, hw⟩
set_option maxRecDepth 100000 in
set_option maxHeartbeats 4000000 in
theorem s_X8_pieceFrom_14 {p : Program} {l : Launch} {e : Env} {s : State} {m : MethodId} {args : Array Value} {below : List Frame} {meth : Method} {c : Code} {g : GG} {v0 : Nat} {v1 : Int32} {v2 : Int32} {v3 : Int32} {Q : Int32 → AH → Prop} {x55 : Int32 → AH → Prop} {x66 : AH → Prop} {k : Int32 → Int32 → Int32 → AH → Prop} (C : CXT p l s m args meth c RX8 cX8_pieceFrom 7 g) (hr : meth.sig.returnType = (some .int)) (hx55 : ∀ (y6 : Int32) (h : AH), x55 y6 h → V p l e s m args below meth c g 1 0 0 7 0 0 (MQ below (QCx g (QI Q)) args s 0 0 (gA g)) 55 [(1, .int v1), (6, .int y6)] [] h) (hx66 : ∀  (h : AH), x66  h → V p l e s m args below meth c g 1 0 0 7 0 0 (MQ below (QCx g (QI Q)) args s 0 0 (gA g)) 66 [(1, .int v1), (2, .int v2)] [] h) (hk : ∀ (y4 : Int32) (y5 : Int32) (y6 : Int32) (h : AH), k y4 y5 y6 h → V p l e s m args below meth c g 1 0 0 7 0 0 (MQ below (QCx g (QI Q)) args s 0 0 (gA g)) 14 [(0, .ref v0), (1, .int v1), (2, .int v2), (3, .int v3), (4, .int y4), (5, .int y5), (6, .int y6)] [] h) : ∀ (v4 : Int32) (v5 : Int32) (v6 : Int32) (h : AH), w_X8_pieceFrom_14  x55 x66 k v0 v1 v2 v3 v4 v5 v6 h Q → V p l e s m args below meth c g 1 0 0 7 0 0 (MQ below (QCx g (QI Q)) args s 0 0 (gA g)) 14 [(0, .ref v0), (1, .int v1), (2, .int v2), (3, .int v3), (4, .int v4), (5, .int v5), (6, .int v6)] [] h := by
  intro v4 v5 v6 h hw
  refine v_iload C dX8_pieceFrom_14 6 rfl ?_
  refine v_iload_n C dX8_pieceFrom_16 2 rfl rfl ?_
  refine v_icmp_ge (tgt := 66) C dX8_pieceFrom_17 (by decide) (fun c_17 => ?_) (fun c_17 => ?_)
  · have hw := hw.1 c_17
    refine v_sub [1, 2] rfl ?_
    exact hx66  _ hw
  · have hw := hw.2 c_17
    refine v_iload C dX8_pieceFrom_20 4 rfl ?_
    refine v_aload_n C dX8_pieceFrom_22 0 rfl rfl ?_
    refine v_iload C dX8_pieceFrom_23 6 rfl ?_
    refine w_callVi (st := [.int v4]) C cl_X8_144 im_X8_stepFrom se_X8_stepFrom rfl hw.1 (s_X8_stepFrom hw.2) rfl dX8_pieceFrom_25 rfl (Nat.le_of_ble_eq_true rfl) (by decide) (by decide) (by decide) (by decide) (fun x1 h hw => ?_)
    refine v_min C ml_X8_147 ms_min mi_math mc_min dX8_pieceFrom_28 (by decide) (by decide) (by decide) (by decide) ?_
    refine w_bd hw (fun x2 hw => ?_)
    refine v_istore (ls' := [(4, .int x2), (0, .ref v0), (1, .int v1), (2, .int v2), (3, .int v3), (5, .int v5), (6, .int v6)]) C dX8_pieceFrom_31 (by decide) rfl ?_
    refine v_iload C dX8_pieceFrom_33 5 rfl ?_
    refine v_aload_n C dX8_pieceFrom_35 1 rfl rfl ?_
    refine v_iload C dX8_pieceFrom_36 6 rfl ?_
    refine w_callVi (st := [.int v5]) C cl_X8_144 im_X8_stepFrom se_X8_stepFrom rfl hw.1 (s_X8_stepFrom hw.2) rfl dX8_pieceFrom_38 rfl (Nat.le_of_ble_eq_true rfl) (by decide) (by decide) (by decide) (by decide) (fun x3 h hw => ?_)
    refine v_max C ml_X8_139 ms_max mi_math mc_max dX8_pieceFrom_41 (by decide) (by decide) (by decide) (by decide) ?_
    refine w_bd hw (fun x4 hw => ?_)
    refine v_istore (ls' := [(5, .int x4), (4, .int x2), (0, .ref v0), (1, .int v1), (2, .int v2), (3, .int v3), (6, .int v6)]) C dX8_pieceFrom_44 (by decide) rfl ?_
    refine v_iload C dX8_pieceFrom_46 0 rfl ?_
    refine v_iload C dX8_pieceFrom_48 1 rfl ?_
    refine v_isub C dX8_pieceFrom_50 ?_
    refine v_iload_n C dX8_pieceFrom_51 5 rfl rfl ?_
    refine v_icmp_le (tgt := 60) C dX8_pieceFrom_52 (by decide) (fun c_52 => ?_) (fun c_52 => ?_)
    · have hw := hw.1 c_52
      refine v_iinc (v := 1) (ls' := [(6, .int (v6 + 1)), (5, .int x4), (4, .int x2), (0, .ref v0), (1, .int v1), (2, .int v2), (3, .int v3)]) C dX8_pieceFrom_60 6 rfl (by decide) (by decide) rfl ?_
      refine v_goto (tgt := 14) C dX8_pieceFrom_63 (by decide) ?_
      refine v_sub [3, 4, 5, 6, 2, 1, 0] rfl ?_
      exact hk _ _ _ _ hw
    · have hw := hw.2 c_52
      refine v_sub [3, 6] rfl ?_
      exact hx55 _ _ hw
set_option maxRecDepth 100000 in
set_option maxHeartbeats 4000000 in
theorem s_X8_pieceFrom {l : Launch}  {v0 : Nat} {v1 : Int32} {v2 : Int32} {v3 : Int32} {h : AH} {Q : Int32 → AH → Prop}  (hw : w_X8_pieceFrom  v0 v1 v2 v3 h Q) : CT l yX8_pieceFrom cX8_pieceFrom 7 (some .int) 1 0 0 [.ref v0, .int v1, .int v2, .int v3] h (QI Q) := by
  refine CT.of (by decide) ⟨rfl, ⟨rfl, ⟨rfl, ⟨rfl, trivial⟩⟩⟩⟩ (Nat.le_of_ble_eq_true rfl) ?_
  intro p e s m args below meth c g C hr hin
  refine v_eq (pc' := 0) (ls' := [(0, .ref v0), (1, .int v1), (2, .int v2), (3, .int v3)]) rfl rfl rfl rfl ?_
  refine v_aload_n C dX8_pieceFrom_0 0 rfl rfl ?_
  refine v_iload_n C dX8_pieceFrom_1 1 rfl rfl ?_
  refine w_callVi (st := []) C cl_X8_144 im_X8_stepFrom se_X8_stepFrom rfl hw.1 (s_X8_stepFrom hw.2) rfl dX8_pieceFrom_2 rfl (by decide) (by decide) (by decide) (by decide) (by decide) (fun x1 h hw => ?_)
  refine v_istore (ls' := [(4, .int x1), (0, .ref v0), (1, .int v1), (2, .int v2), (3, .int v3)]) C dX8_pieceFrom_5 (by decide) rfl ?_
  refine v_iload C dX8_pieceFrom_7 0 rfl ?_
  refine v_istore (ls' := [(5, .int x1), (4, .int x1), (0, .ref v0), (1, .int v1), (2, .int v2), (3, .int v3)]) C dX8_pieceFrom_9 (by decide) rfl ?_
  refine v_iload_n C dX8_pieceFrom_11 3 rfl rfl ?_
  refine v_istore (ls' := [(6, .int v1), (5, .int x1), (4, .int x1), (0, .ref v0), (1, .int v1), (2, .int v2), (3, .int v3)]) C dX8_pieceFrom_12 (by decide) rfl ?_
  refine v_sub [3, 4, 5, 6, 2, 1, 0] rfl ?_
  refine lp_walk (P := fun (s' : Int32 × Int32 × Int32 × AH) => V p l e s m args below meth c g 1 0 0 7 0 0 (MQ below (QCx g (QI Q)) args s 0 0 (gA g)) 14 [(0, .ref v0), (1, .int v1), (2, .int v2), (3, .int v3), (4, .int (s'.1)), (5, .int (s'.2.1)), (6, .int (s'.2.2.1))] [] s'.2.2.2) (fun k2 hk2 s' hw => ?_) (x1, x1, v1, h) hw
  exact s_X8_pieceFrom_14 C hr (fun y6 h hw => s_X8_pieceFrom_55 C hr  _ _ h hw) (fun  h hw => s_X8_pieceFrom_66 C hr  _ _ h hw) (fun y4 y5 y6 h hw => hk2 (y4, y5, y6, h) hw) _ _ _ _ hw
-- GrassField$Study.longestPiece(III)I
theorem dX8_longestPiece_0 : decode cX8_longestPiece 0 = .ok (.aload_n 0, 1) := by decide +kernel
theorem dX8_longestPiece_1 : decode cX8_longestPiece 1 = .ok (.iload_n 1, 1) := by decide +kernel
theorem dX8_longestPiece_2 : decode cX8_longestPiece 2 = .ok (.iload_n 2, 1) := by decide +kernel
theorem dX8_longestPiece_3 : decode cX8_longestPiece 3 = .ok (.invokevirtual 132, 3) := by decide +kernel
theorem dX8_longestPiece_6 : decode cX8_longestPiece 6 = .ok (.iconst 1, 1) := by decide +kernel
theorem dX8_longestPiece_7 : decode cX8_longestPiece 7 = .ok (.isub, 1) := by decide +kernel
theorem dX8_longestPiece_8 : decode cX8_longestPiece 8 = .ok (.istore 4, 2) := by decide +kernel
theorem dX8_longestPiece_10 : decode cX8_longestPiece 10 = .ok (.iconst 0, 1) := by decide +kernel
theorem dX8_longestPiece_11 : decode cX8_longestPiece 11 = .ok (.istore 5, 2) := by decide +kernel
theorem dX8_longestPiece_13 : decode cX8_longestPiece 13 = .ok (.iconst 0, 1) := by decide +kernel
theorem dX8_longestPiece_14 : decode cX8_longestPiece 14 = .ok (.istore 6, 2) := by decide +kernel
theorem dX8_longestPiece_16 : decode cX8_longestPiece 16 = .ok (.iload 6, 2) := by decide +kernel
theorem dX8_longestPiece_18 : decode cX8_longestPiece 18 = .ok (.iload 4, 2) := by decide +kernel
theorem dX8_longestPiece_20 : decode cX8_longestPiece 20 = .ok (.if_icmp .ge 25, 3) := by decide +kernel
theorem dX8_longestPiece_23 : decode cX8_longestPiece 23 = .ok (.iload 5, 2) := by decide +kernel
theorem dX8_longestPiece_25 : decode cX8_longestPiece 25 = .ok (.aload_n 0, 1) := by decide +kernel
theorem dX8_longestPiece_26 : decode cX8_longestPiece 26 = .ok (.iload 6, 2) := by decide +kernel
theorem dX8_longestPiece_28 : decode cX8_longestPiece 28 = .ok (.iload 4, 2) := by decide +kernel
theorem dX8_longestPiece_30 : decode cX8_longestPiece 30 = .ok (.iload_n 3, 1) := by decide +kernel
theorem dX8_longestPiece_31 : decode cX8_longestPiece 31 = .ok (.invokevirtual 135, 3) := by decide +kernel
theorem dX8_longestPiece_34 : decode cX8_longestPiece 34 = .ok (.invokestatic 139, 3) := by decide +kernel
theorem dX8_longestPiece_37 : decode cX8_longestPiece 37 = .ok (.istore 5, 2) := by decide +kernel
theorem dX8_longestPiece_39 : decode cX8_longestPiece 39 = .ok (.iinc 6 1, 3) := by decide +kernel
theorem dX8_longestPiece_42 : decode cX8_longestPiece 42 = .ok (.goto (-26), 3) := by decide +kernel
theorem dX8_longestPiece_45 : decode cX8_longestPiece 45 = .ok (.iload 5, 2) := by decide +kernel
theorem dX8_longestPiece_47 : decode cX8_longestPiece 47 = .ok (.ireturn, 1) := by decide +kernel
def w_X8_longestPiece_45  (v5 : Int32) (h : AH) (Q : Int32 → AH → Prop) : Prop :=
  Q v5 h
def w_X8_longestPiece_16  (x45 : Int32 → AH → Prop) (k : Int32 → Int32 → AH → Prop) (v0 : Nat) (v3 : Int32) (v4 : Int32) (v5 : Int32) (v6 : Int32) (h : AH) (Q : Int32 → AH → Prop) : Prop :=
  br (v4 ≤ v6) (
    x45 v5 h) (
    vr h v0 8 (
    w_X8_pieceFrom v0 v6 v4 v3 h (fun x1 h =>
    bd (jmax v5 x1) fun x2 =>
    k x2 (v6 + 1) h)))
def w_X8_longestPiece  (v0 : Nat) (v1 : Int32) (v2 : Int32) (v3 : Int32) (h : AH) (Q : Int32 → AH → Prop) : Prop :=
  vr h v0 8 (
  w_X8_gatherColumns v0 v1 v2 h (fun x1 h =>
  bd (x1 - (1 : Int32)) fun x2 =>
  lp (fun (k2 : Int32 × Int32 × AH → Prop) (s2 : Int32 × Int32 × AH) => w_X8_longestPiece_16  (fun (y5 : Int32) h => w_X8_longestPiece_45 y5 h Q) (fun (y5 : Int32) (y6 : Int32) h => k2 (y5, y6, h)) v0 v3 x2 s2.1 s2.2.1 s2.2.2 Q) ((0 : Int32), (0 : Int32), h)))
set_option maxRecDepth 100000 in
set_option maxHeartbeats 4000000 in
theorem s_X8_longestPiece_45 {p : Program} {l : Launch} {e : Env} {s : State} {m : MethodId} {args : Array Value} {below : List Frame} {meth : Method} {c : Code} {g : GG}  {Q : Int32 → AH → Prop}  (C : CXT p l s m args meth c RX8 cX8_longestPiece 7 g) (hr : meth.sig.returnType = (some .int))  : ∀ (v5 : Int32) (h : AH), w_X8_longestPiece_45  v5 h Q → V p l e s m args below meth c g 3 0 0 7 0 0 (MQ below (QCx g (QI Q)) args s 0 0 (gA g)) 45 [(5, .int v5)] [] h := by
  intro v5 h hw
  refine v_iload C dX8_longestPiece_45 0 rfl ?_
  exact (rt_MQ C _).1 _ _ _ _ _ _ hr dX8_longestPiece_47 (by decide) (by decide) ⟨_, rfl, hw⟩
set_option maxRecDepth 100000 in
set_option maxHeartbeats 4000000 in
theorem s_X8_longestPiece_16 {p : Program} {l : Launch} {e : Env} {s : State} {m : MethodId} {args : Array Value} {below : List Frame} {meth : Method} {c : Code} {g : GG} {v0 : Nat} {v3 : Int32} {v4 : Int32} {Q : Int32 → AH → Prop} {x45 : Int32 → AH → Prop} {k : Int32 → Int32 → AH → Prop} (C : CXT p l s m args meth c RX8 cX8_longestPiece 7 g) (hr : meth.sig.returnType = (some .int)) (hx45 : ∀ (y5 : Int32) (h : AH), x45 y5 h → V p l e s m args below meth c g 3 0 0 7 0 0 (MQ below (QCx g (QI Q)) args s 0 0 (gA g)) 45 [(5, .int y5)] [] h) (hk : ∀ (y5 : Int32) (y6 : Int32) (h : AH), k y5 y6 h → V p l e s m args below meth c g 3 0 0 7 0 0 (MQ below (QCx g (QI Q)) args s 0 0 (gA g)) 16 [(0, .ref v0), (3, .int v3), (4, .int v4), (5, .int y5), (6, .int y6)] [] h) : ∀ (v5 : Int32) (v6 : Int32) (h : AH), w_X8_longestPiece_16  x45 k v0 v3 v4 v5 v6 h Q → V p l e s m args below meth c g 3 0 0 7 0 0 (MQ below (QCx g (QI Q)) args s 0 0 (gA g)) 16 [(0, .ref v0), (3, .int v3), (4, .int v4), (5, .int v5), (6, .int v6)] [] h := by
  intro v5 v6 h hw
  refine v_iload C dX8_longestPiece_16 4 rfl ?_
  refine v_iload C dX8_longestPiece_18 2 rfl ?_
  refine v_icmp_ge (tgt := 45) C dX8_longestPiece_20 (by decide) (fun c_20 => ?_) (fun c_20 => ?_)
  · have hw := hw.1 c_20
    refine v_sub [3] rfl ?_
    exact hx45 _ _ hw
  · have hw := hw.2 c_20
    refine v_iload C dX8_longestPiece_23 3 rfl ?_
    refine v_aload_n C dX8_longestPiece_25 0 rfl rfl ?_
    refine v_iload C dX8_longestPiece_26 4 rfl ?_
    refine v_iload C dX8_longestPiece_28 2 rfl ?_
    refine v_iload_n C dX8_longestPiece_30 1 rfl rfl ?_
    refine w_callVi (st := [.int v5]) C cl_X8_135 im_X8_pieceFrom se_X8_pieceFrom rfl hw.1 (s_X8_pieceFrom hw.2) rfl dX8_longestPiece_31 rfl (Nat.le_of_ble_eq_true rfl) (by decide) (by decide) (by decide) (by decide) (fun x1 h hw => ?_)
    refine v_max C ml_X8_139 ms_max mi_math mc_max dX8_longestPiece_34 (by decide) (by decide) (by decide) (by decide) ?_
    refine w_bd hw (fun x2 hw => ?_)
    refine v_istore (ls' := [(5, .int x2), (0, .ref v0), (3, .int v3), (4, .int v4), (6, .int v6)]) C dX8_longestPiece_37 (by decide) rfl ?_
    refine v_iinc (v := 1) (ls' := [(6, .int (v6 + 1)), (5, .int x2), (0, .ref v0), (3, .int v3), (4, .int v4)]) C dX8_longestPiece_39 4 rfl (by decide) (by decide) rfl ?_
    refine v_goto (tgt := 16) C dX8_longestPiece_42 (by decide) ?_
    refine v_sub [2, 3, 4, 1, 0] rfl ?_
    exact hk _ _ _ hw
set_option maxRecDepth 100000 in
set_option maxHeartbeats 4000000 in
theorem s_X8_longestPiece {l : Launch}  {v0 : Nat} {v1 : Int32} {v2 : Int32} {v3 : Int32} {h : AH} {Q : Int32 → AH → Prop}  (hw : w_X8_longestPiece  v0 v1 v2 v3 h Q) : CT l yX8_longestPiece cX8_longestPiece 7 (some .int) 3 0 0 [.ref v0, .int v1, .int v2, .int v3] h (QI Q) := by
  refine CT.of (by decide) ⟨rfl, ⟨rfl, ⟨rfl, ⟨rfl, trivial⟩⟩⟩⟩ (Nat.le_of_ble_eq_true rfl) ?_
  intro p e s m args below meth c g C hr hin
  refine v_eq (pc' := 0) (ls' := [(0, .ref v0), (1, .int v1), (2, .int v2), (3, .int v3)]) rfl rfl rfl rfl ?_
  refine v_aload_n C dX8_longestPiece_0 0 rfl rfl ?_
  refine v_iload_n C dX8_longestPiece_1 1 rfl rfl ?_
  refine v_iload_n C dX8_longestPiece_2 2 rfl rfl ?_
  refine w_callVi (st := []) C cl_X8_132 im_X8_gatherColumns se_X8_gatherColumns rfl hw.1 (s_X8_gatherColumns hw.2) rfl dX8_longestPiece_3 rfl (by decide) (by decide) (by decide) (by decide) (by decide) (fun x1 h hw => ?_)
  refine v_iconst (v := 1) C dX8_longestPiece_6 (by decide) ?_
  refine v_isub C dX8_longestPiece_7 ?_
  refine w_bd hw (fun x2 hw => ?_)
  refine v_istore (ls' := [(4, .int x2), (0, .ref v0), (1, .int v1), (2, .int v2), (3, .int v3)]) C dX8_longestPiece_8 (by decide) rfl ?_
  refine v_iconst (v := 0) C dX8_longestPiece_10 (by decide) ?_
  refine v_istore (ls' := [(5, .int (0 : Int32)), (4, .int x2), (0, .ref v0), (1, .int v1), (2, .int v2), (3, .int v3)]) C dX8_longestPiece_11 (by decide) rfl ?_
  refine v_iconst (v := 0) C dX8_longestPiece_13 (by decide) ?_
  refine v_istore (ls' := [(6, .int (0 : Int32)), (5, .int (0 : Int32)), (4, .int x2), (0, .ref v0), (1, .int v1), (2, .int v2), (3, .int v3)]) C dX8_longestPiece_14 (by decide) rfl ?_
  refine v_sub [3, 6, 2, 1, 0] rfl ?_
  refine lp_walk (P := fun (s' : Int32 × Int32 × AH) => V p l e s m args below meth c g 3 0 0 7 0 0 (MQ below (QCx g (QI Q)) args s 0 0 (gA g)) 16 [(0, .ref v0), (3, .int v3), (4, .int x2), (5, .int (s'.1)), (6, .int (s'.2.1))] [] s'.2.2) (fun k2 hk2 s' hw => ?_) ((0 : Int32), (0 : Int32), h) hw
  exact s_X8_longestPiece_16 C hr (fun y5 h hw => s_X8_longestPiece_45 C hr  _ h hw) (fun y5 y6 h hw => hk2 (y5, y6, h) hw) _ _ _ hw
-- GrassField$Study.gatherFacts()V
theorem dX8_gatherFacts_0 : decode cX8_gatherFacts 0 = .ok (.aload_n 0, 1) := by decide +kernel
theorem dX8_gatherFacts_1 : decode cX8_gatherFacts 1 = .ok (.invokevirtual 209, 3) := by decide +kernel
theorem dX8_gatherFacts_4 : decode cX8_gatherFacts 4 = .ok (.aload_n 0, 1) := by decide +kernel
theorem dX8_gatherFacts_5 : decode cX8_gatherFacts 5 = .ok (.getfield 33, 3) := by decide +kernel
theorem dX8_gatherFacts_8 : decode cX8_gatherFacts 8 = .ok (.getfield 37, 3) := by decide +kernel
theorem dX8_gatherFacts_11 : decode cX8_gatherFacts 11 = .ok (.astore_n 1, 1) := by decide +kernel
theorem dX8_gatherFacts_12 : decode cX8_gatherFacts 12 = .ok (.aload_n 1, 1) := by decide +kernel
theorem dX8_gatherFacts_13 : decode cX8_gatherFacts 13 = .ok (.invokevirtual 43, 3) := by decide +kernel
theorem dX8_gatherFacts_16 : decode cX8_gatherFacts 16 = .ok (.istore_n 2, 1) := by decide +kernel
theorem dX8_gatherFacts_17 : decode cX8_gatherFacts 17 = .ok (.aload_n 0, 1) := by decide +kernel
theorem dX8_gatherFacts_18 : decode cX8_gatherFacts 18 = .ok (.getfield 30, 3) := by decide +kernel
theorem dX8_gatherFacts_21 : decode cX8_gatherFacts 21 = .ok (.iconst 0, 1) := by decide +kernel
theorem dX8_gatherFacts_22 : decode cX8_gatherFacts 22 = .ok (.invokestatic 150, 3) := by decide +kernel
theorem dX8_gatherFacts_25 : decode cX8_gatherFacts 25 = .ok (.iconst 0, 1) := by decide +kernel
theorem dX8_gatherFacts_26 : decode cX8_gatherFacts 26 = .ok (.istore_n 3, 1) := by decide +kernel
theorem dX8_gatherFacts_27 : decode cX8_gatherFacts 27 = .ok (.iload_n 3, 1) := by decide +kernel
theorem dX8_gatherFacts_28 : decode cX8_gatherFacts 28 = .ok (.aload_n 1, 1) := by decide +kernel
theorem dX8_gatherFacts_29 : decode cX8_gatherFacts 29 = .ok (.getfield 49, 3) := by decide +kernel
theorem dX8_gatherFacts_32 : decode cX8_gatherFacts 32 = .ok (.if_icmp .ge 33, 3) := by decide +kernel
theorem dX8_gatherFacts_35 : decode cX8_gatherFacts 35 = .ok (.aload_n 1, 1) := by decide +kernel
theorem dX8_gatherFacts_36 : decode cX8_gatherFacts 36 = .ok (.iload_n 3, 1) := by decide +kernel
theorem dX8_gatherFacts_37 : decode cX8_gatherFacts 37 = .ok (.iload_n 2, 1) := by decide +kernel
theorem dX8_gatherFacts_38 : decode cX8_gatherFacts 38 = .ok (.invokevirtual 56, 3) := by decide +kernel
theorem dX8_gatherFacts_41 : decode cX8_gatherFacts 41 = .ok (.ifCond .eq 18, 3) := by decide +kernel
theorem dX8_gatherFacts_44 : decode cX8_gatherFacts 44 = .ok (.aload_n 0, 1) := by decide +kernel
theorem dX8_gatherFacts_45 : decode cX8_gatherFacts 45 = .ok (.getfield 30, 3) := by decide +kernel
theorem dX8_gatherFacts_48 : decode cX8_gatherFacts 48 = .ok (.aload_n 1, 1) := by decide +kernel
theorem dX8_gatherFacts_49 : decode cX8_gatherFacts 49 = .ok (.getfield 53, 3) := by decide +kernel
theorem dX8_gatherFacts_52 : decode cX8_gatherFacts 52 = .ok (.iload_n 3, 1) := by decide +kernel
theorem dX8_gatherFacts_53 : decode cX8_gatherFacts 53 = .ok (.iaload, 1) := by decide +kernel
theorem dX8_gatherFacts_54 : decode cX8_gatherFacts 54 = .ok (.dup2, 1) := by decide +kernel
theorem dX8_gatherFacts_55 : decode cX8_gatherFacts 55 = .ok (.iaload, 1) := by decide +kernel
theorem dX8_gatherFacts_56 : decode cX8_gatherFacts 56 = .ok (.iconst 1, 1) := by decide +kernel
theorem dX8_gatherFacts_57 : decode cX8_gatherFacts 57 = .ok (.iadd, 1) := by decide +kernel
theorem dX8_gatherFacts_58 : decode cX8_gatherFacts 58 = .ok (.iastore, 1) := by decide +kernel
theorem dX8_gatherFacts_59 : decode cX8_gatherFacts 59 = .ok (.iinc 3 1, 3) := by decide +kernel
theorem dX8_gatherFacts_62 : decode cX8_gatherFacts 62 = .ok (.goto (-35), 3) := by decide +kernel
theorem dX8_gatherFacts_65 : decode cX8_gatherFacts 65 = .ok (.aload_n 0, 1) := by decide +kernel
theorem dX8_gatherFacts_66 : decode cX8_gatherFacts 66 = .ok (.getfield 30, 3) := by decide +kernel
theorem dX8_gatherFacts_69 : decode cX8_gatherFacts 69 = .ok (.iconst 4, 1) := by decide +kernel
theorem dX8_gatherFacts_70 : decode cX8_gatherFacts 70 = .ok (.aload_n 0, 1) := by decide +kernel
theorem dX8_gatherFacts_71 : decode cX8_gatherFacts 71 = .ok (.iconst 0, 1) := by decide +kernel
theorem dX8_gatherFacts_72 : decode cX8_gatherFacts 72 = .ok (.sipush 255, 3) := by decide +kernel
theorem dX8_gatherFacts_75 : decode cX8_gatherFacts 75 = .ok (.invokevirtual 212, 3) := by decide +kernel
theorem dX8_gatherFacts_78 : decode cX8_gatherFacts 78 = .ok (.invokestatic 68, 3) := by decide +kernel
theorem dX8_gatherFacts_81 : decode cX8_gatherFacts 81 = .ok (.iastore, 1) := by decide +kernel
theorem dX8_gatherFacts_82 : decode cX8_gatherFacts 82 = .ok (.iconst 0, 1) := by decide +kernel
theorem dX8_gatherFacts_83 : decode cX8_gatherFacts 83 = .ok (.istore_n 3, 1) := by decide +kernel
theorem dX8_gatherFacts_84 : decode cX8_gatherFacts 84 = .ok (.iload_n 3, 1) := by decide +kernel
theorem dX8_gatherFacts_85 : decode cX8_gatherFacts 85 = .ok (.aload_n 0, 1) := by decide +kernel
theorem dX8_gatherFacts_86 : decode cX8_gatherFacts 86 = .ok (.getfield 33, 3) := by decide +kernel
theorem dX8_gatherFacts_89 : decode cX8_gatherFacts 89 = .ok (.getfield 166, 3) := by decide +kernel
theorem dX8_gatherFacts_92 : decode cX8_gatherFacts 92 = .ok (.getfield 182, 3) := by decide +kernel
theorem dX8_gatherFacts_95 : decode cX8_gatherFacts 95 = .ok (.if_icmp .ge 31, 3) := by decide +kernel
theorem dX8_gatherFacts_98 : decode cX8_gatherFacts 98 = .ok (.aload_n 0, 1) := by decide +kernel
theorem dX8_gatherFacts_99 : decode cX8_gatherFacts 99 = .ok (.getfield 30, 3) := by decide +kernel
theorem dX8_gatherFacts_102 : decode cX8_gatherFacts 102 = .ok (.iconst 5, 1) := by decide +kernel
theorem dX8_gatherFacts_103 : decode cX8_gatherFacts 103 = .ok (.dup2, 1) := by decide +kernel
theorem dX8_gatherFacts_104 : decode cX8_gatherFacts 104 = .ok (.iaload, 1) := by decide +kernel
theorem dX8_gatherFacts_105 : decode cX8_gatherFacts 105 = .ok (.aload_n 0, 1) := by decide +kernel
theorem dX8_gatherFacts_106 : decode cX8_gatherFacts 106 = .ok (.iload_n 3, 1) := by decide +kernel
theorem dX8_gatherFacts_107 : decode cX8_gatherFacts 107 = .ok (.invokevirtual 185, 3) := by decide +kernel
theorem dX8_gatherFacts_110 : decode cX8_gatherFacts 110 = .ok (.ifCond .eq 7, 3) := by decide +kernel
theorem dX8_gatherFacts_113 : decode cX8_gatherFacts 113 = .ok (.iconst 1, 1) := by decide +kernel
theorem dX8_gatherFacts_114 : decode cX8_gatherFacts 114 = .ok (.goto 4, 3) := by decide +kernel
theorem dX8_gatherFacts_117 : decode cX8_gatherFacts 117 = .ok (.iconst 0, 1) := by decide +kernel
theorem dX8_gatherFacts_118 : decode cX8_gatherFacts 118 = .ok (.iadd, 1) := by decide +kernel
theorem dX8_gatherFacts_119 : decode cX8_gatherFacts 119 = .ok (.iastore, 1) := by decide +kernel
theorem dX8_gatherFacts_120 : decode cX8_gatherFacts 120 = .ok (.iinc 3 1, 3) := by decide +kernel
theorem dX8_gatherFacts_123 : decode cX8_gatherFacts 123 = .ok (.goto (-39), 3) := by decide +kernel
theorem dX8_gatherFacts_126 : decode cX8_gatherFacts 126 = .ok (.aload_n 0, 1) := by decide +kernel
theorem dX8_gatherFacts_127 : decode cX8_gatherFacts 127 = .ok (.getfield 30, 3) := by decide +kernel
theorem dX8_gatherFacts_130 : decode cX8_gatherFacts 130 = .ok (.bipush 6, 2) := by decide +kernel
theorem dX8_gatherFacts_132 : decode cX8_gatherFacts 132 = .ok (.aload_n 0, 1) := by decide +kernel
theorem dX8_gatherFacts_133 : decode cX8_gatherFacts 133 = .ok (.iconst 4, 1) := by decide +kernel
theorem dX8_gatherFacts_134 : decode cX8_gatherFacts 134 = .ok (.invokevirtual 215, 3) := by decide +kernel
theorem dX8_gatherFacts_137 : decode cX8_gatherFacts 137 = .ok (.iastore, 1) := by decide +kernel
theorem dX8_gatherFacts_138 : decode cX8_gatherFacts 138 = .ok (.iconst 0, 1) := by decide +kernel
theorem dX8_gatherFacts_139 : decode cX8_gatherFacts 139 = .ok (.istore_n 3, 1) := by decide +kernel
theorem dX8_gatherFacts_140 : decode cX8_gatherFacts 140 = .ok (.iload_n 3, 1) := by decide +kernel
theorem dX8_gatherFacts_141 : decode cX8_gatherFacts 141 = .ok (.bipush 16, 2) := by decide +kernel
theorem dX8_gatherFacts_143 : decode cX8_gatherFacts 143 = .ok (.if_icmp .ge 33, 3) := by decide +kernel
theorem dX8_gatherFacts_146 : decode cX8_gatherFacts 146 = .ok (.aload_n 0, 1) := by decide +kernel
theorem dX8_gatherFacts_147 : decode cX8_gatherFacts 147 = .ok (.getfield 30, 3) := by decide +kernel
theorem dX8_gatherFacts_150 : decode cX8_gatherFacts 150 = .ok (.bipush 7, 2) := by decide +kernel
theorem dX8_gatherFacts_152 : decode cX8_gatherFacts 152 = .ok (.aload_n 0, 1) := by decide +kernel
theorem dX8_gatherFacts_153 : decode cX8_gatherFacts 153 = .ok (.getfield 30, 3) := by decide +kernel
theorem dX8_gatherFacts_156 : decode cX8_gatherFacts 156 = .ok (.bipush 7, 2) := by decide +kernel
theorem dX8_gatherFacts_158 : decode cX8_gatherFacts 158 = .ok (.iaload, 1) := by decide +kernel
theorem dX8_gatherFacts_159 : decode cX8_gatherFacts 159 = .ok (.aload_n 0, 1) := by decide +kernel
theorem dX8_gatherFacts_160 : decode cX8_gatherFacts 160 = .ok (.iconst 0, 1) := by decide +kernel
theorem dX8_gatherFacts_161 : decode cX8_gatherFacts 161 = .ok (.iload_n 3, 1) := by decide +kernel
theorem dX8_gatherFacts_162 : decode cX8_gatherFacts 162 = .ok (.iconst 1, 1) := by decide +kernel
theorem dX8_gatherFacts_163 : decode cX8_gatherFacts 163 = .ok (.invokevirtual 218, 3) := by decide +kernel
theorem dX8_gatherFacts_166 : decode cX8_gatherFacts 166 = .ok (.invokestatic 139, 3) := by decide +kernel
theorem dX8_gatherFacts_169 : decode cX8_gatherFacts 169 = .ok (.iastore, 1) := by decide +kernel
theorem dX8_gatherFacts_170 : decode cX8_gatherFacts 170 = .ok (.iinc 3 1, 3) := by decide +kernel
theorem dX8_gatherFacts_173 : decode cX8_gatherFacts 173 = .ok (.goto (-33), 3) := by decide +kernel
theorem dX8_gatherFacts_176 : decode cX8_gatherFacts 176 = .ok (.return_, 1) := by decide +kernel
def w_X8_gatherFacts_176  (h : AH) (Q : AH → Prop) : Prop :=
  Q h
def w_X8_gatherFacts_140  (x176 : AH → Prop) (k : Int32 → AH → Prop) (v0 : Nat) (v3 : Int32) (h : AH) (Q : AH → Prop) : Prop :=
  br ((16 : Int32) ≤ v3) (
    x176  h) (
    fN h v0 8 8 fun a1 =>
    fN h v0 8 8 fun a2 =>
    aI h a2 (7 : Int32) fun x3 =>
    vr h v0 8 (
    w_X8_longestPiece v0 (0 : Int32) v3 (1 : Int32) h (fun x4 h =>
    tI h a1 (7 : Int32) (jmax x3 x4) fun h =>
    k (v3 + 1) h)))
def w_X8_gatherFacts_126  (v0 : Nat) (h : AH) (Q : AH → Prop) : Prop :=
  fN h v0 8 8 fun a1 =>
  vr h v0 8 (
  w_X8_heapCount v0 (4 : Int32) h (fun x2 h =>
  tI h a1 (6 : Int32) x2 fun h =>
  lp (fun (k2 : Int32 × AH → Prop) (s2 : Int32 × AH) => w_X8_gatherFacts_140  (fun  h => w_X8_gatherFacts_176  h Q) (fun (y3 : Int32) h => k2 (y3, h)) v0 s2.1 s2.2 Q) ((0 : Int32), h)))
def w_X8_gatherFacts_118  (x126 : AH → Prop) (k : Int32 → AH → Prop) (v0 : Nat) (v3 : Int32) (t0 : Nat) (t1 : Int32) (t2 : Int32) (t3 : Int32) (h : AH) (Q : AH → Prop) : Prop :=
  tI h t0 t1 (t2 + t3) fun h =>
  k (v3 + 1) h
def w_X8_gatherFacts_84  (x126 : AH → Prop) (k : Int32 → AH → Prop) (v0 : Nat) (v3 : Int32) (h : AH) (Q : AH → Prop) : Prop :=
  fN h v0 8 0 fun a1 =>
  fN h a1 7 4 fun a2 =>
  fI h a2 9 5 fun x3 =>
  br (x3 ≤ v3) (
    x126  h) (
    fN h v0 8 8 fun a4 =>
    aI h a4 (5 : Int32) fun x5 =>
    vr h v0 8 (
    w_X8_isBorneOut v0 v3 h (fun x6 h =>
    br (x6 = 0) (
      w_X8_gatherFacts_118 x126 k v0 v3 a4 (5 : Int32) x5 (0 : Int32) h Q) (
      w_X8_gatherFacts_118 x126 k v0 v3 a4 (5 : Int32) x5 (1 : Int32) h Q))))
def w_X8_gatherFacts_65  (v0 : Nat) (h : AH) (Q : AH → Prop) : Prop :=
  fN h v0 8 8 fun a1 =>
  vr h v0 8 (
  w_X8_fewestGuns v0 (0 : Int32) (255 : Int32) h (fun x2 h =>
  w_J6_bitCount_0f7a4 x2 h (fun x3 h =>
  tI h a1 (4 : Int32) x3 fun h =>
  lp (fun (k2 : Int32 × AH → Prop) (s2 : Int32 × AH) => w_X8_gatherFacts_84  (fun  h => w_X8_gatherFacts_126 v0 h Q) (fun (y3 : Int32) h => k2 (y3, h)) v0 s2.1 s2.2 Q) ((0 : Int32), h))))
def w_X8_gatherFacts_59  (x65 : AH → Prop) (k : Int32 → AH → Prop) (v0 : Nat) (v1 : Nat) (v2 : Int32) (v3 : Int32) (h : AH) (Q : AH → Prop) : Prop :=
  k (v3 + 1) h
def w_X8_gatherFacts_27  (x65 : AH → Prop) (k : Int32 → AH → Prop) (v0 : Nat) (v1 : Nat) (v2 : Int32) (v3 : Int32) (h : AH) (Q : AH → Prop) : Prop :=
  fI h v1 1 0 fun x1 =>
  br (x1 ≤ v3) (
    x65  h) (
    vr h v1 1 (
    w_X1_isSeen v1 v3 v2 h (fun x2 h =>
    br (x2 = 0) (
      w_X8_gatherFacts_59 x65 k v0 v1 v2 v3 h Q) (
      fN h v0 8 8 fun a3 =>
      fN h v1 1 1 fun a4 =>
      aI h a4 v3 fun x5 =>
      aI h a3 x5 fun x6 =>
      tI h a3 x5 (x6 + (1 : Int32)) fun h =>
      w_X8_gatherFacts_59 x65 k v0 v1 v2 v3 h Q))))
def w_X8_gatherFacts  (v0 : Nat) (h : AH) (Q : AH → Prop) : Prop :=
  vr h v0 8 (
  w_X8_refresh v0 h (fun h =>
  fN h v0 8 0 fun a1 =>
  fN h a1 7 3 fun a2 =>
  vr h a2 1 (
  w_X1_nearRows a2 h (fun x3 h =>
  fN h v0 8 8 fun a4 =>
  w_J7_fill_53178 a4 (0 : Int32) h (fun h =>
  lp (fun (k2 : Int32 × AH → Prop) (s2 : Int32 × AH) => w_X8_gatherFacts_27  (fun  h => w_X8_gatherFacts_65 v0 h Q) (fun (y3 : Int32) h => k2 (y3, h)) v0 a2 x3 s2.1 s2.2 Q) ((0 : Int32), h))))))
set_option maxRecDepth 100000 in
set_option maxHeartbeats 4000000 in
theorem s_X8_gatherFacts_176 {p : Program} {l : Launch} {e : Env} {s : State} {m : MethodId} {args : Array Value} {below : List Frame} {meth : Method} {c : Code} {g : GG}  {Q : AH → Prop}  (C : CXT p l s m args meth c RX8 cX8_gatherFacts 4 g) (hr : meth.sig.returnType = none)  : ∀  (h : AH), w_X8_gatherFacts_176  h Q → V p l e s m args below meth c g 5 0 0 4 0 0 (MQ below (QCx g (QV Q)) args s 0 0 (gA g)) 176 [] [] h := by
  intro  h hw
  exact (rt_MQ C _).2.2.1 _ _ _ _ _ hr dX8_gatherFacts_176 (by decide) (by decide) ⟨rfl, hw⟩
set_option maxRecDepth 100000 in
set_option maxHeartbeats 4000000 in
theorem s_X8_gatherFacts_140 {p : Program} {l : Launch} {e : Env} {s : State} {m : MethodId} {args : Array Value} {below : List Frame} {meth : Method} {c : Code} {g : GG} {v0 : Nat} {Q : AH → Prop} {x176 : AH → Prop} {k : Int32 → AH → Prop} (C : CXT p l s m args meth c RX8 cX8_gatherFacts 4 g) (hr : meth.sig.returnType = none) (hx176 : ∀  (h : AH), x176  h → V p l e s m args below meth c g 5 0 0 4 0 0 (MQ below (QCx g (QV Q)) args s 0 0 (gA g)) 176 [] [] h) (hk : ∀ (y3 : Int32) (h : AH), k y3 h → V p l e s m args below meth c g 5 0 0 4 0 0 (MQ below (QCx g (QV Q)) args s 0 0 (gA g)) 140 [(0, .ref v0), (3, .int y3)] [] h) : ∀ (v3 : Int32) (h : AH), w_X8_gatherFacts_140  x176 k v0 v3 h Q → V p l e s m args below meth c g 5 0 0 4 0 0 (MQ below (QCx g (QV Q)) args s 0 0 (gA g)) 140 [(0, .ref v0), (3, .int v3)] [] h := by
  intro v3 h hw
  refine v_iload_n C dX8_gatherFacts_140 1 rfl rfl ?_
  refine v_bipush (v := 16) C dX8_gatherFacts_141 (by decide) ?_
  refine v_icmp_ge (tgt := 176) C dX8_gatherFacts_143 (by decide) (fun c_143 => ?_) (fun c_143 => ?_)
  · have hw := hw.1 c_143
    refine v_sub [] rfl ?_
    exact hx176  _ hw
  · have hw := hw.2 c_143
    refine v_aload_n C dX8_gatherFacts_146 0 rfl rfl ?_
    refine w_getN C fl_X8_30 dX8_gatherFacts_147 rfl hw (fun a1 hw => ?_)
    refine v_bipush (v := 7) C dX8_gatherFacts_150 (by decide) ?_
    refine v_aload_n C dX8_gatherFacts_152 0 rfl rfl ?_
    refine w_getN C fl_X8_30 dX8_gatherFacts_153 rfl hw (fun a2 hw => ?_)
    refine v_bipush (v := 7) C dX8_gatherFacts_156 (by decide) ?_
    refine w_iaload C dX8_gatherFacts_158 hw (fun x3 hw => ?_)
    refine v_aload_n C dX8_gatherFacts_159 0 rfl rfl ?_
    refine v_iconst (v := 0) C dX8_gatherFacts_160 (by decide) ?_
    refine v_iload_n C dX8_gatherFacts_161 1 rfl rfl ?_
    refine v_iconst (v := 1) C dX8_gatherFacts_162 (by decide) ?_
    refine w_callVi (st := [.int x3, .int (7 : Int32), .ref a1]) C cl_X8_218 im_X8_longestPiece se_X8_longestPiece rfl hw.1 (s_X8_longestPiece hw.2) rfl dX8_gatherFacts_163 rfl (Nat.le_of_ble_eq_true rfl) (by decide) (by decide) (by decide) (by decide) (fun x4 h hw => ?_)
    refine v_max C ml_X8_139 ms_max mi_math mc_max dX8_gatherFacts_166 (by decide) (Nat.le_of_ble_eq_true rfl) (by decide) (by decide) ?_
    refine w_iastore C dX8_gatherFacts_169 hw (fun h hw => ?_)
    refine v_iinc (v := 1) (ls' := [(3, .int (v3 + 1)), (0, .ref v0)]) C dX8_gatherFacts_170 1 rfl (by decide) (by decide) rfl ?_
    refine v_goto (tgt := 140) C dX8_gatherFacts_173 (by decide) ?_
    refine v_sub [1, 0] rfl ?_
    exact hk _ _ hw
set_option maxRecDepth 100000 in
set_option maxHeartbeats 4000000 in
theorem s_X8_gatherFacts_126 {p : Program} {l : Launch} {e : Env} {s : State} {m : MethodId} {args : Array Value} {below : List Frame} {meth : Method} {c : Code} {g : GG}  {Q : AH → Prop}  (C : CXT p l s m args meth c RX8 cX8_gatherFacts 4 g) (hr : meth.sig.returnType = none)  : ∀ (v0 : Nat) (h : AH), w_X8_gatherFacts_126  v0 h Q → V p l e s m args below meth c g 5 0 0 4 0 0 (MQ below (QCx g (QV Q)) args s 0 0 (gA g)) 126 [(0, .ref v0)] [] h := by
  intro v0 h hw
  refine v_aload_n C dX8_gatherFacts_126 0 rfl rfl ?_
  refine w_getN C fl_X8_30 dX8_gatherFacts_127 rfl hw (fun a1 hw => ?_)
  refine v_bipush (v := 6) C dX8_gatherFacts_130 (by decide) ?_
  refine v_aload_n C dX8_gatherFacts_132 0 rfl rfl ?_
  refine v_iconst (v := 4) C dX8_gatherFacts_133 (by decide) ?_
  refine w_callVi (st := [.int (6 : Int32), .ref a1]) C cl_X8_215 im_X8_heapCount se_X8_heapCount rfl hw.1 (s_X8_heapCount hw.2) rfl dX8_gatherFacts_134 rfl (Nat.le_of_ble_eq_true rfl) (by decide) (by decide) (by decide) (by decide) (fun x2 h hw => ?_)
  refine w_iastore C dX8_gatherFacts_137 hw (fun h hw => ?_)
  refine v_iconst (v := 0) C dX8_gatherFacts_138 (by decide) ?_
  refine v_istore_n (ls' := [(3, .int (0 : Int32)), (0, .ref v0)]) C dX8_gatherFacts_139 rfl (by decide) rfl ?_
  refine v_sub [1, 0] rfl ?_
  refine lp_walk (P := fun (s' : Int32 × AH) => V p l e s m args below meth c g 5 0 0 4 0 0 (MQ below (QCx g (QV Q)) args s 0 0 (gA g)) 140 [(0, .ref v0), (3, .int (s'.1))] [] s'.2) (fun k2 hk2 s' hw => ?_) ((0 : Int32), h) hw
  exact s_X8_gatherFacts_140 C hr (fun  h hw => s_X8_gatherFacts_176 C hr   h hw) (fun y3 h hw => hk2 (y3, h) hw) _ _ hw
set_option maxRecDepth 100000 in
set_option maxHeartbeats 4000000 in
theorem s_X8_gatherFacts_118 {p : Program} {l : Launch} {e : Env} {s : State} {m : MethodId} {args : Array Value} {below : List Frame} {meth : Method} {c : Code} {g : GG} {v0 : Nat} {Q : AH → Prop} {x126 : AH → Prop} {k : Int32 → AH → Prop} (C : CXT p l s m args meth c RX8 cX8_gatherFacts 4 g) (hr : meth.sig.returnType = none) (hx126 : ∀  (h : AH), x126  h → V p l e s m args below meth c g 5 0 0 4 0 0 (MQ below (QCx g (QV Q)) args s 0 0 (gA g)) 126 [(0, .ref v0)] [] h) (hk : ∀ (y3 : Int32) (h : AH), k y3 h → V p l e s m args below meth c g 5 0 0 4 0 0 (MQ below (QCx g (QV Q)) args s 0 0 (gA g)) 84 [(0, .ref v0), (3, .int y3)] [] h) : ∀ (v3 : Int32) (t0 : Nat) (t1 : Int32) (t2 : Int32) (t3 : Int32) (h : AH), w_X8_gatherFacts_118  x126 k v0 v3 t0 t1 t2 t3 h Q → V p l e s m args below meth c g 5 0 0 4 0 0 (MQ below (QCx g (QV Q)) args s 0 0 (gA g)) 118 [(0, .ref v0), (3, .int v3)] [.int t3, .int t2, .int t1, .ref t0] h := by
  intro v3 t0 t1 t2 t3 h hw
  refine v_iadd C dX8_gatherFacts_118 ?_
  refine w_iastore C dX8_gatherFacts_119 hw (fun h hw => ?_)
  refine v_iinc (v := 1) (ls' := [(3, .int (v3 + 1)), (0, .ref v0)]) C dX8_gatherFacts_120 1 rfl (by decide) (by decide) rfl ?_
  refine v_goto (tgt := 84) C dX8_gatherFacts_123 (by decide) ?_
  refine v_sub [1, 0] rfl ?_
  exact hk _ _ hw
set_option maxRecDepth 100000 in
set_option maxHeartbeats 4000000 in
theorem s_X8_gatherFacts_84 {p : Program} {l : Launch} {e : Env} {s : State} {m : MethodId} {args : Array Value} {below : List Frame} {meth : Method} {c : Code} {g : GG} {v0 : Nat} {Q : AH → Prop} {x126 : AH → Prop} {k : Int32 → AH → Prop} (C : CXT p l s m args meth c RX8 cX8_gatherFacts 4 g) (hr : meth.sig.returnType = none) (hx126 : ∀  (h : AH), x126  h → V p l e s m args below meth c g 5 0 0 4 0 0 (MQ below (QCx g (QV Q)) args s 0 0 (gA g)) 126 [(0, .ref v0)] [] h) (hk : ∀ (y3 : Int32) (h : AH), k y3 h → V p l e s m args below meth c g 5 0 0 4 0 0 (MQ below (QCx g (QV Q)) args s 0 0 (gA g)) 84 [(0, .ref v0), (3, .int y3)] [] h) : ∀ (v3 : Int32) (h : AH), w_X8_gatherFacts_84  x126 k v0 v3 h Q → V p l e s m args below meth c g 5 0 0 4 0 0 (MQ below (QCx g (QV Q)) args s 0 0 (gA g)) 84 [(0, .ref v0), (3, .int v3)] [] h := by
  intro v3 h hw
  refine v_iload_n C dX8_gatherFacts_84 1 rfl rfl ?_
  refine v_aload_n C dX8_gatherFacts_85 0 rfl rfl ?_
  refine w_getN C fl_X8_33 dX8_gatherFacts_86 rfl hw (fun a1 hw => ?_)
  refine w_getN C fl_X8_166 dX8_gatherFacts_89 rfl hw (fun a2 hw => ?_)
  refine w_getI C fl_X8_182 dX8_gatherFacts_92 rfl hw (fun x3 hw => ?_)
  refine v_icmp_ge (tgt := 126) C dX8_gatherFacts_95 (by decide) (fun c_95 => ?_) (fun c_95 => ?_)
  · have hw := hw.1 c_95
    refine v_sub [0] rfl ?_
    exact hx126  _ hw
  · have hw := hw.2 c_95
    refine v_aload_n C dX8_gatherFacts_98 0 rfl rfl ?_
    refine w_getN C fl_X8_30 dX8_gatherFacts_99 rfl hw (fun a4 hw => ?_)
    refine v_iconst (v := 5) C dX8_gatherFacts_102 (by decide) ?_
    refine v_dup2 C dX8_gatherFacts_103 rfl rfl ?_
    refine w_iaload C dX8_gatherFacts_104 hw (fun x5 hw => ?_)
    refine v_aload_n C dX8_gatherFacts_105 0 rfl rfl ?_
    refine v_iload_n C dX8_gatherFacts_106 1 rfl rfl ?_
    refine w_callVi (st := [.int x5, .int (5 : Int32), .ref a4]) C cl_X8_185 im_X8_isBorneOut se_X8_isBorneOut rfl hw.1 (s_X8_isBorneOut hw.2) rfl dX8_gatherFacts_107 rfl (Nat.le_of_ble_eq_true rfl) (by decide) (by decide) (by decide) (by decide) (fun x6 h hw => ?_)
    refine v_if_eq (tgt := 117) C dX8_gatherFacts_110 (by decide) (fun c_110 => ?_) (fun c_110 => ?_)
    · have hw := hw.1 c_110
      refine v_iconst (v := 0) C dX8_gatherFacts_117 (by decide) ?_
      exact s_X8_gatherFacts_118 C hr hx126 hk _ _ _ _ _ _ hw
    · have hw := hw.2 c_110
      refine v_iconst (v := 1) C dX8_gatherFacts_113 (by decide) ?_
      refine v_goto (tgt := 118) C dX8_gatherFacts_114 (by decide) ?_
      exact s_X8_gatherFacts_118 C hr hx126 hk _ _ _ _ _ _ hw
set_option maxRecDepth 100000 in
set_option maxHeartbeats 4000000 in
theorem s_X8_gatherFacts_65 {p : Program} {l : Launch} {e : Env} {s : State} {m : MethodId} {args : Array Value} {below : List Frame} {meth : Method} {c : Code} {g : GG}  {Q : AH → Prop}  (C : CXT p l s m args meth c RX8 cX8_gatherFacts 4 g) (hr : meth.sig.returnType = none)  : ∀ (v0 : Nat) (h : AH), w_X8_gatherFacts_65  v0 h Q → V p l e s m args below meth c g 5 0 0 4 0 0 (MQ below (QCx g (QV Q)) args s 0 0 (gA g)) 65 [(0, .ref v0)] [] h := by
  intro v0 h hw
  refine v_aload_n C dX8_gatherFacts_65 0 rfl rfl ?_
  refine w_getN C fl_X8_30 dX8_gatherFacts_66 rfl hw (fun a1 hw => ?_)
  refine v_iconst (v := 4) C dX8_gatherFacts_69 (by decide) ?_
  refine v_aload_n C dX8_gatherFacts_70 0 rfl rfl ?_
  refine v_iconst (v := 0) C dX8_gatherFacts_71 (by decide) ?_
  refine v_sipush (v := 255) C dX8_gatherFacts_72 (by decide) ?_
  refine w_callVi (st := [.int (4 : Int32), .ref a1]) C cl_X8_212 im_X8_fewestGuns se_X8_fewestGuns rfl hw.1 (s_X8_fewestGuns hw.2) rfl dX8_gatherFacts_75 rfl (Nat.le_of_ble_eq_true rfl) (by decide) (by decide) (by decide) (by decide) (fun x2 h hw => ?_)
  refine w_callSi (st := [.int (4 : Int32), .ref a1]) C cl_X8_68 st_J6_bitCount_0f7a4 (s_J6_bitCount_0f7a4 hw) rfl dX8_gatherFacts_78 rfl (Nat.le_of_ble_eq_true rfl) (by decide) (by decide) (by decide) (by decide) (fun x3 h hw => ?_)
  refine w_iastore C dX8_gatherFacts_81 hw (fun h hw => ?_)
  refine v_iconst (v := 0) C dX8_gatherFacts_82 (by decide) ?_
  refine v_istore_n (ls' := [(3, .int (0 : Int32)), (0, .ref v0)]) C dX8_gatherFacts_83 rfl (by decide) rfl ?_
  refine v_sub [1, 0] rfl ?_
  refine lp_walk (P := fun (s' : Int32 × AH) => V p l e s m args below meth c g 5 0 0 4 0 0 (MQ below (QCx g (QV Q)) args s 0 0 (gA g)) 84 [(0, .ref v0), (3, .int (s'.1))] [] s'.2) (fun k2 hk2 s' hw => ?_) ((0 : Int32), h) hw
  exact s_X8_gatherFacts_84 C hr (fun  h hw => s_X8_gatherFacts_126 C hr  _ h hw) (fun y3 h hw => hk2 (y3, h) hw) _ _ hw
set_option maxRecDepth 100000 in
set_option maxHeartbeats 4000000 in
theorem s_X8_gatherFacts_59 {p : Program} {l : Launch} {e : Env} {s : State} {m : MethodId} {args : Array Value} {below : List Frame} {meth : Method} {c : Code} {g : GG} {v0 : Nat} {v1 : Nat} {v2 : Int32} {Q : AH → Prop} {x65 : AH → Prop} {k : Int32 → AH → Prop} (C : CXT p l s m args meth c RX8 cX8_gatherFacts 4 g) (hr : meth.sig.returnType = none) (hx65 : ∀  (h : AH), x65  h → V p l e s m args below meth c g 5 0 0 4 0 0 (MQ below (QCx g (QV Q)) args s 0 0 (gA g)) 65 [(0, .ref v0)] [] h) (hk : ∀ (y3 : Int32) (h : AH), k y3 h → V p l e s m args below meth c g 5 0 0 4 0 0 (MQ below (QCx g (QV Q)) args s 0 0 (gA g)) 27 [(0, .ref v0), (1, .ref v1), (2, .int v2), (3, .int y3)] [] h) : ∀ (v3 : Int32) (h : AH), w_X8_gatherFacts_59  x65 k v0 v1 v2 v3 h Q → V p l e s m args below meth c g 5 0 0 4 0 0 (MQ below (QCx g (QV Q)) args s 0 0 (gA g)) 59 [(0, .ref v0), (1, .ref v1), (2, .int v2), (3, .int v3)] [] h := by
  intro v3 h hw
  refine v_iinc (v := 1) (ls' := [(3, .int (v3 + 1)), (0, .ref v0), (1, .ref v1), (2, .int v2)]) C dX8_gatherFacts_59 3 rfl (by decide) (by decide) rfl ?_
  refine v_goto (tgt := 27) C dX8_gatherFacts_62 (by decide) ?_
  refine v_sub [1, 2, 3, 0] rfl ?_
  exact hk _ _ hw
set_option maxRecDepth 100000 in
set_option maxHeartbeats 4000000 in
theorem s_X8_gatherFacts_27 {p : Program} {l : Launch} {e : Env} {s : State} {m : MethodId} {args : Array Value} {below : List Frame} {meth : Method} {c : Code} {g : GG} {v0 : Nat} {v1 : Nat} {v2 : Int32} {Q : AH → Prop} {x65 : AH → Prop} {k : Int32 → AH → Prop} (C : CXT p l s m args meth c RX8 cX8_gatherFacts 4 g) (hr : meth.sig.returnType = none) (hx65 : ∀  (h : AH), x65  h → V p l e s m args below meth c g 5 0 0 4 0 0 (MQ below (QCx g (QV Q)) args s 0 0 (gA g)) 65 [(0, .ref v0)] [] h) (hk : ∀ (y3 : Int32) (h : AH), k y3 h → V p l e s m args below meth c g 5 0 0 4 0 0 (MQ below (QCx g (QV Q)) args s 0 0 (gA g)) 27 [(0, .ref v0), (1, .ref v1), (2, .int v2), (3, .int y3)] [] h) : ∀ (v3 : Int32) (h : AH), w_X8_gatherFacts_27  x65 k v0 v1 v2 v3 h Q → V p l e s m args below meth c g 5 0 0 4 0 0 (MQ below (QCx g (QV Q)) args s 0 0 (gA g)) 27 [(0, .ref v0), (1, .ref v1), (2, .int v2), (3, .int v3)] [] h := by
  intro v3 h hw
  refine v_iload_n C dX8_gatherFacts_27 3 rfl rfl ?_
  refine v_aload_n C dX8_gatherFacts_28 1 rfl rfl ?_
  refine w_getI C fl_X8_49 dX8_gatherFacts_29 rfl hw (fun x1 hw => ?_)
  refine v_icmp_ge (tgt := 65) C dX8_gatherFacts_32 (by decide) (fun c_32 => ?_) (fun c_32 => ?_)
  · have hw := hw.1 c_32
    refine v_sub [0] rfl ?_
    exact hx65  _ hw
  · have hw := hw.2 c_32
    refine v_aload_n C dX8_gatherFacts_35 1 rfl rfl ?_
    refine v_iload_n C dX8_gatherFacts_36 3 rfl rfl ?_
    refine v_iload_n C dX8_gatherFacts_37 2 rfl rfl ?_
    refine w_callVi (st := []) C cl_X8_56 im_X1_isSeen se_X1_isSeen rfl hw.1 (s_X1_isSeen hw.2) rfl dX8_gatherFacts_38 rfl (by decide) (by decide) (by decide) (by decide) (by decide) (fun x2 h hw => ?_)
    refine v_if_eq (tgt := 59) C dX8_gatherFacts_41 (by decide) (fun c_41 => ?_) (fun c_41 => ?_)
    · have hw := hw.1 c_41
      exact s_X8_gatherFacts_59 C hr hx65 hk _ _ hw
    · have hw := hw.2 c_41
      refine v_aload_n C dX8_gatherFacts_44 0 rfl rfl ?_
      refine w_getN C fl_X8_30 dX8_gatherFacts_45 rfl hw (fun a3 hw => ?_)
      refine v_aload_n C dX8_gatherFacts_48 1 rfl rfl ?_
      refine w_getN C fl_X8_53 dX8_gatherFacts_49 rfl hw (fun a4 hw => ?_)
      refine v_iload_n C dX8_gatherFacts_52 3 rfl rfl ?_
      refine w_iaload C dX8_gatherFacts_53 hw (fun x5 hw => ?_)
      refine v_dup2 C dX8_gatherFacts_54 rfl rfl ?_
      refine w_iaload C dX8_gatherFacts_55 hw (fun x6 hw => ?_)
      refine v_iconst (v := 1) C dX8_gatherFacts_56 (by decide) ?_
      refine v_iadd C dX8_gatherFacts_57 ?_
      refine w_iastore C dX8_gatherFacts_58 hw (fun h hw => ?_)
      exact s_X8_gatherFacts_59 C hr hx65 hk _ _ hw
set_option maxRecDepth 100000 in
set_option maxHeartbeats 4000000 in
theorem s_X8_gatherFacts {l : Launch}  {v0 : Nat} {h : AH} {Q : AH → Prop}  (hw : w_X8_gatherFacts  v0 h Q) : CT l yX8_gatherFacts cX8_gatherFacts 4 none 5 0 0 [.ref v0] h (QV Q) := by
  refine CT.of (by decide) ⟨rfl, trivial⟩ (Nat.le_of_ble_eq_true rfl) ?_
  intro p e s m args below meth c g C hr hin
  refine v_eq (pc' := 0) (ls' := [(0, .ref v0)]) rfl rfl rfl rfl ?_
  refine v_aload_n C dX8_gatherFacts_0 0 rfl rfl ?_
  refine w_callVv (st := []) C cl_X8_209 im_X8_refresh se_X8_refresh rfl hw.1 (s_X8_refresh hw.2) rfl dX8_gatherFacts_1 rfl (by decide) (by decide) (by decide) (by decide) (by decide) (fun h hw => ?_)
  refine v_aload_n C dX8_gatherFacts_4 0 rfl rfl ?_
  refine w_getN C fl_X8_33 dX8_gatherFacts_5 rfl hw (fun a1 hw => ?_)
  refine w_getN C fl_X8_37 dX8_gatherFacts_8 rfl hw (fun a2 hw => ?_)
  refine v_astore_n (ls' := [(1, .ref a2), (0, .ref v0)]) C dX8_gatherFacts_11 rfl (by decide) rfl ?_
  refine v_aload_n C dX8_gatherFacts_12 0 rfl rfl ?_
  refine w_callVi (st := []) C cl_X8_43 im_X1_nearRows se_X1_nearRows rfl hw.1 (s_X1_nearRows hw.2) rfl dX8_gatherFacts_13 rfl (by decide) (by decide) (by decide) (by decide) (by decide) (fun x3 h hw => ?_)
  refine v_istore_n (ls' := [(2, .int x3), (1, .ref a2), (0, .ref v0)]) C dX8_gatherFacts_16 rfl (by decide) rfl ?_
  refine v_aload_n C dX8_gatherFacts_17 2 rfl rfl ?_
  refine w_getN C fl_X8_30 dX8_gatherFacts_18 rfl hw (fun a4 hw => ?_)
  refine v_iconst (v := 0) C dX8_gatherFacts_21 (by decide) ?_
  refine w_callSv (st := []) C cl_X8_150 st_J7_fill_53178 (s_J7_fill_53178 hw) rfl dX8_gatherFacts_22 rfl (by decide) (by decide) (by decide) (by decide) (by decide) (fun h hw => ?_)
  refine v_iconst (v := 0) C dX8_gatherFacts_25 (by decide) ?_
  refine v_istore_n (ls' := [(3, .int (0 : Int32)), (2, .int x3), (1, .ref a2), (0, .ref v0)]) C dX8_gatherFacts_26 rfl (by decide) rfl ?_
  refine v_sub [3, 2, 1, 0] rfl ?_
  refine lp_walk (P := fun (s' : Int32 × AH) => V p l e s m args below meth c g 5 0 0 4 0 0 (MQ below (QCx g (QV Q)) args s 0 0 (gA g)) 27 [(0, .ref v0), (1, .ref a2), (2, .int x3), (3, .int (s'.1))] [] s'.2) (fun k2 hk2 s' hw => ?_) ((0 : Int32), h) hw
  exact s_X8_gatherFacts_27 C hr (fun  h hw => s_X8_gatherFacts_65 C hr  _ h hw) (fun y3 h hw => hk2 (y3, h) hw) _ _ hw
-- GrassField$Study.gunsIn(IIZ)I
theorem dX8_gunsIn_0 : decode cX8_gunsIn 0 = .ok (.iconst 0, 1) := by decide +kernel
theorem dX8_gunsIn_1 : decode cX8_gunsIn 1 = .ok (.istore 4, 2) := by decide +kernel
theorem dX8_gunsIn_3 : decode cX8_gunsIn 3 = .ok (.iconst 0, 1) := by decide +kernel
theorem dX8_gunsIn_4 : decode cX8_gunsIn 4 = .ok (.istore 5, 2) := by decide +kernel
theorem dX8_gunsIn_6 : decode cX8_gunsIn 6 = .ok (.iload 5, 2) := by decide +kernel
theorem dX8_gunsIn_8 : decode cX8_gunsIn 8 = .ok (.aload_n 0, 1) := by decide +kernel
theorem dX8_gunsIn_9 : decode cX8_gunsIn 9 = .ok (.getfield 33, 3) := by decide +kernel
theorem dX8_gunsIn_12 : decode cX8_gunsIn 12 = .ok (.getfield 37, 3) := by decide +kernel
theorem dX8_gunsIn_15 : decode cX8_gunsIn 15 = .ok (.getfield 49, 3) := by decide +kernel
theorem dX8_gunsIn_18 : decode cX8_gunsIn 18 = .ok (.if_icmp .ge 68, 3) := by decide +kernel
theorem dX8_gunsIn_21 : decode cX8_gunsIn 21 = .ok (.iload_n 3, 1) := by decide +kernel
theorem dX8_gunsIn_22 : decode cX8_gunsIn 22 = .ok (.ifCond .eq 12, 3) := by decide +kernel
theorem dX8_gunsIn_25 : decode cX8_gunsIn 25 = .ok (.aload_n 0, 1) := by decide +kernel
theorem dX8_gunsIn_26 : decode cX8_gunsIn 26 = .ok (.iload 5, 2) := by decide +kernel
theorem dX8_gunsIn_28 : decode cX8_gunsIn 28 = .ok (.invokevirtual 64, 3) := by decide +kernel
theorem dX8_gunsIn_31 : decode cX8_gunsIn 31 = .ok (.goto 9, 3) := by decide +kernel
theorem dX8_gunsIn_34 : decode cX8_gunsIn 34 = .ok (.aload_n 0, 1) := by decide +kernel
theorem dX8_gunsIn_35 : decode cX8_gunsIn 35 = .ok (.iload 5, 2) := by decide +kernel
theorem dX8_gunsIn_37 : decode cX8_gunsIn 37 = .ok (.invokevirtual 96, 3) := by decide +kernel
theorem dX8_gunsIn_40 : decode cX8_gunsIn 40 = .ok (.istore 6, 2) := by decide +kernel
theorem dX8_gunsIn_42 : decode cX8_gunsIn 42 = .ok (.iload 6, 2) := by decide +kernel
theorem dX8_gunsIn_44 : decode cX8_gunsIn 44 = .ok (.ifCond .eq 36, 3) := by decide +kernel
theorem dX8_gunsIn_47 : decode cX8_gunsIn 47 = .ok (.aload_n 0, 1) := by decide +kernel
theorem dX8_gunsIn_48 : decode cX8_gunsIn 48 = .ok (.getfield 33, 3) := by decide +kernel
theorem dX8_gunsIn_51 : decode cX8_gunsIn 51 = .ok (.getfield 37, 3) := by decide +kernel
theorem dX8_gunsIn_54 : decode cX8_gunsIn 54 = .ok (.getfield 87, 3) := by decide +kernel
theorem dX8_gunsIn_57 : decode cX8_gunsIn 57 = .ok (.iload 5, 2) := by decide +kernel
theorem dX8_gunsIn_59 : decode cX8_gunsIn 59 = .ok (.iaload, 1) := by decide +kernel
theorem dX8_gunsIn_60 : decode cX8_gunsIn 60 = .ok (.iload_n 1, 1) := by decide +kernel
theorem dX8_gunsIn_61 : decode cX8_gunsIn 61 = .ok (.iload_n 2, 1) := by decide +kernel
theorem dX8_gunsIn_62 : decode cX8_gunsIn 62 = .ok (.invokestatic 90, 3) := by decide +kernel
theorem dX8_gunsIn_65 : decode cX8_gunsIn 65 = .ok (.ifCond .eq 15, 3) := by decide +kernel
theorem dX8_gunsIn_68 : decode cX8_gunsIn 68 = .ok (.iload 4, 2) := by decide +kernel
theorem dX8_gunsIn_70 : decode cX8_gunsIn 70 = .ok (.aload_n 0, 1) := by decide +kernel
theorem dX8_gunsIn_71 : decode cX8_gunsIn 71 = .ok (.getfield 9, 3) := by decide +kernel
theorem dX8_gunsIn_74 : decode cX8_gunsIn 74 = .ok (.iload 5, 2) := by decide +kernel
theorem dX8_gunsIn_76 : decode cX8_gunsIn 76 = .ok (.iaload, 1) := by decide +kernel
theorem dX8_gunsIn_77 : decode cX8_gunsIn 77 = .ok (.ior, 1) := by decide +kernel
theorem dX8_gunsIn_78 : decode cX8_gunsIn 78 = .ok (.istore 4, 2) := by decide +kernel
theorem dX8_gunsIn_80 : decode cX8_gunsIn 80 = .ok (.iinc 5 1, 3) := by decide +kernel
theorem dX8_gunsIn_83 : decode cX8_gunsIn 83 = .ok (.goto (-77), 3) := by decide +kernel
theorem dX8_gunsIn_86 : decode cX8_gunsIn 86 = .ok (.iload 4, 2) := by decide +kernel
theorem dX8_gunsIn_88 : decode cX8_gunsIn 88 = .ok (.ireturn, 1) := by decide +kernel
def w_X8_gunsIn_86  (v4 : Int32) (h : AH) (Q : Int32 → AH → Prop) : Prop :=
  Q v4 h
def w_X8_gunsIn_80  (x86 : Int32 → AH → Prop) (k : Int32 → Int32 → AH → Prop) (v0 : Nat) (v1 : Int32) (v2 : Int32) (v3 : Int32) (v4 : Int32) (v5 : Int32) (h : AH) (Q : Int32 → AH → Prop) : Prop :=
  k v4 (v5 + 1) h
def w_X8_gunsIn_40  (x86 : Int32 → AH → Prop) (k : Int32 → Int32 → AH → Prop) (v0 : Nat) (v1 : Int32) (v2 : Int32) (v3 : Int32) (v4 : Int32) (v5 : Int32) (t0 : Int32) (h : AH) (Q : Int32 → AH → Prop) : Prop :=
  br (t0 = 0) (
    w_X8_gunsIn_80 x86 k v0 v1 v2 v3 v4 v5 h Q) (
    fN h v0 8 0 fun a1 =>
    fN h a1 7 3 fun a2 =>
    fN h a2 1 2 fun a3 =>
    aI h a3 v5 fun x4 =>
    w_X3_isInArea x4 v1 v2 h (fun x5 h =>
    br (x5 = 0) (
      w_X8_gunsIn_80 x86 k v0 v1 v2 v3 v4 v5 h Q) (
      fN h v0 8 1 fun a6 =>
      aI h a6 v5 fun x7 =>
      bd (v4 ||| x7) fun x8 =>
      w_X8_gunsIn_80 x86 k v0 v1 v2 v3 x8 v5 h Q)))
def w_X8_gunsIn_6  (x86 : Int32 → AH → Prop) (k : Int32 → Int32 → AH → Prop) (v0 : Nat) (v1 : Int32) (v2 : Int32) (v3 : Int32) (v4 : Int32) (v5 : Int32) (h : AH) (Q : Int32 → AH → Prop) : Prop :=
  fN h v0 8 0 fun a1 =>
  fN h a1 7 3 fun a2 =>
  fI h a2 1 0 fun x3 =>
  br (x3 ≤ v5) (
    x86 v4 h) (
    br (v3 = 0) (
      vr h v0 8 (
      w_X8_isSure v0 v5 h (fun x4 h =>
      w_X8_gunsIn_40 x86 k v0 v1 v2 v3 v4 v5 x4 h Q))) (
      vr h v0 8 (
      w_X8_isCase v0 v5 h (fun x5 h =>
      w_X8_gunsIn_40 x86 k v0 v1 v2 v3 v4 v5 x5 h Q))))
def w_X8_gunsIn  (v0 : Nat) (v1 : Int32) (v2 : Int32) (v3 : Int32) (h : AH) (Q : Int32 → AH → Prop) : Prop :=
  lp (fun (k2 : Int32 × Int32 × AH → Prop) (s2 : Int32 × Int32 × AH) => w_X8_gunsIn_6  (fun (y4 : Int32) h => w_X8_gunsIn_86 y4 h Q) (fun (y4 : Int32) (y5 : Int32) h => k2 (y4, y5, h)) v0 v1 v2 v3 s2.1 s2.2.1 s2.2.2 Q) ((0 : Int32), (0 : Int32), h)
set_option maxRecDepth 100000 in
set_option maxHeartbeats 4000000 in
theorem s_X8_gunsIn_86 {p : Program} {l : Launch} {e : Env} {s : State} {m : MethodId} {args : Array Value} {below : List Frame} {meth : Method} {c : Code} {g : GG}  {Q : Int32 → AH → Prop}  (C : CXT p l s m args meth c RX8 cX8_gunsIn 7 g) (hr : meth.sig.returnType = (some .int))  : ∀ (v4 : Int32) (h : AH), w_X8_gunsIn_86  v4 h Q → V p l e s m args below meth c g 3 0 0 7 0 0 (MQ below (QCx g (QI Q)) args s 0 0 (gA g)) 86 [(4, .int v4)] [] h := by
  intro v4 h hw
  refine v_iload C dX8_gunsIn_86 0 rfl ?_
  exact (rt_MQ C _).1 _ _ _ _ _ _ hr dX8_gunsIn_88 (by decide) (by decide) ⟨_, rfl, hw⟩
set_option maxRecDepth 100000 in
set_option maxHeartbeats 4000000 in
theorem s_X8_gunsIn_80 {p : Program} {l : Launch} {e : Env} {s : State} {m : MethodId} {args : Array Value} {below : List Frame} {meth : Method} {c : Code} {g : GG} {v0 : Nat} {v1 : Int32} {v2 : Int32} {v3 : Int32} {Q : Int32 → AH → Prop} {x86 : Int32 → AH → Prop} {k : Int32 → Int32 → AH → Prop} (C : CXT p l s m args meth c RX8 cX8_gunsIn 7 g) (hr : meth.sig.returnType = (some .int)) (hx86 : ∀ (y4 : Int32) (h : AH), x86 y4 h → V p l e s m args below meth c g 3 0 0 7 0 0 (MQ below (QCx g (QI Q)) args s 0 0 (gA g)) 86 [(4, .int y4)] [] h) (hk : ∀ (y4 : Int32) (y5 : Int32) (h : AH), k y4 y5 h → V p l e s m args below meth c g 3 0 0 7 0 0 (MQ below (QCx g (QI Q)) args s 0 0 (gA g)) 6 [(0, .ref v0), (1, .int v1), (2, .int v2), (3, .int v3), (4, .int y4), (5, .int y5)] [] h) : ∀ (v4 : Int32) (v5 : Int32) (h : AH), w_X8_gunsIn_80  x86 k v0 v1 v2 v3 v4 v5 h Q → V p l e s m args below meth c g 3 0 0 7 0 0 (MQ below (QCx g (QI Q)) args s 0 0 (gA g)) 80 [(0, .ref v0), (1, .int v1), (2, .int v2), (3, .int v3), (4, .int v4), (5, .int v5)] [] h := by
  intro v4 v5 h hw
  refine v_iinc (v := 1) (ls' := [(5, .int (v5 + 1)), (0, .ref v0), (1, .int v1), (2, .int v2), (3, .int v3), (4, .int v4)]) C dX8_gunsIn_80 5 rfl (by decide) (by decide) rfl ?_
  refine v_goto (tgt := 6) C dX8_gunsIn_83 (by decide) ?_
  refine v_sub [1, 2, 3, 4, 5, 0] rfl ?_
  exact hk _ _ _ hw
set_option maxRecDepth 100000 in
set_option maxHeartbeats 4000000 in
theorem s_X8_gunsIn_40 {p : Program} {l : Launch} {e : Env} {s : State} {m : MethodId} {args : Array Value} {below : List Frame} {meth : Method} {c : Code} {g : GG} {v0 : Nat} {v1 : Int32} {v2 : Int32} {v3 : Int32} {Q : Int32 → AH → Prop} {x86 : Int32 → AH → Prop} {k : Int32 → Int32 → AH → Prop} (C : CXT p l s m args meth c RX8 cX8_gunsIn 7 g) (hr : meth.sig.returnType = (some .int)) (hx86 : ∀ (y4 : Int32) (h : AH), x86 y4 h → V p l e s m args below meth c g 3 0 0 7 0 0 (MQ below (QCx g (QI Q)) args s 0 0 (gA g)) 86 [(4, .int y4)] [] h) (hk : ∀ (y4 : Int32) (y5 : Int32) (h : AH), k y4 y5 h → V p l e s m args below meth c g 3 0 0 7 0 0 (MQ below (QCx g (QI Q)) args s 0 0 (gA g)) 6 [(0, .ref v0), (1, .int v1), (2, .int v2), (3, .int v3), (4, .int y4), (5, .int y5)] [] h) : ∀ (v4 : Int32) (v5 : Int32) (t0 : Int32) (h : AH), w_X8_gunsIn_40  x86 k v0 v1 v2 v3 v4 v5 t0 h Q → V p l e s m args below meth c g 3 0 0 7 0 0 (MQ below (QCx g (QI Q)) args s 0 0 (gA g)) 40 [(0, .ref v0), (1, .int v1), (2, .int v2), (3, .int v3), (4, .int v4), (5, .int v5)] [.int t0] h := by
  intro v4 v5 t0 h hw
  refine v_istore (ls' := [(6, .int t0), (0, .ref v0), (1, .int v1), (2, .int v2), (3, .int v3), (4, .int v4), (5, .int v5)]) C dX8_gunsIn_40 (by decide) rfl ?_
  refine v_iload C dX8_gunsIn_42 0 rfl ?_
  refine v_if_eq (tgt := 80) C dX8_gunsIn_44 (by decide) (fun c_44 => ?_) (fun c_44 => ?_)
  · have hw := hw.1 c_44
    refine v_sub [1, 2, 3, 4, 5, 6] rfl ?_
    exact s_X8_gunsIn_80 C hr hx86 hk _ _ _ hw
  · have hw := hw.2 c_44
    refine v_aload_n C dX8_gunsIn_47 1 rfl rfl ?_
    refine w_getN C fl_X8_33 dX8_gunsIn_48 rfl hw (fun a1 hw => ?_)
    refine w_getN C fl_X8_37 dX8_gunsIn_51 rfl hw (fun a2 hw => ?_)
    refine w_getN C fl_X8_87 dX8_gunsIn_54 rfl hw (fun a3 hw => ?_)
    refine v_iload C dX8_gunsIn_57 6 rfl ?_
    refine w_iaload C dX8_gunsIn_59 hw (fun x4 hw => ?_)
    refine v_iload_n C dX8_gunsIn_60 2 rfl rfl ?_
    refine v_iload_n C dX8_gunsIn_61 3 rfl rfl ?_
    refine w_callSi (st := []) C cl_X8_90 st_X3_isInArea (s_X3_isInArea hw) rfl dX8_gunsIn_62 rfl (by decide) (by decide) (by decide) (by decide) (by decide) (fun x5 h hw => ?_)
    refine v_if_eq (tgt := 80) C dX8_gunsIn_65 (by decide) (fun c_65 => ?_) (fun c_65 => ?_)
    · have hw := hw.1 c_65
      refine v_sub [1, 2, 3, 4, 5, 6] rfl ?_
      exact s_X8_gunsIn_80 C hr hx86 hk _ _ _ hw
    · have hw := hw.2 c_65
      refine v_iload C dX8_gunsIn_68 5 rfl ?_
      refine v_aload_n C dX8_gunsIn_70 1 rfl rfl ?_
      refine w_getN C fl_X8_9 dX8_gunsIn_71 rfl hw (fun a6 hw => ?_)
      refine v_iload C dX8_gunsIn_74 6 rfl ?_
      refine w_iaload C dX8_gunsIn_76 hw (fun x7 hw => ?_)
      refine v_ior C dX8_gunsIn_77 ?_
      refine w_bd hw (fun x8 hw => ?_)
      refine v_istore (ls' := [(4, .int x8), (6, .int t0), (0, .ref v0), (1, .int v1), (2, .int v2), (3, .int v3), (5, .int v5)]) C dX8_gunsIn_78 (by decide) rfl ?_
      refine v_sub [2, 3, 4, 5, 0, 6] rfl ?_
      exact s_X8_gunsIn_80 C hr hx86 hk _ _ _ hw
set_option maxRecDepth 100000 in
set_option maxHeartbeats 4000000 in
theorem s_X8_gunsIn_6 {p : Program} {l : Launch} {e : Env} {s : State} {m : MethodId} {args : Array Value} {below : List Frame} {meth : Method} {c : Code} {g : GG} {v0 : Nat} {v1 : Int32} {v2 : Int32} {v3 : Int32} {Q : Int32 → AH → Prop} {x86 : Int32 → AH → Prop} {k : Int32 → Int32 → AH → Prop} (C : CXT p l s m args meth c RX8 cX8_gunsIn 7 g) (hr : meth.sig.returnType = (some .int)) (hx86 : ∀ (y4 : Int32) (h : AH), x86 y4 h → V p l e s m args below meth c g 3 0 0 7 0 0 (MQ below (QCx g (QI Q)) args s 0 0 (gA g)) 86 [(4, .int y4)] [] h) (hk : ∀ (y4 : Int32) (y5 : Int32) (h : AH), k y4 y5 h → V p l e s m args below meth c g 3 0 0 7 0 0 (MQ below (QCx g (QI Q)) args s 0 0 (gA g)) 6 [(0, .ref v0), (1, .int v1), (2, .int v2), (3, .int v3), (4, .int y4), (5, .int y5)] [] h) : ∀ (v4 : Int32) (v5 : Int32) (h : AH), w_X8_gunsIn_6  x86 k v0 v1 v2 v3 v4 v5 h Q → V p l e s m args below meth c g 3 0 0 7 0 0 (MQ below (QCx g (QI Q)) args s 0 0 (gA g)) 6 [(0, .ref v0), (1, .int v1), (2, .int v2), (3, .int v3), (4, .int v4), (5, .int v5)] [] h := by
  intro v4 v5 h hw
  refine v_iload C dX8_gunsIn_6 5 rfl ?_
  refine v_aload_n C dX8_gunsIn_8 0 rfl rfl ?_
  refine w_getN C fl_X8_33 dX8_gunsIn_9 rfl hw (fun a1 hw => ?_)
  refine w_getN C fl_X8_37 dX8_gunsIn_12 rfl hw (fun a2 hw => ?_)
  refine w_getI C fl_X8_49 dX8_gunsIn_15 rfl hw (fun x3 hw => ?_)
  refine v_icmp_ge (tgt := 86) C dX8_gunsIn_18 (by decide) (fun c_18 => ?_) (fun c_18 => ?_)
  · have hw := hw.1 c_18
    refine v_sub [4] rfl ?_
    exact hx86 _ _ hw
  · have hw := hw.2 c_18
    refine v_iload_n C dX8_gunsIn_21 3 rfl rfl ?_
    refine v_if_eq (tgt := 34) C dX8_gunsIn_22 (by decide) (fun c_22 => ?_) (fun c_22 => ?_)
    · have hw := hw.1 c_22
      refine v_aload_n C dX8_gunsIn_34 0 rfl rfl ?_
      refine v_iload C dX8_gunsIn_35 5 rfl ?_
      refine w_callVi (st := []) C cl_X8_96 im_X8_isSure se_X8_isSure rfl hw.1 (s_X8_isSure hw.2) rfl dX8_gunsIn_37 rfl (by decide) (by decide) (by decide) (by decide) (by decide) (fun x4 h hw => ?_)
      exact s_X8_gunsIn_40 C hr hx86 hk _ _ _ _ hw
    · have hw := hw.2 c_22
      refine v_aload_n C dX8_gunsIn_25 0 rfl rfl ?_
      refine v_iload C dX8_gunsIn_26 5 rfl ?_
      refine w_callVi (st := []) C cl_X8_64 im_X8_isCase se_X8_isCase rfl hw.1 (s_X8_isCase hw.2) rfl dX8_gunsIn_28 rfl (by decide) (by decide) (by decide) (by decide) (by decide) (fun x5 h hw => ?_)
      refine v_goto (tgt := 40) C dX8_gunsIn_31 (by decide) ?_
      exact s_X8_gunsIn_40 C hr hx86 hk _ _ _ _ hw
set_option maxRecDepth 100000 in
set_option maxHeartbeats 4000000 in
theorem s_X8_gunsIn {l : Launch}  {v0 : Nat} {v1 : Int32} {v2 : Int32} {v3 : Int32} {h : AH} {Q : Int32 → AH → Prop}  (hw : w_X8_gunsIn  v0 v1 v2 v3 h Q) : CT l yX8_gunsIn cX8_gunsIn 7 (some .int) 3 0 0 [.ref v0, .int v1, .int v2, .int v3] h (QI Q) := by
  refine CT.of (by decide) ⟨rfl, ⟨rfl, ⟨rfl, ⟨rfl, trivial⟩⟩⟩⟩ (Nat.le_of_ble_eq_true rfl) ?_
  intro p e s m args below meth c g C hr hin
  refine v_eq (pc' := 0) (ls' := [(0, .ref v0), (1, .int v1), (2, .int v2), (3, .int v3)]) rfl rfl rfl rfl ?_
  refine v_iconst (v := 0) C dX8_gunsIn_0 (by decide) ?_
  refine v_istore (ls' := [(4, .int (0 : Int32)), (0, .ref v0), (1, .int v1), (2, .int v2), (3, .int v3)]) C dX8_gunsIn_1 (by decide) rfl ?_
  refine v_iconst (v := 0) C dX8_gunsIn_3 (by decide) ?_
  refine v_istore (ls' := [(5, .int (0 : Int32)), (4, .int (0 : Int32)), (0, .ref v0), (1, .int v1), (2, .int v2), (3, .int v3)]) C dX8_gunsIn_4 (by decide) rfl ?_
  refine v_sub [2, 3, 4, 5, 1, 0] rfl ?_
  refine lp_walk (P := fun (s' : Int32 × Int32 × AH) => V p l e s m args below meth c g 3 0 0 7 0 0 (MQ below (QCx g (QI Q)) args s 0 0 (gA g)) 6 [(0, .ref v0), (1, .int v1), (2, .int v2), (3, .int v3), (4, .int (s'.1)), (5, .int (s'.2.1))] [] s'.2.2) (fun k2 hk2 s' hw => ?_) ((0 : Int32), (0 : Int32), h) hw
  exact s_X8_gunsIn_6 C hr (fun y4 h hw => s_X8_gunsIn_86 C hr  _ h hw) (fun y4 y5 h hw => hk2 (y4, y5, h) hw) _ _ _ hw
-- GrassField$Study.isTrue(I)Z
theorem dX8_isTrue_0 : decode cX8_isTrue 0 = .ok (.aload_n 0, 1) := by decide +kernel
theorem dX8_isTrue_1 : decode cX8_isTrue 1 = .ok (.getfield 33, 3) := by decide +kernel
theorem dX8_isTrue_4 : decode cX8_isTrue 4 = .ok (.getfield 221, 3) := by decide +kernel
theorem dX8_isTrue_7 : decode cX8_isTrue 7 = .ok (.iload_n 1, 1) := by decide +kernel
theorem dX8_isTrue_8 : decode cX8_isTrue 8 = .ok (.aaload, 1) := by decide +kernel
theorem dX8_isTrue_9 : decode cX8_isTrue 9 = .ok (.astore_n 2, 1) := by decide +kernel
theorem dX8_isTrue_10 : decode cX8_isTrue 10 = .ok (.aload_n 2, 1) := by decide +kernel
theorem dX8_isTrue_11 : decode cX8_isTrue 11 = .ok (.ifnull 18, 3) := by decide +kernel
theorem dX8_isTrue_14 : decode cX8_isTrue 14 = .ok (.aload_n 2, 1) := by decide +kernel
theorem dX8_isTrue_15 : decode cX8_isTrue 15 = .ok (.aload_n 0, 1) := by decide +kernel
theorem dX8_isTrue_16 : decode cX8_isTrue 16 = .ok (.getfield 30, 3) := by decide +kernel
theorem dX8_isTrue_19 : decode cX8_isTrue 19 = .ok (.invokevirtual 225, 3) := by decide +kernel
theorem dX8_isTrue_22 : decode cX8_isTrue 22 = .ok (.ifCond .eq 7, 3) := by decide +kernel
theorem dX8_isTrue_25 : decode cX8_isTrue 25 = .ok (.iconst 1, 1) := by decide +kernel
theorem dX8_isTrue_26 : decode cX8_isTrue 26 = .ok (.goto 4, 3) := by decide +kernel
theorem dX8_isTrue_29 : decode cX8_isTrue 29 = .ok (.iconst 0, 1) := by decide +kernel
theorem dX8_isTrue_30 : decode cX8_isTrue 30 = .ok (.ireturn, 1) := by decide +kernel
def w_X8_isTrue_30  (t0 : Int32) (h : AH) (Q : Int32 → AH → Prop) : Prop :=
  z1 t0 (Q t0 h)
def w_X8_isTrue_29  (h : AH) (Q : Int32 → AH → Prop) : Prop :=
  w_X8_isTrue_30 (0 : Int32) h Q
def w_X8_isTrue  (v0 : Nat) (v1 : Int32) (h : AH) (Q : Int32 → AH → Prop) : Prop :=
  fN h v0 8 0 fun a1 =>
  fN h a1 7 7 fun a2 =>
  aO h a2 v1 fun r3 =>
  br (r3 = none) (
    w_X8_isTrue_29  h Q) (
    nn r3 fun a4 =>
    fN h v0 8 8 fun a5 =>
    vr h a4 5 (
    w_X5_answer a4 a5 h (fun x6 h =>
    br (x6 = 0) (
      w_X8_isTrue_29  h Q) (
      w_X8_isTrue_30 (1 : Int32) h Q))))
set_option maxRecDepth 100000 in
set_option maxHeartbeats 4000000 in
theorem s_X8_isTrue_30 {p : Program} {l : Launch} {e : Env} {s : State} {m : MethodId} {args : Array Value} {below : List Frame} {meth : Method} {c : Code} {g : GG}  {Q : Int32 → AH → Prop}  (C : CXT p l s m args meth c RX8 cX8_isTrue 3 g) (hr : meth.sig.returnType = (some .boolean))  : ∀ (t0 : Int32) (h : AH), w_X8_isTrue_30  t0 h Q → V p l e s m args below meth c g 2 0 0 3 0 0 (MQ below (QCx g (QI Q)) args s 0 0 (gA g)) 30 [] [.int t0] h := by
  intro t0 h hw
  exact (rt_MQ C _).2.1 _ _ _ _ _ _ _ hr (by rcases hw.1 with z | z <;> rw [z] <;> rfl) dX8_isTrue_30 (by decide) (by decide) ⟨_, rfl, hw.2⟩
set_option maxRecDepth 100000 in
set_option maxHeartbeats 4000000 in
theorem s_X8_isTrue_29 {p : Program} {l : Launch} {e : Env} {s : State} {m : MethodId} {args : Array Value} {below : List Frame} {meth : Method} {c : Code} {g : GG}  {Q : Int32 → AH → Prop}  (C : CXT p l s m args meth c RX8 cX8_isTrue 3 g) (hr : meth.sig.returnType = (some .boolean))  : ∀  (h : AH), w_X8_isTrue_29  h Q → V p l e s m args below meth c g 2 0 0 3 0 0 (MQ below (QCx g (QI Q)) args s 0 0 (gA g)) 29 [] [] h := by
  intro  h hw
  refine v_iconst (v := 0) C dX8_isTrue_29 (by decide) ?_
  exact s_X8_isTrue_30 C hr  _ _ hw
set_option maxRecDepth 100000 in
set_option maxHeartbeats 4000000 in
theorem s_X8_isTrue {l : Launch}  {v0 : Nat} {v1 : Int32} {h : AH} {Q : Int32 → AH → Prop}  (hw : w_X8_isTrue  v0 v1 h Q) : CT l yX8_isTrue cX8_isTrue 3 (some .boolean) 2 0 0 [.ref v0, .int v1] h (QI Q) := by
  refine CT.of (by decide) ⟨rfl, ⟨rfl, trivial⟩⟩ (Nat.le_of_ble_eq_true rfl) ?_
  intro p e s m args below meth c g C hr hin
  refine v_eq (pc' := 0) (ls' := [(0, .ref v0), (1, .int v1)]) rfl rfl rfl rfl ?_
  refine v_aload_n C dX8_isTrue_0 0 rfl rfl ?_
  refine w_getN C fl_X8_33 dX8_isTrue_1 rfl hw (fun a1 hw => ?_)
  refine w_getN C fl_X8_221 dX8_isTrue_4 rfl hw (fun a2 hw => ?_)
  refine v_iload_n C dX8_isTrue_7 1 rfl rfl ?_
  refine w_aaload C dX8_isTrue_8 hw (fun r3 hw => ?_)
  refine v_astore_nO (ls' := [(2, va_rf r3), (0, .ref v0), (1, .int v1)]) C dX8_isTrue_9 rfl (by decide) rfl ?_
  refine v_aload_nO C dX8_isTrue_10 0 rfl rfl ?_
  refine v_ifnull (tgt := 29) C dX8_isTrue_11 (by decide) (fun c_11 => ?_) (fun a_11 c_11 => ?_)
  · have hw := hw.1 c_11
    refine v_sub [] rfl ?_
    exact s_X8_isTrue_29 C hr   _ hw
  · have hw := hw.2 (by rw [c_11]; exact fun z => nomatch z)
    refine v_aload_nO C dX8_isTrue_14 0 rfl rfl ?_
    refine w_nn hw (fun a4 hw => ?_)
    refine v_aload_n C dX8_isTrue_15 1 rfl rfl ?_
    refine w_getN C fl_X8_30 dX8_isTrue_16 rfl hw (fun a5 hw => ?_)
    refine w_callVi (st := []) C cl_X8_225 im_X5_answer se_X5_answer rfl hw.1 (s_X5_answer hw.2) rfl dX8_isTrue_19 rfl (by decide) (by decide) (by decide) (by decide) (by decide) (fun x6 h hw => ?_)
    refine v_if_eq (tgt := 29) C dX8_isTrue_22 (by decide) (fun c_22 => ?_) (fun c_22 => ?_)
    · have hw := hw.1 c_22
      refine v_sub [] rfl ?_
      exact s_X8_isTrue_29 C hr   _ hw
    · have hw := hw.2 c_22
      refine v_iconst (v := 1) C dX8_isTrue_25 (by decide) ?_
      refine v_goto (tgt := 30) C dX8_isTrue_26 (by decide) ?_
      refine v_sub [] rfl ?_
      exact s_X8_isTrue_30 C hr  _ _ hw
-- GrassField$Study.laterThings()I
theorem dX8_laterThings_0 : decode cX8_laterThings 0 = .ok (.aload_n 0, 1) := by decide +kernel
theorem dX8_laterThings_1 : decode cX8_laterThings 1 = .ok (.getfield 33, 3) := by decide +kernel
theorem dX8_laterThings_4 : decode cX8_laterThings 4 = .ok (.getfield 37, 3) := by decide +kernel
theorem dX8_laterThings_7 : decode cX8_laterThings 7 = .ok (.astore_n 1, 1) := by decide +kernel
theorem dX8_laterThings_8 : decode cX8_laterThings 8 = .ok (.aload_n 1, 1) := by decide +kernel
theorem dX8_laterThings_9 : decode cX8_laterThings 9 = .ok (.invokevirtual 43, 3) := by decide +kernel
theorem dX8_laterThings_12 : decode cX8_laterThings 12 = .ok (.istore_n 2, 1) := by decide +kernel
theorem dX8_laterThings_13 : decode cX8_laterThings 13 = .ok (.iconst 0, 1) := by decide +kernel
theorem dX8_laterThings_14 : decode cX8_laterThings 14 = .ok (.istore_n 3, 1) := by decide +kernel
theorem dX8_laterThings_15 : decode cX8_laterThings 15 = .ok (.iconst 0, 1) := by decide +kernel
theorem dX8_laterThings_16 : decode cX8_laterThings 16 = .ok (.istore 4, 2) := by decide +kernel
theorem dX8_laterThings_18 : decode cX8_laterThings 18 = .ok (.iload 4, 2) := by decide +kernel
theorem dX8_laterThings_20 : decode cX8_laterThings 20 = .ok (.aload_n 1, 1) := by decide +kernel
theorem dX8_laterThings_21 : decode cX8_laterThings 21 = .ok (.getfield 49, 3) := by decide +kernel
theorem dX8_laterThings_24 : decode cX8_laterThings 24 = .ok (.if_icmp .ge 50, 3) := by decide +kernel
theorem dX8_laterThings_27 : decode cX8_laterThings 27 = .ok (.aload_n 1, 1) := by decide +kernel
theorem dX8_laterThings_28 : decode cX8_laterThings 28 = .ok (.getfield 53, 3) := by decide +kernel
theorem dX8_laterThings_31 : decode cX8_laterThings 31 = .ok (.iload 4, 2) := by decide +kernel
theorem dX8_laterThings_33 : decode cX8_laterThings 33 = .ok (.iaload, 1) := by decide +kernel
theorem dX8_laterThings_34 : decode cX8_laterThings 34 = .ok (.iconst 3, 1) := by decide +kernel
theorem dX8_laterThings_35 : decode cX8_laterThings 35 = .ok (.if_icmp .ne 33, 3) := by decide +kernel
theorem dX8_laterThings_38 : decode cX8_laterThings 38 = .ok (.aload_n 1, 1) := by decide +kernel
theorem dX8_laterThings_39 : decode cX8_laterThings 39 = .ok (.getfield 105, 3) := by decide +kernel
theorem dX8_laterThings_42 : decode cX8_laterThings 42 = .ok (.iload 4, 2) := by decide +kernel
theorem dX8_laterThings_44 : decode cX8_laterThings 44 = .ok (.iaload, 1) := by decide +kernel
theorem dX8_laterThings_45 : decode cX8_laterThings 45 = .ok (.aload_n 0, 1) := by decide +kernel
theorem dX8_laterThings_46 : decode cX8_laterThings 46 = .ok (.getfield 33, 3) := by decide +kernel
theorem dX8_laterThings_49 : decode cX8_laterThings 49 = .ok (.getfield 99, 3) := by decide +kernel
theorem dX8_laterThings_52 : decode cX8_laterThings 52 = .ok (.if_icmp .le 16, 3) := by decide +kernel
theorem dX8_laterThings_55 : decode cX8_laterThings 55 = .ok (.aload_n 1, 1) := by decide +kernel
theorem dX8_laterThings_56 : decode cX8_laterThings 56 = .ok (.iload 4, 2) := by decide +kernel
theorem dX8_laterThings_58 : decode cX8_laterThings 58 = .ok (.iload_n 2, 1) := by decide +kernel
theorem dX8_laterThings_59 : decode cX8_laterThings 59 = .ok (.invokevirtual 56, 3) := by decide +kernel
theorem dX8_laterThings_62 : decode cX8_laterThings 62 = .ok (.ifCond .eq 6, 3) := by decide +kernel
theorem dX8_laterThings_65 : decode cX8_laterThings 65 = .ok (.iinc 3 1, 3) := by decide +kernel
theorem dX8_laterThings_68 : decode cX8_laterThings 68 = .ok (.iinc 4 1, 3) := by decide +kernel
theorem dX8_laterThings_71 : decode cX8_laterThings 71 = .ok (.goto (-53), 3) := by decide +kernel
theorem dX8_laterThings_74 : decode cX8_laterThings 74 = .ok (.iload_n 3, 1) := by decide +kernel
theorem dX8_laterThings_75 : decode cX8_laterThings 75 = .ok (.ireturn, 1) := by decide +kernel
def w_X8_laterThings_74  (v3 : Int32) (h : AH) (Q : Int32 → AH → Prop) : Prop :=
  Q v3 h
def w_X8_laterThings_68  (x74 : Int32 → AH → Prop) (k : Int32 → Int32 → AH → Prop) (v0 : Nat) (v1 : Nat) (v2 : Int32) (v3 : Int32) (v4 : Int32) (h : AH) (Q : Int32 → AH → Prop) : Prop :=
  k v3 (v4 + 1) h
def w_X8_laterThings_18  (x74 : Int32 → AH → Prop) (k : Int32 → Int32 → AH → Prop) (v0 : Nat) (v1 : Nat) (v2 : Int32) (v3 : Int32) (v4 : Int32) (h : AH) (Q : Int32 → AH → Prop) : Prop :=
  fI h v1 1 0 fun x1 =>
  br (x1 ≤ v4) (
    x74 v3 h) (
    fN h v1 1 1 fun a2 =>
    aI h a2 v4 fun x3 =>
    br (x3 = (3 : Int32)) (
      fN h v1 1 4 fun a4 =>
      aI h a4 v4 fun x5 =>
      fN h v0 8 0 fun a6 =>
      fI h a6 7 10 fun x7 =>
      br (x5 ≤ x7) (
        w_X8_laterThings_68 x74 k v0 v1 v2 v3 v4 h Q) (
        vr h v1 1 (
        w_X1_isSeen v1 v4 v2 h (fun x8 h =>
        br (x8 = 0) (
          w_X8_laterThings_68 x74 k v0 v1 v2 v3 v4 h Q) (
          w_X8_laterThings_68 x74 k v0 v1 v2 (v3 + 1) v4 h Q))))) (
      w_X8_laterThings_68 x74 k v0 v1 v2 v3 v4 h Q))
def w_X8_laterThings  (v0 : Nat) (h : AH) (Q : Int32 → AH → Prop) : Prop :=
  fN h v0 8 0 fun a1 =>
  fN h a1 7 3 fun a2 =>
  vr h a2 1 (
  w_X1_nearRows a2 h (fun x3 h =>
  lp (fun (k2 : Int32 × Int32 × AH → Prop) (s2 : Int32 × Int32 × AH) => w_X8_laterThings_18  (fun (y3 : Int32) h => w_X8_laterThings_74 y3 h Q) (fun (y3 : Int32) (y4 : Int32) h => k2 (y3, y4, h)) v0 a2 x3 s2.1 s2.2.1 s2.2.2 Q) ((0 : Int32), (0 : Int32), h)))
set_option maxRecDepth 100000 in
set_option maxHeartbeats 4000000 in
theorem s_X8_laterThings_74 {p : Program} {l : Launch} {e : Env} {s : State} {m : MethodId} {args : Array Value} {below : List Frame} {meth : Method} {c : Code} {g : GG}  {Q : Int32 → AH → Prop}  (C : CXT p l s m args meth c RX8 cX8_laterThings 5 g) (hr : meth.sig.returnType = (some .int))  : ∀ (v3 : Int32) (h : AH), w_X8_laterThings_74  v3 h Q → V p l e s m args below meth c g 2 0 0 5 0 0 (MQ below (QCx g (QI Q)) args s 0 0 (gA g)) 74 [(3, .int v3)] [] h := by
  intro v3 h hw
  refine v_iload_n C dX8_laterThings_74 0 rfl rfl ?_
  exact (rt_MQ C _).1 _ _ _ _ _ _ hr dX8_laterThings_75 (by decide) (by decide) ⟨_, rfl, hw⟩
set_option maxRecDepth 100000 in
set_option maxHeartbeats 4000000 in
theorem s_X8_laterThings_68 {p : Program} {l : Launch} {e : Env} {s : State} {m : MethodId} {args : Array Value} {below : List Frame} {meth : Method} {c : Code} {g : GG} {v0 : Nat} {v1 : Nat} {v2 : Int32} {Q : Int32 → AH → Prop} {x74 : Int32 → AH → Prop} {k : Int32 → Int32 → AH → Prop} (C : CXT p l s m args meth c RX8 cX8_laterThings 5 g) (hr : meth.sig.returnType = (some .int)) (hx74 : ∀ (y3 : Int32) (h : AH), x74 y3 h → V p l e s m args below meth c g 2 0 0 5 0 0 (MQ below (QCx g (QI Q)) args s 0 0 (gA g)) 74 [(3, .int y3)] [] h) (hk : ∀ (y3 : Int32) (y4 : Int32) (h : AH), k y3 y4 h → V p l e s m args below meth c g 2 0 0 5 0 0 (MQ below (QCx g (QI Q)) args s 0 0 (gA g)) 18 [(0, .ref v0), (1, .ref v1), (2, .int v2), (3, .int y3), (4, .int y4)] [] h) : ∀ (v3 : Int32) (v4 : Int32) (h : AH), w_X8_laterThings_68  x74 k v0 v1 v2 v3 v4 h Q → V p l e s m args below meth c g 2 0 0 5 0 0 (MQ below (QCx g (QI Q)) args s 0 0 (gA g)) 68 [(0, .ref v0), (1, .ref v1), (2, .int v2), (3, .int v3), (4, .int v4)] [] h := by
  intro v3 v4 h hw
  refine v_iinc (v := 1) (ls' := [(4, .int (v4 + 1)), (0, .ref v0), (1, .ref v1), (2, .int v2), (3, .int v3)]) C dX8_laterThings_68 4 rfl (by decide) (by decide) rfl ?_
  refine v_goto (tgt := 18) C dX8_laterThings_71 (by decide) ?_
  refine v_sub [1, 2, 3, 4, 0] rfl ?_
  exact hk _ _ _ hw
set_option maxRecDepth 100000 in
set_option maxHeartbeats 4000000 in
theorem s_X8_laterThings_18 {p : Program} {l : Launch} {e : Env} {s : State} {m : MethodId} {args : Array Value} {below : List Frame} {meth : Method} {c : Code} {g : GG} {v0 : Nat} {v1 : Nat} {v2 : Int32} {Q : Int32 → AH → Prop} {x74 : Int32 → AH → Prop} {k : Int32 → Int32 → AH → Prop} (C : CXT p l s m args meth c RX8 cX8_laterThings 5 g) (hr : meth.sig.returnType = (some .int)) (hx74 : ∀ (y3 : Int32) (h : AH), x74 y3 h → V p l e s m args below meth c g 2 0 0 5 0 0 (MQ below (QCx g (QI Q)) args s 0 0 (gA g)) 74 [(3, .int y3)] [] h) (hk : ∀ (y3 : Int32) (y4 : Int32) (h : AH), k y3 y4 h → V p l e s m args below meth c g 2 0 0 5 0 0 (MQ below (QCx g (QI Q)) args s 0 0 (gA g)) 18 [(0, .ref v0), (1, .ref v1), (2, .int v2), (3, .int y3), (4, .int y4)] [] h) : ∀ (v3 : Int32) (v4 : Int32) (h : AH), w_X8_laterThings_18  x74 k v0 v1 v2 v3 v4 h Q → V p l e s m args below meth c g 2 0 0 5 0 0 (MQ below (QCx g (QI Q)) args s 0 0 (gA g)) 18 [(0, .ref v0), (1, .ref v1), (2, .int v2), (3, .int v3), (4, .int v4)] [] h := by
  intro v3 v4 h hw
  refine v_iload C dX8_laterThings_18 4 rfl ?_
  refine v_aload_n C dX8_laterThings_20 1 rfl rfl ?_
  refine w_getI C fl_X8_49 dX8_laterThings_21 rfl hw (fun x1 hw => ?_)
  refine v_icmp_ge (tgt := 74) C dX8_laterThings_24 (by decide) (fun c_24 => ?_) (fun c_24 => ?_)
  · have hw := hw.1 c_24
    refine v_sub [3] rfl ?_
    exact hx74 _ _ hw
  · have hw := hw.2 c_24
    refine v_aload_n C dX8_laterThings_27 1 rfl rfl ?_
    refine w_getN C fl_X8_53 dX8_laterThings_28 rfl hw (fun a2 hw => ?_)
    refine v_iload C dX8_laterThings_31 4 rfl ?_
    refine w_iaload C dX8_laterThings_33 hw (fun x3 hw => ?_)
    refine v_iconst (v := 3) C dX8_laterThings_34 (by decide) ?_
    refine v_icmp_ne (tgt := 68) C dX8_laterThings_35 (by decide) (fun c_35 => ?_) (fun c_35 => ?_)
    · have hw := hw.2 c_35
      exact s_X8_laterThings_68 C hr hx74 hk _ _ _ hw
    · have hw := hw.1 c_35
      refine v_aload_n C dX8_laterThings_38 1 rfl rfl ?_
      refine w_getN C fl_X8_105 dX8_laterThings_39 rfl hw (fun a4 hw => ?_)
      refine v_iload C dX8_laterThings_42 4 rfl ?_
      refine w_iaload C dX8_laterThings_44 hw (fun x5 hw => ?_)
      refine v_aload_n C dX8_laterThings_45 0 rfl rfl ?_
      refine w_getN C fl_X8_33 dX8_laterThings_46 rfl hw (fun a6 hw => ?_)
      refine w_getI C fl_X8_99 dX8_laterThings_49 rfl hw (fun x7 hw => ?_)
      refine v_icmp_le (tgt := 68) C dX8_laterThings_52 (by decide) (fun c_52 => ?_) (fun c_52 => ?_)
      · have hw := hw.1 c_52
        exact s_X8_laterThings_68 C hr hx74 hk _ _ _ hw
      · have hw := hw.2 c_52
        refine v_aload_n C dX8_laterThings_55 1 rfl rfl ?_
        refine v_iload C dX8_laterThings_56 4 rfl ?_
        refine v_iload_n C dX8_laterThings_58 2 rfl rfl ?_
        refine w_callVi (st := []) C cl_X8_56 im_X1_isSeen se_X1_isSeen rfl hw.1 (s_X1_isSeen hw.2) rfl dX8_laterThings_59 rfl (by decide) (by decide) (by decide) (by decide) (by decide) (fun x8 h hw => ?_)
        refine v_if_eq (tgt := 68) C dX8_laterThings_62 (by decide) (fun c_62 => ?_) (fun c_62 => ?_)
        · have hw := hw.1 c_62
          exact s_X8_laterThings_68 C hr hx74 hk _ _ _ hw
        · have hw := hw.2 c_62
          refine v_iinc (v := 1) (ls' := [(3, .int (v3 + 1)), (0, .ref v0), (1, .ref v1), (2, .int v2), (4, .int v4)]) C dX8_laterThings_65 3 rfl (by decide) (by decide) rfl ?_
          refine v_sub [1, 2, 3, 0, 4] rfl ?_
          exact s_X8_laterThings_68 C hr hx74 hk _ _ _ hw
set_option maxRecDepth 100000 in
set_option maxHeartbeats 4000000 in
theorem s_X8_laterThings {l : Launch}  {v0 : Nat} {h : AH} {Q : Int32 → AH → Prop}  (hw : w_X8_laterThings  v0 h Q) : CT l yX8_laterThings cX8_laterThings 5 (some .int) 2 0 0 [.ref v0] h (QI Q) := by
  refine CT.of (by decide) ⟨rfl, trivial⟩ (Nat.le_of_ble_eq_true rfl) ?_
  intro p e s m args below meth c g C hr hin
  refine v_eq (pc' := 0) (ls' := [(0, .ref v0)]) rfl rfl rfl rfl ?_
  refine v_aload_n C dX8_laterThings_0 0 rfl rfl ?_
  refine w_getN C fl_X8_33 dX8_laterThings_1 rfl hw (fun a1 hw => ?_)
  refine w_getN C fl_X8_37 dX8_laterThings_4 rfl hw (fun a2 hw => ?_)
  refine v_astore_n (ls' := [(1, .ref a2), (0, .ref v0)]) C dX8_laterThings_7 rfl (by decide) rfl ?_
  refine v_aload_n C dX8_laterThings_8 0 rfl rfl ?_
  refine w_callVi (st := []) C cl_X8_43 im_X1_nearRows se_X1_nearRows rfl hw.1 (s_X1_nearRows hw.2) rfl dX8_laterThings_9 rfl (by decide) (by decide) (by decide) (by decide) (by decide) (fun x3 h hw => ?_)
  refine v_istore_n (ls' := [(2, .int x3), (1, .ref a2), (0, .ref v0)]) C dX8_laterThings_12 rfl (by decide) rfl ?_
  refine v_iconst (v := 0) C dX8_laterThings_13 (by decide) ?_
  refine v_istore_n (ls' := [(3, .int (0 : Int32)), (2, .int x3), (1, .ref a2), (0, .ref v0)]) C dX8_laterThings_14 rfl (by decide) rfl ?_
  refine v_iconst (v := 0) C dX8_laterThings_15 (by decide) ?_
  refine v_istore (ls' := [(4, .int (0 : Int32)), (3, .int (0 : Int32)), (2, .int x3), (1, .ref a2), (0, .ref v0)]) C dX8_laterThings_16 (by decide) rfl ?_
  refine v_sub [4, 3, 2, 1, 0] rfl ?_
  refine lp_walk (P := fun (s' : Int32 × Int32 × AH) => V p l e s m args below meth c g 2 0 0 5 0 0 (MQ below (QCx g (QI Q)) args s 0 0 (gA g)) 18 [(0, .ref v0), (1, .ref a2), (2, .int x3), (3, .int (s'.1)), (4, .int (s'.2.1))] [] s'.2.2) (fun k2 hk2 s' hw => ?_) ((0 : Int32), (0 : Int32), h) hw
  exact s_X8_laterThings_18 C hr (fun y3 h hw => s_X8_laterThings_74 C hr  _ h hw) (fun y3 y4 h hw => hk2 (y3, y4, h) hw) _ _ _ hw
-- GrassField$Study.sureCases(I)I
theorem dX8_sureCases_0 : decode cX8_sureCases 0 = .ok (.iconst 0, 1) := by decide +kernel
theorem dX8_sureCases_1 : decode cX8_sureCases 1 = .ok (.istore_n 2, 1) := by decide +kernel
theorem dX8_sureCases_2 : decode cX8_sureCases 2 = .ok (.iconst 0, 1) := by decide +kernel
theorem dX8_sureCases_3 : decode cX8_sureCases 3 = .ok (.istore_n 3, 1) := by decide +kernel
theorem dX8_sureCases_4 : decode cX8_sureCases 4 = .ok (.iload_n 3, 1) := by decide +kernel
theorem dX8_sureCases_5 : decode cX8_sureCases 5 = .ok (.aload_n 0, 1) := by decide +kernel
theorem dX8_sureCases_6 : decode cX8_sureCases 6 = .ok (.getfield 33, 3) := by decide +kernel
theorem dX8_sureCases_9 : decode cX8_sureCases 9 = .ok (.getfield 37, 3) := by decide +kernel
theorem dX8_sureCases_12 : decode cX8_sureCases 12 = .ok (.getfield 49, 3) := by decide +kernel
theorem dX8_sureCases_15 : decode cX8_sureCases 15 = .ok (.if_icmp .ge 24, 3) := by decide +kernel
theorem dX8_sureCases_18 : decode cX8_sureCases 18 = .ok (.aload_n 0, 1) := by decide +kernel
theorem dX8_sureCases_19 : decode cX8_sureCases 19 = .ok (.getfield 9, 3) := by decide +kernel
theorem dX8_sureCases_22 : decode cX8_sureCases 22 = .ok (.iload_n 3, 1) := by decide +kernel
theorem dX8_sureCases_23 : decode cX8_sureCases 23 = .ok (.iaload, 1) := by decide +kernel
theorem dX8_sureCases_24 : decode cX8_sureCases 24 = .ok (.iconst 1, 1) := by decide +kernel
theorem dX8_sureCases_25 : decode cX8_sureCases 25 = .ok (.iload_n 1, 1) := by decide +kernel
theorem dX8_sureCases_26 : decode cX8_sureCases 26 = .ok (.ishl, 1) := by decide +kernel
theorem dX8_sureCases_27 : decode cX8_sureCases 27 = .ok (.if_icmp .ne 6, 3) := by decide +kernel
theorem dX8_sureCases_30 : decode cX8_sureCases 30 = .ok (.iinc 2 1, 3) := by decide +kernel
theorem dX8_sureCases_33 : decode cX8_sureCases 33 = .ok (.iinc 3 1, 3) := by decide +kernel
theorem dX8_sureCases_36 : decode cX8_sureCases 36 = .ok (.goto (-32), 3) := by decide +kernel
theorem dX8_sureCases_39 : decode cX8_sureCases 39 = .ok (.iload_n 2, 1) := by decide +kernel
theorem dX8_sureCases_40 : decode cX8_sureCases 40 = .ok (.ireturn, 1) := by decide +kernel
def w_X8_sureCases_39  (v2 : Int32) (h : AH) (Q : Int32 → AH → Prop) : Prop :=
  Q v2 h
def w_X8_sureCases_33  (x39 : Int32 → AH → Prop) (k : Int32 → Int32 → AH → Prop) (v0 : Nat) (v1 : Int32) (v2 : Int32) (v3 : Int32) (h : AH) (Q : Int32 → AH → Prop) : Prop :=
  k v2 (v3 + 1) h
def w_X8_sureCases_4  (x39 : Int32 → AH → Prop) (k : Int32 → Int32 → AH → Prop) (v0 : Nat) (v1 : Int32) (v2 : Int32) (v3 : Int32) (h : AH) (Q : Int32 → AH → Prop) : Prop :=
  fN h v0 8 0 fun a1 =>
  fN h a1 7 3 fun a2 =>
  fI h a2 1 0 fun x3 =>
  br (x3 ≤ v3) (
    x39 v2 h) (
    fN h v0 8 1 fun a4 =>
    aI h a4 v3 fun x5 =>
    br (x5 = ((1 : Int32) <<< (v1 &&& 31))) (
      w_X8_sureCases_33 x39 k v0 v1 (v2 + 1) v3 h Q) (
      w_X8_sureCases_33 x39 k v0 v1 v2 v3 h Q))
def w_X8_sureCases  (v0 : Nat) (v1 : Int32) (h : AH) (Q : Int32 → AH → Prop) : Prop :=
  lp (fun (k2 : Int32 × Int32 × AH → Prop) (s2 : Int32 × Int32 × AH) => w_X8_sureCases_4  (fun (y2 : Int32) h => w_X8_sureCases_39 y2 h Q) (fun (y2 : Int32) (y3 : Int32) h => k2 (y2, y3, h)) v0 v1 s2.1 s2.2.1 s2.2.2 Q) ((0 : Int32), (0 : Int32), h)
set_option maxRecDepth 100000 in
set_option maxHeartbeats 4000000 in
theorem s_X8_sureCases_39 {p : Program} {l : Launch} {e : Env} {s : State} {m : MethodId} {args : Array Value} {below : List Frame} {meth : Method} {c : Code} {g : GG}  {Q : Int32 → AH → Prop}  (C : CXT p l s m args meth c RX8 cX8_sureCases 4 g) (hr : meth.sig.returnType = (some .int))  : ∀ (v2 : Int32) (h : AH), w_X8_sureCases_39  v2 h Q → V p l e s m args below meth c g 0 0 0 4 0 0 (MQ below (QCx g (QI Q)) args s 0 0 (gA g)) 39 [(2, .int v2)] [] h := by
  intro v2 h hw
  refine v_iload_n C dX8_sureCases_39 0 rfl rfl ?_
  exact (rt_MQ C _).1 _ _ _ _ _ _ hr dX8_sureCases_40 (by decide) (by decide) ⟨_, rfl, hw⟩
set_option maxRecDepth 100000 in
set_option maxHeartbeats 4000000 in
theorem s_X8_sureCases_33 {p : Program} {l : Launch} {e : Env} {s : State} {m : MethodId} {args : Array Value} {below : List Frame} {meth : Method} {c : Code} {g : GG} {v0 : Nat} {v1 : Int32} {Q : Int32 → AH → Prop} {x39 : Int32 → AH → Prop} {k : Int32 → Int32 → AH → Prop} (C : CXT p l s m args meth c RX8 cX8_sureCases 4 g) (hr : meth.sig.returnType = (some .int)) (hx39 : ∀ (y2 : Int32) (h : AH), x39 y2 h → V p l e s m args below meth c g 0 0 0 4 0 0 (MQ below (QCx g (QI Q)) args s 0 0 (gA g)) 39 [(2, .int y2)] [] h) (hk : ∀ (y2 : Int32) (y3 : Int32) (h : AH), k y2 y3 h → V p l e s m args below meth c g 0 0 0 4 0 0 (MQ below (QCx g (QI Q)) args s 0 0 (gA g)) 4 [(0, .ref v0), (1, .int v1), (2, .int y2), (3, .int y3)] [] h) : ∀ (v2 : Int32) (v3 : Int32) (h : AH), w_X8_sureCases_33  x39 k v0 v1 v2 v3 h Q → V p l e s m args below meth c g 0 0 0 4 0 0 (MQ below (QCx g (QI Q)) args s 0 0 (gA g)) 33 [(0, .ref v0), (1, .int v1), (2, .int v2), (3, .int v3)] [] h := by
  intro v2 v3 h hw
  refine v_iinc (v := 1) (ls' := [(3, .int (v3 + 1)), (0, .ref v0), (1, .int v1), (2, .int v2)]) C dX8_sureCases_33 3 rfl (by decide) (by decide) rfl ?_
  refine v_goto (tgt := 4) C dX8_sureCases_36 (by decide) ?_
  refine v_sub [1, 2, 3, 0] rfl ?_
  exact hk _ _ _ hw
set_option maxRecDepth 100000 in
set_option maxHeartbeats 4000000 in
theorem s_X8_sureCases_4 {p : Program} {l : Launch} {e : Env} {s : State} {m : MethodId} {args : Array Value} {below : List Frame} {meth : Method} {c : Code} {g : GG} {v0 : Nat} {v1 : Int32} {Q : Int32 → AH → Prop} {x39 : Int32 → AH → Prop} {k : Int32 → Int32 → AH → Prop} (C : CXT p l s m args meth c RX8 cX8_sureCases 4 g) (hr : meth.sig.returnType = (some .int)) (hx39 : ∀ (y2 : Int32) (h : AH), x39 y2 h → V p l e s m args below meth c g 0 0 0 4 0 0 (MQ below (QCx g (QI Q)) args s 0 0 (gA g)) 39 [(2, .int y2)] [] h) (hk : ∀ (y2 : Int32) (y3 : Int32) (h : AH), k y2 y3 h → V p l e s m args below meth c g 0 0 0 4 0 0 (MQ below (QCx g (QI Q)) args s 0 0 (gA g)) 4 [(0, .ref v0), (1, .int v1), (2, .int y2), (3, .int y3)] [] h) : ∀ (v2 : Int32) (v3 : Int32) (h : AH), w_X8_sureCases_4  x39 k v0 v1 v2 v3 h Q → V p l e s m args below meth c g 0 0 0 4 0 0 (MQ below (QCx g (QI Q)) args s 0 0 (gA g)) 4 [(0, .ref v0), (1, .int v1), (2, .int v2), (3, .int v3)] [] h := by
  intro v2 v3 h hw
  refine v_iload_n C dX8_sureCases_4 3 rfl rfl ?_
  refine v_aload_n C dX8_sureCases_5 0 rfl rfl ?_
  refine w_getN C fl_X8_33 dX8_sureCases_6 rfl hw (fun a1 hw => ?_)
  refine w_getN C fl_X8_37 dX8_sureCases_9 rfl hw (fun a2 hw => ?_)
  refine w_getI C fl_X8_49 dX8_sureCases_12 rfl hw (fun x3 hw => ?_)
  refine v_icmp_ge (tgt := 39) C dX8_sureCases_15 (by decide) (fun c_15 => ?_) (fun c_15 => ?_)
  · have hw := hw.1 c_15
    refine v_sub [2] rfl ?_
    exact hx39 _ _ hw
  · have hw := hw.2 c_15
    refine v_aload_n C dX8_sureCases_18 0 rfl rfl ?_
    refine w_getN C fl_X8_9 dX8_sureCases_19 rfl hw (fun a4 hw => ?_)
    refine v_iload_n C dX8_sureCases_22 3 rfl rfl ?_
    refine w_iaload C dX8_sureCases_23 hw (fun x5 hw => ?_)
    refine v_iconst (v := 1) C dX8_sureCases_24 (by decide) ?_
    refine v_iload_n C dX8_sureCases_25 1 rfl rfl ?_
    refine v_ishl C dX8_sureCases_26 ?_
    refine v_icmp_ne (tgt := 33) C dX8_sureCases_27 (by decide) (fun c_27 => ?_) (fun c_27 => ?_)
    · have hw := hw.2 c_27
      exact s_X8_sureCases_33 C hr hx39 hk _ _ _ hw
    · have hw := hw.1 c_27
      refine v_iinc (v := 1) (ls' := [(2, .int (v2 + 1)), (0, .ref v0), (1, .int v1), (3, .int v3)]) C dX8_sureCases_30 2 rfl (by decide) (by decide) rfl ?_
      refine v_sub [1, 2, 0, 3] rfl ?_
      exact s_X8_sureCases_33 C hr hx39 hk _ _ _ hw
set_option maxRecDepth 100000 in
set_option maxHeartbeats 4000000 in
theorem s_X8_sureCases {l : Launch}  {v0 : Nat} {v1 : Int32} {h : AH} {Q : Int32 → AH → Prop}  (hw : w_X8_sureCases  v0 v1 h Q) : CT l yX8_sureCases cX8_sureCases 4 (some .int) 0 0 0 [.ref v0, .int v1] h (QI Q) := by
  refine CT.of (by decide) ⟨rfl, ⟨rfl, trivial⟩⟩ (Nat.le_of_ble_eq_true rfl) ?_
  intro p e s m args below meth c g C hr hin
  refine v_eq (pc' := 0) (ls' := [(0, .ref v0), (1, .int v1)]) rfl rfl rfl rfl ?_
  refine v_iconst (v := 0) C dX8_sureCases_0 (by decide) ?_
  refine v_istore_n (ls' := [(2, .int (0 : Int32)), (0, .ref v0), (1, .int v1)]) C dX8_sureCases_1 rfl (by decide) rfl ?_
  refine v_iconst (v := 0) C dX8_sureCases_2 (by decide) ?_
  refine v_istore_n (ls' := [(3, .int (0 : Int32)), (2, .int (0 : Int32)), (0, .ref v0), (1, .int v1)]) C dX8_sureCases_3 rfl (by decide) rfl ?_
  refine v_sub [2, 3, 1, 0] rfl ?_
  refine lp_walk (P := fun (s' : Int32 × Int32 × AH) => V p l e s m args below meth c g 0 0 0 4 0 0 (MQ below (QCx g (QI Q)) args s 0 0 (gA g)) 4 [(0, .ref v0), (1, .int v1), (2, .int (s'.1)), (3, .int (s'.2.1))] [] s'.2.2) (fun k2 hk2 s' hw => ?_) ((0 : Int32), (0 : Int32), h) hw
  exact s_X8_sureCases_4 C hr (fun y2 h hw => s_X8_sureCases_39 C hr  _ h hw) (fun y2 y3 h hw => hk2 (y2, y3, h) hw) _ _ _ hw
-- GrassField$Study.minutesOf(II)I
theorem dX8_minutesOf_0 : decode cX8_minutesOf 0 = .ok (.iconst 0, 1) := by decide +kernel
theorem dX8_minutesOf_1 : decode cX8_minutesOf 1 = .ok (.istore_n 3, 1) := by decide +kernel
theorem dX8_minutesOf_2 : decode cX8_minutesOf 2 = .ok (.iconst 0, 1) := by decide +kernel
theorem dX8_minutesOf_3 : decode cX8_minutesOf 3 = .ok (.istore 4, 2) := by decide +kernel
theorem dX8_minutesOf_5 : decode cX8_minutesOf 5 = .ok (.iload 4, 2) := by decide +kernel
theorem dX8_minutesOf_7 : decode cX8_minutesOf 7 = .ok (.aload_n 0, 1) := by decide +kernel
theorem dX8_minutesOf_8 : decode cX8_minutesOf 8 = .ok (.getfield 33, 3) := by decide +kernel
theorem dX8_minutesOf_11 : decode cX8_minutesOf 11 = .ok (.getfield 77, 3) := by decide +kernel
theorem dX8_minutesOf_14 : decode cX8_minutesOf 14 = .ok (.getfield 81, 3) := by decide +kernel
theorem dX8_minutesOf_17 : decode cX8_minutesOf 17 = .ok (.if_icmp .ge 43, 3) := by decide +kernel
theorem dX8_minutesOf_20 : decode cX8_minutesOf 20 = .ok (.aload_n 0, 1) := by decide +kernel
theorem dX8_minutesOf_21 : decode cX8_minutesOf 21 = .ok (.getfield 33, 3) := by decide +kernel
theorem dX8_minutesOf_24 : decode cX8_minutesOf 24 = .ok (.getfield 77, 3) := by decide +kernel
theorem dX8_minutesOf_27 : decode cX8_minutesOf 27 = .ok (.getfield 160, 3) := by decide +kernel
theorem dX8_minutesOf_30 : decode cX8_minutesOf 30 = .ok (.iload 4, 2) := by decide +kernel
theorem dX8_minutesOf_32 : decode cX8_minutesOf 32 = .ok (.iaload, 1) := by decide +kernel
theorem dX8_minutesOf_33 : decode cX8_minutesOf 33 = .ok (.iload_n 1, 1) := by decide +kernel
theorem dX8_minutesOf_34 : decode cX8_minutesOf 34 = .ok (.if_icmp .ne 20, 3) := by decide +kernel
theorem dX8_minutesOf_37 : decode cX8_minutesOf 37 = .ok (.iload_n 3, 1) := by decide +kernel
theorem dX8_minutesOf_38 : decode cX8_minutesOf 38 = .ok (.aload_n 0, 1) := by decide +kernel
theorem dX8_minutesOf_39 : decode cX8_minutesOf 39 = .ok (.iload 4, 2) := by decide +kernel
theorem dX8_minutesOf_41 : decode cX8_minutesOf 41 = .ok (.invokevirtual 163, 3) := by decide +kernel
theorem dX8_minutesOf_44 : decode cX8_minutesOf 44 = .ok (.iload_n 2, 1) := by decide +kernel
theorem dX8_minutesOf_45 : decode cX8_minutesOf 45 = .ok (.iadd, 1) := by decide +kernel
theorem dX8_minutesOf_46 : decode cX8_minutesOf 46 = .ok (.iconst 1, 1) := by decide +kernel
theorem dX8_minutesOf_47 : decode cX8_minutesOf 47 = .ok (.isub, 1) := by decide +kernel
theorem dX8_minutesOf_48 : decode cX8_minutesOf 48 = .ok (.iload_n 2, 1) := by decide +kernel
theorem dX8_minutesOf_49 : decode cX8_minutesOf 49 = .ok (.idiv, 1) := by decide +kernel
theorem dX8_minutesOf_50 : decode cX8_minutesOf 50 = .ok (.invokestatic 139, 3) := by decide +kernel
theorem dX8_minutesOf_53 : decode cX8_minutesOf 53 = .ok (.istore_n 3, 1) := by decide +kernel
theorem dX8_minutesOf_54 : decode cX8_minutesOf 54 = .ok (.iinc 4 1, 3) := by decide +kernel
theorem dX8_minutesOf_57 : decode cX8_minutesOf 57 = .ok (.goto (-52), 3) := by decide +kernel
theorem dX8_minutesOf_60 : decode cX8_minutesOf 60 = .ok (.iload_n 3, 1) := by decide +kernel
theorem dX8_minutesOf_61 : decode cX8_minutesOf 61 = .ok (.ireturn, 1) := by decide +kernel
def w_X8_minutesOf_60  (v3 : Int32) (h : AH) (Q : Int32 → AH → Prop) : Prop :=
  Q v3 h
def w_X8_minutesOf_54  (x60 : Int32 → AH → Prop) (k : Int32 → Int32 → AH → Prop) (v0 : Nat) (v1 : Int32) (v2 : Int32) (v3 : Int32) (v4 : Int32) (h : AH) (Q : Int32 → AH → Prop) : Prop :=
  k v3 (v4 + 1) h
def w_X8_minutesOf_5  (x60 : Int32 → AH → Prop) (k : Int32 → Int32 → AH → Prop) (v0 : Nat) (v1 : Int32) (v2 : Int32) (v3 : Int32) (v4 : Int32) (h : AH) (Q : Int32 → AH → Prop) : Prop :=
  fN h v0 8 0 fun a1 =>
  fN h a1 7 1 fun a2 =>
  fI h a2 2 0 fun x3 =>
  br (x3 ≤ v4) (
    x60 v3 h) (
    fN h v0 8 0 fun a4 =>
    fN h a4 7 1 fun a5 =>
    fN h a5 2 1 fun a6 =>
    aI h a6 v4 fun x7 =>
    br (x7 = v1) (
      vr h v0 8 (
      w_X8_sureCases v0 v4 h (fun x8 h =>
      dv v2 (
      bd (jmax v3 (((x8 + v2) - (1 : Int32)) / v2)) fun x9 =>
      w_X8_minutesOf_54 x60 k v0 v1 v2 x9 v4 h Q)))) (
      w_X8_minutesOf_54 x60 k v0 v1 v2 v3 v4 h Q))
def w_X8_minutesOf  (v0 : Nat) (v1 : Int32) (v2 : Int32) (h : AH) (Q : Int32 → AH → Prop) : Prop :=
  lp (fun (k2 : Int32 × Int32 × AH → Prop) (s2 : Int32 × Int32 × AH) => w_X8_minutesOf_5  (fun (y3 : Int32) h => w_X8_minutesOf_60 y3 h Q) (fun (y3 : Int32) (y4 : Int32) h => k2 (y3, y4, h)) v0 v1 v2 s2.1 s2.2.1 s2.2.2 Q) ((0 : Int32), (0 : Int32), h)
set_option maxRecDepth 100000 in
set_option maxHeartbeats 4000000 in
theorem s_X8_minutesOf_60 {p : Program} {l : Launch} {e : Env} {s : State} {m : MethodId} {args : Array Value} {below : List Frame} {meth : Method} {c : Code} {g : GG}  {Q : Int32 → AH → Prop}  (C : CXT p l s m args meth c RX8 cX8_minutesOf 5 g) (hr : meth.sig.returnType = (some .int))  : ∀ (v3 : Int32) (h : AH), w_X8_minutesOf_60  v3 h Q → V p l e s m args below meth c g 1 0 0 5 0 0 (MQ below (QCx g (QI Q)) args s 0 0 (gA g)) 60 [(3, .int v3)] [] h := by
  intro v3 h hw
  refine v_iload_n C dX8_minutesOf_60 0 rfl rfl ?_
  exact (rt_MQ C _).1 _ _ _ _ _ _ hr dX8_minutesOf_61 (by decide) (by decide) ⟨_, rfl, hw⟩
set_option maxRecDepth 100000 in
set_option maxHeartbeats 4000000 in
theorem s_X8_minutesOf_54 {p : Program} {l : Launch} {e : Env} {s : State} {m : MethodId} {args : Array Value} {below : List Frame} {meth : Method} {c : Code} {g : GG} {v0 : Nat} {v1 : Int32} {v2 : Int32} {Q : Int32 → AH → Prop} {x60 : Int32 → AH → Prop} {k : Int32 → Int32 → AH → Prop} (C : CXT p l s m args meth c RX8 cX8_minutesOf 5 g) (hr : meth.sig.returnType = (some .int)) (hx60 : ∀ (y3 : Int32) (h : AH), x60 y3 h → V p l e s m args below meth c g 1 0 0 5 0 0 (MQ below (QCx g (QI Q)) args s 0 0 (gA g)) 60 [(3, .int y3)] [] h) (hk : ∀ (y3 : Int32) (y4 : Int32) (h : AH), k y3 y4 h → V p l e s m args below meth c g 1 0 0 5 0 0 (MQ below (QCx g (QI Q)) args s 0 0 (gA g)) 5 [(0, .ref v0), (1, .int v1), (2, .int v2), (3, .int y3), (4, .int y4)] [] h) : ∀ (v3 : Int32) (v4 : Int32) (h : AH), w_X8_minutesOf_54  x60 k v0 v1 v2 v3 v4 h Q → V p l e s m args below meth c g 1 0 0 5 0 0 (MQ below (QCx g (QI Q)) args s 0 0 (gA g)) 54 [(0, .ref v0), (1, .int v1), (2, .int v2), (3, .int v3), (4, .int v4)] [] h := by
  intro v3 v4 h hw
  refine v_iinc (v := 1) (ls' := [(4, .int (v4 + 1)), (0, .ref v0), (1, .int v1), (2, .int v2), (3, .int v3)]) C dX8_minutesOf_54 4 rfl (by decide) (by decide) rfl ?_
  refine v_goto (tgt := 5) C dX8_minutesOf_57 (by decide) ?_
  refine v_sub [1, 2, 3, 4, 0] rfl ?_
  exact hk _ _ _ hw
set_option maxRecDepth 100000 in
set_option maxHeartbeats 4000000 in
theorem s_X8_minutesOf_5 {p : Program} {l : Launch} {e : Env} {s : State} {m : MethodId} {args : Array Value} {below : List Frame} {meth : Method} {c : Code} {g : GG} {v0 : Nat} {v1 : Int32} {v2 : Int32} {Q : Int32 → AH → Prop} {x60 : Int32 → AH → Prop} {k : Int32 → Int32 → AH → Prop} (C : CXT p l s m args meth c RX8 cX8_minutesOf 5 g) (hr : meth.sig.returnType = (some .int)) (hx60 : ∀ (y3 : Int32) (h : AH), x60 y3 h → V p l e s m args below meth c g 1 0 0 5 0 0 (MQ below (QCx g (QI Q)) args s 0 0 (gA g)) 60 [(3, .int y3)] [] h) (hk : ∀ (y3 : Int32) (y4 : Int32) (h : AH), k y3 y4 h → V p l e s m args below meth c g 1 0 0 5 0 0 (MQ below (QCx g (QI Q)) args s 0 0 (gA g)) 5 [(0, .ref v0), (1, .int v1), (2, .int v2), (3, .int y3), (4, .int y4)] [] h) : ∀ (v3 : Int32) (v4 : Int32) (h : AH), w_X8_minutesOf_5  x60 k v0 v1 v2 v3 v4 h Q → V p l e s m args below meth c g 1 0 0 5 0 0 (MQ below (QCx g (QI Q)) args s 0 0 (gA g)) 5 [(0, .ref v0), (1, .int v1), (2, .int v2), (3, .int v3), (4, .int v4)] [] h := by
  intro v3 v4 h hw
  refine v_iload C dX8_minutesOf_5 4 rfl ?_
  refine v_aload_n C dX8_minutesOf_7 0 rfl rfl ?_
  refine w_getN C fl_X8_33 dX8_minutesOf_8 rfl hw (fun a1 hw => ?_)
  refine w_getN C fl_X8_77 dX8_minutesOf_11 rfl hw (fun a2 hw => ?_)
  refine w_getI C fl_X8_81 dX8_minutesOf_14 rfl hw (fun x3 hw => ?_)
  refine v_icmp_ge (tgt := 60) C dX8_minutesOf_17 (by decide) (fun c_17 => ?_) (fun c_17 => ?_)
  · have hw := hw.1 c_17
    refine v_sub [3] rfl ?_
    exact hx60 _ _ hw
  · have hw := hw.2 c_17
    refine v_aload_n C dX8_minutesOf_20 0 rfl rfl ?_
    refine w_getN C fl_X8_33 dX8_minutesOf_21 rfl hw (fun a4 hw => ?_)
    refine w_getN C fl_X8_77 dX8_minutesOf_24 rfl hw (fun a5 hw => ?_)
    refine w_getN C fl_X8_160 dX8_minutesOf_27 rfl hw (fun a6 hw => ?_)
    refine v_iload C dX8_minutesOf_30 4 rfl ?_
    refine w_iaload C dX8_minutesOf_32 hw (fun x7 hw => ?_)
    refine v_iload_n C dX8_minutesOf_33 1 rfl rfl ?_
    refine v_icmp_ne (tgt := 54) C dX8_minutesOf_34 (by decide) (fun c_34 => ?_) (fun c_34 => ?_)
    · have hw := hw.2 c_34
      exact s_X8_minutesOf_54 C hr hx60 hk _ _ _ hw
    · have hw := hw.1 c_34
      refine v_iload_n C dX8_minutesOf_37 3 rfl rfl ?_
      refine v_aload_n C dX8_minutesOf_38 0 rfl rfl ?_
      refine v_iload C dX8_minutesOf_39 4 rfl ?_
      refine w_callVi (st := [.int v3]) C cl_X8_163 im_X8_sureCases se_X8_sureCases rfl hw.1 (s_X8_sureCases hw.2) rfl dX8_minutesOf_41 rfl (Nat.le_of_ble_eq_true rfl) (by decide) (by decide) (by decide) (by decide) (fun x8 h hw => ?_)
      refine v_iload_n C dX8_minutesOf_44 2 rfl rfl ?_
      refine v_iadd C dX8_minutesOf_45 ?_
      refine v_iconst (v := 1) C dX8_minutesOf_46 (by decide) ?_
      refine v_isub C dX8_minutesOf_47 ?_
      refine v_iload_n C dX8_minutesOf_48 2 rfl rfl ?_
      refine w_idiv C dX8_minutesOf_49 hw (fun hw => ?_)
      refine v_max C ml_X8_139 ms_max mi_math mc_max dX8_minutesOf_50 (by decide) (by decide) (by decide) (by decide) ?_
      refine w_bd hw (fun x9 hw => ?_)
      refine v_istore_n (ls' := [(3, .int x9), (0, .ref v0), (1, .int v1), (2, .int v2), (4, .int v4)]) C dX8_minutesOf_53 rfl (by decide) rfl ?_
      refine v_sub [1, 2, 3, 0, 4] rfl ?_
      exact s_X8_minutesOf_54 C hr hx60 hk _ _ _ hw
set_option maxRecDepth 100000 in
set_option maxHeartbeats 4000000 in
theorem s_X8_minutesOf {l : Launch}  {v0 : Nat} {v1 : Int32} {v2 : Int32} {h : AH} {Q : Int32 → AH → Prop}  (hw : w_X8_minutesOf  v0 v1 v2 h Q) : CT l yX8_minutesOf cX8_minutesOf 5 (some .int) 1 0 0 [.ref v0, .int v1, .int v2] h (QI Q) := by
  refine CT.of (by decide) ⟨rfl, ⟨rfl, ⟨rfl, trivial⟩⟩⟩ (Nat.le_of_ble_eq_true rfl) ?_
  intro p e s m args below meth c g C hr hin
  refine v_eq (pc' := 0) (ls' := [(0, .ref v0), (1, .int v1), (2, .int v2)]) rfl rfl rfl rfl ?_
  refine v_iconst (v := 0) C dX8_minutesOf_0 (by decide) ?_
  refine v_istore_n (ls' := [(3, .int (0 : Int32)), (0, .ref v0), (1, .int v1), (2, .int v2)]) C dX8_minutesOf_1 rfl (by decide) rfl ?_
  refine v_iconst (v := 0) C dX8_minutesOf_2 (by decide) ?_
  refine v_istore (ls' := [(4, .int (0 : Int32)), (3, .int (0 : Int32)), (0, .ref v0), (1, .int v1), (2, .int v2)]) C dX8_minutesOf_3 (by decide) rfl ?_
  refine v_sub [2, 3, 4, 1, 0] rfl ?_
  refine lp_walk (P := fun (s' : Int32 × Int32 × AH) => V p l e s m args below meth c g 1 0 0 5 0 0 (MQ below (QCx g (QI Q)) args s 0 0 (gA g)) 5 [(0, .ref v0), (1, .int v1), (2, .int v2), (3, .int (s'.1)), (4, .int (s'.2.1))] [] s'.2.2) (fun k2 hk2 s' hw => ?_) ((0 : Int32), (0 : Int32), h) hw
  exact s_X8_minutesOf_5 C hr (fun y3 h hw => s_X8_minutesOf_60 C hr  _ h hw) (fun y3 y4 h hw => hk2 (y3, y4, h) hw) _ _ _ hw
-- GrassField$Study.modernCases()I
theorem dX8_modernCases_0 : decode cX8_modernCases 0 = .ok (.aload_n 0, 1) := by decide +kernel
theorem dX8_modernCases_1 : decode cX8_modernCases 1 = .ok (.getfield 33, 3) := by decide +kernel
theorem dX8_modernCases_4 : decode cX8_modernCases 4 = .ok (.getfield 77, 3) := by decide +kernel
theorem dX8_modernCases_7 : decode cX8_modernCases 7 = .ok (.aload_n 0, 1) := by decide +kernel
theorem dX8_modernCases_8 : decode cX8_modernCases 8 = .ok (.getfield 33, 3) := by decide +kernel
theorem dX8_modernCases_11 : decode cX8_modernCases 11 = .ok (.getfield 99, 3) := by decide +kernel
theorem dX8_modernCases_14 : decode cX8_modernCases 14 = .ok (.invokevirtual 102, 3) := by decide +kernel
theorem dX8_modernCases_17 : decode cX8_modernCases 17 = .ok (.istore_n 1, 1) := by decide +kernel
theorem dX8_modernCases_18 : decode cX8_modernCases 18 = .ok (.iconst 0, 1) := by decide +kernel
theorem dX8_modernCases_19 : decode cX8_modernCases 19 = .ok (.istore_n 2, 1) := by decide +kernel
theorem dX8_modernCases_20 : decode cX8_modernCases 20 = .ok (.iconst 0, 1) := by decide +kernel
theorem dX8_modernCases_21 : decode cX8_modernCases 21 = .ok (.istore_n 3, 1) := by decide +kernel
theorem dX8_modernCases_22 : decode cX8_modernCases 22 = .ok (.iload_n 3, 1) := by decide +kernel
theorem dX8_modernCases_23 : decode cX8_modernCases 23 = .ok (.aload_n 0, 1) := by decide +kernel
theorem dX8_modernCases_24 : decode cX8_modernCases 24 = .ok (.getfield 33, 3) := by decide +kernel
theorem dX8_modernCases_27 : decode cX8_modernCases 27 = .ok (.getfield 37, 3) := by decide +kernel
theorem dX8_modernCases_30 : decode cX8_modernCases 30 = .ok (.getfield 49, 3) := by decide +kernel
theorem dX8_modernCases_33 : decode cX8_modernCases 33 = .ok (.if_icmp .ge 34, 3) := by decide +kernel
theorem dX8_modernCases_36 : decode cX8_modernCases 36 = .ok (.aload_n 0, 1) := by decide +kernel
theorem dX8_modernCases_37 : decode cX8_modernCases 37 = .ok (.getfield 9, 3) := by decide +kernel
theorem dX8_modernCases_40 : decode cX8_modernCases 40 = .ok (.iload_n 3, 1) := by decide +kernel
theorem dX8_modernCases_41 : decode cX8_modernCases 41 = .ok (.iaload, 1) := by decide +kernel
theorem dX8_modernCases_42 : decode cX8_modernCases 42 = .ok (.ifCond .le 19, 3) := by decide +kernel
theorem dX8_modernCases_45 : decode cX8_modernCases 45 = .ok (.aload_n 0, 1) := by decide +kernel
theorem dX8_modernCases_46 : decode cX8_modernCases 46 = .ok (.getfield 9, 3) := by decide +kernel
theorem dX8_modernCases_49 : decode cX8_modernCases 49 = .ok (.iload_n 3, 1) := by decide +kernel
theorem dX8_modernCases_50 : decode cX8_modernCases 50 = .ok (.iaload, 1) := by decide +kernel
theorem dX8_modernCases_51 : decode cX8_modernCases 51 = .ok (.iload_n 1, 1) := by decide +kernel
theorem dX8_modernCases_52 : decode cX8_modernCases 52 = .ok (.iconst (-1), 1) := by decide +kernel
theorem dX8_modernCases_53 : decode cX8_modernCases 53 = .ok (.ixor, 1) := by decide +kernel
theorem dX8_modernCases_54 : decode cX8_modernCases 54 = .ok (.iand, 1) := by decide +kernel
theorem dX8_modernCases_55 : decode cX8_modernCases 55 = .ok (.ifCond .ne 6, 3) := by decide +kernel
theorem dX8_modernCases_58 : decode cX8_modernCases 58 = .ok (.iinc 2 1, 3) := by decide +kernel
theorem dX8_modernCases_61 : decode cX8_modernCases 61 = .ok (.iinc 3 1, 3) := by decide +kernel
theorem dX8_modernCases_64 : decode cX8_modernCases 64 = .ok (.goto (-42), 3) := by decide +kernel
theorem dX8_modernCases_67 : decode cX8_modernCases 67 = .ok (.iload_n 2, 1) := by decide +kernel
theorem dX8_modernCases_68 : decode cX8_modernCases 68 = .ok (.ireturn, 1) := by decide +kernel
def w_X8_modernCases_67  (v2 : Int32) (h : AH) (Q : Int32 → AH → Prop) : Prop :=
  Q v2 h
def w_X8_modernCases_61  (x67 : Int32 → AH → Prop) (k : Int32 → Int32 → AH → Prop) (v0 : Nat) (v1 : Int32) (v2 : Int32) (v3 : Int32) (h : AH) (Q : Int32 → AH → Prop) : Prop :=
  k v2 (v3 + 1) h
def w_X8_modernCases_22  (x67 : Int32 → AH → Prop) (k : Int32 → Int32 → AH → Prop) (v0 : Nat) (v1 : Int32) (v2 : Int32) (v3 : Int32) (h : AH) (Q : Int32 → AH → Prop) : Prop :=
  fN h v0 8 0 fun a1 =>
  fN h a1 7 3 fun a2 =>
  fI h a2 1 0 fun x3 =>
  br (x3 ≤ v3) (
    x67 v2 h) (
    fN h v0 8 1 fun a4 =>
    aI h a4 v3 fun x5 =>
    br (x5 ≤ 0) (
      w_X8_modernCases_61 x67 k v0 v1 v2 v3 h Q) (
      fN h v0 8 1 fun a6 =>
      aI h a6 v3 fun x7 =>
      br ((x7 &&& (v1 ^^^ (-1 : Int32))) = 0) (
        w_X8_modernCases_61 x67 k v0 v1 (v2 + 1) v3 h Q) (
        w_X8_modernCases_61 x67 k v0 v1 v2 v3 h Q)))
def w_X8_modernCases  (v0 : Nat) (h : AH) (Q : Int32 → AH → Prop) : Prop :=
  fN h v0 8 0 fun a1 =>
  fN h a1 7 1 fun a2 =>
  fN h v0 8 0 fun a3 =>
  fI h a3 7 10 fun x4 =>
  vr h a2 2 (
  w_X2_madeBehind a2 x4 h (fun x5 h =>
  lp (fun (k2 : Int32 × Int32 × AH → Prop) (s2 : Int32 × Int32 × AH) => w_X8_modernCases_22  (fun (y2 : Int32) h => w_X8_modernCases_67 y2 h Q) (fun (y2 : Int32) (y3 : Int32) h => k2 (y2, y3, h)) v0 x5 s2.1 s2.2.1 s2.2.2 Q) ((0 : Int32), (0 : Int32), h)))
set_option maxRecDepth 100000 in
set_option maxHeartbeats 4000000 in
theorem s_X8_modernCases_67 {p : Program} {l : Launch} {e : Env} {s : State} {m : MethodId} {args : Array Value} {below : List Frame} {meth : Method} {c : Code} {g : GG}  {Q : Int32 → AH → Prop}  (C : CXT p l s m args meth c RX8 cX8_modernCases 4 g) (hr : meth.sig.returnType = (some .int))  : ∀ (v2 : Int32) (h : AH), w_X8_modernCases_67  v2 h Q → V p l e s m args below meth c g 1 0 0 4 0 0 (MQ below (QCx g (QI Q)) args s 0 0 (gA g)) 67 [(2, .int v2)] [] h := by
  intro v2 h hw
  refine v_iload_n C dX8_modernCases_67 0 rfl rfl ?_
  exact (rt_MQ C _).1 _ _ _ _ _ _ hr dX8_modernCases_68 (by decide) (by decide) ⟨_, rfl, hw⟩
set_option maxRecDepth 100000 in
set_option maxHeartbeats 4000000 in
theorem s_X8_modernCases_61 {p : Program} {l : Launch} {e : Env} {s : State} {m : MethodId} {args : Array Value} {below : List Frame} {meth : Method} {c : Code} {g : GG} {v0 : Nat} {v1 : Int32} {Q : Int32 → AH → Prop} {x67 : Int32 → AH → Prop} {k : Int32 → Int32 → AH → Prop} (C : CXT p l s m args meth c RX8 cX8_modernCases 4 g) (hr : meth.sig.returnType = (some .int)) (hx67 : ∀ (y2 : Int32) (h : AH), x67 y2 h → V p l e s m args below meth c g 1 0 0 4 0 0 (MQ below (QCx g (QI Q)) args s 0 0 (gA g)) 67 [(2, .int y2)] [] h) (hk : ∀ (y2 : Int32) (y3 : Int32) (h : AH), k y2 y3 h → V p l e s m args below meth c g 1 0 0 4 0 0 (MQ below (QCx g (QI Q)) args s 0 0 (gA g)) 22 [(0, .ref v0), (1, .int v1), (2, .int y2), (3, .int y3)] [] h) : ∀ (v2 : Int32) (v3 : Int32) (h : AH), w_X8_modernCases_61  x67 k v0 v1 v2 v3 h Q → V p l e s m args below meth c g 1 0 0 4 0 0 (MQ below (QCx g (QI Q)) args s 0 0 (gA g)) 61 [(0, .ref v0), (1, .int v1), (2, .int v2), (3, .int v3)] [] h := by
  intro v2 v3 h hw
  refine v_iinc (v := 1) (ls' := [(3, .int (v3 + 1)), (0, .ref v0), (1, .int v1), (2, .int v2)]) C dX8_modernCases_61 3 rfl (by decide) (by decide) rfl ?_
  refine v_goto (tgt := 22) C dX8_modernCases_64 (by decide) ?_
  refine v_sub [1, 2, 3, 0] rfl ?_
  exact hk _ _ _ hw
set_option maxRecDepth 100000 in
set_option maxHeartbeats 4000000 in
theorem s_X8_modernCases_22 {p : Program} {l : Launch} {e : Env} {s : State} {m : MethodId} {args : Array Value} {below : List Frame} {meth : Method} {c : Code} {g : GG} {v0 : Nat} {v1 : Int32} {Q : Int32 → AH → Prop} {x67 : Int32 → AH → Prop} {k : Int32 → Int32 → AH → Prop} (C : CXT p l s m args meth c RX8 cX8_modernCases 4 g) (hr : meth.sig.returnType = (some .int)) (hx67 : ∀ (y2 : Int32) (h : AH), x67 y2 h → V p l e s m args below meth c g 1 0 0 4 0 0 (MQ below (QCx g (QI Q)) args s 0 0 (gA g)) 67 [(2, .int y2)] [] h) (hk : ∀ (y2 : Int32) (y3 : Int32) (h : AH), k y2 y3 h → V p l e s m args below meth c g 1 0 0 4 0 0 (MQ below (QCx g (QI Q)) args s 0 0 (gA g)) 22 [(0, .ref v0), (1, .int v1), (2, .int y2), (3, .int y3)] [] h) : ∀ (v2 : Int32) (v3 : Int32) (h : AH), w_X8_modernCases_22  x67 k v0 v1 v2 v3 h Q → V p l e s m args below meth c g 1 0 0 4 0 0 (MQ below (QCx g (QI Q)) args s 0 0 (gA g)) 22 [(0, .ref v0), (1, .int v1), (2, .int v2), (3, .int v3)] [] h := by
  intro v2 v3 h hw
  refine v_iload_n C dX8_modernCases_22 3 rfl rfl ?_
  refine v_aload_n C dX8_modernCases_23 0 rfl rfl ?_
  refine w_getN C fl_X8_33 dX8_modernCases_24 rfl hw (fun a1 hw => ?_)
  refine w_getN C fl_X8_37 dX8_modernCases_27 rfl hw (fun a2 hw => ?_)
  refine w_getI C fl_X8_49 dX8_modernCases_30 rfl hw (fun x3 hw => ?_)
  refine v_icmp_ge (tgt := 67) C dX8_modernCases_33 (by decide) (fun c_33 => ?_) (fun c_33 => ?_)
  · have hw := hw.1 c_33
    refine v_sub [2] rfl ?_
    exact hx67 _ _ hw
  · have hw := hw.2 c_33
    refine v_aload_n C dX8_modernCases_36 0 rfl rfl ?_
    refine w_getN C fl_X8_9 dX8_modernCases_37 rfl hw (fun a4 hw => ?_)
    refine v_iload_n C dX8_modernCases_40 3 rfl rfl ?_
    refine w_iaload C dX8_modernCases_41 hw (fun x5 hw => ?_)
    refine v_if_le (tgt := 61) C dX8_modernCases_42 (by decide) (fun c_42 => ?_) (fun c_42 => ?_)
    · have hw := hw.1 c_42
      exact s_X8_modernCases_61 C hr hx67 hk _ _ _ hw
    · have hw := hw.2 c_42
      refine v_aload_n C dX8_modernCases_45 0 rfl rfl ?_
      refine w_getN C fl_X8_9 dX8_modernCases_46 rfl hw (fun a6 hw => ?_)
      refine v_iload_n C dX8_modernCases_49 3 rfl rfl ?_
      refine w_iaload C dX8_modernCases_50 hw (fun x7 hw => ?_)
      refine v_iload_n C dX8_modernCases_51 1 rfl rfl ?_
      refine v_iconst (v := -1) C dX8_modernCases_52 (by decide) ?_
      refine v_ixor C dX8_modernCases_53 ?_
      refine v_iand C dX8_modernCases_54 ?_
      refine v_if_ne (tgt := 61) C dX8_modernCases_55 (by decide) (fun c_55 => ?_) (fun c_55 => ?_)
      · have hw := hw.2 c_55
        exact s_X8_modernCases_61 C hr hx67 hk _ _ _ hw
      · have hw := hw.1 c_55
        refine v_iinc (v := 1) (ls' := [(2, .int (v2 + 1)), (0, .ref v0), (1, .int v1), (3, .int v3)]) C dX8_modernCases_58 2 rfl (by decide) (by decide) rfl ?_
        refine v_sub [1, 2, 0, 3] rfl ?_
        exact s_X8_modernCases_61 C hr hx67 hk _ _ _ hw
set_option maxRecDepth 100000 in
set_option maxHeartbeats 4000000 in
theorem s_X8_modernCases {l : Launch}  {v0 : Nat} {h : AH} {Q : Int32 → AH → Prop}  (hw : w_X8_modernCases  v0 h Q) : CT l yX8_modernCases cX8_modernCases 4 (some .int) 1 0 0 [.ref v0] h (QI Q) := by
  refine CT.of (by decide) ⟨rfl, trivial⟩ (Nat.le_of_ble_eq_true rfl) ?_
  intro p e s m args below meth c g C hr hin
  refine v_eq (pc' := 0) (ls' := [(0, .ref v0)]) rfl rfl rfl rfl ?_
  refine v_aload_n C dX8_modernCases_0 0 rfl rfl ?_
  refine w_getN C fl_X8_33 dX8_modernCases_1 rfl hw (fun a1 hw => ?_)
  refine w_getN C fl_X8_77 dX8_modernCases_4 rfl hw (fun a2 hw => ?_)
  refine v_aload_n C dX8_modernCases_7 0 rfl rfl ?_
  refine w_getN C fl_X8_33 dX8_modernCases_8 rfl hw (fun a3 hw => ?_)
  refine w_getI C fl_X8_99 dX8_modernCases_11 rfl hw (fun x4 hw => ?_)
  refine w_callVi (st := []) C cl_X8_102 im_X2_madeBehind se_X2_madeBehind rfl hw.1 (s_X2_madeBehind hw.2) rfl dX8_modernCases_14 rfl (by decide) (by decide) (by decide) (by decide) (by decide) (fun x5 h hw => ?_)
  refine v_istore_n (ls' := [(1, .int x5), (0, .ref v0)]) C dX8_modernCases_17 rfl (by decide) rfl ?_
  refine v_iconst (v := 0) C dX8_modernCases_18 (by decide) ?_
  refine v_istore_n (ls' := [(2, .int (0 : Int32)), (1, .int x5), (0, .ref v0)]) C dX8_modernCases_19 rfl (by decide) rfl ?_
  refine v_iconst (v := 0) C dX8_modernCases_20 (by decide) ?_
  refine v_istore_n (ls' := [(3, .int (0 : Int32)), (2, .int (0 : Int32)), (1, .int x5), (0, .ref v0)]) C dX8_modernCases_21 rfl (by decide) rfl ?_
  refine v_sub [3, 2, 1, 0] rfl ?_
  refine lp_walk (P := fun (s' : Int32 × Int32 × AH) => V p l e s m args below meth c g 1 0 0 4 0 0 (MQ below (QCx g (QI Q)) args s 0 0 (gA g)) 22 [(0, .ref v0), (1, .int x5), (2, .int (s'.1)), (3, .int (s'.2.1))] [] s'.2.2) (fun k2 hk2 s' hw => ?_) ((0 : Int32), (0 : Int32), h) hw
  exact s_X8_modernCases_22 C hr (fun y2 h hw => s_X8_modernCases_67 C hr  _ h hw) (fun y2 y3 h hw => hk2 (y2, y3, h) hw) _ _ _ hw
-- GrassField$Study.nobodyTalked(I)Z
theorem dX8_nobodyTalked_0 : decode cX8_nobodyTalked 0 = .ok (.iconst 0, 1) := by decide +kernel
theorem dX8_nobodyTalked_1 : decode cX8_nobodyTalked 1 = .ok (.istore_n 2, 1) := by decide +kernel
theorem dX8_nobodyTalked_2 : decode cX8_nobodyTalked 2 = .ok (.iload_n 2, 1) := by decide +kernel
theorem dX8_nobodyTalked_3 : decode cX8_nobodyTalked 3 = .ok (.aload_n 0, 1) := by decide +kernel
theorem dX8_nobodyTalked_4 : decode cX8_nobodyTalked 4 = .ok (.getfield 33, 3) := by decide +kernel
theorem dX8_nobodyTalked_7 : decode cX8_nobodyTalked 7 = .ok (.getfield 166, 3) := by decide +kernel
theorem dX8_nobodyTalked_10 : decode cX8_nobodyTalked 10 = .ok (.getfield 194, 3) := by decide +kernel
theorem dX8_nobodyTalked_13 : decode cX8_nobodyTalked 13 = .ok (.if_icmp .ge 64, 3) := by decide +kernel
theorem dX8_nobodyTalked_16 : decode cX8_nobodyTalked 16 = .ok (.iconst 0, 1) := by decide +kernel
theorem dX8_nobodyTalked_17 : decode cX8_nobodyTalked 17 = .ok (.istore_n 3, 1) := by decide +kernel
theorem dX8_nobodyTalked_18 : decode cX8_nobodyTalked 18 = .ok (.iload_n 3, 1) := by decide +kernel
theorem dX8_nobodyTalked_19 : decode cX8_nobodyTalked 19 = .ok (.iload_n 2, 1) := by decide +kernel
theorem dX8_nobodyTalked_20 : decode cX8_nobodyTalked 20 = .ok (.if_icmp .ge 51, 3) := by decide +kernel
theorem dX8_nobodyTalked_23 : decode cX8_nobodyTalked 23 = .ok (.iload_n 1, 1) := by decide +kernel
theorem dX8_nobodyTalked_24 : decode cX8_nobodyTalked 24 = .ok (.iload_n 2, 1) := by decide +kernel
theorem dX8_nobodyTalked_25 : decode cX8_nobodyTalked 25 = .ok (.ishr, 1) := by decide +kernel
theorem dX8_nobodyTalked_26 : decode cX8_nobodyTalked 26 = .ok (.iload_n 1, 1) := by decide +kernel
theorem dX8_nobodyTalked_27 : decode cX8_nobodyTalked 27 = .ok (.iload_n 3, 1) := by decide +kernel
theorem dX8_nobodyTalked_28 : decode cX8_nobodyTalked 28 = .ok (.ishr, 1) := by decide +kernel
theorem dX8_nobodyTalked_29 : decode cX8_nobodyTalked 29 = .ok (.iand, 1) := by decide +kernel
theorem dX8_nobodyTalked_30 : decode cX8_nobodyTalked 30 = .ok (.iconst 1, 1) := by decide +kernel
theorem dX8_nobodyTalked_31 : decode cX8_nobodyTalked 31 = .ok (.iand, 1) := by decide +kernel
theorem dX8_nobodyTalked_32 : decode cX8_nobodyTalked 32 = .ok (.iconst 1, 1) := by decide +kernel
theorem dX8_nobodyTalked_33 : decode cX8_nobodyTalked 33 = .ok (.if_icmp .ne 7, 3) := by decide +kernel
theorem dX8_nobodyTalked_36 : decode cX8_nobodyTalked 36 = .ok (.iconst 1, 1) := by decide +kernel
theorem dX8_nobodyTalked_37 : decode cX8_nobodyTalked 37 = .ok (.goto 4, 3) := by decide +kernel
theorem dX8_nobodyTalked_40 : decode cX8_nobodyTalked 40 = .ok (.iconst 0, 1) := by decide +kernel
theorem dX8_nobodyTalked_41 : decode cX8_nobodyTalked 41 = .ok (.istore 4, 2) := by decide +kernel
theorem dX8_nobodyTalked_43 : decode cX8_nobodyTalked 43 = .ok (.iload 4, 2) := by decide +kernel
theorem dX8_nobodyTalked_45 : decode cX8_nobodyTalked 45 = .ok (.ifCond .eq 20, 3) := by decide +kernel
theorem dX8_nobodyTalked_48 : decode cX8_nobodyTalked 48 = .ok (.aload_n 0, 1) := by decide +kernel
theorem dX8_nobodyTalked_49 : decode cX8_nobodyTalked 49 = .ok (.getfield 33, 3) := by decide +kernel
theorem dX8_nobodyTalked_52 : decode cX8_nobodyTalked 52 = .ok (.getfield 166, 3) := by decide +kernel
theorem dX8_nobodyTalked_55 : decode cX8_nobodyTalked 55 = .ok (.iload_n 2, 1) := by decide +kernel
theorem dX8_nobodyTalked_56 : decode cX8_nobodyTalked 56 = .ok (.iload_n 3, 1) := by decide +kernel
theorem dX8_nobodyTalked_57 : decode cX8_nobodyTalked 57 = .ok (.invokevirtual 195, 3) := by decide +kernel
theorem dX8_nobodyTalked_60 : decode cX8_nobodyTalked 60 = .ok (.ifCond .eq 5, 3) := by decide +kernel
theorem dX8_nobodyTalked_63 : decode cX8_nobodyTalked 63 = .ok (.iconst 0, 1) := by decide +kernel
theorem dX8_nobodyTalked_64 : decode cX8_nobodyTalked 64 = .ok (.ireturn, 1) := by decide +kernel
theorem dX8_nobodyTalked_65 : decode cX8_nobodyTalked 65 = .ok (.iinc 3 1, 3) := by decide +kernel
theorem dX8_nobodyTalked_68 : decode cX8_nobodyTalked 68 = .ok (.goto (-50), 3) := by decide +kernel
theorem dX8_nobodyTalked_71 : decode cX8_nobodyTalked 71 = .ok (.iinc 2 1, 3) := by decide +kernel
theorem dX8_nobodyTalked_74 : decode cX8_nobodyTalked 74 = .ok (.goto (-72), 3) := by decide +kernel
theorem dX8_nobodyTalked_77 : decode cX8_nobodyTalked 77 = .ok (.iconst 1, 1) := by decide +kernel
theorem dX8_nobodyTalked_78 : decode cX8_nobodyTalked 78 = .ok (.ireturn, 1) := by decide +kernel
def w_X8_nobodyTalked_77  (h : AH) (Q : Int32 → AH → Prop) : Prop :=
  Q (1 : Int32) h
def w_X8_nobodyTalked_71  (x63 : AH → Prop) (x77 : AH → Prop) (k : Int32 → AH → Prop) (v0 : Nat) (v1 : Int32) (v2 : Int32) (h : AH) (Q : Int32 → AH → Prop) : Prop :=
  k (v2 + 1) h
def w_X8_nobodyTalked_65  (x63 : AH → Prop) (x71 : AH → Prop) (k : Int32 → AH → Prop) (v0 : Nat) (v1 : Int32) (v2 : Int32) (v3 : Int32) (h : AH) (Q : Int32 → AH → Prop) : Prop :=
  k (v3 + 1) h
def w_X8_nobodyTalked_63  (h : AH) (Q : Int32 → AH → Prop) : Prop :=
  Q (0 : Int32) h
def w_X8_nobodyTalked_41  (x63 : AH → Prop) (x71 : AH → Prop) (k : Int32 → AH → Prop) (v0 : Nat) (v1 : Int32) (v2 : Int32) (v3 : Int32) (t0 : Int32) (h : AH) (Q : Int32 → AH → Prop) : Prop :=
  br (t0 = 0) (
    w_X8_nobodyTalked_65 x63 x71 k v0 v1 v2 v3 h Q) (
    fN h v0 8 0 fun a1 =>
    fN h a1 7 4 fun a2 =>
    vr h a2 9 (
    w_X9_mayHaveTalked a2 v2 v3 h (fun x3 h =>
    br (x3 = 0) (
      w_X8_nobodyTalked_65 x63 x71 k v0 v1 v2 v3 h Q) (
      x63  h))))
def w_X8_nobodyTalked_18  (x63 : AH → Prop) (x71 : AH → Prop) (k : Int32 → AH → Prop) (v0 : Nat) (v1 : Int32) (v2 : Int32) (v3 : Int32) (h : AH) (Q : Int32 → AH → Prop) : Prop :=
  br (v2 ≤ v3) (
    x71  h) (
    br ((((v1 >>> (v2 &&& 31)) &&& (v1 >>> (v3 &&& 31))) &&& (1 : Int32)) = (1 : Int32)) (
      w_X8_nobodyTalked_41 x63 x71 k v0 v1 v2 v3 (1 : Int32) h Q) (
      w_X8_nobodyTalked_41 x63 x71 k v0 v1 v2 v3 (0 : Int32) h Q))
def w_X8_nobodyTalked_2  (x63 : AH → Prop) (x77 : AH → Prop) (k : Int32 → AH → Prop) (v0 : Nat) (v1 : Int32) (v2 : Int32) (h : AH) (Q : Int32 → AH → Prop) : Prop :=
  fN h v0 8 0 fun a1 =>
  fN h a1 7 4 fun a2 =>
  fI h a2 9 0 fun x3 =>
  br (x3 ≤ v2) (
    x77  h) (
    lp (fun (k2 : Int32 × AH → Prop) (s2 : Int32 × AH) => w_X8_nobodyTalked_18  (fun  h => x63  h) (fun  h => w_X8_nobodyTalked_71 x63 x77 k v0 v1 v2 h Q) (fun (y3 : Int32) h => k2 (y3, h)) v0 v1 v2 s2.1 s2.2 Q) ((0 : Int32), h))
def w_X8_nobodyTalked  (v0 : Nat) (v1 : Int32) (h : AH) (Q : Int32 → AH → Prop) : Prop :=
  lp (fun (k2 : Int32 × AH → Prop) (s2 : Int32 × AH) => w_X8_nobodyTalked_2  (fun  h => w_X8_nobodyTalked_63  h Q) (fun  h => w_X8_nobodyTalked_77  h Q) (fun (y2 : Int32) h => k2 (y2, h)) v0 v1 s2.1 s2.2 Q) ((0 : Int32), h)
set_option maxRecDepth 100000 in
set_option maxHeartbeats 4000000 in
theorem s_X8_nobodyTalked_77 {p : Program} {l : Launch} {e : Env} {s : State} {m : MethodId} {args : Array Value} {below : List Frame} {meth : Method} {c : Code} {g : GG}  {Q : Int32 → AH → Prop}  (C : CXT p l s m args meth c RX8 cX8_nobodyTalked 5 g) (hr : meth.sig.returnType = (some .boolean))  : ∀  (h : AH), w_X8_nobodyTalked_77  h Q → V p l e s m args below meth c g 3 0 0 5 0 0 (MQ below (QCx g (QI Q)) args s 0 0 (gA g)) 77 [] [] h := by
  intro  h hw
  refine v_iconst (v := 1) C dX8_nobodyTalked_77 (by decide) ?_
  exact (rt_MQ C _).2.1 _ _ _ _ _ _ _ hr rfl dX8_nobodyTalked_78 (by decide) (by decide) ⟨_, rfl, hw⟩
set_option maxRecDepth 100000 in
set_option maxHeartbeats 4000000 in
theorem s_X8_nobodyTalked_71 {p : Program} {l : Launch} {e : Env} {s : State} {m : MethodId} {args : Array Value} {below : List Frame} {meth : Method} {c : Code} {g : GG} {v0 : Nat} {v1 : Int32} {Q : Int32 → AH → Prop} {x63 : AH → Prop} {x77 : AH → Prop} {k : Int32 → AH → Prop} (C : CXT p l s m args meth c RX8 cX8_nobodyTalked 5 g) (hr : meth.sig.returnType = (some .boolean)) (hx63 : ∀  (h : AH), x63  h → V p l e s m args below meth c g 3 0 0 5 0 0 (MQ below (QCx g (QI Q)) args s 0 0 (gA g)) 63 [] [] h) (hx77 : ∀  (h : AH), x77  h → V p l e s m args below meth c g 3 0 0 5 0 0 (MQ below (QCx g (QI Q)) args s 0 0 (gA g)) 77 [] [] h) (hk : ∀ (y2 : Int32) (h : AH), k y2 h → V p l e s m args below meth c g 3 0 0 5 0 0 (MQ below (QCx g (QI Q)) args s 0 0 (gA g)) 2 [(0, .ref v0), (1, .int v1), (2, .int y2)] [] h) : ∀ (v2 : Int32) (h : AH), w_X8_nobodyTalked_71  x63 x77 k v0 v1 v2 h Q → V p l e s m args below meth c g 3 0 0 5 0 0 (MQ below (QCx g (QI Q)) args s 0 0 (gA g)) 71 [(0, .ref v0), (1, .int v1), (2, .int v2)] [] h := by
  intro v2 h hw
  refine v_iinc (v := 1) (ls' := [(2, .int (v2 + 1)), (0, .ref v0), (1, .int v1)]) C dX8_nobodyTalked_71 2 rfl (by decide) (by decide) rfl ?_
  refine v_goto (tgt := 2) C dX8_nobodyTalked_74 (by decide) ?_
  refine v_sub [1, 2, 0] rfl ?_
  exact hk _ _ hw
set_option maxRecDepth 100000 in
set_option maxHeartbeats 4000000 in
theorem s_X8_nobodyTalked_65 {p : Program} {l : Launch} {e : Env} {s : State} {m : MethodId} {args : Array Value} {below : List Frame} {meth : Method} {c : Code} {g : GG} {v0 : Nat} {v1 : Int32} {v2 : Int32} {Q : Int32 → AH → Prop} {x63 : AH → Prop} {x71 : AH → Prop} {k : Int32 → AH → Prop} (C : CXT p l s m args meth c RX8 cX8_nobodyTalked 5 g) (hr : meth.sig.returnType = (some .boolean)) (hx63 : ∀  (h : AH), x63  h → V p l e s m args below meth c g 3 0 0 5 0 0 (MQ below (QCx g (QI Q)) args s 0 0 (gA g)) 63 [] [] h) (hx71 : ∀  (h : AH), x71  h → V p l e s m args below meth c g 3 0 0 5 0 0 (MQ below (QCx g (QI Q)) args s 0 0 (gA g)) 71 [(0, .ref v0), (1, .int v1), (2, .int v2)] [] h) (hk : ∀ (y3 : Int32) (h : AH), k y3 h → V p l e s m args below meth c g 3 0 0 5 0 0 (MQ below (QCx g (QI Q)) args s 0 0 (gA g)) 18 [(0, .ref v0), (1, .int v1), (2, .int v2), (3, .int y3)] [] h) : ∀ (v3 : Int32) (h : AH), w_X8_nobodyTalked_65  x63 x71 k v0 v1 v2 v3 h Q → V p l e s m args below meth c g 3 0 0 5 0 0 (MQ below (QCx g (QI Q)) args s 0 0 (gA g)) 65 [(0, .ref v0), (1, .int v1), (2, .int v2), (3, .int v3)] [] h := by
  intro v3 h hw
  refine v_iinc (v := 1) (ls' := [(3, .int (v3 + 1)), (0, .ref v0), (1, .int v1), (2, .int v2)]) C dX8_nobodyTalked_65 3 rfl (by decide) (by decide) rfl ?_
  refine v_goto (tgt := 18) C dX8_nobodyTalked_68 (by decide) ?_
  refine v_sub [1, 2, 3, 0] rfl ?_
  exact hk _ _ hw
set_option maxRecDepth 100000 in
set_option maxHeartbeats 4000000 in
theorem s_X8_nobodyTalked_63 {p : Program} {l : Launch} {e : Env} {s : State} {m : MethodId} {args : Array Value} {below : List Frame} {meth : Method} {c : Code} {g : GG}  {Q : Int32 → AH → Prop}  (C : CXT p l s m args meth c RX8 cX8_nobodyTalked 5 g) (hr : meth.sig.returnType = (some .boolean))  : ∀  (h : AH), w_X8_nobodyTalked_63  h Q → V p l e s m args below meth c g 3 0 0 5 0 0 (MQ below (QCx g (QI Q)) args s 0 0 (gA g)) 63 [] [] h := by
  intro  h hw
  refine v_iconst (v := 0) C dX8_nobodyTalked_63 (by decide) ?_
  exact (rt_MQ C _).2.1 _ _ _ _ _ _ _ hr rfl dX8_nobodyTalked_64 (by decide) (by decide) ⟨_, rfl, hw⟩
set_option maxRecDepth 100000 in
set_option maxHeartbeats 4000000 in
theorem s_X8_nobodyTalked_41 {p : Program} {l : Launch} {e : Env} {s : State} {m : MethodId} {args : Array Value} {below : List Frame} {meth : Method} {c : Code} {g : GG} {v0 : Nat} {v1 : Int32} {v2 : Int32} {Q : Int32 → AH → Prop} {x63 : AH → Prop} {x71 : AH → Prop} {k : Int32 → AH → Prop} (C : CXT p l s m args meth c RX8 cX8_nobodyTalked 5 g) (hr : meth.sig.returnType = (some .boolean)) (hx63 : ∀  (h : AH), x63  h → V p l e s m args below meth c g 3 0 0 5 0 0 (MQ below (QCx g (QI Q)) args s 0 0 (gA g)) 63 [] [] h) (hx71 : ∀  (h : AH), x71  h → V p l e s m args below meth c g 3 0 0 5 0 0 (MQ below (QCx g (QI Q)) args s 0 0 (gA g)) 71 [(0, .ref v0), (1, .int v1), (2, .int v2)] [] h) (hk : ∀ (y3 : Int32) (h : AH), k y3 h → V p l e s m args below meth c g 3 0 0 5 0 0 (MQ below (QCx g (QI Q)) args s 0 0 (gA g)) 18 [(0, .ref v0), (1, .int v1), (2, .int v2), (3, .int y3)] [] h) : ∀ (v3 : Int32) (t0 : Int32) (h : AH), w_X8_nobodyTalked_41  x63 x71 k v0 v1 v2 v3 t0 h Q → V p l e s m args below meth c g 3 0 0 5 0 0 (MQ below (QCx g (QI Q)) args s 0 0 (gA g)) 41 [(0, .ref v0), (1, .int v1), (2, .int v2), (3, .int v3)] [.int t0] h := by
  intro v3 t0 h hw
  refine v_istore (ls' := [(4, .int t0), (0, .ref v0), (1, .int v1), (2, .int v2), (3, .int v3)]) C dX8_nobodyTalked_41 (by decide) rfl ?_
  refine v_iload C dX8_nobodyTalked_43 0 rfl ?_
  refine v_if_eq (tgt := 65) C dX8_nobodyTalked_45 (by decide) (fun c_45 => ?_) (fun c_45 => ?_)
  · have hw := hw.1 c_45
    refine v_sub [1, 2, 3, 4] rfl ?_
    exact s_X8_nobodyTalked_65 C hr hx63 hx71 hk _ _ hw
  · have hw := hw.2 c_45
    refine v_aload_n C dX8_nobodyTalked_48 1 rfl rfl ?_
    refine w_getN C fl_X8_33 dX8_nobodyTalked_49 rfl hw (fun a1 hw => ?_)
    refine w_getN C fl_X8_166 dX8_nobodyTalked_52 rfl hw (fun a2 hw => ?_)
    refine v_iload_n C dX8_nobodyTalked_55 3 rfl rfl ?_
    refine v_iload_n C dX8_nobodyTalked_56 4 rfl rfl ?_
    refine w_callVi (st := []) C cl_X8_195 im_X9_mayHaveTalked se_X9_mayHaveTalked rfl hw.1 (s_X9_mayHaveTalked hw.2) rfl dX8_nobodyTalked_57 rfl (by decide) (by decide) (by decide) (by decide) (by decide) (fun x3 h hw => ?_)
    refine v_if_eq (tgt := 65) C dX8_nobodyTalked_60 (by decide) (fun c_60 => ?_) (fun c_60 => ?_)
    · have hw := hw.1 c_60
      refine v_sub [1, 2, 3, 4] rfl ?_
      exact s_X8_nobodyTalked_65 C hr hx63 hx71 hk _ _ hw
    · have hw := hw.2 c_60
      refine v_sub [] rfl ?_
      exact hx63  _ hw
set_option maxRecDepth 100000 in
set_option maxHeartbeats 4000000 in
theorem s_X8_nobodyTalked_18 {p : Program} {l : Launch} {e : Env} {s : State} {m : MethodId} {args : Array Value} {below : List Frame} {meth : Method} {c : Code} {g : GG} {v0 : Nat} {v1 : Int32} {v2 : Int32} {Q : Int32 → AH → Prop} {x63 : AH → Prop} {x71 : AH → Prop} {k : Int32 → AH → Prop} (C : CXT p l s m args meth c RX8 cX8_nobodyTalked 5 g) (hr : meth.sig.returnType = (some .boolean)) (hx63 : ∀  (h : AH), x63  h → V p l e s m args below meth c g 3 0 0 5 0 0 (MQ below (QCx g (QI Q)) args s 0 0 (gA g)) 63 [] [] h) (hx71 : ∀  (h : AH), x71  h → V p l e s m args below meth c g 3 0 0 5 0 0 (MQ below (QCx g (QI Q)) args s 0 0 (gA g)) 71 [(0, .ref v0), (1, .int v1), (2, .int v2)] [] h) (hk : ∀ (y3 : Int32) (h : AH), k y3 h → V p l e s m args below meth c g 3 0 0 5 0 0 (MQ below (QCx g (QI Q)) args s 0 0 (gA g)) 18 [(0, .ref v0), (1, .int v1), (2, .int v2), (3, .int y3)] [] h) : ∀ (v3 : Int32) (h : AH), w_X8_nobodyTalked_18  x63 x71 k v0 v1 v2 v3 h Q → V p l e s m args below meth c g 3 0 0 5 0 0 (MQ below (QCx g (QI Q)) args s 0 0 (gA g)) 18 [(0, .ref v0), (1, .int v1), (2, .int v2), (3, .int v3)] [] h := by
  intro v3 h hw
  refine v_iload_n C dX8_nobodyTalked_18 3 rfl rfl ?_
  refine v_iload_n C dX8_nobodyTalked_19 2 rfl rfl ?_
  refine v_icmp_ge (tgt := 71) C dX8_nobodyTalked_20 (by decide) (fun c_20 => ?_) (fun c_20 => ?_)
  · have hw := hw.1 c_20
    refine v_sub [0, 1, 2] rfl ?_
    exact hx71  _ hw
  · have hw := hw.2 c_20
    refine v_iload_n C dX8_nobodyTalked_23 1 rfl rfl ?_
    refine v_iload_n C dX8_nobodyTalked_24 2 rfl rfl ?_
    refine v_ishr C dX8_nobodyTalked_25 ?_
    refine v_iload_n C dX8_nobodyTalked_26 1 rfl rfl ?_
    refine v_iload_n C dX8_nobodyTalked_27 3 rfl rfl ?_
    refine v_ishr C dX8_nobodyTalked_28 ?_
    refine v_iand C dX8_nobodyTalked_29 ?_
    refine v_iconst (v := 1) C dX8_nobodyTalked_30 (by decide) ?_
    refine v_iand C dX8_nobodyTalked_31 ?_
    refine v_iconst (v := 1) C dX8_nobodyTalked_32 (by decide) ?_
    refine v_icmp_ne (tgt := 40) C dX8_nobodyTalked_33 (by decide) (fun c_33 => ?_) (fun c_33 => ?_)
    · have hw := hw.2 c_33
      refine v_iconst (v := 0) C dX8_nobodyTalked_40 (by decide) ?_
      exact s_X8_nobodyTalked_41 C hr hx63 hx71 hk _ _ _ hw
    · have hw := hw.1 c_33
      refine v_iconst (v := 1) C dX8_nobodyTalked_36 (by decide) ?_
      refine v_goto (tgt := 41) C dX8_nobodyTalked_37 (by decide) ?_
      exact s_X8_nobodyTalked_41 C hr hx63 hx71 hk _ _ _ hw
set_option maxRecDepth 100000 in
set_option maxHeartbeats 4000000 in
theorem s_X8_nobodyTalked_2 {p : Program} {l : Launch} {e : Env} {s : State} {m : MethodId} {args : Array Value} {below : List Frame} {meth : Method} {c : Code} {g : GG} {v0 : Nat} {v1 : Int32} {Q : Int32 → AH → Prop} {x63 : AH → Prop} {x77 : AH → Prop} {k : Int32 → AH → Prop} (C : CXT p l s m args meth c RX8 cX8_nobodyTalked 5 g) (hr : meth.sig.returnType = (some .boolean)) (hx63 : ∀  (h : AH), x63  h → V p l e s m args below meth c g 3 0 0 5 0 0 (MQ below (QCx g (QI Q)) args s 0 0 (gA g)) 63 [] [] h) (hx77 : ∀  (h : AH), x77  h → V p l e s m args below meth c g 3 0 0 5 0 0 (MQ below (QCx g (QI Q)) args s 0 0 (gA g)) 77 [] [] h) (hk : ∀ (y2 : Int32) (h : AH), k y2 h → V p l e s m args below meth c g 3 0 0 5 0 0 (MQ below (QCx g (QI Q)) args s 0 0 (gA g)) 2 [(0, .ref v0), (1, .int v1), (2, .int y2)] [] h) : ∀ (v2 : Int32) (h : AH), w_X8_nobodyTalked_2  x63 x77 k v0 v1 v2 h Q → V p l e s m args below meth c g 3 0 0 5 0 0 (MQ below (QCx g (QI Q)) args s 0 0 (gA g)) 2 [(0, .ref v0), (1, .int v1), (2, .int v2)] [] h := by
  intro v2 h hw
  refine v_iload_n C dX8_nobodyTalked_2 2 rfl rfl ?_
  refine v_aload_n C dX8_nobodyTalked_3 0 rfl rfl ?_
  refine w_getN C fl_X8_33 dX8_nobodyTalked_4 rfl hw (fun a1 hw => ?_)
  refine w_getN C fl_X8_166 dX8_nobodyTalked_7 rfl hw (fun a2 hw => ?_)
  refine w_getI C fl_X8_194 dX8_nobodyTalked_10 rfl hw (fun x3 hw => ?_)
  refine v_icmp_ge (tgt := 77) C dX8_nobodyTalked_13 (by decide) (fun c_13 => ?_) (fun c_13 => ?_)
  · have hw := hw.1 c_13
    refine v_sub [] rfl ?_
    exact hx77  _ hw
  · have hw := hw.2 c_13
    refine v_iconst (v := 0) C dX8_nobodyTalked_16 (by decide) ?_
    refine v_istore_n (ls' := [(3, .int (0 : Int32)), (0, .ref v0), (1, .int v1), (2, .int v2)]) C dX8_nobodyTalked_17 rfl (by decide) rfl ?_
    refine v_sub [1, 2, 3, 0] rfl ?_
    refine lp_walk (P := fun (s' : Int32 × AH) => V p l e s m args below meth c g 3 0 0 5 0 0 (MQ below (QCx g (QI Q)) args s 0 0 (gA g)) 18 [(0, .ref v0), (1, .int v1), (2, .int v2), (3, .int (s'.1))] [] s'.2) (fun k2 hk2 s' hw => ?_) ((0 : Int32), h) hw
    exact s_X8_nobodyTalked_18 C hr (fun  h hw => hx63  h hw) (fun  h hw => s_X8_nobodyTalked_71 C hr hx63 hx77 hk _ h hw) (fun y3 h hw => hk2 (y3, h) hw) _ _ hw
set_option maxRecDepth 100000 in
set_option maxHeartbeats 4000000 in
theorem s_X8_nobodyTalked {l : Launch}  {v0 : Nat} {v1 : Int32} {h : AH} {Q : Int32 → AH → Prop}  (hw : w_X8_nobodyTalked  v0 v1 h Q) : CT l yX8_nobodyTalked cX8_nobodyTalked 5 (some .boolean) 3 0 0 [.ref v0, .int v1] h (QI Q) := by
  refine CT.of (by decide) ⟨rfl, ⟨rfl, trivial⟩⟩ (Nat.le_of_ble_eq_true rfl) ?_
  intro p e s m args below meth c g C hr hin
  refine v_eq (pc' := 0) (ls' := [(0, .ref v0), (1, .int v1)]) rfl rfl rfl rfl ?_
  refine v_iconst (v := 0) C dX8_nobodyTalked_0 (by decide) ?_
  refine v_istore_n (ls' := [(2, .int (0 : Int32)), (0, .ref v0), (1, .int v1)]) C dX8_nobodyTalked_1 rfl (by decide) rfl ?_
  refine v_sub [1, 2, 0] rfl ?_
  refine lp_walk (P := fun (s' : Int32 × AH) => V p l e s m args below meth c g 3 0 0 5 0 0 (MQ below (QCx g (QI Q)) args s 0 0 (gA g)) 2 [(0, .ref v0), (1, .int v1), (2, .int (s'.1))] [] s'.2) (fun k2 hk2 s' hw => ?_) ((0 : Int32), h) hw
  exact s_X8_nobodyTalked_2 C hr (fun  h hw => s_X8_nobodyTalked_63 C hr   h hw) (fun  h hw => s_X8_nobodyTalked_77 C hr   h hw) (fun y2 h hw => hk2 (y2, h) hw) _ _ hw
-- GrassField$Study.mostApart()I
theorem dX8_mostApart_0 : decode cX8_mostApart 0 = .ok (.iconst 0, 1) := by decide +kernel
theorem dX8_mostApart_1 : decode cX8_mostApart 1 = .ok (.istore_n 1, 1) := by decide +kernel
theorem dX8_mostApart_2 : decode cX8_mostApart 2 = .ok (.iconst 0, 1) := by decide +kernel
theorem dX8_mostApart_3 : decode cX8_mostApart 3 = .ok (.istore_n 2, 1) := by decide +kernel
theorem dX8_mostApart_4 : decode cX8_mostApart 4 = .ok (.iload_n 2, 1) := by decide +kernel
theorem dX8_mostApart_5 : decode cX8_mostApart 5 = .ok (.aload_n 0, 1) := by decide +kernel
theorem dX8_mostApart_6 : decode cX8_mostApart 6 = .ok (.getfield 33, 3) := by decide +kernel
theorem dX8_mostApart_9 : decode cX8_mostApart 9 = .ok (.getfield 166, 3) := by decide +kernel
theorem dX8_mostApart_12 : decode cX8_mostApart 12 = .ok (.getfield 182, 3) := by decide +kernel
theorem dX8_mostApart_15 : decode cX8_mostApart 15 = .ok (.if_icmp .ge 34, 3) := by decide +kernel
theorem dX8_mostApart_18 : decode cX8_mostApart 18 = .ok (.aload_n 0, 1) := by decide +kernel
theorem dX8_mostApart_19 : decode cX8_mostApart 19 = .ok (.iload_n 2, 1) := by decide +kernel
theorem dX8_mostApart_20 : decode cX8_mostApart 20 = .ok (.invokevirtual 185, 3) := by decide +kernel
theorem dX8_mostApart_23 : decode cX8_mostApart 23 = .ok (.ifCond .eq 20, 3) := by decide +kernel
theorem dX8_mostApart_26 : decode cX8_mostApart 26 = .ok (.iload_n 1, 1) := by decide +kernel
theorem dX8_mostApart_27 : decode cX8_mostApart 27 = .ok (.iconst 1, 1) := by decide +kernel
theorem dX8_mostApart_28 : decode cX8_mostApart 28 = .ok (.aload_n 0, 1) := by decide +kernel
theorem dX8_mostApart_29 : decode cX8_mostApart 29 = .ok (.getfield 33, 3) := by decide +kernel
theorem dX8_mostApart_32 : decode cX8_mostApart 32 = .ok (.getfield 166, 3) := by decide +kernel
theorem dX8_mostApart_35 : decode cX8_mostApart 35 = .ok (.getfield 188, 3) := by decide +kernel
theorem dX8_mostApart_38 : decode cX8_mostApart 38 = .ok (.iload_n 2, 1) := by decide +kernel
theorem dX8_mostApart_39 : decode cX8_mostApart 39 = .ok (.iaload, 1) := by decide +kernel
theorem dX8_mostApart_40 : decode cX8_mostApart 40 = .ok (.ishl, 1) := by decide +kernel
theorem dX8_mostApart_41 : decode cX8_mostApart 41 = .ok (.ior, 1) := by decide +kernel
theorem dX8_mostApart_42 : decode cX8_mostApart 42 = .ok (.istore_n 1, 1) := by decide +kernel
theorem dX8_mostApart_43 : decode cX8_mostApart 43 = .ok (.iinc 2 1, 3) := by decide +kernel
theorem dX8_mostApart_46 : decode cX8_mostApart 46 = .ok (.goto (-42), 3) := by decide +kernel
theorem dX8_mostApart_49 : decode cX8_mostApart 49 = .ok (.iconst 0, 1) := by decide +kernel
theorem dX8_mostApart_50 : decode cX8_mostApart 50 = .ok (.istore_n 2, 1) := by decide +kernel
theorem dX8_mostApart_51 : decode cX8_mostApart 51 = .ok (.iconst 0, 1) := by decide +kernel
theorem dX8_mostApart_52 : decode cX8_mostApart 52 = .ok (.istore_n 3, 1) := by decide +kernel
theorem dX8_mostApart_53 : decode cX8_mostApart 53 = .ok (.iload_n 3, 1) := by decide +kernel
theorem dX8_mostApart_54 : decode cX8_mostApart 54 = .ok (.iload_n 1, 1) := by decide +kernel
theorem dX8_mostApart_55 : decode cX8_mostApart 55 = .ok (.if_icmp .gt 38, 3) := by decide +kernel
theorem dX8_mostApart_58 : decode cX8_mostApart 58 = .ok (.iload_n 3, 1) := by decide +kernel
theorem dX8_mostApart_59 : decode cX8_mostApart 59 = .ok (.iload_n 1, 1) := by decide +kernel
theorem dX8_mostApart_60 : decode cX8_mostApart 60 = .ok (.iconst (-1), 1) := by decide +kernel
theorem dX8_mostApart_61 : decode cX8_mostApart 61 = .ok (.ixor, 1) := by decide +kernel
theorem dX8_mostApart_62 : decode cX8_mostApart 62 = .ok (.iand, 1) := by decide +kernel
theorem dX8_mostApart_63 : decode cX8_mostApart 63 = .ok (.ifCond .ne 24, 3) := by decide +kernel
theorem dX8_mostApart_66 : decode cX8_mostApart 66 = .ok (.iload_n 3, 1) := by decide +kernel
theorem dX8_mostApart_67 : decode cX8_mostApart 67 = .ok (.invokestatic 68, 3) := by decide +kernel
theorem dX8_mostApart_70 : decode cX8_mostApart 70 = .ok (.iload_n 2, 1) := by decide +kernel
theorem dX8_mostApart_71 : decode cX8_mostApart 71 = .ok (.if_icmp .le 16, 3) := by decide +kernel
theorem dX8_mostApart_74 : decode cX8_mostApart 74 = .ok (.aload_n 0, 1) := by decide +kernel
theorem dX8_mostApart_75 : decode cX8_mostApart 75 = .ok (.iload_n 3, 1) := by decide +kernel
theorem dX8_mostApart_76 : decode cX8_mostApart 76 = .ok (.invokevirtual 191, 3) := by decide +kernel
theorem dX8_mostApart_79 : decode cX8_mostApart 79 = .ok (.ifCond .eq 8, 3) := by decide +kernel
theorem dX8_mostApart_82 : decode cX8_mostApart 82 = .ok (.iload_n 3, 1) := by decide +kernel
theorem dX8_mostApart_83 : decode cX8_mostApart 83 = .ok (.invokestatic 68, 3) := by decide +kernel
theorem dX8_mostApart_86 : decode cX8_mostApart 86 = .ok (.istore_n 2, 1) := by decide +kernel
theorem dX8_mostApart_87 : decode cX8_mostApart 87 = .ok (.iinc 3 1, 3) := by decide +kernel
theorem dX8_mostApart_90 : decode cX8_mostApart 90 = .ok (.goto (-37), 3) := by decide +kernel
theorem dX8_mostApart_93 : decode cX8_mostApart 93 = .ok (.iload_n 2, 1) := by decide +kernel
theorem dX8_mostApart_94 : decode cX8_mostApart 94 = .ok (.ireturn, 1) := by decide +kernel
def w_X8_mostApart_93  (v2 : Int32) (h : AH) (Q : Int32 → AH → Prop) : Prop :=
  Q v2 h
def w_X8_mostApart_87  (x93 : Int32 → AH → Prop) (k : Int32 → Int32 → AH → Prop) (v0 : Nat) (v1 : Int32) (v2 : Int32) (v3 : Int32) (h : AH) (Q : Int32 → AH → Prop) : Prop :=
  k v2 (v3 + 1) h
def w_X8_mostApart_53  (x93 : Int32 → AH → Prop) (k : Int32 → Int32 → AH → Prop) (v0 : Nat) (v1 : Int32) (v2 : Int32) (v3 : Int32) (h : AH) (Q : Int32 → AH → Prop) : Prop :=
  br (v1 < v3) (
    x93 v2 h) (
    br ((v3 &&& (v1 ^^^ (-1 : Int32))) = 0) (
      w_J6_bitCount_0f7a4 v3 h (fun x1 h =>
      br (x1 ≤ v2) (
        w_X8_mostApart_87 x93 k v0 v1 v2 v3 h Q) (
        vr h v0 8 (
        w_X8_nobodyTalked v0 v3 h (fun x2 h =>
        br (x2 = 0) (
          w_X8_mostApart_87 x93 k v0 v1 v2 v3 h Q) (
          w_J6_bitCount_0f7a4 v3 h (fun x3 h =>
          w_X8_mostApart_87 x93 k v0 v1 x3 v3 h Q))))))) (
      w_X8_mostApart_87 x93 k v0 v1 v2 v3 h Q))
def w_X8_mostApart_49  (v0 : Nat) (v1 : Int32) (h : AH) (Q : Int32 → AH → Prop) : Prop :=
  lp (fun (k2 : Int32 × Int32 × AH → Prop) (s2 : Int32 × Int32 × AH) => w_X8_mostApart_53  (fun (y2 : Int32) h => w_X8_mostApart_93 y2 h Q) (fun (y2 : Int32) (y3 : Int32) h => k2 (y2, y3, h)) v0 v1 s2.1 s2.2.1 s2.2.2 Q) ((0 : Int32), (0 : Int32), h)
def w_X8_mostApart_43  (x49 : Int32 → AH → Prop) (k : Int32 → Int32 → AH → Prop) (v0 : Nat) (v1 : Int32) (v2 : Int32) (h : AH) (Q : Int32 → AH → Prop) : Prop :=
  k v1 (v2 + 1) h
def w_X8_mostApart_4  (x49 : Int32 → AH → Prop) (k : Int32 → Int32 → AH → Prop) (v0 : Nat) (v1 : Int32) (v2 : Int32) (h : AH) (Q : Int32 → AH → Prop) : Prop :=
  fN h v0 8 0 fun a1 =>
  fN h a1 7 4 fun a2 =>
  fI h a2 9 5 fun x3 =>
  br (x3 ≤ v2) (
    x49 v1 h) (
    vr h v0 8 (
    w_X8_isBorneOut v0 v2 h (fun x4 h =>
    br (x4 = 0) (
      w_X8_mostApart_43 x49 k v0 v1 v2 h Q) (
      fN h v0 8 0 fun a5 =>
      fN h a5 7 4 fun a6 =>
      fN h a6 9 6 fun a7 =>
      aI h a7 v2 fun x8 =>
      bd (v1 ||| ((1 : Int32) <<< (x8 &&& 31))) fun x9 =>
      w_X8_mostApart_43 x49 k v0 x9 v2 h Q))))
def w_X8_mostApart  (v0 : Nat) (h : AH) (Q : Int32 → AH → Prop) : Prop :=
  lp (fun (k2 : Int32 × Int32 × AH → Prop) (s2 : Int32 × Int32 × AH) => w_X8_mostApart_4  (fun (y1 : Int32) h => w_X8_mostApart_49 v0 y1 h Q) (fun (y1 : Int32) (y2 : Int32) h => k2 (y1, y2, h)) v0 s2.1 s2.2.1 s2.2.2 Q) ((0 : Int32), (0 : Int32), h)
set_option maxRecDepth 100000 in
set_option maxHeartbeats 4000000 in
theorem s_X8_mostApart_93 {p : Program} {l : Launch} {e : Env} {s : State} {m : MethodId} {args : Array Value} {below : List Frame} {meth : Method} {c : Code} {g : GG}  {Q : Int32 → AH → Prop}  (C : CXT p l s m args meth c RX8 cX8_mostApart 4 g) (hr : meth.sig.returnType = (some .int))  : ∀ (v2 : Int32) (h : AH), w_X8_mostApart_93  v2 h Q → V p l e s m args below meth c g 5 0 0 4 0 0 (MQ below (QCx g (QI Q)) args s 0 0 (gA g)) 93 [(2, .int v2)] [] h := by
  intro v2 h hw
  refine v_iload_n C dX8_mostApart_93 0 rfl rfl ?_
  exact (rt_MQ C _).1 _ _ _ _ _ _ hr dX8_mostApart_94 (by decide) (by decide) ⟨_, rfl, hw⟩
set_option maxRecDepth 100000 in
set_option maxHeartbeats 4000000 in
theorem s_X8_mostApart_87 {p : Program} {l : Launch} {e : Env} {s : State} {m : MethodId} {args : Array Value} {below : List Frame} {meth : Method} {c : Code} {g : GG} {v0 : Nat} {v1 : Int32} {Q : Int32 → AH → Prop} {x93 : Int32 → AH → Prop} {k : Int32 → Int32 → AH → Prop} (C : CXT p l s m args meth c RX8 cX8_mostApart 4 g) (hr : meth.sig.returnType = (some .int)) (hx93 : ∀ (y2 : Int32) (h : AH), x93 y2 h → V p l e s m args below meth c g 5 0 0 4 0 0 (MQ below (QCx g (QI Q)) args s 0 0 (gA g)) 93 [(2, .int y2)] [] h) (hk : ∀ (y2 : Int32) (y3 : Int32) (h : AH), k y2 y3 h → V p l e s m args below meth c g 5 0 0 4 0 0 (MQ below (QCx g (QI Q)) args s 0 0 (gA g)) 53 [(0, .ref v0), (1, .int v1), (2, .int y2), (3, .int y3)] [] h) : ∀ (v2 : Int32) (v3 : Int32) (h : AH), w_X8_mostApart_87  x93 k v0 v1 v2 v3 h Q → V p l e s m args below meth c g 5 0 0 4 0 0 (MQ below (QCx g (QI Q)) args s 0 0 (gA g)) 87 [(0, .ref v0), (1, .int v1), (2, .int v2), (3, .int v3)] [] h := by
  intro v2 v3 h hw
  refine v_iinc (v := 1) (ls' := [(3, .int (v3 + 1)), (0, .ref v0), (1, .int v1), (2, .int v2)]) C dX8_mostApart_87 3 rfl (by decide) (by decide) rfl ?_
  refine v_goto (tgt := 53) C dX8_mostApart_90 (by decide) ?_
  refine v_sub [1, 2, 3, 0] rfl ?_
  exact hk _ _ _ hw
set_option maxRecDepth 100000 in
set_option maxHeartbeats 4000000 in
theorem s_X8_mostApart_53 {p : Program} {l : Launch} {e : Env} {s : State} {m : MethodId} {args : Array Value} {below : List Frame} {meth : Method} {c : Code} {g : GG} {v0 : Nat} {v1 : Int32} {Q : Int32 → AH → Prop} {x93 : Int32 → AH → Prop} {k : Int32 → Int32 → AH → Prop} (C : CXT p l s m args meth c RX8 cX8_mostApart 4 g) (hr : meth.sig.returnType = (some .int)) (hx93 : ∀ (y2 : Int32) (h : AH), x93 y2 h → V p l e s m args below meth c g 5 0 0 4 0 0 (MQ below (QCx g (QI Q)) args s 0 0 (gA g)) 93 [(2, .int y2)] [] h) (hk : ∀ (y2 : Int32) (y3 : Int32) (h : AH), k y2 y3 h → V p l e s m args below meth c g 5 0 0 4 0 0 (MQ below (QCx g (QI Q)) args s 0 0 (gA g)) 53 [(0, .ref v0), (1, .int v1), (2, .int y2), (3, .int y3)] [] h) : ∀ (v2 : Int32) (v3 : Int32) (h : AH), w_X8_mostApart_53  x93 k v0 v1 v2 v3 h Q → V p l e s m args below meth c g 5 0 0 4 0 0 (MQ below (QCx g (QI Q)) args s 0 0 (gA g)) 53 [(0, .ref v0), (1, .int v1), (2, .int v2), (3, .int v3)] [] h := by
  intro v2 v3 h hw
  refine v_iload_n C dX8_mostApart_53 3 rfl rfl ?_
  refine v_iload_n C dX8_mostApart_54 1 rfl rfl ?_
  refine v_icmp_gt (tgt := 93) C dX8_mostApart_55 (by decide) (fun c_55 => ?_) (fun c_55 => ?_)
  · have hw := hw.1 c_55
    refine v_sub [2] rfl ?_
    exact hx93 _ _ hw
  · have hw := hw.2 c_55
    refine v_iload_n C dX8_mostApart_58 3 rfl rfl ?_
    refine v_iload_n C dX8_mostApart_59 1 rfl rfl ?_
    refine v_iconst (v := -1) C dX8_mostApart_60 (by decide) ?_
    refine v_ixor C dX8_mostApart_61 ?_
    refine v_iand C dX8_mostApart_62 ?_
    refine v_if_ne (tgt := 87) C dX8_mostApart_63 (by decide) (fun c_63 => ?_) (fun c_63 => ?_)
    · have hw := hw.2 c_63
      exact s_X8_mostApart_87 C hr hx93 hk _ _ _ hw
    · have hw := hw.1 c_63
      refine v_iload_n C dX8_mostApart_66 3 rfl rfl ?_
      refine w_callSi (st := []) C cl_X8_68 st_J6_bitCount_0f7a4 (s_J6_bitCount_0f7a4 hw) rfl dX8_mostApart_67 rfl (by decide) (by decide) (by decide) (by decide) (by decide) (fun x1 h hw => ?_)
      refine v_iload_n C dX8_mostApart_70 2 rfl rfl ?_
      refine v_icmp_le (tgt := 87) C dX8_mostApart_71 (by decide) (fun c_71 => ?_) (fun c_71 => ?_)
      · have hw := hw.1 c_71
        exact s_X8_mostApart_87 C hr hx93 hk _ _ _ hw
      · have hw := hw.2 c_71
        refine v_aload_n C dX8_mostApart_74 0 rfl rfl ?_
        refine v_iload_n C dX8_mostApart_75 3 rfl rfl ?_
        refine w_callVi (st := []) C cl_X8_191 im_X8_nobodyTalked se_X8_nobodyTalked rfl hw.1 (s_X8_nobodyTalked hw.2) rfl dX8_mostApart_76 rfl (by decide) (by decide) (by decide) (by decide) (by decide) (fun x2 h hw => ?_)
        refine v_if_eq (tgt := 87) C dX8_mostApart_79 (by decide) (fun c_79 => ?_) (fun c_79 => ?_)
        · have hw := hw.1 c_79
          exact s_X8_mostApart_87 C hr hx93 hk _ _ _ hw
        · have hw := hw.2 c_79
          refine v_iload_n C dX8_mostApart_82 3 rfl rfl ?_
          refine w_callSi (st := []) C cl_X8_68 st_J6_bitCount_0f7a4 (s_J6_bitCount_0f7a4 hw) rfl dX8_mostApart_83 rfl (by decide) (by decide) (by decide) (by decide) (by decide) (fun x3 h hw => ?_)
          refine v_istore_n (ls' := [(2, .int x3), (0, .ref v0), (1, .int v1), (3, .int v3)]) C dX8_mostApart_86 rfl (by decide) rfl ?_
          refine v_sub [1, 2, 0, 3] rfl ?_
          exact s_X8_mostApart_87 C hr hx93 hk _ _ _ hw
set_option maxRecDepth 100000 in
set_option maxHeartbeats 4000000 in
theorem s_X8_mostApart_49 {p : Program} {l : Launch} {e : Env} {s : State} {m : MethodId} {args : Array Value} {below : List Frame} {meth : Method} {c : Code} {g : GG}  {Q : Int32 → AH → Prop}  (C : CXT p l s m args meth c RX8 cX8_mostApart 4 g) (hr : meth.sig.returnType = (some .int))  : ∀ (v0 : Nat) (v1 : Int32) (h : AH), w_X8_mostApart_49  v0 v1 h Q → V p l e s m args below meth c g 5 0 0 4 0 0 (MQ below (QCx g (QI Q)) args s 0 0 (gA g)) 49 [(0, .ref v0), (1, .int v1)] [] h := by
  intro v0 v1 h hw
  refine v_iconst (v := 0) C dX8_mostApart_49 (by decide) ?_
  refine v_istore_n (ls' := [(2, .int (0 : Int32)), (0, .ref v0), (1, .int v1)]) C dX8_mostApart_50 rfl (by decide) rfl ?_
  refine v_iconst (v := 0) C dX8_mostApart_51 (by decide) ?_
  refine v_istore_n (ls' := [(3, .int (0 : Int32)), (2, .int (0 : Int32)), (0, .ref v0), (1, .int v1)]) C dX8_mostApart_52 rfl (by decide) rfl ?_
  refine v_sub [2, 3, 1, 0] rfl ?_
  refine lp_walk (P := fun (s' : Int32 × Int32 × AH) => V p l e s m args below meth c g 5 0 0 4 0 0 (MQ below (QCx g (QI Q)) args s 0 0 (gA g)) 53 [(0, .ref v0), (1, .int v1), (2, .int (s'.1)), (3, .int (s'.2.1))] [] s'.2.2) (fun k2 hk2 s' hw => ?_) ((0 : Int32), (0 : Int32), h) hw
  exact s_X8_mostApart_53 C hr (fun y2 h hw => s_X8_mostApart_93 C hr  _ h hw) (fun y2 y3 h hw => hk2 (y2, y3, h) hw) _ _ _ hw
set_option maxRecDepth 100000 in
set_option maxHeartbeats 4000000 in
theorem s_X8_mostApart_43 {p : Program} {l : Launch} {e : Env} {s : State} {m : MethodId} {args : Array Value} {below : List Frame} {meth : Method} {c : Code} {g : GG} {v0 : Nat} {Q : Int32 → AH → Prop} {x49 : Int32 → AH → Prop} {k : Int32 → Int32 → AH → Prop} (C : CXT p l s m args meth c RX8 cX8_mostApart 4 g) (hr : meth.sig.returnType = (some .int)) (hx49 : ∀ (y1 : Int32) (h : AH), x49 y1 h → V p l e s m args below meth c g 5 0 0 4 0 0 (MQ below (QCx g (QI Q)) args s 0 0 (gA g)) 49 [(0, .ref v0), (1, .int y1)] [] h) (hk : ∀ (y1 : Int32) (y2 : Int32) (h : AH), k y1 y2 h → V p l e s m args below meth c g 5 0 0 4 0 0 (MQ below (QCx g (QI Q)) args s 0 0 (gA g)) 4 [(0, .ref v0), (1, .int y1), (2, .int y2)] [] h) : ∀ (v1 : Int32) (v2 : Int32) (h : AH), w_X8_mostApart_43  x49 k v0 v1 v2 h Q → V p l e s m args below meth c g 5 0 0 4 0 0 (MQ below (QCx g (QI Q)) args s 0 0 (gA g)) 43 [(0, .ref v0), (1, .int v1), (2, .int v2)] [] h := by
  intro v1 v2 h hw
  refine v_iinc (v := 1) (ls' := [(2, .int (v2 + 1)), (0, .ref v0), (1, .int v1)]) C dX8_mostApart_43 2 rfl (by decide) (by decide) rfl ?_
  refine v_goto (tgt := 4) C dX8_mostApart_46 (by decide) ?_
  refine v_sub [1, 2, 0] rfl ?_
  exact hk _ _ _ hw
set_option maxRecDepth 100000 in
set_option maxHeartbeats 4000000 in
theorem s_X8_mostApart_4 {p : Program} {l : Launch} {e : Env} {s : State} {m : MethodId} {args : Array Value} {below : List Frame} {meth : Method} {c : Code} {g : GG} {v0 : Nat} {Q : Int32 → AH → Prop} {x49 : Int32 → AH → Prop} {k : Int32 → Int32 → AH → Prop} (C : CXT p l s m args meth c RX8 cX8_mostApart 4 g) (hr : meth.sig.returnType = (some .int)) (hx49 : ∀ (y1 : Int32) (h : AH), x49 y1 h → V p l e s m args below meth c g 5 0 0 4 0 0 (MQ below (QCx g (QI Q)) args s 0 0 (gA g)) 49 [(0, .ref v0), (1, .int y1)] [] h) (hk : ∀ (y1 : Int32) (y2 : Int32) (h : AH), k y1 y2 h → V p l e s m args below meth c g 5 0 0 4 0 0 (MQ below (QCx g (QI Q)) args s 0 0 (gA g)) 4 [(0, .ref v0), (1, .int y1), (2, .int y2)] [] h) : ∀ (v1 : Int32) (v2 : Int32) (h : AH), w_X8_mostApart_4  x49 k v0 v1 v2 h Q → V p l e s m args below meth c g 5 0 0 4 0 0 (MQ below (QCx g (QI Q)) args s 0 0 (gA g)) 4 [(0, .ref v0), (1, .int v1), (2, .int v2)] [] h := by
  intro v1 v2 h hw
  refine v_iload_n C dX8_mostApart_4 2 rfl rfl ?_
  refine v_aload_n C dX8_mostApart_5 0 rfl rfl ?_
  refine w_getN C fl_X8_33 dX8_mostApart_6 rfl hw (fun a1 hw => ?_)
  refine w_getN C fl_X8_166 dX8_mostApart_9 rfl hw (fun a2 hw => ?_)
  refine w_getI C fl_X8_182 dX8_mostApart_12 rfl hw (fun x3 hw => ?_)
  refine v_icmp_ge (tgt := 49) C dX8_mostApart_15 (by decide) (fun c_15 => ?_) (fun c_15 => ?_)
  · have hw := hw.1 c_15
    refine v_sub [0, 1] rfl ?_
    exact hx49 _ _ hw
  · have hw := hw.2 c_15
    refine v_aload_n C dX8_mostApart_18 0 rfl rfl ?_
    refine v_iload_n C dX8_mostApart_19 2 rfl rfl ?_
    refine w_callVi (st := []) C cl_X8_185 im_X8_isBorneOut se_X8_isBorneOut rfl hw.1 (s_X8_isBorneOut hw.2) rfl dX8_mostApart_20 rfl (by decide) (by decide) (by decide) (by decide) (by decide) (fun x4 h hw => ?_)
    refine v_if_eq (tgt := 43) C dX8_mostApart_23 (by decide) (fun c_23 => ?_) (fun c_23 => ?_)
    · have hw := hw.1 c_23
      exact s_X8_mostApart_43 C hr hx49 hk _ _ _ hw
    · have hw := hw.2 c_23
      refine v_iload_n C dX8_mostApart_26 1 rfl rfl ?_
      refine v_iconst (v := 1) C dX8_mostApart_27 (by decide) ?_
      refine v_aload_n C dX8_mostApart_28 0 rfl rfl ?_
      refine w_getN C fl_X8_33 dX8_mostApart_29 rfl hw (fun a5 hw => ?_)
      refine w_getN C fl_X8_166 dX8_mostApart_32 rfl hw (fun a6 hw => ?_)
      refine w_getN C fl_X8_188 dX8_mostApart_35 rfl hw (fun a7 hw => ?_)
      refine v_iload_n C dX8_mostApart_38 2 rfl rfl ?_
      refine w_iaload C dX8_mostApart_39 hw (fun x8 hw => ?_)
      refine v_ishl C dX8_mostApart_40 ?_
      refine v_ior C dX8_mostApart_41 ?_
      refine w_bd hw (fun x9 hw => ?_)
      refine v_istore_n (ls' := [(1, .int x9), (0, .ref v0), (2, .int v2)]) C dX8_mostApart_42 rfl (by decide) rfl ?_
      refine v_sub [1, 0, 2] rfl ?_
      exact s_X8_mostApart_43 C hr hx49 hk _ _ _ hw
set_option maxRecDepth 100000 in
set_option maxHeartbeats 4000000 in
theorem s_X8_mostApart {l : Launch}  {v0 : Nat} {h : AH} {Q : Int32 → AH → Prop}  (hw : w_X8_mostApart  v0 h Q) : CT l yX8_mostApart cX8_mostApart 4 (some .int) 5 0 0 [.ref v0] h (QI Q) := by
  refine CT.of (by decide) ⟨rfl, trivial⟩ (Nat.le_of_ble_eq_true rfl) ?_
  intro p e s m args below meth c g C hr hin
  refine v_eq (pc' := 0) (ls' := [(0, .ref v0)]) rfl rfl rfl rfl ?_
  refine v_iconst (v := 0) C dX8_mostApart_0 (by decide) ?_
  refine v_istore_n (ls' := [(1, .int (0 : Int32)), (0, .ref v0)]) C dX8_mostApart_1 rfl (by decide) rfl ?_
  refine v_iconst (v := 0) C dX8_mostApart_2 (by decide) ?_
  refine v_istore_n (ls' := [(2, .int (0 : Int32)), (1, .int (0 : Int32)), (0, .ref v0)]) C dX8_mostApart_3 rfl (by decide) rfl ?_
  refine v_sub [2, 1, 0] rfl ?_
  refine lp_walk (P := fun (s' : Int32 × Int32 × AH) => V p l e s m args below meth c g 5 0 0 4 0 0 (MQ below (QCx g (QI Q)) args s 0 0 (gA g)) 4 [(0, .ref v0), (1, .int (s'.1)), (2, .int (s'.2.1))] [] s'.2.2) (fun k2 hk2 s' hw => ?_) ((0 : Int32), (0 : Int32), h) hw
  exact s_X8_mostApart_4 C hr (fun y1 h hw => s_X8_mostApart_49 C hr  _ _ h hw) (fun y1 y2 h hw => hk2 (y1, y2, h) hw) _ _ _ hw
-- GrassField$Study.mostUnseen(II)I
theorem dX8_mostUnseen_0 : decode cX8_mostUnseen 0 = .ok (.aload_n 0, 1) := by decide +kernel
theorem dX8_mostUnseen_1 : decode cX8_mostUnseen 1 = .ok (.iconst 0, 1) := by decide +kernel
theorem dX8_mostUnseen_2 : decode cX8_mostUnseen 2 = .ok (.invokevirtual 156, 3) := by decide +kernel
theorem dX8_mostUnseen_5 : decode cX8_mostUnseen 5 = .ok (.aload_n 0, 1) := by decide +kernel
theorem dX8_mostUnseen_6 : decode cX8_mostUnseen 6 = .ok (.getfield 33, 3) := by decide +kernel
theorem dX8_mostUnseen_9 : decode cX8_mostUnseen 9 = .ok (.getfield 37, 3) := by decide +kernel
theorem dX8_mostUnseen_12 : decode cX8_mostUnseen 12 = .ok (.invokevirtual 43, 3) := by decide +kernel
theorem dX8_mostUnseen_15 : decode cX8_mostUnseen 15 = .ok (.istore_n 3, 1) := by decide +kernel
theorem dX8_mostUnseen_16 : decode cX8_mostUnseen 16 = .ok (.iconst 0, 1) := by decide +kernel
theorem dX8_mostUnseen_17 : decode cX8_mostUnseen 17 = .ok (.istore 4, 2) := by decide +kernel
theorem dX8_mostUnseen_19 : decode cX8_mostUnseen 19 = .ok (.iconst 0, 1) := by decide +kernel
theorem dX8_mostUnseen_20 : decode cX8_mostUnseen 20 = .ok (.istore 5, 2) := by decide +kernel
theorem dX8_mostUnseen_22 : decode cX8_mostUnseen 22 = .ok (.iconst 0, 1) := by decide +kernel
theorem dX8_mostUnseen_23 : decode cX8_mostUnseen 23 = .ok (.istore 6, 2) := by decide +kernel
theorem dX8_mostUnseen_25 : decode cX8_mostUnseen 25 = .ok (.iload 6, 2) := by decide +kernel
theorem dX8_mostUnseen_27 : decode cX8_mostUnseen 27 = .ok (.sipush 256, 3) := by decide +kernel
theorem dX8_mostUnseen_30 : decode cX8_mostUnseen 30 = .ok (.if_icmp .ge 48, 3) := by decide +kernel
theorem dX8_mostUnseen_33 : decode cX8_mostUnseen 33 = .ok (.iload 4, 2) := by decide +kernel
theorem dX8_mostUnseen_35 : decode cX8_mostUnseen 35 = .ok (.aload_n 0, 1) := by decide +kernel
theorem dX8_mostUnseen_36 : decode cX8_mostUnseen 36 = .ok (.getfield 21, 3) := by decide +kernel
theorem dX8_mostUnseen_39 : decode cX8_mostUnseen 39 = .ok (.iload 6, 2) := by decide +kernel
theorem dX8_mostUnseen_41 : decode cX8_mostUnseen 41 = .ok (.iaload, 1) := by decide +kernel
theorem dX8_mostUnseen_42 : decode cX8_mostUnseen 42 = .ok (.invokestatic 139, 3) := by decide +kernel
theorem dX8_mostUnseen_45 : decode cX8_mostUnseen 45 = .ok (.istore 4, 2) := by decide +kernel
theorem dX8_mostUnseen_47 : decode cX8_mostUnseen 47 = .ok (.iload 6, 2) := by decide +kernel
theorem dX8_mostUnseen_49 : decode cX8_mostUnseen 49 = .ok (.iload_n 1, 1) := by decide +kernel
theorem dX8_mostUnseen_50 : decode cX8_mostUnseen 50 = .ok (.iload_n 2, 1) := by decide +kernel
theorem dX8_mostUnseen_51 : decode cX8_mostUnseen 51 = .ok (.invokestatic 90, 3) := by decide +kernel
theorem dX8_mostUnseen_54 : decode cX8_mostUnseen 54 = .ok (.ifCond .eq 18, 3) := by decide +kernel
theorem dX8_mostUnseen_57 : decode cX8_mostUnseen 57 = .ok (.iload_n 3, 1) := by decide +kernel
theorem dX8_mostUnseen_58 : decode cX8_mostUnseen 58 = .ok (.iload 6, 2) := by decide +kernel
theorem dX8_mostUnseen_60 : decode cX8_mostUnseen 60 = .ok (.invokestatic 126, 3) := by decide +kernel
theorem dX8_mostUnseen_63 : decode cX8_mostUnseen 63 = .ok (.ishr, 1) := by decide +kernel
theorem dX8_mostUnseen_64 : decode cX8_mostUnseen 64 = .ok (.iconst 1, 1) := by decide +kernel
theorem dX8_mostUnseen_65 : decode cX8_mostUnseen 65 = .ok (.iand, 1) := by decide +kernel
theorem dX8_mostUnseen_66 : decode cX8_mostUnseen 66 = .ok (.ifCond .ne 6, 3) := by decide +kernel
theorem dX8_mostUnseen_69 : decode cX8_mostUnseen 69 = .ok (.iinc 5 1, 3) := by decide +kernel
theorem dX8_mostUnseen_72 : decode cX8_mostUnseen 72 = .ok (.iinc 6 1, 3) := by decide +kernel
theorem dX8_mostUnseen_75 : decode cX8_mostUnseen 75 = .ok (.goto (-50), 3) := by decide +kernel
theorem dX8_mostUnseen_78 : decode cX8_mostUnseen 78 = .ok (.iload 4, 2) := by decide +kernel
theorem dX8_mostUnseen_80 : decode cX8_mostUnseen 80 = .ok (.iload 5, 2) := by decide +kernel
theorem dX8_mostUnseen_82 : decode cX8_mostUnseen 82 = .ok (.imul, 1) := by decide +kernel
theorem dX8_mostUnseen_83 : decode cX8_mostUnseen 83 = .ok (.ireturn, 1) := by decide +kernel
def w_X8_mostUnseen_78  (v4 : Int32) (v5 : Int32) (h : AH) (Q : Int32 → AH → Prop) : Prop :=
  Q (v4 * v5) h
def w_X8_mostUnseen_72  (x78 : Int32 → Int32 → AH → Prop) (k : Int32 → Int32 → Int32 → AH → Prop) (v0 : Nat) (v1 : Int32) (v2 : Int32) (v3 : Int32) (v4 : Int32) (v5 : Int32) (v6 : Int32) (h : AH) (Q : Int32 → AH → Prop) : Prop :=
  k v4 v5 (v6 + 1) h
def w_X8_mostUnseen_25  (x78 : Int32 → Int32 → AH → Prop) (k : Int32 → Int32 → Int32 → AH → Prop) (v0 : Nat) (v1 : Int32) (v2 : Int32) (v3 : Int32) (v4 : Int32) (v5 : Int32) (v6 : Int32) (h : AH) (Q : Int32 → AH → Prop) : Prop :=
  br ((256 : Int32) ≤ v6) (
    x78 v4 v5 h) (
    fN h v0 8 4 fun a1 =>
    aI h a1 v6 fun x2 =>
    bd (jmax v4 x2) fun x3 =>
    w_X3_isInArea v6 v1 v2 h (fun x4 h =>
    br (x4 = 0) (
      w_X8_mostUnseen_72 x78 k v0 v1 v2 v3 x3 v5 v6 h Q) (
      w_X3_row v6 h (fun x5 h =>
      br (((v3 >>> (x5 &&& 31)) &&& (1 : Int32)) = 0) (
        w_X8_mostUnseen_72 x78 k v0 v1 v2 v3 x3 (v5 + 1) v6 h Q) (
        w_X8_mostUnseen_72 x78 k v0 v1 v2 v3 x3 v5 v6 h Q)))))
def w_X8_mostUnseen  (v0 : Nat) (v1 : Int32) (v2 : Int32) (h : AH) (Q : Int32 → AH → Prop) : Prop :=
  vr h v0 8 (
  w_X8_tallyCells v0 (0 : Int32) h (fun h =>
  fN h v0 8 0 fun a1 =>
  fN h a1 7 3 fun a2 =>
  vr h a2 1 (
  w_X1_nearRows a2 h (fun x3 h =>
  lp (fun (k2 : Int32 × Int32 × Int32 × AH → Prop) (s2 : Int32 × Int32 × Int32 × AH) => w_X8_mostUnseen_25  (fun (y4 : Int32) (y5 : Int32) h => w_X8_mostUnseen_78 y4 y5 h Q) (fun (y4 : Int32) (y5 : Int32) (y6 : Int32) h => k2 (y4, y5, y6, h)) v0 v1 v2 x3 s2.1 s2.2.1 s2.2.2.1 s2.2.2.2 Q) ((0 : Int32), (0 : Int32), (0 : Int32), h)))))
set_option maxRecDepth 100000 in
set_option maxHeartbeats 4000000 in
theorem s_X8_mostUnseen_78 {p : Program} {l : Launch} {e : Env} {s : State} {m : MethodId} {args : Array Value} {below : List Frame} {meth : Method} {c : Code} {g : GG}  {Q : Int32 → AH → Prop}  (C : CXT p l s m args meth c RX8 cX8_mostUnseen 7 g) (hr : meth.sig.returnType = (some .int))  : ∀ (v4 : Int32) (v5 : Int32) (h : AH), w_X8_mostUnseen_78  v4 v5 h Q → V p l e s m args below meth c g 3 0 0 7 0 0 (MQ below (QCx g (QI Q)) args s 0 0 (gA g)) 78 [(4, .int v4), (5, .int v5)] [] h := by
  intro v4 v5 h hw
  refine v_iload C dX8_mostUnseen_78 0 rfl ?_
  refine v_iload C dX8_mostUnseen_80 1 rfl ?_
  refine v_imul C dX8_mostUnseen_82 ?_
  exact (rt_MQ C _).1 _ _ _ _ _ _ hr dX8_mostUnseen_83 (by decide) (by decide) ⟨_, rfl, hw⟩
set_option maxRecDepth 100000 in
set_option maxHeartbeats 4000000 in
theorem s_X8_mostUnseen_72 {p : Program} {l : Launch} {e : Env} {s : State} {m : MethodId} {args : Array Value} {below : List Frame} {meth : Method} {c : Code} {g : GG} {v0 : Nat} {v1 : Int32} {v2 : Int32} {v3 : Int32} {Q : Int32 → AH → Prop} {x78 : Int32 → Int32 → AH → Prop} {k : Int32 → Int32 → Int32 → AH → Prop} (C : CXT p l s m args meth c RX8 cX8_mostUnseen 7 g) (hr : meth.sig.returnType = (some .int)) (hx78 : ∀ (y4 : Int32) (y5 : Int32) (h : AH), x78 y4 y5 h → V p l e s m args below meth c g 3 0 0 7 0 0 (MQ below (QCx g (QI Q)) args s 0 0 (gA g)) 78 [(4, .int y4), (5, .int y5)] [] h) (hk : ∀ (y4 : Int32) (y5 : Int32) (y6 : Int32) (h : AH), k y4 y5 y6 h → V p l e s m args below meth c g 3 0 0 7 0 0 (MQ below (QCx g (QI Q)) args s 0 0 (gA g)) 25 [(0, .ref v0), (1, .int v1), (2, .int v2), (3, .int v3), (4, .int y4), (5, .int y5), (6, .int y6)] [] h) : ∀ (v4 : Int32) (v5 : Int32) (v6 : Int32) (h : AH), w_X8_mostUnseen_72  x78 k v0 v1 v2 v3 v4 v5 v6 h Q → V p l e s m args below meth c g 3 0 0 7 0 0 (MQ below (QCx g (QI Q)) args s 0 0 (gA g)) 72 [(0, .ref v0), (1, .int v1), (2, .int v2), (3, .int v3), (4, .int v4), (5, .int v5), (6, .int v6)] [] h := by
  intro v4 v5 v6 h hw
  refine v_iinc (v := 1) (ls' := [(6, .int (v6 + 1)), (0, .ref v0), (1, .int v1), (2, .int v2), (3, .int v3), (4, .int v4), (5, .int v5)]) C dX8_mostUnseen_72 6 rfl (by decide) (by decide) rfl ?_
  refine v_goto (tgt := 25) C dX8_mostUnseen_75 (by decide) ?_
  refine v_sub [1, 2, 3, 4, 5, 6, 0] rfl ?_
  exact hk _ _ _ _ hw
set_option maxRecDepth 100000 in
set_option maxHeartbeats 4000000 in
theorem s_X8_mostUnseen_25 {p : Program} {l : Launch} {e : Env} {s : State} {m : MethodId} {args : Array Value} {below : List Frame} {meth : Method} {c : Code} {g : GG} {v0 : Nat} {v1 : Int32} {v2 : Int32} {v3 : Int32} {Q : Int32 → AH → Prop} {x78 : Int32 → Int32 → AH → Prop} {k : Int32 → Int32 → Int32 → AH → Prop} (C : CXT p l s m args meth c RX8 cX8_mostUnseen 7 g) (hr : meth.sig.returnType = (some .int)) (hx78 : ∀ (y4 : Int32) (y5 : Int32) (h : AH), x78 y4 y5 h → V p l e s m args below meth c g 3 0 0 7 0 0 (MQ below (QCx g (QI Q)) args s 0 0 (gA g)) 78 [(4, .int y4), (5, .int y5)] [] h) (hk : ∀ (y4 : Int32) (y5 : Int32) (y6 : Int32) (h : AH), k y4 y5 y6 h → V p l e s m args below meth c g 3 0 0 7 0 0 (MQ below (QCx g (QI Q)) args s 0 0 (gA g)) 25 [(0, .ref v0), (1, .int v1), (2, .int v2), (3, .int v3), (4, .int y4), (5, .int y5), (6, .int y6)] [] h) : ∀ (v4 : Int32) (v5 : Int32) (v6 : Int32) (h : AH), w_X8_mostUnseen_25  x78 k v0 v1 v2 v3 v4 v5 v6 h Q → V p l e s m args below meth c g 3 0 0 7 0 0 (MQ below (QCx g (QI Q)) args s 0 0 (gA g)) 25 [(0, .ref v0), (1, .int v1), (2, .int v2), (3, .int v3), (4, .int v4), (5, .int v5), (6, .int v6)] [] h := by
  intro v4 v5 v6 h hw
  refine v_iload C dX8_mostUnseen_25 6 rfl ?_
  refine v_sipush (v := 256) C dX8_mostUnseen_27 (by decide) ?_
  refine v_icmp_ge (tgt := 78) C dX8_mostUnseen_30 (by decide) (fun c_30 => ?_) (fun c_30 => ?_)
  · have hw := hw.1 c_30
    refine v_sub [4, 5] rfl ?_
    exact hx78 _ _ _ hw
  · have hw := hw.2 c_30
    refine v_iload C dX8_mostUnseen_33 4 rfl ?_
    refine v_aload_n C dX8_mostUnseen_35 0 rfl rfl ?_
    refine w_getN C fl_X8_21 dX8_mostUnseen_36 rfl hw (fun a1 hw => ?_)
    refine v_iload C dX8_mostUnseen_39 6 rfl ?_
    refine w_iaload C dX8_mostUnseen_41 hw (fun x2 hw => ?_)
    refine v_max C ml_X8_139 ms_max mi_math mc_max dX8_mostUnseen_42 (by decide) (by decide) (by decide) (by decide) ?_
    refine w_bd hw (fun x3 hw => ?_)
    refine v_istore (ls' := [(4, .int x3), (0, .ref v0), (1, .int v1), (2, .int v2), (3, .int v3), (5, .int v5), (6, .int v6)]) C dX8_mostUnseen_45 (by decide) rfl ?_
    refine v_iload C dX8_mostUnseen_47 6 rfl ?_
    refine v_iload_n C dX8_mostUnseen_49 2 rfl rfl ?_
    refine v_iload_n C dX8_mostUnseen_50 3 rfl rfl ?_
    refine w_callSi (st := []) C cl_X8_90 st_X3_isInArea (s_X3_isInArea hw) rfl dX8_mostUnseen_51 rfl (by decide) (by decide) (by decide) (by decide) (by decide) (fun x4 h hw => ?_)
    refine v_if_eq (tgt := 72) C dX8_mostUnseen_54 (by decide) (fun c_54 => ?_) (fun c_54 => ?_)
    · have hw := hw.1 c_54
      refine v_sub [1, 2, 3, 4, 0, 5, 6] rfl ?_
      exact s_X8_mostUnseen_72 C hr hx78 hk _ _ _ _ hw
    · have hw := hw.2 c_54
      refine v_iload_n C dX8_mostUnseen_57 4 rfl rfl ?_
      refine v_iload C dX8_mostUnseen_58 6 rfl ?_
      refine w_callSi (st := [.int v3]) C cl_X8_126 st_X3_row (s_X3_row hw) rfl dX8_mostUnseen_60 rfl (Nat.le_of_ble_eq_true rfl) (by decide) (by decide) (by decide) (by decide) (fun x5 h hw => ?_)
      refine v_ishr C dX8_mostUnseen_63 ?_
      refine v_iconst (v := 1) C dX8_mostUnseen_64 (by decide) ?_
      refine v_iand C dX8_mostUnseen_65 ?_
      refine v_if_ne (tgt := 72) C dX8_mostUnseen_66 (by decide) (fun c_66 => ?_) (fun c_66 => ?_)
      · have hw := hw.2 c_66
        refine v_sub [1, 2, 3, 4, 0, 5, 6] rfl ?_
        exact s_X8_mostUnseen_72 C hr hx78 hk _ _ _ _ hw
      · have hw := hw.1 c_66
        refine v_iinc (v := 1) (ls' := [(5, .int (v5 + 1)), (4, .int x3), (0, .ref v0), (1, .int v1), (2, .int v2), (3, .int v3), (6, .int v6)]) C dX8_mostUnseen_69 5 rfl (by decide) (by decide) rfl ?_
        refine v_sub [2, 3, 4, 5, 1, 0, 6] rfl ?_
        exact s_X8_mostUnseen_72 C hr hx78 hk _ _ _ _ hw
set_option maxRecDepth 100000 in
set_option maxHeartbeats 4000000 in
theorem s_X8_mostUnseen {l : Launch}  {v0 : Nat} {v1 : Int32} {v2 : Int32} {h : AH} {Q : Int32 → AH → Prop}  (hw : w_X8_mostUnseen  v0 v1 v2 h Q) : CT l yX8_mostUnseen cX8_mostUnseen 7 (some .int) 3 0 0 [.ref v0, .int v1, .int v2] h (QI Q) := by
  refine CT.of (by decide) ⟨rfl, ⟨rfl, ⟨rfl, trivial⟩⟩⟩ (Nat.le_of_ble_eq_true rfl) ?_
  intro p e s m args below meth c g C hr hin
  refine v_eq (pc' := 0) (ls' := [(0, .ref v0), (1, .int v1), (2, .int v2)]) rfl rfl rfl rfl ?_
  refine v_aload_n C dX8_mostUnseen_0 0 rfl rfl ?_
  refine v_iconst (v := 0) C dX8_mostUnseen_1 (by decide) ?_
  refine w_callVv (st := []) C cl_X8_156 im_X8_tallyCells se_X8_tallyCells rfl hw.1 (s_X8_tallyCells hw.2) rfl dX8_mostUnseen_2 rfl (by decide) (by decide) (by decide) (by decide) (by decide) (fun h hw => ?_)
  refine v_aload_n C dX8_mostUnseen_5 0 rfl rfl ?_
  refine w_getN C fl_X8_33 dX8_mostUnseen_6 rfl hw (fun a1 hw => ?_)
  refine w_getN C fl_X8_37 dX8_mostUnseen_9 rfl hw (fun a2 hw => ?_)
  refine w_callVi (st := []) C cl_X8_43 im_X1_nearRows se_X1_nearRows rfl hw.1 (s_X1_nearRows hw.2) rfl dX8_mostUnseen_12 rfl (by decide) (by decide) (by decide) (by decide) (by decide) (fun x3 h hw => ?_)
  refine v_istore_n (ls' := [(3, .int x3), (0, .ref v0), (1, .int v1), (2, .int v2)]) C dX8_mostUnseen_15 rfl (by decide) rfl ?_
  refine v_iconst (v := 0) C dX8_mostUnseen_16 (by decide) ?_
  refine v_istore (ls' := [(4, .int (0 : Int32)), (3, .int x3), (0, .ref v0), (1, .int v1), (2, .int v2)]) C dX8_mostUnseen_17 (by decide) rfl ?_
  refine v_iconst (v := 0) C dX8_mostUnseen_19 (by decide) ?_
  refine v_istore (ls' := [(5, .int (0 : Int32)), (4, .int (0 : Int32)), (3, .int x3), (0, .ref v0), (1, .int v1), (2, .int v2)]) C dX8_mostUnseen_20 (by decide) rfl ?_
  refine v_iconst (v := 0) C dX8_mostUnseen_22 (by decide) ?_
  refine v_istore (ls' := [(6, .int (0 : Int32)), (5, .int (0 : Int32)), (4, .int (0 : Int32)), (3, .int x3), (0, .ref v0), (1, .int v1), (2, .int v2)]) C dX8_mostUnseen_23 (by decide) rfl ?_
  refine v_sub [4, 5, 6, 3, 2, 1, 0] rfl ?_
  refine lp_walk (P := fun (s' : Int32 × Int32 × Int32 × AH) => V p l e s m args below meth c g 3 0 0 7 0 0 (MQ below (QCx g (QI Q)) args s 0 0 (gA g)) 25 [(0, .ref v0), (1, .int v1), (2, .int v2), (3, .int x3), (4, .int (s'.1)), (5, .int (s'.2.1)), (6, .int (s'.2.2.1))] [] s'.2.2.2) (fun k2 hk2 s' hw => ?_) ((0 : Int32), (0 : Int32), (0 : Int32), h) hw
  exact s_X8_mostUnseen_25 C hr (fun y4 y5 h hw => s_X8_mostUnseen_78 C hr  _ _ h hw) (fun y4 y5 y6 h hw => hk2 (y4, y5, y6, h) hw) _ _ _ _ hw
-- GrassField$Study.nameOne(II)V
theorem dX8_nameOne_0 : decode cX8_nameOne 0 = .ok (.iconst 0, 1) := by decide +kernel
theorem dX8_nameOne_1 : decode cX8_nameOne 1 = .ok (.istore_n 3, 1) := by decide +kernel
theorem dX8_nameOne_2 : decode cX8_nameOne 2 = .ok (.iload_n 3, 1) := by decide +kernel
theorem dX8_nameOne_3 : decode cX8_nameOne 3 = .ok (.aload_n 0, 1) := by decide +kernel
theorem dX8_nameOne_4 : decode cX8_nameOne 4 = .ok (.getfield 27, 3) := by decide +kernel
theorem dX8_nameOne_7 : decode cX8_nameOne 7 = .ok (.arraylength, 1) := by decide +kernel
theorem dX8_nameOne_8 : decode cX8_nameOne 8 = .ok (.if_icmp .ge 68, 3) := by decide +kernel
theorem dX8_nameOne_11 : decode cX8_nameOne 11 = .ok (.aload_n 0, 1) := by decide +kernel
theorem dX8_nameOne_12 : decode cX8_nameOne 12 = .ok (.getfield 27, 3) := by decide +kernel
theorem dX8_nameOne_15 : decode cX8_nameOne 15 = .ok (.iload_n 3, 1) := by decide +kernel
theorem dX8_nameOne_16 : decode cX8_nameOne 16 = .ok (.iaload, 1) := by decide +kernel
theorem dX8_nameOne_17 : decode cX8_nameOne 17 = .ok (.iconst 1, 1) := by decide +kernel
theorem dX8_nameOne_18 : decode cX8_nameOne 18 = .ok (.if_icmp .ne 52, 3) := by decide +kernel
theorem dX8_nameOne_21 : decode cX8_nameOne 21 = .ok (.iload_n 3, 1) := by decide +kernel
theorem dX8_nameOne_22 : decode cX8_nameOne 22 = .ok (.invokestatic 68, 3) := by decide +kernel
theorem dX8_nameOne_25 : decode cX8_nameOne 25 = .ok (.iload_n 2, 1) := by decide +kernel
theorem dX8_nameOne_26 : decode cX8_nameOne 26 = .ok (.if_icmp .ne 44, 3) := by decide +kernel
theorem dX8_nameOne_29 : decode cX8_nameOne 29 = .ok (.iconst 0, 1) := by decide +kernel
theorem dX8_nameOne_30 : decode cX8_nameOne 30 = .ok (.istore 4, 2) := by decide +kernel
theorem dX8_nameOne_32 : decode cX8_nameOne 32 = .ok (.iload 4, 2) := by decide +kernel
theorem dX8_nameOne_34 : decode cX8_nameOne 34 = .ok (.bipush 8, 2) := by decide +kernel
theorem dX8_nameOne_36 : decode cX8_nameOne 36 = .ok (.if_icmp .ge 34, 3) := by decide +kernel
theorem dX8_nameOne_39 : decode cX8_nameOne 39 = .ok (.iload_n 1, 1) := by decide +kernel
theorem dX8_nameOne_40 : decode cX8_nameOne 40 = .ok (.iload_n 3, 1) := by decide +kernel
theorem dX8_nameOne_41 : decode cX8_nameOne 41 = .ok (.iconst (-1), 1) := by decide +kernel
theorem dX8_nameOne_42 : decode cX8_nameOne 42 = .ok (.ixor, 1) := by decide +kernel
theorem dX8_nameOne_43 : decode cX8_nameOne 43 = .ok (.iand, 1) := by decide +kernel
theorem dX8_nameOne_44 : decode cX8_nameOne 44 = .ok (.iconst 1, 1) := by decide +kernel
theorem dX8_nameOne_45 : decode cX8_nameOne 45 = .ok (.iload 4, 2) := by decide +kernel
theorem dX8_nameOne_47 : decode cX8_nameOne 47 = .ok (.ishl, 1) := by decide +kernel
theorem dX8_nameOne_48 : decode cX8_nameOne 48 = .ok (.iand, 1) := by decide +kernel
theorem dX8_nameOne_49 : decode cX8_nameOne 49 = .ok (.ifCond .eq 15, 3) := by decide +kernel
theorem dX8_nameOne_52 : decode cX8_nameOne 52 = .ok (.aload_n 0, 1) := by decide +kernel
theorem dX8_nameOne_53 : decode cX8_nameOne 53 = .ok (.getfield 27, 3) := by decide +kernel
theorem dX8_nameOne_56 : decode cX8_nameOne 56 = .ok (.iload_n 3, 1) := by decide +kernel
theorem dX8_nameOne_57 : decode cX8_nameOne 57 = .ok (.iconst 1, 1) := by decide +kernel
theorem dX8_nameOne_58 : decode cX8_nameOne 58 = .ok (.iload 4, 2) := by decide +kernel
theorem dX8_nameOne_60 : decode cX8_nameOne 60 = .ok (.ishl, 1) := by decide +kernel
theorem dX8_nameOne_61 : decode cX8_nameOne 61 = .ok (.ior, 1) := by decide +kernel
theorem dX8_nameOne_62 : decode cX8_nameOne 62 = .ok (.iconst 1, 1) := by decide +kernel
theorem dX8_nameOne_63 : decode cX8_nameOne 63 = .ok (.iastore, 1) := by decide +kernel
theorem dX8_nameOne_64 : decode cX8_nameOne 64 = .ok (.iinc 4 1, 3) := by decide +kernel
theorem dX8_nameOne_67 : decode cX8_nameOne 67 = .ok (.goto (-35), 3) := by decide +kernel
theorem dX8_nameOne_70 : decode cX8_nameOne 70 = .ok (.iinc 3 1, 3) := by decide +kernel
theorem dX8_nameOne_73 : decode cX8_nameOne 73 = .ok (.goto (-71), 3) := by decide +kernel
theorem dX8_nameOne_76 : decode cX8_nameOne 76 = .ok (.return_, 1) := by decide +kernel
def w_X8_nameOne_76  (h : AH) (Q : AH → Prop) : Prop :=
  Q h
def w_X8_nameOne_70  (x76 : AH → Prop) (k : Int32 → AH → Prop) (v0 : Nat) (v1 : Int32) (v2 : Int32) (v3 : Int32) (h : AH) (Q : AH → Prop) : Prop :=
  k (v3 + 1) h
def w_X8_nameOne_64  (x70 : AH → Prop) (k : Int32 → AH → Prop) (v0 : Nat) (v1 : Int32) (v2 : Int32) (v3 : Int32) (v4 : Int32) (h : AH) (Q : AH → Prop) : Prop :=
  k (v4 + 1) h
def w_X8_nameOne_32  (x70 : AH → Prop) (k : Int32 → AH → Prop) (v0 : Nat) (v1 : Int32) (v2 : Int32) (v3 : Int32) (v4 : Int32) (h : AH) (Q : AH → Prop) : Prop :=
  br ((8 : Int32) ≤ v4) (
    x70  h) (
    br (((v1 &&& (v3 ^^^ (-1 : Int32))) &&& ((1 : Int32) <<< (v4 &&& 31))) = 0) (
      w_X8_nameOne_64 x70 k v0 v1 v2 v3 v4 h Q) (
      fN h v0 8 7 fun a1 =>
      tI h a1 (v3 ||| ((1 : Int32) <<< (v4 &&& 31))) (1 : Int32) fun h =>
      w_X8_nameOne_64 x70 k v0 v1 v2 v3 v4 h Q))
def w_X8_nameOne_2  (x76 : AH → Prop) (k : Int32 → AH → Prop) (v0 : Nat) (v1 : Int32) (v2 : Int32) (v3 : Int32) (h : AH) (Q : AH → Prop) : Prop :=
  fN h v0 8 7 fun a1 =>
  al h a1 0 fun x2 =>
  br (x2 ≤ v3) (
    x76  h) (
    fN h v0 8 7 fun a3 =>
    aI h a3 v3 fun x4 =>
    br (x4 = (1 : Int32)) (
      w_J6_bitCount_0f7a4 v3 h (fun x5 h =>
      br (x5 = v2) (
        lp (fun (k2 : Int32 × AH → Prop) (s2 : Int32 × AH) => w_X8_nameOne_32  (fun  h => w_X8_nameOne_70 x76 k v0 v1 v2 v3 h Q) (fun (y4 : Int32) h => k2 (y4, h)) v0 v1 v2 v3 s2.1 s2.2 Q) ((0 : Int32), h)) (
        w_X8_nameOne_70 x76 k v0 v1 v2 v3 h Q))) (
      w_X8_nameOne_70 x76 k v0 v1 v2 v3 h Q))
def w_X8_nameOne  (v0 : Nat) (v1 : Int32) (v2 : Int32) (h : AH) (Q : AH → Prop) : Prop :=
  lp (fun (k2 : Int32 × AH → Prop) (s2 : Int32 × AH) => w_X8_nameOne_2  (fun  h => w_X8_nameOne_76  h Q) (fun (y3 : Int32) h => k2 (y3, h)) v0 v1 v2 s2.1 s2.2 Q) ((0 : Int32), h)
set_option maxRecDepth 100000 in
set_option maxHeartbeats 4000000 in
theorem s_X8_nameOne_76 {p : Program} {l : Launch} {e : Env} {s : State} {m : MethodId} {args : Array Value} {below : List Frame} {meth : Method} {c : Code} {g : GG}  {Q : AH → Prop}  (C : CXT p l s m args meth c RX8 cX8_nameOne 5 g) (hr : meth.sig.returnType = none)  : ∀  (h : AH), w_X8_nameOne_76  h Q → V p l e s m args below meth c g 1 0 0 5 0 0 (MQ below (QCx g (QV Q)) args s 0 0 (gA g)) 76 [] [] h := by
  intro  h hw
  exact (rt_MQ C _).2.2.1 _ _ _ _ _ hr dX8_nameOne_76 (by decide) (by decide) ⟨rfl, hw⟩
set_option maxRecDepth 100000 in
set_option maxHeartbeats 4000000 in
theorem s_X8_nameOne_70 {p : Program} {l : Launch} {e : Env} {s : State} {m : MethodId} {args : Array Value} {below : List Frame} {meth : Method} {c : Code} {g : GG} {v0 : Nat} {v1 : Int32} {v2 : Int32} {Q : AH → Prop} {x76 : AH → Prop} {k : Int32 → AH → Prop} (C : CXT p l s m args meth c RX8 cX8_nameOne 5 g) (hr : meth.sig.returnType = none) (hx76 : ∀  (h : AH), x76  h → V p l e s m args below meth c g 1 0 0 5 0 0 (MQ below (QCx g (QV Q)) args s 0 0 (gA g)) 76 [] [] h) (hk : ∀ (y3 : Int32) (h : AH), k y3 h → V p l e s m args below meth c g 1 0 0 5 0 0 (MQ below (QCx g (QV Q)) args s 0 0 (gA g)) 2 [(0, .ref v0), (1, .int v1), (2, .int v2), (3, .int y3)] [] h) : ∀ (v3 : Int32) (h : AH), w_X8_nameOne_70  x76 k v0 v1 v2 v3 h Q → V p l e s m args below meth c g 1 0 0 5 0 0 (MQ below (QCx g (QV Q)) args s 0 0 (gA g)) 70 [(0, .ref v0), (1, .int v1), (2, .int v2), (3, .int v3)] [] h := by
  intro v3 h hw
  refine v_iinc (v := 1) (ls' := [(3, .int (v3 + 1)), (0, .ref v0), (1, .int v1), (2, .int v2)]) C dX8_nameOne_70 3 rfl (by decide) (by decide) rfl ?_
  refine v_goto (tgt := 2) C dX8_nameOne_73 (by decide) ?_
  refine v_sub [1, 2, 3, 0] rfl ?_
  exact hk _ _ hw
set_option maxRecDepth 100000 in
set_option maxHeartbeats 4000000 in
theorem s_X8_nameOne_64 {p : Program} {l : Launch} {e : Env} {s : State} {m : MethodId} {args : Array Value} {below : List Frame} {meth : Method} {c : Code} {g : GG} {v0 : Nat} {v1 : Int32} {v2 : Int32} {v3 : Int32} {Q : AH → Prop} {x70 : AH → Prop} {k : Int32 → AH → Prop} (C : CXT p l s m args meth c RX8 cX8_nameOne 5 g) (hr : meth.sig.returnType = none) (hx70 : ∀  (h : AH), x70  h → V p l e s m args below meth c g 1 0 0 5 0 0 (MQ below (QCx g (QV Q)) args s 0 0 (gA g)) 70 [(0, .ref v0), (1, .int v1), (2, .int v2), (3, .int v3)] [] h) (hk : ∀ (y4 : Int32) (h : AH), k y4 h → V p l e s m args below meth c g 1 0 0 5 0 0 (MQ below (QCx g (QV Q)) args s 0 0 (gA g)) 32 [(0, .ref v0), (1, .int v1), (2, .int v2), (3, .int v3), (4, .int y4)] [] h) : ∀ (v4 : Int32) (h : AH), w_X8_nameOne_64  x70 k v0 v1 v2 v3 v4 h Q → V p l e s m args below meth c g 1 0 0 5 0 0 (MQ below (QCx g (QV Q)) args s 0 0 (gA g)) 64 [(0, .ref v0), (1, .int v1), (2, .int v2), (3, .int v3), (4, .int v4)] [] h := by
  intro v4 h hw
  refine v_iinc (v := 1) (ls' := [(4, .int (v4 + 1)), (0, .ref v0), (1, .int v1), (2, .int v2), (3, .int v3)]) C dX8_nameOne_64 4 rfl (by decide) (by decide) rfl ?_
  refine v_goto (tgt := 32) C dX8_nameOne_67 (by decide) ?_
  refine v_sub [1, 2, 3, 4, 0] rfl ?_
  exact hk _ _ hw
set_option maxRecDepth 100000 in
set_option maxHeartbeats 4000000 in
theorem s_X8_nameOne_32 {p : Program} {l : Launch} {e : Env} {s : State} {m : MethodId} {args : Array Value} {below : List Frame} {meth : Method} {c : Code} {g : GG} {v0 : Nat} {v1 : Int32} {v2 : Int32} {v3 : Int32} {Q : AH → Prop} {x70 : AH → Prop} {k : Int32 → AH → Prop} (C : CXT p l s m args meth c RX8 cX8_nameOne 5 g) (hr : meth.sig.returnType = none) (hx70 : ∀  (h : AH), x70  h → V p l e s m args below meth c g 1 0 0 5 0 0 (MQ below (QCx g (QV Q)) args s 0 0 (gA g)) 70 [(0, .ref v0), (1, .int v1), (2, .int v2), (3, .int v3)] [] h) (hk : ∀ (y4 : Int32) (h : AH), k y4 h → V p l e s m args below meth c g 1 0 0 5 0 0 (MQ below (QCx g (QV Q)) args s 0 0 (gA g)) 32 [(0, .ref v0), (1, .int v1), (2, .int v2), (3, .int v3), (4, .int y4)] [] h) : ∀ (v4 : Int32) (h : AH), w_X8_nameOne_32  x70 k v0 v1 v2 v3 v4 h Q → V p l e s m args below meth c g 1 0 0 5 0 0 (MQ below (QCx g (QV Q)) args s 0 0 (gA g)) 32 [(0, .ref v0), (1, .int v1), (2, .int v2), (3, .int v3), (4, .int v4)] [] h := by
  intro v4 h hw
  refine v_iload C dX8_nameOne_32 4 rfl ?_
  refine v_bipush (v := 8) C dX8_nameOne_34 (by decide) ?_
  refine v_icmp_ge (tgt := 70) C dX8_nameOne_36 (by decide) (fun c_36 => ?_) (fun c_36 => ?_)
  · have hw := hw.1 c_36
    refine v_sub [0, 1, 2, 3] rfl ?_
    exact hx70  _ hw
  · have hw := hw.2 c_36
    refine v_iload_n C dX8_nameOne_39 1 rfl rfl ?_
    refine v_iload_n C dX8_nameOne_40 3 rfl rfl ?_
    refine v_iconst (v := -1) C dX8_nameOne_41 (by decide) ?_
    refine v_ixor C dX8_nameOne_42 ?_
    refine v_iand C dX8_nameOne_43 ?_
    refine v_iconst (v := 1) C dX8_nameOne_44 (by decide) ?_
    refine v_iload C dX8_nameOne_45 4 rfl ?_
    refine v_ishl C dX8_nameOne_47 ?_
    refine v_iand C dX8_nameOne_48 ?_
    refine v_if_eq (tgt := 64) C dX8_nameOne_49 (by decide) (fun c_49 => ?_) (fun c_49 => ?_)
    · have hw := hw.1 c_49
      exact s_X8_nameOne_64 C hr hx70 hk _ _ hw
    · have hw := hw.2 c_49
      refine v_aload_n C dX8_nameOne_52 0 rfl rfl ?_
      refine w_getN C fl_X8_27 dX8_nameOne_53 rfl hw (fun a1 hw => ?_)
      refine v_iload_n C dX8_nameOne_56 3 rfl rfl ?_
      refine v_iconst (v := 1) C dX8_nameOne_57 (by decide) ?_
      refine v_iload C dX8_nameOne_58 4 rfl ?_
      refine v_ishl C dX8_nameOne_60 ?_
      refine v_ior C dX8_nameOne_61 ?_
      refine v_iconst (v := 1) C dX8_nameOne_62 (by decide) ?_
      refine w_iastore C dX8_nameOne_63 hw (fun h hw => ?_)
      exact s_X8_nameOne_64 C hr hx70 hk _ _ hw
set_option maxRecDepth 100000 in
set_option maxHeartbeats 4000000 in
theorem s_X8_nameOne_2 {p : Program} {l : Launch} {e : Env} {s : State} {m : MethodId} {args : Array Value} {below : List Frame} {meth : Method} {c : Code} {g : GG} {v0 : Nat} {v1 : Int32} {v2 : Int32} {Q : AH → Prop} {x76 : AH → Prop} {k : Int32 → AH → Prop} (C : CXT p l s m args meth c RX8 cX8_nameOne 5 g) (hr : meth.sig.returnType = none) (hx76 : ∀  (h : AH), x76  h → V p l e s m args below meth c g 1 0 0 5 0 0 (MQ below (QCx g (QV Q)) args s 0 0 (gA g)) 76 [] [] h) (hk : ∀ (y3 : Int32) (h : AH), k y3 h → V p l e s m args below meth c g 1 0 0 5 0 0 (MQ below (QCx g (QV Q)) args s 0 0 (gA g)) 2 [(0, .ref v0), (1, .int v1), (2, .int v2), (3, .int y3)] [] h) : ∀ (v3 : Int32) (h : AH), w_X8_nameOne_2  x76 k v0 v1 v2 v3 h Q → V p l e s m args below meth c g 1 0 0 5 0 0 (MQ below (QCx g (QV Q)) args s 0 0 (gA g)) 2 [(0, .ref v0), (1, .int v1), (2, .int v2), (3, .int v3)] [] h := by
  intro v3 h hw
  refine v_iload_n C dX8_nameOne_2 3 rfl rfl ?_
  refine v_aload_n C dX8_nameOne_3 0 rfl rfl ?_
  refine w_getN C fl_X8_27 dX8_nameOne_4 rfl hw (fun a1 hw => ?_)
  refine w_alen C 0 (by decide) dX8_nameOne_7 hw (fun x2 hw => ?_)
  refine v_icmp_ge (tgt := 76) C dX8_nameOne_8 (by decide) (fun c_8 => ?_) (fun c_8 => ?_)
  · have hw := hw.1 c_8
    refine v_sub [] rfl ?_
    exact hx76  _ hw
  · have hw := hw.2 c_8
    refine v_aload_n C dX8_nameOne_11 0 rfl rfl ?_
    refine w_getN C fl_X8_27 dX8_nameOne_12 rfl hw (fun a3 hw => ?_)
    refine v_iload_n C dX8_nameOne_15 3 rfl rfl ?_
    refine w_iaload C dX8_nameOne_16 hw (fun x4 hw => ?_)
    refine v_iconst (v := 1) C dX8_nameOne_17 (by decide) ?_
    refine v_icmp_ne (tgt := 70) C dX8_nameOne_18 (by decide) (fun c_18 => ?_) (fun c_18 => ?_)
    · have hw := hw.2 c_18
      exact s_X8_nameOne_70 C hr hx76 hk _ _ hw
    · have hw := hw.1 c_18
      refine v_iload_n C dX8_nameOne_21 3 rfl rfl ?_
      refine w_callSi (st := []) C cl_X8_68 st_J6_bitCount_0f7a4 (s_J6_bitCount_0f7a4 hw) rfl dX8_nameOne_22 rfl (by decide) (by decide) (by decide) (by decide) (by decide) (fun x5 h hw => ?_)
      refine v_iload_n C dX8_nameOne_25 2 rfl rfl ?_
      refine v_icmp_ne (tgt := 70) C dX8_nameOne_26 (by decide) (fun c_26 => ?_) (fun c_26 => ?_)
      · have hw := hw.2 c_26
        exact s_X8_nameOne_70 C hr hx76 hk _ _ hw
      · have hw := hw.1 c_26
        refine v_iconst (v := 0) C dX8_nameOne_29 (by decide) ?_
        refine v_istore (ls' := [(4, .int (0 : Int32)), (0, .ref v0), (1, .int v1), (2, .int v2), (3, .int v3)]) C dX8_nameOne_30 (by decide) rfl ?_
        refine v_sub [1, 2, 3, 4, 0] rfl ?_
        refine lp_walk (P := fun (s' : Int32 × AH) => V p l e s m args below meth c g 1 0 0 5 0 0 (MQ below (QCx g (QV Q)) args s 0 0 (gA g)) 32 [(0, .ref v0), (1, .int v1), (2, .int v2), (3, .int v3), (4, .int (s'.1))] [] s'.2) (fun k2 hk2 s' hw => ?_) ((0 : Int32), h) hw
        exact s_X8_nameOne_32 C hr (fun  h hw => s_X8_nameOne_70 C hr hx76 hk _ h hw) (fun y4 h hw => hk2 (y4, h) hw) _ _ hw
set_option maxRecDepth 100000 in
set_option maxHeartbeats 4000000 in
theorem s_X8_nameOne {l : Launch}  {v0 : Nat} {v1 : Int32} {v2 : Int32} {h : AH} {Q : AH → Prop}  (hw : w_X8_nameOne  v0 v1 v2 h Q) : CT l yX8_nameOne cX8_nameOne 5 none 1 0 0 [.ref v0, .int v1, .int v2] h (QV Q) := by
  refine CT.of (by decide) ⟨rfl, ⟨rfl, ⟨rfl, trivial⟩⟩⟩ (Nat.le_of_ble_eq_true rfl) ?_
  intro p e s m args below meth c g C hr hin
  refine v_eq (pc' := 0) (ls' := [(0, .ref v0), (1, .int v1), (2, .int v2)]) rfl rfl rfl rfl ?_
  refine v_iconst (v := 0) C dX8_nameOne_0 (by decide) ?_
  refine v_istore_n (ls' := [(3, .int (0 : Int32)), (0, .ref v0), (1, .int v1), (2, .int v2)]) C dX8_nameOne_1 rfl (by decide) rfl ?_
  refine v_sub [1, 2, 3, 0] rfl ?_
  refine lp_walk (P := fun (s' : Int32 × AH) => V p l e s m args below meth c g 1 0 0 5 0 0 (MQ below (QCx g (QV Q)) args s 0 0 (gA g)) 2 [(0, .ref v0), (1, .int v1), (2, .int v2), (3, .int (s'.1))] [] s'.2) (fun k2 hk2 s' hw => ?_) ((0 : Int32), h) hw
  exact s_X8_nameOne_2 C hr (fun  h hw => s_X8_nameOne_76 C hr   h hw) (fun y3 h hw => hk2 (y3, h) hw) _ _ hw
-- GrassField$Study.nameOthers(I)V
theorem dX8_nameOthers_0 : decode cX8_nameOthers 0 = .ok (.aload_n 0, 1) := by decide +kernel
theorem dX8_nameOthers_1 : decode cX8_nameOthers 1 = .ok (.getfield 27, 3) := by decide +kernel
theorem dX8_nameOthers_4 : decode cX8_nameOthers 4 = .ok (.iconst 0, 1) := by decide +kernel
theorem dX8_nameOthers_5 : decode cX8_nameOthers 5 = .ok (.invokestatic 150, 3) := by decide +kernel
theorem dX8_nameOthers_8 : decode cX8_nameOthers 8 = .ok (.aload_n 0, 1) := by decide +kernel
theorem dX8_nameOthers_9 : decode cX8_nameOthers 9 = .ok (.getfield 27, 3) := by decide +kernel
theorem dX8_nameOthers_12 : decode cX8_nameOthers 12 = .ok (.iconst 0, 1) := by decide +kernel
theorem dX8_nameOthers_13 : decode cX8_nameOthers 13 = .ok (.iconst 1, 1) := by decide +kernel
theorem dX8_nameOthers_14 : decode cX8_nameOthers 14 = .ok (.iastore, 1) := by decide +kernel
theorem dX8_nameOthers_15 : decode cX8_nameOthers 15 = .ok (.iconst 0, 1) := by decide +kernel
theorem dX8_nameOthers_16 : decode cX8_nameOthers 16 = .ok (.istore_n 2, 1) := by decide +kernel
theorem dX8_nameOthers_17 : decode cX8_nameOthers 17 = .ok (.iconst 0, 1) := by decide +kernel
theorem dX8_nameOthers_18 : decode cX8_nameOthers 18 = .ok (.istore_n 3, 1) := by decide +kernel
theorem dX8_nameOthers_19 : decode cX8_nameOthers 19 = .ok (.iload_n 3, 1) := by decide +kernel
theorem dX8_nameOthers_20 : decode cX8_nameOthers 20 = .ok (.aload_n 0, 1) := by decide +kernel
theorem dX8_nameOthers_21 : decode cX8_nameOthers 21 = .ok (.getfield 198, 3) := by decide +kernel
theorem dX8_nameOthers_24 : decode cX8_nameOthers 24 = .ok (.if_icmp .ge 39, 3) := by decide +kernel
theorem dX8_nameOthers_27 : decode cX8_nameOthers 27 = .ok (.iload_n 3, 1) := by decide +kernel
theorem dX8_nameOthers_28 : decode cX8_nameOthers 28 = .ok (.iload_n 1, 1) := by decide +kernel
theorem dX8_nameOthers_29 : decode cX8_nameOthers 29 = .ok (.if_icmp .eq 28, 3) := by decide +kernel
theorem dX8_nameOthers_32 : decode cX8_nameOthers 32 = .ok (.aload_n 0, 1) := by decide +kernel
theorem dX8_nameOthers_33 : decode cX8_nameOthers 33 = .ok (.aload_n 0, 1) := by decide +kernel
theorem dX8_nameOthers_34 : decode cX8_nameOthers 34 = .ok (.getfield 33, 3) := by decide +kernel
theorem dX8_nameOthers_37 : decode cX8_nameOthers 37 = .ok (.getfield 37, 3) := by decide +kernel
theorem dX8_nameOthers_40 : decode cX8_nameOthers 40 = .ok (.getfield 105, 3) := by decide +kernel
theorem dX8_nameOthers_43 : decode cX8_nameOthers 43 = .ok (.aload_n 0, 1) := by decide +kernel
theorem dX8_nameOthers_44 : decode cX8_nameOthers 44 = .ok (.getfield 24, 3) := by decide +kernel
theorem dX8_nameOthers_47 : decode cX8_nameOthers 47 = .ok (.iload_n 3, 1) := by decide +kernel
theorem dX8_nameOthers_48 : decode cX8_nameOthers 48 = .ok (.iaload, 1) := by decide +kernel
theorem dX8_nameOthers_49 : decode cX8_nameOthers 49 = .ok (.iaload, 1) := by decide +kernel
theorem dX8_nameOthers_50 : decode cX8_nameOthers 50 = .ok (.iload_n 2, 1) := by decide +kernel
theorem dX8_nameOthers_51 : decode cX8_nameOthers 51 = .ok (.invokevirtual 205, 3) := by decide +kernel
theorem dX8_nameOthers_54 : decode cX8_nameOthers 54 = .ok (.iinc 2 1, 3) := by decide +kernel
theorem dX8_nameOthers_57 : decode cX8_nameOthers 57 = .ok (.iinc 3 1, 3) := by decide +kernel
theorem dX8_nameOthers_60 : decode cX8_nameOthers 60 = .ok (.goto (-41), 3) := by decide +kernel
theorem dX8_nameOthers_63 : decode cX8_nameOthers 63 = .ok (.return_, 1) := by decide +kernel
def w_X8_nameOthers_63  (h : AH) (Q : AH → Prop) : Prop :=
  Q h
def w_X8_nameOthers_57  (x63 : AH → Prop) (k : Int32 → Int32 → AH → Prop) (v0 : Nat) (v1 : Int32) (v2 : Int32) (v3 : Int32) (h : AH) (Q : AH → Prop) : Prop :=
  k v2 (v3 + 1) h
def w_X8_nameOthers_19  (x63 : AH → Prop) (k : Int32 → Int32 → AH → Prop) (v0 : Nat) (v1 : Int32) (v2 : Int32) (v3 : Int32) (h : AH) (Q : AH → Prop) : Prop :=
  fI h v0 8 6 fun x1 =>
  br (x1 ≤ v3) (
    x63  h) (
    br (v3 = v1) (
      w_X8_nameOthers_57 x63 k v0 v1 v2 v3 h Q) (
      fN h v0 8 0 fun a2 =>
      fN h a2 7 3 fun a3 =>
      fN h a3 1 4 fun a4 =>
      fN h v0 8 5 fun a5 =>
      aI h a5 v3 fun x6 =>
      aI h a4 x6 fun x7 =>
      vr h v0 8 (
      w_X8_nameOne v0 x7 v2 h (fun h =>
      w_X8_nameOthers_57 x63 k v0 v1 (v2 + 1) v3 h Q))))
def w_X8_nameOthers  (v0 : Nat) (v1 : Int32) (h : AH) (Q : AH → Prop) : Prop :=
  fN h v0 8 7 fun a1 =>
  w_J7_fill_53178 a1 (0 : Int32) h (fun h =>
  fN h v0 8 7 fun a2 =>
  tI h a2 (0 : Int32) (1 : Int32) fun h =>
  lp (fun (k2 : Int32 × Int32 × AH → Prop) (s2 : Int32 × Int32 × AH) => w_X8_nameOthers_19  (fun  h => w_X8_nameOthers_63  h Q) (fun (y2 : Int32) (y3 : Int32) h => k2 (y2, y3, h)) v0 v1 s2.1 s2.2.1 s2.2.2 Q) ((0 : Int32), (0 : Int32), h))
set_option maxRecDepth 100000 in
set_option maxHeartbeats 4000000 in
theorem s_X8_nameOthers_63 {p : Program} {l : Launch} {e : Env} {s : State} {m : MethodId} {args : Array Value} {below : List Frame} {meth : Method} {c : Code} {g : GG}  {Q : AH → Prop}  (C : CXT p l s m args meth c RX8 cX8_nameOthers 4 g) (hr : meth.sig.returnType = none)  : ∀  (h : AH), w_X8_nameOthers_63  h Q → V p l e s m args below meth c g 2 0 0 4 0 0 (MQ below (QCx g (QV Q)) args s 0 0 (gA g)) 63 [] [] h := by
  intro  h hw
  exact (rt_MQ C _).2.2.1 _ _ _ _ _ hr dX8_nameOthers_63 (by decide) (by decide) ⟨rfl, hw⟩
set_option maxRecDepth 100000 in
set_option maxHeartbeats 4000000 in
theorem s_X8_nameOthers_57 {p : Program} {l : Launch} {e : Env} {s : State} {m : MethodId} {args : Array Value} {below : List Frame} {meth : Method} {c : Code} {g : GG} {v0 : Nat} {v1 : Int32} {Q : AH → Prop} {x63 : AH → Prop} {k : Int32 → Int32 → AH → Prop} (C : CXT p l s m args meth c RX8 cX8_nameOthers 4 g) (hr : meth.sig.returnType = none) (hx63 : ∀  (h : AH), x63  h → V p l e s m args below meth c g 2 0 0 4 0 0 (MQ below (QCx g (QV Q)) args s 0 0 (gA g)) 63 [] [] h) (hk : ∀ (y2 : Int32) (y3 : Int32) (h : AH), k y2 y3 h → V p l e s m args below meth c g 2 0 0 4 0 0 (MQ below (QCx g (QV Q)) args s 0 0 (gA g)) 19 [(0, .ref v0), (1, .int v1), (2, .int y2), (3, .int y3)] [] h) : ∀ (v2 : Int32) (v3 : Int32) (h : AH), w_X8_nameOthers_57  x63 k v0 v1 v2 v3 h Q → V p l e s m args below meth c g 2 0 0 4 0 0 (MQ below (QCx g (QV Q)) args s 0 0 (gA g)) 57 [(0, .ref v0), (1, .int v1), (2, .int v2), (3, .int v3)] [] h := by
  intro v2 v3 h hw
  refine v_iinc (v := 1) (ls' := [(3, .int (v3 + 1)), (0, .ref v0), (1, .int v1), (2, .int v2)]) C dX8_nameOthers_57 3 rfl (by decide) (by decide) rfl ?_
  refine v_goto (tgt := 19) C dX8_nameOthers_60 (by decide) ?_
  refine v_sub [1, 2, 3, 0] rfl ?_
  exact hk _ _ _ hw
set_option maxRecDepth 100000 in
set_option maxHeartbeats 4000000 in
theorem s_X8_nameOthers_19 {p : Program} {l : Launch} {e : Env} {s : State} {m : MethodId} {args : Array Value} {below : List Frame} {meth : Method} {c : Code} {g : GG} {v0 : Nat} {v1 : Int32} {Q : AH → Prop} {x63 : AH → Prop} {k : Int32 → Int32 → AH → Prop} (C : CXT p l s m args meth c RX8 cX8_nameOthers 4 g) (hr : meth.sig.returnType = none) (hx63 : ∀  (h : AH), x63  h → V p l e s m args below meth c g 2 0 0 4 0 0 (MQ below (QCx g (QV Q)) args s 0 0 (gA g)) 63 [] [] h) (hk : ∀ (y2 : Int32) (y3 : Int32) (h : AH), k y2 y3 h → V p l e s m args below meth c g 2 0 0 4 0 0 (MQ below (QCx g (QV Q)) args s 0 0 (gA g)) 19 [(0, .ref v0), (1, .int v1), (2, .int y2), (3, .int y3)] [] h) : ∀ (v2 : Int32) (v3 : Int32) (h : AH), w_X8_nameOthers_19  x63 k v0 v1 v2 v3 h Q → V p l e s m args below meth c g 2 0 0 4 0 0 (MQ below (QCx g (QV Q)) args s 0 0 (gA g)) 19 [(0, .ref v0), (1, .int v1), (2, .int v2), (3, .int v3)] [] h := by
  intro v2 v3 h hw
  refine v_iload_n C dX8_nameOthers_19 3 rfl rfl ?_
  refine v_aload_n C dX8_nameOthers_20 0 rfl rfl ?_
  refine w_getI C fl_X8_198 dX8_nameOthers_21 rfl hw (fun x1 hw => ?_)
  refine v_icmp_ge (tgt := 63) C dX8_nameOthers_24 (by decide) (fun c_24 => ?_) (fun c_24 => ?_)
  · have hw := hw.1 c_24
    refine v_sub [] rfl ?_
    exact hx63  _ hw
  · have hw := hw.2 c_24
    refine v_iload_n C dX8_nameOthers_27 3 rfl rfl ?_
    refine v_iload_n C dX8_nameOthers_28 1 rfl rfl ?_
    refine v_icmp_eq (tgt := 57) C dX8_nameOthers_29 (by decide) (fun c_29 => ?_) (fun c_29 => ?_)
    · have hw := hw.1 c_29
      exact s_X8_nameOthers_57 C hr hx63 hk _ _ _ hw
    · have hw := hw.2 c_29
      refine v_aload_n C dX8_nameOthers_32 0 rfl rfl ?_
      refine v_aload_n C dX8_nameOthers_33 0 rfl rfl ?_
      refine w_getN C fl_X8_33 dX8_nameOthers_34 rfl hw (fun a2 hw => ?_)
      refine w_getN C fl_X8_37 dX8_nameOthers_37 rfl hw (fun a3 hw => ?_)
      refine w_getN C fl_X8_105 dX8_nameOthers_40 rfl hw (fun a4 hw => ?_)
      refine v_aload_n C dX8_nameOthers_43 0 rfl rfl ?_
      refine w_getN C fl_X8_24 dX8_nameOthers_44 rfl hw (fun a5 hw => ?_)
      refine v_iload_n C dX8_nameOthers_47 3 rfl rfl ?_
      refine w_iaload C dX8_nameOthers_48 hw (fun x6 hw => ?_)
      refine w_iaload C dX8_nameOthers_49 hw (fun x7 hw => ?_)
      refine v_iload_n C dX8_nameOthers_50 2 rfl rfl ?_
      refine w_callVv (st := []) C cl_X8_205 im_X8_nameOne se_X8_nameOne rfl hw.1 (s_X8_nameOne hw.2) rfl dX8_nameOthers_51 rfl (by decide) (by decide) (by decide) (by decide) (by decide) (fun h hw => ?_)
      refine v_iinc (v := 1) (ls' := [(2, .int (v2 + 1)), (0, .ref v0), (1, .int v1), (3, .int v3)]) C dX8_nameOthers_54 2 rfl (by decide) (by decide) rfl ?_
      refine v_sub [1, 2, 0, 3] rfl ?_
      exact s_X8_nameOthers_57 C hr hx63 hk _ _ _ hw
set_option maxRecDepth 100000 in
set_option maxHeartbeats 4000000 in
theorem s_X8_nameOthers {l : Launch}  {v0 : Nat} {v1 : Int32} {h : AH} {Q : AH → Prop}  (hw : w_X8_nameOthers  v0 v1 h Q) : CT l yX8_nameOthers cX8_nameOthers 4 none 2 0 0 [.ref v0, .int v1] h (QV Q) := by
  refine CT.of (by decide) ⟨rfl, ⟨rfl, trivial⟩⟩ (Nat.le_of_ble_eq_true rfl) ?_
  intro p e s m args below meth c g C hr hin
  refine v_eq (pc' := 0) (ls' := [(0, .ref v0), (1, .int v1)]) rfl rfl rfl rfl ?_
  refine v_aload_n C dX8_nameOthers_0 0 rfl rfl ?_
  refine w_getN C fl_X8_27 dX8_nameOthers_1 rfl hw (fun a1 hw => ?_)
  refine v_iconst (v := 0) C dX8_nameOthers_4 (by decide) ?_
  refine w_callSv (st := []) C cl_X8_150 st_J7_fill_53178 (s_J7_fill_53178 hw) rfl dX8_nameOthers_5 rfl (by decide) (by decide) (by decide) (by decide) (by decide) (fun h hw => ?_)
  refine v_aload_n C dX8_nameOthers_8 0 rfl rfl ?_
  refine w_getN C fl_X8_27 dX8_nameOthers_9 rfl hw (fun a2 hw => ?_)
  refine v_iconst (v := 0) C dX8_nameOthers_12 (by decide) ?_
  refine v_iconst (v := 1) C dX8_nameOthers_13 (by decide) ?_
  refine w_iastore C dX8_nameOthers_14 hw (fun h hw => ?_)
  refine v_iconst (v := 0) C dX8_nameOthers_15 (by decide) ?_
  refine v_istore_n (ls' := [(2, .int (0 : Int32)), (0, .ref v0), (1, .int v1)]) C dX8_nameOthers_16 rfl (by decide) rfl ?_
  refine v_iconst (v := 0) C dX8_nameOthers_17 (by decide) ?_
  refine v_istore_n (ls' := [(3, .int (0 : Int32)), (2, .int (0 : Int32)), (0, .ref v0), (1, .int v1)]) C dX8_nameOthers_18 rfl (by decide) rfl ?_
  refine v_sub [2, 3, 1, 0] rfl ?_
  refine lp_walk (P := fun (s' : Int32 × Int32 × AH) => V p l e s m args below meth c g 2 0 0 4 0 0 (MQ below (QCx g (QV Q)) args s 0 0 (gA g)) 19 [(0, .ref v0), (1, .int v1), (2, .int (s'.1)), (3, .int (s'.2.1))] [] s'.2.2) (fun k2 hk2 s' hw => ?_) ((0 : Int32), (0 : Int32), h) hw
  exact s_X8_nameOthers_19 C hr (fun  h hw => s_X8_nameOthers_63 C hr   h hw) (fun y2 y3 h hw => hk2 (y2, y3, h) hw) _ _ _ hw
-- GrassField$Study.peopleFor(I)I
theorem dX8_peopleFor_0 : decode cX8_peopleFor 0 = .ok (.aload_n 0, 1) := by decide +kernel
theorem dX8_peopleFor_1 : decode cX8_peopleFor 1 = .ok (.iload_n 1, 1) := by decide +kernel
theorem dX8_peopleFor_2 : decode cX8_peopleFor 2 = .ok (.invokevirtual 201, 3) := by decide +kernel
theorem dX8_peopleFor_5 : decode cX8_peopleFor 5 = .ok (.iconst 0, 1) := by decide +kernel
theorem dX8_peopleFor_6 : decode cX8_peopleFor 6 = .ok (.istore_n 2, 1) := by decide +kernel
theorem dX8_peopleFor_7 : decode cX8_peopleFor 7 = .ok (.iconst 0, 1) := by decide +kernel
theorem dX8_peopleFor_8 : decode cX8_peopleFor 8 = .ok (.istore_n 3, 1) := by decide +kernel
theorem dX8_peopleFor_9 : decode cX8_peopleFor 9 = .ok (.iload_n 3, 1) := by decide +kernel
theorem dX8_peopleFor_10 : decode cX8_peopleFor 10 = .ok (.aload_n 0, 1) := by decide +kernel
theorem dX8_peopleFor_11 : decode cX8_peopleFor 11 = .ok (.getfield 27, 3) := by decide +kernel
theorem dX8_peopleFor_14 : decode cX8_peopleFor 14 = .ok (.arraylength, 1) := by decide +kernel
theorem dX8_peopleFor_15 : decode cX8_peopleFor 15 = .ok (.if_icmp .ge 56, 3) := by decide +kernel
theorem dX8_peopleFor_18 : decode cX8_peopleFor 18 = .ok (.aload_n 0, 1) := by decide +kernel
theorem dX8_peopleFor_19 : decode cX8_peopleFor 19 = .ok (.getfield 27, 3) := by decide +kernel
theorem dX8_peopleFor_22 : decode cX8_peopleFor 22 = .ok (.iload_n 3, 1) := by decide +kernel
theorem dX8_peopleFor_23 : decode cX8_peopleFor 23 = .ok (.iaload, 1) := by decide +kernel
theorem dX8_peopleFor_24 : decode cX8_peopleFor 24 = .ok (.iconst 1, 1) := by decide +kernel
theorem dX8_peopleFor_25 : decode cX8_peopleFor 25 = .ok (.if_icmp .ne 40, 3) := by decide +kernel
theorem dX8_peopleFor_28 : decode cX8_peopleFor 28 = .ok (.iload_n 3, 1) := by decide +kernel
theorem dX8_peopleFor_29 : decode cX8_peopleFor 29 = .ok (.invokestatic 68, 3) := by decide +kernel
theorem dX8_peopleFor_32 : decode cX8_peopleFor 32 = .ok (.aload_n 0, 1) := by decide +kernel
theorem dX8_peopleFor_33 : decode cX8_peopleFor 33 = .ok (.getfield 198, 3) := by decide +kernel
theorem dX8_peopleFor_36 : decode cX8_peopleFor 36 = .ok (.iconst 1, 1) := by decide +kernel
theorem dX8_peopleFor_37 : decode cX8_peopleFor 37 = .ok (.isub, 1) := by decide +kernel
theorem dX8_peopleFor_38 : decode cX8_peopleFor 38 = .ok (.if_icmp .ne 27, 3) := by decide +kernel
theorem dX8_peopleFor_41 : decode cX8_peopleFor 41 = .ok (.iload_n 2, 1) := by decide +kernel
theorem dX8_peopleFor_42 : decode cX8_peopleFor 42 = .ok (.aload_n 0, 1) := by decide +kernel
theorem dX8_peopleFor_43 : decode cX8_peopleFor 43 = .ok (.getfield 33, 3) := by decide +kernel
theorem dX8_peopleFor_46 : decode cX8_peopleFor 46 = .ok (.getfield 37, 3) := by decide +kernel
theorem dX8_peopleFor_49 : decode cX8_peopleFor 49 = .ok (.getfield 105, 3) := by decide +kernel
theorem dX8_peopleFor_52 : decode cX8_peopleFor 52 = .ok (.aload_n 0, 1) := by decide +kernel
theorem dX8_peopleFor_53 : decode cX8_peopleFor 53 = .ok (.getfield 24, 3) := by decide +kernel
theorem dX8_peopleFor_56 : decode cX8_peopleFor 56 = .ok (.iload_n 1, 1) := by decide +kernel
theorem dX8_peopleFor_57 : decode cX8_peopleFor 57 = .ok (.iaload, 1) := by decide +kernel
theorem dX8_peopleFor_58 : decode cX8_peopleFor 58 = .ok (.iaload, 1) := by decide +kernel
theorem dX8_peopleFor_59 : decode cX8_peopleFor 59 = .ok (.iload_n 3, 1) := by decide +kernel
theorem dX8_peopleFor_60 : decode cX8_peopleFor 60 = .ok (.iconst (-1), 1) := by decide +kernel
theorem dX8_peopleFor_61 : decode cX8_peopleFor 61 = .ok (.ixor, 1) := by decide +kernel
theorem dX8_peopleFor_62 : decode cX8_peopleFor 62 = .ok (.iand, 1) := by decide +kernel
theorem dX8_peopleFor_63 : decode cX8_peopleFor 63 = .ok (.ior, 1) := by decide +kernel
theorem dX8_peopleFor_64 : decode cX8_peopleFor 64 = .ok (.istore_n 2, 1) := by decide +kernel
theorem dX8_peopleFor_65 : decode cX8_peopleFor 65 = .ok (.iinc 3 1, 3) := by decide +kernel
theorem dX8_peopleFor_68 : decode cX8_peopleFor 68 = .ok (.goto (-59), 3) := by decide +kernel
theorem dX8_peopleFor_71 : decode cX8_peopleFor 71 = .ok (.iload_n 2, 1) := by decide +kernel
theorem dX8_peopleFor_72 : decode cX8_peopleFor 72 = .ok (.ireturn, 1) := by decide +kernel
def w_X8_peopleFor_71  (v2 : Int32) (h : AH) (Q : Int32 → AH → Prop) : Prop :=
  Q v2 h
def w_X8_peopleFor_65  (x71 : Int32 → AH → Prop) (k : Int32 → Int32 → AH → Prop) (v0 : Nat) (v1 : Int32) (v2 : Int32) (v3 : Int32) (h : AH) (Q : Int32 → AH → Prop) : Prop :=
  k v2 (v3 + 1) h
def w_X8_peopleFor_9  (x71 : Int32 → AH → Prop) (k : Int32 → Int32 → AH → Prop) (v0 : Nat) (v1 : Int32) (v2 : Int32) (v3 : Int32) (h : AH) (Q : Int32 → AH → Prop) : Prop :=
  fN h v0 8 7 fun a1 =>
  al h a1 0 fun x2 =>
  br (x2 ≤ v3) (
    x71 v2 h) (
    fN h v0 8 7 fun a3 =>
    aI h a3 v3 fun x4 =>
    br (x4 = (1 : Int32)) (
      w_J6_bitCount_0f7a4 v3 h (fun x5 h =>
      fI h v0 8 6 fun x6 =>
      br (x5 = (x6 - (1 : Int32))) (
        fN h v0 8 0 fun a7 =>
        fN h a7 7 3 fun a8 =>
        fN h a8 1 4 fun a9 =>
        fN h v0 8 5 fun a10 =>
        aI h a10 v1 fun x11 =>
        aI h a9 x11 fun x12 =>
        bd (v2 ||| (x12 &&& (v3 ^^^ (-1 : Int32)))) fun x13 =>
        w_X8_peopleFor_65 x71 k v0 v1 x13 v3 h Q) (
        w_X8_peopleFor_65 x71 k v0 v1 v2 v3 h Q))) (
      w_X8_peopleFor_65 x71 k v0 v1 v2 v3 h Q))
def w_X8_peopleFor  (v0 : Nat) (v1 : Int32) (h : AH) (Q : Int32 → AH → Prop) : Prop :=
  vr h v0 8 (
  w_X8_nameOthers v0 v1 h (fun h =>
  lp (fun (k2 : Int32 × Int32 × AH → Prop) (s2 : Int32 × Int32 × AH) => w_X8_peopleFor_9  (fun (y2 : Int32) h => w_X8_peopleFor_71 y2 h Q) (fun (y2 : Int32) (y3 : Int32) h => k2 (y2, y3, h)) v0 v1 s2.1 s2.2.1 s2.2.2 Q) ((0 : Int32), (0 : Int32), h)))
set_option maxRecDepth 100000 in
set_option maxHeartbeats 4000000 in
theorem s_X8_peopleFor_71 {p : Program} {l : Launch} {e : Env} {s : State} {m : MethodId} {args : Array Value} {below : List Frame} {meth : Method} {c : Code} {g : GG}  {Q : Int32 → AH → Prop}  (C : CXT p l s m args meth c RX8 cX8_peopleFor 4 g) (hr : meth.sig.returnType = (some .int))  : ∀ (v2 : Int32) (h : AH), w_X8_peopleFor_71  v2 h Q → V p l e s m args below meth c g 3 0 0 4 0 0 (MQ below (QCx g (QI Q)) args s 0 0 (gA g)) 71 [(2, .int v2)] [] h := by
  intro v2 h hw
  refine v_iload_n C dX8_peopleFor_71 0 rfl rfl ?_
  exact (rt_MQ C _).1 _ _ _ _ _ _ hr dX8_peopleFor_72 (by decide) (by decide) ⟨_, rfl, hw⟩
set_option maxRecDepth 100000 in
set_option maxHeartbeats 4000000 in
theorem s_X8_peopleFor_65 {p : Program} {l : Launch} {e : Env} {s : State} {m : MethodId} {args : Array Value} {below : List Frame} {meth : Method} {c : Code} {g : GG} {v0 : Nat} {v1 : Int32} {Q : Int32 → AH → Prop} {x71 : Int32 → AH → Prop} {k : Int32 → Int32 → AH → Prop} (C : CXT p l s m args meth c RX8 cX8_peopleFor 4 g) (hr : meth.sig.returnType = (some .int)) (hx71 : ∀ (y2 : Int32) (h : AH), x71 y2 h → V p l e s m args below meth c g 3 0 0 4 0 0 (MQ below (QCx g (QI Q)) args s 0 0 (gA g)) 71 [(2, .int y2)] [] h) (hk : ∀ (y2 : Int32) (y3 : Int32) (h : AH), k y2 y3 h → V p l e s m args below meth c g 3 0 0 4 0 0 (MQ below (QCx g (QI Q)) args s 0 0 (gA g)) 9 [(0, .ref v0), (1, .int v1), (2, .int y2), (3, .int y3)] [] h) : ∀ (v2 : Int32) (v3 : Int32) (h : AH), w_X8_peopleFor_65  x71 k v0 v1 v2 v3 h Q → V p l e s m args below meth c g 3 0 0 4 0 0 (MQ below (QCx g (QI Q)) args s 0 0 (gA g)) 65 [(0, .ref v0), (1, .int v1), (2, .int v2), (3, .int v3)] [] h := by
  intro v2 v3 h hw
  refine v_iinc (v := 1) (ls' := [(3, .int (v3 + 1)), (0, .ref v0), (1, .int v1), (2, .int v2)]) C dX8_peopleFor_65 3 rfl (by decide) (by decide) rfl ?_
  refine v_goto (tgt := 9) C dX8_peopleFor_68 (by decide) ?_
  refine v_sub [1, 2, 3, 0] rfl ?_
  exact hk _ _ _ hw
set_option maxRecDepth 100000 in
set_option maxHeartbeats 4000000 in
theorem s_X8_peopleFor_9 {p : Program} {l : Launch} {e : Env} {s : State} {m : MethodId} {args : Array Value} {below : List Frame} {meth : Method} {c : Code} {g : GG} {v0 : Nat} {v1 : Int32} {Q : Int32 → AH → Prop} {x71 : Int32 → AH → Prop} {k : Int32 → Int32 → AH → Prop} (C : CXT p l s m args meth c RX8 cX8_peopleFor 4 g) (hr : meth.sig.returnType = (some .int)) (hx71 : ∀ (y2 : Int32) (h : AH), x71 y2 h → V p l e s m args below meth c g 3 0 0 4 0 0 (MQ below (QCx g (QI Q)) args s 0 0 (gA g)) 71 [(2, .int y2)] [] h) (hk : ∀ (y2 : Int32) (y3 : Int32) (h : AH), k y2 y3 h → V p l e s m args below meth c g 3 0 0 4 0 0 (MQ below (QCx g (QI Q)) args s 0 0 (gA g)) 9 [(0, .ref v0), (1, .int v1), (2, .int y2), (3, .int y3)] [] h) : ∀ (v2 : Int32) (v3 : Int32) (h : AH), w_X8_peopleFor_9  x71 k v0 v1 v2 v3 h Q → V p l e s m args below meth c g 3 0 0 4 0 0 (MQ below (QCx g (QI Q)) args s 0 0 (gA g)) 9 [(0, .ref v0), (1, .int v1), (2, .int v2), (3, .int v3)] [] h := by
  intro v2 v3 h hw
  refine v_iload_n C dX8_peopleFor_9 3 rfl rfl ?_
  refine v_aload_n C dX8_peopleFor_10 0 rfl rfl ?_
  refine w_getN C fl_X8_27 dX8_peopleFor_11 rfl hw (fun a1 hw => ?_)
  refine w_alen C 0 (by decide) dX8_peopleFor_14 hw (fun x2 hw => ?_)
  refine v_icmp_ge (tgt := 71) C dX8_peopleFor_15 (by decide) (fun c_15 => ?_) (fun c_15 => ?_)
  · have hw := hw.1 c_15
    refine v_sub [2] rfl ?_
    exact hx71 _ _ hw
  · have hw := hw.2 c_15
    refine v_aload_n C dX8_peopleFor_18 0 rfl rfl ?_
    refine w_getN C fl_X8_27 dX8_peopleFor_19 rfl hw (fun a3 hw => ?_)
    refine v_iload_n C dX8_peopleFor_22 3 rfl rfl ?_
    refine w_iaload C dX8_peopleFor_23 hw (fun x4 hw => ?_)
    refine v_iconst (v := 1) C dX8_peopleFor_24 (by decide) ?_
    refine v_icmp_ne (tgt := 65) C dX8_peopleFor_25 (by decide) (fun c_25 => ?_) (fun c_25 => ?_)
    · have hw := hw.2 c_25
      exact s_X8_peopleFor_65 C hr hx71 hk _ _ _ hw
    · have hw := hw.1 c_25
      refine v_iload_n C dX8_peopleFor_28 3 rfl rfl ?_
      refine w_callSi (st := []) C cl_X8_68 st_J6_bitCount_0f7a4 (s_J6_bitCount_0f7a4 hw) rfl dX8_peopleFor_29 rfl (by decide) (by decide) (by decide) (by decide) (by decide) (fun x5 h hw => ?_)
      refine v_aload_n C dX8_peopleFor_32 0 rfl rfl ?_
      refine w_getI C fl_X8_198 dX8_peopleFor_33 rfl hw (fun x6 hw => ?_)
      refine v_iconst (v := 1) C dX8_peopleFor_36 (by decide) ?_
      refine v_isub C dX8_peopleFor_37 ?_
      refine v_icmp_ne (tgt := 65) C dX8_peopleFor_38 (by decide) (fun c_38 => ?_) (fun c_38 => ?_)
      · have hw := hw.2 c_38
        exact s_X8_peopleFor_65 C hr hx71 hk _ _ _ hw
      · have hw := hw.1 c_38
        refine v_iload_n C dX8_peopleFor_41 2 rfl rfl ?_
        refine v_aload_n C dX8_peopleFor_42 0 rfl rfl ?_
        refine w_getN C fl_X8_33 dX8_peopleFor_43 rfl hw (fun a7 hw => ?_)
        refine w_getN C fl_X8_37 dX8_peopleFor_46 rfl hw (fun a8 hw => ?_)
        refine w_getN C fl_X8_105 dX8_peopleFor_49 rfl hw (fun a9 hw => ?_)
        refine v_aload_n C dX8_peopleFor_52 0 rfl rfl ?_
        refine w_getN C fl_X8_24 dX8_peopleFor_53 rfl hw (fun a10 hw => ?_)
        refine v_iload_n C dX8_peopleFor_56 1 rfl rfl ?_
        refine w_iaload C dX8_peopleFor_57 hw (fun x11 hw => ?_)
        refine w_iaload C dX8_peopleFor_58 hw (fun x12 hw => ?_)
        refine v_iload_n C dX8_peopleFor_59 3 rfl rfl ?_
        refine v_iconst (v := -1) C dX8_peopleFor_60 (by decide) ?_
        refine v_ixor C dX8_peopleFor_61 ?_
        refine v_iand C dX8_peopleFor_62 ?_
        refine v_ior C dX8_peopleFor_63 ?_
        refine w_bd hw (fun x13 hw => ?_)
        refine v_istore_n (ls' := [(2, .int x13), (0, .ref v0), (1, .int v1), (3, .int v3)]) C dX8_peopleFor_64 rfl (by decide) rfl ?_
        refine v_sub [1, 2, 0, 3] rfl ?_
        exact s_X8_peopleFor_65 C hr hx71 hk _ _ _ hw
set_option maxRecDepth 100000 in
set_option maxHeartbeats 4000000 in
theorem s_X8_peopleFor {l : Launch}  {v0 : Nat} {v1 : Int32} {h : AH} {Q : Int32 → AH → Prop}  (hw : w_X8_peopleFor  v0 v1 h Q) : CT l yX8_peopleFor cX8_peopleFor 4 (some .int) 3 0 0 [.ref v0, .int v1] h (QI Q) := by
  refine CT.of (by decide) ⟨rfl, ⟨rfl, trivial⟩⟩ (Nat.le_of_ble_eq_true rfl) ?_
  intro p e s m args below meth c g C hr hin
  refine v_eq (pc' := 0) (ls' := [(0, .ref v0), (1, .int v1)]) rfl rfl rfl rfl ?_
  refine v_aload_n C dX8_peopleFor_0 0 rfl rfl ?_
  refine v_iload_n C dX8_peopleFor_1 1 rfl rfl ?_
  refine w_callVv (st := []) C cl_X8_201 im_X8_nameOthers se_X8_nameOthers rfl hw.1 (s_X8_nameOthers hw.2) rfl dX8_peopleFor_2 rfl (by decide) (by decide) (by decide) (by decide) (by decide) (fun h hw => ?_)
  refine v_iconst (v := 0) C dX8_peopleFor_5 (by decide) ?_
  refine v_istore_n (ls' := [(2, .int (0 : Int32)), (0, .ref v0), (1, .int v1)]) C dX8_peopleFor_6 rfl (by decide) rfl ?_
  refine v_iconst (v := 0) C dX8_peopleFor_7 (by decide) ?_
  refine v_istore_n (ls' := [(3, .int (0 : Int32)), (2, .int (0 : Int32)), (0, .ref v0), (1, .int v1)]) C dX8_peopleFor_8 rfl (by decide) rfl ?_
  refine v_sub [2, 3, 1, 0] rfl ?_
  refine lp_walk (P := fun (s' : Int32 × Int32 × AH) => V p l e s m args below meth c g 3 0 0 4 0 0 (MQ below (QCx g (QI Q)) args s 0 0 (gA g)) 9 [(0, .ref v0), (1, .int v1), (2, .int (s'.1)), (3, .int (s'.2.1))] [] s'.2.2) (fun k2 hk2 s' hw => ?_) ((0 : Int32), (0 : Int32), h) hw
  exact s_X8_peopleFor_9 C hr (fun y2 h hw => s_X8_peopleFor_71 C hr  _ h hw) (fun y2 y3 h hw => hk2 (y2, y3, h) hw) _ _ _ hw
-- GrassField$Study.placeOfBones(I)I
theorem dX8_placeOfBones_0 : decode cX8_placeOfBones 0 = .ok (.iconst 0, 1) := by decide +kernel
theorem dX8_placeOfBones_1 : decode cX8_placeOfBones 1 = .ok (.istore_n 2, 1) := by decide +kernel
theorem dX8_placeOfBones_2 : decode cX8_placeOfBones 2 = .ok (.iload_n 2, 1) := by decide +kernel
theorem dX8_placeOfBones_3 : decode cX8_placeOfBones 3 = .ok (.aload_n 0, 1) := by decide +kernel
theorem dX8_placeOfBones_4 : decode cX8_placeOfBones 4 = .ok (.getfield 198, 3) := by decide +kernel
theorem dX8_placeOfBones_7 : decode cX8_placeOfBones 7 = .ok (.if_icmp .ge 21, 3) := by decide +kernel
theorem dX8_placeOfBones_10 : decode cX8_placeOfBones 10 = .ok (.aload_n 0, 1) := by decide +kernel
theorem dX8_placeOfBones_11 : decode cX8_placeOfBones 11 = .ok (.getfield 24, 3) := by decide +kernel
theorem dX8_placeOfBones_14 : decode cX8_placeOfBones 14 = .ok (.iload_n 2, 1) := by decide +kernel
theorem dX8_placeOfBones_15 : decode cX8_placeOfBones 15 = .ok (.iaload, 1) := by decide +kernel
theorem dX8_placeOfBones_16 : decode cX8_placeOfBones 16 = .ok (.iload_n 1, 1) := by decide +kernel
theorem dX8_placeOfBones_17 : decode cX8_placeOfBones 17 = .ok (.if_icmp .ne 5, 3) := by decide +kernel
theorem dX8_placeOfBones_20 : decode cX8_placeOfBones 20 = .ok (.iload_n 2, 1) := by decide +kernel
theorem dX8_placeOfBones_21 : decode cX8_placeOfBones 21 = .ok (.ireturn, 1) := by decide +kernel
theorem dX8_placeOfBones_22 : decode cX8_placeOfBones 22 = .ok (.iinc 2 1, 3) := by decide +kernel
theorem dX8_placeOfBones_25 : decode cX8_placeOfBones 25 = .ok (.goto (-23), 3) := by decide +kernel
theorem dX8_placeOfBones_28 : decode cX8_placeOfBones 28 = .ok (.iconst (-1), 1) := by decide +kernel
theorem dX8_placeOfBones_29 : decode cX8_placeOfBones 29 = .ok (.ireturn, 1) := by decide +kernel
def w_X8_placeOfBones_28  (h : AH) (Q : Int32 → AH → Prop) : Prop :=
  Q (-1 : Int32) h
def w_X8_placeOfBones_20  (v2 : Int32) (h : AH) (Q : Int32 → AH → Prop) : Prop :=
  Q v2 h
def w_X8_placeOfBones_2  (x20 : Int32 → AH → Prop) (x28 : AH → Prop) (k : Int32 → AH → Prop) (v0 : Nat) (v1 : Int32) (v2 : Int32) (h : AH) (Q : Int32 → AH → Prop) : Prop :=
  fI h v0 8 6 fun x1 =>
  br (x1 ≤ v2) (
    x28  h) (
    fN h v0 8 5 fun a2 =>
    aI h a2 v2 fun x3 =>
    br (x3 = v1) (
      x20 v2 h) (
      k (v2 + 1) h))
def w_X8_placeOfBones  (v0 : Nat) (v1 : Int32) (h : AH) (Q : Int32 → AH → Prop) : Prop :=
  lp (fun (k2 : Int32 × AH → Prop) (s2 : Int32 × AH) => w_X8_placeOfBones_2  (fun (y2 : Int32) h => w_X8_placeOfBones_20 y2 h Q) (fun  h => w_X8_placeOfBones_28  h Q) (fun (y2 : Int32) h => k2 (y2, h)) v0 v1 s2.1 s2.2 Q) ((0 : Int32), h)
set_option maxRecDepth 100000 in
set_option maxHeartbeats 4000000 in
theorem s_X8_placeOfBones_28 {p : Program} {l : Launch} {e : Env} {s : State} {m : MethodId} {args : Array Value} {below : List Frame} {meth : Method} {c : Code} {g : GG}  {Q : Int32 → AH → Prop}  (C : CXT p l s m args meth c RX8 cX8_placeOfBones 3 g) (hr : meth.sig.returnType = (some .int))  : ∀  (h : AH), w_X8_placeOfBones_28  h Q → V p l e s m args below meth c g 0 0 0 3 0 0 (MQ below (QCx g (QI Q)) args s 0 0 (gA g)) 28 [] [] h := by
  intro  h hw
  refine v_iconst (v := -1) C dX8_placeOfBones_28 (by decide) ?_
  exact (rt_MQ C _).1 _ _ _ _ _ _ hr dX8_placeOfBones_29 (by decide) (by decide) ⟨_, rfl, hw⟩
set_option maxRecDepth 100000 in
set_option maxHeartbeats 4000000 in
theorem s_X8_placeOfBones_20 {p : Program} {l : Launch} {e : Env} {s : State} {m : MethodId} {args : Array Value} {below : List Frame} {meth : Method} {c : Code} {g : GG}  {Q : Int32 → AH → Prop}  (C : CXT p l s m args meth c RX8 cX8_placeOfBones 3 g) (hr : meth.sig.returnType = (some .int))  : ∀ (v2 : Int32) (h : AH), w_X8_placeOfBones_20  v2 h Q → V p l e s m args below meth c g 0 0 0 3 0 0 (MQ below (QCx g (QI Q)) args s 0 0 (gA g)) 20 [(2, .int v2)] [] h := by
  intro v2 h hw
  refine v_iload_n C dX8_placeOfBones_20 0 rfl rfl ?_
  exact (rt_MQ C _).1 _ _ _ _ _ _ hr dX8_placeOfBones_21 (by decide) (by decide) ⟨_, rfl, hw⟩
set_option maxRecDepth 100000 in
set_option maxHeartbeats 4000000 in
theorem s_X8_placeOfBones_2 {p : Program} {l : Launch} {e : Env} {s : State} {m : MethodId} {args : Array Value} {below : List Frame} {meth : Method} {c : Code} {g : GG} {v0 : Nat} {v1 : Int32} {Q : Int32 → AH → Prop} {x20 : Int32 → AH → Prop} {x28 : AH → Prop} {k : Int32 → AH → Prop} (C : CXT p l s m args meth c RX8 cX8_placeOfBones 3 g) (hr : meth.sig.returnType = (some .int)) (hx20 : ∀ (y2 : Int32) (h : AH), x20 y2 h → V p l e s m args below meth c g 0 0 0 3 0 0 (MQ below (QCx g (QI Q)) args s 0 0 (gA g)) 20 [(2, .int y2)] [] h) (hx28 : ∀  (h : AH), x28  h → V p l e s m args below meth c g 0 0 0 3 0 0 (MQ below (QCx g (QI Q)) args s 0 0 (gA g)) 28 [] [] h) (hk : ∀ (y2 : Int32) (h : AH), k y2 h → V p l e s m args below meth c g 0 0 0 3 0 0 (MQ below (QCx g (QI Q)) args s 0 0 (gA g)) 2 [(0, .ref v0), (1, .int v1), (2, .int y2)] [] h) : ∀ (v2 : Int32) (h : AH), w_X8_placeOfBones_2  x20 x28 k v0 v1 v2 h Q → V p l e s m args below meth c g 0 0 0 3 0 0 (MQ below (QCx g (QI Q)) args s 0 0 (gA g)) 2 [(0, .ref v0), (1, .int v1), (2, .int v2)] [] h := by
  intro v2 h hw
  refine v_iload_n C dX8_placeOfBones_2 2 rfl rfl ?_
  refine v_aload_n C dX8_placeOfBones_3 0 rfl rfl ?_
  refine w_getI C fl_X8_198 dX8_placeOfBones_4 rfl hw (fun x1 hw => ?_)
  refine v_icmp_ge (tgt := 28) C dX8_placeOfBones_7 (by decide) (fun c_7 => ?_) (fun c_7 => ?_)
  · have hw := hw.1 c_7
    refine v_sub [] rfl ?_
    exact hx28  _ hw
  · have hw := hw.2 c_7
    refine v_aload_n C dX8_placeOfBones_10 0 rfl rfl ?_
    refine w_getN C fl_X8_24 dX8_placeOfBones_11 rfl hw (fun a2 hw => ?_)
    refine v_iload_n C dX8_placeOfBones_14 2 rfl rfl ?_
    refine w_iaload C dX8_placeOfBones_15 hw (fun x3 hw => ?_)
    refine v_iload_n C dX8_placeOfBones_16 1 rfl rfl ?_
    refine v_icmp_ne (tgt := 22) C dX8_placeOfBones_17 (by decide) (fun c_17 => ?_) (fun c_17 => ?_)
    · have hw := hw.2 c_17
      refine v_iinc (v := 1) (ls' := [(2, .int (v2 + 1)), (0, .ref v0), (1, .int v1)]) C dX8_placeOfBones_22 2 rfl (by decide) (by decide) rfl ?_
      refine v_goto (tgt := 2) C dX8_placeOfBones_25 (by decide) ?_
      refine v_sub [1, 2, 0] rfl ?_
      exact hk _ _ hw
    · have hw := hw.1 c_17
      refine v_sub [2] rfl ?_
      exact hx20 _ _ hw
set_option maxRecDepth 100000 in
set_option maxHeartbeats 4000000 in
theorem s_X8_placeOfBones {l : Launch}  {v0 : Nat} {v1 : Int32} {h : AH} {Q : Int32 → AH → Prop}  (hw : w_X8_placeOfBones  v0 v1 h Q) : CT l yX8_placeOfBones cX8_placeOfBones 3 (some .int) 0 0 0 [.ref v0, .int v1] h (QI Q) := by
  refine CT.of (by decide) ⟨rfl, ⟨rfl, trivial⟩⟩ (Nat.le_of_ble_eq_true rfl) ?_
  intro p e s m args below meth c g C hr hin
  refine v_eq (pc' := 0) (ls' := [(0, .ref v0), (1, .int v1)]) rfl rfl rfl rfl ?_
  refine v_iconst (v := 0) C dX8_placeOfBones_0 (by decide) ?_
  refine v_istore_n (ls' := [(2, .int (0 : Int32)), (0, .ref v0), (1, .int v1)]) C dX8_placeOfBones_1 rfl (by decide) rfl ?_
  refine v_sub [1, 2, 0] rfl ?_
  refine lp_walk (P := fun (s' : Int32 × AH) => V p l e s m args below meth c g 0 0 0 3 0 0 (MQ below (QCx g (QI Q)) args s 0 0 (gA g)) 2 [(0, .ref v0), (1, .int v1), (2, .int (s'.1))] [] s'.2) (fun k2 hk2 s' hw => ?_) ((0 : Int32), h) hw
  exact s_X8_placeOfBones_2 C hr (fun y2 h hw => s_X8_placeOfBones_20 C hr  _ h hw) (fun  h hw => s_X8_placeOfBones_28 C hr   h hw) (fun y2 h hw => hk2 (y2, h) hw) _ _ hw
-- GrassField$Study.tenThousandths(I)I
theorem dX8_tenThousandths_0 : decode cX8_tenThousandths 0 = .ok (.iconst 0, 1) := by decide +kernel
theorem dX8_tenThousandths_1 : decode cX8_tenThousandths 1 = .ok (.istore_n 2, 1) := by decide +kernel
theorem dX8_tenThousandths_2 : decode cX8_tenThousandths 2 = .ok (.iconst 0, 1) := by decide +kernel
theorem dX8_tenThousandths_3 : decode cX8_tenThousandths 3 = .ok (.istore_n 3, 1) := by decide +kernel
theorem dX8_tenThousandths_4 : decode cX8_tenThousandths 4 = .ok (.iload_n 3, 1) := by decide +kernel
theorem dX8_tenThousandths_5 : decode cX8_tenThousandths 5 = .ok (.aload_n 0, 1) := by decide +kernel
theorem dX8_tenThousandths_6 : decode cX8_tenThousandths 6 = .ok (.getfield 33, 3) := by decide +kernel
theorem dX8_tenThousandths_9 : decode cX8_tenThousandths 9 = .ok (.getfield 231, 3) := by decide +kernel
theorem dX8_tenThousandths_12 : decode cX8_tenThousandths 12 = .ok (.if_icmp .ge 33, 3) := by decide +kernel
theorem dX8_tenThousandths_15 : decode cX8_tenThousandths 15 = .ok (.iload_n 2, 1) := by decide +kernel
theorem dX8_tenThousandths_16 : decode cX8_tenThousandths 16 = .ok (.aload_n 0, 1) := by decide +kernel
theorem dX8_tenThousandths_17 : decode cX8_tenThousandths 17 = .ok (.iload_n 3, 1) := by decide +kernel
theorem dX8_tenThousandths_18 : decode cX8_tenThousandths 18 = .ok (.invokevirtual 234, 3) := by decide +kernel
theorem dX8_tenThousandths_21 : decode cX8_tenThousandths 21 = .ok (.ifCond .eq 15, 3) := by decide +kernel
theorem dX8_tenThousandths_24 : decode cX8_tenThousandths 24 = .ok (.aload_n 0, 1) := by decide +kernel
theorem dX8_tenThousandths_25 : decode cX8_tenThousandths 25 = .ok (.getfield 33, 3) := by decide +kernel
theorem dX8_tenThousandths_28 : decode cX8_tenThousandths 28 = .ok (.getfield 237, 3) := by decide +kernel
theorem dX8_tenThousandths_31 : decode cX8_tenThousandths 31 = .ok (.iload_n 3, 1) := by decide +kernel
theorem dX8_tenThousandths_32 : decode cX8_tenThousandths 32 = .ok (.iaload, 1) := by decide +kernel
theorem dX8_tenThousandths_33 : decode cX8_tenThousandths 33 = .ok (.goto 4, 3) := by decide +kernel
theorem dX8_tenThousandths_36 : decode cX8_tenThousandths 36 = .ok (.iconst 0, 1) := by decide +kernel
theorem dX8_tenThousandths_37 : decode cX8_tenThousandths 37 = .ok (.iadd, 1) := by decide +kernel
theorem dX8_tenThousandths_38 : decode cX8_tenThousandths 38 = .ok (.istore_n 2, 1) := by decide +kernel
theorem dX8_tenThousandths_39 : decode cX8_tenThousandths 39 = .ok (.iinc 3 1, 3) := by decide +kernel
theorem dX8_tenThousandths_42 : decode cX8_tenThousandths 42 = .ok (.goto (-38), 3) := by decide +kernel
theorem dX8_tenThousandths_45 : decode cX8_tenThousandths 45 = .ok (.iload_n 2, 1) := by decide +kernel
theorem dX8_tenThousandths_46 : decode cX8_tenThousandths 46 = .ok (.ifCond .eq 11, 3) := by decide +kernel
theorem dX8_tenThousandths_49 : decode cX8_tenThousandths 49 = .ok (.aload_n 0, 1) := by decide +kernel
theorem dX8_tenThousandths_50 : decode cX8_tenThousandths 50 = .ok (.iload_n 1, 1) := by decide +kernel
theorem dX8_tenThousandths_51 : decode cX8_tenThousandths 51 = .ok (.invokevirtual 234, 3) := by decide +kernel
theorem dX8_tenThousandths_54 : decode cX8_tenThousandths 54 = .ok (.ifCond .ne 5, 3) := by decide +kernel
theorem dX8_tenThousandths_57 : decode cX8_tenThousandths 57 = .ok (.iconst 0, 1) := by decide +kernel
theorem dX8_tenThousandths_58 : decode cX8_tenThousandths 58 = .ok (.ireturn, 1) := by decide +kernel
theorem dX8_tenThousandths_59 : decode cX8_tenThousandths 59 = .ok (.sipush 10000, 3) := by decide +kernel
theorem dX8_tenThousandths_62 : decode cX8_tenThousandths 62 = .ok (.aload_n 0, 1) := by decide +kernel
theorem dX8_tenThousandths_63 : decode cX8_tenThousandths 63 = .ok (.getfield 33, 3) := by decide +kernel
theorem dX8_tenThousandths_66 : decode cX8_tenThousandths 66 = .ok (.getfield 237, 3) := by decide +kernel
theorem dX8_tenThousandths_69 : decode cX8_tenThousandths 69 = .ok (.iload_n 1, 1) := by decide +kernel
theorem dX8_tenThousandths_70 : decode cX8_tenThousandths 70 = .ok (.iaload, 1) := by decide +kernel
theorem dX8_tenThousandths_71 : decode cX8_tenThousandths 71 = .ok (.imul, 1) := by decide +kernel
theorem dX8_tenThousandths_72 : decode cX8_tenThousandths 72 = .ok (.iload_n 2, 1) := by decide +kernel
theorem dX8_tenThousandths_73 : decode cX8_tenThousandths 73 = .ok (.idiv, 1) := by decide +kernel
theorem dX8_tenThousandths_74 : decode cX8_tenThousandths 74 = .ok (.ireturn, 1) := by decide +kernel
def w_X8_tenThousandths_57  (h : AH) (Q : Int32 → AH → Prop) : Prop :=
  Q (0 : Int32) h
def w_X8_tenThousandths_45  (v0 : Nat) (v1 : Int32) (v2 : Int32) (h : AH) (Q : Int32 → AH → Prop) : Prop :=
  br (v2 = 0) (
    w_X8_tenThousandths_57  h Q) (
    vr h v0 8 (
    w_X8_isTrue v0 v1 h (fun x1 h =>
    br (x1 = 0) (
      w_X8_tenThousandths_57  h Q) (
      fN h v0 8 0 fun a2 =>
      fN h a2 7 8 fun a3 =>
      aI h a3 v1 fun x4 =>
      dv v2 (
      Q (((10000 : Int32) * x4) / v2) h)))))
def w_X8_tenThousandths_37  (x45 : Int32 → AH → Prop) (k : Int32 → Int32 → AH → Prop) (v0 : Nat) (v1 : Int32) (v3 : Int32) (t0 : Int32) (t1 : Int32) (h : AH) (Q : Int32 → AH → Prop) : Prop :=
  bd (t0 + t1) fun x1 =>
  k x1 (v3 + 1) h
def w_X8_tenThousandths_4  (x45 : Int32 → AH → Prop) (k : Int32 → Int32 → AH → Prop) (v0 : Nat) (v1 : Int32) (v2 : Int32) (v3 : Int32) (h : AH) (Q : Int32 → AH → Prop) : Prop :=
  fN h v0 8 0 fun a1 =>
  fI h a1 7 9 fun x2 =>
  br (x2 ≤ v3) (
    x45 v2 h) (
    vr h v0 8 (
    w_X8_isTrue v0 v3 h (fun x3 h =>
    br (x3 = 0) (
      w_X8_tenThousandths_37 x45 k v0 v1 v3 v2 (0 : Int32) h Q) (
      fN h v0 8 0 fun a4 =>
      fN h a4 7 8 fun a5 =>
      aI h a5 v3 fun x6 =>
      w_X8_tenThousandths_37 x45 k v0 v1 v3 v2 x6 h Q))))
def w_X8_tenThousandths  (v0 : Nat) (v1 : Int32) (h : AH) (Q : Int32 → AH → Prop) : Prop :=
  lp (fun (k2 : Int32 × Int32 × AH → Prop) (s2 : Int32 × Int32 × AH) => w_X8_tenThousandths_4  (fun (y2 : Int32) h => w_X8_tenThousandths_45 v0 v1 y2 h Q) (fun (y2 : Int32) (y3 : Int32) h => k2 (y2, y3, h)) v0 v1 s2.1 s2.2.1 s2.2.2 Q) ((0 : Int32), (0 : Int32), h)
set_option maxRecDepth 100000 in
set_option maxHeartbeats 4000000 in
theorem s_X8_tenThousandths_57 {p : Program} {l : Launch} {e : Env} {s : State} {m : MethodId} {args : Array Value} {below : List Frame} {meth : Method} {c : Code} {g : GG}  {Q : Int32 → AH → Prop}  (C : CXT p l s m args meth c RX8 cX8_tenThousandths 4 g) (hr : meth.sig.returnType = (some .int))  : ∀  (h : AH), w_X8_tenThousandths_57  h Q → V p l e s m args below meth c g 3 0 0 4 0 0 (MQ below (QCx g (QI Q)) args s 0 0 (gA g)) 57 [] [] h := by
  intro  h hw
  refine v_iconst (v := 0) C dX8_tenThousandths_57 (by decide) ?_
  exact (rt_MQ C _).1 _ _ _ _ _ _ hr dX8_tenThousandths_58 (by decide) (by decide) ⟨_, rfl, hw⟩
set_option maxRecDepth 100000 in
set_option maxHeartbeats 4000000 in
theorem s_X8_tenThousandths_45 {p : Program} {l : Launch} {e : Env} {s : State} {m : MethodId} {args : Array Value} {below : List Frame} {meth : Method} {c : Code} {g : GG}  {Q : Int32 → AH → Prop}  (C : CXT p l s m args meth c RX8 cX8_tenThousandths 4 g) (hr : meth.sig.returnType = (some .int))  : ∀ (v0 : Nat) (v1 : Int32) (v2 : Int32) (h : AH), w_X8_tenThousandths_45  v0 v1 v2 h Q → V p l e s m args below meth c g 3 0 0 4 0 0 (MQ below (QCx g (QI Q)) args s 0 0 (gA g)) 45 [(0, .ref v0), (1, .int v1), (2, .int v2)] [] h := by
  intro v0 v1 v2 h hw
  refine v_iload_n C dX8_tenThousandths_45 2 rfl rfl ?_
  refine v_if_eq (tgt := 57) C dX8_tenThousandths_46 (by decide) (fun c_46 => ?_) (fun c_46 => ?_)
  · have hw := hw.1 c_46
    refine v_sub [] rfl ?_
    exact s_X8_tenThousandths_57 C hr   _ hw
  · have hw := hw.2 c_46
    refine v_aload_n C dX8_tenThousandths_49 0 rfl rfl ?_
    refine v_iload_n C dX8_tenThousandths_50 1 rfl rfl ?_
    refine w_callVi (st := []) C cl_X8_234 im_X8_isTrue se_X8_isTrue rfl hw.1 (s_X8_isTrue hw.2) rfl dX8_tenThousandths_51 rfl (by decide) (by decide) (by decide) (by decide) (by decide) (fun x1 h hw => ?_)
    refine v_if_ne (tgt := 59) C dX8_tenThousandths_54 (by decide) (fun c_54 => ?_) (fun c_54 => ?_)
    · have hw := hw.2 c_54
      refine v_sipush (v := 10000) C dX8_tenThousandths_59 (by decide) ?_
      refine v_aload_n C dX8_tenThousandths_62 0 rfl rfl ?_
      refine w_getN C fl_X8_33 dX8_tenThousandths_63 rfl hw (fun a2 hw => ?_)
      refine w_getN C fl_X8_237 dX8_tenThousandths_66 rfl hw (fun a3 hw => ?_)
      refine v_iload_n C dX8_tenThousandths_69 1 rfl rfl ?_
      refine w_iaload C dX8_tenThousandths_70 hw (fun x4 hw => ?_)
      refine v_imul C dX8_tenThousandths_71 ?_
      refine v_iload_n C dX8_tenThousandths_72 2 rfl rfl ?_
      refine w_idiv C dX8_tenThousandths_73 hw (fun hw => ?_)
      exact (rt_MQ C _).1 _ _ _ _ _ _ hr dX8_tenThousandths_74 (by decide) (by decide) ⟨_, rfl, hw⟩
    · have hw := hw.1 c_54
      refine v_sub [] rfl ?_
      exact s_X8_tenThousandths_57 C hr   _ hw
set_option maxRecDepth 100000 in
set_option maxHeartbeats 4000000 in
theorem s_X8_tenThousandths_37 {p : Program} {l : Launch} {e : Env} {s : State} {m : MethodId} {args : Array Value} {below : List Frame} {meth : Method} {c : Code} {g : GG} {v0 : Nat} {v1 : Int32} {Q : Int32 → AH → Prop} {x45 : Int32 → AH → Prop} {k : Int32 → Int32 → AH → Prop} (C : CXT p l s m args meth c RX8 cX8_tenThousandths 4 g) (hr : meth.sig.returnType = (some .int)) (hx45 : ∀ (y2 : Int32) (h : AH), x45 y2 h → V p l e s m args below meth c g 3 0 0 4 0 0 (MQ below (QCx g (QI Q)) args s 0 0 (gA g)) 45 [(0, .ref v0), (1, .int v1), (2, .int y2)] [] h) (hk : ∀ (y2 : Int32) (y3 : Int32) (h : AH), k y2 y3 h → V p l e s m args below meth c g 3 0 0 4 0 0 (MQ below (QCx g (QI Q)) args s 0 0 (gA g)) 4 [(0, .ref v0), (1, .int v1), (2, .int y2), (3, .int y3)] [] h) : ∀ (v3 : Int32) (t0 : Int32) (t1 : Int32) (h : AH), w_X8_tenThousandths_37  x45 k v0 v1 v3 t0 t1 h Q → V p l e s m args below meth c g 3 0 0 4 0 0 (MQ below (QCx g (QI Q)) args s 0 0 (gA g)) 37 [(0, .ref v0), (1, .int v1), (3, .int v3)] [.int t1, .int t0] h := by
  intro v3 t0 t1 h hw
  refine v_iadd C dX8_tenThousandths_37 ?_
  refine w_bd hw (fun x1 hw => ?_)
  refine v_istore_n (ls' := [(2, .int x1), (0, .ref v0), (1, .int v1), (3, .int v3)]) C dX8_tenThousandths_38 rfl (by decide) rfl ?_
  refine v_iinc (v := 1) (ls' := [(3, .int (v3 + 1)), (2, .int x1), (0, .ref v0), (1, .int v1)]) C dX8_tenThousandths_39 3 rfl (by decide) (by decide) rfl ?_
  refine v_goto (tgt := 4) C dX8_tenThousandths_42 (by decide) ?_
  refine v_sub [2, 3, 1, 0] rfl ?_
  exact hk _ _ _ hw
set_option maxRecDepth 100000 in
set_option maxHeartbeats 4000000 in
theorem s_X8_tenThousandths_4 {p : Program} {l : Launch} {e : Env} {s : State} {m : MethodId} {args : Array Value} {below : List Frame} {meth : Method} {c : Code} {g : GG} {v0 : Nat} {v1 : Int32} {Q : Int32 → AH → Prop} {x45 : Int32 → AH → Prop} {k : Int32 → Int32 → AH → Prop} (C : CXT p l s m args meth c RX8 cX8_tenThousandths 4 g) (hr : meth.sig.returnType = (some .int)) (hx45 : ∀ (y2 : Int32) (h : AH), x45 y2 h → V p l e s m args below meth c g 3 0 0 4 0 0 (MQ below (QCx g (QI Q)) args s 0 0 (gA g)) 45 [(0, .ref v0), (1, .int v1), (2, .int y2)] [] h) (hk : ∀ (y2 : Int32) (y3 : Int32) (h : AH), k y2 y3 h → V p l e s m args below meth c g 3 0 0 4 0 0 (MQ below (QCx g (QI Q)) args s 0 0 (gA g)) 4 [(0, .ref v0), (1, .int v1), (2, .int y2), (3, .int y3)] [] h) : ∀ (v2 : Int32) (v3 : Int32) (h : AH), w_X8_tenThousandths_4  x45 k v0 v1 v2 v3 h Q → V p l e s m args below meth c g 3 0 0 4 0 0 (MQ below (QCx g (QI Q)) args s 0 0 (gA g)) 4 [(0, .ref v0), (1, .int v1), (2, .int v2), (3, .int v3)] [] h := by
  intro v2 v3 h hw
  refine v_iload_n C dX8_tenThousandths_4 3 rfl rfl ?_
  refine v_aload_n C dX8_tenThousandths_5 0 rfl rfl ?_
  refine w_getN C fl_X8_33 dX8_tenThousandths_6 rfl hw (fun a1 hw => ?_)
  refine w_getI C fl_X8_231 dX8_tenThousandths_9 rfl hw (fun x2 hw => ?_)
  refine v_icmp_ge (tgt := 45) C dX8_tenThousandths_12 (by decide) (fun c_12 => ?_) (fun c_12 => ?_)
  · have hw := hw.1 c_12
    refine v_sub [0, 1, 2] rfl ?_
    exact hx45 _ _ hw
  · have hw := hw.2 c_12
    refine v_iload_n C dX8_tenThousandths_15 2 rfl rfl ?_
    refine v_aload_n C dX8_tenThousandths_16 0 rfl rfl ?_
    refine v_iload_n C dX8_tenThousandths_17 3 rfl rfl ?_
    refine w_callVi (st := [.int v2]) C cl_X8_234 im_X8_isTrue se_X8_isTrue rfl hw.1 (s_X8_isTrue hw.2) rfl dX8_tenThousandths_18 rfl (Nat.le_of_ble_eq_true rfl) (by decide) (by decide) (by decide) (by decide) (fun x3 h hw => ?_)
    refine v_if_eq (tgt := 36) C dX8_tenThousandths_21 (by decide) (fun c_21 => ?_) (fun c_21 => ?_)
    · have hw := hw.1 c_21
      refine v_iconst (v := 0) C dX8_tenThousandths_36 (by decide) ?_
      refine v_sub [0, 1, 3] rfl ?_
      exact s_X8_tenThousandths_37 C hr hx45 hk _ _ _ _ hw
    · have hw := hw.2 c_21
      refine v_aload_n C dX8_tenThousandths_24 0 rfl rfl ?_
      refine w_getN C fl_X8_33 dX8_tenThousandths_25 rfl hw (fun a4 hw => ?_)
      refine w_getN C fl_X8_237 dX8_tenThousandths_28 rfl hw (fun a5 hw => ?_)
      refine v_iload_n C dX8_tenThousandths_31 3 rfl rfl ?_
      refine w_iaload C dX8_tenThousandths_32 hw (fun x6 hw => ?_)
      refine v_goto (tgt := 37) C dX8_tenThousandths_33 (by decide) ?_
      refine v_sub [0, 1, 3] rfl ?_
      exact s_X8_tenThousandths_37 C hr hx45 hk _ _ _ _ hw
set_option maxRecDepth 100000 in
set_option maxHeartbeats 4000000 in
theorem s_X8_tenThousandths {l : Launch}  {v0 : Nat} {v1 : Int32} {h : AH} {Q : Int32 → AH → Prop}  (hw : w_X8_tenThousandths  v0 v1 h Q) : CT l yX8_tenThousandths cX8_tenThousandths 4 (some .int) 3 0 0 [.ref v0, .int v1] h (QI Q) := by
  refine CT.of (by decide) ⟨rfl, ⟨rfl, trivial⟩⟩ (Nat.le_of_ble_eq_true rfl) ?_
  intro p e s m args below meth c g C hr hin
  refine v_eq (pc' := 0) (ls' := [(0, .ref v0), (1, .int v1)]) rfl rfl rfl rfl ?_
  refine v_iconst (v := 0) C dX8_tenThousandths_0 (by decide) ?_
  refine v_istore_n (ls' := [(2, .int (0 : Int32)), (0, .ref v0), (1, .int v1)]) C dX8_tenThousandths_1 rfl (by decide) rfl ?_
  refine v_iconst (v := 0) C dX8_tenThousandths_2 (by decide) ?_
  refine v_istore_n (ls' := [(3, .int (0 : Int32)), (2, .int (0 : Int32)), (0, .ref v0), (1, .int v1)]) C dX8_tenThousandths_3 rfl (by decide) rfl ?_
  refine v_sub [2, 3, 1, 0] rfl ?_
  refine lp_walk (P := fun (s' : Int32 × Int32 × AH) => V p l e s m args below meth c g 3 0 0 4 0 0 (MQ below (QCx g (QI Q)) args s 0 0 (gA g)) 4 [(0, .ref v0), (1, .int v1), (2, .int (s'.1)), (3, .int (s'.2.1))] [] s'.2.2) (fun k2 hk2 s' hw => ?_) ((0 : Int32), (0 : Int32), h) hw
  exact s_X8_tenThousandths_4 C hr (fun y2 h hw => s_X8_tenThousandths_45 C hr  _ _ _ h hw) (fun y2 y3 h hw => hk2 (y2, y3, h) hw) _ _ _ hw
-- GrassField$Study.unknownCases()I
theorem dX8_unknownCases_0 : decode cX8_unknownCases 0 = .ok (.iconst 0, 1) := by decide +kernel
theorem dX8_unknownCases_1 : decode cX8_unknownCases 1 = .ok (.istore_n 1, 1) := by decide +kernel
theorem dX8_unknownCases_2 : decode cX8_unknownCases 2 = .ok (.iconst 0, 1) := by decide +kernel
theorem dX8_unknownCases_3 : decode cX8_unknownCases 3 = .ok (.istore_n 2, 1) := by decide +kernel
theorem dX8_unknownCases_4 : decode cX8_unknownCases 4 = .ok (.iload_n 2, 1) := by decide +kernel
theorem dX8_unknownCases_5 : decode cX8_unknownCases 5 = .ok (.aload_n 0, 1) := by decide +kernel
theorem dX8_unknownCases_6 : decode cX8_unknownCases 6 = .ok (.getfield 33, 3) := by decide +kernel
theorem dX8_unknownCases_9 : decode cX8_unknownCases 9 = .ok (.getfield 37, 3) := by decide +kernel
theorem dX8_unknownCases_12 : decode cX8_unknownCases 12 = .ok (.getfield 49, 3) := by decide +kernel
theorem dX8_unknownCases_15 : decode cX8_unknownCases 15 = .ok (.if_icmp .ge 21, 3) := by decide +kernel
theorem dX8_unknownCases_18 : decode cX8_unknownCases 18 = .ok (.aload_n 0, 1) := by decide +kernel
theorem dX8_unknownCases_19 : decode cX8_unknownCases 19 = .ok (.getfield 9, 3) := by decide +kernel
theorem dX8_unknownCases_22 : decode cX8_unknownCases 22 = .ok (.iload_n 2, 1) := by decide +kernel
theorem dX8_unknownCases_23 : decode cX8_unknownCases 23 = .ok (.iaload, 1) := by decide +kernel
theorem dX8_unknownCases_24 : decode cX8_unknownCases 24 = .ok (.ifCond .ne 6, 3) := by decide +kernel
theorem dX8_unknownCases_27 : decode cX8_unknownCases 27 = .ok (.iinc 1 1, 3) := by decide +kernel
theorem dX8_unknownCases_30 : decode cX8_unknownCases 30 = .ok (.iinc 2 1, 3) := by decide +kernel
theorem dX8_unknownCases_33 : decode cX8_unknownCases 33 = .ok (.goto (-29), 3) := by decide +kernel
theorem dX8_unknownCases_36 : decode cX8_unknownCases 36 = .ok (.iload_n 1, 1) := by decide +kernel
theorem dX8_unknownCases_37 : decode cX8_unknownCases 37 = .ok (.ireturn, 1) := by decide +kernel
def w_X8_unknownCases_36  (v1 : Int32) (h : AH) (Q : Int32 → AH → Prop) : Prop :=
  Q v1 h
def w_X8_unknownCases_30  (x36 : Int32 → AH → Prop) (k : Int32 → Int32 → AH → Prop) (v0 : Nat) (v1 : Int32) (v2 : Int32) (h : AH) (Q : Int32 → AH → Prop) : Prop :=
  k v1 (v2 + 1) h
def w_X8_unknownCases_4  (x36 : Int32 → AH → Prop) (k : Int32 → Int32 → AH → Prop) (v0 : Nat) (v1 : Int32) (v2 : Int32) (h : AH) (Q : Int32 → AH → Prop) : Prop :=
  fN h v0 8 0 fun a1 =>
  fN h a1 7 3 fun a2 =>
  fI h a2 1 0 fun x3 =>
  br (x3 ≤ v2) (
    x36 v1 h) (
    fN h v0 8 1 fun a4 =>
    aI h a4 v2 fun x5 =>
    br (x5 = 0) (
      w_X8_unknownCases_30 x36 k v0 (v1 + 1) v2 h Q) (
      w_X8_unknownCases_30 x36 k v0 v1 v2 h Q))
def w_X8_unknownCases  (v0 : Nat) (h : AH) (Q : Int32 → AH → Prop) : Prop :=
  lp (fun (k2 : Int32 × Int32 × AH → Prop) (s2 : Int32 × Int32 × AH) => w_X8_unknownCases_4  (fun (y1 : Int32) h => w_X8_unknownCases_36 y1 h Q) (fun (y1 : Int32) (y2 : Int32) h => k2 (y1, y2, h)) v0 s2.1 s2.2.1 s2.2.2 Q) ((0 : Int32), (0 : Int32), h)
set_option maxRecDepth 100000 in
set_option maxHeartbeats 4000000 in
theorem s_X8_unknownCases_36 {p : Program} {l : Launch} {e : Env} {s : State} {m : MethodId} {args : Array Value} {below : List Frame} {meth : Method} {c : Code} {g : GG}  {Q : Int32 → AH → Prop}  (C : CXT p l s m args meth c RX8 cX8_unknownCases 3 g) (hr : meth.sig.returnType = (some .int))  : ∀ (v1 : Int32) (h : AH), w_X8_unknownCases_36  v1 h Q → V p l e s m args below meth c g 0 0 0 3 0 0 (MQ below (QCx g (QI Q)) args s 0 0 (gA g)) 36 [(1, .int v1)] [] h := by
  intro v1 h hw
  refine v_iload_n C dX8_unknownCases_36 0 rfl rfl ?_
  exact (rt_MQ C _).1 _ _ _ _ _ _ hr dX8_unknownCases_37 (by decide) (by decide) ⟨_, rfl, hw⟩
set_option maxRecDepth 100000 in
set_option maxHeartbeats 4000000 in
theorem s_X8_unknownCases_30 {p : Program} {l : Launch} {e : Env} {s : State} {m : MethodId} {args : Array Value} {below : List Frame} {meth : Method} {c : Code} {g : GG} {v0 : Nat} {Q : Int32 → AH → Prop} {x36 : Int32 → AH → Prop} {k : Int32 → Int32 → AH → Prop} (C : CXT p l s m args meth c RX8 cX8_unknownCases 3 g) (hr : meth.sig.returnType = (some .int)) (hx36 : ∀ (y1 : Int32) (h : AH), x36 y1 h → V p l e s m args below meth c g 0 0 0 3 0 0 (MQ below (QCx g (QI Q)) args s 0 0 (gA g)) 36 [(1, .int y1)] [] h) (hk : ∀ (y1 : Int32) (y2 : Int32) (h : AH), k y1 y2 h → V p l e s m args below meth c g 0 0 0 3 0 0 (MQ below (QCx g (QI Q)) args s 0 0 (gA g)) 4 [(0, .ref v0), (1, .int y1), (2, .int y2)] [] h) : ∀ (v1 : Int32) (v2 : Int32) (h : AH), w_X8_unknownCases_30  x36 k v0 v1 v2 h Q → V p l e s m args below meth c g 0 0 0 3 0 0 (MQ below (QCx g (QI Q)) args s 0 0 (gA g)) 30 [(0, .ref v0), (1, .int v1), (2, .int v2)] [] h := by
  intro v1 v2 h hw
  refine v_iinc (v := 1) (ls' := [(2, .int (v2 + 1)), (0, .ref v0), (1, .int v1)]) C dX8_unknownCases_30 2 rfl (by decide) (by decide) rfl ?_
  refine v_goto (tgt := 4) C dX8_unknownCases_33 (by decide) ?_
  refine v_sub [1, 2, 0] rfl ?_
  exact hk _ _ _ hw
set_option maxRecDepth 100000 in
set_option maxHeartbeats 4000000 in
theorem s_X8_unknownCases_4 {p : Program} {l : Launch} {e : Env} {s : State} {m : MethodId} {args : Array Value} {below : List Frame} {meth : Method} {c : Code} {g : GG} {v0 : Nat} {Q : Int32 → AH → Prop} {x36 : Int32 → AH → Prop} {k : Int32 → Int32 → AH → Prop} (C : CXT p l s m args meth c RX8 cX8_unknownCases 3 g) (hr : meth.sig.returnType = (some .int)) (hx36 : ∀ (y1 : Int32) (h : AH), x36 y1 h → V p l e s m args below meth c g 0 0 0 3 0 0 (MQ below (QCx g (QI Q)) args s 0 0 (gA g)) 36 [(1, .int y1)] [] h) (hk : ∀ (y1 : Int32) (y2 : Int32) (h : AH), k y1 y2 h → V p l e s m args below meth c g 0 0 0 3 0 0 (MQ below (QCx g (QI Q)) args s 0 0 (gA g)) 4 [(0, .ref v0), (1, .int y1), (2, .int y2)] [] h) : ∀ (v1 : Int32) (v2 : Int32) (h : AH), w_X8_unknownCases_4  x36 k v0 v1 v2 h Q → V p l e s m args below meth c g 0 0 0 3 0 0 (MQ below (QCx g (QI Q)) args s 0 0 (gA g)) 4 [(0, .ref v0), (1, .int v1), (2, .int v2)] [] h := by
  intro v1 v2 h hw
  refine v_iload_n C dX8_unknownCases_4 2 rfl rfl ?_
  refine v_aload_n C dX8_unknownCases_5 0 rfl rfl ?_
  refine w_getN C fl_X8_33 dX8_unknownCases_6 rfl hw (fun a1 hw => ?_)
  refine w_getN C fl_X8_37 dX8_unknownCases_9 rfl hw (fun a2 hw => ?_)
  refine w_getI C fl_X8_49 dX8_unknownCases_12 rfl hw (fun x3 hw => ?_)
  refine v_icmp_ge (tgt := 36) C dX8_unknownCases_15 (by decide) (fun c_15 => ?_) (fun c_15 => ?_)
  · have hw := hw.1 c_15
    refine v_sub [1] rfl ?_
    exact hx36 _ _ hw
  · have hw := hw.2 c_15
    refine v_aload_n C dX8_unknownCases_18 0 rfl rfl ?_
    refine w_getN C fl_X8_9 dX8_unknownCases_19 rfl hw (fun a4 hw => ?_)
    refine v_iload_n C dX8_unknownCases_22 2 rfl rfl ?_
    refine w_iaload C dX8_unknownCases_23 hw (fun x5 hw => ?_)
    refine v_if_ne (tgt := 30) C dX8_unknownCases_24 (by decide) (fun c_24 => ?_) (fun c_24 => ?_)
    · have hw := hw.2 c_24
      exact s_X8_unknownCases_30 C hr hx36 hk _ _ _ hw
    · have hw := hw.1 c_24
      refine v_iinc (v := 1) (ls' := [(1, .int (v1 + 1)), (0, .ref v0), (2, .int v2)]) C dX8_unknownCases_27 1 rfl (by decide) (by decide) rfl ?_
      refine v_sub [1, 0, 2] rfl ?_
      exact s_X8_unknownCases_30 C hr hx36 hk _ _ _ hw
set_option maxRecDepth 100000 in
set_option maxHeartbeats 4000000 in
theorem s_X8_unknownCases {l : Launch}  {v0 : Nat} {h : AH} {Q : Int32 → AH → Prop}  (hw : w_X8_unknownCases  v0 h Q) : CT l yX8_unknownCases cX8_unknownCases 3 (some .int) 0 0 0 [.ref v0] h (QI Q) := by
  refine CT.of (by decide) ⟨rfl, trivial⟩ (Nat.le_of_ble_eq_true rfl) ?_
  intro p e s m args below meth c g C hr hin
  refine v_eq (pc' := 0) (ls' := [(0, .ref v0)]) rfl rfl rfl rfl ?_
  refine v_iconst (v := 0) C dX8_unknownCases_0 (by decide) ?_
  refine v_istore_n (ls' := [(1, .int (0 : Int32)), (0, .ref v0)]) C dX8_unknownCases_1 rfl (by decide) rfl ?_
  refine v_iconst (v := 0) C dX8_unknownCases_2 (by decide) ?_
  refine v_istore_n (ls' := [(2, .int (0 : Int32)), (1, .int (0 : Int32)), (0, .ref v0)]) C dX8_unknownCases_3 rfl (by decide) rfl ?_
  refine v_sub [2, 1, 0] rfl ?_
  refine lp_walk (P := fun (s' : Int32 × Int32 × AH) => V p l e s m args below meth c g 0 0 0 3 0 0 (MQ below (QCx g (QI Q)) args s 0 0 (gA g)) 4 [(0, .ref v0), (1, .int (s'.1)), (2, .int (s'.2.1))] [] s'.2.2) (fun k2 hk2 s' hw => ?_) ((0 : Int32), (0 : Int32), h) hw
  exact s_X8_unknownCases_4 C hr (fun y1 h hw => s_X8_unknownCases_36 C hr  _ h hw) (fun y1 y2 h hw => hk2 (y1, y2, h) hw) _ _ _ hw
