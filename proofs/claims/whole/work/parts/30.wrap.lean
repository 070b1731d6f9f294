theorem cl_L_58 : CLk RL 58 yX11_about cX11_about 4 (some .int) 2 := ⟨Or.inl (tb5 (List.mem_of_getElem? (i := 161) rfl)), (tb5 (List.mem_of_getElem? (i := 164) rfl)), (tb1 (List.mem_of_getElem? (i := 1) rfl)), by decide +kernel, by decide +kernel, by decide +kernel⟩
theorem im_X11_about : Cond.instanceMethod yX11_about ∈ lw_tbl := (tb5 (List.mem_of_getElem? (i := 162) rfl))
theorem se_X11_about : Cond.selects RX11 yX11_about yX11_about ∈ lw_tbl := (tb5 (List.mem_of_getElem? (i := 163) rfl))
theorem lk_L_58 : Cond.methodLink RL 58 yX11_about ∈ lw_tbl := (tb5 (List.mem_of_getElem? (i := 161) rfl))
theorem cl_L_103 : CLk RL 103 yX11_could cX11_could 3 (some .boolean) 2 := ⟨Or.inl (tb6 (List.mem_of_getElem? (i := 227) rfl)), (tb6 (List.mem_of_getElem? (i := 230) rfl)), (tb1 (List.mem_of_getElem? (i := 1) rfl)), by decide +kernel, by decide +kernel, by decide +kernel⟩
theorem im_X11_could : Cond.instanceMethod yX11_could ∈ lw_tbl := (tb6 (List.mem_of_getElem? (i := 228) rfl))
theorem se_X11_could : Cond.selects RX11 yX11_could yX11_could ∈ lw_tbl := (tb6 (List.mem_of_getElem? (i := 229) rfl))
theorem lk_L_103 : Cond.methodLink RL 103 yX11_could ∈ lw_tbl := (tb6 (List.mem_of_getElem? (i := 227) rfl))
theorem cl_L_31 : CLk RL 31 yX11_day cX11_day 2 none 1 := ⟨Or.inl (tb4 (List.mem_of_getElem? (i := 17) rfl)), (tb4 (List.mem_of_getElem? (i := 20) rfl)), (tb1 (List.mem_of_getElem? (i := 1) rfl)), by decide +kernel, by decide +kernel, by decide +kernel⟩
theorem im_X11_day : Cond.instanceMethod yX11_day ∈ lw_tbl := (tb4 (List.mem_of_getElem? (i := 18) rfl))
theorem se_X11_day : Cond.selects RX11 yX11_day yX11_day ∈ lw_tbl := (tb4 (List.mem_of_getElem? (i := 19) rfl))
theorem lk_L_31 : Cond.methodLink RL 31 yX11_day ∈ lw_tbl := (tb4 (List.mem_of_getElem? (i := 17) rfl))
theorem cl_L_51 : CLk RL 51 yX11_found cX11_found 4 (some .int) 3 := ⟨Or.inl (tb5 (List.mem_of_getElem? (i := 142) rfl)), (tb5 (List.mem_of_getElem? (i := 145) rfl)), (tb1 (List.mem_of_getElem? (i := 1) rfl)), by decide +kernel, by decide +kernel, by decide +kernel⟩
theorem im_X11_found : Cond.instanceMethod yX11_found ∈ lw_tbl := (tb5 (List.mem_of_getElem? (i := 143) rfl))
theorem se_X11_found : Cond.selects RX11 yX11_found yX11_found ∈ lw_tbl := (tb5 (List.mem_of_getElem? (i := 144) rfl))
theorem lk_L_51 : Cond.methodLink RL 51 yX11_found ∈ lw_tbl := (tb5 (List.mem_of_getElem? (i := 142) rfl))
theorem cl_L_7 : CLk RL 7 yX11_ground cX11_ground 4 none 3 := ⟨Or.inl (tb3 (List.mem_of_getElem? (i := 91) rfl)), (tb3 (List.mem_of_getElem? (i := 94) rfl)), (tb1 (List.mem_of_getElem? (i := 1) rfl)), by decide +kernel, by decide +kernel, by decide +kernel⟩
theorem im_X11_ground : Cond.instanceMethod yX11_ground ∈ lw_tbl := (tb3 (List.mem_of_getElem? (i := 92) rfl))
theorem se_X11_ground : Cond.selects RX11 yX11_ground yX11_ground ∈ lw_tbl := (tb3 (List.mem_of_getElem? (i := 93) rfl))
theorem lk_L_7 : Cond.methodLink RL 7 yX11_ground ∈ lw_tbl := (tb3 (List.mem_of_getElem? (i := 91) rfl))
theorem cl_L_25 : CLk RL 25 yX11_gun cX11_gun 5 (some .int) 4 := ⟨Or.inl (tb3 (List.mem_of_getElem? (i := 224) rfl)), (tb3 (List.mem_of_getElem? (i := 227) rfl)), (tb1 (List.mem_of_getElem? (i := 1) rfl)), by decide +kernel, by decide +kernel, by decide +kernel⟩
theorem im_X11_gun : Cond.instanceMethod yX11_gun ∈ lw_tbl := (tb3 (List.mem_of_getElem? (i := 225) rfl))
theorem se_X11_gun : Cond.selects RX11 yX11_gun yX11_gun ∈ lw_tbl := (tb3 (List.mem_of_getElem? (i := 226) rfl))
theorem lk_L_25 : Cond.methodLink RL 25 yX11_gun ∈ lw_tbl := (tb3 (List.mem_of_getElem? (i := 224) rfl))
theorem cl_L_87 : CLk RL 87 yX11_heaps cX11_heaps 3 (some .int) 2 := ⟨Or.inl (tb6 (List.mem_of_getElem? (i := 157) rfl)), (tb6 (List.mem_of_getElem? (i := 160) rfl)), (tb1 (List.mem_of_getElem? (i := 1) rfl)), by decide +kernel, by decide +kernel, by decide +kernel⟩
theorem im_X11_heaps : Cond.instanceMethod yX11_heaps ∈ lw_tbl := (tb6 (List.mem_of_getElem? (i := 158) rfl))
theorem se_X11_heaps : Cond.selects RX11 yX11_heaps yX11_heaps ∈ lw_tbl := (tb6 (List.mem_of_getElem? (i := 159) rfl))
theorem lk_L_87 : Cond.methodLink RL 87 yX11_heaps ∈ lw_tbl := (tb6 (List.mem_of_getElem? (i := 157) rfl))
theorem cl_L_17 : CLk RL 17 yX11_height cX11_height 2 (some .int) 1 := ⟨Or.inl (tb3 (List.mem_of_getElem? (i := 208) rfl)), (tb3 (List.mem_of_getElem? (i := 211) rfl)), (tb1 (List.mem_of_getElem? (i := 1) rfl)), by decide +kernel, by decide +kernel, by decide +kernel⟩
theorem im_X11_height : Cond.instanceMethod yX11_height ∈ lw_tbl := (tb3 (List.mem_of_getElem? (i := 209) rfl))
theorem se_X11_height : Cond.selects RX11 yX11_height yX11_height ∈ lw_tbl := (tb3 (List.mem_of_getElem? (i := 210) rfl))
theorem lk_L_17 : Cond.methodLink RL 17 yX11_height ∈ lw_tbl := (tb3 (List.mem_of_getElem? (i := 208) rfl))
theorem cl_L_83 : CLk RL 83 yX11_held cX11_held 5 (some .int) 4 := ⟨Or.inl (tb6 (List.mem_of_getElem? (i := 114) rfl)), (tb6 (List.mem_of_getElem? (i := 117) rfl)), (tb1 (List.mem_of_getElem? (i := 1) rfl)), by decide +kernel, by decide +kernel, by decide +kernel⟩
theorem im_X11_held : Cond.instanceMethod yX11_held ∈ lw_tbl := (tb6 (List.mem_of_getElem? (i := 115) rfl))
theorem se_X11_held : Cond.selects RX11 yX11_held yX11_held ∈ lw_tbl := (tb6 (List.mem_of_getElem? (i := 116) rfl))
theorem lk_L_83 : Cond.methodLink RL 83 yX11_held ∈ lw_tbl := (tb6 (List.mem_of_getElem? (i := 114) rfl))
theorem cl_L_120 : CLk RL 120 yX11_holds cX11_holds 2 (some .boolean) 1 := ⟨Or.inl (tb7 (List.mem_of_getElem? (i := 57) rfl)), (tb7 (List.mem_of_getElem? (i := 60) rfl)), (tb1 (List.mem_of_getElem? (i := 1) rfl)), by decide +kernel, by decide +kernel, by decide +kernel⟩
theorem im_X11_holds : Cond.instanceMethod yX11_holds ∈ lw_tbl := (tb7 (List.mem_of_getElem? (i := 58) rfl))
theorem se_X11_holds : Cond.selects RX11 yX11_holds yX11_holds ∈ lw_tbl := (tb7 (List.mem_of_getElem? (i := 59) rfl))
theorem lk_L_120 : Cond.methodLink RL 120 yX11_holds ∈ lw_tbl := (tb7 (List.mem_of_getElem? (i := 57) rfl))
theorem cl_L_113 : CLk RL 113 yX11_joined cX11_joined 6 (some .int) 5 := ⟨Or.inl (tb7 (List.mem_of_getElem? (i := 31) rfl)), (tb7 (List.mem_of_getElem? (i := 34) rfl)), (tb1 (List.mem_of_getElem? (i := 1) rfl)), by decide +kernel, by decide +kernel, by decide +kernel⟩
theorem im_X11_joined : Cond.instanceMethod yX11_joined ∈ lw_tbl := (tb7 (List.mem_of_getElem? (i := 32) rfl))
theorem se_X11_joined : Cond.selects RX11 yX11_joined yX11_joined ∈ lw_tbl := (tb7 (List.mem_of_getElem? (i := 33) rfl))
theorem lk_L_113 : Cond.methodLink RL 113 yX11_joined ∈ lw_tbl := (tb7 (List.mem_of_getElem? (i := 31) rfl))
theorem cl_L_77 : CLk RL 77 yX11_later cX11_later 3 (some .int) 1 := ⟨Or.inl (tb5 (List.mem_of_getElem? (i := 239) rfl)), (tb6 (List.mem_of_getElem? (i := 2) rfl)), (tb1 (List.mem_of_getElem? (i := 1) rfl)), by decide +kernel, by decide +kernel, by decide +kernel⟩
theorem im_X11_later : Cond.instanceMethod yX11_later ∈ lw_tbl := (tb6 (List.mem_of_getElem? (i := 0) rfl))
theorem se_X11_later : Cond.selects RX11 yX11_later yX11_later ∈ lw_tbl := (tb6 (List.mem_of_getElem? (i := 1) rfl))
theorem lk_L_77 : Cond.methodLink RL 77 yX11_later ∈ lw_tbl := (tb5 (List.mem_of_getElem? (i := 239) rfl))
theorem cl_L_35 : CLk RL 35 yX11_law cX11_law 1 (some .int) 0 := ⟨Or.inl (tb4 (List.mem_of_getElem? (i := 24) rfl)), (tb4 (List.mem_of_getElem? (i := 27) rfl)), (tb1 (List.mem_of_getElem? (i := 1) rfl)), by decide +kernel, by decide +kernel, by decide +kernel⟩
theorem im_X11_law : Cond.instanceMethod yX11_law ∈ lw_tbl := (tb4 (List.mem_of_getElem? (i := 25) rfl))
theorem se_X11_law : Cond.selects RX11 yX11_law yX11_law ∈ lw_tbl := (tb4 (List.mem_of_getElem? (i := 26) rfl))
theorem lk_L_35 : Cond.methodLink RL 35 yX11_law ∈ lw_tbl := (tb4 (List.mem_of_getElem? (i := 24) rfl))
theorem cl_L_91 : CLk RL 91 yX11_length cX11_length 5 (some .int) 4 := ⟨Or.inl (tb6 (List.mem_of_getElem? (i := 179) rfl)), (tb6 (List.mem_of_getElem? (i := 182) rfl)), (tb1 (List.mem_of_getElem? (i := 1) rfl)), by decide +kernel, by decide +kernel, by decide +kernel⟩
theorem im_X11_length : Cond.instanceMethod yX11_length ∈ lw_tbl := (tb6 (List.mem_of_getElem? (i := 180) rfl))
theorem se_X11_length : Cond.selects RX11 yX11_length yX11_length ∈ lw_tbl := (tb6 (List.mem_of_getElem? (i := 181) rfl))
theorem lk_L_91 : Cond.methodLink RL 91 yX11_length ∈ lw_tbl := (tb6 (List.mem_of_getElem? (i := 179) rfl))
theorem cl_L_42 : CLk RL 42 yX11_look cX11_look 4 (some .int) 2 := ⟨Or.inl (tb5 (List.mem_of_getElem? (i := 24) rfl)), (tb5 (List.mem_of_getElem? (i := 27) rfl)), (tb1 (List.mem_of_getElem? (i := 1) rfl)), by decide +kernel, by decide +kernel, by decide +kernel⟩
theorem im_X11_look : Cond.instanceMethod yX11_look ∈ lw_tbl := (tb5 (List.mem_of_getElem? (i := 25) rfl))
theorem se_X11_look : Cond.selects RX11 yX11_look yX11_look ∈ lw_tbl := (tb5 (List.mem_of_getElem? (i := 26) rfl))
theorem lk_L_42 : Cond.methodLink RL 42 yX11_look ∈ lw_tbl := (tb5 (List.mem_of_getElem? (i := 24) rfl))
theorem cl_L_64 : CLk RL 64 yX11_machine cX11_machine 3 none 2 := ⟨Or.inl (tb5 (List.mem_of_getElem? (i := 189) rfl)), (tb5 (List.mem_of_getElem? (i := 192) rfl)), (tb1 (List.mem_of_getElem? (i := 1) rfl)), by decide +kernel, by decide +kernel, by decide +kernel⟩
theorem im_X11_machine : Cond.instanceMethod yX11_machine ∈ lw_tbl := (tb5 (List.mem_of_getElem? (i := 190) rfl))
theorem se_X11_machine : Cond.selects RX11 yX11_machine yX11_machine ∈ lw_tbl := (tb5 (List.mem_of_getElem? (i := 191) rfl))
theorem lk_L_64 : Cond.methodLink RL 64 yX11_machine ∈ lw_tbl := (tb5 (List.mem_of_getElem? (i := 189) rfl))
theorem cl_L_71 : CLk RL 71 yX11_needed cX11_needed 3 (some .int) 2 := ⟨Or.inl (tb5 (List.mem_of_getElem? (i := 203) rfl)), (tb5 (List.mem_of_getElem? (i := 206) rfl)), (tb1 (List.mem_of_getElem? (i := 1) rfl)), by decide +kernel, by decide +kernel, by decide +kernel⟩
theorem im_X11_needed : Cond.instanceMethod yX11_needed ∈ lw_tbl := (tb5 (List.mem_of_getElem? (i := 204) rfl))
theorem se_X11_needed : Cond.selects RX11 yX11_needed yX11_needed ∈ lw_tbl := (tb5 (List.mem_of_getElem? (i := 205) rfl))
theorem lk_L_71 : Cond.methodLink RL 71 yX11_needed ∈ lw_tbl := (tb5 (List.mem_of_getElem? (i := 203) rfl))
theorem cl_L_124 : CLk RL 124 yX11_odds cX11_odds 2 (some .int) 1 := ⟨Or.inl (tb7 (List.mem_of_getElem? (i := 77) rfl)), (tb7 (List.mem_of_getElem? (i := 80) rfl)), (tb1 (List.mem_of_getElem? (i := 1) rfl)), by decide +kernel, by decide +kernel, by decide +kernel⟩
theorem im_X11_odds : Cond.instanceMethod yX11_odds ∈ lw_tbl := (tb7 (List.mem_of_getElem? (i := 78) rfl))
theorem se_X11_odds : Cond.selects RX11 yX11_odds yX11_odds ∈ lw_tbl := (tb7 (List.mem_of_getElem? (i := 79) rfl))
theorem lk_L_124 : Cond.methodLink RL 124 yX11_odds ∈ lw_tbl := (tb7 (List.mem_of_getElem? (i := 77) rfl))
theorem cl_L_55 : CLk RL 55 yX11_other cX11_other 5 (some .int) 4 := ⟨Or.inl (tb5 (List.mem_of_getElem? (i := 151) rfl)), (tb5 (List.mem_of_getElem? (i := 154) rfl)), (tb1 (List.mem_of_getElem? (i := 1) rfl)), by decide +kernel, by decide +kernel, by decide +kernel⟩
theorem im_X11_other : Cond.instanceMethod yX11_other ∈ lw_tbl := (tb5 (List.mem_of_getElem? (i := 152) rfl))
theorem se_X11_other : Cond.selects RX11 yX11_other yX11_other ∈ lw_tbl := (tb5 (List.mem_of_getElem? (i := 153) rfl))
theorem lk_L_55 : Cond.methodLink RL 55 yX11_other ∈ lw_tbl := (tb5 (List.mem_of_getElem? (i := 151) rfl))
theorem cl_L_39 : CLk RL 39 yX11_person cX11_person 5 (some .int) 4 := ⟨Or.inl (tb5 (List.mem_of_getElem? (i := 8) rfl)), (tb5 (List.mem_of_getElem? (i := 11) rfl)), (tb1 (List.mem_of_getElem? (i := 1) rfl)), by decide +kernel, by decide +kernel, by decide +kernel⟩
theorem im_X11_person : Cond.instanceMethod yX11_person ∈ lw_tbl := (tb5 (List.mem_of_getElem? (i := 9) rfl))
theorem se_X11_person : Cond.selects RX11 yX11_person yX11_person ∈ lw_tbl := (tb5 (List.mem_of_getElem? (i := 10) rfl))
theorem lk_L_39 : Cond.methodLink RL 39 yX11_person ∈ lw_tbl := (tb5 (List.mem_of_getElem? (i := 8) rfl))
theorem cl_L_48 : CLk RL 48 yX11_run cX11_run 3 (some .int) 1 := ⟨Or.inl (tb5 (List.mem_of_getElem? (i := 64) rfl)), (tb5 (List.mem_of_getElem? (i := 67) rfl)), (tb1 (List.mem_of_getElem? (i := 1) rfl)), by decide +kernel, by decide +kernel, by decide +kernel⟩
theorem im_X11_run : Cond.instanceMethod yX11_run ∈ lw_tbl := (tb5 (List.mem_of_getElem? (i := 65) rfl))
theorem se_X11_run : Cond.selects RX11 yX11_run yX11_run ∈ lw_tbl := (tb5 (List.mem_of_getElem? (i := 66) rfl))
theorem lk_L_48 : Cond.methodLink RL 48 yX11_run ∈ lw_tbl := (tb5 (List.mem_of_getElem? (i := 64) rfl))
theorem cl_L_74 : CLk RL 74 yX11_same cX11_same 6 (some .int) 3 := ⟨Or.inl (tb5 (List.mem_of_getElem? (i := 228) rfl)), (tb5 (List.mem_of_getElem? (i := 231) rfl)), (tb1 (List.mem_of_getElem? (i := 1) rfl)), by decide +kernel, by decide +kernel, by decide +kernel⟩
theorem im_X11_same : Cond.instanceMethod yX11_same ∈ lw_tbl := (tb5 (List.mem_of_getElem? (i := 229) rfl))
theorem se_X11_same : Cond.selects RX11 yX11_same yX11_same ∈ lw_tbl := (tb5 (List.mem_of_getElem? (i := 230) rfl))
theorem lk_L_74 : Cond.methodLink RL 74 yX11_same ∈ lw_tbl := (tb5 (List.mem_of_getElem? (i := 228) rfl))
theorem cl_L_21 : CLk RL 21 yX11_sees cX11_sees 3 (some .boolean) 2 := ⟨Or.inl (tb3 (List.mem_of_getElem? (i := 215) rfl)), (tb3 (List.mem_of_getElem? (i := 218) rfl)), (tb1 (List.mem_of_getElem? (i := 1) rfl)), by decide +kernel, by decide +kernel, by decide +kernel⟩
theorem im_X11_sees : Cond.instanceMethod yX11_sees ∈ lw_tbl := (tb3 (List.mem_of_getElem? (i := 216) rfl))
theorem se_X11_sees : Cond.selects RX11 yX11_sees yX11_sees ∈ lw_tbl := (tb3 (List.mem_of_getElem? (i := 217) rfl))
theorem lk_L_21 : Cond.methodLink RL 21 yX11_sees ∈ lw_tbl := (tb3 (List.mem_of_getElem? (i := 215) rfl))
theorem cl_L_94 : CLk RL 94 yX11_still cX11_still 3 (some .int) 2 := ⟨Or.inl (tb6 (List.mem_of_getElem? (i := 194) rfl)), (tb6 (List.mem_of_getElem? (i := 197) rfl)), (tb1 (List.mem_of_getElem? (i := 1) rfl)), by decide +kernel, by decide +kernel, by decide +kernel⟩
theorem im_X11_still : Cond.instanceMethod yX11_still ∈ lw_tbl := (tb6 (List.mem_of_getElem? (i := 195) rfl))
theorem se_X11_still : Cond.selects RX11 yX11_still yX11_still ∈ lw_tbl := (tb6 (List.mem_of_getElem? (i := 196) rfl))
theorem lk_L_94 : Cond.methodLink RL 94 yX11_still ∈ lw_tbl := (tb6 (List.mem_of_getElem? (i := 194) rfl))
theorem cl_L_117 : CLk RL 117 yX11_story cX11_story 2 (some .int) 1 := ⟨Or.inl (tb7 (List.mem_of_getElem? (i := 42) rfl)), (tb7 (List.mem_of_getElem? (i := 45) rfl)), (tb1 (List.mem_of_getElem? (i := 1) rfl)), by decide +kernel, by decide +kernel, by decide +kernel⟩
theorem im_X11_story : Cond.instanceMethod yX11_story ∈ lw_tbl := (tb7 (List.mem_of_getElem? (i := 43) rfl))
theorem se_X11_story : Cond.selects RX11 yX11_story yX11_story ∈ lw_tbl := (tb7 (List.mem_of_getElem? (i := 44) rfl))
theorem lk_L_117 : Cond.methodLink RL 117 yX11_story ∈ lw_tbl := (tb7 (List.mem_of_getElem? (i := 42) rfl))
theorem cl_L_107 : CLk RL 107 yX11_talked cX11_talked 3 (some .boolean) 2 := ⟨Or.inl (tb6 (List.mem_of_getElem? (i := 236) rfl)), (tb6 (List.mem_of_getElem? (i := 239) rfl)), (tb1 (List.mem_of_getElem? (i := 1) rfl)), by decide +kernel, by decide +kernel, by decide +kernel⟩
theorem im_X11_talked : Cond.instanceMethod yX11_talked ∈ lw_tbl := (tb6 (List.mem_of_getElem? (i := 237) rfl))
theorem se_X11_talked : Cond.selects RX11 yX11_talked yX11_talked ∈ lw_tbl := (tb6 (List.mem_of_getElem? (i := 238) rfl))
theorem lk_L_107 : Cond.methodLink RL 107 yX11_talked ∈ lw_tbl := (tb6 (List.mem_of_getElem? (i := 236) rfl))
theorem cl_L_97 : CLk RL 97 yX11_teller cX11_teller 5 (some .int) 4 := ⟨Or.inl (tb6 (List.mem_of_getElem? (i := 205) rfl)), (tb6 (List.mem_of_getElem? (i := 208) rfl)), (tb1 (List.mem_of_getElem? (i := 1) rfl)), by decide +kernel, by decide +kernel, by decide +kernel⟩
theorem im_X11_teller : Cond.instanceMethod yX11_teller ∈ lw_tbl := (tb6 (List.mem_of_getElem? (i := 206) rfl))
theorem se_X11_teller : Cond.selects RX11 yX11_teller yX11_teller ∈ lw_tbl := (tb6 (List.mem_of_getElem? (i := 207) rfl))
theorem lk_L_97 : Cond.methodLink RL 97 yX11_teller ∈ lw_tbl := (tb6 (List.mem_of_getElem? (i := 205) rfl))
theorem cl_L_100 : CLk RL 100 yX11_tells cX11_tells 4 (some .int) 3 := ⟨Or.inl (tb6 (List.mem_of_getElem? (i := 216) rfl)), (tb6 (List.mem_of_getElem? (i := 219) rfl)), (tb1 (List.mem_of_getElem? (i := 1) rfl)), by decide +kernel, by decide +kernel, by decide +kernel⟩
theorem im_X11_tells : Cond.instanceMethod yX11_tells ∈ lw_tbl := (tb6 (List.mem_of_getElem? (i := 217) rfl))
theorem se_X11_tells : Cond.selects RX11 yX11_tells yX11_tells ∈ lw_tbl := (tb6 (List.mem_of_getElem? (i := 218) rfl))
theorem lk_L_100 : Cond.methodLink RL 100 yX11_tells ∈ lw_tbl := (tb6 (List.mem_of_getElem? (i := 216) rfl))
theorem cl_L_68 : CLk RL 68 yX11_walk cX11_walk 3 (some .int) 1 := ⟨Or.inl (tb5 (List.mem_of_getElem? (i := 196) rfl)), (tb5 (List.mem_of_getElem? (i := 199) rfl)), (tb1 (List.mem_of_getElem? (i := 1) rfl)), by decide +kernel, by decide +kernel, by decide +kernel⟩
theorem im_X11_walk : Cond.instanceMethod yX11_walk ∈ lw_tbl := (tb5 (List.mem_of_getElem? (i := 197) rfl))
theorem se_X11_walk : Cond.selects RX11 yX11_walk yX11_walk ∈ lw_tbl := (tb5 (List.mem_of_getElem? (i := 198) rfl))
theorem lk_L_68 : Cond.methodLink RL 68 yX11_walk ∈ lw_tbl := (tb5 (List.mem_of_getElem? (i := 196) rfl))
theorem cl_L_80 : CLk RL 80 yX11_way cX11_way 3 (some .int) 2 := ⟨Or.inl (tb6 (List.mem_of_getElem? (i := 22) rfl)), (tb6 (List.mem_of_getElem? (i := 25) rfl)), (tb1 (List.mem_of_getElem? (i := 1) rfl)), by decide +kernel, by decide +kernel, by decide +kernel⟩
theorem im_X11_way : Cond.instanceMethod yX11_way ∈ lw_tbl := (tb6 (List.mem_of_getElem? (i := 23) rfl))
theorem se_X11_way : Cond.selects RX11 yX11_way yX11_way ∈ lw_tbl := (tb6 (List.mem_of_getElem? (i := 24) rfl))
theorem lk_L_80 : Cond.methodLink RL 80 yX11_way ∈ lw_tbl := (tb6 (List.mem_of_getElem? (i := 22) rfl))
theorem cl_L_61 : CLk RL 61 yX11_when cX11_when 4 none 3 := ⟨Or.inl (tb5 (List.mem_of_getElem? (i := 179) rfl)), (tb5 (List.mem_of_getElem? (i := 182) rfl)), (tb1 (List.mem_of_getElem? (i := 1) rfl)), by decide +kernel, by decide +kernel, by decide +kernel⟩
theorem im_X11_when : Cond.instanceMethod yX11_when ∈ lw_tbl := (tb5 (List.mem_of_getElem? (i := 180) rfl))
theorem se_X11_when : Cond.selects RX11 yX11_when yX11_when ∈ lw_tbl := (tb5 (List.mem_of_getElem? (i := 181) rfl))
theorem lk_L_61 : Cond.methodLink RL 61 yX11_when ∈ lw_tbl := (tb5 (List.mem_of_getElem? (i := 179) rfl))
theorem cl_L_110 : CLk RL 110 yX11_who cX11_who 3 (some .int) 1 := ⟨Or.inl (tb7 (List.mem_of_getElem? (i := 4) rfl)), (tb7 (List.mem_of_getElem? (i := 7) rfl)), (tb1 (List.mem_of_getElem? (i := 1) rfl)), by decide +kernel, by decide +kernel, by decide +kernel⟩
theorem im_X11_who : Cond.instanceMethod yX11_who ∈ lw_tbl := (tb7 (List.mem_of_getElem? (i := 5) rfl))
theorem se_X11_who : Cond.selects RX11 yX11_who yX11_who ∈ lw_tbl := (tb7 (List.mem_of_getElem? (i := 6) rfl))
theorem lk_L_110 : Cond.methodLink RL 110 yX11_who ∈ lw_tbl := (tb7 (List.mem_of_getElem? (i := 4) rfl))
-- GrassFieldLaw.about(LGrassField;II[J)I
theorem dL_about_0 : decode cL_about 0 = .ok (.aload_n 3, 1) := by decide +kernel
theorem dL_about_1 : decode cL_about 1 = .ok (.iconst 0, 1) := by decide +kernel
theorem dL_about_2 : decode cL_about 2 = .ok (.aload_n 0, 1) := by decide +kernel
theorem dL_about_3 : decode cL_about 3 = .ok (.iload_n 1, 1) := by decide +kernel
theorem dL_about_4 : decode cL_about 4 = .ok (.iload_n 2, 1) := by decide +kernel
theorem dL_about_5 : decode cL_about 5 = .ok (.invokevirtual 58, 3) := by decide +kernel
theorem dL_about_8 : decode cL_about 8 = .ok (.i2l, 1) := by decide +kernel
theorem dL_about_9 : decode cL_about 9 = .ok (.lastore, 1) := by decide +kernel
theorem dL_about_10 : decode cL_about 10 = .ok (.goto 11, 3) := by decide +kernel
theorem dL_about_13 : decode cL_about 13 = .ok (.astore 4, 2) := by decide +kernel
theorem dL_about_15 : decode cL_about 15 = .ok (.iconst 1, 1) := by decide +kernel
theorem dL_about_16 : decode cL_about 16 = .ok (.ireturn, 1) := by decide +kernel
theorem dL_about_17 : decode cL_about 17 = .ok (.astore 4, 2) := by decide +kernel
theorem dL_about_19 : decode cL_about 19 = .ok (.iconst 2, 1) := by decide +kernel
theorem dL_about_20 : decode cL_about 20 = .ok (.ireturn, 1) := by decide +kernel
theorem dL_about_21 : decode cL_about 21 = .ok (.iconst 0, 1) := by decide +kernel
theorem dL_about_22 : decode cL_about 22 = .ok (.ireturn, 1) := by decide +kernel
def w_L_about_17  (t0 : Nat) (h : AH) (Q : Int32 → AH → Prop) : Prop :=
  Q (2 : Int32) h
def w_L_about_13  (t0 : Nat) (h : AH) (Q : Int32 → AH → Prop) : Prop :=
  Q (1 : Int32) h
def w_L_about  (v0 : Nat) (v1 : Int32) (v2 : Int32) (v3 : Nat) (h : AH) (Q : Int32 → AH → Prop) : Prop :=
  vr h v0 11 (
  w_X11_about v0 v1 v2 h (fun x1 h =>
    tJ h v3 (0 : Int32) x1.toInt64 fun h =>
    Q (0 : Int32) h) (fun E h => br (E = "java/lang/IndexOutOfBoundsException") (∀ q, w_L_about_13  q h Q) (br (E = "java/util/NoSuchElementException") (∀ q, w_L_about_17  q h Q) (False))))
set_option maxRecDepth 100000 in
set_option maxHeartbeats 4000000 in
theorem s_L_about_17 {p : Program} {l : Launch} {e : Env} {s : State} {m : MethodId} {args : Array Value} {below : List Frame} {meth : Method} {c : Code} {g : GG}  {Q : Int32 → AH → Prop}  (C : CXT p l s m args meth c RL cL_about 5 g) (hr : meth.sig.returnType = (some .int)) (htab : c.exceptionTable.toList = tableOf [(0, 10, 13, 13), (0, 10, 17, 46)])  : ∀ (t0 : Nat) (h : AH), w_L_about_17  t0 h Q → V p l e s m args below meth c g 8 2 12 5 2 12 (vx_MQ below (QCx g (QI Q)) (XCx g noX) args s 2 12 (gA g)) 17 [] [.ref t0] h := by
  intro t0 h hw
  refine v_astore (ls' := [(4, .ref t0)]) C dL_about_17 (by decide) rfl ?_
  refine v_iconst (v := 2) C dL_about_19 (by decide) ?_
  exact (rt_VX C _ _).1 _ _ _ _ _ _ hr dL_about_20 (by decide) (by decide) ⟨_, rfl, hw⟩
set_option maxRecDepth 100000 in
set_option maxHeartbeats 4000000 in
theorem s_L_about_13 {p : Program} {l : Launch} {e : Env} {s : State} {m : MethodId} {args : Array Value} {below : List Frame} {meth : Method} {c : Code} {g : GG}  {Q : Int32 → AH → Prop}  (C : CXT p l s m args meth c RL cL_about 5 g) (hr : meth.sig.returnType = (some .int)) (htab : c.exceptionTable.toList = tableOf [(0, 10, 13, 13), (0, 10, 17, 46)])  : ∀ (t0 : Nat) (h : AH), w_L_about_13  t0 h Q → V p l e s m args below meth c g 8 2 12 5 2 12 (vx_MQ below (QCx g (QI Q)) (XCx g noX) args s 2 12 (gA g)) 13 [] [.ref t0] h := by
  intro t0 h hw
  refine v_astore (ls' := [(4, .ref t0)]) C dL_about_13 (by decide) rfl ?_
  refine v_iconst (v := 1) C dL_about_15 (by decide) ?_
  exact (rt_VX C _ _).1 _ _ _ _ _ _ hr dL_about_16 (by decide) (by decide) ⟨_, rfl, hw⟩
set_option maxRecDepth 100000 in
set_option maxHeartbeats 4000000 in
theorem s_L_about {l : Launch}  {v0 : Nat} {v1 : Int32} {v2 : Int32} {v3 : Nat} {h : AH} {Q : Int32 → AH → Prop}  (hw : w_L_about  v0 v1 v2 v3 h Q) : CH l yL_about cL_about 5 (some .int) [(0, 10, 13, 13), (0, 10, 17, 46)] 8 2 12 [.ref v0, .int v1, .int v2, .ref v3] h (QI Q) := by
  refine CH.of (by decide) ⟨rfl, ⟨rfl, ⟨rfl, ⟨rfl, trivial⟩⟩⟩⟩ (Nat.le_of_ble_eq_true rfl) ?_
  intro p e s m args below meth c g C hr htab
  refine v_eq (pc' := 0) (ls' := [(0, .ref v0), (1, .int v1), (2, .int v2), (3, .ref v3)]) rfl rfl rfl rfl ?_
  refine v_aload_n C dL_about_0 3 rfl rfl ?_
  refine v_iconst (v := 0) C dL_about_1 (by decide) ?_
  refine v_aload_n C dL_about_2 0 rfl rfl ?_
  refine v_iload_n C dL_about_3 1 rfl rfl ?_
  refine v_iload_n C dL_about_4 2 rfl rfl ?_
  refine w_callXVi (st := [.int (0 : Int32), .ref v3]) C cl_L_58 lk_L_58 im_X11_about se_X11_about rfl hw.1 (s_X11_about hw.2) rfl dL_about_5 rfl (Nat.le_of_ble_eq_true rfl) (by decide) (by decide) (by decide) (by decide) (fun E h hx => ?_) (fun x1 h hw => ?_)
  · skip
    by_cases e0 : E = "java/lang/IndexOutOfBoundsException"
    · subst e0
      have hw := hx.1 rfl
      refine v_catch (hh := [(0, 10, 13, 13), (0, 10, 17, 46)]) (name := "java/lang/IndexOutOfBoundsException") C htab [] ⟨0, 10, 13, 13⟩ [⟨0, 10, 17, 46⟩] rfl (fun _ h => nomatch h) (by decide) (by decide) (tb3 (List.mem_of_getElem? (i := 89) rfl)) (tb3 (List.mem_of_getElem? (i := 103) rfl)) 13 rfl (fun q => ?_)
      refine v_sub [] rfl ?_
      exact s_L_about_13 C hr htab  q h (hw q)
    have hx := hx.2 e0
    by_cases e1 : E = "java/util/NoSuchElementException"
    · subst e1
      have hw := hx.1 rfl
      refine v_catch (hh := [(0, 10, 13, 13), (0, 10, 17, 46)]) (name := "java/util/NoSuchElementException") C htab [⟨0, 10, 13, 13⟩] ⟨0, 10, 17, 46⟩ [] rfl (List.forall_mem_cons.mpr ⟨⟨by decide, "java/lang/IndexOutOfBoundsException", (tb3 (List.mem_of_getElem? (i := 89) rfl)), List.mem_of_getElem? (i := 9) rfl⟩, fun _ h => nomatch h⟩) (by decide) (by decide) (tb5 (List.mem_of_getElem? (i := 23) rfl)) (tb5 (List.mem_of_getElem? (i := 47) rfl)) 17 rfl (fun q => ?_)
      refine v_sub [] rfl ?_
      exact s_L_about_17 C hr htab  q h (hw q)
    have hx := hx.2 e1
    exact hx.elim
  · skip
    refine v_i2l C dL_about_8 ?_
    refine w_lastore C dL_about_9 hw (fun h hw => ?_)
    refine v_goto (tgt := 21) C dL_about_10 (by decide) ?_
    refine v_iconst (v := 0) C dL_about_21 (by decide) ?_
    exact (rt_VX C _ _).1 _ _ _ _ _ _ hr dL_about_22 (by decide) (by decide) ⟨_, rfl, hw⟩
-- GrassFieldLaw.could(LGrassField;IZ[J)I
theorem dL_could_0 : decode cL_could 0 = .ok (.aload_n 3, 1) := by decide +kernel
theorem dL_could_1 : decode cL_could 1 = .ok (.iconst 0, 1) := by decide +kernel
theorem dL_could_2 : decode cL_could 2 = .ok (.aload_n 0, 1) := by decide +kernel
theorem dL_could_3 : decode cL_could 3 = .ok (.iload_n 1, 1) := by decide +kernel
theorem dL_could_4 : decode cL_could 4 = .ok (.iload_n 2, 1) := by decide +kernel
theorem dL_could_5 : decode cL_could 5 = .ok (.invokevirtual 103, 3) := by decide +kernel
theorem dL_could_8 : decode cL_could 8 = .ok (.ifCond .eq 7, 3) := by decide +kernel
theorem dL_could_11 : decode cL_could 11 = .ok (.lconst 1, 1) := by decide +kernel
theorem dL_could_12 : decode cL_could 12 = .ok (.goto 4, 3) := by decide +kernel
theorem dL_could_15 : decode cL_could 15 = .ok (.lconst 0, 1) := by decide +kernel
theorem dL_could_16 : decode cL_could 16 = .ok (.lastore, 1) := by decide +kernel
theorem dL_could_17 : decode cL_could 17 = .ok (.goto 7, 3) := by decide +kernel
theorem dL_could_20 : decode cL_could 20 = .ok (.astore 4, 2) := by decide +kernel
theorem dL_could_22 : decode cL_could 22 = .ok (.iconst 1, 1) := by decide +kernel
theorem dL_could_23 : decode cL_could 23 = .ok (.ireturn, 1) := by decide +kernel
theorem dL_could_24 : decode cL_could 24 = .ok (.iconst 0, 1) := by decide +kernel
theorem dL_could_25 : decode cL_could 25 = .ok (.ireturn, 1) := by decide +kernel
def w_L_could_20  (t0 : Nat) (h : AH) (Q : Int32 → AH → Prop) : Prop :=
  Q (1 : Int32) h
def w_L_could_16  (t0 : Nat) (t1 : Int32) (t2 : Int64) (h : AH) (Q : Int32 → AH → Prop) : Prop :=
  tJ h t0 t1 t2 fun h =>
  Q (0 : Int32) h
def w_L_could  (v0 : Nat) (v1 : Int32) (v2 : Int32) (v3 : Nat) (h : AH) (Q : Int32 → AH → Prop) : Prop :=
  vr h v0 11 (
  w_X11_could v0 v1 v2 h (fun x1 h =>
    br (x1 = 0) (
      w_L_could_16 v3 (0 : Int32) ((0 : Int64)) h Q) (
      w_L_could_16 v3 (0 : Int32) ((1 : Int64)) h Q)) (fun E h => br (E = "java/lang/IndexOutOfBoundsException") (∀ q, w_L_could_20  q h Q) (False)))
set_option maxRecDepth 100000 in
set_option maxHeartbeats 4000000 in
theorem s_L_could_20 {p : Program} {l : Launch} {e : Env} {s : State} {m : MethodId} {args : Array Value} {below : List Frame} {meth : Method} {c : Code} {g : GG}  {Q : Int32 → AH → Prop}  (C : CXT p l s m args meth c RL cL_could 5 g) (hr : meth.sig.returnType = (some .int)) (htab : c.exceptionTable.toList = tableOf [(0, 17, 20, 13)])  : ∀ (t0 : Nat) (h : AH), w_L_could_20  t0 h Q → V p l e s m args below meth c g 8 1 6 5 1 6 (vx_MQ below (QCx g (QI Q)) (XCx g noX) args s 1 6 (gA g)) 20 [] [.ref t0] h := by
  intro t0 h hw
  refine v_astore (ls' := [(4, .ref t0)]) C dL_could_20 (by decide) rfl ?_
  refine v_iconst (v := 1) C dL_could_22 (by decide) ?_
  exact (rt_VX C _ _).1 _ _ _ _ _ _ hr dL_could_23 (by decide) (by decide) ⟨_, rfl, hw⟩
set_option maxRecDepth 100000 in
set_option maxHeartbeats 4000000 in
theorem s_L_could_16 {p : Program} {l : Launch} {e : Env} {s : State} {m : MethodId} {args : Array Value} {below : List Frame} {meth : Method} {c : Code} {g : GG}  {Q : Int32 → AH → Prop}  (C : CXT p l s m args meth c RL cL_could 5 g) (hr : meth.sig.returnType = (some .int)) (htab : c.exceptionTable.toList = tableOf [(0, 17, 20, 13)])  : ∀ (t0 : Nat) (t1 : Int32) (t2 : Int64) (h : AH), w_L_could_16  t0 t1 t2 h Q → V p l e s m args below meth c g 8 1 6 5 1 6 (vx_MQ below (QCx g (QI Q)) (XCx g noX) args s 1 6 (gA g)) 16 [] [.long t2, .int t1, .ref t0] h := by
  intro t0 t1 t2 h hw
  refine w_lastore C dL_could_16 hw (fun h hw => ?_)
  refine v_goto (tgt := 24) C dL_could_17 (by decide) ?_
  refine v_iconst (v := 0) C dL_could_24 (by decide) ?_
  exact (rt_VX C _ _).1 _ _ _ _ _ _ hr dL_could_25 (by decide) (by decide) ⟨_, rfl, hw⟩
set_option maxRecDepth 100000 in
set_option maxHeartbeats 4000000 in
theorem s_L_could {l : Launch}  {v0 : Nat} {v1 : Int32} {v2 : Int32} {v3 : Nat} {h : AH} {Q : Int32 → AH → Prop}  (hw : w_L_could  v0 v1 v2 v3 h Q) : CH l yL_could cL_could 5 (some .int) [(0, 17, 20, 13)] 8 1 6 [.ref v0, .int v1, .int v2, .ref v3] h (QI Q) := by
  refine CH.of (by decide) ⟨rfl, ⟨rfl, ⟨rfl, ⟨rfl, trivial⟩⟩⟩⟩ (Nat.le_of_ble_eq_true rfl) ?_
  intro p e s m args below meth c g C hr htab
  refine v_eq (pc' := 0) (ls' := [(0, .ref v0), (1, .int v1), (2, .int v2), (3, .ref v3)]) rfl rfl rfl rfl ?_
  refine v_aload_n C dL_could_0 3 rfl rfl ?_
  refine v_iconst (v := 0) C dL_could_1 (by decide) ?_
  refine v_aload_n C dL_could_2 0 rfl rfl ?_
  refine v_iload_n C dL_could_3 1 rfl rfl ?_
  refine v_iload_n C dL_could_4 2 rfl rfl ?_
  refine w_callXVi (st := [.int (0 : Int32), .ref v3]) C cl_L_103 lk_L_103 im_X11_could se_X11_could rfl hw.1 (s_X11_could hw.2) rfl dL_could_5 rfl (Nat.le_of_ble_eq_true rfl) (by decide) (by decide) (by decide) (by decide) (fun E h hx => ?_) (fun x1 h hw => ?_)
  · skip
    by_cases e0 : E = "java/lang/IndexOutOfBoundsException"
    · subst e0
      have hw := hx.1 rfl
      refine v_catch (hh := [(0, 17, 20, 13)]) (name := "java/lang/IndexOutOfBoundsException") C htab [] ⟨0, 17, 20, 13⟩ [] rfl (fun _ h => nomatch h) (by decide) (by decide) (tb3 (List.mem_of_getElem? (i := 89) rfl)) (tb3 (List.mem_of_getElem? (i := 103) rfl)) 20 rfl (fun q => ?_)
      refine v_sub [] rfl ?_
      exact s_L_could_20 C hr htab  q h (hw q)
    have hx := hx.2 e0
    exact hx.elim
  · skip
    refine v_if_eq (tgt := 15) C dL_could_8 (by decide) (fun c_8 => ?_) (fun c_8 => ?_)
    · have hw := hw.1 c_8
      refine v_lconst (v := 0) C dL_could_15 (by decide) ?_
      refine v_sub [] rfl ?_
      exact s_L_could_16 C hr htab  _ _ _ _ hw
    · have hw := hw.2 c_8
      refine v_lconst (v := 1) C dL_could_11 (by decide) ?_
      refine v_goto (tgt := 16) C dL_could_12 (by decide) ?_
      refine v_sub [] rfl ?_
      exact s_L_could_16 C hr htab  _ _ _ _ hw
-- GrassFieldLaw.day(LGrassField;I)I
theorem dL_day_0 : decode cL_day 0 = .ok (.aload_n 0, 1) := by decide +kernel
theorem dL_day_1 : decode cL_day 1 = .ok (.iload_n 1, 1) := by decide +kernel
theorem dL_day_2 : decode cL_day 2 = .ok (.invokevirtual 31, 3) := by decide +kernel
theorem dL_day_5 : decode cL_day 5 = .ok (.goto 6, 3) := by decide +kernel
theorem dL_day_8 : decode cL_day 8 = .ok (.astore_n 2, 1) := by decide +kernel
theorem dL_day_9 : decode cL_day 9 = .ok (.iconst 1, 1) := by decide +kernel
theorem dL_day_10 : decode cL_day 10 = .ok (.ireturn, 1) := by decide +kernel
theorem dL_day_11 : decode cL_day 11 = .ok (.iconst 0, 1) := by decide +kernel
theorem dL_day_12 : decode cL_day 12 = .ok (.ireturn, 1) := by decide +kernel
def w_L_day_8  (t0 : Nat) (h : AH) (Q : Int32 → AH → Prop) : Prop :=
  Q (1 : Int32) h
def w_L_day  (v0 : Nat) (v1 : Int32) (h : AH) (Q : Int32 → AH → Prop) : Prop :=
  vr h v0 11 (
  w_X11_day v0 v1 h (fun h =>
    Q (0 : Int32) h) (fun E h => br (E = "java/lang/IllegalArgumentException") (∀ q, w_L_day_8  q h Q) (False)))
set_option maxRecDepth 100000 in
set_option maxHeartbeats 4000000 in
theorem s_L_day_8 {p : Program} {l : Launch} {e : Env} {s : State} {m : MethodId} {args : Array Value} {below : List Frame} {meth : Method} {c : Code} {g : GG}  {Q : Int32 → AH → Prop}  (C : CXT p l s m args meth c RL cL_day 3 g) (hr : meth.sig.returnType = (some .int)) (htab : c.exceptionTable.toList = tableOf [(0, 5, 8, 15)])  : ∀ (t0 : Nat) (h : AH), w_L_day_8  t0 h Q → V p l e s m args below meth c g 8 1 6 3 1 6 (vx_MQ below (QCx g (QI Q)) (XCx g noX) args s 1 6 (gA g)) 8 [] [.ref t0] h := by
  intro t0 h hw
  refine v_astore_n (ls' := [(2, .ref t0)]) C dL_day_8 rfl (by decide) rfl ?_
  refine v_iconst (v := 1) C dL_day_9 (by decide) ?_
  exact (rt_VX C _ _).1 _ _ _ _ _ _ hr dL_day_10 (by decide) (by decide) ⟨_, rfl, hw⟩
set_option maxRecDepth 100000 in
set_option maxHeartbeats 4000000 in
theorem s_L_day {l : Launch}  {v0 : Nat} {v1 : Int32} {h : AH} {Q : Int32 → AH → Prop}  (hw : w_L_day  v0 v1 h Q) : CH l yL_day cL_day 3 (some .int) [(0, 5, 8, 15)] 8 1 6 [.ref v0, .int v1] h (QI Q) := by
  refine CH.of (by decide) ⟨rfl, ⟨rfl, trivial⟩⟩ (Nat.le_of_ble_eq_true rfl) ?_
  intro p e s m args below meth c g C hr htab
  refine v_eq (pc' := 0) (ls' := [(0, .ref v0), (1, .int v1)]) rfl rfl rfl rfl ?_
  refine v_aload_n C dL_day_0 0 rfl rfl ?_
  refine v_iload_n C dL_day_1 1 rfl rfl ?_
  refine w_callXVv (st := []) C cl_L_31 lk_L_31 im_X11_day se_X11_day rfl hw.1 (s_X11_day hw.2) rfl dL_day_2 rfl (by decide) (by decide) (by decide) (by decide) (by decide) (fun E h hx => ?_) (fun h hw => ?_)
  · skip
    by_cases e0 : E = "java/lang/IllegalArgumentException"
    · subst e0
      have hw := hx.1 rfl
      refine v_catch (hh := [(0, 5, 8, 15)]) (name := "java/lang/IllegalArgumentException") C htab [] ⟨0, 5, 8, 15⟩ [] rfl (fun _ h => nomatch h) (by decide) (by decide) (tb3 (List.mem_of_getElem? (i := 90) rfl)) (tb3 (List.mem_of_getElem? (i := 178) rfl)) 8 rfl (fun q => ?_)
      refine v_sub [] rfl ?_
      exact s_L_day_8 C hr htab  q h (hw q)
    have hx := hx.2 e0
    exact hx.elim
  · skip
    refine v_goto (tgt := 11) C dL_day_5 (by decide) ?_
    refine v_iconst (v := 0) C dL_day_11 (by decide) ?_
    exact (rt_VX C _ _).1 _ _ _ _ _ _ hr dL_day_12 (by decide) (by decide) ⟨_, rfl, hw⟩
-- GrassFieldLaw.found(LGrassField;III[J)I
theorem dL_found_0 : decode cL_found 0 = .ok (.aload 4, 2) := by decide +kernel
theorem dL_found_2 : decode cL_found 2 = .ok (.iconst 0, 1) := by decide +kernel
theorem dL_found_3 : decode cL_found 3 = .ok (.aload_n 0, 1) := by decide +kernel
theorem dL_found_4 : decode cL_found 4 = .ok (.iload_n 1, 1) := by decide +kernel
theorem dL_found_5 : decode cL_found 5 = .ok (.iload_n 2, 1) := by decide +kernel
theorem dL_found_6 : decode cL_found 6 = .ok (.iload_n 3, 1) := by decide +kernel
theorem dL_found_7 : decode cL_found 7 = .ok (.invokevirtual 51, 3) := by decide +kernel
theorem dL_found_10 : decode cL_found 10 = .ok (.i2l, 1) := by decide +kernel
theorem dL_found_11 : decode cL_found 11 = .ok (.lastore, 1) := by decide +kernel
theorem dL_found_12 : decode cL_found 12 = .ok (.goto 15, 3) := by decide +kernel
theorem dL_found_15 : decode cL_found 15 = .ok (.astore 5, 2) := by decide +kernel
theorem dL_found_17 : decode cL_found 17 = .ok (.iconst 1, 1) := by decide +kernel
theorem dL_found_18 : decode cL_found 18 = .ok (.ireturn, 1) := by decide +kernel
theorem dL_found_19 : decode cL_found 19 = .ok (.astore 5, 2) := by decide +kernel
theorem dL_found_21 : decode cL_found 21 = .ok (.iconst 2, 1) := by decide +kernel
theorem dL_found_22 : decode cL_found 22 = .ok (.ireturn, 1) := by decide +kernel
theorem dL_found_23 : decode cL_found 23 = .ok (.astore 5, 2) := by decide +kernel
theorem dL_found_25 : decode cL_found 25 = .ok (.iconst 3, 1) := by decide +kernel
theorem dL_found_26 : decode cL_found 26 = .ok (.ireturn, 1) := by decide +kernel
theorem dL_found_27 : decode cL_found 27 = .ok (.iconst 0, 1) := by decide +kernel
theorem dL_found_28 : decode cL_found 28 = .ok (.ireturn, 1) := by decide +kernel
def w_L_found_23  (t0 : Nat) (h : AH) (Q : Int32 → AH → Prop) : Prop :=
  Q (3 : Int32) h
def w_L_found_19  (t0 : Nat) (h : AH) (Q : Int32 → AH → Prop) : Prop :=
  Q (2 : Int32) h
def w_L_found_15  (t0 : Nat) (h : AH) (Q : Int32 → AH → Prop) : Prop :=
  Q (1 : Int32) h
def w_L_found  (v0 : Nat) (v1 : Int32) (v2 : Int32) (v3 : Int32) (v4 : Nat) (h : AH) (Q : Int32 → AH → Prop) : Prop :=
  vr h v0 11 (
  w_X11_found v0 v1 v2 v3 h (fun x1 h =>
    tJ h v4 (0 : Int32) x1.toInt64 fun h =>
    Q (0 : Int32) h) (fun E h => br (E = "java/lang/IndexOutOfBoundsException") (∀ q, w_L_found_15  q h Q) (br (E = "java/lang/IllegalArgumentException") (∀ q, w_L_found_19  q h Q) (br (E = "java/lang/UnsupportedOperationException") (∀ q, w_L_found_23  q h Q) (False)))))
set_option maxRecDepth 100000 in
set_option maxHeartbeats 4000000 in
theorem s_L_found_23 {p : Program} {l : Launch} {e : Env} {s : State} {m : MethodId} {args : Array Value} {below : List Frame} {meth : Method} {c : Code} {g : GG}  {Q : Int32 → AH → Prop}  (C : CXT p l s m args meth c RL cL_found 6 g) (hr : meth.sig.returnType = (some .int)) (htab : c.exceptionTable.toList = tableOf [(0, 12, 15, 13), (0, 12, 19, 15), (0, 12, 23, 29)])  : ∀ (t0 : Nat) (h : AH), w_L_found_23  t0 h Q → V p l e s m args below meth c g 9 3 18 6 3 18 (vx_MQ below (QCx g (QI Q)) (XCx g noX) args s 3 18 (gA g)) 23 [] [.ref t0] h := by
  intro t0 h hw
  refine v_astore (ls' := [(5, .ref t0)]) C dL_found_23 (by decide) rfl ?_
  refine v_iconst (v := 3) C dL_found_25 (by decide) ?_
  exact (rt_VX C _ _).1 _ _ _ _ _ _ hr dL_found_26 (by decide) (by decide) ⟨_, rfl, hw⟩
set_option maxRecDepth 100000 in
set_option maxHeartbeats 4000000 in
theorem s_L_found_19 {p : Program} {l : Launch} {e : Env} {s : State} {m : MethodId} {args : Array Value} {below : List Frame} {meth : Method} {c : Code} {g : GG}  {Q : Int32 → AH → Prop}  (C : CXT p l s m args meth c RL cL_found 6 g) (hr : meth.sig.returnType = (some .int)) (htab : c.exceptionTable.toList = tableOf [(0, 12, 15, 13), (0, 12, 19, 15), (0, 12, 23, 29)])  : ∀ (t0 : Nat) (h : AH), w_L_found_19  t0 h Q → V p l e s m args below meth c g 9 3 18 6 3 18 (vx_MQ below (QCx g (QI Q)) (XCx g noX) args s 3 18 (gA g)) 19 [] [.ref t0] h := by
  intro t0 h hw
  refine v_astore (ls' := [(5, .ref t0)]) C dL_found_19 (by decide) rfl ?_
  refine v_iconst (v := 2) C dL_found_21 (by decide) ?_
  exact (rt_VX C _ _).1 _ _ _ _ _ _ hr dL_found_22 (by decide) (by decide) ⟨_, rfl, hw⟩
set_option maxRecDepth 100000 in
set_option maxHeartbeats 4000000 in
theorem s_L_found_15 {p : Program} {l : Launch} {e : Env} {s : State} {m : MethodId} {args : Array Value} {below : List Frame} {meth : Method} {c : Code} {g : GG}  {Q : Int32 → AH → Prop}  (C : CXT p l s m args meth c RL cL_found 6 g) (hr : meth.sig.returnType = (some .int)) (htab : c.exceptionTable.toList = tableOf [(0, 12, 15, 13), (0, 12, 19, 15), (0, 12, 23, 29)])  : ∀ (t0 : Nat) (h : AH), w_L_found_15  t0 h Q → V p l e s m args below meth c g 9 3 18 6 3 18 (vx_MQ below (QCx g (QI Q)) (XCx g noX) args s 3 18 (gA g)) 15 [] [.ref t0] h := by
  intro t0 h hw
  refine v_astore (ls' := [(5, .ref t0)]) C dL_found_15 (by decide) rfl ?_
  refine v_iconst (v := 1) C dL_found_17 (by decide) ?_
  exact (rt_VX C _ _).1 _ _ _ _ _ _ hr dL_found_18 (by decide) (by decide) ⟨_, rfl, hw⟩
set_option maxRecDepth 100000 in
set_option maxHeartbeats 4000000 in
theorem s_L_found {l : Launch}  {v0 : Nat} {v1 : Int32} {v2 : Int32} {v3 : Int32} {v4 : Nat} {h : AH} {Q : Int32 → AH → Prop}  (hw : w_L_found  v0 v1 v2 v3 v4 h Q) : CH l yL_found cL_found 6 (some .int) [(0, 12, 15, 13), (0, 12, 19, 15), (0, 12, 23, 29)] 9 3 18 [.ref v0, .int v1, .int v2, .int v3, .ref v4] h (QI Q) := by
  refine CH.of (by decide) ⟨rfl, ⟨rfl, ⟨rfl, ⟨rfl, ⟨rfl, trivial⟩⟩⟩⟩⟩ (Nat.le_of_ble_eq_true rfl) ?_
  intro p e s m args below meth c g C hr htab
  refine v_eq (pc' := 0) (ls' := [(0, .ref v0), (1, .int v1), (2, .int v2), (3, .int v3), (4, .ref v4)]) rfl rfl rfl rfl ?_
  refine v_aload C dL_found_0 4 rfl ?_
  refine v_iconst (v := 0) C dL_found_2 (by decide) ?_
  refine v_aload_n C dL_found_3 0 rfl rfl ?_
  refine v_iload_n C dL_found_4 1 rfl rfl ?_
  refine v_iload_n C dL_found_5 2 rfl rfl ?_
  refine v_iload_n C dL_found_6 3 rfl rfl ?_
  refine w_callXVi (st := [.int (0 : Int32), .ref v4]) C cl_L_51 lk_L_51 im_X11_found se_X11_found rfl hw.1 (s_X11_found hw.2) rfl dL_found_7 rfl (Nat.le_of_ble_eq_true rfl) (by decide) (by decide) (by decide) (by decide) (fun E h hx => ?_) (fun x1 h hw => ?_)
  · skip
    by_cases e0 : E = "java/lang/IndexOutOfBoundsException"
    · subst e0
      have hw := hx.1 rfl
      refine v_catch (hh := [(0, 12, 15, 13), (0, 12, 19, 15), (0, 12, 23, 29)]) (name := "java/lang/IndexOutOfBoundsException") C htab [] ⟨0, 12, 15, 13⟩ [⟨0, 12, 19, 15⟩, ⟨0, 12, 23, 29⟩] rfl (fun _ h => nomatch h) (by decide) (by decide) (tb3 (List.mem_of_getElem? (i := 89) rfl)) (tb3 (List.mem_of_getElem? (i := 103) rfl)) 15 rfl (fun q => ?_)
      refine v_sub [] rfl ?_
      exact s_L_found_15 C hr htab  q h (hw q)
    have hx := hx.2 e0
    by_cases e1 : E = "java/lang/IllegalArgumentException"
    · subst e1
      have hw := hx.1 rfl
      refine v_catch (hh := [(0, 12, 15, 13), (0, 12, 19, 15), (0, 12, 23, 29)]) (name := "java/lang/IllegalArgumentException") C htab [⟨0, 12, 15, 13⟩] ⟨0, 12, 19, 15⟩ [⟨0, 12, 23, 29⟩] rfl (List.forall_mem_cons.mpr ⟨⟨by decide, "java/lang/IndexOutOfBoundsException", (tb3 (List.mem_of_getElem? (i := 89) rfl)), List.mem_of_getElem? (i := 3) rfl⟩, fun _ h => nomatch h⟩) (by decide) (by decide) (tb3 (List.mem_of_getElem? (i := 90) rfl)) (tb3 (List.mem_of_getElem? (i := 178) rfl)) 19 rfl (fun q => ?_)
      refine v_sub [] rfl ?_
      exact s_L_found_19 C hr htab  q h (hw q)
    have hx := hx.2 e1
    by_cases e2 : E = "java/lang/UnsupportedOperationException"
    · subst e2
      have hw := hx.1 rfl
      refine v_catch (hh := [(0, 12, 15, 13), (0, 12, 19, 15), (0, 12, 23, 29)]) (name := "java/lang/UnsupportedOperationException") C htab [⟨0, 12, 15, 13⟩, ⟨0, 12, 19, 15⟩] ⟨0, 12, 23, 29⟩ [] rfl (List.forall_mem_cons.mpr ⟨⟨by decide, "java/lang/IndexOutOfBoundsException", (tb3 (List.mem_of_getElem? (i := 89) rfl)), List.mem_of_getElem? (i := 6) rfl⟩, List.forall_mem_cons.mpr ⟨⟨by decide, "java/lang/IllegalArgumentException", (tb3 (List.mem_of_getElem? (i := 90) rfl)), List.mem_of_getElem? (i := 7) rfl⟩, fun _ h => nomatch h⟩⟩) (by decide) (by decide) (tb3 (List.mem_of_getElem? (i := 223) rfl)) (tb3 (List.mem_of_getElem? (i := 236) rfl)) 23 rfl (fun q => ?_)
      refine v_sub [] rfl ?_
      exact s_L_found_23 C hr htab  q h (hw q)
    have hx := hx.2 e2
    exact hx.elim
  · skip
    refine v_i2l C dL_found_10 ?_
    refine w_lastore C dL_found_11 hw (fun h hw => ?_)
    refine v_goto (tgt := 27) C dL_found_12 (by decide) ?_
    refine v_iconst (v := 0) C dL_found_27 (by decide) ?_
    exact (rt_VX C _ _).1 _ _ _ _ _ _ hr dL_found_28 (by decide) (by decide) ⟨_, rfl, hw⟩
-- GrassFieldLaw.ground(LGrassField;III)I
theorem dL_ground_0 : decode cL_ground 0 = .ok (.aload_n 0, 1) := by decide +kernel
theorem dL_ground_1 : decode cL_ground 1 = .ok (.iload_n 1, 1) := by decide +kernel
theorem dL_ground_2 : decode cL_ground 2 = .ok (.iload_n 2, 1) := by decide +kernel
theorem dL_ground_3 : decode cL_ground 3 = .ok (.iload_n 3, 1) := by decide +kernel
theorem dL_ground_4 : decode cL_ground 4 = .ok (.invokevirtual 7, 3) := by decide +kernel
theorem dL_ground_7 : decode cL_ground 7 = .ok (.goto 11, 3) := by decide +kernel
theorem dL_ground_10 : decode cL_ground 10 = .ok (.astore 4, 2) := by decide +kernel
theorem dL_ground_12 : decode cL_ground 12 = .ok (.iconst 1, 1) := by decide +kernel
theorem dL_ground_13 : decode cL_ground 13 = .ok (.ireturn, 1) := by decide +kernel
theorem dL_ground_14 : decode cL_ground 14 = .ok (.astore 4, 2) := by decide +kernel
theorem dL_ground_16 : decode cL_ground 16 = .ok (.iconst 2, 1) := by decide +kernel
theorem dL_ground_17 : decode cL_ground 17 = .ok (.ireturn, 1) := by decide +kernel
theorem dL_ground_18 : decode cL_ground 18 = .ok (.iconst 0, 1) := by decide +kernel
theorem dL_ground_19 : decode cL_ground 19 = .ok (.ireturn, 1) := by decide +kernel
def w_L_ground_14  (t0 : Nat) (h : AH) (Q : Int32 → AH → Prop) : Prop :=
  Q (2 : Int32) h
def w_L_ground_10  (t0 : Nat) (h : AH) (Q : Int32 → AH → Prop) : Prop :=
  Q (1 : Int32) h
def w_L_ground  (v0 : Nat) (v1 : Int32) (v2 : Int32) (v3 : Int32) (h : AH) (Q : Int32 → AH → Prop) : Prop :=
  vr h v0 11 (
  w_X11_ground v0 v1 v2 v3 h (fun h =>
    Q (0 : Int32) h) (fun E h => br (E = "java/lang/IndexOutOfBoundsException") (∀ q, w_L_ground_10  q h Q) (br (E = "java/lang/IllegalArgumentException") (∀ q, w_L_ground_14  q h Q) (False))))
set_option maxRecDepth 100000 in
set_option maxHeartbeats 4000000 in
theorem s_L_ground_14 {p : Program} {l : Launch} {e : Env} {s : State} {m : MethodId} {args : Array Value} {below : List Frame} {meth : Method} {c : Code} {g : GG}  {Q : Int32 → AH → Prop}  (C : CXT p l s m args meth c RL cL_ground 5 g) (hr : meth.sig.returnType = (some .int)) (htab : c.exceptionTable.toList = tableOf [(0, 7, 10, 13), (0, 7, 14, 15)])  : ∀ (t0 : Nat) (h : AH), w_L_ground_14  t0 h Q → V p l e s m args below meth c g 9 3 18 5 3 18 (vx_MQ below (QCx g (QI Q)) (XCx g noX) args s 3 18 (gA g)) 14 [] [.ref t0] h := by
  intro t0 h hw
  refine v_astore (ls' := [(4, .ref t0)]) C dL_ground_14 (by decide) rfl ?_
  refine v_iconst (v := 2) C dL_ground_16 (by decide) ?_
  exact (rt_VX C _ _).1 _ _ _ _ _ _ hr dL_ground_17 (by decide) (by decide) ⟨_, rfl, hw⟩
set_option maxRecDepth 100000 in
set_option maxHeartbeats 4000000 in
theorem s_L_ground_10 {p : Program} {l : Launch} {e : Env} {s : State} {m : MethodId} {args : Array Value} {below : List Frame} {meth : Method} {c : Code} {g : GG}  {Q : Int32 → AH → Prop}  (C : CXT p l s m args meth c RL cL_ground 5 g) (hr : meth.sig.returnType = (some .int)) (htab : c.exceptionTable.toList = tableOf [(0, 7, 10, 13), (0, 7, 14, 15)])  : ∀ (t0 : Nat) (h : AH), w_L_ground_10  t0 h Q → V p l e s m args below meth c g 9 3 18 5 3 18 (vx_MQ below (QCx g (QI Q)) (XCx g noX) args s 3 18 (gA g)) 10 [] [.ref t0] h := by
  intro t0 h hw
  refine v_astore (ls' := [(4, .ref t0)]) C dL_ground_10 (by decide) rfl ?_
  refine v_iconst (v := 1) C dL_ground_12 (by decide) ?_
  exact (rt_VX C _ _).1 _ _ _ _ _ _ hr dL_ground_13 (by decide) (by decide) ⟨_, rfl, hw⟩
set_option maxRecDepth 100000 in
set_option maxHeartbeats 4000000 in
theorem s_L_ground {l : Launch}  {v0 : Nat} {v1 : Int32} {v2 : Int32} {v3 : Int32} {h : AH} {Q : Int32 → AH → Prop}  (hw : w_L_ground  v0 v1 v2 v3 h Q) : CH l yL_ground cL_ground 5 (some .int) [(0, 7, 10, 13), (0, 7, 14, 15)] 9 3 18 [.ref v0, .int v1, .int v2, .int v3] h (QI Q) := by
  refine CH.of (by decide) ⟨rfl, ⟨rfl, ⟨rfl, ⟨rfl, trivial⟩⟩⟩⟩ (Nat.le_of_ble_eq_true rfl) ?_
  intro p e s m args below meth c g C hr htab
  refine v_eq (pc' := 0) (ls' := [(0, .ref v0), (1, .int v1), (2, .int v2), (3, .int v3)]) rfl rfl rfl rfl ?_
  refine v_aload_n C dL_ground_0 0 rfl rfl ?_
  refine v_iload_n C dL_ground_1 1 rfl rfl ?_
  refine v_iload_n C dL_ground_2 2 rfl rfl ?_
  refine v_iload_n C dL_ground_3 3 rfl rfl ?_
  refine w_callXVv (st := []) C cl_L_7 lk_L_7 im_X11_ground se_X11_ground rfl hw.1 (s_X11_ground hw.2) rfl dL_ground_4 rfl (by decide) (by decide) (by decide) (by decide) (by decide) (fun E h hx => ?_) (fun h hw => ?_)
  · skip
    by_cases e0 : E = "java/lang/IndexOutOfBoundsException"
    · subst e0
      have hw := hx.1 rfl
      refine v_catch (hh := [(0, 7, 10, 13), (0, 7, 14, 15)]) (name := "java/lang/IndexOutOfBoundsException") C htab [] ⟨0, 7, 10, 13⟩ [⟨0, 7, 14, 15⟩] rfl (fun _ h => nomatch h) (by decide) (by decide) (tb3 (List.mem_of_getElem? (i := 89) rfl)) (tb3 (List.mem_of_getElem? (i := 103) rfl)) 10 rfl (fun q => ?_)
      refine v_sub [] rfl ?_
      exact s_L_ground_10 C hr htab  q h (hw q)
    have hx := hx.2 e0
    by_cases e1 : E = "java/lang/IllegalArgumentException"
    · subst e1
      have hw := hx.1 rfl
      refine v_catch (hh := [(0, 7, 10, 13), (0, 7, 14, 15)]) (name := "java/lang/IllegalArgumentException") C htab [⟨0, 7, 10, 13⟩] ⟨0, 7, 14, 15⟩ [] rfl (List.forall_mem_cons.mpr ⟨⟨by decide, "java/lang/IndexOutOfBoundsException", (tb3 (List.mem_of_getElem? (i := 89) rfl)), List.mem_of_getElem? (i := 3) rfl⟩, fun _ h => nomatch h⟩) (by decide) (by decide) (tb3 (List.mem_of_getElem? (i := 90) rfl)) (tb3 (List.mem_of_getElem? (i := 178) rfl)) 14 rfl (fun q => ?_)
      refine v_sub [] rfl ?_
      exact s_L_ground_14 C hr htab  q h (hw q)
    have hx := hx.2 e1
    exact hx.elim
  · skip
    refine v_goto (tgt := 18) C dL_ground_7 (by decide) ?_
    refine v_iconst (v := 0) C dL_ground_18 (by decide) ?_
    exact (rt_VX C _ _).1 _ _ _ _ _ _ hr dL_ground_19 (by decide) (by decide) ⟨_, rfl, hw⟩
-- GrassFieldLaw.gun(LGrassField;IIII[J)I
theorem dL_gun_0 : decode cL_gun 0 = .ok (.aload 5, 2) := by decide +kernel
theorem dL_gun_2 : decode cL_gun 2 = .ok (.iconst 0, 1) := by decide +kernel
theorem dL_gun_3 : decode cL_gun 3 = .ok (.aload_n 0, 1) := by decide +kernel
theorem dL_gun_4 : decode cL_gun 4 = .ok (.iload_n 1, 1) := by decide +kernel
theorem dL_gun_5 : decode cL_gun 5 = .ok (.iload_n 2, 1) := by decide +kernel
theorem dL_gun_6 : decode cL_gun 6 = .ok (.iload_n 3, 1) := by decide +kernel
theorem dL_gun_7 : decode cL_gun 7 = .ok (.iload 4, 2) := by decide +kernel
theorem dL_gun_9 : decode cL_gun 9 = .ok (.invokevirtual 25, 3) := by decide +kernel
theorem dL_gun_12 : decode cL_gun 12 = .ok (.i2l, 1) := by decide +kernel
theorem dL_gun_13 : decode cL_gun 13 = .ok (.lastore, 1) := by decide +kernel
theorem dL_gun_14 : decode cL_gun 14 = .ok (.goto 11, 3) := by decide +kernel
theorem dL_gun_17 : decode cL_gun 17 = .ok (.astore 6, 2) := by decide +kernel
theorem dL_gun_19 : decode cL_gun 19 = .ok (.iconst 1, 1) := by decide +kernel
theorem dL_gun_20 : decode cL_gun 20 = .ok (.ireturn, 1) := by decide +kernel
theorem dL_gun_21 : decode cL_gun 21 = .ok (.astore 6, 2) := by decide +kernel
theorem dL_gun_23 : decode cL_gun 23 = .ok (.iconst 2, 1) := by decide +kernel
theorem dL_gun_24 : decode cL_gun 24 = .ok (.ireturn, 1) := by decide +kernel
theorem dL_gun_25 : decode cL_gun 25 = .ok (.iconst 0, 1) := by decide +kernel
theorem dL_gun_26 : decode cL_gun 26 = .ok (.ireturn, 1) := by decide +kernel
def w_L_gun_21  (t0 : Nat) (h : AH) (Q : Int32 → AH → Prop) : Prop :=
  Q (2 : Int32) h
def w_L_gun_17  (t0 : Nat) (h : AH) (Q : Int32 → AH → Prop) : Prop :=
  Q (1 : Int32) h
def w_L_gun  (v0 : Nat) (v1 : Int32) (v2 : Int32) (v3 : Int32) (v4 : Int32) (v5 : Nat) (h : AH) (Q : Int32 → AH → Prop) : Prop :=
  vr h v0 11 (
  w_X11_gun v0 v1 v2 v3 v4 h (fun x1 h =>
    tJ h v5 (0 : Int32) x1.toInt64 fun h =>
    Q (0 : Int32) h) (fun E h => br (E = "java/lang/IllegalArgumentException") (∀ q, w_L_gun_17  q h Q) (br (E = "java/lang/UnsupportedOperationException") (∀ q, w_L_gun_21  q h Q) (False))))
set_option maxRecDepth 100000 in
set_option maxHeartbeats 4000000 in
theorem s_L_gun_21 {p : Program} {l : Launch} {e : Env} {s : State} {m : MethodId} {args : Array Value} {below : List Frame} {meth : Method} {c : Code} {g : GG}  {Q : Int32 → AH → Prop}  (C : CXT p l s m args meth c RL cL_gun 7 g) (hr : meth.sig.returnType = (some .int)) (htab : c.exceptionTable.toList = tableOf [(0, 14, 17, 15), (0, 14, 21, 29)])  : ∀ (t0 : Nat) (h : AH), w_L_gun_21  t0 h Q → V p l e s m args below meth c g 8 2 12 7 2 12 (vx_MQ below (QCx g (QI Q)) (XCx g noX) args s 2 12 (gA g)) 21 [] [.ref t0] h := by
  intro t0 h hw
  refine v_astore (ls' := [(6, .ref t0)]) C dL_gun_21 (by decide) rfl ?_
  refine v_iconst (v := 2) C dL_gun_23 (by decide) ?_
  exact (rt_VX C _ _).1 _ _ _ _ _ _ hr dL_gun_24 (by decide) (by decide) ⟨_, rfl, hw⟩
set_option maxRecDepth 100000 in
set_option maxHeartbeats 4000000 in
theorem s_L_gun_17 {p : Program} {l : Launch} {e : Env} {s : State} {m : MethodId} {args : Array Value} {below : List Frame} {meth : Method} {c : Code} {g : GG}  {Q : Int32 → AH → Prop}  (C : CXT p l s m args meth c RL cL_gun 7 g) (hr : meth.sig.returnType = (some .int)) (htab : c.exceptionTable.toList = tableOf [(0, 14, 17, 15), (0, 14, 21, 29)])  : ∀ (t0 : Nat) (h : AH), w_L_gun_17  t0 h Q → V p l e s m args below meth c g 8 2 12 7 2 12 (vx_MQ below (QCx g (QI Q)) (XCx g noX) args s 2 12 (gA g)) 17 [] [.ref t0] h := by
  intro t0 h hw
  refine v_astore (ls' := [(6, .ref t0)]) C dL_gun_17 (by decide) rfl ?_
  refine v_iconst (v := 1) C dL_gun_19 (by decide) ?_
  exact (rt_VX C _ _).1 _ _ _ _ _ _ hr dL_gun_20 (by decide) (by decide) ⟨_, rfl, hw⟩
set_option maxRecDepth 100000 in
set_option maxHeartbeats 4000000 in
theorem s_L_gun {l : Launch}  {v0 : Nat} {v1 : Int32} {v2 : Int32} {v3 : Int32} {v4 : Int32} {v5 : Nat} {h : AH} {Q : Int32 → AH → Prop}  (hw : w_L_gun  v0 v1 v2 v3 v4 v5 h Q) : CH l yL_gun cL_gun 7 (some .int) [(0, 14, 17, 15), (0, 14, 21, 29)] 8 2 12 [.ref v0, .int v1, .int v2, .int v3, .int v4, .ref v5] h (QI Q) := by
  refine CH.of (by decide) ⟨rfl, ⟨rfl, ⟨rfl, ⟨rfl, ⟨rfl, ⟨rfl, trivial⟩⟩⟩⟩⟩⟩ (Nat.le_of_ble_eq_true rfl) ?_
  intro p e s m args below meth c g C hr htab
  refine v_eq (pc' := 0) (ls' := [(0, .ref v0), (1, .int v1), (2, .int v2), (3, .int v3), (4, .int v4), (5, .ref v5)]) rfl rfl rfl rfl ?_
  refine v_aload C dL_gun_0 5 rfl ?_
  refine v_iconst (v := 0) C dL_gun_2 (by decide) ?_
  refine v_aload_n C dL_gun_3 0 rfl rfl ?_
  refine v_iload_n C dL_gun_4 1 rfl rfl ?_
  refine v_iload_n C dL_gun_5 2 rfl rfl ?_
  refine v_iload_n C dL_gun_6 3 rfl rfl ?_
  refine v_iload C dL_gun_7 4 rfl ?_
  refine w_callXVi (st := [.int (0 : Int32), .ref v5]) C cl_L_25 lk_L_25 im_X11_gun se_X11_gun rfl hw.1 (s_X11_gun hw.2) rfl dL_gun_9 rfl (Nat.le_of_ble_eq_true rfl) (by decide) (by decide) (by decide) (by decide) (fun E h hx => ?_) (fun x1 h hw => ?_)
  · skip
    by_cases e0 : E = "java/lang/IllegalArgumentException"
    · subst e0
      have hw := hx.1 rfl
      refine v_catch (hh := [(0, 14, 17, 15), (0, 14, 21, 29)]) (name := "java/lang/IllegalArgumentException") C htab [] ⟨0, 14, 17, 15⟩ [⟨0, 14, 21, 29⟩] rfl (fun _ h => nomatch h) (by decide) (by decide) (tb3 (List.mem_of_getElem? (i := 90) rfl)) (tb3 (List.mem_of_getElem? (i := 178) rfl)) 17 rfl (fun q => ?_)
      refine v_sub [] rfl ?_
      exact s_L_gun_17 C hr htab  q h (hw q)
    have hx := hx.2 e0
    by_cases e1 : E = "java/lang/UnsupportedOperationException"
    · subst e1
      have hw := hx.1 rfl
      refine v_catch (hh := [(0, 14, 17, 15), (0, 14, 21, 29)]) (name := "java/lang/UnsupportedOperationException") C htab [⟨0, 14, 17, 15⟩] ⟨0, 14, 21, 29⟩ [] rfl (List.forall_mem_cons.mpr ⟨⟨by decide, "java/lang/IllegalArgumentException", (tb3 (List.mem_of_getElem? (i := 90) rfl)), List.mem_of_getElem? (i := 7) rfl⟩, fun _ h => nomatch h⟩) (by decide) (by decide) (tb3 (List.mem_of_getElem? (i := 223) rfl)) (tb3 (List.mem_of_getElem? (i := 236) rfl)) 21 rfl (fun q => ?_)
      refine v_sub [] rfl ?_
      exact s_L_gun_21 C hr htab  q h (hw q)
    have hx := hx.2 e1
    exact hx.elim
  · skip
    refine v_i2l C dL_gun_12 ?_
    refine w_lastore C dL_gun_13 hw (fun h hw => ?_)
    refine v_goto (tgt := 25) C dL_gun_14 (by decide) ?_
    refine v_iconst (v := 0) C dL_gun_25 (by decide) ?_
    exact (rt_VX C _ _).1 _ _ _ _ _ _ hr dL_gun_26 (by decide) (by decide) ⟨_, rfl, hw⟩
-- GrassFieldLaw.heaps(LGrassField;IZ[J)I
theorem dL_heaps_0 : decode cL_heaps 0 = .ok (.aload_n 3, 1) := by decide +kernel
theorem dL_heaps_1 : decode cL_heaps 1 = .ok (.iconst 0, 1) := by decide +kernel
theorem dL_heaps_2 : decode cL_heaps 2 = .ok (.aload_n 0, 1) := by decide +kernel
theorem dL_heaps_3 : decode cL_heaps 3 = .ok (.iload_n 1, 1) := by decide +kernel
theorem dL_heaps_4 : decode cL_heaps 4 = .ok (.iload_n 2, 1) := by decide +kernel
theorem dL_heaps_5 : decode cL_heaps 5 = .ok (.invokevirtual 87, 3) := by decide +kernel
theorem dL_heaps_8 : decode cL_heaps 8 = .ok (.i2l, 1) := by decide +kernel
theorem dL_heaps_9 : decode cL_heaps 9 = .ok (.lastore, 1) := by decide +kernel
theorem dL_heaps_10 : decode cL_heaps 10 = .ok (.goto 7, 3) := by decide +kernel
theorem dL_heaps_13 : decode cL_heaps 13 = .ok (.astore 4, 2) := by decide +kernel
theorem dL_heaps_15 : decode cL_heaps 15 = .ok (.iconst 1, 1) := by decide +kernel
theorem dL_heaps_16 : decode cL_heaps 16 = .ok (.ireturn, 1) := by decide +kernel
theorem dL_heaps_17 : decode cL_heaps 17 = .ok (.iconst 0, 1) := by decide +kernel
theorem dL_heaps_18 : decode cL_heaps 18 = .ok (.ireturn, 1) := by decide +kernel
def w_L_heaps_13  (t0 : Nat) (h : AH) (Q : Int32 → AH → Prop) : Prop :=
  Q (1 : Int32) h
def w_L_heaps  (v0 : Nat) (v1 : Int32) (v2 : Int32) (v3 : Nat) (h : AH) (Q : Int32 → AH → Prop) : Prop :=
  vr h v0 11 (
  w_X11_heaps v0 v1 v2 h (fun x1 h =>
    tJ h v3 (0 : Int32) x1.toInt64 fun h =>
    Q (0 : Int32) h) (fun E h => br (E = "java/lang/IllegalArgumentException") (∀ q, w_L_heaps_13  q h Q) (False)))
set_option maxRecDepth 100000 in
set_option maxHeartbeats 4000000 in
theorem s_L_heaps_13 {p : Program} {l : Launch} {e : Env} {s : State} {m : MethodId} {args : Array Value} {below : List Frame} {meth : Method} {c : Code} {g : GG}  {Q : Int32 → AH → Prop}  (C : CXT p l s m args meth c RL cL_heaps 5 g) (hr : meth.sig.returnType = (some .int)) (htab : c.exceptionTable.toList = tableOf [(0, 10, 13, 15)])  : ∀ (t0 : Nat) (h : AH), w_L_heaps_13  t0 h Q → V p l e s m args below meth c g 8 1 6 5 1 6 (vx_MQ below (QCx g (QI Q)) (XCx g noX) args s 1 6 (gA g)) 13 [] [.ref t0] h := by
  intro t0 h hw
  refine v_astore (ls' := [(4, .ref t0)]) C dL_heaps_13 (by decide) rfl ?_
  refine v_iconst (v := 1) C dL_heaps_15 (by decide) ?_
  exact (rt_VX C _ _).1 _ _ _ _ _ _ hr dL_heaps_16 (by decide) (by decide) ⟨_, rfl, hw⟩
set_option maxRecDepth 100000 in
set_option maxHeartbeats 4000000 in
theorem s_L_heaps {l : Launch}  {v0 : Nat} {v1 : Int32} {v2 : Int32} {v3 : Nat} {h : AH} {Q : Int32 → AH → Prop}  (hw : w_L_heaps  v0 v1 v2 v3 h Q) : CH l yL_heaps cL_heaps 5 (some .int) [(0, 10, 13, 15)] 8 1 6 [.ref v0, .int v1, .int v2, .ref v3] h (QI Q) := by
  refine CH.of (by decide) ⟨rfl, ⟨rfl, ⟨rfl, ⟨rfl, trivial⟩⟩⟩⟩ (Nat.le_of_ble_eq_true rfl) ?_
  intro p e s m args below meth c g C hr htab
  refine v_eq (pc' := 0) (ls' := [(0, .ref v0), (1, .int v1), (2, .int v2), (3, .ref v3)]) rfl rfl rfl rfl ?_
  refine v_aload_n C dL_heaps_0 3 rfl rfl ?_
  refine v_iconst (v := 0) C dL_heaps_1 (by decide) ?_
  refine v_aload_n C dL_heaps_2 0 rfl rfl ?_
  refine v_iload_n C dL_heaps_3 1 rfl rfl ?_
  refine v_iload_n C dL_heaps_4 2 rfl rfl ?_
  refine w_callXVi (st := [.int (0 : Int32), .ref v3]) C cl_L_87 lk_L_87 im_X11_heaps se_X11_heaps rfl hw.1 (s_X11_heaps hw.2) rfl dL_heaps_5 rfl (Nat.le_of_ble_eq_true rfl) (by decide) (by decide) (by decide) (by decide) (fun E h hx => ?_) (fun x1 h hw => ?_)
  · skip
    by_cases e0 : E = "java/lang/IllegalArgumentException"
    · subst e0
      have hw := hx.1 rfl
      refine v_catch (hh := [(0, 10, 13, 15)]) (name := "java/lang/IllegalArgumentException") C htab [] ⟨0, 10, 13, 15⟩ [] rfl (fun _ h => nomatch h) (by decide) (by decide) (tb3 (List.mem_of_getElem? (i := 90) rfl)) (tb3 (List.mem_of_getElem? (i := 178) rfl)) 13 rfl (fun q => ?_)
      refine v_sub [] rfl ?_
      exact s_L_heaps_13 C hr htab  q h (hw q)
    have hx := hx.2 e0
    exact hx.elim
  · skip
    refine v_i2l C dL_heaps_8 ?_
    refine w_lastore C dL_heaps_9 hw (fun h hw => ?_)
    refine v_goto (tgt := 17) C dL_heaps_10 (by decide) ?_
    refine v_iconst (v := 0) C dL_heaps_17 (by decide) ?_
    exact (rt_VX C _ _).1 _ _ _ _ _ _ hr dL_heaps_18 (by decide) (by decide) ⟨_, rfl, hw⟩
-- GrassFieldLaw.height(LGrassField;I[J)I
theorem dL_height_0 : decode cL_height 0 = .ok (.aload_n 2, 1) := by decide +kernel
theorem dL_height_1 : decode cL_height 1 = .ok (.iconst 0, 1) := by decide +kernel
theorem dL_height_2 : decode cL_height 2 = .ok (.aload_n 0, 1) := by decide +kernel
theorem dL_height_3 : decode cL_height 3 = .ok (.iload_n 1, 1) := by decide +kernel
theorem dL_height_4 : decode cL_height 4 = .ok (.invokevirtual 17, 3) := by decide +kernel
theorem dL_height_7 : decode cL_height 7 = .ok (.i2l, 1) := by decide +kernel
theorem dL_height_8 : decode cL_height 8 = .ok (.lastore, 1) := by decide +kernel
theorem dL_height_9 : decode cL_height 9 = .ok (.goto 6, 3) := by decide +kernel
theorem dL_height_12 : decode cL_height 12 = .ok (.astore_n 3, 1) := by decide +kernel
theorem dL_height_13 : decode cL_height 13 = .ok (.iconst 1, 1) := by decide +kernel
theorem dL_height_14 : decode cL_height 14 = .ok (.ireturn, 1) := by decide +kernel
theorem dL_height_15 : decode cL_height 15 = .ok (.iconst 0, 1) := by decide +kernel
theorem dL_height_16 : decode cL_height 16 = .ok (.ireturn, 1) := by decide +kernel
def w_L_height_12  (t0 : Nat) (h : AH) (Q : Int32 → AH → Prop) : Prop :=
  Q (1 : Int32) h
def w_L_height  (v0 : Nat) (v1 : Int32) (v2 : Nat) (h : AH) (Q : Int32 → AH → Prop) : Prop :=
  vr h v0 11 (
  w_X11_height v0 v1 h (fun x1 h =>
    tJ h v2 (0 : Int32) x1.toInt64 fun h =>
    Q (0 : Int32) h) (fun E h => br (E = "java/lang/IndexOutOfBoundsException") (∀ q, w_L_height_12  q h Q) (False)))
set_option maxRecDepth 100000 in
set_option maxHeartbeats 4000000 in
theorem s_L_height_12 {p : Program} {l : Launch} {e : Env} {s : State} {m : MethodId} {args : Array Value} {below : List Frame} {meth : Method} {c : Code} {g : GG}  {Q : Int32 → AH → Prop}  (C : CXT p l s m args meth c RL cL_height 4 g) (hr : meth.sig.returnType = (some .int)) (htab : c.exceptionTable.toList = tableOf [(0, 9, 12, 13)])  : ∀ (t0 : Nat) (h : AH), w_L_height_12  t0 h Q → V p l e s m args below meth c g 9 1 6 4 1 6 (vx_MQ below (QCx g (QI Q)) (XCx g noX) args s 1 6 (gA g)) 12 [] [.ref t0] h := by
  intro t0 h hw
  refine v_astore_n (ls' := [(3, .ref t0)]) C dL_height_12 rfl (by decide) rfl ?_
  refine v_iconst (v := 1) C dL_height_13 (by decide) ?_
  exact (rt_VX C _ _).1 _ _ _ _ _ _ hr dL_height_14 (by decide) (by decide) ⟨_, rfl, hw⟩
set_option maxRecDepth 100000 in
set_option maxHeartbeats 4000000 in
theorem s_L_height {l : Launch}  {v0 : Nat} {v1 : Int32} {v2 : Nat} {h : AH} {Q : Int32 → AH → Prop}  (hw : w_L_height  v0 v1 v2 h Q) : CH l yL_height cL_height 4 (some .int) [(0, 9, 12, 13)] 9 1 6 [.ref v0, .int v1, .ref v2] h (QI Q) := by
  refine CH.of (by decide) ⟨rfl, ⟨rfl, ⟨rfl, trivial⟩⟩⟩ (Nat.le_of_ble_eq_true rfl) ?_
  intro p e s m args below meth c g C hr htab
  refine v_eq (pc' := 0) (ls' := [(0, .ref v0), (1, .int v1), (2, .ref v2)]) rfl rfl rfl rfl ?_
  refine v_aload_n C dL_height_0 2 rfl rfl ?_
  refine v_iconst (v := 0) C dL_height_1 (by decide) ?_
  refine v_aload_n C dL_height_2 0 rfl rfl ?_
  refine v_iload_n C dL_height_3 1 rfl rfl ?_
  refine w_callXVi (st := [.int (0 : Int32), .ref v2]) C cl_L_17 lk_L_17 im_X11_height se_X11_height rfl hw.1 (s_X11_height hw.2) rfl dL_height_4 rfl (Nat.le_of_ble_eq_true rfl) (by decide) (by decide) (by decide) (by decide) (fun E h hx => ?_) (fun x1 h hw => ?_)
  · skip
    by_cases e0 : E = "java/lang/IndexOutOfBoundsException"
    · subst e0
      have hw := hx.1 rfl
      refine v_catch (hh := [(0, 9, 12, 13)]) (name := "java/lang/IndexOutOfBoundsException") C htab [] ⟨0, 9, 12, 13⟩ [] rfl (fun _ h => nomatch h) (by decide) (by decide) (tb3 (List.mem_of_getElem? (i := 89) rfl)) (tb3 (List.mem_of_getElem? (i := 103) rfl)) 12 rfl (fun q => ?_)
      refine v_sub [] rfl ?_
      exact s_L_height_12 C hr htab  q h (hw q)
    have hx := hx.2 e0
    exact hx.elim
  · skip
    refine v_i2l C dL_height_7 ?_
    refine w_lastore C dL_height_8 hw (fun h hw => ?_)
    refine v_goto (tgt := 15) C dL_height_9 (by decide) ?_
    refine v_iconst (v := 0) C dL_height_15 (by decide) ?_
    exact (rt_VX C _ _).1 _ _ _ _ _ _ hr dL_height_16 (by decide) (by decide) ⟨_, rfl, hw⟩
-- GrassFieldLaw.held(LGrassField;IIIZ[J)I
theorem dL_held_0 : decode cL_held 0 = .ok (.aload 5, 2) := by decide +kernel
theorem dL_held_2 : decode cL_held 2 = .ok (.iconst 0, 1) := by decide +kernel
theorem dL_held_3 : decode cL_held 3 = .ok (.aload_n 0, 1) := by decide +kernel
theorem dL_held_4 : decode cL_held 4 = .ok (.iload_n 1, 1) := by decide +kernel
theorem dL_held_5 : decode cL_held 5 = .ok (.iload_n 2, 1) := by decide +kernel
theorem dL_held_6 : decode cL_held 6 = .ok (.iload_n 3, 1) := by decide +kernel
theorem dL_held_7 : decode cL_held 7 = .ok (.iload 4, 2) := by decide +kernel
theorem dL_held_9 : decode cL_held 9 = .ok (.invokevirtual 83, 3) := by decide +kernel
theorem dL_held_12 : decode cL_held 12 = .ok (.i2l, 1) := by decide +kernel
theorem dL_held_13 : decode cL_held 13 = .ok (.lastore, 1) := by decide +kernel
theorem dL_held_14 : decode cL_held 14 = .ok (.goto 11, 3) := by decide +kernel
theorem dL_held_17 : decode cL_held 17 = .ok (.astore 6, 2) := by decide +kernel
theorem dL_held_19 : decode cL_held 19 = .ok (.iconst 1, 1) := by decide +kernel
theorem dL_held_20 : decode cL_held 20 = .ok (.ireturn, 1) := by decide +kernel
theorem dL_held_21 : decode cL_held 21 = .ok (.astore 6, 2) := by decide +kernel
theorem dL_held_23 : decode cL_held 23 = .ok (.iconst 2, 1) := by decide +kernel
theorem dL_held_24 : decode cL_held 24 = .ok (.ireturn, 1) := by decide +kernel
theorem dL_held_25 : decode cL_held 25 = .ok (.iconst 0, 1) := by decide +kernel
theorem dL_held_26 : decode cL_held 26 = .ok (.ireturn, 1) := by decide +kernel
def w_L_held_21  (t0 : Nat) (h : AH) (Q : Int32 → AH → Prop) : Prop :=
  Q (2 : Int32) h
def w_L_held_17  (t0 : Nat) (h : AH) (Q : Int32 → AH → Prop) : Prop :=
  Q (1 : Int32) h
def w_L_held  (v0 : Nat) (v1 : Int32) (v2 : Int32) (v3 : Int32) (v4 : Int32) (v5 : Nat) (h : AH) (Q : Int32 → AH → Prop) : Prop :=
  vr h v0 11 (
  w_X11_held v0 v1 v2 v3 v4 h (fun x1 h =>
    tJ h v5 (0 : Int32) x1.toInt64 fun h =>
    Q (0 : Int32) h) (fun E h => br (E = "java/lang/IndexOutOfBoundsException") (∀ q, w_L_held_17  q h Q) (br (E = "java/lang/IllegalArgumentException") (∀ q, w_L_held_21  q h Q) (False))))
set_option maxRecDepth 100000 in
set_option maxHeartbeats 4000000 in
theorem s_L_held_21 {p : Program} {l : Launch} {e : Env} {s : State} {m : MethodId} {args : Array Value} {below : List Frame} {meth : Method} {c : Code} {g : GG}  {Q : Int32 → AH → Prop}  (C : CXT p l s m args meth c RL cL_held 7 g) (hr : meth.sig.returnType = (some .int)) (htab : c.exceptionTable.toList = tableOf [(0, 14, 17, 13), (0, 14, 21, 15)])  : ∀ (t0 : Nat) (h : AH), w_L_held_21  t0 h Q → V p l e s m args below meth c g 8 3 18 7 3 18 (vx_MQ below (QCx g (QI Q)) (XCx g noX) args s 3 18 (gA g)) 21 [] [.ref t0] h := by
  intro t0 h hw
  refine v_astore (ls' := [(6, .ref t0)]) C dL_held_21 (by decide) rfl ?_
  refine v_iconst (v := 2) C dL_held_23 (by decide) ?_
  exact (rt_VX C _ _).1 _ _ _ _ _ _ hr dL_held_24 (by decide) (by decide) ⟨_, rfl, hw⟩
set_option maxRecDepth 100000 in
set_option maxHeartbeats 4000000 in
theorem s_L_held_17 {p : Program} {l : Launch} {e : Env} {s : State} {m : MethodId} {args : Array Value} {below : List Frame} {meth : Method} {c : Code} {g : GG}  {Q : Int32 → AH → Prop}  (C : CXT p l s m args meth c RL cL_held 7 g) (hr : meth.sig.returnType = (some .int)) (htab : c.exceptionTable.toList = tableOf [(0, 14, 17, 13), (0, 14, 21, 15)])  : ∀ (t0 : Nat) (h : AH), w_L_held_17  t0 h Q → V p l e s m args below meth c g 8 3 18 7 3 18 (vx_MQ below (QCx g (QI Q)) (XCx g noX) args s 3 18 (gA g)) 17 [] [.ref t0] h := by
  intro t0 h hw
  refine v_astore (ls' := [(6, .ref t0)]) C dL_held_17 (by decide) rfl ?_
  refine v_iconst (v := 1) C dL_held_19 (by decide) ?_
  exact (rt_VX C _ _).1 _ _ _ _ _ _ hr dL_held_20 (by decide) (by decide) ⟨_, rfl, hw⟩
set_option maxRecDepth 100000 in
set_option maxHeartbeats 4000000 in
theorem s_L_held {l : Launch}  {v0 : Nat} {v1 : Int32} {v2 : Int32} {v3 : Int32} {v4 : Int32} {v5 : Nat} {h : AH} {Q : Int32 → AH → Prop}  (hw : w_L_held  v0 v1 v2 v3 v4 v5 h Q) : CH l yL_held cL_held 7 (some .int) [(0, 14, 17, 13), (0, 14, 21, 15)] 8 3 18 [.ref v0, .int v1, .int v2, .int v3, .int v4, .ref v5] h (QI Q) := by
  refine CH.of (by decide) ⟨rfl, ⟨rfl, ⟨rfl, ⟨rfl, ⟨rfl, ⟨rfl, trivial⟩⟩⟩⟩⟩⟩ (Nat.le_of_ble_eq_true rfl) ?_
  intro p e s m args below meth c g C hr htab
  refine v_eq (pc' := 0) (ls' := [(0, .ref v0), (1, .int v1), (2, .int v2), (3, .int v3), (4, .int v4), (5, .ref v5)]) rfl rfl rfl rfl ?_
  refine v_aload C dL_held_0 5 rfl ?_
  refine v_iconst (v := 0) C dL_held_2 (by decide) ?_
  refine v_aload_n C dL_held_3 0 rfl rfl ?_
  refine v_iload_n C dL_held_4 1 rfl rfl ?_
  refine v_iload_n C dL_held_5 2 rfl rfl ?_
  refine v_iload_n C dL_held_6 3 rfl rfl ?_
  refine v_iload C dL_held_7 4 rfl ?_
  refine w_callXVi (st := [.int (0 : Int32), .ref v5]) C cl_L_83 lk_L_83 im_X11_held se_X11_held rfl hw.1 (s_X11_held hw.2) rfl dL_held_9 rfl (Nat.le_of_ble_eq_true rfl) (by decide) (by decide) (by decide) (by decide) (fun E h hx => ?_) (fun x1 h hw => ?_)
  · skip
    by_cases e0 : E = "java/lang/IndexOutOfBoundsException"
    · subst e0
      have hw := hx.1 rfl
      refine v_catch (hh := [(0, 14, 17, 13), (0, 14, 21, 15)]) (name := "java/lang/IndexOutOfBoundsException") C htab [] ⟨0, 14, 17, 13⟩ [⟨0, 14, 21, 15⟩] rfl (fun _ h => nomatch h) (by decide) (by decide) (tb3 (List.mem_of_getElem? (i := 89) rfl)) (tb3 (List.mem_of_getElem? (i := 103) rfl)) 17 rfl (fun q => ?_)
      refine v_sub [] rfl ?_
      exact s_L_held_17 C hr htab  q h (hw q)
    have hx := hx.2 e0
    by_cases e1 : E = "java/lang/IllegalArgumentException"
    · subst e1
      have hw := hx.1 rfl
      refine v_catch (hh := [(0, 14, 17, 13), (0, 14, 21, 15)]) (name := "java/lang/IllegalArgumentException") C htab [⟨0, 14, 17, 13⟩] ⟨0, 14, 21, 15⟩ [] rfl (List.forall_mem_cons.mpr ⟨⟨by decide, "java/lang/IndexOutOfBoundsException", (tb3 (List.mem_of_getElem? (i := 89) rfl)), List.mem_of_getElem? (i := 3) rfl⟩, fun _ h => nomatch h⟩) (by decide) (by decide) (tb3 (List.mem_of_getElem? (i := 90) rfl)) (tb3 (List.mem_of_getElem? (i := 178) rfl)) 21 rfl (fun q => ?_)
      refine v_sub [] rfl ?_
      exact s_L_held_21 C hr htab  q h (hw q)
    have hx := hx.2 e1
    exact hx.elim
  · skip
    refine v_i2l C dL_held_12 ?_
    refine w_lastore C dL_held_13 hw (fun h hw => ?_)
    refine v_goto (tgt := 25) C dL_held_14 (by decide) ?_
    refine v_iconst (v := 0) C dL_held_25 (by decide) ?_
    exact (rt_VX C _ _).1 _ _ _ _ _ _ hr dL_held_26 (by decide) (by decide) ⟨_, rfl, hw⟩
-- GrassFieldLaw.holds(LGrassField;I[J)I
theorem dL_holds_0 : decode cL_holds 0 = .ok (.aload_n 2, 1) := by decide +kernel
theorem dL_holds_1 : decode cL_holds 1 = .ok (.iconst 0, 1) := by decide +kernel
theorem dL_holds_2 : decode cL_holds 2 = .ok (.aload_n 0, 1) := by decide +kernel
theorem dL_holds_3 : decode cL_holds 3 = .ok (.iload_n 1, 1) := by decide +kernel
theorem dL_holds_4 : decode cL_holds 4 = .ok (.invokevirtual 120, 3) := by decide +kernel
theorem dL_holds_7 : decode cL_holds 7 = .ok (.ifCond .eq 7, 3) := by decide +kernel
theorem dL_holds_10 : decode cL_holds 10 = .ok (.lconst 1, 1) := by decide +kernel
theorem dL_holds_11 : decode cL_holds 11 = .ok (.goto 4, 3) := by decide +kernel
theorem dL_holds_14 : decode cL_holds 14 = .ok (.lconst 0, 1) := by decide +kernel
theorem dL_holds_15 : decode cL_holds 15 = .ok (.lastore, 1) := by decide +kernel
theorem dL_holds_16 : decode cL_holds 16 = .ok (.goto 6, 3) := by decide +kernel
theorem dL_holds_19 : decode cL_holds 19 = .ok (.astore_n 3, 1) := by decide +kernel
theorem dL_holds_20 : decode cL_holds 20 = .ok (.iconst 1, 1) := by decide +kernel
theorem dL_holds_21 : decode cL_holds 21 = .ok (.ireturn, 1) := by decide +kernel
theorem dL_holds_22 : decode cL_holds 22 = .ok (.iconst 0, 1) := by decide +kernel
theorem dL_holds_23 : decode cL_holds 23 = .ok (.ireturn, 1) := by decide +kernel
def w_L_holds_19  (t0 : Nat) (h : AH) (Q : Int32 → AH → Prop) : Prop :=
  Q (1 : Int32) h
def w_L_holds_15  (t0 : Nat) (t1 : Int32) (t2 : Int64) (h : AH) (Q : Int32 → AH → Prop) : Prop :=
  tJ h t0 t1 t2 fun h =>
  Q (0 : Int32) h
def w_L_holds  (v0 : Nat) (v1 : Int32) (v2 : Nat) (h : AH) (Q : Int32 → AH → Prop) : Prop :=
  vr h v0 11 (
  w_X11_holds v0 v1 h (fun x1 h =>
    br (x1 = 0) (
      w_L_holds_15 v2 (0 : Int32) ((0 : Int64)) h Q) (
      w_L_holds_15 v2 (0 : Int32) ((1 : Int64)) h Q)) (fun E h => br (E = "java/lang/IndexOutOfBoundsException") (∀ q, w_L_holds_19  q h Q) (False)))
set_option maxRecDepth 100000 in
set_option maxHeartbeats 4000000 in
theorem s_L_holds_19 {p : Program} {l : Launch} {e : Env} {s : State} {m : MethodId} {args : Array Value} {below : List Frame} {meth : Method} {c : Code} {g : GG}  {Q : Int32 → AH → Prop}  (C : CXT p l s m args meth c RL cL_holds 4 g) (hr : meth.sig.returnType = (some .int)) (htab : c.exceptionTable.toList = tableOf [(0, 16, 19, 13)])  : ∀ (t0 : Nat) (h : AH), w_L_holds_19  t0 h Q → V p l e s m args below meth c g 8 1 6 4 1 6 (vx_MQ below (QCx g (QI Q)) (XCx g noX) args s 1 6 (gA g)) 19 [] [.ref t0] h := by
  intro t0 h hw
  refine v_astore_n (ls' := [(3, .ref t0)]) C dL_holds_19 rfl (by decide) rfl ?_
  refine v_iconst (v := 1) C dL_holds_20 (by decide) ?_
  exact (rt_VX C _ _).1 _ _ _ _ _ _ hr dL_holds_21 (by decide) (by decide) ⟨_, rfl, hw⟩
set_option maxRecDepth 100000 in
set_option maxHeartbeats 4000000 in
theorem s_L_holds_15 {p : Program} {l : Launch} {e : Env} {s : State} {m : MethodId} {args : Array Value} {below : List Frame} {meth : Method} {c : Code} {g : GG}  {Q : Int32 → AH → Prop}  (C : CXT p l s m args meth c RL cL_holds 4 g) (hr : meth.sig.returnType = (some .int)) (htab : c.exceptionTable.toList = tableOf [(0, 16, 19, 13)])  : ∀ (t0 : Nat) (t1 : Int32) (t2 : Int64) (h : AH), w_L_holds_15  t0 t1 t2 h Q → V p l e s m args below meth c g 8 1 6 4 1 6 (vx_MQ below (QCx g (QI Q)) (XCx g noX) args s 1 6 (gA g)) 15 [] [.long t2, .int t1, .ref t0] h := by
  intro t0 t1 t2 h hw
  refine w_lastore C dL_holds_15 hw (fun h hw => ?_)
  refine v_goto (tgt := 22) C dL_holds_16 (by decide) ?_
  refine v_iconst (v := 0) C dL_holds_22 (by decide) ?_
  exact (rt_VX C _ _).1 _ _ _ _ _ _ hr dL_holds_23 (by decide) (by decide) ⟨_, rfl, hw⟩
set_option maxRecDepth 100000 in
set_option maxHeartbeats 4000000 in
theorem s_L_holds {l : Launch}  {v0 : Nat} {v1 : Int32} {v2 : Nat} {h : AH} {Q : Int32 → AH → Prop}  (hw : w_L_holds  v0 v1 v2 h Q) : CH l yL_holds cL_holds 4 (some .int) [(0, 16, 19, 13)] 8 1 6 [.ref v0, .int v1, .ref v2] h (QI Q) := by
  refine CH.of (by decide) ⟨rfl, ⟨rfl, ⟨rfl, trivial⟩⟩⟩ (Nat.le_of_ble_eq_true rfl) ?_
  intro p e s m args below meth c g C hr htab
  refine v_eq (pc' := 0) (ls' := [(0, .ref v0), (1, .int v1), (2, .ref v2)]) rfl rfl rfl rfl ?_
  refine v_aload_n C dL_holds_0 2 rfl rfl ?_
  refine v_iconst (v := 0) C dL_holds_1 (by decide) ?_
  refine v_aload_n C dL_holds_2 0 rfl rfl ?_
  refine v_iload_n C dL_holds_3 1 rfl rfl ?_
  refine w_callXVi (st := [.int (0 : Int32), .ref v2]) C cl_L_120 lk_L_120 im_X11_holds se_X11_holds rfl hw.1 (s_X11_holds hw.2) rfl dL_holds_4 rfl (Nat.le_of_ble_eq_true rfl) (by decide) (by decide) (by decide) (by decide) (fun E h hx => ?_) (fun x1 h hw => ?_)
  · skip
    by_cases e0 : E = "java/lang/IndexOutOfBoundsException"
    · subst e0
      have hw := hx.1 rfl
      refine v_catch (hh := [(0, 16, 19, 13)]) (name := "java/lang/IndexOutOfBoundsException") C htab [] ⟨0, 16, 19, 13⟩ [] rfl (fun _ h => nomatch h) (by decide) (by decide) (tb3 (List.mem_of_getElem? (i := 89) rfl)) (tb3 (List.mem_of_getElem? (i := 103) rfl)) 19 rfl (fun q => ?_)
      refine v_sub [] rfl ?_
      exact s_L_holds_19 C hr htab  q h (hw q)
    have hx := hx.2 e0
    exact hx.elim
  · skip
    refine v_if_eq (tgt := 14) C dL_holds_7 (by decide) (fun c_7 => ?_) (fun c_7 => ?_)
    · have hw := hw.1 c_7
      refine v_lconst (v := 0) C dL_holds_14 (by decide) ?_
      refine v_sub [] rfl ?_
      exact s_L_holds_15 C hr htab  _ _ _ _ hw
    · have hw := hw.2 c_7
      refine v_lconst (v := 1) C dL_holds_10 (by decide) ?_
      refine v_goto (tgt := 15) C dL_holds_11 (by decide) ?_
      refine v_sub [] rfl ?_
      exact s_L_holds_15 C hr htab  _ _ _ _ hw
-- GrassFieldLaw.joined(LGrassField;IIIIZ[J)I
theorem dL_joined_0 : decode cL_joined 0 = .ok (.aload 6, 2) := by decide +kernel
theorem dL_joined_2 : decode cL_joined 2 = .ok (.iconst 0, 1) := by decide +kernel
theorem dL_joined_3 : decode cL_joined 3 = .ok (.aload_n 0, 1) := by decide +kernel
theorem dL_joined_4 : decode cL_joined 4 = .ok (.iload_n 1, 1) := by decide +kernel
theorem dL_joined_5 : decode cL_joined 5 = .ok (.iload_n 2, 1) := by decide +kernel
theorem dL_joined_6 : decode cL_joined 6 = .ok (.iload_n 3, 1) := by decide +kernel
theorem dL_joined_7 : decode cL_joined 7 = .ok (.iload 4, 2) := by decide +kernel
theorem dL_joined_9 : decode cL_joined 9 = .ok (.iload 5, 2) := by decide +kernel
theorem dL_joined_11 : decode cL_joined 11 = .ok (.invokevirtual 113, 3) := by decide +kernel
theorem dL_joined_14 : decode cL_joined 14 = .ok (.i2l, 1) := by decide +kernel
theorem dL_joined_15 : decode cL_joined 15 = .ok (.lastore, 1) := by decide +kernel
theorem dL_joined_16 : decode cL_joined 16 = .ok (.goto 7, 3) := by decide +kernel
theorem dL_joined_19 : decode cL_joined 19 = .ok (.astore 7, 2) := by decide +kernel
theorem dL_joined_21 : decode cL_joined 21 = .ok (.iconst 1, 1) := by decide +kernel
theorem dL_joined_22 : decode cL_joined 22 = .ok (.ireturn, 1) := by decide +kernel
theorem dL_joined_23 : decode cL_joined 23 = .ok (.iconst 0, 1) := by decide +kernel
theorem dL_joined_24 : decode cL_joined 24 = .ok (.ireturn, 1) := by decide +kernel
def w_L_joined_19  (t0 : Nat) (h : AH) (Q : Int32 → AH → Prop) : Prop :=
  Q (1 : Int32) h
def w_L_joined  (v0 : Nat) (v1 : Int32) (v2 : Int32) (v3 : Int32) (v4 : Int32) (v5 : Int32) (v6 : Nat) (h : AH) (Q : Int32 → AH → Prop) : Prop :=
  vr h v0 11 (
  w_X11_joined v0 v1 v2 v3 v4 v5 h (fun x1 h =>
    tJ h v6 (0 : Int32) x1.toInt64 fun h =>
    Q (0 : Int32) h) (fun E h => br (E = "java/lang/IndexOutOfBoundsException") (∀ q, w_L_joined_19  q h Q) (False)))
set_option maxRecDepth 100000 in
set_option maxHeartbeats 4000000 in
theorem s_L_joined_19 {p : Program} {l : Launch} {e : Env} {s : State} {m : MethodId} {args : Array Value} {below : List Frame} {meth : Method} {c : Code} {g : GG}  {Q : Int32 → AH → Prop}  (C : CXT p l s m args meth c RL cL_joined 8 g) (hr : meth.sig.returnType = (some .int)) (htab : c.exceptionTable.toList = tableOf [(0, 16, 19, 13)])  : ∀ (t0 : Nat) (h : AH), w_L_joined_19  t0 h Q → V p l e s m args below meth c g 9 4 24 8 4 24 (vx_MQ below (QCx g (QI Q)) (XCx g noX) args s 4 24 (gA g)) 19 [] [.ref t0] h := by
  intro t0 h hw
  refine v_astore (ls' := [(7, .ref t0)]) C dL_joined_19 (by decide) rfl ?_
  refine v_iconst (v := 1) C dL_joined_21 (by decide) ?_
  exact (rt_VX C _ _).1 _ _ _ _ _ _ hr dL_joined_22 (by decide) (by decide) ⟨_, rfl, hw⟩
set_option maxRecDepth 100000 in
set_option maxHeartbeats 4000000 in
theorem s_L_joined {l : Launch}  {v0 : Nat} {v1 : Int32} {v2 : Int32} {v3 : Int32} {v4 : Int32} {v5 : Int32} {v6 : Nat} {h : AH} {Q : Int32 → AH → Prop}  (hw : w_L_joined  v0 v1 v2 v3 v4 v5 v6 h Q) : CH l yL_joined cL_joined 8 (some .int) [(0, 16, 19, 13)] 9 4 24 [.ref v0, .int v1, .int v2, .int v3, .int v4, .int v5, .ref v6] h (QI Q) := by
  refine CH.of (by decide) ⟨rfl, ⟨rfl, ⟨rfl, ⟨rfl, ⟨rfl, ⟨rfl, ⟨rfl, trivial⟩⟩⟩⟩⟩⟩⟩ (Nat.le_of_ble_eq_true rfl) ?_
  intro p e s m args below meth c g C hr htab
  refine v_eq (pc' := 0) (ls' := [(0, .ref v0), (1, .int v1), (2, .int v2), (3, .int v3), (4, .int v4), (5, .int v5), (6, .ref v6)]) rfl rfl rfl rfl ?_
  refine v_aload C dL_joined_0 6 rfl ?_
  refine v_iconst (v := 0) C dL_joined_2 (by decide) ?_
  refine v_aload_n C dL_joined_3 0 rfl rfl ?_
  refine v_iload_n C dL_joined_4 1 rfl rfl ?_
  refine v_iload_n C dL_joined_5 2 rfl rfl ?_
  refine v_iload_n C dL_joined_6 3 rfl rfl ?_
  refine v_iload C dL_joined_7 4 rfl ?_
  refine v_iload C dL_joined_9 5 rfl ?_
  refine w_callXVi (st := [.int (0 : Int32), .ref v6]) C cl_L_113 lk_L_113 im_X11_joined se_X11_joined rfl hw.1 (s_X11_joined hw.2) rfl dL_joined_11 rfl (Nat.le_of_ble_eq_true rfl) (by decide) (by decide) (by decide) (by decide) (fun E h hx => ?_) (fun x1 h hw => ?_)
  · skip
    by_cases e0 : E = "java/lang/IndexOutOfBoundsException"
    · subst e0
      have hw := hx.1 rfl
      refine v_catch (hh := [(0, 16, 19, 13)]) (name := "java/lang/IndexOutOfBoundsException") C htab [] ⟨0, 16, 19, 13⟩ [] rfl (fun _ h => nomatch h) (by decide) (by decide) (tb3 (List.mem_of_getElem? (i := 89) rfl)) (tb3 (List.mem_of_getElem? (i := 103) rfl)) 19 rfl (fun q => ?_)
      refine v_sub [] rfl ?_
      exact s_L_joined_19 C hr htab  q h (hw q)
    have hx := hx.2 e0
    exact hx.elim
  · skip
    refine v_i2l C dL_joined_14 ?_
    refine w_lastore C dL_joined_15 hw (fun h hw => ?_)
    refine v_goto (tgt := 23) C dL_joined_16 (by decide) ?_
    refine v_iconst (v := 0) C dL_joined_23 (by decide) ?_
    exact (rt_VX C _ _).1 _ _ _ _ _ _ hr dL_joined_24 (by decide) (by decide) ⟨_, rfl, hw⟩
-- GrassFieldLaw.later(LGrassField;I[J)I
theorem dL_later_0 : decode cL_later 0 = .ok (.aload_n 2, 1) := by decide +kernel
theorem dL_later_1 : decode cL_later 1 = .ok (.iconst 0, 1) := by decide +kernel
theorem dL_later_2 : decode cL_later 2 = .ok (.aload_n 0, 1) := by decide +kernel
theorem dL_later_3 : decode cL_later 3 = .ok (.iload_n 1, 1) := by decide +kernel
theorem dL_later_4 : decode cL_later 4 = .ok (.invokevirtual 77, 3) := by decide +kernel
theorem dL_later_7 : decode cL_later 7 = .ok (.i2l, 1) := by decide +kernel
theorem dL_later_8 : decode cL_later 8 = .ok (.lastore, 1) := by decide +kernel
theorem dL_later_9 : decode cL_later 9 = .ok (.goto 6, 3) := by decide +kernel
theorem dL_later_12 : decode cL_later 12 = .ok (.astore_n 3, 1) := by decide +kernel
theorem dL_later_13 : decode cL_later 13 = .ok (.iconst 1, 1) := by decide +kernel
theorem dL_later_14 : decode cL_later 14 = .ok (.ireturn, 1) := by decide +kernel
theorem dL_later_15 : decode cL_later 15 = .ok (.iconst 0, 1) := by decide +kernel
theorem dL_later_16 : decode cL_later 16 = .ok (.ireturn, 1) := by decide +kernel
def w_L_later_12  (t0 : Nat) (h : AH) (Q : Int32 → AH → Prop) : Prop :=
  Q (1 : Int32) h
def w_L_later  (v0 : Nat) (v1 : Int32) (v2 : Nat) (h : AH) (Q : Int32 → AH → Prop) : Prop :=
  vr h v0 11 (
  w_X11_later v0 v1 h (fun x1 h =>
    tJ h v2 (0 : Int32) x1.toInt64 fun h =>
    Q (0 : Int32) h) (fun E h => br (E = "java/util/NoSuchElementException") (∀ q, w_L_later_12  q h Q) (False)))
set_option maxRecDepth 100000 in
set_option maxHeartbeats 4000000 in
theorem s_L_later_12 {p : Program} {l : Launch} {e : Env} {s : State} {m : MethodId} {args : Array Value} {below : List Frame} {meth : Method} {c : Code} {g : GG}  {Q : Int32 → AH → Prop}  (C : CXT p l s m args meth c RL cL_later 4 g) (hr : meth.sig.returnType = (some .int)) (htab : c.exceptionTable.toList = tableOf [(0, 9, 12, 46)])  : ∀ (t0 : Nat) (h : AH), w_L_later_12  t0 h Q → V p l e s m args below meth c g 8 1 6 4 1 6 (vx_MQ below (QCx g (QI Q)) (XCx g noX) args s 1 6 (gA g)) 12 [] [.ref t0] h := by
  intro t0 h hw
  refine v_astore_n (ls' := [(3, .ref t0)]) C dL_later_12 rfl (by decide) rfl ?_
  refine v_iconst (v := 1) C dL_later_13 (by decide) ?_
  exact (rt_VX C _ _).1 _ _ _ _ _ _ hr dL_later_14 (by decide) (by decide) ⟨_, rfl, hw⟩
set_option maxRecDepth 100000 in
set_option maxHeartbeats 4000000 in
theorem s_L_later {l : Launch}  {v0 : Nat} {v1 : Int32} {v2 : Nat} {h : AH} {Q : Int32 → AH → Prop}  (hw : w_L_later  v0 v1 v2 h Q) : CH l yL_later cL_later 4 (some .int) [(0, 9, 12, 46)] 8 1 6 [.ref v0, .int v1, .ref v2] h (QI Q) := by
  refine CH.of (by decide) ⟨rfl, ⟨rfl, ⟨rfl, trivial⟩⟩⟩ (Nat.le_of_ble_eq_true rfl) ?_
  intro p e s m args below meth c g C hr htab
  refine v_eq (pc' := 0) (ls' := [(0, .ref v0), (1, .int v1), (2, .ref v2)]) rfl rfl rfl rfl ?_
  refine v_aload_n C dL_later_0 2 rfl rfl ?_
  refine v_iconst (v := 0) C dL_later_1 (by decide) ?_
  refine v_aload_n C dL_later_2 0 rfl rfl ?_
  refine v_iload_n C dL_later_3 1 rfl rfl ?_
  refine w_callXVi (st := [.int (0 : Int32), .ref v2]) C cl_L_77 lk_L_77 im_X11_later se_X11_later rfl hw.1 (s_X11_later hw.2) rfl dL_later_4 rfl (Nat.le_of_ble_eq_true rfl) (by decide) (by decide) (by decide) (by decide) (fun E h hx => ?_) (fun x1 h hw => ?_)
  · skip
    by_cases e0 : E = "java/util/NoSuchElementException"
    · subst e0
      have hw := hx.1 rfl
      refine v_catch (hh := [(0, 9, 12, 46)]) (name := "java/util/NoSuchElementException") C htab [] ⟨0, 9, 12, 46⟩ [] rfl (fun _ h => nomatch h) (by decide) (by decide) (tb5 (List.mem_of_getElem? (i := 23) rfl)) (tb5 (List.mem_of_getElem? (i := 47) rfl)) 12 rfl (fun q => ?_)
      refine v_sub [] rfl ?_
      exact s_L_later_12 C hr htab  q h (hw q)
    have hx := hx.2 e0
    exact hx.elim
  · skip
    refine v_i2l C dL_later_7 ?_
    refine w_lastore C dL_later_8 hw (fun h hw => ?_)
    refine v_goto (tgt := 15) C dL_later_9 (by decide) ?_
    refine v_iconst (v := 0) C dL_later_15 (by decide) ?_
    exact (rt_VX C _ _).1 _ _ _ _ _ _ hr dL_later_16 (by decide) (by decide) ⟨_, rfl, hw⟩
-- GrassFieldLaw.law(LGrassField;[J)I
theorem dL_law_0 : decode cL_law 0 = .ok (.aload_n 1, 1) := by decide +kernel
theorem dL_law_1 : decode cL_law 1 = .ok (.iconst 0, 1) := by decide +kernel
theorem dL_law_2 : decode cL_law 2 = .ok (.aload_n 0, 1) := by decide +kernel
theorem dL_law_3 : decode cL_law 3 = .ok (.invokevirtual 35, 3) := by decide +kernel
theorem dL_law_6 : decode cL_law 6 = .ok (.i2l, 1) := by decide +kernel
theorem dL_law_7 : decode cL_law 7 = .ok (.lastore, 1) := by decide +kernel
theorem dL_law_8 : decode cL_law 8 = .ok (.goto 9, 3) := by decide +kernel
theorem dL_law_11 : decode cL_law 11 = .ok (.astore_n 2, 1) := by decide +kernel
theorem dL_law_12 : decode cL_law 12 = .ok (.iconst 1, 1) := by decide +kernel
theorem dL_law_13 : decode cL_law 13 = .ok (.ireturn, 1) := by decide +kernel
theorem dL_law_14 : decode cL_law 14 = .ok (.astore_n 2, 1) := by decide +kernel
theorem dL_law_15 : decode cL_law 15 = .ok (.iconst 2, 1) := by decide +kernel
theorem dL_law_16 : decode cL_law 16 = .ok (.ireturn, 1) := by decide +kernel
theorem dL_law_17 : decode cL_law 17 = .ok (.iconst 0, 1) := by decide +kernel
theorem dL_law_18 : decode cL_law 18 = .ok (.ireturn, 1) := by decide +kernel
def w_L_law_14  (t0 : Nat) (h : AH) (Q : Int32 → AH → Prop) : Prop :=
  Q (2 : Int32) h
def w_L_law_11  (t0 : Nat) (h : AH) (Q : Int32 → AH → Prop) : Prop :=
  Q (1 : Int32) h
def w_L_law  (v0 : Nat) (v1 : Nat) (h : AH) (Q : Int32 → AH → Prop) : Prop :=
  vr h v0 11 (
  w_X11_law v0 h (fun x1 h =>
    tJ h v1 (0 : Int32) x1.toInt64 fun h =>
    Q (0 : Int32) h) (fun E h => br (E = "java/lang/IllegalArgumentException") (∀ q, w_L_law_11  q h Q) (br (E = "java/lang/UnsupportedOperationException") (∀ q, w_L_law_14  q h Q) (False))))
set_option maxRecDepth 100000 in
set_option maxHeartbeats 4000000 in
theorem s_L_law_14 {p : Program} {l : Launch} {e : Env} {s : State} {m : MethodId} {args : Array Value} {below : List Frame} {meth : Method} {c : Code} {g : GG}  {Q : Int32 → AH → Prop}  (C : CXT p l s m args meth c RL cL_law 3 g) (hr : meth.sig.returnType = (some .int)) (htab : c.exceptionTable.toList = tableOf [(0, 8, 11, 15), (0, 8, 14, 29)])  : ∀ (t0 : Nat) (h : AH), w_L_law_14  t0 h Q → V p l e s m args below meth c g 48 5 448 3 5 448 (vx_MQ below (QCx g (QI Q)) (XCx g noX) args s 5 448 (gA g)) 14 [] [.ref t0] h := by
  intro t0 h hw
  refine v_astore_n (ls' := [(2, .ref t0)]) C dL_law_14 rfl (by decide) rfl ?_
  refine v_iconst (v := 2) C dL_law_15 (by decide) ?_
  exact (rt_VX C _ _).1 _ _ _ _ _ _ hr dL_law_16 (by decide) (by decide) ⟨_, rfl, hw⟩
set_option maxRecDepth 100000 in
set_option maxHeartbeats 4000000 in
theorem s_L_law_11 {p : Program} {l : Launch} {e : Env} {s : State} {m : MethodId} {args : Array Value} {below : List Frame} {meth : Method} {c : Code} {g : GG}  {Q : Int32 → AH → Prop}  (C : CXT p l s m args meth c RL cL_law 3 g) (hr : meth.sig.returnType = (some .int)) (htab : c.exceptionTable.toList = tableOf [(0, 8, 11, 15), (0, 8, 14, 29)])  : ∀ (t0 : Nat) (h : AH), w_L_law_11  t0 h Q → V p l e s m args below meth c g 48 5 448 3 5 448 (vx_MQ below (QCx g (QI Q)) (XCx g noX) args s 5 448 (gA g)) 11 [] [.ref t0] h := by
  intro t0 h hw
  refine v_astore_n (ls' := [(2, .ref t0)]) C dL_law_11 rfl (by decide) rfl ?_
  refine v_iconst (v := 1) C dL_law_12 (by decide) ?_
  exact (rt_VX C _ _).1 _ _ _ _ _ _ hr dL_law_13 (by decide) (by decide) ⟨_, rfl, hw⟩
set_option maxRecDepth 100000 in
set_option maxHeartbeats 4000000 in
theorem s_L_law {l : Launch}  {v0 : Nat} {v1 : Nat} {h : AH} {Q : Int32 → AH → Prop}  (hw : w_L_law  v0 v1 h Q) : CH l yL_law cL_law 3 (some .int) [(0, 8, 11, 15), (0, 8, 14, 29)] 48 5 448 [.ref v0, .ref v1] h (QI Q) := by
  refine CH.of (by decide) ⟨rfl, ⟨rfl, trivial⟩⟩ (Nat.le_of_ble_eq_true rfl) ?_
  intro p e s m args below meth c g C hr htab
  refine v_eq (pc' := 0) (ls' := [(0, .ref v0), (1, .ref v1)]) rfl rfl rfl rfl ?_
  refine v_aload_n C dL_law_0 1 rfl rfl ?_
  refine v_iconst (v := 0) C dL_law_1 (by decide) ?_
  refine v_aload_n C dL_law_2 0 rfl rfl ?_
  refine w_callXVi (st := [.int (0 : Int32), .ref v1]) C cl_L_35 lk_L_35 im_X11_law se_X11_law rfl hw.1 (s_X11_law hw.2) rfl dL_law_3 rfl (Nat.le_of_ble_eq_true rfl) (by decide) (by decide) (by decide) (by decide) (fun E h hx => ?_) (fun x1 h hw => ?_)
  · skip
    by_cases e0 : E = "java/lang/IllegalArgumentException"
    · subst e0
      have hw := hx.1 rfl
      refine v_catch (hh := [(0, 8, 11, 15), (0, 8, 14, 29)]) (name := "java/lang/IllegalArgumentException") C htab [] ⟨0, 8, 11, 15⟩ [⟨0, 8, 14, 29⟩] rfl (fun _ h => nomatch h) (by decide) (by decide) (tb3 (List.mem_of_getElem? (i := 90) rfl)) (tb3 (List.mem_of_getElem? (i := 178) rfl)) 11 rfl (fun q => ?_)
      refine v_sub [] rfl ?_
      exact s_L_law_11 C hr htab  q h (hw q)
    have hx := hx.2 e0
    by_cases e1 : E = "java/lang/UnsupportedOperationException"
    · subst e1
      have hw := hx.1 rfl
      refine v_catch (hh := [(0, 8, 11, 15), (0, 8, 14, 29)]) (name := "java/lang/UnsupportedOperationException") C htab [⟨0, 8, 11, 15⟩] ⟨0, 8, 14, 29⟩ [] rfl (List.forall_mem_cons.mpr ⟨⟨by decide, "java/lang/IllegalArgumentException", (tb3 (List.mem_of_getElem? (i := 90) rfl)), List.mem_of_getElem? (i := 7) rfl⟩, fun _ h => nomatch h⟩) (by decide) (by decide) (tb3 (List.mem_of_getElem? (i := 223) rfl)) (tb3 (List.mem_of_getElem? (i := 236) rfl)) 14 rfl (fun q => ?_)
      refine v_sub [] rfl ?_
      exact s_L_law_14 C hr htab  q h (hw q)
    have hx := hx.2 e1
    exact hx.elim
  · skip
    refine v_i2l C dL_law_6 ?_
    refine w_lastore C dL_law_7 hw (fun h hw => ?_)
    refine v_goto (tgt := 17) C dL_law_8 (by decide) ?_
    refine v_iconst (v := 0) C dL_law_17 (by decide) ?_
    exact (rt_VX C _ _).1 _ _ _ _ _ _ hr dL_law_18 (by decide) (by decide) ⟨_, rfl, hw⟩
-- GrassFieldLaw.length(LGrassField;IIIZ[J)I
theorem dL_length_0 : decode cL_length 0 = .ok (.aload 5, 2) := by decide +kernel
theorem dL_length_2 : decode cL_length 2 = .ok (.iconst 0, 1) := by decide +kernel
theorem dL_length_3 : decode cL_length 3 = .ok (.aload_n 0, 1) := by decide +kernel
theorem dL_length_4 : decode cL_length 4 = .ok (.iload_n 1, 1) := by decide +kernel
theorem dL_length_5 : decode cL_length 5 = .ok (.iload_n 2, 1) := by decide +kernel
theorem dL_length_6 : decode cL_length 6 = .ok (.iload_n 3, 1) := by decide +kernel
theorem dL_length_7 : decode cL_length 7 = .ok (.iload 4, 2) := by decide +kernel
theorem dL_length_9 : decode cL_length 9 = .ok (.invokevirtual 91, 3) := by decide +kernel
theorem dL_length_12 : decode cL_length 12 = .ok (.i2l, 1) := by decide +kernel
theorem dL_length_13 : decode cL_length 13 = .ok (.lastore, 1) := by decide +kernel
theorem dL_length_14 : decode cL_length 14 = .ok (.goto 11, 3) := by decide +kernel
theorem dL_length_17 : decode cL_length 17 = .ok (.astore 6, 2) := by decide +kernel
theorem dL_length_19 : decode cL_length 19 = .ok (.iconst 1, 1) := by decide +kernel
theorem dL_length_20 : decode cL_length 20 = .ok (.ireturn, 1) := by decide +kernel
theorem dL_length_21 : decode cL_length 21 = .ok (.astore 6, 2) := by decide +kernel
theorem dL_length_23 : decode cL_length 23 = .ok (.iconst 2, 1) := by decide +kernel
theorem dL_length_24 : decode cL_length 24 = .ok (.ireturn, 1) := by decide +kernel
theorem dL_length_25 : decode cL_length 25 = .ok (.iconst 0, 1) := by decide +kernel
theorem dL_length_26 : decode cL_length 26 = .ok (.ireturn, 1) := by decide +kernel
def w_L_length_21  (t0 : Nat) (h : AH) (Q : Int32 → AH → Prop) : Prop :=
  Q (2 : Int32) h
def w_L_length_17  (t0 : Nat) (h : AH) (Q : Int32 → AH → Prop) : Prop :=
  Q (1 : Int32) h
def w_L_length  (v0 : Nat) (v1 : Int32) (v2 : Int32) (v3 : Int32) (v4 : Int32) (v5 : Nat) (h : AH) (Q : Int32 → AH → Prop) : Prop :=
  vr h v0 11 (
  w_X11_length v0 v1 v2 v3 v4 h (fun x1 h =>
    tJ h v5 (0 : Int32) x1.toInt64 fun h =>
    Q (0 : Int32) h) (fun E h => br (E = "java/lang/IndexOutOfBoundsException") (∀ q, w_L_length_17  q h Q) (br (E = "java/lang/IllegalArgumentException") (∀ q, w_L_length_21  q h Q) (False))))
set_option maxRecDepth 100000 in
set_option maxHeartbeats 4000000 in
theorem s_L_length_21 {p : Program} {l : Launch} {e : Env} {s : State} {m : MethodId} {args : Array Value} {below : List Frame} {meth : Method} {c : Code} {g : GG}  {Q : Int32 → AH → Prop}  (C : CXT p l s m args meth c RL cL_length 7 g) (hr : meth.sig.returnType = (some .int)) (htab : c.exceptionTable.toList = tableOf [(0, 14, 17, 13), (0, 14, 21, 15)])  : ∀ (t0 : Nat) (h : AH), w_L_length_21  t0 h Q → V p l e s m args below meth c g 8 2 12 7 2 12 (vx_MQ below (QCx g (QI Q)) (XCx g noX) args s 2 12 (gA g)) 21 [] [.ref t0] h := by
  intro t0 h hw
  refine v_astore (ls' := [(6, .ref t0)]) C dL_length_21 (by decide) rfl ?_
  refine v_iconst (v := 2) C dL_length_23 (by decide) ?_
  exact (rt_VX C _ _).1 _ _ _ _ _ _ hr dL_length_24 (by decide) (by decide) ⟨_, rfl, hw⟩
set_option maxRecDepth 100000 in
set_option maxHeartbeats 4000000 in
theorem s_L_length_17 {p : Program} {l : Launch} {e : Env} {s : State} {m : MethodId} {args : Array Value} {below : List Frame} {meth : Method} {c : Code} {g : GG}  {Q : Int32 → AH → Prop}  (C : CXT p l s m args meth c RL cL_length 7 g) (hr : meth.sig.returnType = (some .int)) (htab : c.exceptionTable.toList = tableOf [(0, 14, 17, 13), (0, 14, 21, 15)])  : ∀ (t0 : Nat) (h : AH), w_L_length_17  t0 h Q → V p l e s m args below meth c g 8 2 12 7 2 12 (vx_MQ below (QCx g (QI Q)) (XCx g noX) args s 2 12 (gA g)) 17 [] [.ref t0] h := by
  intro t0 h hw
  refine v_astore (ls' := [(6, .ref t0)]) C dL_length_17 (by decide) rfl ?_
  refine v_iconst (v := 1) C dL_length_19 (by decide) ?_
  exact (rt_VX C _ _).1 _ _ _ _ _ _ hr dL_length_20 (by decide) (by decide) ⟨_, rfl, hw⟩
set_option maxRecDepth 100000 in
set_option maxHeartbeats 4000000 in
theorem s_L_length {l : Launch}  {v0 : Nat} {v1 : Int32} {v2 : Int32} {v3 : Int32} {v4 : Int32} {v5 : Nat} {h : AH} {Q : Int32 → AH → Prop}  (hw : w_L_length  v0 v1 v2 v3 v4 v5 h Q) : CH l yL_length cL_length 7 (some .int) [(0, 14, 17, 13), (0, 14, 21, 15)] 8 2 12 [.ref v0, .int v1, .int v2, .int v3, .int v4, .ref v5] h (QI Q) := by
  refine CH.of (by decide) ⟨rfl, ⟨rfl, ⟨rfl, ⟨rfl, ⟨rfl, ⟨rfl, trivial⟩⟩⟩⟩⟩⟩ (Nat.le_of_ble_eq_true rfl) ?_
  intro p e s m args below meth c g C hr htab
  refine v_eq (pc' := 0) (ls' := [(0, .ref v0), (1, .int v1), (2, .int v2), (3, .int v3), (4, .int v4), (5, .ref v5)]) rfl rfl rfl rfl ?_
  refine v_aload C dL_length_0 5 rfl ?_
  refine v_iconst (v := 0) C dL_length_2 (by decide) ?_
  refine v_aload_n C dL_length_3 0 rfl rfl ?_
  refine v_iload_n C dL_length_4 1 rfl rfl ?_
  refine v_iload_n C dL_length_5 2 rfl rfl ?_
  refine v_iload_n C dL_length_6 3 rfl rfl ?_
  refine v_iload C dL_length_7 4 rfl ?_
  refine w_callXVi (st := [.int (0 : Int32), .ref v5]) C cl_L_91 lk_L_91 im_X11_length se_X11_length rfl hw.1 (s_X11_length hw.2) rfl dL_length_9 rfl (Nat.le_of_ble_eq_true rfl) (by decide) (by decide) (by decide) (by decide) (fun E h hx => ?_) (fun x1 h hw => ?_)
  · skip
    by_cases e0 : E = "java/lang/IndexOutOfBoundsException"
    · subst e0
      have hw := hx.1 rfl
      refine v_catch (hh := [(0, 14, 17, 13), (0, 14, 21, 15)]) (name := "java/lang/IndexOutOfBoundsException") C htab [] ⟨0, 14, 17, 13⟩ [⟨0, 14, 21, 15⟩] rfl (fun _ h => nomatch h) (by decide) (by decide) (tb3 (List.mem_of_getElem? (i := 89) rfl)) (tb3 (List.mem_of_getElem? (i := 103) rfl)) 17 rfl (fun q => ?_)
      refine v_sub [] rfl ?_
      exact s_L_length_17 C hr htab  q h (hw q)
    have hx := hx.2 e0
    by_cases e1 : E = "java/lang/IllegalArgumentException"
    · subst e1
      have hw := hx.1 rfl
      refine v_catch (hh := [(0, 14, 17, 13), (0, 14, 21, 15)]) (name := "java/lang/IllegalArgumentException") C htab [⟨0, 14, 17, 13⟩] ⟨0, 14, 21, 15⟩ [] rfl (List.forall_mem_cons.mpr ⟨⟨by decide, "java/lang/IndexOutOfBoundsException", (tb3 (List.mem_of_getElem? (i := 89) rfl)), List.mem_of_getElem? (i := 3) rfl⟩, fun _ h => nomatch h⟩) (by decide) (by decide) (tb3 (List.mem_of_getElem? (i := 90) rfl)) (tb3 (List.mem_of_getElem? (i := 178) rfl)) 21 rfl (fun q => ?_)
      refine v_sub [] rfl ?_
      exact s_L_length_21 C hr htab  q h (hw q)
    have hx := hx.2 e1
    exact hx.elim
  · skip
    refine v_i2l C dL_length_12 ?_
    refine w_lastore C dL_length_13 hw (fun h hw => ?_)
    refine v_goto (tgt := 25) C dL_length_14 (by decide) ?_
    refine v_iconst (v := 0) C dL_length_25 (by decide) ?_
    exact (rt_VX C _ _).1 _ _ _ _ _ _ hr dL_length_26 (by decide) (by decide) ⟨_, rfl, hw⟩
-- GrassFieldLaw.look(LGrassField;II[J)I
theorem dL_look_0 : decode cL_look 0 = .ok (.aload_n 3, 1) := by decide +kernel
theorem dL_look_1 : decode cL_look 1 = .ok (.iconst 0, 1) := by decide +kernel
theorem dL_look_2 : decode cL_look 2 = .ok (.aload_n 0, 1) := by decide +kernel
theorem dL_look_3 : decode cL_look 3 = .ok (.iload_n 1, 1) := by decide +kernel
theorem dL_look_4 : decode cL_look 4 = .ok (.iload_n 2, 1) := by decide +kernel
theorem dL_look_5 : decode cL_look 5 = .ok (.invokevirtual 42, 3) := by decide +kernel
theorem dL_look_8 : decode cL_look 8 = .ok (.i2l, 1) := by decide +kernel
theorem dL_look_9 : decode cL_look 9 = .ok (.lastore, 1) := by decide +kernel
theorem dL_look_10 : decode cL_look 10 = .ok (.goto 11, 3) := by decide +kernel
theorem dL_look_13 : decode cL_look 13 = .ok (.astore 4, 2) := by decide +kernel
theorem dL_look_15 : decode cL_look 15 = .ok (.iconst 1, 1) := by decide +kernel
theorem dL_look_16 : decode cL_look 16 = .ok (.ireturn, 1) := by decide +kernel
theorem dL_look_17 : decode cL_look 17 = .ok (.astore 4, 2) := by decide +kernel
theorem dL_look_19 : decode cL_look 19 = .ok (.iconst 2, 1) := by decide +kernel
theorem dL_look_20 : decode cL_look 20 = .ok (.ireturn, 1) := by decide +kernel
theorem dL_look_21 : decode cL_look 21 = .ok (.iconst 0, 1) := by decide +kernel
theorem dL_look_22 : decode cL_look 22 = .ok (.ireturn, 1) := by decide +kernel
def w_L_look_17  (t0 : Nat) (h : AH) (Q : Int32 → AH → Prop) : Prop :=
  Q (2 : Int32) h
def w_L_look_13  (t0 : Nat) (h : AH) (Q : Int32 → AH → Prop) : Prop :=
  Q (1 : Int32) h
def w_L_look  (v0 : Nat) (v1 : Int32) (v2 : Int32) (v3 : Nat) (h : AH) (Q : Int32 → AH → Prop) : Prop :=
  vr h v0 11 (
  w_X11_look v0 v1 v2 h (fun x1 h =>
    tJ h v3 (0 : Int32) x1.toInt64 fun h =>
    Q (0 : Int32) h) (fun E h => br (E = "java/lang/IndexOutOfBoundsException") (∀ q, w_L_look_13  q h Q) (br (E = "java/util/NoSuchElementException") (∀ q, w_L_look_17  q h Q) (False))))
set_option maxRecDepth 100000 in
set_option maxHeartbeats 4000000 in
theorem s_L_look_17 {p : Program} {l : Launch} {e : Env} {s : State} {m : MethodId} {args : Array Value} {below : List Frame} {meth : Method} {c : Code} {g : GG}  {Q : Int32 → AH → Prop}  (C : CXT p l s m args meth c RL cL_look 5 g) (hr : meth.sig.returnType = (some .int)) (htab : c.exceptionTable.toList = tableOf [(0, 10, 13, 13), (0, 10, 17, 46)])  : ∀ (t0 : Nat) (h : AH), w_L_look_17  t0 h Q → V p l e s m args below meth c g 8 2 12 5 2 12 (vx_MQ below (QCx g (QI Q)) (XCx g noX) args s 2 12 (gA g)) 17 [] [.ref t0] h := by
  intro t0 h hw
  refine v_astore (ls' := [(4, .ref t0)]) C dL_look_17 (by decide) rfl ?_
  refine v_iconst (v := 2) C dL_look_19 (by decide) ?_
  exact (rt_VX C _ _).1 _ _ _ _ _ _ hr dL_look_20 (by decide) (by decide) ⟨_, rfl, hw⟩
set_option maxRecDepth 100000 in
set_option maxHeartbeats 4000000 in
theorem s_L_look_13 {p : Program} {l : Launch} {e : Env} {s : State} {m : MethodId} {args : Array Value} {below : List Frame} {meth : Method} {c : Code} {g : GG}  {Q : Int32 → AH → Prop}  (C : CXT p l s m args meth c RL cL_look 5 g) (hr : meth.sig.returnType = (some .int)) (htab : c.exceptionTable.toList = tableOf [(0, 10, 13, 13), (0, 10, 17, 46)])  : ∀ (t0 : Nat) (h : AH), w_L_look_13  t0 h Q → V p l e s m args below meth c g 8 2 12 5 2 12 (vx_MQ below (QCx g (QI Q)) (XCx g noX) args s 2 12 (gA g)) 13 [] [.ref t0] h := by
  intro t0 h hw
  refine v_astore (ls' := [(4, .ref t0)]) C dL_look_13 (by decide) rfl ?_
  refine v_iconst (v := 1) C dL_look_15 (by decide) ?_
  exact (rt_VX C _ _).1 _ _ _ _ _ _ hr dL_look_16 (by decide) (by decide) ⟨_, rfl, hw⟩
set_option maxRecDepth 100000 in
set_option maxHeartbeats 4000000 in
theorem s_L_look {l : Launch}  {v0 : Nat} {v1 : Int32} {v2 : Int32} {v3 : Nat} {h : AH} {Q : Int32 → AH → Prop}  (hw : w_L_look  v0 v1 v2 v3 h Q) : CH l yL_look cL_look 5 (some .int) [(0, 10, 13, 13), (0, 10, 17, 46)] 8 2 12 [.ref v0, .int v1, .int v2, .ref v3] h (QI Q) := by
  refine CH.of (by decide) ⟨rfl, ⟨rfl, ⟨rfl, ⟨rfl, trivial⟩⟩⟩⟩ (Nat.le_of_ble_eq_true rfl) ?_
  intro p e s m args below meth c g C hr htab
  refine v_eq (pc' := 0) (ls' := [(0, .ref v0), (1, .int v1), (2, .int v2), (3, .ref v3)]) rfl rfl rfl rfl ?_
  refine v_aload_n C dL_look_0 3 rfl rfl ?_
  refine v_iconst (v := 0) C dL_look_1 (by decide) ?_
  refine v_aload_n C dL_look_2 0 rfl rfl ?_
  refine v_iload_n C dL_look_3 1 rfl rfl ?_
  refine v_iload_n C dL_look_4 2 rfl rfl ?_
  refine w_callXVi (st := [.int (0 : Int32), .ref v3]) C cl_L_42 lk_L_42 im_X11_look se_X11_look rfl hw.1 (s_X11_look hw.2) rfl dL_look_5 rfl (Nat.le_of_ble_eq_true rfl) (by decide) (by decide) (by decide) (by decide) (fun E h hx => ?_) (fun x1 h hw => ?_)
  · skip
    by_cases e0 : E = "java/lang/IndexOutOfBoundsException"
    · subst e0
      have hw := hx.1 rfl
      refine v_catch (hh := [(0, 10, 13, 13), (0, 10, 17, 46)]) (name := "java/lang/IndexOutOfBoundsException") C htab [] ⟨0, 10, 13, 13⟩ [⟨0, 10, 17, 46⟩] rfl (fun _ h => nomatch h) (by decide) (by decide) (tb3 (List.mem_of_getElem? (i := 89) rfl)) (tb3 (List.mem_of_getElem? (i := 103) rfl)) 13 rfl (fun q => ?_)
      refine v_sub [] rfl ?_
      exact s_L_look_13 C hr htab  q h (hw q)
    have hx := hx.2 e0
    by_cases e1 : E = "java/util/NoSuchElementException"
    · subst e1
      have hw := hx.1 rfl
      refine v_catch (hh := [(0, 10, 13, 13), (0, 10, 17, 46)]) (name := "java/util/NoSuchElementException") C htab [⟨0, 10, 13, 13⟩] ⟨0, 10, 17, 46⟩ [] rfl (List.forall_mem_cons.mpr ⟨⟨by decide, "java/lang/IndexOutOfBoundsException", (tb3 (List.mem_of_getElem? (i := 89) rfl)), List.mem_of_getElem? (i := 9) rfl⟩, fun _ h => nomatch h⟩) (by decide) (by decide) (tb5 (List.mem_of_getElem? (i := 23) rfl)) (tb5 (List.mem_of_getElem? (i := 47) rfl)) 17 rfl (fun q => ?_)
      refine v_sub [] rfl ?_
      exact s_L_look_17 C hr htab  q h (hw q)
    have hx := hx.2 e1
    exact hx.elim
  · skip
    refine v_i2l C dL_look_8 ?_
    refine w_lastore C dL_look_9 hw (fun h hw => ?_)
    refine v_goto (tgt := 21) C dL_look_10 (by decide) ?_
    refine v_iconst (v := 0) C dL_look_21 (by decide) ?_
    exact (rt_VX C _ _).1 _ _ _ _ _ _ hr dL_look_22 (by decide) (by decide) ⟨_, rfl, hw⟩
-- GrassFieldLaw.machine(LGrassField;II)I
theorem dL_machine_0 : decode cL_machine 0 = .ok (.aload_n 0, 1) := by decide +kernel
theorem dL_machine_1 : decode cL_machine 1 = .ok (.iload_n 1, 1) := by decide +kernel
theorem dL_machine_2 : decode cL_machine 2 = .ok (.iload_n 2, 1) := by decide +kernel
theorem dL_machine_3 : decode cL_machine 3 = .ok (.invokevirtual 64, 3) := by decide +kernel
theorem dL_machine_6 : decode cL_machine 6 = .ok (.goto 6, 3) := by decide +kernel
theorem dL_machine_9 : decode cL_machine 9 = .ok (.astore_n 3, 1) := by decide +kernel
theorem dL_machine_10 : decode cL_machine 10 = .ok (.iconst 1, 1) := by decide +kernel
theorem dL_machine_11 : decode cL_machine 11 = .ok (.ireturn, 1) := by decide +kernel
theorem dL_machine_12 : decode cL_machine 12 = .ok (.iconst 0, 1) := by decide +kernel
theorem dL_machine_13 : decode cL_machine 13 = .ok (.ireturn, 1) := by decide +kernel
def w_L_machine_9  (t0 : Nat) (h : AH) (Q : Int32 → AH → Prop) : Prop :=
  Q (1 : Int32) h
def w_L_machine  (v0 : Nat) (v1 : Int32) (v2 : Int32) (h : AH) (Q : Int32 → AH → Prop) : Prop :=
  vr h v0 11 (
  w_X11_machine v0 v1 v2 h (fun h =>
    Q (0 : Int32) h) (fun E h => br (E = "java/lang/IllegalArgumentException") (∀ q, w_L_machine_9  q h Q) (False)))
set_option maxRecDepth 100000 in
set_option maxHeartbeats 4000000 in
theorem s_L_machine_9 {p : Program} {l : Launch} {e : Env} {s : State} {m : MethodId} {args : Array Value} {below : List Frame} {meth : Method} {c : Code} {g : GG}  {Q : Int32 → AH → Prop}  (C : CXT p l s m args meth c RL cL_machine 4 g) (hr : meth.sig.returnType = (some .int)) (htab : c.exceptionTable.toList = tableOf [(0, 6, 9, 15)])  : ∀ (t0 : Nat) (h : AH), w_L_machine_9  t0 h Q → V p l e s m args below meth c g 8 1 6 4 1 6 (vx_MQ below (QCx g (QI Q)) (XCx g noX) args s 1 6 (gA g)) 9 [] [.ref t0] h := by
  intro t0 h hw
  refine v_astore_n (ls' := [(3, .ref t0)]) C dL_machine_9 rfl (by decide) rfl ?_
  refine v_iconst (v := 1) C dL_machine_10 (by decide) ?_
  exact (rt_VX C _ _).1 _ _ _ _ _ _ hr dL_machine_11 (by decide) (by decide) ⟨_, rfl, hw⟩
set_option maxRecDepth 100000 in
set_option maxHeartbeats 4000000 in
theorem s_L_machine {l : Launch}  {v0 : Nat} {v1 : Int32} {v2 : Int32} {h : AH} {Q : Int32 → AH → Prop}  (hw : w_L_machine  v0 v1 v2 h Q) : CH l yL_machine cL_machine 4 (some .int) [(0, 6, 9, 15)] 8 1 6 [.ref v0, .int v1, .int v2] h (QI Q) := by
  refine CH.of (by decide) ⟨rfl, ⟨rfl, ⟨rfl, trivial⟩⟩⟩ (Nat.le_of_ble_eq_true rfl) ?_
  intro p e s m args below meth c g C hr htab
  refine v_eq (pc' := 0) (ls' := [(0, .ref v0), (1, .int v1), (2, .int v2)]) rfl rfl rfl rfl ?_
  refine v_aload_n C dL_machine_0 0 rfl rfl ?_
  refine v_iload_n C dL_machine_1 1 rfl rfl ?_
  refine v_iload_n C dL_machine_2 2 rfl rfl ?_
  refine w_callXVv (st := []) C cl_L_64 lk_L_64 im_X11_machine se_X11_machine rfl hw.1 (s_X11_machine hw.2) rfl dL_machine_3 rfl (by decide) (by decide) (by decide) (by decide) (by decide) (fun E h hx => ?_) (fun h hw => ?_)
  · skip
    by_cases e0 : E = "java/lang/IllegalArgumentException"
    · subst e0
      have hw := hx.1 rfl
      refine v_catch (hh := [(0, 6, 9, 15)]) (name := "java/lang/IllegalArgumentException") C htab [] ⟨0, 6, 9, 15⟩ [] rfl (fun _ h => nomatch h) (by decide) (by decide) (tb3 (List.mem_of_getElem? (i := 90) rfl)) (tb3 (List.mem_of_getElem? (i := 178) rfl)) 9 rfl (fun q => ?_)
      refine v_sub [] rfl ?_
      exact s_L_machine_9 C hr htab  q h (hw q)
    have hx := hx.2 e0
    exact hx.elim
  · skip
    refine v_goto (tgt := 12) C dL_machine_6 (by decide) ?_
    refine v_iconst (v := 0) C dL_machine_12 (by decide) ?_
    exact (rt_VX C _ _).1 _ _ _ _ _ _ hr dL_machine_13 (by decide) (by decide) ⟨_, rfl, hw⟩
-- GrassFieldLaw.needed(LGrassField;II[J)I
theorem dL_needed_0 : decode cL_needed 0 = .ok (.aload_n 3, 1) := by decide +kernel
theorem dL_needed_1 : decode cL_needed 1 = .ok (.iconst 0, 1) := by decide +kernel
theorem dL_needed_2 : decode cL_needed 2 = .ok (.aload_n 0, 1) := by decide +kernel
theorem dL_needed_3 : decode cL_needed 3 = .ok (.iload_n 1, 1) := by decide +kernel
theorem dL_needed_4 : decode cL_needed 4 = .ok (.iload_n 2, 1) := by decide +kernel
theorem dL_needed_5 : decode cL_needed 5 = .ok (.invokevirtual 71, 3) := by decide +kernel
theorem dL_needed_8 : decode cL_needed 8 = .ok (.i2l, 1) := by decide +kernel
theorem dL_needed_9 : decode cL_needed 9 = .ok (.lastore, 1) := by decide +kernel
theorem dL_needed_10 : decode cL_needed 10 = .ok (.goto 7, 3) := by decide +kernel
theorem dL_needed_13 : decode cL_needed 13 = .ok (.astore 4, 2) := by decide +kernel
theorem dL_needed_15 : decode cL_needed 15 = .ok (.iconst 1, 1) := by decide +kernel
theorem dL_needed_16 : decode cL_needed 16 = .ok (.ireturn, 1) := by decide +kernel
theorem dL_needed_17 : decode cL_needed 17 = .ok (.iconst 0, 1) := by decide +kernel
theorem dL_needed_18 : decode cL_needed 18 = .ok (.ireturn, 1) := by decide +kernel
def w_L_needed_13  (t0 : Nat) (h : AH) (Q : Int32 → AH → Prop) : Prop :=
  Q (1 : Int32) h
def w_L_needed  (v0 : Nat) (v1 : Int32) (v2 : Int32) (v3 : Nat) (h : AH) (Q : Int32 → AH → Prop) : Prop :=
  vr h v0 11 (
  w_X11_needed v0 v1 v2 h (fun x1 h =>
    tJ h v3 (0 : Int32) x1.toInt64 fun h =>
    Q (0 : Int32) h) (fun E h => br (E = "java/lang/IndexOutOfBoundsException") (∀ q, w_L_needed_13  q h Q) (False)))
set_option maxRecDepth 100000 in
set_option maxHeartbeats 4000000 in
theorem s_L_needed_13 {p : Program} {l : Launch} {e : Env} {s : State} {m : MethodId} {args : Array Value} {below : List Frame} {meth : Method} {c : Code} {g : GG}  {Q : Int32 → AH → Prop}  (C : CXT p l s m args meth c RL cL_needed 5 g) (hr : meth.sig.returnType = (some .int)) (htab : c.exceptionTable.toList = tableOf [(0, 10, 13, 13)])  : ∀ (t0 : Nat) (h : AH), w_L_needed_13  t0 h Q → V p l e s m args below meth c g 9 2 12 5 2 12 (vx_MQ below (QCx g (QI Q)) (XCx g noX) args s 2 12 (gA g)) 13 [] [.ref t0] h := by
  intro t0 h hw
  refine v_astore (ls' := [(4, .ref t0)]) C dL_needed_13 (by decide) rfl ?_
  refine v_iconst (v := 1) C dL_needed_15 (by decide) ?_
  exact (rt_VX C _ _).1 _ _ _ _ _ _ hr dL_needed_16 (by decide) (by decide) ⟨_, rfl, hw⟩
set_option maxRecDepth 100000 in
set_option maxHeartbeats 4000000 in
theorem s_L_needed {l : Launch}  {v0 : Nat} {v1 : Int32} {v2 : Int32} {v3 : Nat} {h : AH} {Q : Int32 → AH → Prop}  (hw : w_L_needed  v0 v1 v2 v3 h Q) : CH l yL_needed cL_needed 5 (some .int) [(0, 10, 13, 13)] 9 2 12 [.ref v0, .int v1, .int v2, .ref v3] h (QI Q) := by
  refine CH.of (by decide) ⟨rfl, ⟨rfl, ⟨rfl, ⟨rfl, trivial⟩⟩⟩⟩ (Nat.le_of_ble_eq_true rfl) ?_
  intro p e s m args below meth c g C hr htab
  refine v_eq (pc' := 0) (ls' := [(0, .ref v0), (1, .int v1), (2, .int v2), (3, .ref v3)]) rfl rfl rfl rfl ?_
  refine v_aload_n C dL_needed_0 3 rfl rfl ?_
  refine v_iconst (v := 0) C dL_needed_1 (by decide) ?_
  refine v_aload_n C dL_needed_2 0 rfl rfl ?_
  refine v_iload_n C dL_needed_3 1 rfl rfl ?_
  refine v_iload_n C dL_needed_4 2 rfl rfl ?_
  refine w_callXVi (st := [.int (0 : Int32), .ref v3]) C cl_L_71 lk_L_71 im_X11_needed se_X11_needed rfl hw.1 (s_X11_needed hw.2) rfl dL_needed_5 rfl (Nat.le_of_ble_eq_true rfl) (by decide) (by decide) (by decide) (by decide) (fun E h hx => ?_) (fun x1 h hw => ?_)
  · skip
    by_cases e0 : E = "java/lang/IndexOutOfBoundsException"
    · subst e0
      have hw := hx.1 rfl
      refine v_catch (hh := [(0, 10, 13, 13)]) (name := "java/lang/IndexOutOfBoundsException") C htab [] ⟨0, 10, 13, 13⟩ [] rfl (fun _ h => nomatch h) (by decide) (by decide) (tb3 (List.mem_of_getElem? (i := 89) rfl)) (tb3 (List.mem_of_getElem? (i := 103) rfl)) 13 rfl (fun q => ?_)
      refine v_sub [] rfl ?_
      exact s_L_needed_13 C hr htab  q h (hw q)
    have hx := hx.2 e0
    exact hx.elim
  · skip
    refine v_i2l C dL_needed_8 ?_
    refine w_lastore C dL_needed_9 hw (fun h hw => ?_)
    refine v_goto (tgt := 17) C dL_needed_10 (by decide) ?_
    refine v_iconst (v := 0) C dL_needed_17 (by decide) ?_
    exact (rt_VX C _ _).1 _ _ _ _ _ _ hr dL_needed_18 (by decide) (by decide) ⟨_, rfl, hw⟩
-- GrassFieldLaw.odds(LGrassField;I[J)I
theorem dL_odds_0 : decode cL_odds 0 = .ok (.aload_n 2, 1) := by decide +kernel
theorem dL_odds_1 : decode cL_odds 1 = .ok (.iconst 0, 1) := by decide +kernel
theorem dL_odds_2 : decode cL_odds 2 = .ok (.aload_n 0, 1) := by decide +kernel
theorem dL_odds_3 : decode cL_odds 3 = .ok (.iload_n 1, 1) := by decide +kernel
theorem dL_odds_4 : decode cL_odds 4 = .ok (.invokevirtual 124, 3) := by decide +kernel
theorem dL_odds_7 : decode cL_odds 7 = .ok (.i2l, 1) := by decide +kernel
theorem dL_odds_8 : decode cL_odds 8 = .ok (.lastore, 1) := by decide +kernel
theorem dL_odds_9 : decode cL_odds 9 = .ok (.goto 6, 3) := by decide +kernel
theorem dL_odds_12 : decode cL_odds 12 = .ok (.astore_n 3, 1) := by decide +kernel
theorem dL_odds_13 : decode cL_odds 13 = .ok (.iconst 1, 1) := by decide +kernel
theorem dL_odds_14 : decode cL_odds 14 = .ok (.ireturn, 1) := by decide +kernel
theorem dL_odds_15 : decode cL_odds 15 = .ok (.iconst 0, 1) := by decide +kernel
theorem dL_odds_16 : decode cL_odds 16 = .ok (.ireturn, 1) := by decide +kernel
def w_L_odds_12  (t0 : Nat) (h : AH) (Q : Int32 → AH → Prop) : Prop :=
  Q (1 : Int32) h
def w_L_odds  (v0 : Nat) (v1 : Int32) (v2 : Nat) (h : AH) (Q : Int32 → AH → Prop) : Prop :=
  vr h v0 11 (
  w_X11_odds v0 v1 h (fun x1 h =>
    tJ h v2 (0 : Int32) x1.toInt64 fun h =>
    Q (0 : Int32) h) (fun E h => br (E = "java/lang/IndexOutOfBoundsException") (∀ q, w_L_odds_12  q h Q) (False)))
set_option maxRecDepth 100000 in
set_option maxHeartbeats 4000000 in
theorem s_L_odds_12 {p : Program} {l : Launch} {e : Env} {s : State} {m : MethodId} {args : Array Value} {below : List Frame} {meth : Method} {c : Code} {g : GG}  {Q : Int32 → AH → Prop}  (C : CXT p l s m args meth c RL cL_odds 4 g) (hr : meth.sig.returnType = (some .int)) (htab : c.exceptionTable.toList = tableOf [(0, 9, 12, 13)])  : ∀ (t0 : Nat) (h : AH), w_L_odds_12  t0 h Q → V p l e s m args below meth c g 8 1 6 4 1 6 (vx_MQ below (QCx g (QI Q)) (XCx g noX) args s 1 6 (gA g)) 12 [] [.ref t0] h := by
  intro t0 h hw
  refine v_astore_n (ls' := [(3, .ref t0)]) C dL_odds_12 rfl (by decide) rfl ?_
  refine v_iconst (v := 1) C dL_odds_13 (by decide) ?_
  exact (rt_VX C _ _).1 _ _ _ _ _ _ hr dL_odds_14 (by decide) (by decide) ⟨_, rfl, hw⟩
set_option maxRecDepth 100000 in
set_option maxHeartbeats 4000000 in
theorem s_L_odds {l : Launch}  {v0 : Nat} {v1 : Int32} {v2 : Nat} {h : AH} {Q : Int32 → AH → Prop}  (hw : w_L_odds  v0 v1 v2 h Q) : CH l yL_odds cL_odds 4 (some .int) [(0, 9, 12, 13)] 8 1 6 [.ref v0, .int v1, .ref v2] h (QI Q) := by
  refine CH.of (by decide) ⟨rfl, ⟨rfl, ⟨rfl, trivial⟩⟩⟩ (Nat.le_of_ble_eq_true rfl) ?_
  intro p e s m args below meth c g C hr htab
  refine v_eq (pc' := 0) (ls' := [(0, .ref v0), (1, .int v1), (2, .ref v2)]) rfl rfl rfl rfl ?_
  refine v_aload_n C dL_odds_0 2 rfl rfl ?_
  refine v_iconst (v := 0) C dL_odds_1 (by decide) ?_
  refine v_aload_n C dL_odds_2 0 rfl rfl ?_
  refine v_iload_n C dL_odds_3 1 rfl rfl ?_
  refine w_callXVi (st := [.int (0 : Int32), .ref v2]) C cl_L_124 lk_L_124 im_X11_odds se_X11_odds rfl hw.1 (s_X11_odds hw.2) rfl dL_odds_4 rfl (Nat.le_of_ble_eq_true rfl) (by decide) (by decide) (by decide) (by decide) (fun E h hx => ?_) (fun x1 h hw => ?_)
  · skip
    by_cases e0 : E = "java/lang/IndexOutOfBoundsException"
    · subst e0
      have hw := hx.1 rfl
      refine v_catch (hh := [(0, 9, 12, 13)]) (name := "java/lang/IndexOutOfBoundsException") C htab [] ⟨0, 9, 12, 13⟩ [] rfl (fun _ h => nomatch h) (by decide) (by decide) (tb3 (List.mem_of_getElem? (i := 89) rfl)) (tb3 (List.mem_of_getElem? (i := 103) rfl)) 12 rfl (fun q => ?_)
      refine v_sub [] rfl ?_
      exact s_L_odds_12 C hr htab  q h (hw q)
    have hx := hx.2 e0
    exact hx.elim
  · skip
    refine v_i2l C dL_odds_7 ?_
    refine w_lastore C dL_odds_8 hw (fun h hw => ?_)
    refine v_goto (tgt := 15) C dL_odds_9 (by decide) ?_
    refine v_iconst (v := 0) C dL_odds_15 (by decide) ?_
    exact (rt_VX C _ _).1 _ _ _ _ _ _ hr dL_odds_16 (by decide) (by decide) ⟨_, rfl, hw⟩
-- GrassFieldLaw.other(LGrassField;IIII[J)I
theorem dL_other_0 : decode cL_other 0 = .ok (.aload 5, 2) := by decide +kernel
theorem dL_other_2 : decode cL_other 2 = .ok (.iconst 0, 1) := by decide +kernel
theorem dL_other_3 : decode cL_other 3 = .ok (.aload_n 0, 1) := by decide +kernel
theorem dL_other_4 : decode cL_other 4 = .ok (.iload_n 1, 1) := by decide +kernel
theorem dL_other_5 : decode cL_other 5 = .ok (.iload_n 2, 1) := by decide +kernel
theorem dL_other_6 : decode cL_other 6 = .ok (.iload_n 3, 1) := by decide +kernel
theorem dL_other_7 : decode cL_other 7 = .ok (.iload 4, 2) := by decide +kernel
theorem dL_other_9 : decode cL_other 9 = .ok (.invokevirtual 55, 3) := by decide +kernel
theorem dL_other_12 : decode cL_other 12 = .ok (.i2l, 1) := by decide +kernel
theorem dL_other_13 : decode cL_other 13 = .ok (.lastore, 1) := by decide +kernel
theorem dL_other_14 : decode cL_other 14 = .ok (.goto 15, 3) := by decide +kernel
theorem dL_other_17 : decode cL_other 17 = .ok (.astore 6, 2) := by decide +kernel
theorem dL_other_19 : decode cL_other 19 = .ok (.iconst 1, 1) := by decide +kernel
theorem dL_other_20 : decode cL_other 20 = .ok (.ireturn, 1) := by decide +kernel
theorem dL_other_21 : decode cL_other 21 = .ok (.astore 6, 2) := by decide +kernel
theorem dL_other_23 : decode cL_other 23 = .ok (.iconst 2, 1) := by decide +kernel
theorem dL_other_24 : decode cL_other 24 = .ok (.ireturn, 1) := by decide +kernel
theorem dL_other_25 : decode cL_other 25 = .ok (.astore 6, 2) := by decide +kernel
theorem dL_other_27 : decode cL_other 27 = .ok (.iconst 3, 1) := by decide +kernel
theorem dL_other_28 : decode cL_other 28 = .ok (.ireturn, 1) := by decide +kernel
theorem dL_other_29 : decode cL_other 29 = .ok (.iconst 0, 1) := by decide +kernel
theorem dL_other_30 : decode cL_other 30 = .ok (.ireturn, 1) := by decide +kernel
def w_L_other_25  (t0 : Nat) (h : AH) (Q : Int32 → AH → Prop) : Prop :=
  Q (3 : Int32) h
def w_L_other_21  (t0 : Nat) (h : AH) (Q : Int32 → AH → Prop) : Prop :=
  Q (2 : Int32) h
def w_L_other_17  (t0 : Nat) (h : AH) (Q : Int32 → AH → Prop) : Prop :=
  Q (1 : Int32) h
def w_L_other  (v0 : Nat) (v1 : Int32) (v2 : Int32) (v3 : Int32) (v4 : Int32) (v5 : Nat) (h : AH) (Q : Int32 → AH → Prop) : Prop :=
  vr h v0 11 (
  w_X11_other v0 v1 v2 v3 v4 h (fun x1 h =>
    tJ h v5 (0 : Int32) x1.toInt64 fun h =>
    Q (0 : Int32) h) (fun E h => br (E = "java/lang/IndexOutOfBoundsException") (∀ q, w_L_other_17  q h Q) (br (E = "java/lang/IllegalArgumentException") (∀ q, w_L_other_21  q h Q) (br (E = "java/lang/UnsupportedOperationException") (∀ q, w_L_other_25  q h Q) (False)))))
set_option maxRecDepth 100000 in
set_option maxHeartbeats 4000000 in
theorem s_L_other_25 {p : Program} {l : Launch} {e : Env} {s : State} {m : MethodId} {args : Array Value} {below : List Frame} {meth : Method} {c : Code} {g : GG}  {Q : Int32 → AH → Prop}  (C : CXT p l s m args meth c RL cL_other 7 g) (hr : meth.sig.returnType = (some .int)) (htab : c.exceptionTable.toList = tableOf [(0, 14, 17, 13), (0, 14, 21, 15), (0, 14, 25, 29)])  : ∀ (t0 : Nat) (h : AH), w_L_other_25  t0 h Q → V p l e s m args below meth c g 9 3 18 7 3 18 (vx_MQ below (QCx g (QI Q)) (XCx g noX) args s 3 18 (gA g)) 25 [] [.ref t0] h := by
  intro t0 h hw
  refine v_astore (ls' := [(6, .ref t0)]) C dL_other_25 (by decide) rfl ?_
  refine v_iconst (v := 3) C dL_other_27 (by decide) ?_
  exact (rt_VX C _ _).1 _ _ _ _ _ _ hr dL_other_28 (by decide) (by decide) ⟨_, rfl, hw⟩
set_option maxRecDepth 100000 in
set_option maxHeartbeats 4000000 in
theorem s_L_other_21 {p : Program} {l : Launch} {e : Env} {s : State} {m : MethodId} {args : Array Value} {below : List Frame} {meth : Method} {c : Code} {g : GG}  {Q : Int32 → AH → Prop}  (C : CXT p l s m args meth c RL cL_other 7 g) (hr : meth.sig.returnType = (some .int)) (htab : c.exceptionTable.toList = tableOf [(0, 14, 17, 13), (0, 14, 21, 15), (0, 14, 25, 29)])  : ∀ (t0 : Nat) (h : AH), w_L_other_21  t0 h Q → V p l e s m args below meth c g 9 3 18 7 3 18 (vx_MQ below (QCx g (QI Q)) (XCx g noX) args s 3 18 (gA g)) 21 [] [.ref t0] h := by
  intro t0 h hw
  refine v_astore (ls' := [(6, .ref t0)]) C dL_other_21 (by decide) rfl ?_
  refine v_iconst (v := 2) C dL_other_23 (by decide) ?_
  exact (rt_VX C _ _).1 _ _ _ _ _ _ hr dL_other_24 (by decide) (by decide) ⟨_, rfl, hw⟩
set_option maxRecDepth 100000 in
set_option maxHeartbeats 4000000 in
theorem s_L_other_17 {p : Program} {l : Launch} {e : Env} {s : State} {m : MethodId} {args : Array Value} {below : List Frame} {meth : Method} {c : Code} {g : GG}  {Q : Int32 → AH → Prop}  (C : CXT p l s m args meth c RL cL_other 7 g) (hr : meth.sig.returnType = (some .int)) (htab : c.exceptionTable.toList = tableOf [(0, 14, 17, 13), (0, 14, 21, 15), (0, 14, 25, 29)])  : ∀ (t0 : Nat) (h : AH), w_L_other_17  t0 h Q → V p l e s m args below meth c g 9 3 18 7 3 18 (vx_MQ below (QCx g (QI Q)) (XCx g noX) args s 3 18 (gA g)) 17 [] [.ref t0] h := by
  intro t0 h hw
  refine v_astore (ls' := [(6, .ref t0)]) C dL_other_17 (by decide) rfl ?_
  refine v_iconst (v := 1) C dL_other_19 (by decide) ?_
  exact (rt_VX C _ _).1 _ _ _ _ _ _ hr dL_other_20 (by decide) (by decide) ⟨_, rfl, hw⟩
set_option maxRecDepth 100000 in
set_option maxHeartbeats 4000000 in
theorem s_L_other {l : Launch}  {v0 : Nat} {v1 : Int32} {v2 : Int32} {v3 : Int32} {v4 : Int32} {v5 : Nat} {h : AH} {Q : Int32 → AH → Prop}  (hw : w_L_other  v0 v1 v2 v3 v4 v5 h Q) : CH l yL_other cL_other 7 (some .int) [(0, 14, 17, 13), (0, 14, 21, 15), (0, 14, 25, 29)] 9 3 18 [.ref v0, .int v1, .int v2, .int v3, .int v4, .ref v5] h (QI Q) := by
  refine CH.of (by decide) ⟨rfl, ⟨rfl, ⟨rfl, ⟨rfl, ⟨rfl, ⟨rfl, trivial⟩⟩⟩⟩⟩⟩ (Nat.le_of_ble_eq_true rfl) ?_
  intro p e s m args below meth c g C hr htab
  refine v_eq (pc' := 0) (ls' := [(0, .ref v0), (1, .int v1), (2, .int v2), (3, .int v3), (4, .int v4), (5, .ref v5)]) rfl rfl rfl rfl ?_
  refine v_aload C dL_other_0 5 rfl ?_
  refine v_iconst (v := 0) C dL_other_2 (by decide) ?_
  refine v_aload_n C dL_other_3 0 rfl rfl ?_
  refine v_iload_n C dL_other_4 1 rfl rfl ?_
  refine v_iload_n C dL_other_5 2 rfl rfl ?_
  refine v_iload_n C dL_other_6 3 rfl rfl ?_
  refine v_iload C dL_other_7 4 rfl ?_
  refine w_callXVi (st := [.int (0 : Int32), .ref v5]) C cl_L_55 lk_L_55 im_X11_other se_X11_other rfl hw.1 (s_X11_other hw.2) rfl dL_other_9 rfl (Nat.le_of_ble_eq_true rfl) (by decide) (by decide) (by decide) (by decide) (fun E h hx => ?_) (fun x1 h hw => ?_)
  · skip
    by_cases e0 : E = "java/lang/IndexOutOfBoundsException"
    · subst e0
      have hw := hx.1 rfl
      refine v_catch (hh := [(0, 14, 17, 13), (0, 14, 21, 15), (0, 14, 25, 29)]) (name := "java/lang/IndexOutOfBoundsException") C htab [] ⟨0, 14, 17, 13⟩ [⟨0, 14, 21, 15⟩, ⟨0, 14, 25, 29⟩] rfl (fun _ h => nomatch h) (by decide) (by decide) (tb3 (List.mem_of_getElem? (i := 89) rfl)) (tb3 (List.mem_of_getElem? (i := 103) rfl)) 17 rfl (fun q => ?_)
      refine v_sub [] rfl ?_
      exact s_L_other_17 C hr htab  q h (hw q)
    have hx := hx.2 e0
    by_cases e1 : E = "java/lang/IllegalArgumentException"
    · subst e1
      have hw := hx.1 rfl
      refine v_catch (hh := [(0, 14, 17, 13), (0, 14, 21, 15), (0, 14, 25, 29)]) (name := "java/lang/IllegalArgumentException") C htab [⟨0, 14, 17, 13⟩] ⟨0, 14, 21, 15⟩ [⟨0, 14, 25, 29⟩] rfl (List.forall_mem_cons.mpr ⟨⟨by decide, "java/lang/IndexOutOfBoundsException", (tb3 (List.mem_of_getElem? (i := 89) rfl)), List.mem_of_getElem? (i := 3) rfl⟩, fun _ h => nomatch h⟩) (by decide) (by decide) (tb3 (List.mem_of_getElem? (i := 90) rfl)) (tb3 (List.mem_of_getElem? (i := 178) rfl)) 21 rfl (fun q => ?_)
      refine v_sub [] rfl ?_
      exact s_L_other_21 C hr htab  q h (hw q)
    have hx := hx.2 e1
    by_cases e2 : E = "java/lang/UnsupportedOperationException"
    · subst e2
      have hw := hx.1 rfl
      refine v_catch (hh := [(0, 14, 17, 13), (0, 14, 21, 15), (0, 14, 25, 29)]) (name := "java/lang/UnsupportedOperationException") C htab [⟨0, 14, 17, 13⟩, ⟨0, 14, 21, 15⟩] ⟨0, 14, 25, 29⟩ [] rfl (List.forall_mem_cons.mpr ⟨⟨by decide, "java/lang/IndexOutOfBoundsException", (tb3 (List.mem_of_getElem? (i := 89) rfl)), List.mem_of_getElem? (i := 6) rfl⟩, List.forall_mem_cons.mpr ⟨⟨by decide, "java/lang/IllegalArgumentException", (tb3 (List.mem_of_getElem? (i := 90) rfl)), List.mem_of_getElem? (i := 7) rfl⟩, fun _ h => nomatch h⟩⟩) (by decide) (by decide) (tb3 (List.mem_of_getElem? (i := 223) rfl)) (tb3 (List.mem_of_getElem? (i := 236) rfl)) 25 rfl (fun q => ?_)
      refine v_sub [] rfl ?_
      exact s_L_other_25 C hr htab  q h (hw q)
    have hx := hx.2 e2
    exact hx.elim
  · skip
    refine v_i2l C dL_other_12 ?_
    refine w_lastore C dL_other_13 hw (fun h hw => ?_)
    refine v_goto (tgt := 29) C dL_other_14 (by decide) ?_
    refine v_iconst (v := 0) C dL_other_29 (by decide) ?_
    exact (rt_VX C _ _).1 _ _ _ _ _ _ hr dL_other_30 (by decide) (by decide) ⟨_, rfl, hw⟩
-- GrassFieldLaw.person(LGrassField;IIII[J)I
theorem dL_person_0 : decode cL_person 0 = .ok (.aload 5, 2) := by decide +kernel
theorem dL_person_2 : decode cL_person 2 = .ok (.iconst 0, 1) := by decide +kernel
theorem dL_person_3 : decode cL_person 3 = .ok (.aload_n 0, 1) := by decide +kernel
theorem dL_person_4 : decode cL_person 4 = .ok (.iload_n 1, 1) := by decide +kernel
theorem dL_person_5 : decode cL_person 5 = .ok (.iload_n 2, 1) := by decide +kernel
theorem dL_person_6 : decode cL_person 6 = .ok (.iload_n 3, 1) := by decide +kernel
theorem dL_person_7 : decode cL_person 7 = .ok (.iload 4, 2) := by decide +kernel
theorem dL_person_9 : decode cL_person 9 = .ok (.invokevirtual 39, 3) := by decide +kernel
theorem dL_person_12 : decode cL_person 12 = .ok (.i2l, 1) := by decide +kernel
theorem dL_person_13 : decode cL_person 13 = .ok (.lastore, 1) := by decide +kernel
theorem dL_person_14 : decode cL_person 14 = .ok (.goto 15, 3) := by decide +kernel
theorem dL_person_17 : decode cL_person 17 = .ok (.astore 6, 2) := by decide +kernel
theorem dL_person_19 : decode cL_person 19 = .ok (.iconst 1, 1) := by decide +kernel
theorem dL_person_20 : decode cL_person 20 = .ok (.ireturn, 1) := by decide +kernel
theorem dL_person_21 : decode cL_person 21 = .ok (.astore 6, 2) := by decide +kernel
theorem dL_person_23 : decode cL_person 23 = .ok (.iconst 2, 1) := by decide +kernel
theorem dL_person_24 : decode cL_person 24 = .ok (.ireturn, 1) := by decide +kernel
theorem dL_person_25 : decode cL_person 25 = .ok (.astore 6, 2) := by decide +kernel
theorem dL_person_27 : decode cL_person 27 = .ok (.iconst 3, 1) := by decide +kernel
theorem dL_person_28 : decode cL_person 28 = .ok (.ireturn, 1) := by decide +kernel
theorem dL_person_29 : decode cL_person 29 = .ok (.iconst 0, 1) := by decide +kernel
theorem dL_person_30 : decode cL_person 30 = .ok (.ireturn, 1) := by decide +kernel
def w_L_person_25  (t0 : Nat) (h : AH) (Q : Int32 → AH → Prop) : Prop :=
  Q (3 : Int32) h
def w_L_person_21  (t0 : Nat) (h : AH) (Q : Int32 → AH → Prop) : Prop :=
  Q (2 : Int32) h
def w_L_person_17  (t0 : Nat) (h : AH) (Q : Int32 → AH → Prop) : Prop :=
  Q (1 : Int32) h
def w_L_person  (v0 : Nat) (v1 : Int32) (v2 : Int32) (v3 : Int32) (v4 : Int32) (v5 : Nat) (h : AH) (Q : Int32 → AH → Prop) : Prop :=
  vr h v0 11 (
  w_X11_person v0 v1 v2 v3 v4 h (fun x1 h =>
    tJ h v5 (0 : Int32) x1.toInt64 fun h =>
    Q (0 : Int32) h) (fun E h => br (E = "java/lang/IndexOutOfBoundsException") (∀ q, w_L_person_17  q h Q) (br (E = "java/lang/IllegalArgumentException") (∀ q, w_L_person_21  q h Q) (br (E = "java/lang/UnsupportedOperationException") (∀ q, w_L_person_25  q h Q) (False)))))
set_option maxRecDepth 100000 in
set_option maxHeartbeats 4000000 in
theorem s_L_person_25 {p : Program} {l : Launch} {e : Env} {s : State} {m : MethodId} {args : Array Value} {below : List Frame} {meth : Method} {c : Code} {g : GG}  {Q : Int32 → AH → Prop}  (C : CXT p l s m args meth c RL cL_person 7 g) (hr : meth.sig.returnType = (some .int)) (htab : c.exceptionTable.toList = tableOf [(0, 14, 17, 13), (0, 14, 21, 15), (0, 14, 25, 29)])  : ∀ (t0 : Nat) (h : AH), w_L_person_25  t0 h Q → V p l e s m args below meth c g 9 5 30 7 5 30 (vx_MQ below (QCx g (QI Q)) (XCx g noX) args s 5 30 (gA g)) 25 [] [.ref t0] h := by
  intro t0 h hw
  refine v_astore (ls' := [(6, .ref t0)]) C dL_person_25 (by decide) rfl ?_
  refine v_iconst (v := 3) C dL_person_27 (by decide) ?_
  exact (rt_VX C _ _).1 _ _ _ _ _ _ hr dL_person_28 (by decide) (by decide) ⟨_, rfl, hw⟩
set_option maxRecDepth 100000 in
set_option maxHeartbeats 4000000 in
theorem s_L_person_21 {p : Program} {l : Launch} {e : Env} {s : State} {m : MethodId} {args : Array Value} {below : List Frame} {meth : Method} {c : Code} {g : GG}  {Q : Int32 → AH → Prop}  (C : CXT p l s m args meth c RL cL_person 7 g) (hr : meth.sig.returnType = (some .int)) (htab : c.exceptionTable.toList = tableOf [(0, 14, 17, 13), (0, 14, 21, 15), (0, 14, 25, 29)])  : ∀ (t0 : Nat) (h : AH), w_L_person_21  t0 h Q → V p l e s m args below meth c g 9 5 30 7 5 30 (vx_MQ below (QCx g (QI Q)) (XCx g noX) args s 5 30 (gA g)) 21 [] [.ref t0] h := by
  intro t0 h hw
  refine v_astore (ls' := [(6, .ref t0)]) C dL_person_21 (by decide) rfl ?_
  refine v_iconst (v := 2) C dL_person_23 (by decide) ?_
  exact (rt_VX C _ _).1 _ _ _ _ _ _ hr dL_person_24 (by decide) (by decide) ⟨_, rfl, hw⟩
set_option maxRecDepth 100000 in
set_option maxHeartbeats 4000000 in
theorem s_L_person_17 {p : Program} {l : Launch} {e : Env} {s : State} {m : MethodId} {args : Array Value} {below : List Frame} {meth : Method} {c : Code} {g : GG}  {Q : Int32 → AH → Prop}  (C : CXT p l s m args meth c RL cL_person 7 g) (hr : meth.sig.returnType = (some .int)) (htab : c.exceptionTable.toList = tableOf [(0, 14, 17, 13), (0, 14, 21, 15), (0, 14, 25, 29)])  : ∀ (t0 : Nat) (h : AH), w_L_person_17  t0 h Q → V p l e s m args below meth c g 9 5 30 7 5 30 (vx_MQ below (QCx g (QI Q)) (XCx g noX) args s 5 30 (gA g)) 17 [] [.ref t0] h := by
  intro t0 h hw
  refine v_astore (ls' := [(6, .ref t0)]) C dL_person_17 (by decide) rfl ?_
  refine v_iconst (v := 1) C dL_person_19 (by decide) ?_
  exact (rt_VX C _ _).1 _ _ _ _ _ _ hr dL_person_20 (by decide) (by decide) ⟨_, rfl, hw⟩
set_option maxRecDepth 100000 in
set_option maxHeartbeats 4000000 in
theorem s_L_person {l : Launch}  {v0 : Nat} {v1 : Int32} {v2 : Int32} {v3 : Int32} {v4 : Int32} {v5 : Nat} {h : AH} {Q : Int32 → AH → Prop}  (hw : w_L_person  v0 v1 v2 v3 v4 v5 h Q) : CH l yL_person cL_person 7 (some .int) [(0, 14, 17, 13), (0, 14, 21, 15), (0, 14, 25, 29)] 9 5 30 [.ref v0, .int v1, .int v2, .int v3, .int v4, .ref v5] h (QI Q) := by
  refine CH.of (by decide) ⟨rfl, ⟨rfl, ⟨rfl, ⟨rfl, ⟨rfl, ⟨rfl, trivial⟩⟩⟩⟩⟩⟩ (Nat.le_of_ble_eq_true rfl) ?_
  intro p e s m args below meth c g C hr htab
  refine v_eq (pc' := 0) (ls' := [(0, .ref v0), (1, .int v1), (2, .int v2), (3, .int v3), (4, .int v4), (5, .ref v5)]) rfl rfl rfl rfl ?_
  refine v_aload C dL_person_0 5 rfl ?_
  refine v_iconst (v := 0) C dL_person_2 (by decide) ?_
  refine v_aload_n C dL_person_3 0 rfl rfl ?_
  refine v_iload_n C dL_person_4 1 rfl rfl ?_
  refine v_iload_n C dL_person_5 2 rfl rfl ?_
  refine v_iload_n C dL_person_6 3 rfl rfl ?_
  refine v_iload C dL_person_7 4 rfl ?_
  refine w_callXVi (st := [.int (0 : Int32), .ref v5]) C cl_L_39 lk_L_39 im_X11_person se_X11_person rfl hw.1 (s_X11_person hw.2) rfl dL_person_9 rfl (Nat.le_of_ble_eq_true rfl) (by decide) (by decide) (by decide) (by decide) (fun E h hx => ?_) (fun x1 h hw => ?_)
  · skip
    by_cases e0 : E = "java/lang/IndexOutOfBoundsException"
    · subst e0
      have hw := hx.1 rfl
      refine v_catch (hh := [(0, 14, 17, 13), (0, 14, 21, 15), (0, 14, 25, 29)]) (name := "java/lang/IndexOutOfBoundsException") C htab [] ⟨0, 14, 17, 13⟩ [⟨0, 14, 21, 15⟩, ⟨0, 14, 25, 29⟩] rfl (fun _ h => nomatch h) (by decide) (by decide) (tb3 (List.mem_of_getElem? (i := 89) rfl)) (tb3 (List.mem_of_getElem? (i := 103) rfl)) 17 rfl (fun q => ?_)
      refine v_sub [] rfl ?_
      exact s_L_person_17 C hr htab  q h (hw q)
    have hx := hx.2 e0
    by_cases e1 : E = "java/lang/IllegalArgumentException"
    · subst e1
      have hw := hx.1 rfl
      refine v_catch (hh := [(0, 14, 17, 13), (0, 14, 21, 15), (0, 14, 25, 29)]) (name := "java/lang/IllegalArgumentException") C htab [⟨0, 14, 17, 13⟩] ⟨0, 14, 21, 15⟩ [⟨0, 14, 25, 29⟩] rfl (List.forall_mem_cons.mpr ⟨⟨by decide, "java/lang/IndexOutOfBoundsException", (tb3 (List.mem_of_getElem? (i := 89) rfl)), List.mem_of_getElem? (i := 3) rfl⟩, fun _ h => nomatch h⟩) (by decide) (by decide) (tb3 (List.mem_of_getElem? (i := 90) rfl)) (tb3 (List.mem_of_getElem? (i := 178) rfl)) 21 rfl (fun q => ?_)
      refine v_sub [] rfl ?_
      exact s_L_person_21 C hr htab  q h (hw q)
    have hx := hx.2 e1
    by_cases e2 : E = "java/lang/UnsupportedOperationException"
    · subst e2
      have hw := hx.1 rfl
      refine v_catch (hh := [(0, 14, 17, 13), (0, 14, 21, 15), (0, 14, 25, 29)]) (name := "java/lang/UnsupportedOperationException") C htab [⟨0, 14, 17, 13⟩, ⟨0, 14, 21, 15⟩] ⟨0, 14, 25, 29⟩ [] rfl (List.forall_mem_cons.mpr ⟨⟨by decide, "java/lang/IndexOutOfBoundsException", (tb3 (List.mem_of_getElem? (i := 89) rfl)), List.mem_of_getElem? (i := 6) rfl⟩, List.forall_mem_cons.mpr ⟨⟨by decide, "java/lang/IllegalArgumentException", (tb3 (List.mem_of_getElem? (i := 90) rfl)), List.mem_of_getElem? (i := 7) rfl⟩, fun _ h => nomatch h⟩⟩) (by decide) (by decide) (tb3 (List.mem_of_getElem? (i := 223) rfl)) (tb3 (List.mem_of_getElem? (i := 236) rfl)) 25 rfl (fun q => ?_)
      refine v_sub [] rfl ?_
      exact s_L_person_25 C hr htab  q h (hw q)
    have hx := hx.2 e2
    exact hx.elim
  · skip
    refine v_i2l C dL_person_12 ?_
    refine w_lastore C dL_person_13 hw (fun h hw => ?_)
    refine v_goto (tgt := 29) C dL_person_14 (by decide) ?_
    refine v_iconst (v := 0) C dL_person_29 (by decide) ?_
    exact (rt_VX C _ _).1 _ _ _ _ _ _ hr dL_person_30 (by decide) (by decide) ⟨_, rfl, hw⟩
-- GrassFieldLaw.run(LGrassField;I[J)I
theorem dL_run_0 : decode cL_run 0 = .ok (.aload_n 2, 1) := by decide +kernel
theorem dL_run_1 : decode cL_run 1 = .ok (.iconst 0, 1) := by decide +kernel
theorem dL_run_2 : decode cL_run 2 = .ok (.aload_n 0, 1) := by decide +kernel
theorem dL_run_3 : decode cL_run 3 = .ok (.iload_n 1, 1) := by decide +kernel
theorem dL_run_4 : decode cL_run 4 = .ok (.invokevirtual 48, 3) := by decide +kernel
theorem dL_run_7 : decode cL_run 7 = .ok (.i2l, 1) := by decide +kernel
theorem dL_run_8 : decode cL_run 8 = .ok (.lastore, 1) := by decide +kernel
theorem dL_run_9 : decode cL_run 9 = .ok (.goto 6, 3) := by decide +kernel
theorem dL_run_12 : decode cL_run 12 = .ok (.astore_n 3, 1) := by decide +kernel
theorem dL_run_13 : decode cL_run 13 = .ok (.iconst 1, 1) := by decide +kernel
theorem dL_run_14 : decode cL_run 14 = .ok (.ireturn, 1) := by decide +kernel
theorem dL_run_15 : decode cL_run 15 = .ok (.iconst 0, 1) := by decide +kernel
theorem dL_run_16 : decode cL_run 16 = .ok (.ireturn, 1) := by decide +kernel
def w_L_run_12  (t0 : Nat) (h : AH) (Q : Int32 → AH → Prop) : Prop :=
  Q (1 : Int32) h
def w_L_run  (v0 : Nat) (v1 : Int32) (v2 : Nat) (h : AH) (Q : Int32 → AH → Prop) : Prop :=
  vr h v0 11 (
  w_X11_run v0 v1 h (fun x1 h =>
    tJ h v2 (0 : Int32) x1.toInt64 fun h =>
    Q (0 : Int32) h) (fun E h => br (E = "java/lang/IllegalArgumentException") (∀ q, w_L_run_12  q h Q) (False)))
set_option maxRecDepth 100000 in
set_option maxHeartbeats 4000000 in
theorem s_L_run_12 {p : Program} {l : Launch} {e : Env} {s : State} {m : MethodId} {args : Array Value} {below : List Frame} {meth : Method} {c : Code} {g : GG}  {Q : Int32 → AH → Prop}  (C : CXT p l s m args meth c RL cL_run 4 g) (hr : meth.sig.returnType = (some .int)) (htab : c.exceptionTable.toList = tableOf [(0, 9, 12, 15)])  : ∀ (t0 : Nat) (h : AH), w_L_run_12  t0 h Q → V p l e s m args below meth c g 8 1 6 4 1 6 (vx_MQ below (QCx g (QI Q)) (XCx g noX) args s 1 6 (gA g)) 12 [] [.ref t0] h := by
  intro t0 h hw
  refine v_astore_n (ls' := [(3, .ref t0)]) C dL_run_12 rfl (by decide) rfl ?_
  refine v_iconst (v := 1) C dL_run_13 (by decide) ?_
  exact (rt_VX C _ _).1 _ _ _ _ _ _ hr dL_run_14 (by decide) (by decide) ⟨_, rfl, hw⟩
set_option maxRecDepth 100000 in
set_option maxHeartbeats 4000000 in
theorem s_L_run {l : Launch}  {v0 : Nat} {v1 : Int32} {v2 : Nat} {h : AH} {Q : Int32 → AH → Prop}  (hw : w_L_run  v0 v1 v2 h Q) : CH l yL_run cL_run 4 (some .int) [(0, 9, 12, 15)] 8 1 6 [.ref v0, .int v1, .ref v2] h (QI Q) := by
  refine CH.of (by decide) ⟨rfl, ⟨rfl, ⟨rfl, trivial⟩⟩⟩ (Nat.le_of_ble_eq_true rfl) ?_
  intro p e s m args below meth c g C hr htab
  refine v_eq (pc' := 0) (ls' := [(0, .ref v0), (1, .int v1), (2, .ref v2)]) rfl rfl rfl rfl ?_
  refine v_aload_n C dL_run_0 2 rfl rfl ?_
  refine v_iconst (v := 0) C dL_run_1 (by decide) ?_
  refine v_aload_n C dL_run_2 0 rfl rfl ?_
  refine v_iload_n C dL_run_3 1 rfl rfl ?_
  refine w_callXVi (st := [.int (0 : Int32), .ref v2]) C cl_L_48 lk_L_48 im_X11_run se_X11_run rfl hw.1 (s_X11_run hw.2) rfl dL_run_4 rfl (Nat.le_of_ble_eq_true rfl) (by decide) (by decide) (by decide) (by decide) (fun E h hx => ?_) (fun x1 h hw => ?_)
  · skip
    by_cases e0 : E = "java/lang/IllegalArgumentException"
    · subst e0
      have hw := hx.1 rfl
      refine v_catch (hh := [(0, 9, 12, 15)]) (name := "java/lang/IllegalArgumentException") C htab [] ⟨0, 9, 12, 15⟩ [] rfl (fun _ h => nomatch h) (by decide) (by decide) (tb3 (List.mem_of_getElem? (i := 90) rfl)) (tb3 (List.mem_of_getElem? (i := 178) rfl)) 12 rfl (fun q => ?_)
      refine v_sub [] rfl ?_
      exact s_L_run_12 C hr htab  q h (hw q)
    have hx := hx.2 e0
    exact hx.elim
  · skip
    refine v_i2l C dL_run_7 ?_
    refine w_lastore C dL_run_8 hw (fun h hw => ?_)
    refine v_goto (tgt := 15) C dL_run_9 (by decide) ?_
    refine v_iconst (v := 0) C dL_run_15 (by decide) ?_
    exact (rt_VX C _ _).1 _ _ _ _ _ _ hr dL_run_16 (by decide) (by decide) ⟨_, rfl, hw⟩
-- GrassFieldLaw.same(LGrassField;III[J)I
theorem dL_same_0 : decode cL_same 0 = .ok (.aload 4, 2) := by decide +kernel
theorem dL_same_2 : decode cL_same 2 = .ok (.iconst 0, 1) := by decide +kernel
theorem dL_same_3 : decode cL_same 3 = .ok (.aload_n 0, 1) := by decide +kernel
theorem dL_same_4 : decode cL_same 4 = .ok (.iload_n 1, 1) := by decide +kernel
theorem dL_same_5 : decode cL_same 5 = .ok (.iload_n 2, 1) := by decide +kernel
theorem dL_same_6 : decode cL_same 6 = .ok (.iload_n 3, 1) := by decide +kernel
theorem dL_same_7 : decode cL_same 7 = .ok (.invokevirtual 74, 3) := by decide +kernel
theorem dL_same_10 : decode cL_same 10 = .ok (.i2l, 1) := by decide +kernel
theorem dL_same_11 : decode cL_same 11 = .ok (.lastore, 1) := by decide +kernel
theorem dL_same_12 : decode cL_same 12 = .ok (.goto 15, 3) := by decide +kernel
theorem dL_same_15 : decode cL_same 15 = .ok (.astore 5, 2) := by decide +kernel
theorem dL_same_17 : decode cL_same 17 = .ok (.iconst 1, 1) := by decide +kernel
theorem dL_same_18 : decode cL_same 18 = .ok (.ireturn, 1) := by decide +kernel
theorem dL_same_19 : decode cL_same 19 = .ok (.astore 5, 2) := by decide +kernel
theorem dL_same_21 : decode cL_same 21 = .ok (.iconst 2, 1) := by decide +kernel
theorem dL_same_22 : decode cL_same 22 = .ok (.ireturn, 1) := by decide +kernel
theorem dL_same_23 : decode cL_same 23 = .ok (.astore 5, 2) := by decide +kernel
theorem dL_same_25 : decode cL_same 25 = .ok (.iconst 3, 1) := by decide +kernel
theorem dL_same_26 : decode cL_same 26 = .ok (.ireturn, 1) := by decide +kernel
theorem dL_same_27 : decode cL_same 27 = .ok (.iconst 0, 1) := by decide +kernel
theorem dL_same_28 : decode cL_same 28 = .ok (.ireturn, 1) := by decide +kernel
def w_L_same_23  (t0 : Nat) (h : AH) (Q : Int32 → AH → Prop) : Prop :=
  Q (3 : Int32) h
def w_L_same_19  (t0 : Nat) (h : AH) (Q : Int32 → AH → Prop) : Prop :=
  Q (2 : Int32) h
def w_L_same_15  (t0 : Nat) (h : AH) (Q : Int32 → AH → Prop) : Prop :=
  Q (1 : Int32) h
def w_L_same  (v0 : Nat) (v1 : Int32) (v2 : Int32) (v3 : Int32) (v4 : Nat) (h : AH) (Q : Int32 → AH → Prop) : Prop :=
  vr h v0 11 (
  w_X11_same v0 v1 v2 v3 h (fun x1 h =>
    tJ h v4 (0 : Int32) x1.toInt64 fun h =>
    Q (0 : Int32) h) (fun E h => br (E = "java/lang/IndexOutOfBoundsException") (∀ q, w_L_same_15  q h Q) (br (E = "java/lang/IllegalArgumentException") (∀ q, w_L_same_19  q h Q) (br (E = "java/util/NoSuchElementException") (∀ q, w_L_same_23  q h Q) (False)))))
set_option maxRecDepth 100000 in
set_option maxHeartbeats 4000000 in
theorem s_L_same_23 {p : Program} {l : Launch} {e : Env} {s : State} {m : MethodId} {args : Array Value} {below : List Frame} {meth : Method} {c : Code} {g : GG}  {Q : Int32 → AH → Prop}  (C : CXT p l s m args meth c RL cL_same 6 g) (hr : meth.sig.returnType = (some .int)) (htab : c.exceptionTable.toList = tableOf [(0, 12, 15, 13), (0, 12, 19, 15), (0, 12, 23, 46)])  : ∀ (t0 : Nat) (h : AH), w_L_same_23  t0 h Q → V p l e s m args below meth c g 8 4 24 6 4 24 (vx_MQ below (QCx g (QI Q)) (XCx g noX) args s 4 24 (gA g)) 23 [] [.ref t0] h := by
  intro t0 h hw
  refine v_astore (ls' := [(5, .ref t0)]) C dL_same_23 (by decide) rfl ?_
  refine v_iconst (v := 3) C dL_same_25 (by decide) ?_
  exact (rt_VX C _ _).1 _ _ _ _ _ _ hr dL_same_26 (by decide) (by decide) ⟨_, rfl, hw⟩
set_option maxRecDepth 100000 in
set_option maxHeartbeats 4000000 in
theorem s_L_same_19 {p : Program} {l : Launch} {e : Env} {s : State} {m : MethodId} {args : Array Value} {below : List Frame} {meth : Method} {c : Code} {g : GG}  {Q : Int32 → AH → Prop}  (C : CXT p l s m args meth c RL cL_same 6 g) (hr : meth.sig.returnType = (some .int)) (htab : c.exceptionTable.toList = tableOf [(0, 12, 15, 13), (0, 12, 19, 15), (0, 12, 23, 46)])  : ∀ (t0 : Nat) (h : AH), w_L_same_19  t0 h Q → V p l e s m args below meth c g 8 4 24 6 4 24 (vx_MQ below (QCx g (QI Q)) (XCx g noX) args s 4 24 (gA g)) 19 [] [.ref t0] h := by
  intro t0 h hw
  refine v_astore (ls' := [(5, .ref t0)]) C dL_same_19 (by decide) rfl ?_
  refine v_iconst (v := 2) C dL_same_21 (by decide) ?_
  exact (rt_VX C _ _).1 _ _ _ _ _ _ hr dL_same_22 (by decide) (by decide) ⟨_, rfl, hw⟩
set_option maxRecDepth 100000 in
set_option maxHeartbeats 4000000 in
theorem s_L_same_15 {p : Program} {l : Launch} {e : Env} {s : State} {m : MethodId} {args : Array Value} {below : List Frame} {meth : Method} {c : Code} {g : GG}  {Q : Int32 → AH → Prop}  (C : CXT p l s m args meth c RL cL_same 6 g) (hr : meth.sig.returnType = (some .int)) (htab : c.exceptionTable.toList = tableOf [(0, 12, 15, 13), (0, 12, 19, 15), (0, 12, 23, 46)])  : ∀ (t0 : Nat) (h : AH), w_L_same_15  t0 h Q → V p l e s m args below meth c g 8 4 24 6 4 24 (vx_MQ below (QCx g (QI Q)) (XCx g noX) args s 4 24 (gA g)) 15 [] [.ref t0] h := by
  intro t0 h hw
  refine v_astore (ls' := [(5, .ref t0)]) C dL_same_15 (by decide) rfl ?_
  refine v_iconst (v := 1) C dL_same_17 (by decide) ?_
  exact (rt_VX C _ _).1 _ _ _ _ _ _ hr dL_same_18 (by decide) (by decide) ⟨_, rfl, hw⟩
set_option maxRecDepth 100000 in
set_option maxHeartbeats 4000000 in
theorem s_L_same {l : Launch}  {v0 : Nat} {v1 : Int32} {v2 : Int32} {v3 : Int32} {v4 : Nat} {h : AH} {Q : Int32 → AH → Prop}  (hw : w_L_same  v0 v1 v2 v3 v4 h Q) : CH l yL_same cL_same 6 (some .int) [(0, 12, 15, 13), (0, 12, 19, 15), (0, 12, 23, 46)] 8 4 24 [.ref v0, .int v1, .int v2, .int v3, .ref v4] h (QI Q) := by
  refine CH.of (by decide) ⟨rfl, ⟨rfl, ⟨rfl, ⟨rfl, ⟨rfl, trivial⟩⟩⟩⟩⟩ (Nat.le_of_ble_eq_true rfl) ?_
  intro p e s m args below meth c g C hr htab
  refine v_eq (pc' := 0) (ls' := [(0, .ref v0), (1, .int v1), (2, .int v2), (3, .int v3), (4, .ref v4)]) rfl rfl rfl rfl ?_
  refine v_aload C dL_same_0 4 rfl ?_
  refine v_iconst (v := 0) C dL_same_2 (by decide) ?_
  refine v_aload_n C dL_same_3 0 rfl rfl ?_
  refine v_iload_n C dL_same_4 1 rfl rfl ?_
  refine v_iload_n C dL_same_5 2 rfl rfl ?_
  refine v_iload_n C dL_same_6 3 rfl rfl ?_
  refine w_callXVi (st := [.int (0 : Int32), .ref v4]) C cl_L_74 lk_L_74 im_X11_same se_X11_same rfl hw.1 (s_X11_same hw.2) rfl dL_same_7 rfl (Nat.le_of_ble_eq_true rfl) (by decide) (by decide) (by decide) (by decide) (fun E h hx => ?_) (fun x1 h hw => ?_)
  · skip
    by_cases e0 : E = "java/lang/IndexOutOfBoundsException"
    · subst e0
      have hw := hx.1 rfl
      refine v_catch (hh := [(0, 12, 15, 13), (0, 12, 19, 15), (0, 12, 23, 46)]) (name := "java/lang/IndexOutOfBoundsException") C htab [] ⟨0, 12, 15, 13⟩ [⟨0, 12, 19, 15⟩, ⟨0, 12, 23, 46⟩] rfl (fun _ h => nomatch h) (by decide) (by decide) (tb3 (List.mem_of_getElem? (i := 89) rfl)) (tb3 (List.mem_of_getElem? (i := 103) rfl)) 15 rfl (fun q => ?_)
      refine v_sub [] rfl ?_
      exact s_L_same_15 C hr htab  q h (hw q)
    have hx := hx.2 e0
    by_cases e1 : E = "java/lang/IllegalArgumentException"
    · subst e1
      have hw := hx.1 rfl
      refine v_catch (hh := [(0, 12, 15, 13), (0, 12, 19, 15), (0, 12, 23, 46)]) (name := "java/lang/IllegalArgumentException") C htab [⟨0, 12, 15, 13⟩] ⟨0, 12, 19, 15⟩ [⟨0, 12, 23, 46⟩] rfl (List.forall_mem_cons.mpr ⟨⟨by decide, "java/lang/IndexOutOfBoundsException", (tb3 (List.mem_of_getElem? (i := 89) rfl)), List.mem_of_getElem? (i := 3) rfl⟩, fun _ h => nomatch h⟩) (by decide) (by decide) (tb3 (List.mem_of_getElem? (i := 90) rfl)) (tb3 (List.mem_of_getElem? (i := 178) rfl)) 19 rfl (fun q => ?_)
      refine v_sub [] rfl ?_
      exact s_L_same_19 C hr htab  q h (hw q)
    have hx := hx.2 e1
    by_cases e2 : E = "java/util/NoSuchElementException"
    · subst e2
      have hw := hx.1 rfl
      refine v_catch (hh := [(0, 12, 15, 13), (0, 12, 19, 15), (0, 12, 23, 46)]) (name := "java/util/NoSuchElementException") C htab [⟨0, 12, 15, 13⟩, ⟨0, 12, 19, 15⟩] ⟨0, 12, 23, 46⟩ [] rfl (List.forall_mem_cons.mpr ⟨⟨by decide, "java/lang/IndexOutOfBoundsException", (tb3 (List.mem_of_getElem? (i := 89) rfl)), List.mem_of_getElem? (i := 9) rfl⟩, List.forall_mem_cons.mpr ⟨⟨by decide, "java/lang/IllegalArgumentException", (tb3 (List.mem_of_getElem? (i := 90) rfl)), List.mem_of_getElem? (i := 10) rfl⟩, fun _ h => nomatch h⟩⟩) (by decide) (by decide) (tb5 (List.mem_of_getElem? (i := 23) rfl)) (tb5 (List.mem_of_getElem? (i := 47) rfl)) 23 rfl (fun q => ?_)
      refine v_sub [] rfl ?_
      exact s_L_same_23 C hr htab  q h (hw q)
    have hx := hx.2 e2
    exact hx.elim
  · skip
    refine v_i2l C dL_same_10 ?_
    refine w_lastore C dL_same_11 hw (fun h hw => ?_)
    refine v_goto (tgt := 27) C dL_same_12 (by decide) ?_
    refine v_iconst (v := 0) C dL_same_27 (by decide) ?_
    exact (rt_VX C _ _).1 _ _ _ _ _ _ hr dL_same_28 (by decide) (by decide) ⟨_, rfl, hw⟩
-- GrassFieldLaw.sees(LGrassField;II[J)I
theorem dL_sees_0 : decode cL_sees 0 = .ok (.aload_n 3, 1) := by decide +kernel
theorem dL_sees_1 : decode cL_sees 1 = .ok (.iconst 0, 1) := by decide +kernel
theorem dL_sees_2 : decode cL_sees 2 = .ok (.aload_n 0, 1) := by decide +kernel
theorem dL_sees_3 : decode cL_sees 3 = .ok (.iload_n 1, 1) := by decide +kernel
theorem dL_sees_4 : decode cL_sees 4 = .ok (.iload_n 2, 1) := by decide +kernel
theorem dL_sees_5 : decode cL_sees 5 = .ok (.invokevirtual 21, 3) := by decide +kernel
theorem dL_sees_8 : decode cL_sees 8 = .ok (.ifCond .eq 7, 3) := by decide +kernel
theorem dL_sees_11 : decode cL_sees 11 = .ok (.lconst 1, 1) := by decide +kernel
theorem dL_sees_12 : decode cL_sees 12 = .ok (.goto 4, 3) := by decide +kernel
theorem dL_sees_15 : decode cL_sees 15 = .ok (.lconst 0, 1) := by decide +kernel
theorem dL_sees_16 : decode cL_sees 16 = .ok (.lastore, 1) := by decide +kernel
theorem dL_sees_17 : decode cL_sees 17 = .ok (.goto 7, 3) := by decide +kernel
theorem dL_sees_20 : decode cL_sees 20 = .ok (.astore 4, 2) := by decide +kernel
theorem dL_sees_22 : decode cL_sees 22 = .ok (.iconst 1, 1) := by decide +kernel
theorem dL_sees_23 : decode cL_sees 23 = .ok (.ireturn, 1) := by decide +kernel
theorem dL_sees_24 : decode cL_sees 24 = .ok (.iconst 0, 1) := by decide +kernel
theorem dL_sees_25 : decode cL_sees 25 = .ok (.ireturn, 1) := by decide +kernel
def w_L_sees_20  (t0 : Nat) (h : AH) (Q : Int32 → AH → Prop) : Prop :=
  Q (1 : Int32) h
def w_L_sees_16  (t0 : Nat) (t1 : Int32) (t2 : Int64) (h : AH) (Q : Int32 → AH → Prop) : Prop :=
  tJ h t0 t1 t2 fun h =>
  Q (0 : Int32) h
def w_L_sees  (v0 : Nat) (v1 : Int32) (v2 : Int32) (v3 : Nat) (h : AH) (Q : Int32 → AH → Prop) : Prop :=
  vr h v0 11 (
  w_X11_sees v0 v1 v2 h (fun x1 h =>
    br (x1 = 0) (
      w_L_sees_16 v3 (0 : Int32) ((0 : Int64)) h Q) (
      w_L_sees_16 v3 (0 : Int32) ((1 : Int64)) h Q)) (fun E h => br (E = "java/lang/IndexOutOfBoundsException") (∀ q, w_L_sees_20  q h Q) (False)))
set_option maxRecDepth 100000 in
set_option maxHeartbeats 4000000 in
theorem s_L_sees_20 {p : Program} {l : Launch} {e : Env} {s : State} {m : MethodId} {args : Array Value} {below : List Frame} {meth : Method} {c : Code} {g : GG}  {Q : Int32 → AH → Prop}  (C : CXT p l s m args meth c RL cL_sees 5 g) (hr : meth.sig.returnType = (some .int)) (htab : c.exceptionTable.toList = tableOf [(0, 17, 20, 13)])  : ∀ (t0 : Nat) (h : AH), w_L_sees_20  t0 h Q → V p l e s m args below meth c g 9 2 12 5 2 12 (vx_MQ below (QCx g (QI Q)) (XCx g noX) args s 2 12 (gA g)) 20 [] [.ref t0] h := by
  intro t0 h hw
  refine v_astore (ls' := [(4, .ref t0)]) C dL_sees_20 (by decide) rfl ?_
  refine v_iconst (v := 1) C dL_sees_22 (by decide) ?_
  exact (rt_VX C _ _).1 _ _ _ _ _ _ hr dL_sees_23 (by decide) (by decide) ⟨_, rfl, hw⟩
set_option maxRecDepth 100000 in
set_option maxHeartbeats 4000000 in
theorem s_L_sees_16 {p : Program} {l : Launch} {e : Env} {s : State} {m : MethodId} {args : Array Value} {below : List Frame} {meth : Method} {c : Code} {g : GG}  {Q : Int32 → AH → Prop}  (C : CXT p l s m args meth c RL cL_sees 5 g) (hr : meth.sig.returnType = (some .int)) (htab : c.exceptionTable.toList = tableOf [(0, 17, 20, 13)])  : ∀ (t0 : Nat) (t1 : Int32) (t2 : Int64) (h : AH), w_L_sees_16  t0 t1 t2 h Q → V p l e s m args below meth c g 9 2 12 5 2 12 (vx_MQ below (QCx g (QI Q)) (XCx g noX) args s 2 12 (gA g)) 16 [] [.long t2, .int t1, .ref t0] h := by
  intro t0 t1 t2 h hw
  refine w_lastore C dL_sees_16 hw (fun h hw => ?_)
  refine v_goto (tgt := 24) C dL_sees_17 (by decide) ?_
  refine v_iconst (v := 0) C dL_sees_24 (by decide) ?_
  exact (rt_VX C _ _).1 _ _ _ _ _ _ hr dL_sees_25 (by decide) (by decide) ⟨_, rfl, hw⟩
set_option maxRecDepth 100000 in
set_option maxHeartbeats 4000000 in
theorem s_L_sees {l : Launch}  {v0 : Nat} {v1 : Int32} {v2 : Int32} {v3 : Nat} {h : AH} {Q : Int32 → AH → Prop}  (hw : w_L_sees  v0 v1 v2 v3 h Q) : CH l yL_sees cL_sees 5 (some .int) [(0, 17, 20, 13)] 9 2 12 [.ref v0, .int v1, .int v2, .ref v3] h (QI Q) := by
  refine CH.of (by decide) ⟨rfl, ⟨rfl, ⟨rfl, ⟨rfl, trivial⟩⟩⟩⟩ (Nat.le_of_ble_eq_true rfl) ?_
  intro p e s m args below meth c g C hr htab
  refine v_eq (pc' := 0) (ls' := [(0, .ref v0), (1, .int v1), (2, .int v2), (3, .ref v3)]) rfl rfl rfl rfl ?_
  refine v_aload_n C dL_sees_0 3 rfl rfl ?_
  refine v_iconst (v := 0) C dL_sees_1 (by decide) ?_
  refine v_aload_n C dL_sees_2 0 rfl rfl ?_
  refine v_iload_n C dL_sees_3 1 rfl rfl ?_
  refine v_iload_n C dL_sees_4 2 rfl rfl ?_
  refine w_callXVi (st := [.int (0 : Int32), .ref v3]) C cl_L_21 lk_L_21 im_X11_sees se_X11_sees rfl hw.1 (s_X11_sees hw.2) rfl dL_sees_5 rfl (Nat.le_of_ble_eq_true rfl) (by decide) (by decide) (by decide) (by decide) (fun E h hx => ?_) (fun x1 h hw => ?_)
  · skip
    by_cases e0 : E = "java/lang/IndexOutOfBoundsException"
    · subst e0
      have hw := hx.1 rfl
      refine v_catch (hh := [(0, 17, 20, 13)]) (name := "java/lang/IndexOutOfBoundsException") C htab [] ⟨0, 17, 20, 13⟩ [] rfl (fun _ h => nomatch h) (by decide) (by decide) (tb3 (List.mem_of_getElem? (i := 89) rfl)) (tb3 (List.mem_of_getElem? (i := 103) rfl)) 20 rfl (fun q => ?_)
      refine v_sub [] rfl ?_
      exact s_L_sees_20 C hr htab  q h (hw q)
    have hx := hx.2 e0
    exact hx.elim
  · skip
    refine v_if_eq (tgt := 15) C dL_sees_8 (by decide) (fun c_8 => ?_) (fun c_8 => ?_)
    · have hw := hw.1 c_8
      refine v_lconst (v := 0) C dL_sees_15 (by decide) ?_
      refine v_sub [] rfl ?_
      exact s_L_sees_16 C hr htab  _ _ _ _ hw
    · have hw := hw.2 c_8
      refine v_lconst (v := 1) C dL_sees_11 (by decide) ?_
      refine v_goto (tgt := 16) C dL_sees_12 (by decide) ?_
      refine v_sub [] rfl ?_
      exact s_L_sees_16 C hr htab  _ _ _ _ hw
-- GrassFieldLaw.still(LGrassField;II[J)I
theorem dL_still_0 : decode cL_still 0 = .ok (.aload_n 3, 1) := by decide +kernel
theorem dL_still_1 : decode cL_still 1 = .ok (.iconst 0, 1) := by decide +kernel
theorem dL_still_2 : decode cL_still 2 = .ok (.aload_n 0, 1) := by decide +kernel
theorem dL_still_3 : decode cL_still 3 = .ok (.iload_n 1, 1) := by decide +kernel
theorem dL_still_4 : decode cL_still 4 = .ok (.iload_n 2, 1) := by decide +kernel
theorem dL_still_5 : decode cL_still 5 = .ok (.invokevirtual 94, 3) := by decide +kernel
theorem dL_still_8 : decode cL_still 8 = .ok (.i2l, 1) := by decide +kernel
theorem dL_still_9 : decode cL_still 9 = .ok (.lastore, 1) := by decide +kernel
theorem dL_still_10 : decode cL_still 10 = .ok (.goto 7, 3) := by decide +kernel
theorem dL_still_13 : decode cL_still 13 = .ok (.astore 4, 2) := by decide +kernel
theorem dL_still_15 : decode cL_still 15 = .ok (.iconst 1, 1) := by decide +kernel
theorem dL_still_16 : decode cL_still 16 = .ok (.ireturn, 1) := by decide +kernel
theorem dL_still_17 : decode cL_still 17 = .ok (.iconst 0, 1) := by decide +kernel
theorem dL_still_18 : decode cL_still 18 = .ok (.ireturn, 1) := by decide +kernel
def w_L_still_13  (t0 : Nat) (h : AH) (Q : Int32 → AH → Prop) : Prop :=
  Q (1 : Int32) h
def w_L_still  (v0 : Nat) (v1 : Int32) (v2 : Int32) (v3 : Nat) (h : AH) (Q : Int32 → AH → Prop) : Prop :=
  vr h v0 11 (
  w_X11_still v0 v1 v2 h (fun x1 h =>
    tJ h v3 (0 : Int32) x1.toInt64 fun h =>
    Q (0 : Int32) h) (fun E h => br (E = "java/lang/IndexOutOfBoundsException") (∀ q, w_L_still_13  q h Q) (False)))
set_option maxRecDepth 100000 in
set_option maxHeartbeats 4000000 in
theorem s_L_still_13 {p : Program} {l : Launch} {e : Env} {s : State} {m : MethodId} {args : Array Value} {below : List Frame} {meth : Method} {c : Code} {g : GG}  {Q : Int32 → AH → Prop}  (C : CXT p l s m args meth c RL cL_still 5 g) (hr : meth.sig.returnType = (some .int)) (htab : c.exceptionTable.toList = tableOf [(0, 10, 13, 13)])  : ∀ (t0 : Nat) (h : AH), w_L_still_13  t0 h Q → V p l e s m args below meth c g 9 2 12 5 2 12 (vx_MQ below (QCx g (QI Q)) (XCx g noX) args s 2 12 (gA g)) 13 [] [.ref t0] h := by
  intro t0 h hw
  refine v_astore (ls' := [(4, .ref t0)]) C dL_still_13 (by decide) rfl ?_
  refine v_iconst (v := 1) C dL_still_15 (by decide) ?_
  exact (rt_VX C _ _).1 _ _ _ _ _ _ hr dL_still_16 (by decide) (by decide) ⟨_, rfl, hw⟩
set_option maxRecDepth 100000 in
set_option maxHeartbeats 4000000 in
theorem s_L_still {l : Launch}  {v0 : Nat} {v1 : Int32} {v2 : Int32} {v3 : Nat} {h : AH} {Q : Int32 → AH → Prop}  (hw : w_L_still  v0 v1 v2 v3 h Q) : CH l yL_still cL_still 5 (some .int) [(0, 10, 13, 13)] 9 2 12 [.ref v0, .int v1, .int v2, .ref v3] h (QI Q) := by
  refine CH.of (by decide) ⟨rfl, ⟨rfl, ⟨rfl, ⟨rfl, trivial⟩⟩⟩⟩ (Nat.le_of_ble_eq_true rfl) ?_
  intro p e s m args below meth c g C hr htab
  refine v_eq (pc' := 0) (ls' := [(0, .ref v0), (1, .int v1), (2, .int v2), (3, .ref v3)]) rfl rfl rfl rfl ?_
  refine v_aload_n C dL_still_0 3 rfl rfl ?_
  refine v_iconst (v := 0) C dL_still_1 (by decide) ?_
  refine v_aload_n C dL_still_2 0 rfl rfl ?_
  refine v_iload_n C dL_still_3 1 rfl rfl ?_
  refine v_iload_n C dL_still_4 2 rfl rfl ?_
  refine w_callXVi (st := [.int (0 : Int32), .ref v3]) C cl_L_94 lk_L_94 im_X11_still se_X11_still rfl hw.1 (s_X11_still hw.2) rfl dL_still_5 rfl (Nat.le_of_ble_eq_true rfl) (by decide) (by decide) (by decide) (by decide) (fun E h hx => ?_) (fun x1 h hw => ?_)
  · skip
    by_cases e0 : E = "java/lang/IndexOutOfBoundsException"
    · subst e0
      have hw := hx.1 rfl
      refine v_catch (hh := [(0, 10, 13, 13)]) (name := "java/lang/IndexOutOfBoundsException") C htab [] ⟨0, 10, 13, 13⟩ [] rfl (fun _ h => nomatch h) (by decide) (by decide) (tb3 (List.mem_of_getElem? (i := 89) rfl)) (tb3 (List.mem_of_getElem? (i := 103) rfl)) 13 rfl (fun q => ?_)
      refine v_sub [] rfl ?_
      exact s_L_still_13 C hr htab  q h (hw q)
    have hx := hx.2 e0
    exact hx.elim
  · skip
    refine v_i2l C dL_still_8 ?_
    refine w_lastore C dL_still_9 hw (fun h hw => ?_)
    refine v_goto (tgt := 17) C dL_still_10 (by decide) ?_
    refine v_iconst (v := 0) C dL_still_17 (by decide) ?_
    exact (rt_VX C _ _).1 _ _ _ _ _ _ hr dL_still_18 (by decide) (by decide) ⟨_, rfl, hw⟩
-- GrassFieldLaw.story(LGrassField;I[J)I
theorem dL_story_0 : decode cL_story 0 = .ok (.aload_n 2, 1) := by decide +kernel
theorem dL_story_1 : decode cL_story 1 = .ok (.iconst 0, 1) := by decide +kernel
theorem dL_story_2 : decode cL_story 2 = .ok (.aload_n 0, 1) := by decide +kernel
theorem dL_story_3 : decode cL_story 3 = .ok (.iload_n 1, 1) := by decide +kernel
theorem dL_story_4 : decode cL_story 4 = .ok (.invokevirtual 117, 3) := by decide +kernel
theorem dL_story_7 : decode cL_story 7 = .ok (.i2l, 1) := by decide +kernel
theorem dL_story_8 : decode cL_story 8 = .ok (.lastore, 1) := by decide +kernel
theorem dL_story_9 : decode cL_story 9 = .ok (.goto 9, 3) := by decide +kernel
theorem dL_story_12 : decode cL_story 12 = .ok (.astore_n 3, 1) := by decide +kernel
theorem dL_story_13 : decode cL_story 13 = .ok (.iconst 1, 1) := by decide +kernel
theorem dL_story_14 : decode cL_story 14 = .ok (.ireturn, 1) := by decide +kernel
theorem dL_story_15 : decode cL_story 15 = .ok (.astore_n 3, 1) := by decide +kernel
theorem dL_story_16 : decode cL_story 16 = .ok (.iconst 2, 1) := by decide +kernel
theorem dL_story_17 : decode cL_story 17 = .ok (.ireturn, 1) := by decide +kernel
theorem dL_story_18 : decode cL_story 18 = .ok (.iconst 0, 1) := by decide +kernel
theorem dL_story_19 : decode cL_story 19 = .ok (.ireturn, 1) := by decide +kernel
def w_L_story_15  (t0 : Nat) (h : AH) (Q : Int32 → AH → Prop) : Prop :=
  Q (2 : Int32) h
def w_L_story_12  (t0 : Nat) (h : AH) (Q : Int32 → AH → Prop) : Prop :=
  Q (1 : Int32) h
def w_L_story  (v0 : Nat) (v1 : Int32) (v2 : Nat) (h : AH) (Q : Int32 → AH → Prop) : Prop :=
  vr h v0 11 (
  w_X11_story v0 v1 h (fun x1 h =>
    tJ h v2 (0 : Int32) x1.toInt64 fun h =>
    Q (0 : Int32) h) (fun E h => br (E = "java/lang/IllegalArgumentException") (∀ q, w_L_story_12  q h Q) (br (E = "java/lang/UnsupportedOperationException") (∀ q, w_L_story_15  q h Q) (False))))
set_option maxRecDepth 100000 in
set_option maxHeartbeats 4000000 in
theorem s_L_story_15 {p : Program} {l : Launch} {e : Env} {s : State} {m : MethodId} {args : Array Value} {below : List Frame} {meth : Method} {c : Code} {g : GG}  {Q : Int32 → AH → Prop}  (C : CXT p l s m args meth c RL cL_story 4 g) (hr : meth.sig.returnType = (some .int)) (htab : c.exceptionTable.toList = tableOf [(0, 9, 12, 15), (0, 9, 15, 29)])  : ∀ (t0 : Nat) (h : AH), w_L_story_15  t0 h Q → V p l e s m args below meth c g 47 5 448 4 5 448 (vx_MQ below (QCx g (QI Q)) (XCx g noX) args s 5 448 (gA g)) 15 [] [.ref t0] h := by
  intro t0 h hw
  refine v_astore_n (ls' := [(3, .ref t0)]) C dL_story_15 rfl (by decide) rfl ?_
  refine v_iconst (v := 2) C dL_story_16 (by decide) ?_
  exact (rt_VX C _ _).1 _ _ _ _ _ _ hr dL_story_17 (by decide) (by decide) ⟨_, rfl, hw⟩
set_option maxRecDepth 100000 in
set_option maxHeartbeats 4000000 in
theorem s_L_story_12 {p : Program} {l : Launch} {e : Env} {s : State} {m : MethodId} {args : Array Value} {below : List Frame} {meth : Method} {c : Code} {g : GG}  {Q : Int32 → AH → Prop}  (C : CXT p l s m args meth c RL cL_story 4 g) (hr : meth.sig.returnType = (some .int)) (htab : c.exceptionTable.toList = tableOf [(0, 9, 12, 15), (0, 9, 15, 29)])  : ∀ (t0 : Nat) (h : AH), w_L_story_12  t0 h Q → V p l e s m args below meth c g 47 5 448 4 5 448 (vx_MQ below (QCx g (QI Q)) (XCx g noX) args s 5 448 (gA g)) 12 [] [.ref t0] h := by
  intro t0 h hw
  refine v_astore_n (ls' := [(3, .ref t0)]) C dL_story_12 rfl (by decide) rfl ?_
  refine v_iconst (v := 1) C dL_story_13 (by decide) ?_
  exact (rt_VX C _ _).1 _ _ _ _ _ _ hr dL_story_14 (by decide) (by decide) ⟨_, rfl, hw⟩
set_option maxRecDepth 100000 in
set_option maxHeartbeats 4000000 in
theorem s_L_story {l : Launch}  {v0 : Nat} {v1 : Int32} {v2 : Nat} {h : AH} {Q : Int32 → AH → Prop}  (hw : w_L_story  v0 v1 v2 h Q) : CH l yL_story cL_story 4 (some .int) [(0, 9, 12, 15), (0, 9, 15, 29)] 47 5 448 [.ref v0, .int v1, .ref v2] h (QI Q) := by
  refine CH.of (by decide) ⟨rfl, ⟨rfl, ⟨rfl, trivial⟩⟩⟩ (Nat.le_of_ble_eq_true rfl) ?_
  intro p e s m args below meth c g C hr htab
  refine v_eq (pc' := 0) (ls' := [(0, .ref v0), (1, .int v1), (2, .ref v2)]) rfl rfl rfl rfl ?_
  refine v_aload_n C dL_story_0 2 rfl rfl ?_
  refine v_iconst (v := 0) C dL_story_1 (by decide) ?_
  refine v_aload_n C dL_story_2 0 rfl rfl ?_
  refine v_iload_n C dL_story_3 1 rfl rfl ?_
  refine w_callXVi (st := [.int (0 : Int32), .ref v2]) C cl_L_117 lk_L_117 im_X11_story se_X11_story rfl hw.1 (s_X11_story hw.2) rfl dL_story_4 rfl (Nat.le_of_ble_eq_true rfl) (by decide) (by decide) (by decide) (by decide) (fun E h hx => ?_) (fun x1 h hw => ?_)
  · skip
    by_cases e0 : E = "java/lang/IllegalArgumentException"
    · subst e0
      have hw := hx.1 rfl
      refine v_catch (hh := [(0, 9, 12, 15), (0, 9, 15, 29)]) (name := "java/lang/IllegalArgumentException") C htab [] ⟨0, 9, 12, 15⟩ [⟨0, 9, 15, 29⟩] rfl (fun _ h => nomatch h) (by decide) (by decide) (tb3 (List.mem_of_getElem? (i := 90) rfl)) (tb3 (List.mem_of_getElem? (i := 178) rfl)) 12 rfl (fun q => ?_)
      refine v_sub [] rfl ?_
      exact s_L_story_12 C hr htab  q h (hw q)
    have hx := hx.2 e0
    by_cases e1 : E = "java/lang/UnsupportedOperationException"
    · subst e1
      have hw := hx.1 rfl
      refine v_catch (hh := [(0, 9, 12, 15), (0, 9, 15, 29)]) (name := "java/lang/UnsupportedOperationException") C htab [⟨0, 9, 12, 15⟩] ⟨0, 9, 15, 29⟩ [] rfl (List.forall_mem_cons.mpr ⟨⟨by decide, "java/lang/IllegalArgumentException", (tb3 (List.mem_of_getElem? (i := 90) rfl)), List.mem_of_getElem? (i := 7) rfl⟩, fun _ h => nomatch h⟩) (by decide) (by decide) (tb3 (List.mem_of_getElem? (i := 223) rfl)) (tb3 (List.mem_of_getElem? (i := 236) rfl)) 15 rfl (fun q => ?_)
      refine v_sub [] rfl ?_
      exact s_L_story_15 C hr htab  q h (hw q)
    have hx := hx.2 e1
    exact hx.elim
  · skip
    refine v_i2l C dL_story_7 ?_
    refine w_lastore C dL_story_8 hw (fun h hw => ?_)
    refine v_goto (tgt := 18) C dL_story_9 (by decide) ?_
    refine v_iconst (v := 0) C dL_story_18 (by decide) ?_
    exact (rt_VX C _ _).1 _ _ _ _ _ _ hr dL_story_19 (by decide) (by decide) ⟨_, rfl, hw⟩
-- GrassFieldLaw.talked(LGrassField;II[J)I
theorem dL_talked_0 : decode cL_talked 0 = .ok (.aload_n 3, 1) := by decide +kernel
theorem dL_talked_1 : decode cL_talked 1 = .ok (.iconst 0, 1) := by decide +kernel
theorem dL_talked_2 : decode cL_talked 2 = .ok (.aload_n 0, 1) := by decide +kernel
theorem dL_talked_3 : decode cL_talked 3 = .ok (.iload_n 1, 1) := by decide +kernel
theorem dL_talked_4 : decode cL_talked 4 = .ok (.iload_n 2, 1) := by decide +kernel
theorem dL_talked_5 : decode cL_talked 5 = .ok (.invokevirtual 107, 3) := by decide +kernel
theorem dL_talked_8 : decode cL_talked 8 = .ok (.ifCond .eq 7, 3) := by decide +kernel
theorem dL_talked_11 : decode cL_talked 11 = .ok (.lconst 1, 1) := by decide +kernel
theorem dL_talked_12 : decode cL_talked 12 = .ok (.goto 4, 3) := by decide +kernel
theorem dL_talked_15 : decode cL_talked 15 = .ok (.lconst 0, 1) := by decide +kernel
theorem dL_talked_16 : decode cL_talked 16 = .ok (.lastore, 1) := by decide +kernel
theorem dL_talked_17 : decode cL_talked 17 = .ok (.goto 7, 3) := by decide +kernel
theorem dL_talked_20 : decode cL_talked 20 = .ok (.astore 4, 2) := by decide +kernel
theorem dL_talked_22 : decode cL_talked 22 = .ok (.iconst 1, 1) := by decide +kernel
theorem dL_talked_23 : decode cL_talked 23 = .ok (.ireturn, 1) := by decide +kernel
theorem dL_talked_24 : decode cL_talked 24 = .ok (.iconst 0, 1) := by decide +kernel
theorem dL_talked_25 : decode cL_talked 25 = .ok (.ireturn, 1) := by decide +kernel
def w_L_talked_20  (t0 : Nat) (h : AH) (Q : Int32 → AH → Prop) : Prop :=
  Q (1 : Int32) h
def w_L_talked_16  (t0 : Nat) (t1 : Int32) (t2 : Int64) (h : AH) (Q : Int32 → AH → Prop) : Prop :=
  tJ h t0 t1 t2 fun h =>
  Q (0 : Int32) h
def w_L_talked  (v0 : Nat) (v1 : Int32) (v2 : Int32) (v3 : Nat) (h : AH) (Q : Int32 → AH → Prop) : Prop :=
  vr h v0 11 (
  w_X11_talked v0 v1 v2 h (fun x1 h =>
    br (x1 = 0) (
      w_L_talked_16 v3 (0 : Int32) ((0 : Int64)) h Q) (
      w_L_talked_16 v3 (0 : Int32) ((1 : Int64)) h Q)) (fun E h => br (E = "java/lang/IndexOutOfBoundsException") (∀ q, w_L_talked_20  q h Q) (False)))
set_option maxRecDepth 100000 in
set_option maxHeartbeats 4000000 in
theorem s_L_talked_20 {p : Program} {l : Launch} {e : Env} {s : State} {m : MethodId} {args : Array Value} {below : List Frame} {meth : Method} {c : Code} {g : GG}  {Q : Int32 → AH → Prop}  (C : CXT p l s m args meth c RL cL_talked 5 g) (hr : meth.sig.returnType = (some .int)) (htab : c.exceptionTable.toList = tableOf [(0, 17, 20, 13)])  : ∀ (t0 : Nat) (h : AH), w_L_talked_20  t0 h Q → V p l e s m args below meth c g 8 2 12 5 2 12 (vx_MQ below (QCx g (QI Q)) (XCx g noX) args s 2 12 (gA g)) 20 [] [.ref t0] h := by
  intro t0 h hw
  refine v_astore (ls' := [(4, .ref t0)]) C dL_talked_20 (by decide) rfl ?_
  refine v_iconst (v := 1) C dL_talked_22 (by decide) ?_
  exact (rt_VX C _ _).1 _ _ _ _ _ _ hr dL_talked_23 (by decide) (by decide) ⟨_, rfl, hw⟩
set_option maxRecDepth 100000 in
set_option maxHeartbeats 4000000 in
theorem s_L_talked_16 {p : Program} {l : Launch} {e : Env} {s : State} {m : MethodId} {args : Array Value} {below : List Frame} {meth : Method} {c : Code} {g : GG}  {Q : Int32 → AH → Prop}  (C : CXT p l s m args meth c RL cL_talked 5 g) (hr : meth.sig.returnType = (some .int)) (htab : c.exceptionTable.toList = tableOf [(0, 17, 20, 13)])  : ∀ (t0 : Nat) (t1 : Int32) (t2 : Int64) (h : AH), w_L_talked_16  t0 t1 t2 h Q → V p l e s m args below meth c g 8 2 12 5 2 12 (vx_MQ below (QCx g (QI Q)) (XCx g noX) args s 2 12 (gA g)) 16 [] [.long t2, .int t1, .ref t0] h := by
  intro t0 t1 t2 h hw
  refine w_lastore C dL_talked_16 hw (fun h hw => ?_)
  refine v_goto (tgt := 24) C dL_talked_17 (by decide) ?_
  refine v_iconst (v := 0) C dL_talked_24 (by decide) ?_
  exact (rt_VX C _ _).1 _ _ _ _ _ _ hr dL_talked_25 (by decide) (by decide) ⟨_, rfl, hw⟩
set_option maxRecDepth 100000 in
set_option maxHeartbeats 4000000 in
theorem s_L_talked {l : Launch}  {v0 : Nat} {v1 : Int32} {v2 : Int32} {v3 : Nat} {h : AH} {Q : Int32 → AH → Prop}  (hw : w_L_talked  v0 v1 v2 v3 h Q) : CH l yL_talked cL_talked 5 (some .int) [(0, 17, 20, 13)] 8 2 12 [.ref v0, .int v1, .int v2, .ref v3] h (QI Q) := by
  refine CH.of (by decide) ⟨rfl, ⟨rfl, ⟨rfl, ⟨rfl, trivial⟩⟩⟩⟩ (Nat.le_of_ble_eq_true rfl) ?_
  intro p e s m args below meth c g C hr htab
  refine v_eq (pc' := 0) (ls' := [(0, .ref v0), (1, .int v1), (2, .int v2), (3, .ref v3)]) rfl rfl rfl rfl ?_
  refine v_aload_n C dL_talked_0 3 rfl rfl ?_
  refine v_iconst (v := 0) C dL_talked_1 (by decide) ?_
  refine v_aload_n C dL_talked_2 0 rfl rfl ?_
  refine v_iload_n C dL_talked_3 1 rfl rfl ?_
  refine v_iload_n C dL_talked_4 2 rfl rfl ?_
  refine w_callXVi (st := [.int (0 : Int32), .ref v3]) C cl_L_107 lk_L_107 im_X11_talked se_X11_talked rfl hw.1 (s_X11_talked hw.2) rfl dL_talked_5 rfl (Nat.le_of_ble_eq_true rfl) (by decide) (by decide) (by decide) (by decide) (fun E h hx => ?_) (fun x1 h hw => ?_)
  · skip
    by_cases e0 : E = "java/lang/IndexOutOfBoundsException"
    · subst e0
      have hw := hx.1 rfl
      refine v_catch (hh := [(0, 17, 20, 13)]) (name := "java/lang/IndexOutOfBoundsException") C htab [] ⟨0, 17, 20, 13⟩ [] rfl (fun _ h => nomatch h) (by decide) (by decide) (tb3 (List.mem_of_getElem? (i := 89) rfl)) (tb3 (List.mem_of_getElem? (i := 103) rfl)) 20 rfl (fun q => ?_)
      refine v_sub [] rfl ?_
      exact s_L_talked_20 C hr htab  q h (hw q)
    have hx := hx.2 e0
    exact hx.elim
  · skip
    refine v_if_eq (tgt := 15) C dL_talked_8 (by decide) (fun c_8 => ?_) (fun c_8 => ?_)
    · have hw := hw.1 c_8
      refine v_lconst (v := 0) C dL_talked_15 (by decide) ?_
      refine v_sub [] rfl ?_
      exact s_L_talked_16 C hr htab  _ _ _ _ hw
    · have hw := hw.2 c_8
      refine v_lconst (v := 1) C dL_talked_11 (by decide) ?_
      refine v_goto (tgt := 16) C dL_talked_12 (by decide) ?_
      refine v_sub [] rfl ?_
      exact s_L_talked_16 C hr htab  _ _ _ _ hw
-- GrassFieldLaw.teller(LGrassField;IIII[J)I
theorem dL_teller_0 : decode cL_teller 0 = .ok (.aload 5, 2) := by decide +kernel
theorem dL_teller_2 : decode cL_teller 2 = .ok (.iconst 0, 1) := by decide +kernel
theorem dL_teller_3 : decode cL_teller 3 = .ok (.aload_n 0, 1) := by decide +kernel
theorem dL_teller_4 : decode cL_teller 4 = .ok (.iload_n 1, 1) := by decide +kernel
theorem dL_teller_5 : decode cL_teller 5 = .ok (.iload_n 2, 1) := by decide +kernel
theorem dL_teller_6 : decode cL_teller 6 = .ok (.iload_n 3, 1) := by decide +kernel
theorem dL_teller_7 : decode cL_teller 7 = .ok (.iload 4, 2) := by decide +kernel
theorem dL_teller_9 : decode cL_teller 9 = .ok (.invokevirtual 97, 3) := by decide +kernel
theorem dL_teller_12 : decode cL_teller 12 = .ok (.i2l, 1) := by decide +kernel
theorem dL_teller_13 : decode cL_teller 13 = .ok (.lastore, 1) := by decide +kernel
theorem dL_teller_14 : decode cL_teller 14 = .ok (.goto 15, 3) := by decide +kernel
theorem dL_teller_17 : decode cL_teller 17 = .ok (.astore 6, 2) := by decide +kernel
theorem dL_teller_19 : decode cL_teller 19 = .ok (.iconst 1, 1) := by decide +kernel
theorem dL_teller_20 : decode cL_teller 20 = .ok (.ireturn, 1) := by decide +kernel
theorem dL_teller_21 : decode cL_teller 21 = .ok (.astore 6, 2) := by decide +kernel
theorem dL_teller_23 : decode cL_teller 23 = .ok (.iconst 2, 1) := by decide +kernel
theorem dL_teller_24 : decode cL_teller 24 = .ok (.ireturn, 1) := by decide +kernel
theorem dL_teller_25 : decode cL_teller 25 = .ok (.astore 6, 2) := by decide +kernel
theorem dL_teller_27 : decode cL_teller 27 = .ok (.iconst 3, 1) := by decide +kernel
theorem dL_teller_28 : decode cL_teller 28 = .ok (.ireturn, 1) := by decide +kernel
theorem dL_teller_29 : decode cL_teller 29 = .ok (.iconst 0, 1) := by decide +kernel
theorem dL_teller_30 : decode cL_teller 30 = .ok (.ireturn, 1) := by decide +kernel
def w_L_teller_25  (t0 : Nat) (h : AH) (Q : Int32 → AH → Prop) : Prop :=
  Q (3 : Int32) h
def w_L_teller_21  (t0 : Nat) (h : AH) (Q : Int32 → AH → Prop) : Prop :=
  Q (2 : Int32) h
def w_L_teller_17  (t0 : Nat) (h : AH) (Q : Int32 → AH → Prop) : Prop :=
  Q (1 : Int32) h
def w_L_teller  (v0 : Nat) (v1 : Int32) (v2 : Int32) (v3 : Int32) (v4 : Int32) (v5 : Nat) (h : AH) (Q : Int32 → AH → Prop) : Prop :=
  vr h v0 11 (
  w_X11_teller v0 v1 v2 v3 v4 h (fun x1 h =>
    tJ h v5 (0 : Int32) x1.toInt64 fun h =>
    Q (0 : Int32) h) (fun E h => br (E = "java/lang/IndexOutOfBoundsException") (∀ q, w_L_teller_17  q h Q) (br (E = "java/lang/IllegalArgumentException") (∀ q, w_L_teller_21  q h Q) (br (E = "java/lang/UnsupportedOperationException") (∀ q, w_L_teller_25  q h Q) (False)))))
set_option maxRecDepth 100000 in
set_option maxHeartbeats 4000000 in
theorem s_L_teller_25 {p : Program} {l : Launch} {e : Env} {s : State} {m : MethodId} {args : Array Value} {below : List Frame} {meth : Method} {c : Code} {g : GG}  {Q : Int32 → AH → Prop}  (C : CXT p l s m args meth c RL cL_teller 7 g) (hr : meth.sig.returnType = (some .int)) (htab : c.exceptionTable.toList = tableOf [(0, 14, 17, 13), (0, 14, 21, 15), (0, 14, 25, 29)])  : ∀ (t0 : Nat) (h : AH), w_L_teller_25  t0 h Q → V p l e s m args below meth c g 9 3 18 7 3 18 (vx_MQ below (QCx g (QI Q)) (XCx g noX) args s 3 18 (gA g)) 25 [] [.ref t0] h := by
  intro t0 h hw
  refine v_astore (ls' := [(6, .ref t0)]) C dL_teller_25 (by decide) rfl ?_
  refine v_iconst (v := 3) C dL_teller_27 (by decide) ?_
  exact (rt_VX C _ _).1 _ _ _ _ _ _ hr dL_teller_28 (by decide) (by decide) ⟨_, rfl, hw⟩
set_option maxRecDepth 100000 in
set_option maxHeartbeats 4000000 in
theorem s_L_teller_21 {p : Program} {l : Launch} {e : Env} {s : State} {m : MethodId} {args : Array Value} {below : List Frame} {meth : Method} {c : Code} {g : GG}  {Q : Int32 → AH → Prop}  (C : CXT p l s m args meth c RL cL_teller 7 g) (hr : meth.sig.returnType = (some .int)) (htab : c.exceptionTable.toList = tableOf [(0, 14, 17, 13), (0, 14, 21, 15), (0, 14, 25, 29)])  : ∀ (t0 : Nat) (h : AH), w_L_teller_21  t0 h Q → V p l e s m args below meth c g 9 3 18 7 3 18 (vx_MQ below (QCx g (QI Q)) (XCx g noX) args s 3 18 (gA g)) 21 [] [.ref t0] h := by
  intro t0 h hw
  refine v_astore (ls' := [(6, .ref t0)]) C dL_teller_21 (by decide) rfl ?_
  refine v_iconst (v := 2) C dL_teller_23 (by decide) ?_
  exact (rt_VX C _ _).1 _ _ _ _ _ _ hr dL_teller_24 (by decide) (by decide) ⟨_, rfl, hw⟩
set_option maxRecDepth 100000 in
set_option maxHeartbeats 4000000 in
theorem s_L_teller_17 {p : Program} {l : Launch} {e : Env} {s : State} {m : MethodId} {args : Array Value} {below : List Frame} {meth : Method} {c : Code} {g : GG}  {Q : Int32 → AH → Prop}  (C : CXT p l s m args meth c RL cL_teller 7 g) (hr : meth.sig.returnType = (some .int)) (htab : c.exceptionTable.toList = tableOf [(0, 14, 17, 13), (0, 14, 21, 15), (0, 14, 25, 29)])  : ∀ (t0 : Nat) (h : AH), w_L_teller_17  t0 h Q → V p l e s m args below meth c g 9 3 18 7 3 18 (vx_MQ below (QCx g (QI Q)) (XCx g noX) args s 3 18 (gA g)) 17 [] [.ref t0] h := by
  intro t0 h hw
  refine v_astore (ls' := [(6, .ref t0)]) C dL_teller_17 (by decide) rfl ?_
  refine v_iconst (v := 1) C dL_teller_19 (by decide) ?_
  exact (rt_VX C _ _).1 _ _ _ _ _ _ hr dL_teller_20 (by decide) (by decide) ⟨_, rfl, hw⟩
set_option maxRecDepth 100000 in
set_option maxHeartbeats 4000000 in
theorem s_L_teller {l : Launch}  {v0 : Nat} {v1 : Int32} {v2 : Int32} {v3 : Int32} {v4 : Int32} {v5 : Nat} {h : AH} {Q : Int32 → AH → Prop}  (hw : w_L_teller  v0 v1 v2 v3 v4 v5 h Q) : CH l yL_teller cL_teller 7 (some .int) [(0, 14, 17, 13), (0, 14, 21, 15), (0, 14, 25, 29)] 9 3 18 [.ref v0, .int v1, .int v2, .int v3, .int v4, .ref v5] h (QI Q) := by
  refine CH.of (by decide) ⟨rfl, ⟨rfl, ⟨rfl, ⟨rfl, ⟨rfl, ⟨rfl, trivial⟩⟩⟩⟩⟩⟩ (Nat.le_of_ble_eq_true rfl) ?_
  intro p e s m args below meth c g C hr htab
  refine v_eq (pc' := 0) (ls' := [(0, .ref v0), (1, .int v1), (2, .int v2), (3, .int v3), (4, .int v4), (5, .ref v5)]) rfl rfl rfl rfl ?_
  refine v_aload C dL_teller_0 5 rfl ?_
  refine v_iconst (v := 0) C dL_teller_2 (by decide) ?_
  refine v_aload_n C dL_teller_3 0 rfl rfl ?_
  refine v_iload_n C dL_teller_4 1 rfl rfl ?_
  refine v_iload_n C dL_teller_5 2 rfl rfl ?_
  refine v_iload_n C dL_teller_6 3 rfl rfl ?_
  refine v_iload C dL_teller_7 4 rfl ?_
  refine w_callXVi (st := [.int (0 : Int32), .ref v5]) C cl_L_97 lk_L_97 im_X11_teller se_X11_teller rfl hw.1 (s_X11_teller hw.2) rfl dL_teller_9 rfl (Nat.le_of_ble_eq_true rfl) (by decide) (by decide) (by decide) (by decide) (fun E h hx => ?_) (fun x1 h hw => ?_)
  · skip
    by_cases e0 : E = "java/lang/IndexOutOfBoundsException"
    · subst e0
      have hw := hx.1 rfl
      refine v_catch (hh := [(0, 14, 17, 13), (0, 14, 21, 15), (0, 14, 25, 29)]) (name := "java/lang/IndexOutOfBoundsException") C htab [] ⟨0, 14, 17, 13⟩ [⟨0, 14, 21, 15⟩, ⟨0, 14, 25, 29⟩] rfl (fun _ h => nomatch h) (by decide) (by decide) (tb3 (List.mem_of_getElem? (i := 89) rfl)) (tb3 (List.mem_of_getElem? (i := 103) rfl)) 17 rfl (fun q => ?_)
      refine v_sub [] rfl ?_
      exact s_L_teller_17 C hr htab  q h (hw q)
    have hx := hx.2 e0
    by_cases e1 : E = "java/lang/IllegalArgumentException"
    · subst e1
      have hw := hx.1 rfl
      refine v_catch (hh := [(0, 14, 17, 13), (0, 14, 21, 15), (0, 14, 25, 29)]) (name := "java/lang/IllegalArgumentException") C htab [⟨0, 14, 17, 13⟩] ⟨0, 14, 21, 15⟩ [⟨0, 14, 25, 29⟩] rfl (List.forall_mem_cons.mpr ⟨⟨by decide, "java/lang/IndexOutOfBoundsException", (tb3 (List.mem_of_getElem? (i := 89) rfl)), List.mem_of_getElem? (i := 3) rfl⟩, fun _ h => nomatch h⟩) (by decide) (by decide) (tb3 (List.mem_of_getElem? (i := 90) rfl)) (tb3 (List.mem_of_getElem? (i := 178) rfl)) 21 rfl (fun q => ?_)
      refine v_sub [] rfl ?_
      exact s_L_teller_21 C hr htab  q h (hw q)
    have hx := hx.2 e1
    by_cases e2 : E = "java/lang/UnsupportedOperationException"
    · subst e2
      have hw := hx.1 rfl
      refine v_catch (hh := [(0, 14, 17, 13), (0, 14, 21, 15), (0, 14, 25, 29)]) (name := "java/lang/UnsupportedOperationException") C htab [⟨0, 14, 17, 13⟩, ⟨0, 14, 21, 15⟩] ⟨0, 14, 25, 29⟩ [] rfl (List.forall_mem_cons.mpr ⟨⟨by decide, "java/lang/IndexOutOfBoundsException", (tb3 (List.mem_of_getElem? (i := 89) rfl)), List.mem_of_getElem? (i := 6) rfl⟩, List.forall_mem_cons.mpr ⟨⟨by decide, "java/lang/IllegalArgumentException", (tb3 (List.mem_of_getElem? (i := 90) rfl)), List.mem_of_getElem? (i := 7) rfl⟩, fun _ h => nomatch h⟩⟩) (by decide) (by decide) (tb3 (List.mem_of_getElem? (i := 223) rfl)) (tb3 (List.mem_of_getElem? (i := 236) rfl)) 25 rfl (fun q => ?_)
      refine v_sub [] rfl ?_
      exact s_L_teller_25 C hr htab  q h (hw q)
    have hx := hx.2 e2
    exact hx.elim
  · skip
    refine v_i2l C dL_teller_12 ?_
    refine w_lastore C dL_teller_13 hw (fun h hw => ?_)
    refine v_goto (tgt := 29) C dL_teller_14 (by decide) ?_
    refine v_iconst (v := 0) C dL_teller_29 (by decide) ?_
    exact (rt_VX C _ _).1 _ _ _ _ _ _ hr dL_teller_30 (by decide) (by decide) ⟨_, rfl, hw⟩
-- GrassFieldLaw.tells(LGrassField;III[J)I
theorem dL_tells_0 : decode cL_tells 0 = .ok (.aload 4, 2) := by decide +kernel
theorem dL_tells_2 : decode cL_tells 2 = .ok (.iconst 0, 1) := by decide +kernel
theorem dL_tells_3 : decode cL_tells 3 = .ok (.aload_n 0, 1) := by decide +kernel
theorem dL_tells_4 : decode cL_tells 4 = .ok (.iload_n 1, 1) := by decide +kernel
theorem dL_tells_5 : decode cL_tells 5 = .ok (.iload_n 2, 1) := by decide +kernel
theorem dL_tells_6 : decode cL_tells 6 = .ok (.iload_n 3, 1) := by decide +kernel
theorem dL_tells_7 : decode cL_tells 7 = .ok (.invokevirtual 100, 3) := by decide +kernel
theorem dL_tells_10 : decode cL_tells 10 = .ok (.i2l, 1) := by decide +kernel
theorem dL_tells_11 : decode cL_tells 11 = .ok (.lastore, 1) := by decide +kernel
theorem dL_tells_12 : decode cL_tells 12 = .ok (.goto 15, 3) := by decide +kernel
theorem dL_tells_15 : decode cL_tells 15 = .ok (.astore 5, 2) := by decide +kernel
theorem dL_tells_17 : decode cL_tells 17 = .ok (.iconst 1, 1) := by decide +kernel
theorem dL_tells_18 : decode cL_tells 18 = .ok (.ireturn, 1) := by decide +kernel
theorem dL_tells_19 : decode cL_tells 19 = .ok (.astore 5, 2) := by decide +kernel
theorem dL_tells_21 : decode cL_tells 21 = .ok (.iconst 2, 1) := by decide +kernel
theorem dL_tells_22 : decode cL_tells 22 = .ok (.ireturn, 1) := by decide +kernel
theorem dL_tells_23 : decode cL_tells 23 = .ok (.astore 5, 2) := by decide +kernel
theorem dL_tells_25 : decode cL_tells 25 = .ok (.iconst 3, 1) := by decide +kernel
theorem dL_tells_26 : decode cL_tells 26 = .ok (.ireturn, 1) := by decide +kernel
theorem dL_tells_27 : decode cL_tells 27 = .ok (.iconst 0, 1) := by decide +kernel
theorem dL_tells_28 : decode cL_tells 28 = .ok (.ireturn, 1) := by decide +kernel
def w_L_tells_23  (t0 : Nat) (h : AH) (Q : Int32 → AH → Prop) : Prop :=
  Q (3 : Int32) h
def w_L_tells_19  (t0 : Nat) (h : AH) (Q : Int32 → AH → Prop) : Prop :=
  Q (2 : Int32) h
def w_L_tells_15  (t0 : Nat) (h : AH) (Q : Int32 → AH → Prop) : Prop :=
  Q (1 : Int32) h
def w_L_tells  (v0 : Nat) (v1 : Int32) (v2 : Int32) (v3 : Int32) (v4 : Nat) (h : AH) (Q : Int32 → AH → Prop) : Prop :=
  vr h v0 11 (
  w_X11_tells v0 v1 v2 v3 h (fun x1 h =>
    tJ h v4 (0 : Int32) x1.toInt64 fun h =>
    Q (0 : Int32) h) (fun E h => br (E = "java/lang/IndexOutOfBoundsException") (∀ q, w_L_tells_15  q h Q) (br (E = "java/lang/IllegalArgumentException") (∀ q, w_L_tells_19  q h Q) (br (E = "java/lang/UnsupportedOperationException") (∀ q, w_L_tells_23  q h Q) (False)))))
set_option maxRecDepth 100000 in
set_option maxHeartbeats 4000000 in
theorem s_L_tells_23 {p : Program} {l : Launch} {e : Env} {s : State} {m : MethodId} {args : Array Value} {below : List Frame} {meth : Method} {c : Code} {g : GG}  {Q : Int32 → AH → Prop}  (C : CXT p l s m args meth c RL cL_tells 6 g) (hr : meth.sig.returnType = (some .int)) (htab : c.exceptionTable.toList = tableOf [(0, 12, 15, 13), (0, 12, 19, 15), (0, 12, 23, 29)])  : ∀ (t0 : Nat) (h : AH), w_L_tells_23  t0 h Q → V p l e s m args below meth c g 9 4 24 6 4 24 (vx_MQ below (QCx g (QI Q)) (XCx g noX) args s 4 24 (gA g)) 23 [] [.ref t0] h := by
  intro t0 h hw
  refine v_astore (ls' := [(5, .ref t0)]) C dL_tells_23 (by decide) rfl ?_
  refine v_iconst (v := 3) C dL_tells_25 (by decide) ?_
  exact (rt_VX C _ _).1 _ _ _ _ _ _ hr dL_tells_26 (by decide) (by decide) ⟨_, rfl, hw⟩
set_option maxRecDepth 100000 in
set_option maxHeartbeats 4000000 in
theorem s_L_tells_19 {p : Program} {l : Launch} {e : Env} {s : State} {m : MethodId} {args : Array Value} {below : List Frame} {meth : Method} {c : Code} {g : GG}  {Q : Int32 → AH → Prop}  (C : CXT p l s m args meth c RL cL_tells 6 g) (hr : meth.sig.returnType = (some .int)) (htab : c.exceptionTable.toList = tableOf [(0, 12, 15, 13), (0, 12, 19, 15), (0, 12, 23, 29)])  : ∀ (t0 : Nat) (h : AH), w_L_tells_19  t0 h Q → V p l e s m args below meth c g 9 4 24 6 4 24 (vx_MQ below (QCx g (QI Q)) (XCx g noX) args s 4 24 (gA g)) 19 [] [.ref t0] h := by
  intro t0 h hw
  refine v_astore (ls' := [(5, .ref t0)]) C dL_tells_19 (by decide) rfl ?_
  refine v_iconst (v := 2) C dL_tells_21 (by decide) ?_
  exact (rt_VX C _ _).1 _ _ _ _ _ _ hr dL_tells_22 (by decide) (by decide) ⟨_, rfl, hw⟩
set_option maxRecDepth 100000 in
set_option maxHeartbeats 4000000 in
theorem s_L_tells_15 {p : Program} {l : Launch} {e : Env} {s : State} {m : MethodId} {args : Array Value} {below : List Frame} {meth : Method} {c : Code} {g : GG}  {Q : Int32 → AH → Prop}  (C : CXT p l s m args meth c RL cL_tells 6 g) (hr : meth.sig.returnType = (some .int)) (htab : c.exceptionTable.toList = tableOf [(0, 12, 15, 13), (0, 12, 19, 15), (0, 12, 23, 29)])  : ∀ (t0 : Nat) (h : AH), w_L_tells_15  t0 h Q → V p l e s m args below meth c g 9 4 24 6 4 24 (vx_MQ below (QCx g (QI Q)) (XCx g noX) args s 4 24 (gA g)) 15 [] [.ref t0] h := by
  intro t0 h hw
  refine v_astore (ls' := [(5, .ref t0)]) C dL_tells_15 (by decide) rfl ?_
  refine v_iconst (v := 1) C dL_tells_17 (by decide) ?_
  exact (rt_VX C _ _).1 _ _ _ _ _ _ hr dL_tells_18 (by decide) (by decide) ⟨_, rfl, hw⟩
set_option maxRecDepth 100000 in
set_option maxHeartbeats 4000000 in
theorem s_L_tells {l : Launch}  {v0 : Nat} {v1 : Int32} {v2 : Int32} {v3 : Int32} {v4 : Nat} {h : AH} {Q : Int32 → AH → Prop}  (hw : w_L_tells  v0 v1 v2 v3 v4 h Q) : CH l yL_tells cL_tells 6 (some .int) [(0, 12, 15, 13), (0, 12, 19, 15), (0, 12, 23, 29)] 9 4 24 [.ref v0, .int v1, .int v2, .int v3, .ref v4] h (QI Q) := by
  refine CH.of (by decide) ⟨rfl, ⟨rfl, ⟨rfl, ⟨rfl, ⟨rfl, trivial⟩⟩⟩⟩⟩ (Nat.le_of_ble_eq_true rfl) ?_
  intro p e s m args below meth c g C hr htab
  refine v_eq (pc' := 0) (ls' := [(0, .ref v0), (1, .int v1), (2, .int v2), (3, .int v3), (4, .ref v4)]) rfl rfl rfl rfl ?_
  refine v_aload C dL_tells_0 4 rfl ?_
  refine v_iconst (v := 0) C dL_tells_2 (by decide) ?_
  refine v_aload_n C dL_tells_3 0 rfl rfl ?_
  refine v_iload_n C dL_tells_4 1 rfl rfl ?_
  refine v_iload_n C dL_tells_5 2 rfl rfl ?_
  refine v_iload_n C dL_tells_6 3 rfl rfl ?_
  refine w_callXVi (st := [.int (0 : Int32), .ref v4]) C cl_L_100 lk_L_100 im_X11_tells se_X11_tells rfl hw.1 (s_X11_tells hw.2) rfl dL_tells_7 rfl (Nat.le_of_ble_eq_true rfl) (by decide) (by decide) (by decide) (by decide) (fun E h hx => ?_) (fun x1 h hw => ?_)
  · skip
    by_cases e0 : E = "java/lang/IndexOutOfBoundsException"
    · subst e0
      have hw := hx.1 rfl
      refine v_catch (hh := [(0, 12, 15, 13), (0, 12, 19, 15), (0, 12, 23, 29)]) (name := "java/lang/IndexOutOfBoundsException") C htab [] ⟨0, 12, 15, 13⟩ [⟨0, 12, 19, 15⟩, ⟨0, 12, 23, 29⟩] rfl (fun _ h => nomatch h) (by decide) (by decide) (tb3 (List.mem_of_getElem? (i := 89) rfl)) (tb3 (List.mem_of_getElem? (i := 103) rfl)) 15 rfl (fun q => ?_)
      refine v_sub [] rfl ?_
      exact s_L_tells_15 C hr htab  q h (hw q)
    have hx := hx.2 e0
    by_cases e1 : E = "java/lang/IllegalArgumentException"
    · subst e1
      have hw := hx.1 rfl
      refine v_catch (hh := [(0, 12, 15, 13), (0, 12, 19, 15), (0, 12, 23, 29)]) (name := "java/lang/IllegalArgumentException") C htab [⟨0, 12, 15, 13⟩] ⟨0, 12, 19, 15⟩ [⟨0, 12, 23, 29⟩] rfl (List.forall_mem_cons.mpr ⟨⟨by decide, "java/lang/IndexOutOfBoundsException", (tb3 (List.mem_of_getElem? (i := 89) rfl)), List.mem_of_getElem? (i := 3) rfl⟩, fun _ h => nomatch h⟩) (by decide) (by decide) (tb3 (List.mem_of_getElem? (i := 90) rfl)) (tb3 (List.mem_of_getElem? (i := 178) rfl)) 19 rfl (fun q => ?_)
      refine v_sub [] rfl ?_
      exact s_L_tells_19 C hr htab  q h (hw q)
    have hx := hx.2 e1
    by_cases e2 : E = "java/lang/UnsupportedOperationException"
    · subst e2
      have hw := hx.1 rfl
      refine v_catch (hh := [(0, 12, 15, 13), (0, 12, 19, 15), (0, 12, 23, 29)]) (name := "java/lang/UnsupportedOperationException") C htab [⟨0, 12, 15, 13⟩, ⟨0, 12, 19, 15⟩] ⟨0, 12, 23, 29⟩ [] rfl (List.forall_mem_cons.mpr ⟨⟨by decide, "java/lang/IndexOutOfBoundsException", (tb3 (List.mem_of_getElem? (i := 89) rfl)), List.mem_of_getElem? (i := 6) rfl⟩, List.forall_mem_cons.mpr ⟨⟨by decide, "java/lang/IllegalArgumentException", (tb3 (List.mem_of_getElem? (i := 90) rfl)), List.mem_of_getElem? (i := 7) rfl⟩, fun _ h => nomatch h⟩⟩) (by decide) (by decide) (tb3 (List.mem_of_getElem? (i := 223) rfl)) (tb3 (List.mem_of_getElem? (i := 236) rfl)) 23 rfl (fun q => ?_)
      refine v_sub [] rfl ?_
      exact s_L_tells_23 C hr htab  q h (hw q)
    have hx := hx.2 e2
    exact hx.elim
  · skip
    refine v_i2l C dL_tells_10 ?_
    refine w_lastore C dL_tells_11 hw (fun h hw => ?_)
    refine v_goto (tgt := 27) C dL_tells_12 (by decide) ?_
    refine v_iconst (v := 0) C dL_tells_27 (by decide) ?_
    exact (rt_VX C _ _).1 _ _ _ _ _ _ hr dL_tells_28 (by decide) (by decide) ⟨_, rfl, hw⟩
-- GrassFieldLaw.walk(LGrassField;I[J)I
theorem dL_walk_0 : decode cL_walk 0 = .ok (.aload_n 2, 1) := by decide +kernel
theorem dL_walk_1 : decode cL_walk 1 = .ok (.iconst 0, 1) := by decide +kernel
theorem dL_walk_2 : decode cL_walk 2 = .ok (.aload_n 0, 1) := by decide +kernel
theorem dL_walk_3 : decode cL_walk 3 = .ok (.iload_n 1, 1) := by decide +kernel
theorem dL_walk_4 : decode cL_walk 4 = .ok (.invokevirtual 68, 3) := by decide +kernel
theorem dL_walk_7 : decode cL_walk 7 = .ok (.i2l, 1) := by decide +kernel
theorem dL_walk_8 : decode cL_walk 8 = .ok (.lastore, 1) := by decide +kernel
theorem dL_walk_9 : decode cL_walk 9 = .ok (.goto 6, 3) := by decide +kernel
theorem dL_walk_12 : decode cL_walk 12 = .ok (.astore_n 3, 1) := by decide +kernel
theorem dL_walk_13 : decode cL_walk 13 = .ok (.iconst 1, 1) := by decide +kernel
theorem dL_walk_14 : decode cL_walk 14 = .ok (.ireturn, 1) := by decide +kernel
theorem dL_walk_15 : decode cL_walk 15 = .ok (.iconst 0, 1) := by decide +kernel
theorem dL_walk_16 : decode cL_walk 16 = .ok (.ireturn, 1) := by decide +kernel
def w_L_walk_12  (t0 : Nat) (h : AH) (Q : Int32 → AH → Prop) : Prop :=
  Q (1 : Int32) h
def w_L_walk  (v0 : Nat) (v1 : Int32) (v2 : Nat) (h : AH) (Q : Int32 → AH → Prop) : Prop :=
  vr h v0 11 (
  w_X11_walk v0 v1 h (fun x1 h =>
    tJ h v2 (0 : Int32) x1.toInt64 fun h =>
    Q (0 : Int32) h) (fun E h => br (E = "java/lang/IndexOutOfBoundsException") (∀ q, w_L_walk_12  q h Q) (False)))
set_option maxRecDepth 100000 in
set_option maxHeartbeats 4000000 in
theorem s_L_walk_12 {p : Program} {l : Launch} {e : Env} {s : State} {m : MethodId} {args : Array Value} {below : List Frame} {meth : Method} {c : Code} {g : GG}  {Q : Int32 → AH → Prop}  (C : CXT p l s m args meth c RL cL_walk 4 g) (hr : meth.sig.returnType = (some .int)) (htab : c.exceptionTable.toList = tableOf [(0, 9, 12, 13)])  : ∀ (t0 : Nat) (h : AH), w_L_walk_12  t0 h Q → V p l e s m args below meth c g 8 1 6 4 1 6 (vx_MQ below (QCx g (QI Q)) (XCx g noX) args s 1 6 (gA g)) 12 [] [.ref t0] h := by
  intro t0 h hw
  refine v_astore_n (ls' := [(3, .ref t0)]) C dL_walk_12 rfl (by decide) rfl ?_
  refine v_iconst (v := 1) C dL_walk_13 (by decide) ?_
  exact (rt_VX C _ _).1 _ _ _ _ _ _ hr dL_walk_14 (by decide) (by decide) ⟨_, rfl, hw⟩
set_option maxRecDepth 100000 in
set_option maxHeartbeats 4000000 in
theorem s_L_walk {l : Launch}  {v0 : Nat} {v1 : Int32} {v2 : Nat} {h : AH} {Q : Int32 → AH → Prop}  (hw : w_L_walk  v0 v1 v2 h Q) : CH l yL_walk cL_walk 4 (some .int) [(0, 9, 12, 13)] 8 1 6 [.ref v0, .int v1, .ref v2] h (QI Q) := by
  refine CH.of (by decide) ⟨rfl, ⟨rfl, ⟨rfl, trivial⟩⟩⟩ (Nat.le_of_ble_eq_true rfl) ?_
  intro p e s m args below meth c g C hr htab
  refine v_eq (pc' := 0) (ls' := [(0, .ref v0), (1, .int v1), (2, .ref v2)]) rfl rfl rfl rfl ?_
  refine v_aload_n C dL_walk_0 2 rfl rfl ?_
  refine v_iconst (v := 0) C dL_walk_1 (by decide) ?_
  refine v_aload_n C dL_walk_2 0 rfl rfl ?_
  refine v_iload_n C dL_walk_3 1 rfl rfl ?_
  refine w_callXVi (st := [.int (0 : Int32), .ref v2]) C cl_L_68 lk_L_68 im_X11_walk se_X11_walk rfl hw.1 (s_X11_walk hw.2) rfl dL_walk_4 rfl (Nat.le_of_ble_eq_true rfl) (by decide) (by decide) (by decide) (by decide) (fun E h hx => ?_) (fun x1 h hw => ?_)
  · skip
    by_cases e0 : E = "java/lang/IndexOutOfBoundsException"
    · subst e0
      have hw := hx.1 rfl
      refine v_catch (hh := [(0, 9, 12, 13)]) (name := "java/lang/IndexOutOfBoundsException") C htab [] ⟨0, 9, 12, 13⟩ [] rfl (fun _ h => nomatch h) (by decide) (by decide) (tb3 (List.mem_of_getElem? (i := 89) rfl)) (tb3 (List.mem_of_getElem? (i := 103) rfl)) 12 rfl (fun q => ?_)
      refine v_sub [] rfl ?_
      exact s_L_walk_12 C hr htab  q h (hw q)
    have hx := hx.2 e0
    exact hx.elim
  · skip
    refine v_i2l C dL_walk_7 ?_
    refine w_lastore C dL_walk_8 hw (fun h hw => ?_)
    refine v_goto (tgt := 15) C dL_walk_9 (by decide) ?_
    refine v_iconst (v := 0) C dL_walk_15 (by decide) ?_
    exact (rt_VX C _ _).1 _ _ _ _ _ _ hr dL_walk_16 (by decide) (by decide) ⟨_, rfl, hw⟩
-- GrassFieldLaw.way(LGrassField;II[J)I
theorem dL_way_0 : decode cL_way 0 = .ok (.aload_n 3, 1) := by decide +kernel
theorem dL_way_1 : decode cL_way 1 = .ok (.iconst 0, 1) := by decide +kernel
theorem dL_way_2 : decode cL_way 2 = .ok (.aload_n 0, 1) := by decide +kernel
theorem dL_way_3 : decode cL_way 3 = .ok (.iload_n 1, 1) := by decide +kernel
theorem dL_way_4 : decode cL_way 4 = .ok (.iload_n 2, 1) := by decide +kernel
theorem dL_way_5 : decode cL_way 5 = .ok (.invokevirtual 80, 3) := by decide +kernel
theorem dL_way_8 : decode cL_way 8 = .ok (.i2l, 1) := by decide +kernel
theorem dL_way_9 : decode cL_way 9 = .ok (.lastore, 1) := by decide +kernel
theorem dL_way_10 : decode cL_way 10 = .ok (.goto 11, 3) := by decide +kernel
theorem dL_way_13 : decode cL_way 13 = .ok (.astore 4, 2) := by decide +kernel
theorem dL_way_15 : decode cL_way 15 = .ok (.iconst 1, 1) := by decide +kernel
theorem dL_way_16 : decode cL_way 16 = .ok (.ireturn, 1) := by decide +kernel
theorem dL_way_17 : decode cL_way 17 = .ok (.astore 4, 2) := by decide +kernel
theorem dL_way_19 : decode cL_way 19 = .ok (.iconst 2, 1) := by decide +kernel
theorem dL_way_20 : decode cL_way 20 = .ok (.ireturn, 1) := by decide +kernel
theorem dL_way_21 : decode cL_way 21 = .ok (.iconst 0, 1) := by decide +kernel
theorem dL_way_22 : decode cL_way 22 = .ok (.ireturn, 1) := by decide +kernel
def w_L_way_17  (t0 : Nat) (h : AH) (Q : Int32 → AH → Prop) : Prop :=
  Q (2 : Int32) h
def w_L_way_13  (t0 : Nat) (h : AH) (Q : Int32 → AH → Prop) : Prop :=
  Q (1 : Int32) h
def w_L_way  (v0 : Nat) (v1 : Int32) (v2 : Int32) (v3 : Nat) (h : AH) (Q : Int32 → AH → Prop) : Prop :=
  vr h v0 11 (
  w_X11_way v0 v1 v2 h (fun x1 h =>
    tJ h v3 (0 : Int32) x1.toInt64 fun h =>
    Q (0 : Int32) h) (fun E h => br (E = "java/lang/IndexOutOfBoundsException") (∀ q, w_L_way_13  q h Q) (br (E = "java/util/NoSuchElementException") (∀ q, w_L_way_17  q h Q) (False))))
set_option maxRecDepth 100000 in
set_option maxHeartbeats 4000000 in
theorem s_L_way_17 {p : Program} {l : Launch} {e : Env} {s : State} {m : MethodId} {args : Array Value} {below : List Frame} {meth : Method} {c : Code} {g : GG}  {Q : Int32 → AH → Prop}  (C : CXT p l s m args meth c RL cL_way 5 g) (hr : meth.sig.returnType = (some .int)) (htab : c.exceptionTable.toList = tableOf [(0, 10, 13, 13), (0, 10, 17, 46)])  : ∀ (t0 : Nat) (h : AH), w_L_way_17  t0 h Q → V p l e s m args below meth c g 8 10 2669 5 10 2669 (vx_MQ below (QCx g (QI Q)) (XCx g noX) args s 10 2669 (gA g)) 17 [] [.ref t0] h := by
  intro t0 h hw
  refine v_astore (ls' := [(4, .ref t0)]) C dL_way_17 (by decide) rfl ?_
  refine v_iconst (v := 2) C dL_way_19 (by decide) ?_
  exact (rt_VX C _ _).1 _ _ _ _ _ _ hr dL_way_20 (by decide) (by decide) ⟨_, rfl, hw⟩
set_option maxRecDepth 100000 in
set_option maxHeartbeats 4000000 in
theorem s_L_way_13 {p : Program} {l : Launch} {e : Env} {s : State} {m : MethodId} {args : Array Value} {below : List Frame} {meth : Method} {c : Code} {g : GG}  {Q : Int32 → AH → Prop}  (C : CXT p l s m args meth c RL cL_way 5 g) (hr : meth.sig.returnType = (some .int)) (htab : c.exceptionTable.toList = tableOf [(0, 10, 13, 13), (0, 10, 17, 46)])  : ∀ (t0 : Nat) (h : AH), w_L_way_13  t0 h Q → V p l e s m args below meth c g 8 10 2669 5 10 2669 (vx_MQ below (QCx g (QI Q)) (XCx g noX) args s 10 2669 (gA g)) 13 [] [.ref t0] h := by
  intro t0 h hw
  refine v_astore (ls' := [(4, .ref t0)]) C dL_way_13 (by decide) rfl ?_
  refine v_iconst (v := 1) C dL_way_15 (by decide) ?_
  exact (rt_VX C _ _).1 _ _ _ _ _ _ hr dL_way_16 (by decide) (by decide) ⟨_, rfl, hw⟩
set_option maxRecDepth 100000 in
set_option maxHeartbeats 4000000 in
theorem s_L_way {l : Launch}  {v0 : Nat} {v1 : Int32} {v2 : Int32} {v3 : Nat} {h : AH} {Q : Int32 → AH → Prop}  (hw : w_L_way  v0 v1 v2 v3 h Q) : CH l yL_way cL_way 5 (some .int) [(0, 10, 13, 13), (0, 10, 17, 46)] 8 10 2669 [.ref v0, .int v1, .int v2, .ref v3] h (QI Q) := by
  refine CH.of (by decide) ⟨rfl, ⟨rfl, ⟨rfl, ⟨rfl, trivial⟩⟩⟩⟩ (Nat.le_of_ble_eq_true rfl) ?_
  intro p e s m args below meth c g C hr htab
  refine v_eq (pc' := 0) (ls' := [(0, .ref v0), (1, .int v1), (2, .int v2), (3, .ref v3)]) rfl rfl rfl rfl ?_
  refine v_aload_n C dL_way_0 3 rfl rfl ?_
  refine v_iconst (v := 0) C dL_way_1 (by decide) ?_
  refine v_aload_n C dL_way_2 0 rfl rfl ?_
  refine v_iload_n C dL_way_3 1 rfl rfl ?_
  refine v_iload_n C dL_way_4 2 rfl rfl ?_
  refine w_callXVi (st := [.int (0 : Int32), .ref v3]) C cl_L_80 lk_L_80 im_X11_way se_X11_way rfl hw.1 (s_X11_way hw.2) rfl dL_way_5 rfl (Nat.le_of_ble_eq_true rfl) (by decide) (by decide) (by decide) (by decide) (fun E h hx => ?_) (fun x1 h hw => ?_)
  · skip
    by_cases e0 : E = "java/lang/IndexOutOfBoundsException"
    · subst e0
      have hw := hx.1 rfl
      refine v_catch (hh := [(0, 10, 13, 13), (0, 10, 17, 46)]) (name := "java/lang/IndexOutOfBoundsException") C htab [] ⟨0, 10, 13, 13⟩ [⟨0, 10, 17, 46⟩] rfl (fun _ h => nomatch h) (by decide) (by decide) (tb3 (List.mem_of_getElem? (i := 89) rfl)) (tb3 (List.mem_of_getElem? (i := 103) rfl)) 13 rfl (fun q => ?_)
      refine v_sub [] rfl ?_
      exact s_L_way_13 C hr htab  q h (hw q)
    have hx := hx.2 e0
    by_cases e1 : E = "java/util/NoSuchElementException"
    · subst e1
      have hw := hx.1 rfl
      refine v_catch (hh := [(0, 10, 13, 13), (0, 10, 17, 46)]) (name := "java/util/NoSuchElementException") C htab [⟨0, 10, 13, 13⟩] ⟨0, 10, 17, 46⟩ [] rfl (List.forall_mem_cons.mpr ⟨⟨by decide, "java/lang/IndexOutOfBoundsException", (tb3 (List.mem_of_getElem? (i := 89) rfl)), List.mem_of_getElem? (i := 9) rfl⟩, fun _ h => nomatch h⟩) (by decide) (by decide) (tb5 (List.mem_of_getElem? (i := 23) rfl)) (tb5 (List.mem_of_getElem? (i := 47) rfl)) 17 rfl (fun q => ?_)
      refine v_sub [] rfl ?_
      exact s_L_way_17 C hr htab  q h (hw q)
    have hx := hx.2 e1
    exact hx.elim
  · skip
    refine v_i2l C dL_way_8 ?_
    refine w_lastore C dL_way_9 hw (fun h hw => ?_)
    refine v_goto (tgt := 21) C dL_way_10 (by decide) ?_
    refine v_iconst (v := 0) C dL_way_21 (by decide) ?_
    exact (rt_VX C _ _).1 _ _ _ _ _ _ hr dL_way_22 (by decide) (by decide) ⟨_, rfl, hw⟩
-- GrassFieldLaw.when(LGrassField;III)I
theorem dL_when_0 : decode cL_when 0 = .ok (.aload_n 0, 1) := by decide +kernel
theorem dL_when_1 : decode cL_when 1 = .ok (.iload_n 1, 1) := by decide +kernel
theorem dL_when_2 : decode cL_when 2 = .ok (.iload_n 2, 1) := by decide +kernel
theorem dL_when_3 : decode cL_when 3 = .ok (.iload_n 3, 1) := by decide +kernel
theorem dL_when_4 : decode cL_when 4 = .ok (.invokevirtual 61, 3) := by decide +kernel
theorem dL_when_7 : decode cL_when 7 = .ok (.goto 11, 3) := by decide +kernel
theorem dL_when_10 : decode cL_when 10 = .ok (.astore 4, 2) := by decide +kernel
theorem dL_when_12 : decode cL_when 12 = .ok (.iconst 1, 1) := by decide +kernel
theorem dL_when_13 : decode cL_when 13 = .ok (.ireturn, 1) := by decide +kernel
theorem dL_when_14 : decode cL_when 14 = .ok (.astore 4, 2) := by decide +kernel
theorem dL_when_16 : decode cL_when 16 = .ok (.iconst 2, 1) := by decide +kernel
theorem dL_when_17 : decode cL_when 17 = .ok (.ireturn, 1) := by decide +kernel
theorem dL_when_18 : decode cL_when 18 = .ok (.iconst 0, 1) := by decide +kernel
theorem dL_when_19 : decode cL_when 19 = .ok (.ireturn, 1) := by decide +kernel
def w_L_when_14  (t0 : Nat) (h : AH) (Q : Int32 → AH → Prop) : Prop :=
  Q (2 : Int32) h
def w_L_when_10  (t0 : Nat) (h : AH) (Q : Int32 → AH → Prop) : Prop :=
  Q (1 : Int32) h
def w_L_when  (v0 : Nat) (v1 : Int32) (v2 : Int32) (v3 : Int32) (h : AH) (Q : Int32 → AH → Prop) : Prop :=
  vr h v0 11 (
  w_X11_when v0 v1 v2 v3 h (fun h =>
    Q (0 : Int32) h) (fun E h => br (E = "java/lang/IndexOutOfBoundsException") (∀ q, w_L_when_10  q h Q) (br (E = "java/lang/IllegalArgumentException") (∀ q, w_L_when_14  q h Q) (False))))
set_option maxRecDepth 100000 in
set_option maxHeartbeats 4000000 in
theorem s_L_when_14 {p : Program} {l : Launch} {e : Env} {s : State} {m : MethodId} {args : Array Value} {below : List Frame} {meth : Method} {c : Code} {g : GG}  {Q : Int32 → AH → Prop}  (C : CXT p l s m args meth c RL cL_when 5 g) (hr : meth.sig.returnType = (some .int)) (htab : c.exceptionTable.toList = tableOf [(0, 7, 10, 13), (0, 7, 14, 15)])  : ∀ (t0 : Nat) (h : AH), w_L_when_14  t0 h Q → V p l e s m args below meth c g 8 2 12 5 2 12 (vx_MQ below (QCx g (QI Q)) (XCx g noX) args s 2 12 (gA g)) 14 [] [.ref t0] h := by
  intro t0 h hw
  refine v_astore (ls' := [(4, .ref t0)]) C dL_when_14 (by decide) rfl ?_
  refine v_iconst (v := 2) C dL_when_16 (by decide) ?_
  exact (rt_VX C _ _).1 _ _ _ _ _ _ hr dL_when_17 (by decide) (by decide) ⟨_, rfl, hw⟩
set_option maxRecDepth 100000 in
set_option maxHeartbeats 4000000 in
theorem s_L_when_10 {p : Program} {l : Launch} {e : Env} {s : State} {m : MethodId} {args : Array Value} {below : List Frame} {meth : Method} {c : Code} {g : GG}  {Q : Int32 → AH → Prop}  (C : CXT p l s m args meth c RL cL_when 5 g) (hr : meth.sig.returnType = (some .int)) (htab : c.exceptionTable.toList = tableOf [(0, 7, 10, 13), (0, 7, 14, 15)])  : ∀ (t0 : Nat) (h : AH), w_L_when_10  t0 h Q → V p l e s m args below meth c g 8 2 12 5 2 12 (vx_MQ below (QCx g (QI Q)) (XCx g noX) args s 2 12 (gA g)) 10 [] [.ref t0] h := by
  intro t0 h hw
  refine v_astore (ls' := [(4, .ref t0)]) C dL_when_10 (by decide) rfl ?_
  refine v_iconst (v := 1) C dL_when_12 (by decide) ?_
  exact (rt_VX C _ _).1 _ _ _ _ _ _ hr dL_when_13 (by decide) (by decide) ⟨_, rfl, hw⟩
set_option maxRecDepth 100000 in
set_option maxHeartbeats 4000000 in
theorem s_L_when {l : Launch}  {v0 : Nat} {v1 : Int32} {v2 : Int32} {v3 : Int32} {h : AH} {Q : Int32 → AH → Prop}  (hw : w_L_when  v0 v1 v2 v3 h Q) : CH l yL_when cL_when 5 (some .int) [(0, 7, 10, 13), (0, 7, 14, 15)] 8 2 12 [.ref v0, .int v1, .int v2, .int v3] h (QI Q) := by
  refine CH.of (by decide) ⟨rfl, ⟨rfl, ⟨rfl, ⟨rfl, trivial⟩⟩⟩⟩ (Nat.le_of_ble_eq_true rfl) ?_
  intro p e s m args below meth c g C hr htab
  refine v_eq (pc' := 0) (ls' := [(0, .ref v0), (1, .int v1), (2, .int v2), (3, .int v3)]) rfl rfl rfl rfl ?_
  refine v_aload_n C dL_when_0 0 rfl rfl ?_
  refine v_iload_n C dL_when_1 1 rfl rfl ?_
  refine v_iload_n C dL_when_2 2 rfl rfl ?_
  refine v_iload_n C dL_when_3 3 rfl rfl ?_
  refine w_callXVv (st := []) C cl_L_61 lk_L_61 im_X11_when se_X11_when rfl hw.1 (s_X11_when hw.2) rfl dL_when_4 rfl (by decide) (by decide) (by decide) (by decide) (by decide) (fun E h hx => ?_) (fun h hw => ?_)
  · skip
    by_cases e0 : E = "java/lang/IndexOutOfBoundsException"
    · subst e0
      have hw := hx.1 rfl
      refine v_catch (hh := [(0, 7, 10, 13), (0, 7, 14, 15)]) (name := "java/lang/IndexOutOfBoundsException") C htab [] ⟨0, 7, 10, 13⟩ [⟨0, 7, 14, 15⟩] rfl (fun _ h => nomatch h) (by decide) (by decide) (tb3 (List.mem_of_getElem? (i := 89) rfl)) (tb3 (List.mem_of_getElem? (i := 103) rfl)) 10 rfl (fun q => ?_)
      refine v_sub [] rfl ?_
      exact s_L_when_10 C hr htab  q h (hw q)
    have hx := hx.2 e0
    by_cases e1 : E = "java/lang/IllegalArgumentException"
    · subst e1
      have hw := hx.1 rfl
      refine v_catch (hh := [(0, 7, 10, 13), (0, 7, 14, 15)]) (name := "java/lang/IllegalArgumentException") C htab [⟨0, 7, 10, 13⟩] ⟨0, 7, 14, 15⟩ [] rfl (List.forall_mem_cons.mpr ⟨⟨by decide, "java/lang/IndexOutOfBoundsException", (tb3 (List.mem_of_getElem? (i := 89) rfl)), List.mem_of_getElem? (i := 3) rfl⟩, fun _ h => nomatch h⟩) (by decide) (by decide) (tb3 (List.mem_of_getElem? (i := 90) rfl)) (tb3 (List.mem_of_getElem? (i := 178) rfl)) 14 rfl (fun q => ?_)
      refine v_sub [] rfl ?_
      exact s_L_when_14 C hr htab  q h (hw q)
    have hx := hx.2 e1
    exact hx.elim
  · skip
    refine v_goto (tgt := 18) C dL_when_7 (by decide) ?_
    refine v_iconst (v := 0) C dL_when_18 (by decide) ?_
    exact (rt_VX C _ _).1 _ _ _ _ _ _ hr dL_when_19 (by decide) (by decide) ⟨_, rfl, hw⟩
-- GrassFieldLaw.who(LGrassField;I[J)I
theorem dL_who_0 : decode cL_who 0 = .ok (.aload_n 2, 1) := by decide +kernel
theorem dL_who_1 : decode cL_who 1 = .ok (.iconst 0, 1) := by decide +kernel
theorem dL_who_2 : decode cL_who 2 = .ok (.aload_n 0, 1) := by decide +kernel
theorem dL_who_3 : decode cL_who 3 = .ok (.iload_n 1, 1) := by decide +kernel
theorem dL_who_4 : decode cL_who 4 = .ok (.invokevirtual 110, 3) := by decide +kernel
theorem dL_who_7 : decode cL_who 7 = .ok (.i2l, 1) := by decide +kernel
theorem dL_who_8 : decode cL_who 8 = .ok (.lastore, 1) := by decide +kernel
theorem dL_who_9 : decode cL_who 9 = .ok (.goto 9, 3) := by decide +kernel
theorem dL_who_12 : decode cL_who 12 = .ok (.astore_n 3, 1) := by decide +kernel
theorem dL_who_13 : decode cL_who 13 = .ok (.iconst 1, 1) := by decide +kernel
theorem dL_who_14 : decode cL_who 14 = .ok (.ireturn, 1) := by decide +kernel
theorem dL_who_15 : decode cL_who 15 = .ok (.astore_n 3, 1) := by decide +kernel
theorem dL_who_16 : decode cL_who 16 = .ok (.iconst 2, 1) := by decide +kernel
theorem dL_who_17 : decode cL_who 17 = .ok (.ireturn, 1) := by decide +kernel
theorem dL_who_18 : decode cL_who 18 = .ok (.iconst 0, 1) := by decide +kernel
theorem dL_who_19 : decode cL_who 19 = .ok (.ireturn, 1) := by decide +kernel
def w_L_who_15  (t0 : Nat) (h : AH) (Q : Int32 → AH → Prop) : Prop :=
  Q (2 : Int32) h
def w_L_who_12  (t0 : Nat) (h : AH) (Q : Int32 → AH → Prop) : Prop :=
  Q (1 : Int32) h
def w_L_who  (v0 : Nat) (v1 : Int32) (v2 : Nat) (h : AH) (Q : Int32 → AH → Prop) : Prop :=
  vr h v0 11 (
  w_X11_who v0 v1 h (fun x1 h =>
    tJ h v2 (0 : Int32) x1.toInt64 fun h =>
    Q (0 : Int32) h) (fun E h => br (E = "java/lang/IndexOutOfBoundsException") (∀ q, w_L_who_12  q h Q) (br (E = "java/lang/IllegalArgumentException") (∀ q, w_L_who_15  q h Q) (False))))
set_option maxRecDepth 100000 in
set_option maxHeartbeats 4000000 in
theorem s_L_who_15 {p : Program} {l : Launch} {e : Env} {s : State} {m : MethodId} {args : Array Value} {below : List Frame} {meth : Method} {c : Code} {g : GG}  {Q : Int32 → AH → Prop}  (C : CXT p l s m args meth c RL cL_who 4 g) (hr : meth.sig.returnType = (some .int)) (htab : c.exceptionTable.toList = tableOf [(0, 9, 12, 13), (0, 9, 15, 15)])  : ∀ (t0 : Nat) (h : AH), w_L_who_15  t0 h Q → V p l e s m args below meth c g 8 2 12 4 2 12 (vx_MQ below (QCx g (QI Q)) (XCx g noX) args s 2 12 (gA g)) 15 [] [.ref t0] h := by
  intro t0 h hw
  refine v_astore_n (ls' := [(3, .ref t0)]) C dL_who_15 rfl (by decide) rfl ?_
  refine v_iconst (v := 2) C dL_who_16 (by decide) ?_
  exact (rt_VX C _ _).1 _ _ _ _ _ _ hr dL_who_17 (by decide) (by decide) ⟨_, rfl, hw⟩
set_option maxRecDepth 100000 in
set_option maxHeartbeats 4000000 in
theorem s_L_who_12 {p : Program} {l : Launch} {e : Env} {s : State} {m : MethodId} {args : Array Value} {below : List Frame} {meth : Method} {c : Code} {g : GG}  {Q : Int32 → AH → Prop}  (C : CXT p l s m args meth c RL cL_who 4 g) (hr : meth.sig.returnType = (some .int)) (htab : c.exceptionTable.toList = tableOf [(0, 9, 12, 13), (0, 9, 15, 15)])  : ∀ (t0 : Nat) (h : AH), w_L_who_12  t0 h Q → V p l e s m args below meth c g 8 2 12 4 2 12 (vx_MQ below (QCx g (QI Q)) (XCx g noX) args s 2 12 (gA g)) 12 [] [.ref t0] h := by
  intro t0 h hw
  refine v_astore_n (ls' := [(3, .ref t0)]) C dL_who_12 rfl (by decide) rfl ?_
  refine v_iconst (v := 1) C dL_who_13 (by decide) ?_
  exact (rt_VX C _ _).1 _ _ _ _ _ _ hr dL_who_14 (by decide) (by decide) ⟨_, rfl, hw⟩
set_option maxRecDepth 100000 in
set_option maxHeartbeats 4000000 in
theorem s_L_who {l : Launch}  {v0 : Nat} {v1 : Int32} {v2 : Nat} {h : AH} {Q : Int32 → AH → Prop}  (hw : w_L_who  v0 v1 v2 h Q) : CH l yL_who cL_who 4 (some .int) [(0, 9, 12, 13), (0, 9, 15, 15)] 8 2 12 [.ref v0, .int v1, .ref v2] h (QI Q) := by
  refine CH.of (by decide) ⟨rfl, ⟨rfl, ⟨rfl, trivial⟩⟩⟩ (Nat.le_of_ble_eq_true rfl) ?_
  intro p e s m args below meth c g C hr htab
  refine v_eq (pc' := 0) (ls' := [(0, .ref v0), (1, .int v1), (2, .ref v2)]) rfl rfl rfl rfl ?_
  refine v_aload_n C dL_who_0 2 rfl rfl ?_
  refine v_iconst (v := 0) C dL_who_1 (by decide) ?_
  refine v_aload_n C dL_who_2 0 rfl rfl ?_
  refine v_iload_n C dL_who_3 1 rfl rfl ?_
  refine w_callXVi (st := [.int (0 : Int32), .ref v2]) C cl_L_110 lk_L_110 im_X11_who se_X11_who rfl hw.1 (s_X11_who hw.2) rfl dL_who_4 rfl (Nat.le_of_ble_eq_true rfl) (by decide) (by decide) (by decide) (by decide) (fun E h hx => ?_) (fun x1 h hw => ?_)
  · skip
    by_cases e0 : E = "java/lang/IndexOutOfBoundsException"
    · subst e0
      have hw := hx.1 rfl
      refine v_catch (hh := [(0, 9, 12, 13), (0, 9, 15, 15)]) (name := "java/lang/IndexOutOfBoundsException") C htab [] ⟨0, 9, 12, 13⟩ [⟨0, 9, 15, 15⟩] rfl (fun _ h => nomatch h) (by decide) (by decide) (tb3 (List.mem_of_getElem? (i := 89) rfl)) (tb3 (List.mem_of_getElem? (i := 103) rfl)) 12 rfl (fun q => ?_)
      refine v_sub [] rfl ?_
      exact s_L_who_12 C hr htab  q h (hw q)
    have hx := hx.2 e0
    by_cases e1 : E = "java/lang/IllegalArgumentException"
    · subst e1
      have hw := hx.1 rfl
      refine v_catch (hh := [(0, 9, 12, 13), (0, 9, 15, 15)]) (name := "java/lang/IllegalArgumentException") C htab [⟨0, 9, 12, 13⟩] ⟨0, 9, 15, 15⟩ [] rfl (List.forall_mem_cons.mpr ⟨⟨by decide, "java/lang/IndexOutOfBoundsException", (tb3 (List.mem_of_getElem? (i := 89) rfl)), List.mem_of_getElem? (i := 3) rfl⟩, fun _ h => nomatch h⟩) (by decide) (by decide) (tb3 (List.mem_of_getElem? (i := 90) rfl)) (tb3 (List.mem_of_getElem? (i := 178) rfl)) 15 rfl (fun q => ?_)
      refine v_sub [] rfl ?_
      exact s_L_who_15 C hr htab  q h (hw q)
    have hx := hx.2 e1
    exact hx.elim
  · skip
    refine v_i2l C dL_who_7 ?_
    refine w_lastore C dL_who_8 hw (fun h hw => ?_)
    refine v_goto (tgt := 18) C dL_who_9 (by decide) ?_
    refine v_iconst (v := 0) C dL_who_18 (by decide) ?_
    exact (rt_VX C _ _).1 _ _ _ _ _ _ hr dL_who_19 (by decide) (by decide) ⟨_, rfl, hw⟩
