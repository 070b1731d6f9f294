theorem df_X3 : ∀ k, k < 1 → defaultValue (tyX3 k) = if rf 3 k = true then .null else .int 0 := by decide +kernel
theorem cl_X7_11 : CLk RX7 11 yX3_init cX3_init 1 none 0 := ⟨Or.inr ⟨"GrassField", (tb1 (List.mem_of_getElem? (i := 86) rfl))⟩, (tb1 (List.mem_of_getElem? (i := 88) rfl)), (tb1 (List.mem_of_getElem? (i := 4) rfl)), by decide +kernel, by decide +kernel, by decide +kernel⟩
theorem im_X3_init : Cond.instanceMethod yX3_init ∈ lw_tbl := (tb1 (List.mem_of_getElem? (i := 87) rfl))
theorem iw_X7 : ∀ w ∈ u_ws RX7 TX7 13, w ∈ lw_tbl := (show ∀ w ∈ ([Cond.laysFinal "GrassField$State" "GrassField$State" "land" "LGrassField$Land;", Cond.laysFinal "GrassField$State" "GrassField$State" "guns" "LGrassField$Guns;", Cond.laysFinal "GrassField$State" "GrassField$State" "people" "LGrassField$People;", Cond.laysFinal "GrassField$State" "GrassField$State" "finds" "LGrassField$Finds;", Cond.laysFinal "GrassField$State" "GrassField$State" "tellers" "LGrassField$Tellers;", Cond.laysFinal "GrassField$State" "GrassField$State" "laws" "[LGrassField$Program;", Cond.lays "GrassField$State" "GrassField$State" "lawCount" "I", Cond.laysFinal "GrassField$State" "GrassField$State" "stories" "[LGrassField$Program;", Cond.laysFinal "GrassField$State" "GrassField$State" "weights" "[I", Cond.lays "GrassField$State" "GrassField$State" "storyCount" "I", Cond.lays "GrassField$State" "GrassField$State" "day" "I", Cond.lays "GrassField$State" "GrassField$State" "seed" "I", Cond.lays "GrassField$State" "GrassField$State" "minute" "I"] : List Cond), w ∈ lw_tbl from List.forall_mem_cons.mpr ⟨(tb2 (List.mem_of_getElem? (i := 63) rfl)), List.forall_mem_cons.mpr ⟨(tb2 (List.mem_of_getElem? (i := 65) rfl)), List.forall_mem_cons.mpr ⟨(tb2 (List.mem_of_getElem? (i := 67) rfl)), List.forall_mem_cons.mpr ⟨(tb2 (List.mem_of_getElem? (i := 69) rfl)), List.forall_mem_cons.mpr ⟨(tb2 (List.mem_of_getElem? (i := 71) rfl)), List.forall_mem_cons.mpr ⟨(tb2 (List.mem_of_getElem? (i := 73) rfl)), List.forall_mem_cons.mpr ⟨(tb2 (List.mem_of_getElem? (i := 75) rfl)), List.forall_mem_cons.mpr ⟨(tb2 (List.mem_of_getElem? (i := 77) rfl)), List.forall_mem_cons.mpr ⟨(tb2 (List.mem_of_getElem? (i := 79) rfl)), List.forall_mem_cons.mpr ⟨(tb2 (List.mem_of_getElem? (i := 81) rfl)), List.forall_mem_cons.mpr ⟨(tb2 (List.mem_of_getElem? (i := 83) rfl)), List.forall_mem_cons.mpr ⟨(tb2 (List.mem_of_getElem? (i := 85) rfl)), List.forall_mem_cons.mpr ⟨(tb2 (List.mem_of_getElem? (i := 87) rfl)), fun _ h => nomatch h⟩⟩⟩⟩⟩⟩⟩⟩⟩⟩⟩⟩⟩)
theorem fl_X7_12 : FLk RX7 12 7 0 (RX7, TX7, 13) := ⟨rfl, by decide, iw_X7, Or.inl (tb2 (List.mem_of_getElem? (i := 24) rfl))⟩
theorem fp_X7_12 : FPk RX7 12 7 0 (RX7, TX7, 13) tyX7 2 := ⟨fl_X7_12, nmX7, tyX7_ok, Or.inr (Or.inr ⟨rfl, Or.inl ⟨_, rfl⟩, rfl⟩)⟩
theorem df_X2 : ∀ k, k < 5 → defaultValue (tyX2 k) = if rf 2 k = true then .null else .int 0 := by decide +kernel
theorem cl_X7_20 : CLk RX7 20 yX2_init cX2_init 1 none 0 := ⟨Or.inr ⟨"GrassField", (tb1 (List.mem_of_getElem? (i := 98) rfl))⟩, (tb1 (List.mem_of_getElem? (i := 100) rfl)), (tb1 (List.mem_of_getElem? (i := 5) rfl)), by decide +kernel, by decide +kernel, by decide +kernel⟩
theorem im_X2_init : Cond.instanceMethod yX2_init ∈ lw_tbl := (tb1 (List.mem_of_getElem? (i := 99) rfl))
theorem fl_X7_21 : FLk RX7 21 7 1 (RX7, TX7, 13) := ⟨rfl, by decide, iw_X7, Or.inl (tb2 (List.mem_of_getElem? (i := 28) rfl))⟩
theorem fp_X7_21 : FPk RX7 21 7 1 (RX7, TX7, 13) tyX7 2 := ⟨fl_X7_21, nmX7, tyX7_ok, Or.inr (Or.inr ⟨rfl, Or.inl ⟨_, rfl⟩, rfl⟩)⟩
theorem df_X4 : ∀ k, k < 7 → defaultValue (tyX4 k) = if rf 4 k = true then .null else .int 0 := by decide +kernel
theorem cl_X7_27 : CLk RX7 27 yX4_init cX4_init 1 none 0 := ⟨Or.inr ⟨"GrassField", (tb1 (List.mem_of_getElem? (i := 126) rfl))⟩, (tb1 (List.mem_of_getElem? (i := 128) rfl)), (tb1 (List.mem_of_getElem? (i := 6) rfl)), by decide +kernel, by decide +kernel, by decide +kernel⟩
theorem im_X4_init : Cond.instanceMethod yX4_init ∈ lw_tbl := (tb1 (List.mem_of_getElem? (i := 127) rfl))
theorem fl_X7_28 : FLk RX7 28 7 2 (RX7, TX7, 13) := ⟨rfl, by decide, iw_X7, Or.inl (tb2 (List.mem_of_getElem? (i := 32) rfl))⟩
theorem fp_X7_28 : FPk RX7 28 7 2 (RX7, TX7, 13) tyX7 2 := ⟨fl_X7_28, nmX7, tyX7_ok, Or.inr (Or.inr ⟨rfl, Or.inl ⟨_, rfl⟩, rfl⟩)⟩
theorem df_X1 : ∀ k, k < 10 → defaultValue (tyX1 k) = if rf 1 k = true then .null else .int 0 := by decide +kernel
theorem cl_X7_34 : CLk RX7 34 yX1_init cX1_init 1 none 0 := ⟨Or.inr ⟨"GrassField", (tb1 (List.mem_of_getElem? (i := 168) rfl))⟩, (tb1 (List.mem_of_getElem? (i := 170) rfl)), (tb1 (List.mem_of_getElem? (i := 7) rfl)), by decide +kernel, by decide +kernel, by decide +kernel⟩
theorem im_X1_init : Cond.instanceMethod yX1_init ∈ lw_tbl := (tb1 (List.mem_of_getElem? (i := 169) rfl))
theorem fl_X7_35 : FLk RX7 35 7 3 (RX7, TX7, 13) := ⟨rfl, by decide, iw_X7, Or.inl (tb2 (List.mem_of_getElem? (i := 35) rfl))⟩
theorem fp_X7_35 : FPk RX7 35 7 3 (RX7, TX7, 13) tyX7 2 := ⟨fl_X7_35, nmX7, tyX7_ok, Or.inr (Or.inr ⟨rfl, Or.inl ⟨_, rfl⟩, rfl⟩)⟩
theorem df_X9 : ∀ k, k < 9 → defaultValue (tyX9 k) = if rf 9 k = true then .null else .int 0 := by decide +kernel
theorem cl_X7_41 : CLk RX7 41 yX9_init cX9_init 1 none 0 := ⟨Or.inr ⟨"GrassField", (tb1 (List.mem_of_getElem? (i := 224) rfl))⟩, (tb1 (List.mem_of_getElem? (i := 226) rfl)), (tb1 (List.mem_of_getElem? (i := 8) rfl)), by decide +kernel, by decide +kernel, by decide +kernel⟩
theorem im_X9_init : Cond.instanceMethod yX9_init ∈ lw_tbl := (tb1 (List.mem_of_getElem? (i := 225) rfl))
theorem fl_X7_42 : FLk RX7 42 7 4 (RX7, TX7, 13) := ⟨rfl, by decide, iw_X7, Or.inl (tb2 (List.mem_of_getElem? (i := 39) rfl))⟩
theorem fp_X7_42 : FPk RX7 42 7 4 (RX7, TX7, 13) tyX7 2 := ⟨fl_X7_42, nmX7, tyX7_ok, Or.inr (Or.inr ⟨rfl, Or.inl ⟨_, rfl⟩, rfl⟩)⟩
theorem fl_X7_48 : FLk RX7 48 7 5 (RX7, TX7, 13) := ⟨rfl, by decide, iw_X7, Or.inl (tb2 (List.mem_of_getElem? (i := 42) rfl))⟩
theorem fp_X7_48 : FPk RX7 48 7 5 (RX7, TX7, 13) tyX7 2 := ⟨fl_X7_48, nmX7, tyX7_ok, Or.inr (Or.inr ⟨rfl, Or.inr ⟨_, rfl⟩, rfl⟩)⟩
theorem fl_X7_52 : FLk RX7 52 7 7 (RX7, TX7, 13) := ⟨rfl, by decide, iw_X7, Or.inl (tb2 (List.mem_of_getElem? (i := 47) rfl))⟩
theorem fp_X7_52 : FPk RX7 52 7 7 (RX7, TX7, 13) tyX7 2 := ⟨fl_X7_52, nmX7, tyX7_ok, Or.inr (Or.inr ⟨rfl, Or.inr ⟨_, rfl⟩, rfl⟩)⟩
theorem fl_X7_55 : FLk RX7 55 7 8 (RX7, TX7, 13) := ⟨rfl, by decide, iw_X7, Or.inl (tb2 (List.mem_of_getElem? (i := 49) rfl))⟩
theorem fp_X7_55 : FPk RX7 55 7 8 (RX7, TX7, 13) tyX7 2 := ⟨fl_X7_55, nmX7, tyX7_ok, Or.inr (Or.inr ⟨rfl, Or.inr ⟨_, rfl⟩, rfl⟩)⟩
theorem fl_X7_59 : FLk RX7 59 7 10 (RX7, TX7, 13) := ⟨rfl, by decide, iw_X7, Or.inl (tb2 (List.mem_of_getElem? (i := 54) rfl))⟩
theorem fp_X7_59 : FPk RX7 59 7 10 (RX7, TX7, 13) tyX7 0 := ⟨fl_X7_59, nmX7, tyX7_ok, Or.inl ⟨rfl, rfl, rfl⟩⟩
theorem fl_X7_63 : FLk RX7 63 7 6 (RX7, TX7, 13) := ⟨rfl, by decide, iw_X7, Or.inl (tb2 (List.mem_of_getElem? (i := 44) rfl))⟩
theorem fp_X7_63 : FPk RX7 63 7 6 (RX7, TX7, 13) tyX7 0 := ⟨fl_X7_63, nmX7, tyX7_ok, Or.inl ⟨rfl, rfl, rfl⟩⟩
theorem fl_X7_66 : FLk RX7 66 7 9 (RX7, TX7, 13) := ⟨rfl, by decide, iw_X7, Or.inl (tb2 (List.mem_of_getElem? (i := 51) rfl))⟩
theorem fp_X7_66 : FPk RX7 66 7 9 (RX7, TX7, 13) tyX7 0 := ⟨fl_X7_66, nmX7, tyX7_ok, Or.inl ⟨rfl, rfl, rfl⟩⟩
theorem fl_X7_95 : FLk RX7 95 7 11 (RX7, TX7, 13) := ⟨rfl, by decide, iw_X7, Or.inl (tb2 (List.mem_of_getElem? (i := 57) rfl))⟩
theorem fp_X7_95 : FPk RX7 95 7 11 (RX7, TX7, 13) tyX7 0 := ⟨fl_X7_95, nmX7, tyX7_ok, Or.inl ⟨rfl, rfl, rfl⟩⟩
theorem fl_X7_98 : FLk RX7 98 7 12 (RX7, TX7, 13) := ⟨rfl, by decide, iw_X7, Or.inl (tb2 (List.mem_of_getElem? (i := 61) rfl))⟩
theorem fp_X7_98 : FPk RX7 98 7 12 (RX7, TX7, 13) tyX7 0 := ⟨fl_X7_98, nmX7, tyX7_ok, Or.inl ⟨rfl, rfl, rfl⟩⟩
theorem cl_X7_79 : CLk RX7 79 yX3_become cX3_become 2 none 1 := ⟨Or.inl (tb3 (List.mem_of_getElem? (i := 38) rfl)), (tb3 (List.mem_of_getElem? (i := 41) rfl)), (tb1 (List.mem_of_getElem? (i := 4) rfl)), by decide +kernel, by decide +kernel, by decide +kernel⟩
theorem im_X3_become : Cond.instanceMethod yX3_become ∈ lw_tbl := (tb3 (List.mem_of_getElem? (i := 39) rfl))
theorem se_X3_become : Cond.selects RX3 yX3_become yX3_become ∈ lw_tbl := (tb3 (List.mem_of_getElem? (i := 40) rfl))
theorem cl_X7_83 : CLk RX7 83 yX2_become cX2_become 2 none 1 := ⟨Or.inl (tb3 (List.mem_of_getElem? (i := 45) rfl)), (tb3 (List.mem_of_getElem? (i := 48) rfl)), (tb1 (List.mem_of_getElem? (i := 5) rfl)), by decide +kernel, by decide +kernel, by decide +kernel⟩
theorem im_X2_become : Cond.instanceMethod yX2_become ∈ lw_tbl := (tb3 (List.mem_of_getElem? (i := 46) rfl))
theorem se_X2_become : Cond.selects RX2 yX2_become yX2_become ∈ lw_tbl := (tb3 (List.mem_of_getElem? (i := 47) rfl))
theorem cl_X7_86 : CLk RX7 86 yX4_become cX4_become 2 none 1 := ⟨Or.inl (tb3 (List.mem_of_getElem? (i := 50) rfl)), (tb3 (List.mem_of_getElem? (i := 53) rfl)), (tb1 (List.mem_of_getElem? (i := 6) rfl)), by decide +kernel, by decide +kernel, by decide +kernel⟩
theorem im_X4_become : Cond.instanceMethod yX4_become ∈ lw_tbl := (tb3 (List.mem_of_getElem? (i := 51) rfl))
theorem se_X4_become : Cond.selects RX4 yX4_become yX4_become ∈ lw_tbl := (tb3 (List.mem_of_getElem? (i := 52) rfl))
theorem cl_X7_89 : CLk RX7 89 yX1_become cX1_become 2 none 1 := ⟨Or.inl (tb3 (List.mem_of_getElem? (i := 55) rfl)), (tb3 (List.mem_of_getElem? (i := 58) rfl)), (tb1 (List.mem_of_getElem? (i := 7) rfl)), by decide +kernel, by decide +kernel, by decide +kernel⟩
theorem im_X1_become : Cond.instanceMethod yX1_become ∈ lw_tbl := (tb3 (List.mem_of_getElem? (i := 56) rfl))
theorem se_X1_become : Cond.selects RX1 yX1_become yX1_become ∈ lw_tbl := (tb3 (List.mem_of_getElem? (i := 57) rfl))
theorem cl_X7_92 : CLk RX7 92 yX9_become cX9_become 2 none 1 := ⟨Or.inl (tb3 (List.mem_of_getElem? (i := 60) rfl)), (tb3 (List.mem_of_getElem? (i := 63) rfl)), (tb1 (List.mem_of_getElem? (i := 8) rfl)), by decide +kernel, by decide +kernel, by decide +kernel⟩
theorem im_X9_become : Cond.instanceMethod yX9_become ∈ lw_tbl := (tb3 (List.mem_of_getElem? (i := 61) rfl))
theorem se_X9_become : Cond.selects RX9 yX9_become yX9_become ∈ lw_tbl := (tb3 (List.mem_of_getElem? (i := 62) rfl))
theorem fl_X7_69 : FLk RX7 69 1 1 (RX1, TX1, 10) := ⟨rfl, by decide, iw_X1, Or.inr ⟨"GrassField", (tb1 (List.mem_of_getElem? (i := 177) rfl))⟩⟩
theorem fl_X7_72 : FLk RX7 72 1 4 (RX1, TX1, 10) := ⟨rfl, by decide, iw_X1, Or.inr ⟨"GrassField", (tb1 (List.mem_of_getElem? (i := 186) rfl))⟩⟩
theorem cl_X7_75 : CLk RX7 75 yX2_withMarks cX2_withMarks 4 (some .int) 1 := ⟨Or.inl (tb5 (List.mem_of_getElem? (i := 171) rfl)), (tb5 (List.mem_of_getElem? (i := 174) rfl)), (tb1 (List.mem_of_getElem? (i := 5) rfl)), by decide +kernel, by decide +kernel, by decide +kernel⟩
theorem im_X2_withMarks : Cond.instanceMethod yX2_withMarks ∈ lw_tbl := (tb5 (List.mem_of_getElem? (i := 172) rfl))
theorem se_X2_withMarks : Cond.selects RX2 yX2_withMarks yX2_withMarks ∈ lw_tbl := (tb5 (List.mem_of_getElem? (i := 173) rfl))
-- GrassField$State.<init>()V
theorem dX7_init_0 : decode cX7_init 0 = .ok (.aload_n 0, 1) := by decide +kernel
theorem dX7_init_1 : decode cX7_init 1 = .ok (.invokespecial 3, 3) := by decide +kernel
theorem dX7_init_4 : decode cX7_init 4 = .ok (.aload_n 0, 1) := by decide +kernel
theorem dX7_init_5 : decode cX7_init 5 = .ok (.new 9, 3) := by decide +kernel
theorem dX7_init_8 : decode cX7_init 8 = .ok (.dup, 1) := by decide +kernel
theorem dX7_init_9 : decode cX7_init 9 = .ok (.invokespecial 11, 3) := by decide +kernel
theorem dX7_init_12 : decode cX7_init 12 = .ok (.putfield 12, 3) := by decide +kernel
theorem dX7_init_15 : decode cX7_init 15 = .ok (.aload_n 0, 1) := by decide +kernel
theorem dX7_init_16 : decode cX7_init 16 = .ok (.new 18, 3) := by decide +kernel
theorem dX7_init_19 : decode cX7_init 19 = .ok (.dup, 1) := by decide +kernel
theorem dX7_init_20 : decode cX7_init 20 = .ok (.invokespecial 20, 3) := by decide +kernel
theorem dX7_init_23 : decode cX7_init 23 = .ok (.putfield 21, 3) := by decide +kernel
theorem dX7_init_26 : decode cX7_init 26 = .ok (.aload_n 0, 1) := by decide +kernel
theorem dX7_init_27 : decode cX7_init 27 = .ok (.new 25, 3) := by decide +kernel
theorem dX7_init_30 : decode cX7_init 30 = .ok (.dup, 1) := by decide +kernel
theorem dX7_init_31 : decode cX7_init 31 = .ok (.invokespecial 27, 3) := by decide +kernel
theorem dX7_init_34 : decode cX7_init 34 = .ok (.putfield 28, 3) := by decide +kernel
theorem dX7_init_37 : decode cX7_init 37 = .ok (.aload_n 0, 1) := by decide +kernel
theorem dX7_init_38 : decode cX7_init 38 = .ok (.new 32, 3) := by decide +kernel
theorem dX7_init_41 : decode cX7_init 41 = .ok (.dup, 1) := by decide +kernel
theorem dX7_init_42 : decode cX7_init 42 = .ok (.invokespecial 34, 3) := by decide +kernel
theorem dX7_init_45 : decode cX7_init 45 = .ok (.putfield 35, 3) := by decide +kernel
theorem dX7_init_48 : decode cX7_init 48 = .ok (.aload_n 0, 1) := by decide +kernel
theorem dX7_init_49 : decode cX7_init 49 = .ok (.new 39, 3) := by decide +kernel
theorem dX7_init_52 : decode cX7_init 52 = .ok (.dup, 1) := by decide +kernel
theorem dX7_init_53 : decode cX7_init 53 = .ok (.invokespecial 41, 3) := by decide +kernel
theorem dX7_init_56 : decode cX7_init 56 = .ok (.putfield 42, 3) := by decide +kernel
theorem dX7_init_59 : decode cX7_init 59 = .ok (.aload_n 0, 1) := by decide +kernel
theorem dX7_init_60 : decode cX7_init 60 = .ok (.iconst 4, 1) := by decide +kernel
theorem dX7_init_61 : decode cX7_init 61 = .ok (.anewarray 46, 3) := by decide +kernel
theorem dX7_init_64 : decode cX7_init 64 = .ok (.putfield 48, 3) := by decide +kernel
theorem dX7_init_67 : decode cX7_init 67 = .ok (.aload_n 0, 1) := by decide +kernel
theorem dX7_init_68 : decode cX7_init 68 = .ok (.iconst 5, 1) := by decide +kernel
theorem dX7_init_69 : decode cX7_init 69 = .ok (.anewarray 46, 3) := by decide +kernel
theorem dX7_init_72 : decode cX7_init 72 = .ok (.putfield 52, 3) := by decide +kernel
theorem dX7_init_75 : decode cX7_init 75 = .ok (.aload_n 0, 1) := by decide +kernel
theorem dX7_init_76 : decode cX7_init 76 = .ok (.iconst 5, 1) := by decide +kernel
theorem dX7_init_77 : decode cX7_init 77 = .ok (.newarray .int, 2) := by decide +kernel
theorem dX7_init_79 : decode cX7_init 79 = .ok (.putfield 55, 3) := by decide +kernel
theorem dX7_init_82 : decode cX7_init 82 = .ok (.aload_n 0, 1) := by decide +kernel
theorem dX7_init_83 : decode cX7_init 83 = .ok (.sipush 1876, 3) := by decide +kernel
theorem dX7_init_86 : decode cX7_init 86 = .ok (.putfield 59, 3) := by decide +kernel
theorem dX7_init_89 : decode cX7_init 89 = .ok (.return_, 1) := by decide +kernel
def w_X7_init  (v0 : Nat) (h : AH) (Q : AH → Prop) : Prop :=
  wO h 3 fun a1 h =>
  w_X3_init a1 h (fun h =>
  uO h v0 7 0 (some a1) fun h =>
  wO h 2 fun a2 h =>
  w_X2_init a2 h (fun h =>
  uO h v0 7 1 (some a2) fun h =>
  wO h 4 fun a3 h =>
  w_X4_init a3 h (fun h =>
  uO h v0 7 2 (some a3) fun h =>
  wO h 1 fun a4 h =>
  w_X1_init a4 h (fun h =>
  uO h v0 7 3 (some a4) fun h =>
  wO h 9 fun a5 h =>
  w_X9_init a5 h (fun h =>
  uO h v0 7 4 (some a5) fun h =>
  wA h 4 4 fun a6 h =>
  uO h v0 7 5 (some a6) fun h =>
  wA h 4 5 fun a7 h =>
  uO h v0 7 7 (some a7) fun h =>
  wA h 0 5 fun a8 h =>
  uO h v0 7 8 (some a8) fun h =>
  uI h v0 7 10 (1876 : Int32) fun h =>
  Q h)))))
set_option maxRecDepth 100000 in
set_option maxHeartbeats 4000000 in
theorem s_X7_init {l : Launch}  {v0 : Nat} {h : AH} {Q : AH → Prop}  (hw : w_X7_init  v0 h Q) : CT l yX7_init cX7_init 1 none 2 32 1194 [.ref v0] h (QV Q) := by
  refine CT.of (by decide) ⟨rfl, trivial⟩ (Nat.le_of_ble_eq_true rfl) ?_
  intro p e s m args below meth c g C hr hin
  refine v_eq (pc' := 0) (ls' := [(0, .ref v0)]) rfl rfl rfl rfl ?_
  refine v_aload_n C dX7_init_0 0 rfl rfl ?_
  refine v_objInit C (tb1 (List.mem_of_getElem? (i := 83) rfl)) (tb1 (List.mem_of_getElem? (i := 36) rfl)) (tb1 (List.mem_of_getElem? (i := 37) rfl)) dX7_init_1 (by decide) (by decide) ?_
  refine v_aload_n C dX7_init_4 0 rfl rfl ?_
  refine v_new (r := (RX3, TX3, 1)) (N := 1) (ci := 3) C tyX3 rfl iw_X3 tyX3_ok df_X3 (tb1 (List.mem_of_getElem? (i := 84) rfl)) (tb1 (List.mem_of_getElem? (i := 85) rfl)) (tb1 (List.mem_of_getElem? (i := 4) rfl)) rfl dX7_init_5 (by decide) (by decide) (fun a1 hn => ?_)
  have hw := hw a1 hn
  generalize nO h a1 3 = h at hw ⊢
  refine v_dup C dX7_init_8 rfl ?_
  refine w_callIv (st := [.ref a1, .ref v0]) C cl_X7_11 im_X3_init rfl (s_X3_init hw) rfl dX7_init_9 rfl (Nat.le_of_ble_eq_true rfl) (by decide) (by decide) (by decide) (by decide) (fun h hw => ?_)
  refine w_putN C fp_X7_12 (Or.inr ⟨hin, rfl, rfl, (tb2 (List.mem_of_getElem? (i := 24) rfl))⟩) dX7_init_12 hw (fun h hw => ?_)
  refine v_aload_n C dX7_init_15 0 rfl rfl ?_
  refine v_new (r := (RX2, TX2, 5)) (N := 5) (ci := 2) C tyX2 rfl iw_X2 tyX2_ok df_X2 (tb1 (List.mem_of_getElem? (i := 96) rfl)) (tb1 (List.mem_of_getElem? (i := 97) rfl)) (tb1 (List.mem_of_getElem? (i := 5) rfl)) rfl dX7_init_16 (by decide) (by decide) (fun a2 hn => ?_)
  have hw := hw a2 hn
  generalize nO h a2 2 = h at hw ⊢
  refine v_dup C dX7_init_19 rfl ?_
  refine w_callIv (st := [.ref a2, .ref v0]) C cl_X7_20 im_X2_init rfl (s_X2_init hw) rfl dX7_init_20 rfl (Nat.le_of_ble_eq_true rfl) (by decide) (by decide) (by decide) (by decide) (fun h hw => ?_)
  refine w_putN C fp_X7_21 (Or.inr ⟨hin, rfl, rfl, (tb2 (List.mem_of_getElem? (i := 28) rfl))⟩) dX7_init_23 hw (fun h hw => ?_)
  refine v_aload_n C dX7_init_26 0 rfl rfl ?_
  refine v_new (r := (RX4, TX4, 7)) (N := 7) (ci := 4) C tyX4 rfl iw_X4 tyX4_ok df_X4 (tb1 (List.mem_of_getElem? (i := 124) rfl)) (tb1 (List.mem_of_getElem? (i := 125) rfl)) (tb1 (List.mem_of_getElem? (i := 6) rfl)) rfl dX7_init_27 (by decide) (by decide) (fun a3 hn => ?_)
  have hw := hw a3 hn
  generalize nO h a3 4 = h at hw ⊢
  refine v_dup C dX7_init_30 rfl ?_
  refine w_callIv (st := [.ref a3, .ref v0]) C cl_X7_27 im_X4_init rfl (s_X4_init hw) rfl dX7_init_31 rfl (Nat.le_of_ble_eq_true rfl) (by decide) (by decide) (by decide) (by decide) (fun h hw => ?_)
  refine w_putN C fp_X7_28 (Or.inr ⟨hin, rfl, rfl, (tb2 (List.mem_of_getElem? (i := 32) rfl))⟩) dX7_init_34 hw (fun h hw => ?_)
  refine v_aload_n C dX7_init_37 0 rfl rfl ?_
  refine v_new (r := (RX1, TX1, 10)) (N := 10) (ci := 1) C tyX1 rfl iw_X1 tyX1_ok df_X1 (tb1 (List.mem_of_getElem? (i := 166) rfl)) (tb1 (List.mem_of_getElem? (i := 167) rfl)) (tb1 (List.mem_of_getElem? (i := 7) rfl)) rfl dX7_init_38 (by decide) (by decide) (fun a4 hn => ?_)
  have hw := hw a4 hn
  generalize nO h a4 1 = h at hw ⊢
  refine v_dup C dX7_init_41 rfl ?_
  refine w_callIv (st := [.ref a4, .ref v0]) C cl_X7_34 im_X1_init rfl (s_X1_init hw) rfl dX7_init_42 rfl (Nat.le_of_ble_eq_true rfl) (by decide) (by decide) (by decide) (by decide) (fun h hw => ?_)
  refine w_putN C fp_X7_35 (Or.inr ⟨hin, rfl, rfl, (tb2 (List.mem_of_getElem? (i := 35) rfl))⟩) dX7_init_45 hw (fun h hw => ?_)
  refine v_aload_n C dX7_init_48 0 rfl rfl ?_
  refine v_new (r := (RX9, TX9, 9)) (N := 9) (ci := 9) C tyX9 rfl iw_X9 tyX9_ok df_X9 (tb1 (List.mem_of_getElem? (i := 222) rfl)) (tb1 (List.mem_of_getElem? (i := 223) rfl)) (tb1 (List.mem_of_getElem? (i := 8) rfl)) rfl dX7_init_49 (by decide) (by decide) (fun a5 hn => ?_)
  have hw := hw a5 hn
  generalize nO h a5 9 = h at hw ⊢
  refine v_dup C dX7_init_52 rfl ?_
  refine w_callIv (st := [.ref a5, .ref v0]) C cl_X7_41 im_X9_init rfl (s_X9_init hw) rfl dX7_init_53 rfl (Nat.le_of_ble_eq_true rfl) (by decide) (by decide) (by decide) (by decide) (fun h hw => ?_)
  refine w_putN C fp_X7_42 (Or.inr ⟨hin, rfl, rfl, (tb2 (List.mem_of_getElem? (i := 39) rfl))⟩) dX7_init_56 hw (fun h hw => ?_)
  refine v_aload_n C dX7_init_59 0 rfl rfl ?_
  refine v_iconst (v := 4) C dX7_init_60 (by decide) ?_
  refine v_newq (N := 4) C (tb2 (List.mem_of_getElem? (i := 22) rfl)) dX7_init_61 (by decide) (by decide) (by decide) (by decide) (by decide) (fun a6 hn => ?_)
  have hw := hw a6 hn
  generalize nA h a6 4 4 = h at hw ⊢
  refine w_putN C fp_X7_48 (Or.inr ⟨hin, rfl, rfl, (tb2 (List.mem_of_getElem? (i := 42) rfl))⟩) dX7_init_64 hw (fun h hw => ?_)
  refine v_aload_n C dX7_init_67 0 rfl rfl ?_
  refine v_iconst (v := 5) C dX7_init_68 (by decide) ?_
  refine v_newq (N := 5) C (tb2 (List.mem_of_getElem? (i := 22) rfl)) dX7_init_69 (by decide) (by decide) (by decide) (by decide) (by decide) (fun a7 hn => ?_)
  have hw := hw a7 hn
  generalize nA h a7 4 5 = h at hw ⊢
  refine w_putN C fp_X7_52 (Or.inr ⟨hin, rfl, rfl, (tb2 (List.mem_of_getElem? (i := 47) rfl))⟩) dX7_init_72 hw (fun h hw => ?_)
  refine v_aload_n C dX7_init_75 0 rfl rfl ?_
  refine v_iconst (v := 5) C dX7_init_76 (by decide) ?_
  refine v_newa (atype := .int) (j := 0) (N := 5) C rfl rfl (by decide) rfl rfl (tb1 (List.mem_of_getElem? (i := 77) rfl)) dX7_init_77 (by decide) (by decide) (by decide) (by decide) (by decide) (fun a8 hn => ?_)
  have hw := hw a8 hn
  generalize nA h a8 0 5 = h at hw ⊢
  refine w_putN C fp_X7_55 (Or.inr ⟨hin, rfl, rfl, (tb2 (List.mem_of_getElem? (i := 49) rfl))⟩) dX7_init_79 hw (fun h hw => ?_)
  refine v_aload_n C dX7_init_82 0 rfl rfl ?_
  refine v_sipush (v := 1876) C dX7_init_83 (by decide) ?_
  refine w_putI C fp_X7_59 (Or.inl rfl) dX7_init_86 hw (fun h hw => ?_)
  exact (rt_MQ C _).2.2.1 _ _ _ _ _ hr dX7_init_89 (by decide) (by decide) ⟨rfl, hw⟩
-- GrassField$State.addLaw(LGrassField$Program;)I
theorem dX7_addLaw_0 : decode cX7_addLaw 0 = .ok (.aload_n 0, 1) := by decide +kernel
theorem dX7_addLaw_1 : decode cX7_addLaw 1 = .ok (.getfield 48, 3) := by decide +kernel
theorem dX7_addLaw_4 : decode cX7_addLaw 4 = .ok (.aload_n 0, 1) := by decide +kernel
theorem dX7_addLaw_5 : decode cX7_addLaw 5 = .ok (.getfield 63, 3) := by decide +kernel
theorem dX7_addLaw_8 : decode cX7_addLaw 8 = .ok (.aload_n 1, 1) := by decide +kernel
theorem dX7_addLaw_9 : decode cX7_addLaw 9 = .ok (.aastore, 1) := by decide +kernel
theorem dX7_addLaw_10 : decode cX7_addLaw 10 = .ok (.aload_n 0, 1) := by decide +kernel
theorem dX7_addLaw_11 : decode cX7_addLaw 11 = .ok (.dup, 1) := by decide +kernel
theorem dX7_addLaw_12 : decode cX7_addLaw 12 = .ok (.getfield 63, 3) := by decide +kernel
theorem dX7_addLaw_15 : decode cX7_addLaw 15 = .ok (.iconst 1, 1) := by decide +kernel
theorem dX7_addLaw_16 : decode cX7_addLaw 16 = .ok (.iadd, 1) := by decide +kernel
theorem dX7_addLaw_17 : decode cX7_addLaw 17 = .ok (.putfield 63, 3) := by decide +kernel
theorem dX7_addLaw_20 : decode cX7_addLaw 20 = .ok (.aload_n 0, 1) := by decide +kernel
theorem dX7_addLaw_21 : decode cX7_addLaw 21 = .ok (.getfield 63, 3) := by decide +kernel
theorem dX7_addLaw_24 : decode cX7_addLaw 24 = .ok (.iconst 1, 1) := by decide +kernel
theorem dX7_addLaw_25 : decode cX7_addLaw 25 = .ok (.isub, 1) := by decide +kernel
theorem dX7_addLaw_26 : decode cX7_addLaw 26 = .ok (.ireturn, 1) := by decide +kernel
def w_X7_addLaw  (v0 : Nat) (v1 : Nat) (h : AH) (Q : Int32 → AH → Prop) : Prop :=
  fN h v0 7 5 fun a1 =>
  fI h v0 7 6 fun x2 =>
  tO h a1 x2 (some v1) fun h =>
  fI h v0 7 6 fun x3 =>
  uI h v0 7 6 (x3 + (1 : Int32)) fun h =>
  fI h v0 7 6 fun x4 =>
  Q (x4 - (1 : Int32)) h
set_option maxRecDepth 100000 in
set_option maxHeartbeats 4000000 in
theorem s_X7_addLaw {l : Launch}  {v0 : Nat} {v1 : Nat} {h : AH} {Q : Int32 → AH → Prop}  (hw : w_X7_addLaw  v0 v1 h Q) : CT l yX7_addLaw cX7_addLaw 2 (some .int) 0 0 0 [.ref v0, .ref v1] h (QI Q) := by
  refine CT.of (by decide) ⟨rfl, ⟨rfl, trivial⟩⟩ (Nat.le_of_ble_eq_true rfl) ?_
  intro p e s m args below meth c g C hr hin
  refine v_eq (pc' := 0) (ls' := [(0, .ref v0), (1, .ref v1)]) rfl rfl rfl rfl ?_
  refine v_aload_n C dX7_addLaw_0 0 rfl rfl ?_
  refine w_getN C fl_X7_48 dX7_addLaw_1 rfl hw (fun a1 hw => ?_)
  refine v_aload_n C dX7_addLaw_4 0 rfl rfl ?_
  refine w_getI C fl_X7_63 dX7_addLaw_5 rfl hw (fun x2 hw => ?_)
  refine v_aload_n C dX7_addLaw_8 1 rfl rfl ?_
  refine w_aastoreN C dX7_addLaw_9 hw (fun h hw => ?_)
  refine v_aload_n C dX7_addLaw_10 0 rfl rfl ?_
  refine v_dup C dX7_addLaw_11 rfl ?_
  refine w_getI C fl_X7_63 dX7_addLaw_12 rfl hw (fun x3 hw => ?_)
  refine v_iconst (v := 1) C dX7_addLaw_15 (by decide) ?_
  refine v_iadd C dX7_addLaw_16 ?_
  refine w_putI C fp_X7_63 (Or.inl rfl) dX7_addLaw_17 hw (fun h hw => ?_)
  refine v_aload_n C dX7_addLaw_20 0 rfl rfl ?_
  refine w_getI C fl_X7_63 dX7_addLaw_21 rfl hw (fun x4 hw => ?_)
  refine v_iconst (v := 1) C dX7_addLaw_24 (by decide) ?_
  refine v_isub C dX7_addLaw_25 ?_
  exact (rt_MQ C _).1 _ _ _ _ _ _ hr dX7_addLaw_26 (by decide) (by decide) ⟨_, rfl, hw⟩
-- GrassField$State.addStory(LGrassField$Program;I)I
theorem dX7_addStory_0 : decode cX7_addStory 0 = .ok (.aload_n 0, 1) := by decide +kernel
theorem dX7_addStory_1 : decode cX7_addStory 1 = .ok (.getfield 52, 3) := by decide +kernel
theorem dX7_addStory_4 : decode cX7_addStory 4 = .ok (.aload_n 0, 1) := by decide +kernel
theorem dX7_addStory_5 : decode cX7_addStory 5 = .ok (.getfield 66, 3) := by decide +kernel
theorem dX7_addStory_8 : decode cX7_addStory 8 = .ok (.aload_n 1, 1) := by decide +kernel
theorem dX7_addStory_9 : decode cX7_addStory 9 = .ok (.aastore, 1) := by decide +kernel
theorem dX7_addStory_10 : decode cX7_addStory 10 = .ok (.aload_n 0, 1) := by decide +kernel
theorem dX7_addStory_11 : decode cX7_addStory 11 = .ok (.getfield 55, 3) := by decide +kernel
theorem dX7_addStory_14 : decode cX7_addStory 14 = .ok (.aload_n 0, 1) := by decide +kernel
theorem dX7_addStory_15 : decode cX7_addStory 15 = .ok (.getfield 66, 3) := by decide +kernel
theorem dX7_addStory_18 : decode cX7_addStory 18 = .ok (.iload_n 2, 1) := by decide +kernel
theorem dX7_addStory_19 : decode cX7_addStory 19 = .ok (.iastore, 1) := by decide +kernel
theorem dX7_addStory_20 : decode cX7_addStory 20 = .ok (.aload_n 0, 1) := by decide +kernel
theorem dX7_addStory_21 : decode cX7_addStory 21 = .ok (.dup, 1) := by decide +kernel
theorem dX7_addStory_22 : decode cX7_addStory 22 = .ok (.getfield 66, 3) := by decide +kernel
theorem dX7_addStory_25 : decode cX7_addStory 25 = .ok (.iconst 1, 1) := by decide +kernel
theorem dX7_addStory_26 : decode cX7_addStory 26 = .ok (.iadd, 1) := by decide +kernel
theorem dX7_addStory_27 : decode cX7_addStory 27 = .ok (.putfield 66, 3) := by decide +kernel
theorem dX7_addStory_30 : decode cX7_addStory 30 = .ok (.aload_n 0, 1) := by decide +kernel
theorem dX7_addStory_31 : decode cX7_addStory 31 = .ok (.getfield 66, 3) := by decide +kernel
theorem dX7_addStory_34 : decode cX7_addStory 34 = .ok (.iconst 1, 1) := by decide +kernel
theorem dX7_addStory_35 : decode cX7_addStory 35 = .ok (.isub, 1) := by decide +kernel
theorem dX7_addStory_36 : decode cX7_addStory 36 = .ok (.ireturn, 1) := by decide +kernel
def w_X7_addStory  (v0 : Nat) (v1 : Nat) (v2 : Int32) (h : AH) (Q : Int32 → AH → Prop) : Prop :=
  fN h v0 7 7 fun a1 =>
  fI h v0 7 9 fun x2 =>
  tO h a1 x2 (some v1) fun h =>
  fN h v0 7 8 fun a3 =>
  fI h v0 7 9 fun x4 =>
  tI h a3 x4 v2 fun h =>
  fI h v0 7 9 fun x5 =>
  uI h v0 7 9 (x5 + (1 : Int32)) fun h =>
  fI h v0 7 9 fun x6 =>
  Q (x6 - (1 : Int32)) h
set_option maxRecDepth 100000 in
set_option maxHeartbeats 4000000 in
theorem s_X7_addStory {l : Launch}  {v0 : Nat} {v1 : Nat} {v2 : Int32} {h : AH} {Q : Int32 → AH → Prop}  (hw : w_X7_addStory  v0 v1 v2 h Q) : CT l yX7_addStory cX7_addStory 3 (some .int) 0 0 0 [.ref v0, .ref v1, .int v2] h (QI Q) := by
  refine CT.of (by decide) ⟨rfl, ⟨rfl, ⟨rfl, trivial⟩⟩⟩ (Nat.le_of_ble_eq_true rfl) ?_
  intro p e s m args below meth c g C hr hin
  refine v_eq (pc' := 0) (ls' := [(0, .ref v0), (1, .ref v1), (2, .int v2)]) rfl rfl rfl rfl ?_
  refine v_aload_n C dX7_addStory_0 0 rfl rfl ?_
  refine w_getN C fl_X7_52 dX7_addStory_1 rfl hw (fun a1 hw => ?_)
  refine v_aload_n C dX7_addStory_4 0 rfl rfl ?_
  refine w_getI C fl_X7_66 dX7_addStory_5 rfl hw (fun x2 hw => ?_)
  refine v_aload_n C dX7_addStory_8 1 rfl rfl ?_
  refine w_aastoreN C dX7_addStory_9 hw (fun h hw => ?_)
  refine v_aload_n C dX7_addStory_10 0 rfl rfl ?_
  refine w_getN C fl_X7_55 dX7_addStory_11 rfl hw (fun a3 hw => ?_)
  refine v_aload_n C dX7_addStory_14 0 rfl rfl ?_
  refine w_getI C fl_X7_66 dX7_addStory_15 rfl hw (fun x4 hw => ?_)
  refine v_iload_n C dX7_addStory_18 2 rfl rfl ?_
  refine w_iastore C dX7_addStory_19 hw (fun h hw => ?_)
  refine v_aload_n C dX7_addStory_20 0 rfl rfl ?_
  refine v_dup C dX7_addStory_21 rfl ?_
  refine w_getI C fl_X7_66 dX7_addStory_22 rfl hw (fun x5 hw => ?_)
  refine v_iconst (v := 1) C dX7_addStory_25 (by decide) ?_
  refine v_iadd C dX7_addStory_26 ?_
  refine w_putI C fp_X7_66 (Or.inl rfl) dX7_addStory_27 hw (fun h hw => ?_)
  refine v_aload_n C dX7_addStory_30 0 rfl rfl ?_
  refine w_getI C fl_X7_66 dX7_addStory_31 rfl hw (fun x6 hw => ?_)
  refine v_iconst (v := 1) C dX7_addStory_34 (by decide) ?_
  refine v_isub C dX7_addStory_35 ?_
  exact (rt_MQ C _).1 _ _ _ _ _ _ hr dX7_addStory_36 (by decide) (by decide) ⟨_, rfl, hw⟩
-- GrassField$State.become(LGrassField$State;)V
theorem dX7_become_0 : decode cX7_become 0 = .ok (.aload_n 0, 1) := by decide +kernel
theorem dX7_become_1 : decode cX7_become 1 = .ok (.getfield 12, 3) := by decide +kernel
theorem dX7_become_4 : decode cX7_become 4 = .ok (.aload_n 1, 1) := by decide +kernel
theorem dX7_become_5 : decode cX7_become 5 = .ok (.getfield 12, 3) := by decide +kernel
theorem dX7_become_8 : decode cX7_become 8 = .ok (.invokevirtual 79, 3) := by decide +kernel
theorem dX7_become_11 : decode cX7_become 11 = .ok (.aload_n 0, 1) := by decide +kernel
theorem dX7_become_12 : decode cX7_become 12 = .ok (.getfield 21, 3) := by decide +kernel
theorem dX7_become_15 : decode cX7_become 15 = .ok (.aload_n 1, 1) := by decide +kernel
theorem dX7_become_16 : decode cX7_become 16 = .ok (.getfield 21, 3) := by decide +kernel
theorem dX7_become_19 : decode cX7_become 19 = .ok (.invokevirtual 83, 3) := by decide +kernel
theorem dX7_become_22 : decode cX7_become 22 = .ok (.aload_n 0, 1) := by decide +kernel
theorem dX7_become_23 : decode cX7_become 23 = .ok (.getfield 28, 3) := by decide +kernel
theorem dX7_become_26 : decode cX7_become 26 = .ok (.aload_n 1, 1) := by decide +kernel
theorem dX7_become_27 : decode cX7_become 27 = .ok (.getfield 28, 3) := by decide +kernel
theorem dX7_become_30 : decode cX7_become 30 = .ok (.invokevirtual 86, 3) := by decide +kernel
theorem dX7_become_33 : decode cX7_become 33 = .ok (.aload_n 0, 1) := by decide +kernel
theorem dX7_become_34 : decode cX7_become 34 = .ok (.getfield 35, 3) := by decide +kernel
theorem dX7_become_37 : decode cX7_become 37 = .ok (.aload_n 1, 1) := by decide +kernel
theorem dX7_become_38 : decode cX7_become 38 = .ok (.getfield 35, 3) := by decide +kernel
theorem dX7_become_41 : decode cX7_become 41 = .ok (.invokevirtual 89, 3) := by decide +kernel
theorem dX7_become_44 : decode cX7_become 44 = .ok (.aload_n 0, 1) := by decide +kernel
theorem dX7_become_45 : decode cX7_become 45 = .ok (.getfield 42, 3) := by decide +kernel
theorem dX7_become_48 : decode cX7_become 48 = .ok (.aload_n 1, 1) := by decide +kernel
theorem dX7_become_49 : decode cX7_become 49 = .ok (.getfield 42, 3) := by decide +kernel
theorem dX7_become_52 : decode cX7_become 52 = .ok (.invokevirtual 92, 3) := by decide +kernel
theorem dX7_become_55 : decode cX7_become 55 = .ok (.iconst 0, 1) := by decide +kernel
theorem dX7_become_56 : decode cX7_become 56 = .ok (.istore_n 2, 1) := by decide +kernel
theorem dX7_become_57 : decode cX7_become 57 = .ok (.iload_n 2, 1) := by decide +kernel
theorem dX7_become_58 : decode cX7_become 58 = .ok (.iconst 4, 1) := by decide +kernel
theorem dX7_become_59 : decode cX7_become 59 = .ok (.if_icmp .ge 21, 3) := by decide +kernel
theorem dX7_become_62 : decode cX7_become 62 = .ok (.aload_n 0, 1) := by decide +kernel
theorem dX7_become_63 : decode cX7_become 63 = .ok (.getfield 48, 3) := by decide +kernel
theorem dX7_become_66 : decode cX7_become 66 = .ok (.iload_n 2, 1) := by decide +kernel
theorem dX7_become_67 : decode cX7_become 67 = .ok (.aload_n 1, 1) := by decide +kernel
theorem dX7_become_68 : decode cX7_become 68 = .ok (.getfield 48, 3) := by decide +kernel
theorem dX7_become_71 : decode cX7_become 71 = .ok (.iload_n 2, 1) := by decide +kernel
theorem dX7_become_72 : decode cX7_become 72 = .ok (.aaload, 1) := by decide +kernel
theorem dX7_become_73 : decode cX7_become 73 = .ok (.aastore, 1) := by decide +kernel
theorem dX7_become_74 : decode cX7_become 74 = .ok (.iinc 2 1, 3) := by decide +kernel
theorem dX7_become_77 : decode cX7_become 77 = .ok (.goto (-20), 3) := by decide +kernel
theorem dX7_become_80 : decode cX7_become 80 = .ok (.aload_n 0, 1) := by decide +kernel
theorem dX7_become_81 : decode cX7_become 81 = .ok (.aload_n 1, 1) := by decide +kernel
theorem dX7_become_82 : decode cX7_become 82 = .ok (.getfield 63, 3) := by decide +kernel
theorem dX7_become_85 : decode cX7_become 85 = .ok (.putfield 63, 3) := by decide +kernel
theorem dX7_become_88 : decode cX7_become 88 = .ok (.iconst 0, 1) := by decide +kernel
theorem dX7_become_89 : decode cX7_become 89 = .ok (.istore_n 2, 1) := by decide +kernel
theorem dX7_become_90 : decode cX7_become 90 = .ok (.iload_n 2, 1) := by decide +kernel
theorem dX7_become_91 : decode cX7_become 91 = .ok (.iconst 5, 1) := by decide +kernel
theorem dX7_become_92 : decode cX7_become 92 = .ok (.if_icmp .ge 33, 3) := by decide +kernel
theorem dX7_become_95 : decode cX7_become 95 = .ok (.aload_n 0, 1) := by decide +kernel
theorem dX7_become_96 : decode cX7_become 96 = .ok (.getfield 52, 3) := by decide +kernel
theorem dX7_become_99 : decode cX7_become 99 = .ok (.iload_n 2, 1) := by decide +kernel
theorem dX7_become_100 : decode cX7_become 100 = .ok (.aload_n 1, 1) := by decide +kernel
theorem dX7_become_101 : decode cX7_become 101 = .ok (.getfield 52, 3) := by decide +kernel
theorem dX7_become_104 : decode cX7_become 104 = .ok (.iload_n 2, 1) := by decide +kernel
theorem dX7_become_105 : decode cX7_become 105 = .ok (.aaload, 1) := by decide +kernel
theorem dX7_become_106 : decode cX7_become 106 = .ok (.aastore, 1) := by decide +kernel
theorem dX7_become_107 : decode cX7_become 107 = .ok (.aload_n 0, 1) := by decide +kernel
theorem dX7_become_108 : decode cX7_become 108 = .ok (.getfield 55, 3) := by decide +kernel
theorem dX7_become_111 : decode cX7_become 111 = .ok (.iload_n 2, 1) := by decide +kernel
theorem dX7_become_112 : decode cX7_become 112 = .ok (.aload_n 1, 1) := by decide +kernel
theorem dX7_become_113 : decode cX7_become 113 = .ok (.getfield 55, 3) := by decide +kernel
theorem dX7_become_116 : decode cX7_become 116 = .ok (.iload_n 2, 1) := by decide +kernel
theorem dX7_become_117 : decode cX7_become 117 = .ok (.iaload, 1) := by decide +kernel
theorem dX7_become_118 : decode cX7_become 118 = .ok (.iastore, 1) := by decide +kernel
theorem dX7_become_119 : decode cX7_become 119 = .ok (.iinc 2 1, 3) := by decide +kernel
theorem dX7_become_122 : decode cX7_become 122 = .ok (.goto (-32), 3) := by decide +kernel
theorem dX7_become_125 : decode cX7_become 125 = .ok (.aload_n 0, 1) := by decide +kernel
theorem dX7_become_126 : decode cX7_become 126 = .ok (.aload_n 1, 1) := by decide +kernel
theorem dX7_become_127 : decode cX7_become 127 = .ok (.getfield 66, 3) := by decide +kernel
theorem dX7_become_130 : decode cX7_become 130 = .ok (.putfield 66, 3) := by decide +kernel
theorem dX7_become_133 : decode cX7_become 133 = .ok (.aload_n 0, 1) := by decide +kernel
theorem dX7_become_134 : decode cX7_become 134 = .ok (.aload_n 1, 1) := by decide +kernel
theorem dX7_become_135 : decode cX7_become 135 = .ok (.getfield 59, 3) := by decide +kernel
theorem dX7_become_138 : decode cX7_become 138 = .ok (.putfield 59, 3) := by decide +kernel
theorem dX7_become_141 : decode cX7_become 141 = .ok (.aload_n 0, 1) := by decide +kernel
theorem dX7_become_142 : decode cX7_become 142 = .ok (.aload_n 1, 1) := by decide +kernel
theorem dX7_become_143 : decode cX7_become 143 = .ok (.getfield 95, 3) := by decide +kernel
theorem dX7_become_146 : decode cX7_become 146 = .ok (.putfield 95, 3) := by decide +kernel
theorem dX7_become_149 : decode cX7_become 149 = .ok (.aload_n 0, 1) := by decide +kernel
theorem dX7_become_150 : decode cX7_become 150 = .ok (.aload_n 1, 1) := by decide +kernel
theorem dX7_become_151 : decode cX7_become 151 = .ok (.getfield 98, 3) := by decide +kernel
theorem dX7_become_154 : decode cX7_become 154 = .ok (.putfield 98, 3) := by decide +kernel
theorem dX7_become_157 : decode cX7_become 157 = .ok (.return_, 1) := by decide +kernel
def w_X7_become_125  (v0 : Nat) (v1 : Nat) (h : AH) (Q : AH → Prop) : Prop :=
  fI h v1 7 9 fun x1 =>
  uI h v0 7 9 x1 fun h =>
  fI h v1 7 10 fun x2 =>
  uI h v0 7 10 x2 fun h =>
  fI h v1 7 11 fun x3 =>
  uI h v0 7 11 x3 fun h =>
  fI h v1 7 12 fun x4 =>
  uI h v0 7 12 x4 fun h =>
  Q h
def w_X7_become_90  (x125 : AH → Prop) (k : Int32 → AH → Prop) (v0 : Nat) (v1 : Nat) (v2 : Int32) (h : AH) (Q : AH → Prop) : Prop :=
  br ((5 : Int32) ≤ v2) (
    x125  h) (
    fN h v0 7 7 fun a1 =>
    fN h v1 7 7 fun a2 =>
    aO h a2 v2 fun r3 =>
    tO h a1 v2 r3 fun h =>
    fN h v0 7 8 fun a4 =>
    fN h v1 7 8 fun a5 =>
    aI h a5 v2 fun x6 =>
    tI h a4 v2 x6 fun h =>
    k (v2 + 1) h)
def w_X7_become_80  (v0 : Nat) (v1 : Nat) (h : AH) (Q : AH → Prop) : Prop :=
  fI h v1 7 6 fun x1 =>
  uI h v0 7 6 x1 fun h =>
  lp (fun (k2 : Int32 × AH → Prop) (s2 : Int32 × AH) => w_X7_become_90  (fun  h => w_X7_become_125 v0 v1 h Q) (fun (y2 : Int32) h => k2 (y2, h)) v0 v1 s2.1 s2.2 Q) ((0 : Int32), h)
def w_X7_become_57  (x80 : AH → Prop) (k : Int32 → AH → Prop) (v0 : Nat) (v1 : Nat) (v2 : Int32) (h : AH) (Q : AH → Prop) : Prop :=
  br ((4 : Int32) ≤ v2) (
    x80  h) (
    fN h v0 7 5 fun a1 =>
    fN h v1 7 5 fun a2 =>
    aO h a2 v2 fun r3 =>
    tO h a1 v2 r3 fun h =>
    k (v2 + 1) h)
def w_X7_become  (v0 : Nat) (v1 : Nat) (h : AH) (Q : AH → Prop) : Prop :=
  fN h v0 7 0 fun a1 =>
  fN h v1 7 0 fun a2 =>
  vr h a1 3 (
  w_X3_become a1 a2 h (fun h =>
  fN h v0 7 1 fun a3 =>
  fN h v1 7 1 fun a4 =>
  vr h a3 2 (
  w_X2_become a3 a4 h (fun h =>
  fN h v0 7 2 fun a5 =>
  fN h v1 7 2 fun a6 =>
  vr h a5 4 (
  w_X4_become a5 a6 h (fun h =>
  fN h v0 7 3 fun a7 =>
  fN h v1 7 3 fun a8 =>
  vr h a7 1 (
  w_X1_become a7 a8 h (fun h =>
  fN h v0 7 4 fun a9 =>
  fN h v1 7 4 fun a10 =>
  vr h a9 9 (
  w_X9_become a9 a10 h (fun h =>
  lp (fun (k2 : Int32 × AH → Prop) (s2 : Int32 × AH) => w_X7_become_57  (fun  h => w_X7_become_80 v0 v1 h Q) (fun (y2 : Int32) h => k2 (y2, h)) v0 v1 s2.1 s2.2 Q) ((0 : Int32), h)))))))))))
set_option maxRecDepth 100000 in
set_option maxHeartbeats 4000000 in
theorem s_X7_become_125 {p : Program} {l : Launch} {e : Env} {s : State} {m : MethodId} {args : Array Value} {below : List Frame} {meth : Method} {c : Code} {g : GG}  {Q : AH → Prop}  (C : CXT p l s m args meth c RX7 cX7_become 3 g) (hr : meth.sig.returnType = none)  : ∀ (v0 : Nat) (v1 : Nat) (h : AH), w_X7_become_125  v0 v1 h Q → V p l e s m args below meth c g 2 0 0 3 0 0 (MQ below (QCx g (QV Q)) args s 0 0 (gA g)) 125 [(0, .ref v0), (1, .ref v1)] [] h := by
  intro v0 v1 h hw
  refine v_aload_n C dX7_become_125 0 rfl rfl ?_
  refine v_aload_n C dX7_become_126 1 rfl rfl ?_
  refine w_getI C fl_X7_66 dX7_become_127 rfl hw (fun x1 hw => ?_)
  refine w_putI C fp_X7_66 (Or.inl rfl) dX7_become_130 hw (fun h hw => ?_)
  refine v_aload_n C dX7_become_133 0 rfl rfl ?_
  refine v_aload_n C dX7_become_134 1 rfl rfl ?_
  refine w_getI C fl_X7_59 dX7_become_135 rfl hw (fun x2 hw => ?_)
  refine w_putI C fp_X7_59 (Or.inl rfl) dX7_become_138 hw (fun h hw => ?_)
  refine v_aload_n C dX7_become_141 0 rfl rfl ?_
  refine v_aload_n C dX7_become_142 1 rfl rfl ?_
  refine w_getI C fl_X7_95 dX7_become_143 rfl hw (fun x3 hw => ?_)
  refine w_putI C fp_X7_95 (Or.inl rfl) dX7_become_146 hw (fun h hw => ?_)
  refine v_aload_n C dX7_become_149 0 rfl rfl ?_
  refine v_aload_n C dX7_become_150 1 rfl rfl ?_
  refine w_getI C fl_X7_98 dX7_become_151 rfl hw (fun x4 hw => ?_)
  refine w_putI C fp_X7_98 (Or.inl rfl) dX7_become_154 hw (fun h hw => ?_)
  exact (rt_MQ C _).2.2.1 _ _ _ _ _ hr dX7_become_157 (by decide) (by decide) ⟨rfl, hw⟩
set_option maxRecDepth 100000 in
set_option maxHeartbeats 4000000 in
theorem s_X7_become_90 {p : Program} {l : Launch} {e : Env} {s : State} {m : MethodId} {args : Array Value} {below : List Frame} {meth : Method} {c : Code} {g : GG} {v0 : Nat} {v1 : Nat} {Q : AH → Prop} {x125 : AH → Prop} {k : Int32 → AH → Prop} (C : CXT p l s m args meth c RX7 cX7_become 3 g) (hr : meth.sig.returnType = none) (hx125 : ∀  (h : AH), x125  h → V p l e s m args below meth c g 2 0 0 3 0 0 (MQ below (QCx g (QV Q)) args s 0 0 (gA g)) 125 [(0, .ref v0), (1, .ref v1)] [] h) (hk : ∀ (y2 : Int32) (h : AH), k y2 h → V p l e s m args below meth c g 2 0 0 3 0 0 (MQ below (QCx g (QV Q)) args s 0 0 (gA g)) 90 [(0, .ref v0), (1, .ref v1), (2, .int y2)] [] h) : ∀ (v2 : Int32) (h : AH), w_X7_become_90  x125 k v0 v1 v2 h Q → V p l e s m args below meth c g 2 0 0 3 0 0 (MQ below (QCx g (QV Q)) args s 0 0 (gA g)) 90 [(0, .ref v0), (1, .ref v1), (2, .int v2)] [] h := by
  intro v2 h hw
  refine v_iload_n C dX7_become_90 2 rfl rfl ?_
  refine v_iconst (v := 5) C dX7_become_91 (by decide) ?_
  refine v_icmp_ge (tgt := 125) C dX7_become_92 (by decide) (fun c_92 => ?_) (fun c_92 => ?_)
  · have hw := hw.1 c_92
    refine v_sub [0, 1] rfl ?_
    exact hx125  _ hw
  · have hw := hw.2 c_92
    refine v_aload_n C dX7_become_95 0 rfl rfl ?_
    refine w_getN C fl_X7_52 dX7_become_96 rfl hw (fun a1 hw => ?_)
    refine v_iload_n C dX7_become_99 2 rfl rfl ?_
    refine v_aload_n C dX7_become_100 1 rfl rfl ?_
    refine w_getN C fl_X7_52 dX7_become_101 rfl hw (fun a2 hw => ?_)
    refine v_iload_n C dX7_become_104 2 rfl rfl ?_
    refine w_aaload C dX7_become_105 hw (fun r3 hw => ?_)
    refine w_aastore C dX7_become_106 hw (fun h hw => ?_)
    refine v_aload_n C dX7_become_107 0 rfl rfl ?_
    refine w_getN C fl_X7_55 dX7_become_108 rfl hw (fun a4 hw => ?_)
    refine v_iload_n C dX7_become_111 2 rfl rfl ?_
    refine v_aload_n C dX7_become_112 1 rfl rfl ?_
    refine w_getN C fl_X7_55 dX7_become_113 rfl hw (fun a5 hw => ?_)
    refine v_iload_n C dX7_become_116 2 rfl rfl ?_
    refine w_iaload C dX7_become_117 hw (fun x6 hw => ?_)
    refine w_iastore C dX7_become_118 hw (fun h hw => ?_)
    refine v_iinc (v := 1) (ls' := [(2, .int (v2 + 1)), (0, .ref v0), (1, .ref v1)]) C dX7_become_119 2 rfl (by decide) (by decide) rfl ?_
    refine v_goto (tgt := 90) C dX7_become_122 (by decide) ?_
    refine v_sub [1, 2, 0] rfl ?_
    exact hk _ _ hw
set_option maxRecDepth 100000 in
set_option maxHeartbeats 4000000 in
theorem s_X7_become_80 {p : Program} {l : Launch} {e : Env} {s : State} {m : MethodId} {args : Array Value} {below : List Frame} {meth : Method} {c : Code} {g : GG}  {Q : AH → Prop}  (C : CXT p l s m args meth c RX7 cX7_become 3 g) (hr : meth.sig.returnType = none)  : ∀ (v0 : Nat) (v1 : Nat) (h : AH), w_X7_become_80  v0 v1 h Q → V p l e s m args below meth c g 2 0 0 3 0 0 (MQ below (QCx g (QV Q)) args s 0 0 (gA g)) 80 [(0, .ref v0), (1, .ref v1)] [] h := by
  intro v0 v1 h hw
  refine v_aload_n C dX7_become_80 0 rfl rfl ?_
  refine v_aload_n C dX7_become_81 1 rfl rfl ?_
  refine w_getI C fl_X7_63 dX7_become_82 rfl hw (fun x1 hw => ?_)
  refine w_putI C fp_X7_63 (Or.inl rfl) dX7_become_85 hw (fun h hw => ?_)
  refine v_iconst (v := 0) C dX7_become_88 (by decide) ?_
  refine v_istore_n (ls' := [(2, .int (0 : Int32)), (0, .ref v0), (1, .ref v1)]) C dX7_become_89 rfl (by decide) rfl ?_
  refine v_sub [1, 2, 0] rfl ?_
  refine lp_walk (P := fun (s' : Int32 × AH) => V p l e s m args below meth c g 2 0 0 3 0 0 (MQ below (QCx g (QV Q)) args s 0 0 (gA g)) 90 [(0, .ref v0), (1, .ref v1), (2, .int (s'.1))] [] s'.2) (fun k2 hk2 s' hw => ?_) ((0 : Int32), h) hw
  exact s_X7_become_90 C hr (fun  h hw => s_X7_become_125 C hr  _ _ h hw) (fun y2 h hw => hk2 (y2, h) hw) _ _ hw
set_option maxRecDepth 100000 in
set_option maxHeartbeats 4000000 in
theorem s_X7_become_57 {p : Program} {l : Launch} {e : Env} {s : State} {m : MethodId} {args : Array Value} {below : List Frame} {meth : Method} {c : Code} {g : GG} {v0 : Nat} {v1 : Nat} {Q : AH → Prop} {x80 : AH → Prop} {k : Int32 → AH → Prop} (C : CXT p l s m args meth c RX7 cX7_become 3 g) (hr : meth.sig.returnType = none) (hx80 : ∀  (h : AH), x80  h → V p l e s m args below meth c g 2 0 0 3 0 0 (MQ below (QCx g (QV Q)) args s 0 0 (gA g)) 80 [(0, .ref v0), (1, .ref v1)] [] h) (hk : ∀ (y2 : Int32) (h : AH), k y2 h → V p l e s m args below meth c g 2 0 0 3 0 0 (MQ below (QCx g (QV Q)) args s 0 0 (gA g)) 57 [(0, .ref v0), (1, .ref v1), (2, .int y2)] [] h) : ∀ (v2 : Int32) (h : AH), w_X7_become_57  x80 k v0 v1 v2 h Q → V p l e s m args below meth c g 2 0 0 3 0 0 (MQ below (QCx g (QV Q)) args s 0 0 (gA g)) 57 [(0, .ref v0), (1, .ref v1), (2, .int v2)] [] h := by
  intro v2 h hw
  refine v_iload_n C dX7_become_57 2 rfl rfl ?_
  refine v_iconst (v := 4) C dX7_become_58 (by decide) ?_
  refine v_icmp_ge (tgt := 80) C dX7_become_59 (by decide) (fun c_59 => ?_) (fun c_59 => ?_)
  · have hw := hw.1 c_59
    refine v_sub [0, 1] rfl ?_
    exact hx80  _ hw
  · have hw := hw.2 c_59
    refine v_aload_n C dX7_become_62 0 rfl rfl ?_
    refine w_getN C fl_X7_48 dX7_become_63 rfl hw (fun a1 hw => ?_)
    refine v_iload_n C dX7_become_66 2 rfl rfl ?_
    refine v_aload_n C dX7_become_67 1 rfl rfl ?_
    refine w_getN C fl_X7_48 dX7_become_68 rfl hw (fun a2 hw => ?_)
    refine v_iload_n C dX7_become_71 2 rfl rfl ?_
    refine w_aaload C dX7_become_72 hw (fun r3 hw => ?_)
    refine w_aastore C dX7_become_73 hw (fun h hw => ?_)
    refine v_iinc (v := 1) (ls' := [(2, .int (v2 + 1)), (0, .ref v0), (1, .ref v1)]) C dX7_become_74 2 rfl (by decide) (by decide) rfl ?_
    refine v_goto (tgt := 57) C dX7_become_77 (by decide) ?_
    refine v_sub [1, 2, 0] rfl ?_
    exact hk _ _ hw
set_option maxRecDepth 100000 in
set_option maxHeartbeats 4000000 in
theorem s_X7_become {l : Launch}  {v0 : Nat} {v1 : Nat} {h : AH} {Q : AH → Prop}  (hw : w_X7_become  v0 v1 h Q) : CT l yX7_become cX7_become 3 none 2 0 0 [.ref v0, .ref v1] h (QV Q) := by
  refine CT.of (by decide) ⟨rfl, ⟨rfl, trivial⟩⟩ (Nat.le_of_ble_eq_true rfl) ?_
  intro p e s m args below meth c g C hr hin
  refine v_eq (pc' := 0) (ls' := [(0, .ref v0), (1, .ref v1)]) rfl rfl rfl rfl ?_
  refine v_aload_n C dX7_become_0 0 rfl rfl ?_
  refine w_getN C fl_X7_12 dX7_become_1 rfl hw (fun a1 hw => ?_)
  refine v_aload_n C dX7_become_4 1 rfl rfl ?_
  refine w_getN C fl_X7_12 dX7_become_5 rfl hw (fun a2 hw => ?_)
  refine w_callVv (st := []) C cl_X7_79 im_X3_become se_X3_become rfl hw.1 (s_X3_become hw.2) rfl dX7_become_8 rfl (by decide) (by decide) (by decide) (by decide) (by decide) (fun h hw => ?_)
  refine v_aload_n C dX7_become_11 0 rfl rfl ?_
  refine w_getN C fl_X7_21 dX7_become_12 rfl hw (fun a3 hw => ?_)
  refine v_aload_n C dX7_become_15 1 rfl rfl ?_
  refine w_getN C fl_X7_21 dX7_become_16 rfl hw (fun a4 hw => ?_)
  refine w_callVv (st := []) C cl_X7_83 im_X2_become se_X2_become rfl hw.1 (s_X2_become hw.2) rfl dX7_become_19 rfl (by decide) (by decide) (by decide) (by decide) (by decide) (fun h hw => ?_)
  refine v_aload_n C dX7_become_22 0 rfl rfl ?_
  refine w_getN C fl_X7_28 dX7_become_23 rfl hw (fun a5 hw => ?_)
  refine v_aload_n C dX7_become_26 1 rfl rfl ?_
  refine w_getN C fl_X7_28 dX7_become_27 rfl hw (fun a6 hw => ?_)
  refine w_callVv (st := []) C cl_X7_86 im_X4_become se_X4_become rfl hw.1 (s_X4_become hw.2) rfl dX7_become_30 rfl (by decide) (by decide) (by decide) (by decide) (by decide) (fun h hw => ?_)
  refine v_aload_n C dX7_become_33 0 rfl rfl ?_
  refine w_getN C fl_X7_35 dX7_become_34 rfl hw (fun a7 hw => ?_)
  refine v_aload_n C dX7_become_37 1 rfl rfl ?_
  refine w_getN C fl_X7_35 dX7_become_38 rfl hw (fun a8 hw => ?_)
  refine w_callVv (st := []) C cl_X7_89 im_X1_become se_X1_become rfl hw.1 (s_X1_become hw.2) rfl dX7_become_41 rfl (by decide) (by decide) (by decide) (by decide) (by decide) (fun h hw => ?_)
  refine v_aload_n C dX7_become_44 0 rfl rfl ?_
  refine w_getN C fl_X7_42 dX7_become_45 rfl hw (fun a9 hw => ?_)
  refine v_aload_n C dX7_become_48 1 rfl rfl ?_
  refine w_getN C fl_X7_42 dX7_become_49 rfl hw (fun a10 hw => ?_)
  refine w_callVv (st := []) C cl_X7_92 im_X9_become se_X9_become rfl hw.1 (s_X9_become hw.2) rfl dX7_become_52 rfl (by decide) (by decide) (by decide) (by decide) (by decide) (fun h hw => ?_)
  refine v_iconst (v := 0) C dX7_become_55 (by decide) ?_
  refine v_istore_n (ls' := [(2, .int (0 : Int32)), (0, .ref v0), (1, .ref v1)]) C dX7_become_56 rfl (by decide) rfl ?_
  refine v_sub [1, 2, 0] rfl ?_
  refine lp_walk (P := fun (s' : Int32 × AH) => V p l e s m args below meth c g 2 0 0 3 0 0 (MQ below (QCx g (QV Q)) args s 0 0 (gA g)) 57 [(0, .ref v0), (1, .ref v1), (2, .int (s'.1))] [] s'.2) (fun k2 hk2 s' hw => ?_) ((0 : Int32), h) hw
  exact s_X7_become_57 C hr (fun  h hw => s_X7_become_80 C hr  _ _ h hw) (fun y2 h hw => hk2 (y2, h) hw) _ _ hw
-- GrassField$State.gunsOf(I)I
theorem dX7_gunsOf_0 : decode cX7_gunsOf 0 = .ok (.aload_n 0, 1) := by decide +kernel
theorem dX7_gunsOf_1 : decode cX7_gunsOf 1 = .ok (.getfield 35, 3) := by decide +kernel
theorem dX7_gunsOf_4 : decode cX7_gunsOf 4 = .ok (.getfield 69, 3) := by decide +kernel
theorem dX7_gunsOf_7 : decode cX7_gunsOf 7 = .ok (.iload_n 1, 1) := by decide +kernel
theorem dX7_gunsOf_8 : decode cX7_gunsOf 8 = .ok (.iaload, 1) := by decide +kernel
theorem dX7_gunsOf_9 : decode cX7_gunsOf 9 = .ok (.ifCond .ne 22, 3) := by decide +kernel
theorem dX7_gunsOf_12 : decode cX7_gunsOf 12 = .ok (.aload_n 0, 1) := by decide +kernel
theorem dX7_gunsOf_13 : decode cX7_gunsOf 13 = .ok (.getfield 21, 3) := by decide +kernel
theorem dX7_gunsOf_16 : decode cX7_gunsOf 16 = .ok (.aload_n 0, 1) := by decide +kernel
theorem dX7_gunsOf_17 : decode cX7_gunsOf 17 = .ok (.getfield 35, 3) := by decide +kernel
theorem dX7_gunsOf_20 : decode cX7_gunsOf 20 = .ok (.getfield 72, 3) := by decide +kernel
theorem dX7_gunsOf_23 : decode cX7_gunsOf 23 = .ok (.iload_n 1, 1) := by decide +kernel
theorem dX7_gunsOf_24 : decode cX7_gunsOf 24 = .ok (.iaload, 1) := by decide +kernel
theorem dX7_gunsOf_25 : decode cX7_gunsOf 25 = .ok (.invokevirtual 75, 3) := by decide +kernel
theorem dX7_gunsOf_28 : decode cX7_gunsOf 28 = .ok (.goto 4, 3) := by decide +kernel
theorem dX7_gunsOf_31 : decode cX7_gunsOf 31 = .ok (.iconst 0, 1) := by decide +kernel
theorem dX7_gunsOf_32 : decode cX7_gunsOf 32 = .ok (.ireturn, 1) := by decide +kernel
def w_X7_gunsOf_32  (t0 : Int32) (h : AH) (Q : Int32 → AH → Prop) : Prop :=
  Q t0 h
def w_X7_gunsOf  (v0 : Nat) (v1 : Int32) (h : AH) (Q : Int32 → AH → Prop) : Prop :=
  fN h v0 7 3 fun a1 =>
  fN h a1 1 1 fun a2 =>
  aI h a2 v1 fun x3 =>
  br (x3 = 0) (
    fN h v0 7 1 fun a4 =>
    fN h v0 7 3 fun a5 =>
    fN h a5 1 4 fun a6 =>
    aI h a6 v1 fun x7 =>
    vr h a4 2 (
    w_X2_withMarks a4 x7 h (fun x8 h =>
    w_X7_gunsOf_32 x8 h Q))) (
    w_X7_gunsOf_32 (0 : Int32) h Q)
set_option maxRecDepth 100000 in
set_option maxHeartbeats 4000000 in
theorem s_X7_gunsOf_32 {p : Program} {l : Launch} {e : Env} {s : State} {m : MethodId} {args : Array Value} {below : List Frame} {meth : Method} {c : Code} {g : GG}  {Q : Int32 → AH → Prop}  (C : CXT p l s m args meth c RX7 cX7_gunsOf 2 g) (hr : meth.sig.returnType = (some .int))  : ∀ (t0 : Int32) (h : AH), w_X7_gunsOf_32  t0 h Q → V p l e s m args below meth c g 1 0 0 2 0 0 (MQ below (QCx g (QI Q)) args s 0 0 (gA g)) 32 [] [.int t0] h := by
  intro t0 h hw
  exact (rt_MQ C _).1 _ _ _ _ _ _ hr dX7_gunsOf_32 (by decide) (by decide) ⟨_, rfl, hw⟩
set_option maxRecDepth 100000 in
set_option maxHeartbeats 4000000 in
theorem s_X7_gunsOf {l : Launch}  {v0 : Nat} {v1 : Int32} {h : AH} {Q : Int32 → AH → Prop}  (hw : w_X7_gunsOf  v0 v1 h Q) : CT l yX7_gunsOf cX7_gunsOf 2 (some .int) 1 0 0 [.ref v0, .int v1] h (QI Q) := by
  refine CT.of (by decide) ⟨rfl, ⟨rfl, trivial⟩⟩ (Nat.le_of_ble_eq_true rfl) ?_
  intro p e s m args below meth c g C hr hin
  refine v_eq (pc' := 0) (ls' := [(0, .ref v0), (1, .int v1)]) rfl rfl rfl rfl ?_
  refine v_aload_n C dX7_gunsOf_0 0 rfl rfl ?_
  refine w_getN C fl_X7_35 dX7_gunsOf_1 rfl hw (fun a1 hw => ?_)
  refine w_getN C fl_X7_69 dX7_gunsOf_4 rfl hw (fun a2 hw => ?_)
  refine v_iload_n C dX7_gunsOf_7 1 rfl rfl ?_
  refine w_iaload C dX7_gunsOf_8 hw (fun x3 hw => ?_)
  refine v_if_ne (tgt := 31) C dX7_gunsOf_9 (by decide) (fun c_9 => ?_) (fun c_9 => ?_)
  · have hw := hw.2 c_9
    refine v_iconst (v := 0) C dX7_gunsOf_31 (by decide) ?_
    refine v_sub [] rfl ?_
    exact s_X7_gunsOf_32 C hr  _ _ hw
  · have hw := hw.1 c_9
    refine v_aload_n C dX7_gunsOf_12 0 rfl rfl ?_
    refine w_getN C fl_X7_21 dX7_gunsOf_13 rfl hw (fun a4 hw => ?_)
    refine v_aload_n C dX7_gunsOf_16 0 rfl rfl ?_
    refine w_getN C fl_X7_35 dX7_gunsOf_17 rfl hw (fun a5 hw => ?_)
    refine w_getN C fl_X7_72 dX7_gunsOf_20 rfl hw (fun a6 hw => ?_)
    refine v_iload_n C dX7_gunsOf_23 1 rfl rfl ?_
    refine w_iaload C dX7_gunsOf_24 hw (fun x7 hw => ?_)
    refine w_callVi (st := []) C cl_X7_75 im_X2_withMarks se_X2_withMarks rfl hw.1 (s_X2_withMarks hw.2) rfl dX7_gunsOf_25 rfl (by decide) (by decide) (by decide) (by decide) (by decide) (fun x8 h hw => ?_)
    refine v_goto (tgt := 32) C dX7_gunsOf_28 (by decide) ?_
    refine v_sub [] rfl ?_
    exact s_X7_gunsOf_32 C hr  _ _ hw
