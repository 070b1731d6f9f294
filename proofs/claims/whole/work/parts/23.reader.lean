theorem iw_X6 : ∀ w ∈ u_ws RX6 TX6 10, w ∈ lw_tbl := (show ∀ w ∈ ([Cond.laysFinal "GrassField$Reader" "GrassField$Reader" "bytes" "[I", Cond.lays "GrassField$Reader" "GrassField$Reader" "size" "I", Cond.lays "GrassField$Reader" "GrassField$Reader" "wrong" "I", Cond.laysFinal "GrassField$Reader" "GrassField$Reader" "things" "[I", Cond.laysFinal "GrassField$Reader" "GrassField$Reader" "begins" "[I", Cond.lays "GrassField$Reader" "GrassField$Reader" "place" "I", Cond.lays "GrassField$Reader" "GrassField$Reader" "thing" "I", Cond.lays "GrassField$Reader" "GrassField$Reader" "firstFact" "I", Cond.laysFinal "GrassField$Reader" "GrassField$Reader" "steps" "[I", Cond.lays "GrassField$Reader" "GrassField$Reader" "stepCount" "I"] : List Cond), w ∈ lw_tbl from List.forall_mem_cons.mpr ⟨(tb1 (List.mem_of_getElem? (i := 56) rfl)), List.forall_mem_cons.mpr ⟨(tb1 (List.mem_of_getElem? (i := 58) rfl)), List.forall_mem_cons.mpr ⟨(tb1 (List.mem_of_getElem? (i := 60) rfl)), List.forall_mem_cons.mpr ⟨(tb1 (List.mem_of_getElem? (i := 62) rfl)), List.forall_mem_cons.mpr ⟨(tb1 (List.mem_of_getElem? (i := 64) rfl)), List.forall_mem_cons.mpr ⟨(tb1 (List.mem_of_getElem? (i := 66) rfl)), List.forall_mem_cons.mpr ⟨(tb1 (List.mem_of_getElem? (i := 68) rfl)), List.forall_mem_cons.mpr ⟨(tb1 (List.mem_of_getElem? (i := 70) rfl)), List.forall_mem_cons.mpr ⟨(tb1 (List.mem_of_getElem? (i := 72) rfl)), List.forall_mem_cons.mpr ⟨(tb1 (List.mem_of_getElem? (i := 74) rfl)), fun _ h => nomatch h⟩⟩⟩⟩⟩⟩⟩⟩⟩⟩)
theorem fl_X6_11 : FLk RX6 11 6 0 (RX6, TX6, 10) := ⟨rfl, by decide, iw_X6, Or.inl (tb1 (List.mem_of_getElem? (i := 44) rfl))⟩
theorem fp_X6_11 : FPk RX6 11 6 0 (RX6, TX6, 10) tyX6 2 := ⟨fl_X6_11, nmX6, tyX6_ok, Or.inr (Or.inr ⟨rfl, Or.inr ⟨_, rfl⟩, rfl⟩)⟩
theorem fl_X6_15 : FLk RX6 15 6 2 (RX6, TX6, 10) := ⟨rfl, by decide, iw_X6, Or.inl (tb1 (List.mem_of_getElem? (i := 47) rfl))⟩
theorem fp_X6_15 : FPk RX6 15 6 2 (RX6, TX6, 10) tyX6 0 := ⟨fl_X6_15, nmX6, tyX6_ok, Or.inl ⟨rfl, rfl, rfl⟩⟩
theorem fl_X6_19 : FLk RX6 19 6 3 (RX6, TX6, 10) := ⟨rfl, by decide, iw_X6, Or.inl (tb1 (List.mem_of_getElem? (i := 49) rfl))⟩
theorem fp_X6_19 : FPk RX6 19 6 3 (RX6, TX6, 10) tyX6 2 := ⟨fl_X6_19, nmX6, tyX6_ok, Or.inr (Or.inr ⟨rfl, Or.inr ⟨_, rfl⟩, rfl⟩)⟩
theorem fl_X6_22 : FLk RX6 22 6 4 (RX6, TX6, 10) := ⟨rfl, by decide, iw_X6, Or.inl (tb1 (List.mem_of_getElem? (i := 50) rfl))⟩
theorem fp_X6_22 : FPk RX6 22 6 4 (RX6, TX6, 10) tyX6 2 := ⟨fl_X6_22, nmX6, tyX6_ok, Or.inr (Or.inr ⟨rfl, Or.inr ⟨_, rfl⟩, rfl⟩)⟩
theorem fl_X6_25 : FLk RX6 25 6 8 (RX6, TX6, 10) := ⟨rfl, by decide, iw_X6, Or.inl (tb1 (List.mem_of_getElem? (i := 54) rfl))⟩
theorem fp_X6_25 : FPk RX6 25 6 8 (RX6, TX6, 10) tyX6 2 := ⟨fl_X6_25, nmX6, tyX6_ok, Or.inr (Or.inr ⟨rfl, Or.inr ⟨_, rfl⟩, rfl⟩)⟩
theorem fl_X6_28 : FLk RX6 28 6 1 (RX6, TX6, 10) := ⟨rfl, by decide, iw_X6, Or.inl (tb1 (List.mem_of_getElem? (i := 45) rfl))⟩
theorem fp_X6_28 : FPk RX6 28 6 1 (RX6, TX6, 10) tyX6 0 := ⟨fl_X6_28, nmX6, tyX6_ok, Or.inl ⟨rfl, rfl, rfl⟩⟩
theorem fl_X6_33 : FLk RX6 33 6 9 (RX6, TX6, 10) := ⟨rfl, by decide, iw_X6, Or.inl (tb1 (List.mem_of_getElem? (i := 55) rfl))⟩
theorem fp_X6_33 : FPk RX6 33 6 9 (RX6, TX6, 10) tyX6 0 := ⟨fl_X6_33, nmX6, tyX6_ok, Or.inl ⟨rfl, rfl, rfl⟩⟩
theorem cl_X6_98 : CLk RX6 98 yX6_isByteIn cX6_isByteIn 4 (some .boolean) 3 := ⟨Or.inl (tb4 (List.mem_of_getElem? (i := 44) rfl)), (tb4 (List.mem_of_getElem? (i := 47) rfl)), (tb1 (List.mem_of_getElem? (i := 2) rfl)), by decide +kernel, by decide +kernel, by decide +kernel⟩
theorem im_X6_isByteIn : Cond.instanceMethod yX6_isByteIn ∈ lw_tbl := (tb4 (List.mem_of_getElem? (i := 46) rfl))
theorem se_X6_isByteIn : Cond.selects RX6 yX6_isByteIn yX6_isByteIn ∈ lw_tbl := (tbp1 9 rfl)
theorem fl_X6_43 : FLk RX6 43 6 6 (RX6, TX6, 10) := ⟨rfl, by decide, iw_X6, Or.inl (tb1 (List.mem_of_getElem? (i := 52) rfl))⟩
theorem fl_X6_70 : FLk RX6 70 6 5 (RX6, TX6, 10) := ⟨rfl, by decide, iw_X6, Or.inl (tb1 (List.mem_of_getElem? (i := 51) rfl))⟩
theorem fp_X6_70 : FPk RX6 70 6 5 (RX6, TX6, 10) tyX6 0 := ⟨fl_X6_70, nmX6, tyX6_ok, Or.inl ⟨rfl, rfl, rfl⟩⟩
theorem fp_X6_43 : FPk RX6 43 6 6 (RX6, TX6, 10) tyX6 0 := ⟨fl_X6_43, nmX6, tyX6_ok, Or.inl ⟨rfl, rfl, rfl⟩⟩
theorem cl_X6_119 : CLk RX6 119 yJ0_length_8abf5 cJ0_length_8abf5 1 (some .int) 0 := ⟨Or.inl (tb4 (List.mem_of_getElem? (i := 53) rfl)), (tb4 (List.mem_of_getElem? (i := 56) rfl)), (tb1 (List.mem_of_getElem? (i := 19) rfl)), by decide +kernel, by decide +kernel, by decide +kernel⟩
theorem lk_X6_119 : Cond.methodLink RX6 119 yJ0_length_8abf5 ∈ lw_tbl := (tb4 (List.mem_of_getElem? (i := 53) rfl))
theorem cl_X6_123 : CLk RX6 123 yJ0_charAt_5068e cJ0_charAt_5068e 2 (some .char) 1 := ⟨Or.inl (tb4 (List.mem_of_getElem? (i := 63) rfl)), (tb4 (List.mem_of_getElem? (i := 66) rfl)), (tb1 (List.mem_of_getElem? (i := 19) rfl)), by decide +kernel, by decide +kernel, by decide +kernel⟩
theorem lk_X6_123 : Cond.methodLink RX6 123 yJ0_charAt_5068e ∈ lw_tbl := (tb4 (List.mem_of_getElem? (i := 63) rfl))
theorem im_J0_charAt_5068e : Cond.instanceMethod yJ0_charAt_5068e ∈ lw_tbl := (tb4 (List.mem_of_getElem? (i := 64) rfl))
theorem se_J0_charAt_5068e : Cond.selects RJ0 yJ0_charAt_5068e yJ0_charAt_5068e ∈ lw_tbl := (tb4 (List.mem_of_getElem? (i := 65) rfl))
theorem cl_X6_94 : CLk RX6 94 yX6_behind cX6_behind 6 (some .int) 3 := ⟨Or.inl (tb4 (List.mem_of_getElem? (i := 40) rfl)), (tb4 (List.mem_of_getElem? (i := 43) rfl)), (tb1 (List.mem_of_getElem? (i := 2) rfl)), by decide +kernel, by decide +kernel, by decide +kernel⟩
theorem im_X6_behind : Cond.instanceMethod yX6_behind ∈ lw_tbl := (tb4 (List.mem_of_getElem? (i := 42) rfl))
theorem se_X6_behind : Cond.selects RX6 yX6_behind yX6_behind ∈ lw_tbl := (tbp1 8 rfl)
theorem cl_X6_111 : CLk RX6 111 yJ0_indexOf_0f7a4 cJ0_indexOf_0f7a4 2 (some .int) 1 := ⟨Or.inl (tb4 (List.mem_of_getElem? (i := 106) rfl)), (tb4 (List.mem_of_getElem? (i := 109) rfl)), (tb1 (List.mem_of_getElem? (i := 19) rfl)), by decide +kernel, by decide +kernel, by decide +kernel⟩
theorem lk_X6_111 : Cond.methodLink RX6 111 yJ0_indexOf_0f7a4 ∈ lw_tbl := (tb4 (List.mem_of_getElem? (i := 106) rfl))
theorem im_J0_indexOf_0f7a4 : Cond.instanceMethod yJ0_indexOf_0f7a4 ∈ lw_tbl := (tb4 (List.mem_of_getElem? (i := 107) rfl))
theorem se_J0_indexOf_0f7a4 : Cond.selects RJ0 yJ0_indexOf_0f7a4 yJ0_indexOf_0f7a4 ∈ lw_tbl := (tb4 (List.mem_of_getElem? (i := 108) rfl))
theorem cl_X6_106 : CLk RX6 106 yX6_numberIn cX6_numberIn 5 (some .int) 2 := ⟨Or.inl (tb4 (List.mem_of_getElem? (i := 101) rfl)), (tb4 (List.mem_of_getElem? (i := 104) rfl)), (tb1 (List.mem_of_getElem? (i := 2) rfl)), by decide +kernel, by decide +kernel, by decide +kernel⟩
theorem im_X6_numberIn : Cond.instanceMethod yX6_numberIn ∈ lw_tbl := (tb4 (List.mem_of_getElem? (i := 103) rfl))
theorem se_X6_numberIn : Cond.selects RX6 yX6_numberIn yX6_numberIn ∈ lw_tbl := (tbp1 11 rfl)
theorem cl_X6_102 : CLk RX6 102 yX6_wordIn cX6_wordIn 8 (some .int) 2 := ⟨Or.inl (tb4 (List.mem_of_getElem? (i := 48) rfl)), (tb4 (List.mem_of_getElem? (i := 51) rfl)), (tb1 (List.mem_of_getElem? (i := 2) rfl)), by decide +kernel, by decide +kernel, by decide +kernel⟩
theorem im_X6_wordIn : Cond.instanceMethod yX6_wordIn ∈ lw_tbl := (tb4 (List.mem_of_getElem? (i := 50) rfl))
theorem se_X6_wordIn : Cond.selects RX6 yX6_wordIn yX6_wordIn ∈ lw_tbl := (tbp1 10 rfl)
theorem cl_X6_64 : CLk RX6 64 yX6_splitText cX6_splitText 5 none 0 := ⟨Or.inl (tb4 (List.mem_of_getElem? (i := 36) rfl)), (tb4 (List.mem_of_getElem? (i := 39) rfl)), (tb1 (List.mem_of_getElem? (i := 2) rfl)), by decide +kernel, by decide +kernel, by decide +kernel⟩
theorem im_X6_splitText : Cond.instanceMethod yX6_splitText ∈ lw_tbl := (tb4 (List.mem_of_getElem? (i := 38) rfl))
theorem se_X6_splitText : Cond.selects RX6 yX6_splitText yX6_splitText ∈ lw_tbl := (tbp1 7 rfl)
theorem fl_X6_67 : FLk RX6 67 6 7 (RX6, TX6, 10) := ⟨rfl, by decide, iw_X6, Or.inl (tb1 (List.mem_of_getElem? (i := 53) rfl))⟩
theorem fp_X6_67 : FPk RX6 67 6 7 (RX6, TX6, 10) tyX6 0 := ⟨fl_X6_67, nmX6, tyX6_ok, Or.inl ⟨rfl, rfl, rfl⟩⟩
theorem df_X5 : ∀ k, k < 3 → defaultValue (tyX5 k) = if rf 5 k = true then .null else .int 0 := by decide +kernel
theorem cl_X6_36 : CLk RX6 36 yX5_init cX5_init 3 none 2 := ⟨Or.inl (tb4 (List.mem_of_getElem? (i := 215) rfl)), (tb4 (List.mem_of_getElem? (i := 217) rfl)), (tb1 (List.mem_of_getElem? (i := 24) rfl)), by decide +kernel, by decide +kernel, by decide +kernel⟩
theorem im_X5_init : Cond.instanceMethod yX5_init ∈ lw_tbl := (tb4 (List.mem_of_getElem? (i := 216) rfl))
theorem cl_X6_50 : CLk RX6 50 yX6_refuse cX6_refuse 1 (some .boolean) 0 := ⟨Or.inl (tb4 (List.mem_of_getElem? (i := 165) rfl)), (tb4 (List.mem_of_getElem? (i := 168) rfl)), (tb1 (List.mem_of_getElem? (i := 2) rfl)), by decide +kernel, by decide +kernel, by decide +kernel⟩
theorem im_X6_refuse : Cond.instanceMethod yX6_refuse ∈ lw_tbl := (tb4 (List.mem_of_getElem? (i := 167) rfl))
theorem se_X6_refuse : Cond.selects RX6 yX6_refuse yX6_refuse ∈ lw_tbl := (tbp1 13 rfl)
theorem cl_X6_60 : CLk RX6 60 yX6_addStep cX6_addStep 3 none 2 := ⟨Or.inl (tb4 (List.mem_of_getElem? (i := 173) rfl)), (tb4 (List.mem_of_getElem? (i := 176) rfl)), (tb1 (List.mem_of_getElem? (i := 2) rfl)), by decide +kernel, by decide +kernel, by decide +kernel⟩
theorem im_X6_addStep : Cond.instanceMethod yX6_addStep ∈ lw_tbl := (tb4 (List.mem_of_getElem? (i := 175) rfl))
theorem se_X6_addStep : Cond.selects RX6 yX6_addStep yX6_addStep ∈ lw_tbl := (tbp1 15 rfl)
theorem cl_X6_53 : CLk RX6 53 yX6_goOn cX6_goOn 1 none 0 := ⟨Or.inl (tb4 (List.mem_of_getElem? (i := 169) rfl)), (tb4 (List.mem_of_getElem? (i := 172) rfl)), (tb1 (List.mem_of_getElem? (i := 2) rfl)), by decide +kernel, by decide +kernel, by decide +kernel⟩
theorem im_X6_goOn : Cond.instanceMethod yX6_goOn ∈ lw_tbl := (tb4 (List.mem_of_getElem? (i := 171) rfl))
theorem se_X6_goOn : Cond.selects RX6 yX6_goOn yX6_goOn ∈ lw_tbl := (tbp1 14 rfl)
theorem cl_X6_91 : CLk RX6 91 yX6_readPart cX6_readPart 3 (some .boolean) 0 := ⟨Or.inl (tb4 (List.mem_of_getElem? (i := 205) rfl)), (tb4 (List.mem_of_getElem? (i := 208) rfl)), (tb1 (List.mem_of_getElem? (i := 2) rfl)), by decide +kernel, by decide +kernel, by decide +kernel⟩
theorem im_X6_readPart : Cond.instanceMethod yX6_readPart ∈ lw_tbl := (tb4 (List.mem_of_getElem? (i := 207) rfl))
theorem se_X6_readPart : Cond.selects RX6 yX6_readPart yX6_readPart ∈ lw_tbl := (tbp2 7 rfl)
theorem cl_X6_88 : CLk RX6 88 yX6_readSum cX6_readSum 2 (some .boolean) 0 := ⟨Or.inl (tb4 (List.mem_of_getElem? (i := 201) rfl)), (tb4 (List.mem_of_getElem? (i := 204) rfl)), (tb1 (List.mem_of_getElem? (i := 2) rfl)), by decide +kernel, by decide +kernel, by decide +kernel⟩
theorem im_X6_readSum : Cond.instanceMethod yX6_readSum ∈ lw_tbl := (tb4 (List.mem_of_getElem? (i := 203) rfl))
theorem se_X6_readSum : Cond.selects RX6 yX6_readSum yX6_readSum ∈ lw_tbl := (tbp2 6 rfl)
-- GrassField$Reader.<init>()V
theorem dX6_init_0 : decode cX6_init 0 = .ok (.aload_n 0, 1) := by decide +kernel
theorem dX6_init_1 : decode cX6_init 1 = .ok (.invokespecial 5, 3) := by decide +kernel
theorem dX6_init_4 : decode cX6_init 4 = .ok (.aload_n 0, 1) := by decide +kernel
theorem dX6_init_5 : decode cX6_init 5 = .ok (.sipush 400, 3) := by decide +kernel
theorem dX6_init_8 : decode cX6_init 8 = .ok (.newarray .int, 2) := by decide +kernel
theorem dX6_init_10 : decode cX6_init 10 = .ok (.putfield 11, 3) := by decide +kernel
theorem dX6_init_13 : decode cX6_init 13 = .ok (.aload_n 0, 1) := by decide +kernel
theorem dX6_init_14 : decode cX6_init 14 = .ok (.iconst (-1), 1) := by decide +kernel
theorem dX6_init_15 : decode cX6_init 15 = .ok (.putfield 15, 3) := by decide +kernel
theorem dX6_init_18 : decode cX6_init 18 = .ok (.aload_n 0, 1) := by decide +kernel
theorem dX6_init_19 : decode cX6_init 19 = .ok (.sipush 401, 3) := by decide +kernel
theorem dX6_init_22 : decode cX6_init 22 = .ok (.newarray .int, 2) := by decide +kernel
theorem dX6_init_24 : decode cX6_init 24 = .ok (.putfield 19, 3) := by decide +kernel
theorem dX6_init_27 : decode cX6_init 27 = .ok (.aload_n 0, 1) := by decide +kernel
theorem dX6_init_28 : decode cX6_init 28 = .ok (.sipush 401, 3) := by decide +kernel
theorem dX6_init_31 : decode cX6_init 31 = .ok (.newarray .int, 2) := by decide +kernel
theorem dX6_init_33 : decode cX6_init 33 = .ok (.putfield 22, 3) := by decide +kernel
theorem dX6_init_36 : decode cX6_init 36 = .ok (.aload_n 0, 1) := by decide +kernel
theorem dX6_init_37 : decode cX6_init 37 = .ok (.sipush 401, 3) := by decide +kernel
theorem dX6_init_40 : decode cX6_init 40 = .ok (.newarray .int, 2) := by decide +kernel
theorem dX6_init_42 : decode cX6_init 42 = .ok (.putfield 25, 3) := by decide +kernel
theorem dX6_init_45 : decode cX6_init 45 = .ok (.return_, 1) := by decide +kernel
def w_X6_init  (v0 : Nat) (h : AH) (Q : AH → Prop) : Prop :=
  wA h 0 400 fun a1 h =>
  uO h v0 6 0 (some a1) fun h =>
  uI h v0 6 2 (-1 : Int32) fun h =>
  wA h 0 401 fun a2 h =>
  uO h v0 6 3 (some a2) fun h =>
  wA h 0 401 fun a3 h =>
  uO h v0 6 4 (some a3) fun h =>
  wA h 0 401 fun a4 h =>
  uO h v0 6 8 (some a4) fun h =>
  Q h
set_option maxRecDepth 100000 in
set_option maxHeartbeats 4000000 in
theorem s_X6_init {l : Launch}  {v0 : Nat} {h : AH} {Q : AH → Prop}  (hw : w_X6_init  v0 h Q) : CT l yX6_init cX6_init 1 none 1 4 1603 [.ref v0] h (QV Q) := by
  refine CT.of (by decide) ⟨rfl, trivial⟩ (Nat.le_of_ble_eq_true rfl) ?_
  intro p e s m args below meth c g C hr hin
  refine v_eq (pc' := 0) (ls' := [(0, .ref v0)]) rfl rfl rfl rfl ?_
  refine v_aload_n C dX6_init_0 0 rfl rfl ?_
  refine v_objInit C (tb1 (List.mem_of_getElem? (i := 43) rfl)) (tb1 (List.mem_of_getElem? (i := 36) rfl)) (tb1 (List.mem_of_getElem? (i := 37) rfl)) dX6_init_1 (by decide) (by decide) ?_
  refine v_aload_n C dX6_init_4 0 rfl rfl ?_
  refine v_sipush (v := 400) C dX6_init_5 (by decide) ?_
  refine v_newa (atype := .int) (j := 0) (N := 400) C rfl rfl (by decide) rfl rfl (tb1 (List.mem_of_getElem? (i := 77) rfl)) dX6_init_8 (by decide) (by decide) (by decide) (by decide) (by decide) (fun a1 hn => ?_)
  have hw := hw a1 hn
  generalize nA h a1 0 400 = h at hw ⊢
  refine w_putN C fp_X6_11 (Or.inr ⟨hin, rfl, rfl, (tb1 (List.mem_of_getElem? (i := 44) rfl))⟩) dX6_init_10 hw (fun h hw => ?_)
  refine v_aload_n C dX6_init_13 0 rfl rfl ?_
  refine v_iconst (v := -1) C dX6_init_14 (by decide) ?_
  refine w_putI C fp_X6_15 (Or.inl rfl) dX6_init_15 hw (fun h hw => ?_)
  refine v_aload_n C dX6_init_18 0 rfl rfl ?_
  refine v_sipush (v := 401) C dX6_init_19 (by decide) ?_
  refine v_newa (atype := .int) (j := 0) (N := 401) C rfl rfl (by decide) rfl rfl (tb1 (List.mem_of_getElem? (i := 77) rfl)) dX6_init_22 (by decide) (by decide) (by decide) (by decide) (by decide) (fun a2 hn => ?_)
  have hw := hw a2 hn
  generalize nA h a2 0 401 = h at hw ⊢
  refine w_putN C fp_X6_19 (Or.inr ⟨hin, rfl, rfl, (tb1 (List.mem_of_getElem? (i := 49) rfl))⟩) dX6_init_24 hw (fun h hw => ?_)
  refine v_aload_n C dX6_init_27 0 rfl rfl ?_
  refine v_sipush (v := 401) C dX6_init_28 (by decide) ?_
  refine v_newa (atype := .int) (j := 0) (N := 401) C rfl rfl (by decide) rfl rfl (tb1 (List.mem_of_getElem? (i := 77) rfl)) dX6_init_31 (by decide) (by decide) (by decide) (by decide) (by decide) (fun a3 hn => ?_)
  have hw := hw a3 hn
  generalize nA h a3 0 401 = h at hw ⊢
  refine w_putN C fp_X6_22 (Or.inr ⟨hin, rfl, rfl, (tb1 (List.mem_of_getElem? (i := 50) rfl))⟩) dX6_init_33 hw (fun h hw => ?_)
  refine v_aload_n C dX6_init_36 0 rfl rfl ?_
  refine v_sipush (v := 401) C dX6_init_37 (by decide) ?_
  refine v_newa (atype := .int) (j := 0) (N := 401) C rfl rfl (by decide) rfl rfl (tb1 (List.mem_of_getElem? (i := 77) rfl)) dX6_init_40 (by decide) (by decide) (by decide) (by decide) (by decide) (fun a4 hn => ?_)
  have hw := hw a4 hn
  generalize nA h a4 0 401 = h at hw ⊢
  refine w_putN C fp_X6_25 (Or.inr ⟨hin, rfl, rfl, (tb1 (List.mem_of_getElem? (i := 54) rfl))⟩) dX6_init_42 hw (fun h hw => ?_)
  exact (rt_MQ C _).2.2.1 _ _ _ _ _ hr dX6_init_45 (by decide) (by decide) ⟨rfl, hw⟩
-- GrassField$Reader.addNumber(I)V
theorem dX6_addNumber_0 : decode cX6_addNumber 0 = .ok (.bipush 24, 2) := by decide +kernel
theorem dX6_addNumber_2 : decode cX6_addNumber 2 = .ok (.istore_n 2, 1) := by decide +kernel
theorem dX6_addNumber_3 : decode cX6_addNumber 3 = .ok (.iload_n 2, 1) := by decide +kernel
theorem dX6_addNumber_4 : decode cX6_addNumber 4 = .ok (.ifCond .lt 35, 3) := by decide +kernel
theorem dX6_addNumber_7 : decode cX6_addNumber 7 = .ok (.aload_n 0, 1) := by decide +kernel
theorem dX6_addNumber_8 : decode cX6_addNumber 8 = .ok (.getfield 11, 3) := by decide +kernel
theorem dX6_addNumber_11 : decode cX6_addNumber 11 = .ok (.aload_n 0, 1) := by decide +kernel
theorem dX6_addNumber_12 : decode cX6_addNumber 12 = .ok (.getfield 28, 3) := by decide +kernel
theorem dX6_addNumber_15 : decode cX6_addNumber 15 = .ok (.iload_n 1, 1) := by decide +kernel
theorem dX6_addNumber_16 : decode cX6_addNumber 16 = .ok (.iload_n 2, 1) := by decide +kernel
theorem dX6_addNumber_17 : decode cX6_addNumber 17 = .ok (.ishr, 1) := by decide +kernel
theorem dX6_addNumber_18 : decode cX6_addNumber 18 = .ok (.sipush 255, 3) := by decide +kernel
theorem dX6_addNumber_21 : decode cX6_addNumber 21 = .ok (.iand, 1) := by decide +kernel
theorem dX6_addNumber_22 : decode cX6_addNumber 22 = .ok (.iastore, 1) := by decide +kernel
theorem dX6_addNumber_23 : decode cX6_addNumber 23 = .ok (.aload_n 0, 1) := by decide +kernel
theorem dX6_addNumber_24 : decode cX6_addNumber 24 = .ok (.dup, 1) := by decide +kernel
theorem dX6_addNumber_25 : decode cX6_addNumber 25 = .ok (.getfield 28, 3) := by decide +kernel
theorem dX6_addNumber_28 : decode cX6_addNumber 28 = .ok (.iconst 1, 1) := by decide +kernel
theorem dX6_addNumber_29 : decode cX6_addNumber 29 = .ok (.iadd, 1) := by decide +kernel
theorem dX6_addNumber_30 : decode cX6_addNumber 30 = .ok (.putfield 28, 3) := by decide +kernel
theorem dX6_addNumber_33 : decode cX6_addNumber 33 = .ok (.iinc 2 (-8), 3) := by decide +kernel
theorem dX6_addNumber_36 : decode cX6_addNumber 36 = .ok (.goto (-33), 3) := by decide +kernel
theorem dX6_addNumber_39 : decode cX6_addNumber 39 = .ok (.return_, 1) := by decide +kernel
def w_X6_addNumber_39  (h : AH) (Q : AH → Prop) : Prop :=
  Q h
def w_X6_addNumber_3  (x39 : AH → Prop) (k : Int32 → AH → Prop) (v0 : Nat) (v1 : Int32) (v2 : Int32) (h : AH) (Q : AH → Prop) : Prop :=
  br (v2 < 0) (
    x39  h) (
    fN h v0 6 0 fun a1 =>
    fI h v0 6 1 fun x2 =>
    tI h a1 x2 ((v1 >>> (v2 &&& 31)) &&& (255 : Int32)) fun h =>
    fI h v0 6 1 fun x3 =>
    uI h v0 6 1 (x3 + (1 : Int32)) fun h =>
    k (v2 + (-8)) h)
def w_X6_addNumber  (v0 : Nat) (v1 : Int32) (h : AH) (Q : AH → Prop) : Prop :=
  lp (fun (k2 : Int32 × AH → Prop) (s2 : Int32 × AH) => w_X6_addNumber_3  (fun  h => w_X6_addNumber_39  h Q) (fun (y2 : Int32) h => k2 (y2, h)) v0 v1 s2.1 s2.2 Q) ((24 : Int32), h)
set_option maxRecDepth 100000 in
set_option maxHeartbeats 4000000 in
theorem s_X6_addNumber_39 {p : Program} {l : Launch} {e : Env} {s : State} {m : MethodId} {args : Array Value} {below : List Frame} {meth : Method} {c : Code} {g : GG}  {Q : AH → Prop}  (C : CXT p l s m args meth c RX6 cX6_addNumber 3 g) (hr : meth.sig.returnType = none)  : ∀  (h : AH), w_X6_addNumber_39  h Q → V p l e s m args below meth c g 0 0 0 3 0 0 (MQ below (QCx g (QV Q)) args s 0 0 (gA g)) 39 [] [] h := by
  intro  h hw
  exact (rt_MQ C _).2.2.1 _ _ _ _ _ hr dX6_addNumber_39 (by decide) (by decide) ⟨rfl, hw⟩
set_option maxRecDepth 100000 in
set_option maxHeartbeats 4000000 in
theorem s_X6_addNumber_3 {p : Program} {l : Launch} {e : Env} {s : State} {m : MethodId} {args : Array Value} {below : List Frame} {meth : Method} {c : Code} {g : GG} {v0 : Nat} {v1 : Int32} {Q : AH → Prop} {x39 : AH → Prop} {k : Int32 → AH → Prop} (C : CXT p l s m args meth c RX6 cX6_addNumber 3 g) (hr : meth.sig.returnType = none) (hx39 : ∀  (h : AH), x39  h → V p l e s m args below meth c g 0 0 0 3 0 0 (MQ below (QCx g (QV Q)) args s 0 0 (gA g)) 39 [] [] h) (hk : ∀ (y2 : Int32) (h : AH), k y2 h → V p l e s m args below meth c g 0 0 0 3 0 0 (MQ below (QCx g (QV Q)) args s 0 0 (gA g)) 3 [(0, .ref v0), (1, .int v1), (2, .int y2)] [] h) : ∀ (v2 : Int32) (h : AH), w_X6_addNumber_3  x39 k v0 v1 v2 h Q → V p l e s m args below meth c g 0 0 0 3 0 0 (MQ below (QCx g (QV Q)) args s 0 0 (gA g)) 3 [(0, .ref v0), (1, .int v1), (2, .int v2)] [] h := by
  intro v2 h hw
  refine v_iload_n C dX6_addNumber_3 2 rfl rfl ?_
  refine v_if_lt (tgt := 39) C dX6_addNumber_4 (by decide) (fun c_4 => ?_) (fun c_4 => ?_)
  · have hw := hw.1 c_4
    refine v_sub [] rfl ?_
    exact hx39  _ hw
  · have hw := hw.2 c_4
    refine v_aload_n C dX6_addNumber_7 0 rfl rfl ?_
    refine w_getN C fl_X6_11 dX6_addNumber_8 rfl hw (fun a1 hw => ?_)
    refine v_aload_n C dX6_addNumber_11 0 rfl rfl ?_
    refine w_getI C fl_X6_28 dX6_addNumber_12 rfl hw (fun x2 hw => ?_)
    refine v_iload_n C dX6_addNumber_15 1 rfl rfl ?_
    refine v_iload_n C dX6_addNumber_16 2 rfl rfl ?_
    refine v_ishr C dX6_addNumber_17 ?_
    refine v_sipush (v := 255) C dX6_addNumber_18 (by decide) ?_
    refine v_iand C dX6_addNumber_21 ?_
    refine w_iastore C dX6_addNumber_22 hw (fun h hw => ?_)
    refine v_aload_n C dX6_addNumber_23 0 rfl rfl ?_
    refine v_dup C dX6_addNumber_24 rfl ?_
    refine w_getI C fl_X6_28 dX6_addNumber_25 rfl hw (fun x3 hw => ?_)
    refine v_iconst (v := 1) C dX6_addNumber_28 (by decide) ?_
    refine v_iadd C dX6_addNumber_29 ?_
    refine w_putI C fp_X6_28 (Or.inl rfl) dX6_addNumber_30 hw (fun h hw => ?_)
    refine v_iinc (v := -8) (ls' := [(2, .int (v2 + (-8))), (0, .ref v0), (1, .int v1)]) C dX6_addNumber_33 2 rfl (by decide) (by decide) rfl ?_
    refine v_goto (tgt := 3) C dX6_addNumber_36 (by decide) ?_
    refine v_sub [1, 2, 0] rfl ?_
    exact hk _ _ hw
set_option maxRecDepth 100000 in
set_option maxHeartbeats 4000000 in
theorem s_X6_addNumber {l : Launch}  {v0 : Nat} {v1 : Int32} {h : AH} {Q : AH → Prop}  (hw : w_X6_addNumber  v0 v1 h Q) : CT l yX6_addNumber cX6_addNumber 3 none 0 0 0 [.ref v0, .int v1] h (QV Q) := by
  refine CT.of (by decide) ⟨rfl, ⟨rfl, trivial⟩⟩ (Nat.le_of_ble_eq_true rfl) ?_
  intro p e s m args below meth c g C hr hin
  refine v_eq (pc' := 0) (ls' := [(0, .ref v0), (1, .int v1)]) rfl rfl rfl rfl ?_
  refine v_bipush (v := 24) C dX6_addNumber_0 (by decide) ?_
  refine v_istore_n (ls' := [(2, .int (24 : Int32)), (0, .ref v0), (1, .int v1)]) C dX6_addNumber_2 rfl (by decide) rfl ?_
  refine v_sub [1, 2, 0] rfl ?_
  refine lp_walk (P := fun (s' : Int32 × AH) => V p l e s m args below meth c g 0 0 0 3 0 0 (MQ below (QCx g (QV Q)) args s 0 0 (gA g)) 3 [(0, .ref v0), (1, .int v1), (2, .int (s'.1))] [] s'.2) (fun k2 hk2 s' hw => ?_) ((24 : Int32), h) hw
  exact s_X6_addNumber_3 C hr (fun  h hw => s_X6_addNumber_39 C hr   h hw) (fun y2 h hw => hk2 (y2, h) hw) _ _ hw
-- GrassField$Reader.addStep(II)V
theorem dX6_addStep_0 : decode cX6_addStep 0 = .ok (.aload_n 0, 1) := by decide +kernel
theorem dX6_addStep_1 : decode cX6_addStep 1 = .ok (.getfield 33, 3) := by decide +kernel
theorem dX6_addStep_4 : decode cX6_addStep 4 = .ok (.sipush 401, 3) := by decide +kernel
theorem dX6_addStep_7 : decode cX6_addStep 7 = .ok (.if_icmp .ge 29, 3) := by decide +kernel
theorem dX6_addStep_10 : decode cX6_addStep 10 = .ok (.aload_n 0, 1) := by decide +kernel
theorem dX6_addStep_11 : decode cX6_addStep 11 = .ok (.getfield 25, 3) := by decide +kernel
theorem dX6_addStep_14 : decode cX6_addStep 14 = .ok (.aload_n 0, 1) := by decide +kernel
theorem dX6_addStep_15 : decode cX6_addStep 15 = .ok (.getfield 33, 3) := by decide +kernel
theorem dX6_addStep_18 : decode cX6_addStep 18 = .ok (.iload_n 1, 1) := by decide +kernel
theorem dX6_addStep_19 : decode cX6_addStep 19 = .ok (.sipush 1000, 3) := by decide +kernel
theorem dX6_addStep_22 : decode cX6_addStep 22 = .ok (.imul, 1) := by decide +kernel
theorem dX6_addStep_23 : decode cX6_addStep 23 = .ok (.iload_n 2, 1) := by decide +kernel
theorem dX6_addStep_24 : decode cX6_addStep 24 = .ok (.iadd, 1) := by decide +kernel
theorem dX6_addStep_25 : decode cX6_addStep 25 = .ok (.iastore, 1) := by decide +kernel
theorem dX6_addStep_26 : decode cX6_addStep 26 = .ok (.aload_n 0, 1) := by decide +kernel
theorem dX6_addStep_27 : decode cX6_addStep 27 = .ok (.dup, 1) := by decide +kernel
theorem dX6_addStep_28 : decode cX6_addStep 28 = .ok (.getfield 33, 3) := by decide +kernel
theorem dX6_addStep_31 : decode cX6_addStep 31 = .ok (.iconst 1, 1) := by decide +kernel
theorem dX6_addStep_32 : decode cX6_addStep 32 = .ok (.iadd, 1) := by decide +kernel
theorem dX6_addStep_33 : decode cX6_addStep 33 = .ok (.putfield 33, 3) := by decide +kernel
theorem dX6_addStep_36 : decode cX6_addStep 36 = .ok (.return_, 1) := by decide +kernel
def w_X6_addStep_36  (h : AH) (Q : AH → Prop) : Prop :=
  Q h
def w_X6_addStep  (v0 : Nat) (v1 : Int32) (v2 : Int32) (h : AH) (Q : AH → Prop) : Prop :=
  fI h v0 6 9 fun x1 =>
  br ((401 : Int32) ≤ x1) (
    w_X6_addStep_36  h Q) (
    fN h v0 6 8 fun a2 =>
    fI h v0 6 9 fun x3 =>
    tI h a2 x3 ((v1 * (1000 : Int32)) + v2) fun h =>
    fI h v0 6 9 fun x4 =>
    uI h v0 6 9 (x4 + (1 : Int32)) fun h =>
    w_X6_addStep_36  h Q)
set_option maxRecDepth 100000 in
set_option maxHeartbeats 4000000 in
theorem s_X6_addStep_36 {p : Program} {l : Launch} {e : Env} {s : State} {m : MethodId} {args : Array Value} {below : List Frame} {meth : Method} {c : Code} {g : GG}  {Q : AH → Prop}  (C : CXT p l s m args meth c RX6 cX6_addStep 3 g) (hr : meth.sig.returnType = none)  : ∀  (h : AH), w_X6_addStep_36  h Q → V p l e s m args below meth c g 0 0 0 3 0 0 (MQ below (QCx g (QV Q)) args s 0 0 (gA g)) 36 [] [] h := by
  intro  h hw
  exact (rt_MQ C _).2.2.1 _ _ _ _ _ hr dX6_addStep_36 (by decide) (by decide) ⟨rfl, hw⟩
set_option maxRecDepth 100000 in
set_option maxHeartbeats 4000000 in
theorem s_X6_addStep {l : Launch}  {v0 : Nat} {v1 : Int32} {v2 : Int32} {h : AH} {Q : AH → Prop}  (hw : w_X6_addStep  v0 v1 v2 h Q) : CT l yX6_addStep cX6_addStep 3 none 0 0 0 [.ref v0, .int v1, .int v2] h (QV Q) := by
  refine CT.of (by decide) ⟨rfl, ⟨rfl, ⟨rfl, trivial⟩⟩⟩ (Nat.le_of_ble_eq_true rfl) ?_
  intro p e s m args below meth c g C hr hin
  refine v_eq (pc' := 0) (ls' := [(0, .ref v0), (1, .int v1), (2, .int v2)]) rfl rfl rfl rfl ?_
  refine v_aload_n C dX6_addStep_0 0 rfl rfl ?_
  refine w_getI C fl_X6_33 dX6_addStep_1 rfl hw (fun x1 hw => ?_)
  refine v_sipush (v := 401) C dX6_addStep_4 (by decide) ?_
  refine v_icmp_ge (tgt := 36) C dX6_addStep_7 (by decide) (fun c_7 => ?_) (fun c_7 => ?_)
  · have hw := hw.1 c_7
    refine v_sub [] rfl ?_
    exact s_X6_addStep_36 C hr   _ hw
  · have hw := hw.2 c_7
    refine v_aload_n C dX6_addStep_10 0 rfl rfl ?_
    refine w_getN C fl_X6_25 dX6_addStep_11 rfl hw (fun a2 hw => ?_)
    refine v_aload_n C dX6_addStep_14 0 rfl rfl ?_
    refine w_getI C fl_X6_33 dX6_addStep_15 rfl hw (fun x3 hw => ?_)
    refine v_iload_n C dX6_addStep_18 1 rfl rfl ?_
    refine v_sipush (v := 1000) C dX6_addStep_19 (by decide) ?_
    refine v_imul C dX6_addStep_22 ?_
    refine v_iload_n C dX6_addStep_23 2 rfl rfl ?_
    refine v_iadd C dX6_addStep_24 ?_
    refine w_iastore C dX6_addStep_25 hw (fun h hw => ?_)
    refine v_aload_n C dX6_addStep_26 0 rfl rfl ?_
    refine v_dup C dX6_addStep_27 rfl ?_
    refine w_getI C fl_X6_33 dX6_addStep_28 rfl hw (fun x4 hw => ?_)
    refine v_iconst (v := 1) C dX6_addStep_31 (by decide) ?_
    refine v_iadd C dX6_addStep_32 ?_
    refine w_putI C fp_X6_33 (Or.inl rfl) dX6_addStep_33 hw (fun h hw => ?_)
    refine v_sub [] rfl ?_
    exact s_X6_addStep_36 C hr   _ hw
-- GrassField$Reader.isByteIn(ICC)Z
theorem dX6_isByteIn_0 : decode cX6_isByteIn 0 = .ok (.iload_n 1, 1) := by decide +kernel
theorem dX6_isByteIn_1 : decode cX6_isByteIn 1 = .ok (.aload_n 0, 1) := by decide +kernel
theorem dX6_isByteIn_2 : decode cX6_isByteIn 2 = .ok (.getfield 28, 3) := by decide +kernel
theorem dX6_isByteIn_5 : decode cX6_isByteIn 5 = .ok (.if_icmp .ge 27, 3) := by decide +kernel
theorem dX6_isByteIn_8 : decode cX6_isByteIn 8 = .ok (.aload_n 0, 1) := by decide +kernel
theorem dX6_isByteIn_9 : decode cX6_isByteIn 9 = .ok (.getfield 11, 3) := by decide +kernel
theorem dX6_isByteIn_12 : decode cX6_isByteIn 12 = .ok (.iload_n 1, 1) := by decide +kernel
theorem dX6_isByteIn_13 : decode cX6_isByteIn 13 = .ok (.iaload, 1) := by decide +kernel
theorem dX6_isByteIn_14 : decode cX6_isByteIn 14 = .ok (.iload_n 2, 1) := by decide +kernel
theorem dX6_isByteIn_15 : decode cX6_isByteIn 15 = .ok (.if_icmp .lt 17, 3) := by decide +kernel
theorem dX6_isByteIn_18 : decode cX6_isByteIn 18 = .ok (.aload_n 0, 1) := by decide +kernel
theorem dX6_isByteIn_19 : decode cX6_isByteIn 19 = .ok (.getfield 11, 3) := by decide +kernel
theorem dX6_isByteIn_22 : decode cX6_isByteIn 22 = .ok (.iload_n 1, 1) := by decide +kernel
theorem dX6_isByteIn_23 : decode cX6_isByteIn 23 = .ok (.iaload, 1) := by decide +kernel
theorem dX6_isByteIn_24 : decode cX6_isByteIn 24 = .ok (.iload_n 3, 1) := by decide +kernel
theorem dX6_isByteIn_25 : decode cX6_isByteIn 25 = .ok (.if_icmp .gt 7, 3) := by decide +kernel
theorem dX6_isByteIn_28 : decode cX6_isByteIn 28 = .ok (.iconst 1, 1) := by decide +kernel
theorem dX6_isByteIn_29 : decode cX6_isByteIn 29 = .ok (.goto 4, 3) := by decide +kernel
theorem dX6_isByteIn_32 : decode cX6_isByteIn 32 = .ok (.iconst 0, 1) := by decide +kernel
theorem dX6_isByteIn_33 : decode cX6_isByteIn 33 = .ok (.ireturn, 1) := by decide +kernel
def w_X6_isByteIn_33  (t0 : Int32) (h : AH) (Q : Int32 → AH → Prop) : Prop :=
  z1 t0 (Q t0 h)
def w_X6_isByteIn_32  (h : AH) (Q : Int32 → AH → Prop) : Prop :=
  w_X6_isByteIn_33 (0 : Int32) h Q
def w_X6_isByteIn  (v0 : Nat) (v1 : Int32) (v2 : Int32) (v3 : Int32) (h : AH) (Q : Int32 → AH → Prop) : Prop :=
  fI h v0 6 1 fun x1 =>
  br (x1 ≤ v1) (
    w_X6_isByteIn_32  h Q) (
    fN h v0 6 0 fun a2 =>
    aI h a2 v1 fun x3 =>
    br (x3 < v2) (
      w_X6_isByteIn_32  h Q) (
      fN h v0 6 0 fun a4 =>
      aI h a4 v1 fun x5 =>
      br (v3 < x5) (
        w_X6_isByteIn_32  h Q) (
        w_X6_isByteIn_33 (1 : Int32) h Q)))
set_option maxRecDepth 100000 in
set_option maxHeartbeats 4000000 in
theorem s_X6_isByteIn_33 {p : Program} {l : Launch} {e : Env} {s : State} {m : MethodId} {args : Array Value} {below : List Frame} {meth : Method} {c : Code} {g : GG}  {Q : Int32 → AH → Prop}  (C : CXT p l s m args meth c RX6 cX6_isByteIn 4 g) (hr : meth.sig.returnType = (some .boolean))  : ∀ (t0 : Int32) (h : AH), w_X6_isByteIn_33  t0 h Q → V p l e s m args below meth c g 0 0 0 4 0 0 (MQ below (QCx g (QI Q)) args s 0 0 (gA g)) 33 [] [.int t0] h := by
  intro t0 h hw
  exact (rt_MQ C _).2.1 _ _ _ _ _ _ _ hr (by rcases hw.1 with z | z <;> rw [z] <;> rfl) dX6_isByteIn_33 (by decide) (by decide) ⟨_, rfl, hw.2⟩
set_option maxRecDepth 100000 in
set_option maxHeartbeats 4000000 in
theorem s_X6_isByteIn_32 {p : Program} {l : Launch} {e : Env} {s : State} {m : MethodId} {args : Array Value} {below : List Frame} {meth : Method} {c : Code} {g : GG}  {Q : Int32 → AH → Prop}  (C : CXT p l s m args meth c RX6 cX6_isByteIn 4 g) (hr : meth.sig.returnType = (some .boolean))  : ∀  (h : AH), w_X6_isByteIn_32  h Q → V p l e s m args below meth c g 0 0 0 4 0 0 (MQ below (QCx g (QI Q)) args s 0 0 (gA g)) 32 [] [] h := by
  intro  h hw
  refine v_iconst (v := 0) C dX6_isByteIn_32 (by decide) ?_
  exact s_X6_isByteIn_33 C hr  _ _ hw
set_option maxRecDepth 100000 in
set_option maxHeartbeats 4000000 in
theorem s_X6_isByteIn {l : Launch}  {v0 : Nat} {v1 : Int32} {v2 : Int32} {v3 : Int32} {h : AH} {Q : Int32 → AH → Prop}  (hw : w_X6_isByteIn  v0 v1 v2 v3 h Q) : CT l yX6_isByteIn cX6_isByteIn 4 (some .boolean) 0 0 0 [.ref v0, .int v1, .int v2, .int v3] h (QI Q) := by
  refine CT.of (by decide) ⟨rfl, ⟨rfl, ⟨rfl, ⟨rfl, trivial⟩⟩⟩⟩ (Nat.le_of_ble_eq_true rfl) ?_
  intro p e s m args below meth c g C hr hin
  refine v_eq (pc' := 0) (ls' := [(0, .ref v0), (1, .int v1), (2, .int v2), (3, .int v3)]) rfl rfl rfl rfl ?_
  refine v_iload_n C dX6_isByteIn_0 1 rfl rfl ?_
  refine v_aload_n C dX6_isByteIn_1 0 rfl rfl ?_
  refine w_getI C fl_X6_28 dX6_isByteIn_2 rfl hw (fun x1 hw => ?_)
  refine v_icmp_ge (tgt := 32) C dX6_isByteIn_5 (by decide) (fun c_5 => ?_) (fun c_5 => ?_)
  · have hw := hw.1 c_5
    refine v_sub [] rfl ?_
    exact s_X6_isByteIn_32 C hr   _ hw
  · have hw := hw.2 c_5
    refine v_aload_n C dX6_isByteIn_8 0 rfl rfl ?_
    refine w_getN C fl_X6_11 dX6_isByteIn_9 rfl hw (fun a2 hw => ?_)
    refine v_iload_n C dX6_isByteIn_12 1 rfl rfl ?_
    refine w_iaload C dX6_isByteIn_13 hw (fun x3 hw => ?_)
    refine v_iload_n C dX6_isByteIn_14 2 rfl rfl ?_
    refine v_icmp_lt (tgt := 32) C dX6_isByteIn_15 (by decide) (fun c_15 => ?_) (fun c_15 => ?_)
    · have hw := hw.1 c_15
      refine v_sub [] rfl ?_
      exact s_X6_isByteIn_32 C hr   _ hw
    · have hw := hw.2 c_15
      refine v_aload_n C dX6_isByteIn_18 0 rfl rfl ?_
      refine w_getN C fl_X6_11 dX6_isByteIn_19 rfl hw (fun a4 hw => ?_)
      refine v_iload_n C dX6_isByteIn_22 1 rfl rfl ?_
      refine w_iaload C dX6_isByteIn_23 hw (fun x5 hw => ?_)
      refine v_iload_n C dX6_isByteIn_24 3 rfl rfl ?_
      refine v_icmp_gt (tgt := 32) C dX6_isByteIn_25 (by decide) (fun c_25 => ?_) (fun c_25 => ?_)
      · have hw := hw.1 c_25
        refine v_sub [] rfl ?_
        exact s_X6_isByteIn_32 C hr   _ hw
      · have hw := hw.2 c_25
        refine v_iconst (v := 1) C dX6_isByteIn_28 (by decide) ?_
        refine v_goto (tgt := 33) C dX6_isByteIn_29 (by decide) ?_
        refine v_sub [] rfl ?_
        exact s_X6_isByteIn_33 C hr  _ _ hw
-- GrassField$Reader.behind(ICC)I
theorem dX6_behind_0 : decode cX6_behind 0 = .ok (.iload_n 1, 1) := by decide +kernel
theorem dX6_behind_1 : decode cX6_behind 1 = .ok (.istore 4, 2) := by decide +kernel
theorem dX6_behind_3 : decode cX6_behind 3 = .ok (.iconst 0, 1) := by decide +kernel
theorem dX6_behind_4 : decode cX6_behind 4 = .ok (.istore 5, 2) := by decide +kernel
theorem dX6_behind_6 : decode cX6_behind 6 = .ok (.iload 5, 2) := by decide +kernel
theorem dX6_behind_8 : decode cX6_behind 8 = .ok (.sipush 400, 3) := by decide +kernel
theorem dX6_behind_11 : decode cX6_behind 11 = .ok (.if_icmp .ge 23, 3) := by decide +kernel
theorem dX6_behind_14 : decode cX6_behind 14 = .ok (.aload_n 0, 1) := by decide +kernel
theorem dX6_behind_15 : decode cX6_behind 15 = .ok (.iload 4, 2) := by decide +kernel
theorem dX6_behind_17 : decode cX6_behind 17 = .ok (.iload_n 2, 1) := by decide +kernel
theorem dX6_behind_18 : decode cX6_behind 18 = .ok (.iload_n 3, 1) := by decide +kernel
theorem dX6_behind_19 : decode cX6_behind 19 = .ok (.invokevirtual 98, 3) := by decide +kernel
theorem dX6_behind_22 : decode cX6_behind 22 = .ok (.ifCond .eq 12, 3) := by decide +kernel
theorem dX6_behind_25 : decode cX6_behind 25 = .ok (.iinc 4 1, 3) := by decide +kernel
theorem dX6_behind_28 : decode cX6_behind 28 = .ok (.iinc 5 1, 3) := by decide +kernel
theorem dX6_behind_31 : decode cX6_behind 31 = .ok (.goto (-25), 3) := by decide +kernel
theorem dX6_behind_34 : decode cX6_behind 34 = .ok (.iload 4, 2) := by decide +kernel
theorem dX6_behind_36 : decode cX6_behind 36 = .ok (.ireturn, 1) := by decide +kernel
def w_X6_behind_34  (v4 : Int32) (h : AH) (Q : Int32 → AH → Prop) : Prop :=
  Q v4 h
def w_X6_behind_6  (x34 : Int32 → AH → Prop) (k : Int32 → Int32 → AH → Prop) (v0 : Nat) (v2 : Int32) (v3 : Int32) (v4 : Int32) (v5 : Int32) (h : AH) (Q : Int32 → AH → Prop) : Prop :=
  br ((400 : Int32) ≤ v5) (
    x34 v4 h) (
    vr h v0 6 (
    w_X6_isByteIn v0 v4 v2 v3 h (fun x1 h =>
    br (x1 = 0) (
      x34 v4 h) (
      k (v4 + 1) (v5 + 1) h))))
def w_X6_behind  (v0 : Nat) (v1 : Int32) (v2 : Int32) (v3 : Int32) (h : AH) (Q : Int32 → AH → Prop) : Prop :=
  lp (fun (k2 : Int32 × Int32 × AH → Prop) (s2 : Int32 × Int32 × AH) => w_X6_behind_6  (fun (y4 : Int32) h => w_X6_behind_34 y4 h Q) (fun (y4 : Int32) (y5 : Int32) h => k2 (y4, y5, h)) v0 v2 v3 s2.1 s2.2.1 s2.2.2 Q) (v1, (0 : Int32), h)
set_option maxRecDepth 100000 in
set_option maxHeartbeats 4000000 in
theorem s_X6_behind_34 {p : Program} {l : Launch} {e : Env} {s : State} {m : MethodId} {args : Array Value} {below : List Frame} {meth : Method} {c : Code} {g : GG}  {Q : Int32 → AH → Prop}  (C : CXT p l s m args meth c RX6 cX6_behind 6 g) (hr : meth.sig.returnType = (some .int))  : ∀ (v4 : Int32) (h : AH), w_X6_behind_34  v4 h Q → V p l e s m args below meth c g 1 0 0 6 0 0 (MQ below (QCx g (QI Q)) args s 0 0 (gA g)) 34 [(4, .int v4)] [] h := by
  intro v4 h hw
  refine v_iload C dX6_behind_34 0 rfl ?_
  exact (rt_MQ C _).1 _ _ _ _ _ _ hr dX6_behind_36 (by decide) (by decide) ⟨_, rfl, hw⟩
set_option maxRecDepth 100000 in
set_option maxHeartbeats 4000000 in
theorem s_X6_behind_6 {p : Program} {l : Launch} {e : Env} {s : State} {m : MethodId} {args : Array Value} {below : List Frame} {meth : Method} {c : Code} {g : GG} {v0 : Nat} {v2 : Int32} {v3 : Int32} {Q : Int32 → AH → Prop} {x34 : Int32 → AH → Prop} {k : Int32 → Int32 → AH → Prop} (C : CXT p l s m args meth c RX6 cX6_behind 6 g) (hr : meth.sig.returnType = (some .int)) (hx34 : ∀ (y4 : Int32) (h : AH), x34 y4 h → V p l e s m args below meth c g 1 0 0 6 0 0 (MQ below (QCx g (QI Q)) args s 0 0 (gA g)) 34 [(4, .int y4)] [] h) (hk : ∀ (y4 : Int32) (y5 : Int32) (h : AH), k y4 y5 h → V p l e s m args below meth c g 1 0 0 6 0 0 (MQ below (QCx g (QI Q)) args s 0 0 (gA g)) 6 [(0, .ref v0), (2, .int v2), (3, .int v3), (4, .int y4), (5, .int y5)] [] h) : ∀ (v4 : Int32) (v5 : Int32) (h : AH), w_X6_behind_6  x34 k v0 v2 v3 v4 v5 h Q → V p l e s m args below meth c g 1 0 0 6 0 0 (MQ below (QCx g (QI Q)) args s 0 0 (gA g)) 6 [(0, .ref v0), (2, .int v2), (3, .int v3), (4, .int v4), (5, .int v5)] [] h := by
  intro v4 v5 h hw
  refine v_iload C dX6_behind_6 4 rfl ?_
  refine v_sipush (v := 400) C dX6_behind_8 (by decide) ?_
  refine v_icmp_ge (tgt := 34) C dX6_behind_11 (by decide) (fun c_11 => ?_) (fun c_11 => ?_)
  · have hw := hw.1 c_11
    refine v_sub [3] rfl ?_
    exact hx34 _ _ hw
  · have hw := hw.2 c_11
    refine v_aload_n C dX6_behind_14 0 rfl rfl ?_
    refine v_iload C dX6_behind_15 3 rfl ?_
    refine v_iload_n C dX6_behind_17 1 rfl rfl ?_
    refine v_iload_n C dX6_behind_18 2 rfl rfl ?_
    refine w_callVi (st := []) C cl_X6_98 im_X6_isByteIn se_X6_isByteIn rfl hw.1 (s_X6_isByteIn hw.2) rfl dX6_behind_19 rfl (by decide) (by decide) (by decide) (by decide) (by decide) (fun x1 h hw => ?_)
    refine v_if_eq (tgt := 34) C dX6_behind_22 (by decide) (fun c_22 => ?_) (fun c_22 => ?_)
    · have hw := hw.1 c_22
      refine v_sub [3] rfl ?_
      exact hx34 _ _ hw
    · have hw := hw.2 c_22
      refine v_iinc (v := 1) (ls' := [(4, .int (v4 + 1)), (0, .ref v0), (2, .int v2), (3, .int v3), (5, .int v5)]) C dX6_behind_25 3 rfl (by decide) (by decide) rfl ?_
      refine v_iinc (v := 1) (ls' := [(5, .int (v5 + 1)), (4, .int (v4 + 1)), (0, .ref v0), (2, .int v2), (3, .int v3)]) C dX6_behind_28 4 rfl (by decide) (by decide) rfl ?_
      refine v_goto (tgt := 6) C dX6_behind_31 (by decide) ?_
      refine v_sub [2, 3, 4, 1, 0] rfl ?_
      exact hk _ _ _ hw
set_option maxRecDepth 100000 in
set_option maxHeartbeats 4000000 in
theorem s_X6_behind {l : Launch}  {v0 : Nat} {v1 : Int32} {v2 : Int32} {v3 : Int32} {h : AH} {Q : Int32 → AH → Prop}  (hw : w_X6_behind  v0 v1 v2 v3 h Q) : CT l yX6_behind cX6_behind 6 (some .int) 1 0 0 [.ref v0, .int v1, .int v2, .int v3] h (QI Q) := by
  refine CT.of (by decide) ⟨rfl, ⟨rfl, ⟨rfl, ⟨rfl, trivial⟩⟩⟩⟩ (Nat.le_of_ble_eq_true rfl) ?_
  intro p e s m args below meth c g C hr hin
  refine v_eq (pc' := 0) (ls' := [(0, .ref v0), (1, .int v1), (2, .int v2), (3, .int v3)]) rfl rfl rfl rfl ?_
  refine v_iload_n C dX6_behind_0 1 rfl rfl ?_
  refine v_istore (ls' := [(4, .int v1), (0, .ref v0), (1, .int v1), (2, .int v2), (3, .int v3)]) C dX6_behind_1 (by decide) rfl ?_
  refine v_iconst (v := 0) C dX6_behind_3 (by decide) ?_
  refine v_istore (ls' := [(5, .int (0 : Int32)), (4, .int v1), (0, .ref v0), (1, .int v1), (2, .int v2), (3, .int v3)]) C dX6_behind_4 (by decide) rfl ?_
  refine v_sub [2, 4, 5, 1, 0] rfl ?_
  refine lp_walk (P := fun (s' : Int32 × Int32 × AH) => V p l e s m args below meth c g 1 0 0 6 0 0 (MQ below (QCx g (QI Q)) args s 0 0 (gA g)) 6 [(0, .ref v0), (2, .int v2), (3, .int v3), (4, .int (s'.1)), (5, .int (s'.2.1))] [] s'.2.2) (fun k2 hk2 s' hw => ?_) (v1, (0 : Int32), h) hw
  exact s_X6_behind_6 C hr (fun y4 h hw => s_X6_behind_34 C hr  _ h hw) (fun y4 y5 h hw => hk2 (y4, y5, h) hw) _ _ _ hw
-- GrassField$Reader.goOn()V
theorem dX6_goOn_0 : decode cX6_goOn 0 = .ok (.aload_n 0, 1) := by decide +kernel
theorem dX6_goOn_1 : decode cX6_goOn 1 = .ok (.getfield 43, 3) := by decide +kernel
theorem dX6_goOn_4 : decode cX6_goOn 4 = .ok (.ifCond .eq 36, 3) := by decide +kernel
theorem dX6_goOn_7 : decode cX6_goOn 7 = .ok (.aload_n 0, 1) := by decide +kernel
theorem dX6_goOn_8 : decode cX6_goOn 8 = .ok (.getfield 70, 3) := by decide +kernel
theorem dX6_goOn_11 : decode cX6_goOn 11 = .ok (.sipush 400, 3) := by decide +kernel
theorem dX6_goOn_14 : decode cX6_goOn 14 = .ok (.if_icmp .ge 26, 3) := by decide +kernel
theorem dX6_goOn_17 : decode cX6_goOn 17 = .ok (.aload_n 0, 1) := by decide +kernel
theorem dX6_goOn_18 : decode cX6_goOn 18 = .ok (.dup, 1) := by decide +kernel
theorem dX6_goOn_19 : decode cX6_goOn 19 = .ok (.getfield 70, 3) := by decide +kernel
theorem dX6_goOn_22 : decode cX6_goOn 22 = .ok (.iconst 1, 1) := by decide +kernel
theorem dX6_goOn_23 : decode cX6_goOn 23 = .ok (.iadd, 1) := by decide +kernel
theorem dX6_goOn_24 : decode cX6_goOn 24 = .ok (.putfield 70, 3) := by decide +kernel
theorem dX6_goOn_27 : decode cX6_goOn 27 = .ok (.aload_n 0, 1) := by decide +kernel
theorem dX6_goOn_28 : decode cX6_goOn 28 = .ok (.aload_n 0, 1) := by decide +kernel
theorem dX6_goOn_29 : decode cX6_goOn 29 = .ok (.getfield 19, 3) := by decide +kernel
theorem dX6_goOn_32 : decode cX6_goOn 32 = .ok (.aload_n 0, 1) := by decide +kernel
theorem dX6_goOn_33 : decode cX6_goOn 33 = .ok (.getfield 70, 3) := by decide +kernel
theorem dX6_goOn_36 : decode cX6_goOn 36 = .ok (.iaload, 1) := by decide +kernel
theorem dX6_goOn_37 : decode cX6_goOn 37 = .ok (.putfield 43, 3) := by decide +kernel
theorem dX6_goOn_40 : decode cX6_goOn 40 = .ok (.return_, 1) := by decide +kernel
def w_X6_goOn_40  (h : AH) (Q : AH → Prop) : Prop :=
  Q h
def w_X6_goOn  (v0 : Nat) (h : AH) (Q : AH → Prop) : Prop :=
  fI h v0 6 6 fun x1 =>
  br (x1 = 0) (
    w_X6_goOn_40  h Q) (
    fI h v0 6 5 fun x2 =>
    br ((400 : Int32) ≤ x2) (
      w_X6_goOn_40  h Q) (
      fI h v0 6 5 fun x3 =>
      uI h v0 6 5 (x3 + (1 : Int32)) fun h =>
      fN h v0 6 3 fun a4 =>
      fI h v0 6 5 fun x5 =>
      aI h a4 x5 fun x6 =>
      uI h v0 6 6 x6 fun h =>
      w_X6_goOn_40  h Q))
set_option maxRecDepth 100000 in
set_option maxHeartbeats 4000000 in
theorem s_X6_goOn_40 {p : Program} {l : Launch} {e : Env} {s : State} {m : MethodId} {args : Array Value} {below : List Frame} {meth : Method} {c : Code} {g : GG}  {Q : AH → Prop}  (C : CXT p l s m args meth c RX6 cX6_goOn 1 g) (hr : meth.sig.returnType = none)  : ∀  (h : AH), w_X6_goOn_40  h Q → V p l e s m args below meth c g 0 0 0 1 0 0 (MQ below (QCx g (QV Q)) args s 0 0 (gA g)) 40 [] [] h := by
  intro  h hw
  exact (rt_MQ C _).2.2.1 _ _ _ _ _ hr dX6_goOn_40 (by decide) (by decide) ⟨rfl, hw⟩
set_option maxRecDepth 100000 in
set_option maxHeartbeats 4000000 in
theorem s_X6_goOn {l : Launch}  {v0 : Nat} {h : AH} {Q : AH → Prop}  (hw : w_X6_goOn  v0 h Q) : CT l yX6_goOn cX6_goOn 1 none 0 0 0 [.ref v0] h (QV Q) := by
  refine CT.of (by decide) ⟨rfl, trivial⟩ (Nat.le_of_ble_eq_true rfl) ?_
  intro p e s m args below meth c g C hr hin
  refine v_eq (pc' := 0) (ls' := [(0, .ref v0)]) rfl rfl rfl rfl ?_
  refine v_aload_n C dX6_goOn_0 0 rfl rfl ?_
  refine w_getI C fl_X6_43 dX6_goOn_1 rfl hw (fun x1 hw => ?_)
  refine v_if_eq (tgt := 40) C dX6_goOn_4 (by decide) (fun c_4 => ?_) (fun c_4 => ?_)
  · have hw := hw.1 c_4
    refine v_sub [] rfl ?_
    exact s_X6_goOn_40 C hr   _ hw
  · have hw := hw.2 c_4
    refine v_aload_n C dX6_goOn_7 0 rfl rfl ?_
    refine w_getI C fl_X6_70 dX6_goOn_8 rfl hw (fun x2 hw => ?_)
    refine v_sipush (v := 400) C dX6_goOn_11 (by decide) ?_
    refine v_icmp_ge (tgt := 40) C dX6_goOn_14 (by decide) (fun c_14 => ?_) (fun c_14 => ?_)
    · have hw := hw.1 c_14
      refine v_sub [] rfl ?_
      exact s_X6_goOn_40 C hr   _ hw
    · have hw := hw.2 c_14
      refine v_aload_n C dX6_goOn_17 0 rfl rfl ?_
      refine v_dup C dX6_goOn_18 rfl ?_
      refine w_getI C fl_X6_70 dX6_goOn_19 rfl hw (fun x3 hw => ?_)
      refine v_iconst (v := 1) C dX6_goOn_22 (by decide) ?_
      refine v_iadd C dX6_goOn_23 ?_
      refine w_putI C fp_X6_70 (Or.inl rfl) dX6_goOn_24 hw (fun h hw => ?_)
      refine v_aload_n C dX6_goOn_27 0 rfl rfl ?_
      refine v_aload_n C dX6_goOn_28 0 rfl rfl ?_
      refine w_getN C fl_X6_19 dX6_goOn_29 rfl hw (fun a4 hw => ?_)
      refine v_aload_n C dX6_goOn_32 0 rfl rfl ?_
      refine w_getI C fl_X6_70 dX6_goOn_33 rfl hw (fun x5 hw => ?_)
      refine w_iaload C dX6_goOn_36 hw (fun x6 hw => ?_)
      refine w_putI C fp_X6_43 (Or.inl rfl) dX6_goOn_37 hw (fun h hw => ?_)
      refine v_sub [] rfl ?_
      exact s_X6_goOn_40 C hr   _ hw
-- GrassField$Reader.hasRoom()Z
theorem dX6_hasRoom_0 : decode cX6_hasRoom 0 = .ok (.aload_n 0, 1) := by decide +kernel
theorem dX6_hasRoom_1 : decode cX6_hasRoom 1 = .ok (.getfield 28, 3) := by decide +kernel
theorem dX6_hasRoom_4 : decode cX6_hasRoom 4 = .ok (.bipush 20, 2) := by decide +kernel
theorem dX6_hasRoom_6 : decode cX6_hasRoom 6 = .ok (.iadd, 1) := by decide +kernel
theorem dX6_hasRoom_7 : decode cX6_hasRoom 7 = .ok (.sipush 400, 3) := by decide +kernel
theorem dX6_hasRoom_10 : decode cX6_hasRoom 10 = .ok (.if_icmp .gt 7, 3) := by decide +kernel
theorem dX6_hasRoom_13 : decode cX6_hasRoom 13 = .ok (.iconst 1, 1) := by decide +kernel
theorem dX6_hasRoom_14 : decode cX6_hasRoom 14 = .ok (.goto 4, 3) := by decide +kernel
theorem dX6_hasRoom_17 : decode cX6_hasRoom 17 = .ok (.iconst 0, 1) := by decide +kernel
theorem dX6_hasRoom_18 : decode cX6_hasRoom 18 = .ok (.ireturn, 1) := by decide +kernel
def w_X6_hasRoom_18  (t0 : Int32) (h : AH) (Q : Int32 → AH → Prop) : Prop :=
  z1 t0 (Q t0 h)
def w_X6_hasRoom  (v0 : Nat) (h : AH) (Q : Int32 → AH → Prop) : Prop :=
  fI h v0 6 1 fun x1 =>
  br ((400 : Int32) < (x1 + (20 : Int32))) (
    w_X6_hasRoom_18 (0 : Int32) h Q) (
    w_X6_hasRoom_18 (1 : Int32) h Q)
set_option maxRecDepth 100000 in
set_option maxHeartbeats 4000000 in
theorem s_X6_hasRoom_18 {p : Program} {l : Launch} {e : Env} {s : State} {m : MethodId} {args : Array Value} {below : List Frame} {meth : Method} {c : Code} {g : GG}  {Q : Int32 → AH → Prop}  (C : CXT p l s m args meth c RX6 cX6_hasRoom 1 g) (hr : meth.sig.returnType = (some .boolean))  : ∀ (t0 : Int32) (h : AH), w_X6_hasRoom_18  t0 h Q → V p l e s m args below meth c g 0 0 0 1 0 0 (MQ below (QCx g (QI Q)) args s 0 0 (gA g)) 18 [] [.int t0] h := by
  intro t0 h hw
  exact (rt_MQ C _).2.1 _ _ _ _ _ _ _ hr (by rcases hw.1 with z | z <;> rw [z] <;> rfl) dX6_hasRoom_18 (by decide) (by decide) ⟨_, rfl, hw.2⟩
set_option maxRecDepth 100000 in
set_option maxHeartbeats 4000000 in
theorem s_X6_hasRoom {l : Launch}  {v0 : Nat} {h : AH} {Q : Int32 → AH → Prop}  (hw : w_X6_hasRoom  v0 h Q) : CT l yX6_hasRoom cX6_hasRoom 1 (some .boolean) 0 0 0 [.ref v0] h (QI Q) := by
  refine CT.of (by decide) ⟨rfl, trivial⟩ (Nat.le_of_ble_eq_true rfl) ?_
  intro p e s m args below meth c g C hr hin
  refine v_eq (pc' := 0) (ls' := [(0, .ref v0)]) rfl rfl rfl rfl ?_
  refine v_aload_n C dX6_hasRoom_0 0 rfl rfl ?_
  refine w_getI C fl_X6_28 dX6_hasRoom_1 rfl hw (fun x1 hw => ?_)
  refine v_bipush (v := 20) C dX6_hasRoom_4 (by decide) ?_
  refine v_iadd C dX6_hasRoom_6 ?_
  refine v_sipush (v := 400) C dX6_hasRoom_7 (by decide) ?_
  refine v_icmp_gt (tgt := 17) C dX6_hasRoom_10 (by decide) (fun c_10 => ?_) (fun c_10 => ?_)
  · have hw := hw.1 c_10
    refine v_iconst (v := 0) C dX6_hasRoom_17 (by decide) ?_
    refine v_sub [] rfl ?_
    exact s_X6_hasRoom_18 C hr  _ _ hw
  · have hw := hw.2 c_10
    refine v_iconst (v := 1) C dX6_hasRoom_13 (by decide) ?_
    refine v_goto (tgt := 18) C dX6_hasRoom_14 (by decide) ?_
    refine v_sub [] rfl ?_
    exact s_X6_hasRoom_18 C hr  _ _ hw
-- GrassField$Reader.numberIn(II)I
theorem dX6_numberIn_0 : decode cX6_numberIn 0 = .ok (.iload_n 2, 1) := by decide +kernel
theorem dX6_numberIn_1 : decode cX6_numberIn 1 = .ok (.iload_n 1, 1) := by decide +kernel
theorem dX6_numberIn_2 : decode cX6_numberIn 2 = .ok (.isub, 1) := by decide +kernel
theorem dX6_numberIn_3 : decode cX6_numberIn 3 = .ok (.iconst 3, 1) := by decide +kernel
theorem dX6_numberIn_4 : decode cX6_numberIn 4 = .ok (.if_icmp .le 5, 3) := by decide +kernel
theorem dX6_numberIn_7 : decode cX6_numberIn 7 = .ok (.iconst 1, 1) := by decide +kernel
theorem dX6_numberIn_8 : decode cX6_numberIn 8 = .ok (.ireturn, 1) := by decide +kernel
theorem dX6_numberIn_9 : decode cX6_numberIn 9 = .ok (.iconst 0, 1) := by decide +kernel
theorem dX6_numberIn_10 : decode cX6_numberIn 10 = .ok (.istore_n 3, 1) := by decide +kernel
theorem dX6_numberIn_11 : decode cX6_numberIn 11 = .ok (.iload_n 1, 1) := by decide +kernel
theorem dX6_numberIn_12 : decode cX6_numberIn 12 = .ok (.istore 4, 2) := by decide +kernel
theorem dX6_numberIn_14 : decode cX6_numberIn 14 = .ok (.iload 4, 2) := by decide +kernel
theorem dX6_numberIn_16 : decode cX6_numberIn 16 = .ok (.iload_n 2, 1) := by decide +kernel
theorem dX6_numberIn_17 : decode cX6_numberIn 17 = .ok (.if_icmp .ge 25, 3) := by decide +kernel
theorem dX6_numberIn_20 : decode cX6_numberIn 20 = .ok (.iload_n 3, 1) := by decide +kernel
theorem dX6_numberIn_21 : decode cX6_numberIn 21 = .ok (.bipush 10, 2) := by decide +kernel
theorem dX6_numberIn_23 : decode cX6_numberIn 23 = .ok (.imul, 1) := by decide +kernel
theorem dX6_numberIn_24 : decode cX6_numberIn 24 = .ok (.aload_n 0, 1) := by decide +kernel
theorem dX6_numberIn_25 : decode cX6_numberIn 25 = .ok (.getfield 11, 3) := by decide +kernel
theorem dX6_numberIn_28 : decode cX6_numberIn 28 = .ok (.iload 4, 2) := by decide +kernel
theorem dX6_numberIn_30 : decode cX6_numberIn 30 = .ok (.iaload, 1) := by decide +kernel
theorem dX6_numberIn_31 : decode cX6_numberIn 31 = .ok (.iadd, 1) := by decide +kernel
theorem dX6_numberIn_32 : decode cX6_numberIn 32 = .ok (.bipush 48, 2) := by decide +kernel
theorem dX6_numberIn_34 : decode cX6_numberIn 34 = .ok (.isub, 1) := by decide +kernel
theorem dX6_numberIn_35 : decode cX6_numberIn 35 = .ok (.istore_n 3, 1) := by decide +kernel
theorem dX6_numberIn_36 : decode cX6_numberIn 36 = .ok (.iinc 4 1, 3) := by decide +kernel
theorem dX6_numberIn_39 : decode cX6_numberIn 39 = .ok (.goto (-25), 3) := by decide +kernel
theorem dX6_numberIn_42 : decode cX6_numberIn 42 = .ok (.sipush 2000, 3) := by decide +kernel
theorem dX6_numberIn_45 : decode cX6_numberIn 45 = .ok (.iload_n 3, 1) := by decide +kernel
theorem dX6_numberIn_46 : decode cX6_numberIn 46 = .ok (.iadd, 1) := by decide +kernel
theorem dX6_numberIn_47 : decode cX6_numberIn 47 = .ok (.ireturn, 1) := by decide +kernel
def w_X6_numberIn_42  (v3 : Int32) (h : AH) (Q : Int32 → AH → Prop) : Prop :=
  Q ((2000 : Int32) + v3) h
def w_X6_numberIn_14  (x42 : Int32 → AH → Prop) (k : Int32 → Int32 → AH → Prop) (v0 : Nat) (v2 : Int32) (v3 : Int32) (v4 : Int32) (h : AH) (Q : Int32 → AH → Prop) : Prop :=
  br (v2 ≤ v4) (
    x42 v3 h) (
    fN h v0 6 0 fun a1 =>
    aI h a1 v4 fun x2 =>
    bd (((v3 * (10 : Int32)) + x2) - (48 : Int32)) fun x3 =>
    k x3 (v4 + 1) h)
def w_X6_numberIn  (v0 : Nat) (v1 : Int32) (v2 : Int32) (h : AH) (Q : Int32 → AH → Prop) : Prop :=
  br ((v2 - v1) ≤ (3 : Int32)) (
    lp (fun (k2 : Int32 × Int32 × AH → Prop) (s2 : Int32 × Int32 × AH) => w_X6_numberIn_14  (fun (y3 : Int32) h => w_X6_numberIn_42 y3 h Q) (fun (y3 : Int32) (y4 : Int32) h => k2 (y3, y4, h)) v0 v2 s2.1 s2.2.1 s2.2.2 Q) ((0 : Int32), v1, h)) (
    Q (1 : Int32) h)
set_option maxRecDepth 100000 in
set_option maxHeartbeats 4000000 in
theorem s_X6_numberIn_42 {p : Program} {l : Launch} {e : Env} {s : State} {m : MethodId} {args : Array Value} {below : List Frame} {meth : Method} {c : Code} {g : GG}  {Q : Int32 → AH → Prop}  (C : CXT p l s m args meth c RX6 cX6_numberIn 5 g) (hr : meth.sig.returnType = (some .int))  : ∀ (v3 : Int32) (h : AH), w_X6_numberIn_42  v3 h Q → V p l e s m args below meth c g 0 0 0 5 0 0 (MQ below (QCx g (QI Q)) args s 0 0 (gA g)) 42 [(3, .int v3)] [] h := by
  intro v3 h hw
  refine v_sipush (v := 2000) C dX6_numberIn_42 (by decide) ?_
  refine v_iload_n C dX6_numberIn_45 0 rfl rfl ?_
  refine v_iadd C dX6_numberIn_46 ?_
  exact (rt_MQ C _).1 _ _ _ _ _ _ hr dX6_numberIn_47 (by decide) (by decide) ⟨_, rfl, hw⟩
set_option maxRecDepth 100000 in
set_option maxHeartbeats 4000000 in
theorem s_X6_numberIn_14 {p : Program} {l : Launch} {e : Env} {s : State} {m : MethodId} {args : Array Value} {below : List Frame} {meth : Method} {c : Code} {g : GG} {v0 : Nat} {v2 : Int32} {Q : Int32 → AH → Prop} {x42 : Int32 → AH → Prop} {k : Int32 → Int32 → AH → Prop} (C : CXT p l s m args meth c RX6 cX6_numberIn 5 g) (hr : meth.sig.returnType = (some .int)) (hx42 : ∀ (y3 : Int32) (h : AH), x42 y3 h → V p l e s m args below meth c g 0 0 0 5 0 0 (MQ below (QCx g (QI Q)) args s 0 0 (gA g)) 42 [(3, .int y3)] [] h) (hk : ∀ (y3 : Int32) (y4 : Int32) (h : AH), k y3 y4 h → V p l e s m args below meth c g 0 0 0 5 0 0 (MQ below (QCx g (QI Q)) args s 0 0 (gA g)) 14 [(0, .ref v0), (2, .int v2), (3, .int y3), (4, .int y4)] [] h) : ∀ (v3 : Int32) (v4 : Int32) (h : AH), w_X6_numberIn_14  x42 k v0 v2 v3 v4 h Q → V p l e s m args below meth c g 0 0 0 5 0 0 (MQ below (QCx g (QI Q)) args s 0 0 (gA g)) 14 [(0, .ref v0), (2, .int v2), (3, .int v3), (4, .int v4)] [] h := by
  intro v3 v4 h hw
  refine v_iload C dX6_numberIn_14 3 rfl ?_
  refine v_iload_n C dX6_numberIn_16 1 rfl rfl ?_
  refine v_icmp_ge (tgt := 42) C dX6_numberIn_17 (by decide) (fun c_17 => ?_) (fun c_17 => ?_)
  · have hw := hw.1 c_17
    refine v_sub [2] rfl ?_
    exact hx42 _ _ hw
  · have hw := hw.2 c_17
    refine v_iload_n C dX6_numberIn_20 2 rfl rfl ?_
    refine v_bipush (v := 10) C dX6_numberIn_21 (by decide) ?_
    refine v_imul C dX6_numberIn_23 ?_
    refine v_aload_n C dX6_numberIn_24 0 rfl rfl ?_
    refine w_getN C fl_X6_11 dX6_numberIn_25 rfl hw (fun a1 hw => ?_)
    refine v_iload C dX6_numberIn_28 3 rfl ?_
    refine w_iaload C dX6_numberIn_30 hw (fun x2 hw => ?_)
    refine v_iadd C dX6_numberIn_31 ?_
    refine v_bipush (v := 48) C dX6_numberIn_32 (by decide) ?_
    refine v_isub C dX6_numberIn_34 ?_
    refine w_bd hw (fun x3 hw => ?_)
    refine v_istore_n (ls' := [(3, .int x3), (0, .ref v0), (2, .int v2), (4, .int v4)]) C dX6_numberIn_35 rfl (by decide) rfl ?_
    refine v_iinc (v := 1) (ls' := [(4, .int (v4 + 1)), (3, .int x3), (0, .ref v0), (2, .int v2)]) C dX6_numberIn_36 3 rfl (by decide) (by decide) rfl ?_
    refine v_goto (tgt := 14) C dX6_numberIn_39 (by decide) ?_
    refine v_sub [2, 3, 1, 0] rfl ?_
    exact hk _ _ _ hw
set_option maxRecDepth 100000 in
set_option maxHeartbeats 4000000 in
theorem s_X6_numberIn {l : Launch}  {v0 : Nat} {v1 : Int32} {v2 : Int32} {h : AH} {Q : Int32 → AH → Prop}  (hw : w_X6_numberIn  v0 v1 v2 h Q) : CT l yX6_numberIn cX6_numberIn 5 (some .int) 0 0 0 [.ref v0, .int v1, .int v2] h (QI Q) := by
  refine CT.of (by decide) ⟨rfl, ⟨rfl, ⟨rfl, trivial⟩⟩⟩ (Nat.le_of_ble_eq_true rfl) ?_
  intro p e s m args below meth c g C hr hin
  refine v_eq (pc' := 0) (ls' := [(0, .ref v0), (1, .int v1), (2, .int v2)]) rfl rfl rfl rfl ?_
  refine v_iload_n C dX6_numberIn_0 2 rfl rfl ?_
  refine v_iload_n C dX6_numberIn_1 1 rfl rfl ?_
  refine v_isub C dX6_numberIn_2 ?_
  refine v_iconst (v := 3) C dX6_numberIn_3 (by decide) ?_
  refine v_icmp_le (tgt := 9) C dX6_numberIn_4 (by decide) (fun c_4 => ?_) (fun c_4 => ?_)
  · have hw := hw.1 c_4
    refine v_iconst (v := 0) C dX6_numberIn_9 (by decide) ?_
    refine v_istore_n (ls' := [(3, .int (0 : Int32)), (0, .ref v0), (1, .int v1), (2, .int v2)]) C dX6_numberIn_10 rfl (by decide) rfl ?_
    refine v_iload_n C dX6_numberIn_11 2 rfl rfl ?_
    refine v_istore (ls' := [(4, .int v1), (3, .int (0 : Int32)), (0, .ref v0), (1, .int v1), (2, .int v2)]) C dX6_numberIn_12 (by decide) rfl ?_
    refine v_sub [2, 4, 1, 0] rfl ?_
    refine lp_walk (P := fun (s' : Int32 × Int32 × AH) => V p l e s m args below meth c g 0 0 0 5 0 0 (MQ below (QCx g (QI Q)) args s 0 0 (gA g)) 14 [(0, .ref v0), (2, .int v2), (3, .int (s'.1)), (4, .int (s'.2.1))] [] s'.2.2) (fun k2 hk2 s' hw => ?_) ((0 : Int32), v1, h) hw
    exact s_X6_numberIn_14 C hr (fun y3 h hw => s_X6_numberIn_42 C hr  _ h hw) (fun y3 y4 h hw => hk2 (y3, y4, h) hw) _ _ _ hw
  · have hw := hw.2 c_4
    refine v_iconst (v := 1) C dX6_numberIn_7 (by decide) ?_
    exact (rt_MQ C _).1 _ _ _ _ _ _ hr dX6_numberIn_8 (by decide) (by decide) ⟨_, rfl, hw⟩
-- GrassField$Reader.wordIn(II)I
theorem dX6_wordIn_0 : decode cX6_wordIn 0 = .ok (.iconst 0, 1) := by decide +kernel
theorem dX6_wordIn_1 : decode cX6_wordIn 1 = .ok (.istore_n 3, 1) := by decide +kernel
theorem dX6_wordIn_2 : decode cX6_wordIn 2 = .ok (.iconst 0, 1) := by decide +kernel
theorem dX6_wordIn_3 : decode cX6_wordIn 3 = .ok (.istore 4, 2) := by decide +kernel
theorem dX6_wordIn_5 : decode cX6_wordIn 5 = .ok (.iconst 0, 1) := by decide +kernel
theorem dX6_wordIn_6 : decode cX6_wordIn 6 = .ok (.istore 5, 2) := by decide +kernel
theorem dX6_wordIn_8 : decode cX6_wordIn 8 = .ok (.iload 5, 2) := by decide +kernel
theorem dX6_wordIn_10 : decode cX6_wordIn 10 = .ok (.ldc 117, 2) := by decide +kernel
theorem dX6_wordIn_12 : decode cX6_wordIn 12 = .ok (.invokevirtual 119, 3) := by decide +kernel
theorem dX6_wordIn_15 : decode cX6_wordIn 15 = .ok (.if_icmp .ge 98, 3) := by decide +kernel
theorem dX6_wordIn_18 : decode cX6_wordIn 18 = .ok (.ldc 117, 2) := by decide +kernel
theorem dX6_wordIn_20 : decode cX6_wordIn 20 = .ok (.iload 5, 2) := by decide +kernel
theorem dX6_wordIn_22 : decode cX6_wordIn 22 = .ok (.invokevirtual 123, 3) := by decide +kernel
theorem dX6_wordIn_25 : decode cX6_wordIn 25 = .ok (.istore 6, 2) := by decide +kernel
theorem dX6_wordIn_27 : decode cX6_wordIn 27 = .ok (.iload 6, 2) := by decide +kernel
theorem dX6_wordIn_29 : decode cX6_wordIn 29 = .ok (.bipush 32, 2) := by decide +kernel
theorem dX6_wordIn_31 : decode cX6_wordIn 31 = .ok (.if_icmp .eq 56, 3) := by decide +kernel
theorem dX6_wordIn_34 : decode cX6_wordIn 34 = .ok (.iload 4, 2) := by decide +kernel
theorem dX6_wordIn_36 : decode cX6_wordIn 36 = .ok (.iconst (-1), 1) := by decide +kernel
theorem dX6_wordIn_37 : decode cX6_wordIn 37 = .ok (.if_icmp .eq 29, 3) := by decide +kernel
theorem dX6_wordIn_40 : decode cX6_wordIn 40 = .ok (.iload_n 1, 1) := by decide +kernel
theorem dX6_wordIn_41 : decode cX6_wordIn 41 = .ok (.iload 4, 2) := by decide +kernel
theorem dX6_wordIn_43 : decode cX6_wordIn 43 = .ok (.iadd, 1) := by decide +kernel
theorem dX6_wordIn_44 : decode cX6_wordIn 44 = .ok (.iload_n 2, 1) := by decide +kernel
theorem dX6_wordIn_45 : decode cX6_wordIn 45 = .ok (.if_icmp .ge 21, 3) := by decide +kernel
theorem dX6_wordIn_48 : decode cX6_wordIn 48 = .ok (.aload_n 0, 1) := by decide +kernel
theorem dX6_wordIn_49 : decode cX6_wordIn 49 = .ok (.getfield 11, 3) := by decide +kernel
theorem dX6_wordIn_52 : decode cX6_wordIn 52 = .ok (.iload_n 1, 1) := by decide +kernel
theorem dX6_wordIn_53 : decode cX6_wordIn 53 = .ok (.iload 4, 2) := by decide +kernel
theorem dX6_wordIn_55 : decode cX6_wordIn 55 = .ok (.iadd, 1) := by decide +kernel
theorem dX6_wordIn_56 : decode cX6_wordIn 56 = .ok (.iaload, 1) := by decide +kernel
theorem dX6_wordIn_57 : decode cX6_wordIn 57 = .ok (.iload 6, 2) := by decide +kernel
theorem dX6_wordIn_59 : decode cX6_wordIn 59 = .ok (.if_icmp .ne 7, 3) := by decide +kernel
theorem dX6_wordIn_62 : decode cX6_wordIn 62 = .ok (.iconst 1, 1) := by decide +kernel
theorem dX6_wordIn_63 : decode cX6_wordIn 63 = .ok (.goto 4, 3) := by decide +kernel
theorem dX6_wordIn_66 : decode cX6_wordIn 66 = .ok (.iconst 0, 1) := by decide +kernel
theorem dX6_wordIn_67 : decode cX6_wordIn 67 = .ok (.istore 7, 2) := by decide +kernel
theorem dX6_wordIn_69 : decode cX6_wordIn 69 = .ok (.iload 7, 2) := by decide +kernel
theorem dX6_wordIn_71 : decode cX6_wordIn 71 = .ok (.ifCond .eq 10, 3) := by decide +kernel
theorem dX6_wordIn_74 : decode cX6_wordIn 74 = .ok (.iload 4, 2) := by decide +kernel
theorem dX6_wordIn_76 : decode cX6_wordIn 76 = .ok (.iconst 1, 1) := by decide +kernel
theorem dX6_wordIn_77 : decode cX6_wordIn 77 = .ok (.iadd, 1) := by decide +kernel
theorem dX6_wordIn_78 : decode cX6_wordIn 78 = .ok (.goto 4, 3) := by decide +kernel
theorem dX6_wordIn_81 : decode cX6_wordIn 81 = .ok (.iconst (-1), 1) := by decide +kernel
theorem dX6_wordIn_82 : decode cX6_wordIn 82 = .ok (.istore 4, 2) := by decide +kernel
theorem dX6_wordIn_84 : decode cX6_wordIn 84 = .ok (.goto 23, 3) := by decide +kernel
theorem dX6_wordIn_87 : decode cX6_wordIn 87 = .ok (.iload 4, 2) := by decide +kernel
theorem dX6_wordIn_89 : decode cX6_wordIn 89 = .ok (.iload_n 2, 1) := by decide +kernel
theorem dX6_wordIn_90 : decode cX6_wordIn 90 = .ok (.iload_n 1, 1) := by decide +kernel
theorem dX6_wordIn_91 : decode cX6_wordIn 91 = .ok (.isub, 1) := by decide +kernel
theorem dX6_wordIn_92 : decode cX6_wordIn 92 = .ok (.if_icmp .ne 9, 3) := by decide +kernel
theorem dX6_wordIn_95 : decode cX6_wordIn 95 = .ok (.sipush 1000, 3) := by decide +kernel
theorem dX6_wordIn_98 : decode cX6_wordIn 98 = .ok (.iload_n 3, 1) := by decide +kernel
theorem dX6_wordIn_99 : decode cX6_wordIn 99 = .ok (.iadd, 1) := by decide +kernel
theorem dX6_wordIn_100 : decode cX6_wordIn 100 = .ok (.ireturn, 1) := by decide +kernel
theorem dX6_wordIn_101 : decode cX6_wordIn 101 = .ok (.iinc 3 1, 3) := by decide +kernel
theorem dX6_wordIn_104 : decode cX6_wordIn 104 = .ok (.iconst 0, 1) := by decide +kernel
theorem dX6_wordIn_105 : decode cX6_wordIn 105 = .ok (.istore 4, 2) := by decide +kernel
theorem dX6_wordIn_107 : decode cX6_wordIn 107 = .ok (.iinc 5 1, 3) := by decide +kernel
theorem dX6_wordIn_110 : decode cX6_wordIn 110 = .ok (.goto (-102), 3) := by decide +kernel
theorem dX6_wordIn_113 : decode cX6_wordIn 113 = .ok (.iconst 1, 1) := by decide +kernel
theorem dX6_wordIn_114 : decode cX6_wordIn 114 = .ok (.ireturn, 1) := by decide +kernel
def w_X6_wordIn_113  (h : AH) (Q : Int32 → AH → Prop) : Prop :=
  Q (1 : Int32) h
def w_X6_wordIn_107  (x95 : Int32 → AH → Prop) (x113 : AH → Prop) (k : Int32 → Int32 → Int32 → AH → Prop) (v0 : Nat) (v1 : Int32) (v2 : Int32) (v3 : Int32) (v4 : Int32) (v5 : Int32) (h : AH) (Q : Int32 → AH → Prop) : Prop :=
  k v3 v4 (v5 + 1) h
def w_X6_wordIn_95  (v3 : Int32) (h : AH) (Q : Int32 → AH → Prop) : Prop :=
  Q ((1000 : Int32) + v3) h
def w_X6_wordIn_82  (x95 : Int32 → AH → Prop) (x113 : AH → Prop) (k : Int32 → Int32 → Int32 → AH → Prop) (v0 : Nat) (v1 : Int32) (v2 : Int32) (v3 : Int32) (v5 : Int32) (t0 : Int32) (h : AH) (Q : Int32 → AH → Prop) : Prop :=
  w_X6_wordIn_107 x95 x113 k v0 v1 v2 v3 t0 v5 h Q
def w_X6_wordIn_67  (x95 : Int32 → AH → Prop) (x113 : AH → Prop) (k : Int32 → Int32 → Int32 → AH → Prop) (v0 : Nat) (v1 : Int32) (v2 : Int32) (v3 : Int32) (v4 : Int32) (v5 : Int32) (t0 : Int32) (h : AH) (Q : Int32 → AH → Prop) : Prop :=
  br (t0 = 0) (
    w_X6_wordIn_82 x95 x113 k v0 v1 v2 v3 v5 (-1 : Int32) h Q) (
    w_X6_wordIn_82 x95 x113 k v0 v1 v2 v3 v5 (v4 + (1 : Int32)) h Q)
def w_X6_wordIn_66  (x95 : Int32 → AH → Prop) (x113 : AH → Prop) (k : Int32 → Int32 → Int32 → AH → Prop) (v0 : Nat) (v1 : Int32) (v2 : Int32) (v3 : Int32) (v4 : Int32) (v5 : Int32) (h : AH) (Q : Int32 → AH → Prop) : Prop :=
  w_X6_wordIn_67 x95 x113 k v0 v1 v2 v3 v4 v5 (0 : Int32) h Q
def w_X6_wordIn_8  (x95 : Int32 → AH → Prop) (x113 : AH → Prop) (k : Int32 → Int32 → Int32 → AH → Prop) (v0 : Nat) (v1 : Int32) (v2 : Int32) (v3 : Int32) (v4 : Int32) (v5 : Int32) (h : AH) (Q : Int32 → AH → Prop) : Prop :=
  sc h 3 fun a1 =>
  vS h a1 (
  w_J0_length_8abf5 a1 h (fun x2 h =>
  br (x2 ≤ v5) (
    x113  h) (
    sc h 3 fun a3 =>
    vS h a3 (
    w_J0_charAt_5068e a3 v5 h (fun x4 h =>
    br (x4 = (32 : Int32)) (
      br (v4 = (v2 - v1)) (
        x95 v3 h) (
        w_X6_wordIn_107 x95 x113 k v0 v1 v2 (v3 + 1) (0 : Int32) v5 h Q)) (
      br (v4 = (-1 : Int32)) (
        w_X6_wordIn_66 x95 x113 k v0 v1 v2 v3 v4 v5 h Q) (
        br (v2 ≤ (v1 + v4)) (
          w_X6_wordIn_66 x95 x113 k v0 v1 v2 v3 v4 v5 h Q) (
          fN h v0 6 0 fun a5 =>
          aI h a5 (v1 + v4) fun x6 =>
          br (x6 = x4) (
            w_X6_wordIn_67 x95 x113 k v0 v1 v2 v3 v4 v5 (1 : Int32) h Q) (
            w_X6_wordIn_66 x95 x113 k v0 v1 v2 v3 v4 v5 h Q)))))))))
def w_X6_wordIn  (v0 : Nat) (v1 : Int32) (v2 : Int32) (h : AH) (Q : Int32 → AH → Prop) : Prop :=
  lp (fun (k2 : Int32 × Int32 × Int32 × AH → Prop) (s2 : Int32 × Int32 × Int32 × AH) => w_X6_wordIn_8  (fun (y3 : Int32) h => w_X6_wordIn_95 y3 h Q) (fun  h => w_X6_wordIn_113  h Q) (fun (y3 : Int32) (y4 : Int32) (y5 : Int32) h => k2 (y3, y4, y5, h)) v0 v1 v2 s2.1 s2.2.1 s2.2.2.1 s2.2.2.2 Q) ((0 : Int32), (0 : Int32), (0 : Int32), h)
set_option maxRecDepth 100000 in
set_option maxHeartbeats 4000000 in
theorem s_X6_wordIn_113 {p : Program} {l : Launch} {e : Env} {s : State} {m : MethodId} {args : Array Value} {below : List Frame} {meth : Method} {c : Code} {g : GG}  {Q : Int32 → AH → Prop}  (C : CXT p l s m args meth c RX6 cX6_wordIn 8 g) (hr : meth.sig.returnType = (some .int))  : ∀  (h : AH), w_X6_wordIn_113  h Q → V p l e s m args below meth c g 4 0 0 8 0 0 (MQ below (QCx g (QI Q)) args s 0 0 (gA g)) 113 [] [] h := by
  intro  h hw
  refine v_iconst (v := 1) C dX6_wordIn_113 (by decide) ?_
  exact (rt_MQ C _).1 _ _ _ _ _ _ hr dX6_wordIn_114 (by decide) (by decide) ⟨_, rfl, hw⟩
set_option maxRecDepth 100000 in
set_option maxHeartbeats 4000000 in
theorem s_X6_wordIn_107 {p : Program} {l : Launch} {e : Env} {s : State} {m : MethodId} {args : Array Value} {below : List Frame} {meth : Method} {c : Code} {g : GG} {v0 : Nat} {v1 : Int32} {v2 : Int32} {Q : Int32 → AH → Prop} {x95 : Int32 → AH → Prop} {x113 : AH → Prop} {k : Int32 → Int32 → Int32 → AH → Prop} (C : CXT p l s m args meth c RX6 cX6_wordIn 8 g) (hr : meth.sig.returnType = (some .int)) (hx95 : ∀ (y3 : Int32) (h : AH), x95 y3 h → V p l e s m args below meth c g 4 0 0 8 0 0 (MQ below (QCx g (QI Q)) args s 0 0 (gA g)) 95 [(3, .int y3)] [] h) (hx113 : ∀  (h : AH), x113  h → V p l e s m args below meth c g 4 0 0 8 0 0 (MQ below (QCx g (QI Q)) args s 0 0 (gA g)) 113 [] [] h) (hk : ∀ (y3 : Int32) (y4 : Int32) (y5 : Int32) (h : AH), k y3 y4 y5 h → V p l e s m args below meth c g 4 0 0 8 0 0 (MQ below (QCx g (QI Q)) args s 0 0 (gA g)) 8 [(0, .ref v0), (1, .int v1), (2, .int v2), (3, .int y3), (4, .int y4), (5, .int y5)] [] h) : ∀ (v3 : Int32) (v4 : Int32) (v5 : Int32) (h : AH), w_X6_wordIn_107  x95 x113 k v0 v1 v2 v3 v4 v5 h Q → V p l e s m args below meth c g 4 0 0 8 0 0 (MQ below (QCx g (QI Q)) args s 0 0 (gA g)) 107 [(0, .ref v0), (1, .int v1), (2, .int v2), (3, .int v3), (4, .int v4), (5, .int v5)] [] h := by
  intro v3 v4 v5 h hw
  refine v_iinc (v := 1) (ls' := [(5, .int (v5 + 1)), (0, .ref v0), (1, .int v1), (2, .int v2), (3, .int v3), (4, .int v4)]) C dX6_wordIn_107 5 rfl (by decide) (by decide) rfl ?_
  refine v_goto (tgt := 8) C dX6_wordIn_110 (by decide) ?_
  refine v_sub [1, 2, 3, 4, 5, 0] rfl ?_
  exact hk _ _ _ _ hw
set_option maxRecDepth 100000 in
set_option maxHeartbeats 4000000 in
theorem s_X6_wordIn_95 {p : Program} {l : Launch} {e : Env} {s : State} {m : MethodId} {args : Array Value} {below : List Frame} {meth : Method} {c : Code} {g : GG}  {Q : Int32 → AH → Prop}  (C : CXT p l s m args meth c RX6 cX6_wordIn 8 g) (hr : meth.sig.returnType = (some .int))  : ∀ (v3 : Int32) (h : AH), w_X6_wordIn_95  v3 h Q → V p l e s m args below meth c g 4 0 0 8 0 0 (MQ below (QCx g (QI Q)) args s 0 0 (gA g)) 95 [(3, .int v3)] [] h := by
  intro v3 h hw
  refine v_sipush (v := 1000) C dX6_wordIn_95 (by decide) ?_
  refine v_iload_n C dX6_wordIn_98 0 rfl rfl ?_
  refine v_iadd C dX6_wordIn_99 ?_
  exact (rt_MQ C _).1 _ _ _ _ _ _ hr dX6_wordIn_100 (by decide) (by decide) ⟨_, rfl, hw⟩
set_option maxRecDepth 100000 in
set_option maxHeartbeats 4000000 in
theorem s_X6_wordIn_82 {p : Program} {l : Launch} {e : Env} {s : State} {m : MethodId} {args : Array Value} {below : List Frame} {meth : Method} {c : Code} {g : GG} {v0 : Nat} {v1 : Int32} {v2 : Int32} {Q : Int32 → AH → Prop} {x95 : Int32 → AH → Prop} {x113 : AH → Prop} {k : Int32 → Int32 → Int32 → AH → Prop} (C : CXT p l s m args meth c RX6 cX6_wordIn 8 g) (hr : meth.sig.returnType = (some .int)) (hx95 : ∀ (y3 : Int32) (h : AH), x95 y3 h → V p l e s m args below meth c g 4 0 0 8 0 0 (MQ below (QCx g (QI Q)) args s 0 0 (gA g)) 95 [(3, .int y3)] [] h) (hx113 : ∀  (h : AH), x113  h → V p l e s m args below meth c g 4 0 0 8 0 0 (MQ below (QCx g (QI Q)) args s 0 0 (gA g)) 113 [] [] h) (hk : ∀ (y3 : Int32) (y4 : Int32) (y5 : Int32) (h : AH), k y3 y4 y5 h → V p l e s m args below meth c g 4 0 0 8 0 0 (MQ below (QCx g (QI Q)) args s 0 0 (gA g)) 8 [(0, .ref v0), (1, .int v1), (2, .int v2), (3, .int y3), (4, .int y4), (5, .int y5)] [] h) : ∀ (v3 : Int32) (v5 : Int32) (t0 : Int32) (h : AH), w_X6_wordIn_82  x95 x113 k v0 v1 v2 v3 v5 t0 h Q → V p l e s m args below meth c g 4 0 0 8 0 0 (MQ below (QCx g (QI Q)) args s 0 0 (gA g)) 82 [(0, .ref v0), (1, .int v1), (2, .int v2), (3, .int v3), (5, .int v5)] [.int t0] h := by
  intro v3 v5 t0 h hw
  refine v_istore (ls' := [(4, .int t0), (0, .ref v0), (1, .int v1), (2, .int v2), (3, .int v3), (5, .int v5)]) C dX6_wordIn_82 (by decide) rfl ?_
  refine v_goto (tgt := 107) C dX6_wordIn_84 (by decide) ?_
  refine v_sub [1, 2, 3, 4, 0, 5] rfl ?_
  exact s_X6_wordIn_107 C hr hx95 hx113 hk _ _ _ _ hw
set_option maxRecDepth 100000 in
set_option maxHeartbeats 4000000 in
theorem s_X6_wordIn_67 {p : Program} {l : Launch} {e : Env} {s : State} {m : MethodId} {args : Array Value} {below : List Frame} {meth : Method} {c : Code} {g : GG} {v0 : Nat} {v1 : Int32} {v2 : Int32} {Q : Int32 → AH → Prop} {x95 : Int32 → AH → Prop} {x113 : AH → Prop} {k : Int32 → Int32 → Int32 → AH → Prop} (C : CXT p l s m args meth c RX6 cX6_wordIn 8 g) (hr : meth.sig.returnType = (some .int)) (hx95 : ∀ (y3 : Int32) (h : AH), x95 y3 h → V p l e s m args below meth c g 4 0 0 8 0 0 (MQ below (QCx g (QI Q)) args s 0 0 (gA g)) 95 [(3, .int y3)] [] h) (hx113 : ∀  (h : AH), x113  h → V p l e s m args below meth c g 4 0 0 8 0 0 (MQ below (QCx g (QI Q)) args s 0 0 (gA g)) 113 [] [] h) (hk : ∀ (y3 : Int32) (y4 : Int32) (y5 : Int32) (h : AH), k y3 y4 y5 h → V p l e s m args below meth c g 4 0 0 8 0 0 (MQ below (QCx g (QI Q)) args s 0 0 (gA g)) 8 [(0, .ref v0), (1, .int v1), (2, .int v2), (3, .int y3), (4, .int y4), (5, .int y5)] [] h) : ∀ (v3 : Int32) (v4 : Int32) (v5 : Int32) (t0 : Int32) (h : AH), w_X6_wordIn_67  x95 x113 k v0 v1 v2 v3 v4 v5 t0 h Q → V p l e s m args below meth c g 4 0 0 8 0 0 (MQ below (QCx g (QI Q)) args s 0 0 (gA g)) 67 [(0, .ref v0), (1, .int v1), (2, .int v2), (3, .int v3), (4, .int v4), (5, .int v5)] [.int t0] h := by
  intro v3 v4 v5 t0 h hw
  refine v_istore (ls' := [(7, .int t0), (0, .ref v0), (1, .int v1), (2, .int v2), (3, .int v3), (4, .int v4), (5, .int v5)]) C dX6_wordIn_67 (by decide) rfl ?_
  refine v_iload C dX6_wordIn_69 0 rfl ?_
  refine v_if_eq (tgt := 81) C dX6_wordIn_71 (by decide) (fun c_71 => ?_) (fun c_71 => ?_)
  · have hw := hw.1 c_71
    refine v_iconst (v := -1) C dX6_wordIn_81 (by decide) ?_
    refine v_sub [1, 2, 3, 4, 6] rfl ?_
    exact s_X6_wordIn_82 C hr hx95 hx113 hk _ _ _ _ hw
  · have hw := hw.2 c_71
    refine v_iload C dX6_wordIn_74 5 rfl ?_
    refine v_iconst (v := 1) C dX6_wordIn_76 (by decide) ?_
    refine v_iadd C dX6_wordIn_77 ?_
    refine v_goto (tgt := 82) C dX6_wordIn_78 (by decide) ?_
    refine v_sub [1, 2, 3, 4, 6] rfl ?_
    exact s_X6_wordIn_82 C hr hx95 hx113 hk _ _ _ _ hw
set_option maxRecDepth 100000 in
set_option maxHeartbeats 4000000 in
theorem s_X6_wordIn_66 {p : Program} {l : Launch} {e : Env} {s : State} {m : MethodId} {args : Array Value} {below : List Frame} {meth : Method} {c : Code} {g : GG} {v0 : Nat} {v1 : Int32} {v2 : Int32} {Q : Int32 → AH → Prop} {x95 : Int32 → AH → Prop} {x113 : AH → Prop} {k : Int32 → Int32 → Int32 → AH → Prop} (C : CXT p l s m args meth c RX6 cX6_wordIn 8 g) (hr : meth.sig.returnType = (some .int)) (hx95 : ∀ (y3 : Int32) (h : AH), x95 y3 h → V p l e s m args below meth c g 4 0 0 8 0 0 (MQ below (QCx g (QI Q)) args s 0 0 (gA g)) 95 [(3, .int y3)] [] h) (hx113 : ∀  (h : AH), x113  h → V p l e s m args below meth c g 4 0 0 8 0 0 (MQ below (QCx g (QI Q)) args s 0 0 (gA g)) 113 [] [] h) (hk : ∀ (y3 : Int32) (y4 : Int32) (y5 : Int32) (h : AH), k y3 y4 y5 h → V p l e s m args below meth c g 4 0 0 8 0 0 (MQ below (QCx g (QI Q)) args s 0 0 (gA g)) 8 [(0, .ref v0), (1, .int v1), (2, .int v2), (3, .int y3), (4, .int y4), (5, .int y5)] [] h) : ∀ (v3 : Int32) (v4 : Int32) (v5 : Int32) (h : AH), w_X6_wordIn_66  x95 x113 k v0 v1 v2 v3 v4 v5 h Q → V p l e s m args below meth c g 4 0 0 8 0 0 (MQ below (QCx g (QI Q)) args s 0 0 (gA g)) 66 [(0, .ref v0), (1, .int v1), (2, .int v2), (3, .int v3), (4, .int v4), (5, .int v5)] [] h := by
  intro v3 v4 v5 h hw
  refine v_iconst (v := 0) C dX6_wordIn_66 (by decide) ?_
  exact s_X6_wordIn_67 C hr hx95 hx113 hk _ _ _ _ _ hw
set_option maxRecDepth 100000 in
set_option maxHeartbeats 4000000 in
theorem s_X6_wordIn_8 {p : Program} {l : Launch} {e : Env} {s : State} {m : MethodId} {args : Array Value} {below : List Frame} {meth : Method} {c : Code} {g : GG} {v0 : Nat} {v1 : Int32} {v2 : Int32} {Q : Int32 → AH → Prop} {x95 : Int32 → AH → Prop} {x113 : AH → Prop} {k : Int32 → Int32 → Int32 → AH → Prop} (C : CXT p l s m args meth c RX6 cX6_wordIn 8 g) (hr : meth.sig.returnType = (some .int)) (hx95 : ∀ (y3 : Int32) (h : AH), x95 y3 h → V p l e s m args below meth c g 4 0 0 8 0 0 (MQ below (QCx g (QI Q)) args s 0 0 (gA g)) 95 [(3, .int y3)] [] h) (hx113 : ∀  (h : AH), x113  h → V p l e s m args below meth c g 4 0 0 8 0 0 (MQ below (QCx g (QI Q)) args s 0 0 (gA g)) 113 [] [] h) (hk : ∀ (y3 : Int32) (y4 : Int32) (y5 : Int32) (h : AH), k y3 y4 y5 h → V p l e s m args below meth c g 4 0 0 8 0 0 (MQ below (QCx g (QI Q)) args s 0 0 (gA g)) 8 [(0, .ref v0), (1, .int v1), (2, .int v2), (3, .int y3), (4, .int y4), (5, .int y5)] [] h) : ∀ (v3 : Int32) (v4 : Int32) (v5 : Int32) (h : AH), w_X6_wordIn_8  x95 x113 k v0 v1 v2 v3 v4 v5 h Q → V p l e s m args below meth c g 4 0 0 8 0 0 (MQ below (QCx g (QI Q)) args s 0 0 (gA g)) 8 [(0, .ref v0), (1, .int v1), (2, .int v2), (3, .int v3), (4, .int v4), (5, .int v5)] [] h := by
  intro v3 v4 v5 h hw
  refine v_iload C dX6_wordIn_8 5 rfl ?_
  refine w_ldcS (i := 3) (tx := "shoot flee join hold drop if and or not foes friends fear minute height rounds far armed alone cases balls bones later guns fits heaps held ") C (List.mem_of_getElem? (i := 3) rfl) (by decide) dX6_wordIn_10 hw (fun a1 hw => ?_)
  refine v_callVS (st := [.int v5]) C cl_X6_119 lk_X6_119 im_J0_length_8abf5 se_J0_length_8abf5 hw.1 (s_J0_length_8abf5 hw.2) rfl dX6_wordIn_12 rfl (Nat.le_of_ble_eq_true rfl) (by decide) (by decide) (by decide) (by decide) (fun x2 h hw => ?_)
  refine v_icmp_ge (tgt := 113) C dX6_wordIn_15 (by decide) (fun c_15 => ?_) (fun c_15 => ?_)
  · have hw := hw.1 c_15
    refine v_sub [] rfl ?_
    exact hx113  _ hw
  · have hw := hw.2 c_15
    refine w_ldcS (i := 3) (tx := "shoot flee join hold drop if and or not foes friends fear minute height rounds far armed alone cases balls bones later guns fits heaps held ") C (List.mem_of_getElem? (i := 3) rfl) (by decide) dX6_wordIn_18 hw (fun a3 hw => ?_)
    refine v_iload C dX6_wordIn_20 5 rfl ?_
    refine v_callVS (st := []) C cl_X6_123 lk_X6_123 im_J0_charAt_5068e se_J0_charAt_5068e hw.1 (s_J0_charAt_5068e hw.2) rfl dX6_wordIn_22 rfl (by decide) (by decide) (by decide) (by decide) (by decide) (fun x4 h hw => ?_)
    refine v_istore (ls' := [(6, .int x4), (0, .ref v0), (1, .int v1), (2, .int v2), (3, .int v3), (4, .int v4), (5, .int v5)]) C dX6_wordIn_25 (by decide) rfl ?_
    refine v_iload C dX6_wordIn_27 0 rfl ?_
    refine v_bipush (v := 32) C dX6_wordIn_29 (by decide) ?_
    refine v_icmp_eq (tgt := 87) C dX6_wordIn_31 (by decide) (fun c_31 => ?_) (fun c_31 => ?_)
    · have hw := hw.1 c_31
      refine v_iload C dX6_wordIn_87 5 rfl ?_
      refine v_iload_n C dX6_wordIn_89 3 rfl rfl ?_
      refine v_iload_n C dX6_wordIn_90 2 rfl rfl ?_
      refine v_isub C dX6_wordIn_91 ?_
      refine v_icmp_ne (tgt := 101) C dX6_wordIn_92 (by decide) (fun c_92 => ?_) (fun c_92 => ?_)
      · have hw := hw.2 c_92
        refine v_iinc (v := 1) (ls' := [(3, .int (v3 + 1)), (6, .int x4), (0, .ref v0), (1, .int v1), (2, .int v2), (4, .int v4), (5, .int v5)]) C dX6_wordIn_101 4 rfl (by decide) (by decide) rfl ?_
        refine v_iconst (v := 0) C dX6_wordIn_104 (by decide) ?_
        refine v_istore (ls' := [(4, .int (0 : Int32)), (3, .int (v3 + 1)), (6, .int x4), (0, .ref v0), (1, .int v1), (2, .int v2), (5, .int v5)]) C dX6_wordIn_105 (by decide) rfl ?_
        refine v_sub [3, 4, 5, 1, 0, 6] rfl ?_
        exact s_X6_wordIn_107 C hr hx95 hx113 hk _ _ _ _ hw
      · have hw := hw.1 c_92
        refine v_sub [4] rfl ?_
        exact hx95 _ _ hw
    · have hw := hw.2 c_31
      refine v_iload C dX6_wordIn_34 5 rfl ?_
      refine v_iconst (v := -1) C dX6_wordIn_36 (by decide) ?_
      refine v_icmp_eq (tgt := 66) C dX6_wordIn_37 (by decide) (fun c_37 => ?_) (fun c_37 => ?_)
      · have hw := hw.1 c_37
        refine v_sub [1, 2, 3, 4, 5, 6] rfl ?_
        exact s_X6_wordIn_66 C hr hx95 hx113 hk _ _ _ _ hw
      · have hw := hw.2 c_37
        refine v_iload_n C dX6_wordIn_40 2 rfl rfl ?_
        refine v_iload C dX6_wordIn_41 5 rfl ?_
        refine v_iadd C dX6_wordIn_43 ?_
        refine v_iload_n C dX6_wordIn_44 3 rfl rfl ?_
        refine v_icmp_ge (tgt := 66) C dX6_wordIn_45 (by decide) (fun c_45 => ?_) (fun c_45 => ?_)
        · have hw := hw.1 c_45
          refine v_sub [1, 2, 3, 4, 5, 6] rfl ?_
          exact s_X6_wordIn_66 C hr hx95 hx113 hk _ _ _ _ hw
        · have hw := hw.2 c_45
          refine v_aload_n C dX6_wordIn_48 1 rfl rfl ?_
          refine w_getN C fl_X6_11 dX6_wordIn_49 rfl hw (fun a5 hw => ?_)
          refine v_iload_n C dX6_wordIn_52 2 rfl rfl ?_
          refine v_iload C dX6_wordIn_53 5 rfl ?_
          refine v_iadd C dX6_wordIn_55 ?_
          refine w_iaload C dX6_wordIn_56 hw (fun x6 hw => ?_)
          refine v_iload C dX6_wordIn_57 0 rfl ?_
          refine v_icmp_ne (tgt := 66) C dX6_wordIn_59 (by decide) (fun c_59 => ?_) (fun c_59 => ?_)
          · have hw := hw.2 c_59
            refine v_sub [1, 2, 3, 4, 5, 6] rfl ?_
            exact s_X6_wordIn_66 C hr hx95 hx113 hk _ _ _ _ hw
          · have hw := hw.1 c_59
            refine v_iconst (v := 1) C dX6_wordIn_62 (by decide) ?_
            refine v_goto (tgt := 67) C dX6_wordIn_63 (by decide) ?_
            refine v_sub [1, 2, 3, 4, 5, 6] rfl ?_
            exact s_X6_wordIn_67 C hr hx95 hx113 hk _ _ _ _ _ hw
set_option maxRecDepth 100000 in
set_option maxHeartbeats 4000000 in
theorem s_X6_wordIn {l : Launch}  {v0 : Nat} {v1 : Int32} {v2 : Int32} {h : AH} {Q : Int32 → AH → Prop}  (hw : w_X6_wordIn  v0 v1 v2 h Q) : CT l yX6_wordIn cX6_wordIn 8 (some .int) 4 0 0 [.ref v0, .int v1, .int v2] h (QI Q) := by
  refine CT.of (by decide) ⟨rfl, ⟨rfl, ⟨rfl, trivial⟩⟩⟩ (Nat.le_of_ble_eq_true rfl) ?_
  intro p e s m args below meth c g C hr hin
  refine v_eq (pc' := 0) (ls' := [(0, .ref v0), (1, .int v1), (2, .int v2)]) rfl rfl rfl rfl ?_
  refine v_iconst (v := 0) C dX6_wordIn_0 (by decide) ?_
  refine v_istore_n (ls' := [(3, .int (0 : Int32)), (0, .ref v0), (1, .int v1), (2, .int v2)]) C dX6_wordIn_1 rfl (by decide) rfl ?_
  refine v_iconst (v := 0) C dX6_wordIn_2 (by decide) ?_
  refine v_istore (ls' := [(4, .int (0 : Int32)), (3, .int (0 : Int32)), (0, .ref v0), (1, .int v1), (2, .int v2)]) C dX6_wordIn_3 (by decide) rfl ?_
  refine v_iconst (v := 0) C dX6_wordIn_5 (by decide) ?_
  refine v_istore (ls' := [(5, .int (0 : Int32)), (4, .int (0 : Int32)), (3, .int (0 : Int32)), (0, .ref v0), (1, .int v1), (2, .int v2)]) C dX6_wordIn_6 (by decide) rfl ?_
  refine v_sub [3, 4, 5, 2, 1, 0] rfl ?_
  refine lp_walk (P := fun (s' : Int32 × Int32 × Int32 × AH) => V p l e s m args below meth c g 4 0 0 8 0 0 (MQ below (QCx g (QI Q)) args s 0 0 (gA g)) 8 [(0, .ref v0), (1, .int v1), (2, .int v2), (3, .int (s'.1)), (4, .int (s'.2.1)), (5, .int (s'.2.2.1))] [] s'.2.2.2) (fun k2 hk2 s' hw => ?_) ((0 : Int32), (0 : Int32), (0 : Int32), h) hw
  exact s_X6_wordIn_8 C hr (fun y3 h hw => s_X6_wordIn_95 C hr  _ h hw) (fun  h hw => s_X6_wordIn_113 C hr   h hw) (fun y3 y4 y5 h hw => hk2 (y3, y4, y5, h) hw) _ _ _ _ hw
-- GrassField$Reader.splitText()V
theorem dX6_splitText_0 : decode cX6_splitText 0 = .ok (.iconst 0, 1) := by decide +kernel
theorem dX6_splitText_1 : decode cX6_splitText 1 = .ok (.istore_n 1, 1) := by decide +kernel
theorem dX6_splitText_2 : decode cX6_splitText 2 = .ok (.aload_n 0, 1) := by decide +kernel
theorem dX6_splitText_3 : decode cX6_splitText 3 = .ok (.iconst 0, 1) := by decide +kernel
theorem dX6_splitText_4 : decode cX6_splitText 4 = .ok (.bipush 32, 2) := by decide +kernel
theorem dX6_splitText_6 : decode cX6_splitText 6 = .ok (.bipush 32, 2) := by decide +kernel
theorem dX6_splitText_8 : decode cX6_splitText 8 = .ok (.invokevirtual 94, 3) := by decide +kernel
theorem dX6_splitText_11 : decode cX6_splitText 11 = .ok (.istore_n 2, 1) := by decide +kernel
theorem dX6_splitText_12 : decode cX6_splitText 12 = .ok (.iconst 0, 1) := by decide +kernel
theorem dX6_splitText_13 : decode cX6_splitText 13 = .ok (.istore_n 3, 1) := by decide +kernel
theorem dX6_splitText_14 : decode cX6_splitText 14 = .ok (.iload_n 3, 1) := by decide +kernel
theorem dX6_splitText_15 : decode cX6_splitText 15 = .ok (.sipush 400, 3) := by decide +kernel
theorem dX6_splitText_18 : decode cX6_splitText 18 = .ok (.if_icmp .ge 152, 3) := by decide +kernel
theorem dX6_splitText_21 : decode cX6_splitText 21 = .ok (.iload_n 2, 1) := by decide +kernel
theorem dX6_splitText_22 : decode cX6_splitText 22 = .ok (.aload_n 0, 1) := by decide +kernel
theorem dX6_splitText_23 : decode cX6_splitText 23 = .ok (.getfield 28, 3) := by decide +kernel
theorem dX6_splitText_26 : decode cX6_splitText 26 = .ok (.if_icmp .ge 144, 3) := by decide +kernel
theorem dX6_splitText_29 : decode cX6_splitText 29 = .ok (.aload_n 0, 1) := by decide +kernel
theorem dX6_splitText_30 : decode cX6_splitText 30 = .ok (.getfield 22, 3) := by decide +kernel
theorem dX6_splitText_33 : decode cX6_splitText 33 = .ok (.iload_n 1, 1) := by decide +kernel
theorem dX6_splitText_34 : decode cX6_splitText 34 = .ok (.iload_n 2, 1) := by decide +kernel
theorem dX6_splitText_35 : decode cX6_splitText 35 = .ok (.iastore, 1) := by decide +kernel
theorem dX6_splitText_36 : decode cX6_splitText 36 = .ok (.iload_n 2, 1) := by decide +kernel
theorem dX6_splitText_37 : decode cX6_splitText 37 = .ok (.iconst 1, 1) := by decide +kernel
theorem dX6_splitText_38 : decode cX6_splitText 38 = .ok (.iadd, 1) := by decide +kernel
theorem dX6_splitText_39 : decode cX6_splitText 39 = .ok (.istore 4, 2) := by decide +kernel
theorem dX6_splitText_41 : decode cX6_splitText 41 = .ok (.aload_n 0, 1) := by decide +kernel
theorem dX6_splitText_42 : decode cX6_splitText 42 = .ok (.iload_n 2, 1) := by decide +kernel
theorem dX6_splitText_43 : decode cX6_splitText 43 = .ok (.bipush 97, 2) := by decide +kernel
theorem dX6_splitText_45 : decode cX6_splitText 45 = .ok (.bipush 122, 2) := by decide +kernel
theorem dX6_splitText_47 : decode cX6_splitText 47 = .ok (.invokevirtual 98, 3) := by decide +kernel
theorem dX6_splitText_50 : decode cX6_splitText 50 = .ok (.ifCond .eq 30, 3) := by decide +kernel
theorem dX6_splitText_53 : decode cX6_splitText 53 = .ok (.aload_n 0, 1) := by decide +kernel
theorem dX6_splitText_54 : decode cX6_splitText 54 = .ok (.iload_n 2, 1) := by decide +kernel
theorem dX6_splitText_55 : decode cX6_splitText 55 = .ok (.bipush 97, 2) := by decide +kernel
theorem dX6_splitText_57 : decode cX6_splitText 57 = .ok (.bipush 122, 2) := by decide +kernel
theorem dX6_splitText_59 : decode cX6_splitText 59 = .ok (.invokevirtual 94, 3) := by decide +kernel
theorem dX6_splitText_62 : decode cX6_splitText 62 = .ok (.istore 4, 2) := by decide +kernel
theorem dX6_splitText_64 : decode cX6_splitText 64 = .ok (.aload_n 0, 1) := by decide +kernel
theorem dX6_splitText_65 : decode cX6_splitText 65 = .ok (.getfield 19, 3) := by decide +kernel
theorem dX6_splitText_68 : decode cX6_splitText 68 = .ok (.iload_n 1, 1) := by decide +kernel
theorem dX6_splitText_69 : decode cX6_splitText 69 = .ok (.aload_n 0, 1) := by decide +kernel
theorem dX6_splitText_70 : decode cX6_splitText 70 = .ok (.iload_n 2, 1) := by decide +kernel
theorem dX6_splitText_71 : decode cX6_splitText 71 = .ok (.iload 4, 2) := by decide +kernel
theorem dX6_splitText_73 : decode cX6_splitText 73 = .ok (.invokevirtual 102, 3) := by decide +kernel
theorem dX6_splitText_76 : decode cX6_splitText 76 = .ok (.iastore, 1) := by decide +kernel
theorem dX6_splitText_77 : decode cX6_splitText 77 = .ok (.goto 73, 3) := by decide +kernel
theorem dX6_splitText_80 : decode cX6_splitText 80 = .ok (.aload_n 0, 1) := by decide +kernel
theorem dX6_splitText_81 : decode cX6_splitText 81 = .ok (.iload_n 2, 1) := by decide +kernel
theorem dX6_splitText_82 : decode cX6_splitText 82 = .ok (.bipush 48, 2) := by decide +kernel
theorem dX6_splitText_84 : decode cX6_splitText 84 = .ok (.bipush 57, 2) := by decide +kernel
theorem dX6_splitText_86 : decode cX6_splitText 86 = .ok (.invokevirtual 98, 3) := by decide +kernel
theorem dX6_splitText_89 : decode cX6_splitText 89 = .ok (.ifCond .eq 30, 3) := by decide +kernel
theorem dX6_splitText_92 : decode cX6_splitText 92 = .ok (.aload_n 0, 1) := by decide +kernel
theorem dX6_splitText_93 : decode cX6_splitText 93 = .ok (.iload_n 2, 1) := by decide +kernel
theorem dX6_splitText_94 : decode cX6_splitText 94 = .ok (.bipush 48, 2) := by decide +kernel
theorem dX6_splitText_96 : decode cX6_splitText 96 = .ok (.bipush 57, 2) := by decide +kernel
theorem dX6_splitText_98 : decode cX6_splitText 98 = .ok (.invokevirtual 94, 3) := by decide +kernel
theorem dX6_splitText_101 : decode cX6_splitText 101 = .ok (.istore 4, 2) := by decide +kernel
theorem dX6_splitText_103 : decode cX6_splitText 103 = .ok (.aload_n 0, 1) := by decide +kernel
theorem dX6_splitText_104 : decode cX6_splitText 104 = .ok (.getfield 19, 3) := by decide +kernel
theorem dX6_splitText_107 : decode cX6_splitText 107 = .ok (.iload_n 1, 1) := by decide +kernel
theorem dX6_splitText_108 : decode cX6_splitText 108 = .ok (.aload_n 0, 1) := by decide +kernel
theorem dX6_splitText_109 : decode cX6_splitText 109 = .ok (.iload_n 2, 1) := by decide +kernel
theorem dX6_splitText_110 : decode cX6_splitText 110 = .ok (.iload 4, 2) := by decide +kernel
theorem dX6_splitText_112 : decode cX6_splitText 112 = .ok (.invokevirtual 106, 3) := by decide +kernel
theorem dX6_splitText_115 : decode cX6_splitText 115 = .ok (.iastore, 1) := by decide +kernel
theorem dX6_splitText_116 : decode cX6_splitText 116 = .ok (.goto 34, 3) := by decide +kernel
theorem dX6_splitText_119 : decode cX6_splitText 119 = .ok (.aload_n 0, 1) := by decide +kernel
theorem dX6_splitText_120 : decode cX6_splitText 120 = .ok (.getfield 19, 3) := by decide +kernel
theorem dX6_splitText_123 : decode cX6_splitText 123 = .ok (.iload_n 1, 1) := by decide +kernel
theorem dX6_splitText_124 : decode cX6_splitText 124 = .ok (.ldc 109, 2) := by decide +kernel
theorem dX6_splitText_126 : decode cX6_splitText 126 = .ok (.aload_n 0, 1) := by decide +kernel
theorem dX6_splitText_127 : decode cX6_splitText 127 = .ok (.getfield 11, 3) := by decide +kernel
theorem dX6_splitText_130 : decode cX6_splitText 130 = .ok (.iload_n 2, 1) := by decide +kernel
theorem dX6_splitText_131 : decode cX6_splitText 131 = .ok (.iaload, 1) := by decide +kernel
theorem dX6_splitText_132 : decode cX6_splitText 132 = .ok (.i2c, 1) := by decide +kernel
theorem dX6_splitText_133 : decode cX6_splitText 133 = .ok (.invokevirtual 111, 3) := by decide +kernel
theorem dX6_splitText_136 : decode cX6_splitText 136 = .ok (.ifCond .ge 7, 3) := by decide +kernel
theorem dX6_splitText_139 : decode cX6_splitText 139 = .ok (.iconst 1, 1) := by decide +kernel
theorem dX6_splitText_140 : decode cX6_splitText 140 = .ok (.goto 9, 3) := by decide +kernel
theorem dX6_splitText_143 : decode cX6_splitText 143 = .ok (.aload_n 0, 1) := by decide +kernel
theorem dX6_splitText_144 : decode cX6_splitText 144 = .ok (.getfield 11, 3) := by decide +kernel
theorem dX6_splitText_147 : decode cX6_splitText 147 = .ok (.iload_n 2, 1) := by decide +kernel
theorem dX6_splitText_148 : decode cX6_splitText 148 = .ok (.iaload, 1) := by decide +kernel
theorem dX6_splitText_149 : decode cX6_splitText 149 = .ok (.iastore, 1) := by decide +kernel
theorem dX6_splitText_150 : decode cX6_splitText 150 = .ok (.iinc 1 1, 3) := by decide +kernel
theorem dX6_splitText_153 : decode cX6_splitText 153 = .ok (.aload_n 0, 1) := by decide +kernel
theorem dX6_splitText_154 : decode cX6_splitText 154 = .ok (.iload 4, 2) := by decide +kernel
theorem dX6_splitText_156 : decode cX6_splitText 156 = .ok (.bipush 32, 2) := by decide +kernel
theorem dX6_splitText_158 : decode cX6_splitText 158 = .ok (.bipush 32, 2) := by decide +kernel
theorem dX6_splitText_160 : decode cX6_splitText 160 = .ok (.invokevirtual 94, 3) := by decide +kernel
theorem dX6_splitText_163 : decode cX6_splitText 163 = .ok (.istore_n 2, 1) := by decide +kernel
theorem dX6_splitText_164 : decode cX6_splitText 164 = .ok (.iinc 3 1, 3) := by decide +kernel
theorem dX6_splitText_167 : decode cX6_splitText 167 = .ok (.goto (-153), 3) := by decide +kernel
theorem dX6_splitText_170 : decode cX6_splitText 170 = .ok (.aload_n 0, 1) := by decide +kernel
theorem dX6_splitText_171 : decode cX6_splitText 171 = .ok (.getfield 22, 3) := by decide +kernel
theorem dX6_splitText_174 : decode cX6_splitText 174 = .ok (.iload_n 1, 1) := by decide +kernel
theorem dX6_splitText_175 : decode cX6_splitText 175 = .ok (.aload_n 0, 1) := by decide +kernel
theorem dX6_splitText_176 : decode cX6_splitText 176 = .ok (.getfield 28, 3) := by decide +kernel
theorem dX6_splitText_179 : decode cX6_splitText 179 = .ok (.iastore, 1) := by decide +kernel
theorem dX6_splitText_180 : decode cX6_splitText 180 = .ok (.aload_n 0, 1) := by decide +kernel
theorem dX6_splitText_181 : decode cX6_splitText 181 = .ok (.getfield 19, 3) := by decide +kernel
theorem dX6_splitText_184 : decode cX6_splitText 184 = .ok (.iload_n 1, 1) := by decide +kernel
theorem dX6_splitText_185 : decode cX6_splitText 185 = .ok (.iconst 0, 1) := by decide +kernel
theorem dX6_splitText_186 : decode cX6_splitText 186 = .ok (.iastore, 1) := by decide +kernel
theorem dX6_splitText_187 : decode cX6_splitText 187 = .ok (.return_, 1) := by decide +kernel
def w_X6_splitText_170  (v0 : Nat) (v1 : Int32) (h : AH) (Q : AH → Prop) : Prop :=
  fN h v0 6 4 fun a1 =>
  fI h v0 6 1 fun x2 =>
  tI h a1 v1 x2 fun h =>
  fN h v0 6 3 fun a3 =>
  tI h a3 v1 (0 : Int32) fun h =>
  Q h
def w_X6_splitText_150  (x170 : Int32 → AH → Prop) (k : Int32 → Int32 → Int32 → AH → Prop) (v0 : Nat) (v1 : Int32) (v3 : Int32) (v4 : Int32) (h : AH) (Q : AH → Prop) : Prop :=
  vr h v0 6 (
  w_X6_behind v0 v4 (32 : Int32) (32 : Int32) h (fun x1 h =>
  k (v1 + 1) x1 (v3 + 1) h))
def w_X6_splitText_149  (x170 : Int32 → AH → Prop) (k : Int32 → Int32 → Int32 → AH → Prop) (v0 : Nat) (v1 : Int32) (v3 : Int32) (v4 : Int32) (t0 : Nat) (t1 : Int32) (t2 : Int32) (h : AH) (Q : AH → Prop) : Prop :=
  tI h t0 t1 t2 fun h =>
  w_X6_splitText_150 x170 k v0 v1 v3 v4 h Q
def w_X6_splitText_14  (x170 : Int32 → AH → Prop) (k : Int32 → Int32 → Int32 → AH → Prop) (v0 : Nat) (v1 : Int32) (v2 : Int32) (v3 : Int32) (h : AH) (Q : AH → Prop) : Prop :=
  br ((400 : Int32) ≤ v3) (
    x170 v1 h) (
    fI h v0 6 1 fun x1 =>
    br (x1 ≤ v2) (
      x170 v1 h) (
      fN h v0 6 4 fun a2 =>
      tI h a2 v1 v2 fun h =>
      bd (v2 + (1 : Int32)) fun x3 =>
      vr h v0 6 (
      w_X6_isByteIn v0 v2 (97 : Int32) (122 : Int32) h (fun x4 h =>
      br (x4 = 0) (
        vr h v0 6 (
        w_X6_isByteIn v0 v2 (48 : Int32) (57 : Int32) h (fun x5 h =>
        br (x5 = 0) (
          fN h v0 6 3 fun a6 =>
          sc h 4 fun a7 =>
          fN h v0 6 0 fun a8 =>
          aI h a8 v2 fun x9 =>
          vS h a7 (
          w_J0_indexOf_0f7a4 a7 ((x9.toUInt32 % 65536).toInt32) h (fun x10 h =>
          br (0 ≤ x10) (
            fN h v0 6 0 fun a11 =>
            aI h a11 v2 fun x12 =>
            w_X6_splitText_149 x170 k v0 v1 v3 x3 a6 v1 x12 h Q) (
            w_X6_splitText_149 x170 k v0 v1 v3 x3 a6 v1 (1 : Int32) h Q)))) (
          vr h v0 6 (
          w_X6_behind v0 v2 (48 : Int32) (57 : Int32) h (fun x13 h =>
          fN h v0 6 3 fun a14 =>
          vr h v0 6 (
          w_X6_numberIn v0 v2 x13 h (fun x15 h =>
          tI h a14 v1 x15 fun h =>
          w_X6_splitText_150 x170 k v0 v1 v3 x13 h Q)))))))) (
        vr h v0 6 (
        w_X6_behind v0 v2 (97 : Int32) (122 : Int32) h (fun x16 h =>
        fN h v0 6 3 fun a17 =>
        vr h v0 6 (
        w_X6_wordIn v0 v2 x16 h (fun x18 h =>
        tI h a17 v1 x18 fun h =>
        w_X6_splitText_150 x170 k v0 v1 v3 x16 h Q)))))))))
def w_X6_splitText  (v0 : Nat) (h : AH) (Q : AH → Prop) : Prop :=
  vr h v0 6 (
  w_X6_behind v0 (0 : Int32) (32 : Int32) (32 : Int32) h (fun x1 h =>
  lp (fun (k2 : Int32 × Int32 × Int32 × AH → Prop) (s2 : Int32 × Int32 × Int32 × AH) => w_X6_splitText_14  (fun (y1 : Int32) h => w_X6_splitText_170 v0 y1 h Q) (fun (y1 : Int32) (y2 : Int32) (y3 : Int32) h => k2 (y1, y2, y3, h)) v0 s2.1 s2.2.1 s2.2.2.1 s2.2.2.2 Q) ((0 : Int32), x1, (0 : Int32), h)))
set_option maxRecDepth 100000 in
set_option maxHeartbeats 4000000 in
theorem s_X6_splitText_170 {p : Program} {l : Launch} {e : Env} {s : State} {m : MethodId} {args : Array Value} {below : List Frame} {meth : Method} {c : Code} {g : GG}  {Q : AH → Prop}  (C : CXT p l s m args meth c RX6 cX6_splitText 5 g) (hr : meth.sig.returnType = none)  : ∀ (v0 : Nat) (v1 : Int32) (h : AH), w_X6_splitText_170  v0 v1 h Q → V p l e s m args below meth c g 5 0 0 5 0 0 (MQ below (QCx g (QV Q)) args s 0 0 (gA g)) 170 [(0, .ref v0), (1, .int v1)] [] h := by
  intro v0 v1 h hw
  refine v_aload_n C dX6_splitText_170 0 rfl rfl ?_
  refine w_getN C fl_X6_22 dX6_splitText_171 rfl hw (fun a1 hw => ?_)
  refine v_iload_n C dX6_splitText_174 1 rfl rfl ?_
  refine v_aload_n C dX6_splitText_175 0 rfl rfl ?_
  refine w_getI C fl_X6_28 dX6_splitText_176 rfl hw (fun x2 hw => ?_)
  refine w_iastore C dX6_splitText_179 hw (fun h hw => ?_)
  refine v_aload_n C dX6_splitText_180 0 rfl rfl ?_
  refine w_getN C fl_X6_19 dX6_splitText_181 rfl hw (fun a3 hw => ?_)
  refine v_iload_n C dX6_splitText_184 1 rfl rfl ?_
  refine v_iconst (v := 0) C dX6_splitText_185 (by decide) ?_
  refine w_iastore C dX6_splitText_186 hw (fun h hw => ?_)
  exact (rt_MQ C _).2.2.1 _ _ _ _ _ hr dX6_splitText_187 (by decide) (by decide) ⟨rfl, hw⟩
set_option maxRecDepth 100000 in
set_option maxHeartbeats 4000000 in
theorem s_X6_splitText_150 {p : Program} {l : Launch} {e : Env} {s : State} {m : MethodId} {args : Array Value} {below : List Frame} {meth : Method} {c : Code} {g : GG} {v0 : Nat} {Q : AH → Prop} {x170 : Int32 → AH → Prop} {k : Int32 → Int32 → Int32 → AH → Prop} (C : CXT p l s m args meth c RX6 cX6_splitText 5 g) (hr : meth.sig.returnType = none) (hx170 : ∀ (y1 : Int32) (h : AH), x170 y1 h → V p l e s m args below meth c g 5 0 0 5 0 0 (MQ below (QCx g (QV Q)) args s 0 0 (gA g)) 170 [(0, .ref v0), (1, .int y1)] [] h) (hk : ∀ (y1 : Int32) (y2 : Int32) (y3 : Int32) (h : AH), k y1 y2 y3 h → V p l e s m args below meth c g 5 0 0 5 0 0 (MQ below (QCx g (QV Q)) args s 0 0 (gA g)) 14 [(0, .ref v0), (1, .int y1), (2, .int y2), (3, .int y3)] [] h) : ∀ (v1 : Int32) (v3 : Int32) (v4 : Int32) (h : AH), w_X6_splitText_150  x170 k v0 v1 v3 v4 h Q → V p l e s m args below meth c g 5 0 0 5 0 0 (MQ below (QCx g (QV Q)) args s 0 0 (gA g)) 150 [(0, .ref v0), (1, .int v1), (3, .int v3), (4, .int v4)] [] h := by
  intro v1 v3 v4 h hw
  refine v_iinc (v := 1) (ls' := [(1, .int (v1 + 1)), (0, .ref v0), (3, .int v3), (4, .int v4)]) C dX6_splitText_150 1 rfl (by decide) (by decide) rfl ?_
  refine v_aload_n C dX6_splitText_153 1 rfl rfl ?_
  refine v_iload C dX6_splitText_154 3 rfl ?_
  refine v_bipush (v := 32) C dX6_splitText_156 (by decide) ?_
  refine v_bipush (v := 32) C dX6_splitText_158 (by decide) ?_
  refine w_callVi (st := []) C cl_X6_94 im_X6_behind se_X6_behind rfl hw.1 (s_X6_behind hw.2) rfl dX6_splitText_160 rfl (by decide) (by decide) (by decide) (by decide) (by decide) (fun x1 h hw => ?_)
  refine v_istore_n (ls' := [(2, .int x1), (1, .int (v1 + 1)), (0, .ref v0), (3, .int v3), (4, .int v4)]) C dX6_splitText_163 rfl (by decide) rfl ?_
  refine v_iinc (v := 1) (ls' := [(3, .int (v3 + 1)), (2, .int x1), (1, .int (v1 + 1)), (0, .ref v0), (4, .int v4)]) C dX6_splitText_164 3 rfl (by decide) (by decide) rfl ?_
  refine v_goto (tgt := 14) C dX6_splitText_167 (by decide) ?_
  refine v_sub [3, 2, 1, 0] rfl ?_
  exact hk _ _ _ _ hw
set_option maxRecDepth 100000 in
set_option maxHeartbeats 4000000 in
theorem s_X6_splitText_149 {p : Program} {l : Launch} {e : Env} {s : State} {m : MethodId} {args : Array Value} {below : List Frame} {meth : Method} {c : Code} {g : GG} {v0 : Nat} {Q : AH → Prop} {x170 : Int32 → AH → Prop} {k : Int32 → Int32 → Int32 → AH → Prop} (C : CXT p l s m args meth c RX6 cX6_splitText 5 g) (hr : meth.sig.returnType = none) (hx170 : ∀ (y1 : Int32) (h : AH), x170 y1 h → V p l e s m args below meth c g 5 0 0 5 0 0 (MQ below (QCx g (QV Q)) args s 0 0 (gA g)) 170 [(0, .ref v0), (1, .int y1)] [] h) (hk : ∀ (y1 : Int32) (y2 : Int32) (y3 : Int32) (h : AH), k y1 y2 y3 h → V p l e s m args below meth c g 5 0 0 5 0 0 (MQ below (QCx g (QV Q)) args s 0 0 (gA g)) 14 [(0, .ref v0), (1, .int y1), (2, .int y2), (3, .int y3)] [] h) : ∀ (v1 : Int32) (v3 : Int32) (v4 : Int32) (t0 : Nat) (t1 : Int32) (t2 : Int32) (h : AH), w_X6_splitText_149  x170 k v0 v1 v3 v4 t0 t1 t2 h Q → V p l e s m args below meth c g 5 0 0 5 0 0 (MQ below (QCx g (QV Q)) args s 0 0 (gA g)) 149 [(0, .ref v0), (1, .int v1), (3, .int v3), (4, .int v4)] [.int t2, .int t1, .ref t0] h := by
  intro v1 v3 v4 t0 t1 t2 h hw
  refine w_iastore C dX6_splitText_149 hw (fun h hw => ?_)
  exact s_X6_splitText_150 C hr hx170 hk _ _ _ _ hw
set_option maxRecDepth 100000 in
set_option maxHeartbeats 4000000 in
theorem s_X6_splitText_14 {p : Program} {l : Launch} {e : Env} {s : State} {m : MethodId} {args : Array Value} {below : List Frame} {meth : Method} {c : Code} {g : GG} {v0 : Nat} {Q : AH → Prop} {x170 : Int32 → AH → Prop} {k : Int32 → Int32 → Int32 → AH → Prop} (C : CXT p l s m args meth c RX6 cX6_splitText 5 g) (hr : meth.sig.returnType = none) (hx170 : ∀ (y1 : Int32) (h : AH), x170 y1 h → V p l e s m args below meth c g 5 0 0 5 0 0 (MQ below (QCx g (QV Q)) args s 0 0 (gA g)) 170 [(0, .ref v0), (1, .int y1)] [] h) (hk : ∀ (y1 : Int32) (y2 : Int32) (y3 : Int32) (h : AH), k y1 y2 y3 h → V p l e s m args below meth c g 5 0 0 5 0 0 (MQ below (QCx g (QV Q)) args s 0 0 (gA g)) 14 [(0, .ref v0), (1, .int y1), (2, .int y2), (3, .int y3)] [] h) : ∀ (v1 : Int32) (v2 : Int32) (v3 : Int32) (h : AH), w_X6_splitText_14  x170 k v0 v1 v2 v3 h Q → V p l e s m args below meth c g 5 0 0 5 0 0 (MQ below (QCx g (QV Q)) args s 0 0 (gA g)) 14 [(0, .ref v0), (1, .int v1), (2, .int v2), (3, .int v3)] [] h := by
  intro v1 v2 v3 h hw
  refine v_iload_n C dX6_splitText_14 3 rfl rfl ?_
  refine v_sipush (v := 400) C dX6_splitText_15 (by decide) ?_
  refine v_icmp_ge (tgt := 170) C dX6_splitText_18 (by decide) (fun c_18 => ?_) (fun c_18 => ?_)
  · have hw := hw.1 c_18
    refine v_sub [0, 1] rfl ?_
    exact hx170 _ _ hw
  · have hw := hw.2 c_18
    refine v_iload_n C dX6_splitText_21 2 rfl rfl ?_
    refine v_aload_n C dX6_splitText_22 0 rfl rfl ?_
    refine w_getI C fl_X6_28 dX6_splitText_23 rfl hw (fun x1 hw => ?_)
    refine v_icmp_ge (tgt := 170) C dX6_splitText_26 (by decide) (fun c_26 => ?_) (fun c_26 => ?_)
    · have hw := hw.1 c_26
      refine v_sub [0, 1] rfl ?_
      exact hx170 _ _ hw
    · have hw := hw.2 c_26
      refine v_aload_n C dX6_splitText_29 0 rfl rfl ?_
      refine w_getN C fl_X6_22 dX6_splitText_30 rfl hw (fun a2 hw => ?_)
      refine v_iload_n C dX6_splitText_33 1 rfl rfl ?_
      refine v_iload_n C dX6_splitText_34 2 rfl rfl ?_
      refine w_iastore C dX6_splitText_35 hw (fun h hw => ?_)
      refine v_iload_n C dX6_splitText_36 2 rfl rfl ?_
      refine v_iconst (v := 1) C dX6_splitText_37 (by decide) ?_
      refine v_iadd C dX6_splitText_38 ?_
      refine w_bd hw (fun x3 hw => ?_)
      refine v_istore (ls' := [(4, .int x3), (0, .ref v0), (1, .int v1), (2, .int v2), (3, .int v3)]) C dX6_splitText_39 (by decide) rfl ?_
      refine v_aload_n C dX6_splitText_41 1 rfl rfl ?_
      refine v_iload_n C dX6_splitText_42 3 rfl rfl ?_
      refine v_bipush (v := 97) C dX6_splitText_43 (by decide) ?_
      refine v_bipush (v := 122) C dX6_splitText_45 (by decide) ?_
      refine w_callVi (st := []) C cl_X6_98 im_X6_isByteIn se_X6_isByteIn rfl hw.1 (s_X6_isByteIn hw.2) rfl dX6_splitText_47 rfl (by decide) (by decide) (by decide) (by decide) (by decide) (fun x4 h hw => ?_)
      refine v_if_eq (tgt := 80) C dX6_splitText_50 (by decide) (fun c_50 => ?_) (fun c_50 => ?_)
      · have hw := hw.1 c_50
        refine v_aload_n C dX6_splitText_80 1 rfl rfl ?_
        refine v_iload_n C dX6_splitText_81 3 rfl rfl ?_
        refine v_bipush (v := 48) C dX6_splitText_82 (by decide) ?_
        refine v_bipush (v := 57) C dX6_splitText_84 (by decide) ?_
        refine w_callVi (st := []) C cl_X6_98 im_X6_isByteIn se_X6_isByteIn rfl hw.1 (s_X6_isByteIn hw.2) rfl dX6_splitText_86 rfl (by decide) (by decide) (by decide) (by decide) (by decide) (fun x5 h hw => ?_)
        refine v_if_eq (tgt := 119) C dX6_splitText_89 (by decide) (fun c_89 => ?_) (fun c_89 => ?_)
        · have hw := hw.1 c_89
          refine v_aload_n C dX6_splitText_119 1 rfl rfl ?_
          refine w_getN C fl_X6_19 dX6_splitText_120 rfl hw (fun a6 hw => ?_)
          refine v_iload_n C dX6_splitText_123 2 rfl rfl ?_
          refine w_ldcS (i := 4) (tx := "()*+;<>") C (List.mem_of_getElem? (i := 4) rfl) (by decide) dX6_splitText_124 hw (fun a7 hw => ?_)
          refine v_aload_n C dX6_splitText_126 1 rfl rfl ?_
          refine w_getN C fl_X6_11 dX6_splitText_127 rfl hw (fun a8 hw => ?_)
          refine v_iload_n C dX6_splitText_130 3 rfl rfl ?_
          refine w_iaload C dX6_splitText_131 hw (fun x9 hw => ?_)
          refine v_i2c C dX6_splitText_132 ?_
          refine v_callVS (st := [.int v1, .ref a6]) C cl_X6_111 lk_X6_111 im_J0_indexOf_0f7a4 se_J0_indexOf_0f7a4 hw.1 (s_J0_indexOf_0f7a4 hw.2) rfl dX6_splitText_133 rfl (Nat.le_of_ble_eq_true rfl) (by decide) (by decide) (by decide) (by decide) (fun x10 h hw => ?_)
          refine v_if_ge (tgt := 143) C dX6_splitText_136 (by decide) (fun c_136 => ?_) (fun c_136 => ?_)
          · have hw := hw.1 c_136
            refine v_aload_n C dX6_splitText_143 1 rfl rfl ?_
            refine w_getN C fl_X6_11 dX6_splitText_144 rfl hw (fun a11 hw => ?_)
            refine v_iload_n C dX6_splitText_147 3 rfl rfl ?_
            refine w_iaload C dX6_splitText_148 hw (fun x12 hw => ?_)
            refine v_sub [1, 2, 4, 0] rfl ?_
            exact s_X6_splitText_149 C hr hx170 hk _ _ _ _ _ _ _ hw
          · have hw := hw.2 c_136
            refine v_iconst (v := 1) C dX6_splitText_139 (by decide) ?_
            refine v_goto (tgt := 149) C dX6_splitText_140 (by decide) ?_
            refine v_sub [1, 2, 4, 0] rfl ?_
            exact s_X6_splitText_149 C hr hx170 hk _ _ _ _ _ _ _ hw
        · have hw := hw.2 c_89
          refine v_aload_n C dX6_splitText_92 1 rfl rfl ?_
          refine v_iload_n C dX6_splitText_93 3 rfl rfl ?_
          refine v_bipush (v := 48) C dX6_splitText_94 (by decide) ?_
          refine v_bipush (v := 57) C dX6_splitText_96 (by decide) ?_
          refine w_callVi (st := []) C cl_X6_94 im_X6_behind se_X6_behind rfl hw.1 (s_X6_behind hw.2) rfl dX6_splitText_98 rfl (by decide) (by decide) (by decide) (by decide) (by decide) (fun x13 h hw => ?_)
          refine v_istore (ls' := [(4, .int x13), (0, .ref v0), (1, .int v1), (2, .int v2), (3, .int v3)]) C dX6_splitText_101 (by decide) rfl ?_
          refine v_aload_n C dX6_splitText_103 1 rfl rfl ?_
          refine w_getN C fl_X6_19 dX6_splitText_104 rfl hw (fun a14 hw => ?_)
          refine v_iload_n C dX6_splitText_107 2 rfl rfl ?_
          refine v_aload_n C dX6_splitText_108 1 rfl rfl ?_
          refine v_iload_n C dX6_splitText_109 3 rfl rfl ?_
          refine v_iload C dX6_splitText_110 0 rfl ?_
          refine w_callVi (st := [.int v1, .ref a14]) C cl_X6_106 im_X6_numberIn se_X6_numberIn rfl hw.1 (s_X6_numberIn hw.2) rfl dX6_splitText_112 rfl (Nat.le_of_ble_eq_true rfl) (by decide) (by decide) (by decide) (by decide) (fun x15 h hw => ?_)
          refine w_iastore C dX6_splitText_115 hw (fun h hw => ?_)
          refine v_goto (tgt := 150) C dX6_splitText_116 (by decide) ?_
          refine v_sub [1, 2, 4, 0] rfl ?_
          exact s_X6_splitText_150 C hr hx170 hk _ _ _ _ hw
      · have hw := hw.2 c_50
        refine v_aload_n C dX6_splitText_53 1 rfl rfl ?_
        refine v_iload_n C dX6_splitText_54 3 rfl rfl ?_
        refine v_bipush (v := 97) C dX6_splitText_55 (by decide) ?_
        refine v_bipush (v := 122) C dX6_splitText_57 (by decide) ?_
        refine w_callVi (st := []) C cl_X6_94 im_X6_behind se_X6_behind rfl hw.1 (s_X6_behind hw.2) rfl dX6_splitText_59 rfl (by decide) (by decide) (by decide) (by decide) (by decide) (fun x16 h hw => ?_)
        refine v_istore (ls' := [(4, .int x16), (0, .ref v0), (1, .int v1), (2, .int v2), (3, .int v3)]) C dX6_splitText_62 (by decide) rfl ?_
        refine v_aload_n C dX6_splitText_64 1 rfl rfl ?_
        refine w_getN C fl_X6_19 dX6_splitText_65 rfl hw (fun a17 hw => ?_)
        refine v_iload_n C dX6_splitText_68 2 rfl rfl ?_
        refine v_aload_n C dX6_splitText_69 1 rfl rfl ?_
        refine v_iload_n C dX6_splitText_70 3 rfl rfl ?_
        refine v_iload C dX6_splitText_71 0 rfl ?_
        refine w_callVi (st := [.int v1, .ref a17]) C cl_X6_102 im_X6_wordIn se_X6_wordIn rfl hw.1 (s_X6_wordIn hw.2) rfl dX6_splitText_73 rfl (Nat.le_of_ble_eq_true rfl) (by decide) (by decide) (by decide) (by decide) (fun x18 h hw => ?_)
        refine w_iastore C dX6_splitText_76 hw (fun h hw => ?_)
        refine v_goto (tgt := 150) C dX6_splitText_77 (by decide) ?_
        refine v_sub [1, 2, 4, 0] rfl ?_
        exact s_X6_splitText_150 C hr hx170 hk _ _ _ _ hw
set_option maxRecDepth 100000 in
set_option maxHeartbeats 4000000 in
theorem s_X6_splitText {l : Launch}  {v0 : Nat} {h : AH} {Q : AH → Prop}  (hw : w_X6_splitText  v0 h Q) : CT l yX6_splitText cX6_splitText 5 none 5 0 0 [.ref v0] h (QV Q) := by
  refine CT.of (by decide) ⟨rfl, trivial⟩ (Nat.le_of_ble_eq_true rfl) ?_
  intro p e s m args below meth c g C hr hin
  refine v_eq (pc' := 0) (ls' := [(0, .ref v0)]) rfl rfl rfl rfl ?_
  refine v_iconst (v := 0) C dX6_splitText_0 (by decide) ?_
  refine v_istore_n (ls' := [(1, .int (0 : Int32)), (0, .ref v0)]) C dX6_splitText_1 rfl (by decide) rfl ?_
  refine v_aload_n C dX6_splitText_2 1 rfl rfl ?_
  refine v_iconst (v := 0) C dX6_splitText_3 (by decide) ?_
  refine v_bipush (v := 32) C dX6_splitText_4 (by decide) ?_
  refine v_bipush (v := 32) C dX6_splitText_6 (by decide) ?_
  refine w_callVi (st := []) C cl_X6_94 im_X6_behind se_X6_behind rfl hw.1 (s_X6_behind hw.2) rfl dX6_splitText_8 rfl (by decide) (by decide) (by decide) (by decide) (by decide) (fun x1 h hw => ?_)
  refine v_istore_n (ls' := [(2, .int x1), (1, .int (0 : Int32)), (0, .ref v0)]) C dX6_splitText_11 rfl (by decide) rfl ?_
  refine v_iconst (v := 0) C dX6_splitText_12 (by decide) ?_
  refine v_istore_n (ls' := [(3, .int (0 : Int32)), (2, .int x1), (1, .int (0 : Int32)), (0, .ref v0)]) C dX6_splitText_13 rfl (by decide) rfl ?_
  refine v_sub [3, 2, 1, 0] rfl ?_
  refine lp_walk (P := fun (s' : Int32 × Int32 × Int32 × AH) => V p l e s m args below meth c g 5 0 0 5 0 0 (MQ below (QCx g (QV Q)) args s 0 0 (gA g)) 14 [(0, .ref v0), (1, .int (s'.1)), (2, .int (s'.2.1)), (3, .int (s'.2.2.1))] [] s'.2.2.2) (fun k2 hk2 s' hw => ?_) ((0 : Int32), x1, (0 : Int32), h) hw
  exact s_X6_splitText_14 C hr (fun y1 h hw => s_X6_splitText_170 C hr  _ _ h hw) (fun y1 y2 y3 h hw => hk2 (y1, y2, y3, h) hw) _ _ _ _ hw
-- GrassField$Reader.open(I)V
theorem dX6_open_0 : decode cX6_open 0 = .ok (.aload_n 0, 1) := by decide +kernel
theorem dX6_open_1 : decode cX6_open 1 = .ok (.invokevirtual 64, 3) := by decide +kernel
theorem dX6_open_4 : decode cX6_open 4 = .ok (.aload_n 0, 1) := by decide +kernel
theorem dX6_open_5 : decode cX6_open 5 = .ok (.iconst 0, 1) := by decide +kernel
theorem dX6_open_6 : decode cX6_open 6 = .ok (.putfield 28, 3) := by decide +kernel
theorem dX6_open_9 : decode cX6_open 9 = .ok (.aload_n 0, 1) := by decide +kernel
theorem dX6_open_10 : decode cX6_open 10 = .ok (.iconst (-1), 1) := by decide +kernel
theorem dX6_open_11 : decode cX6_open 11 = .ok (.putfield 15, 3) := by decide +kernel
theorem dX6_open_14 : decode cX6_open 14 = .ok (.aload_n 0, 1) := by decide +kernel
theorem dX6_open_15 : decode cX6_open 15 = .ok (.iload_n 1, 1) := by decide +kernel
theorem dX6_open_16 : decode cX6_open 16 = .ok (.putfield 67, 3) := by decide +kernel
theorem dX6_open_19 : decode cX6_open 19 = .ok (.aload_n 0, 1) := by decide +kernel
theorem dX6_open_20 : decode cX6_open 20 = .ok (.iconst 0, 1) := by decide +kernel
theorem dX6_open_21 : decode cX6_open 21 = .ok (.putfield 33, 3) := by decide +kernel
theorem dX6_open_24 : decode cX6_open 24 = .ok (.aload_n 0, 1) := by decide +kernel
theorem dX6_open_25 : decode cX6_open 25 = .ok (.iconst 0, 1) := by decide +kernel
theorem dX6_open_26 : decode cX6_open 26 = .ok (.putfield 70, 3) := by decide +kernel
theorem dX6_open_29 : decode cX6_open 29 = .ok (.aload_n 0, 1) := by decide +kernel
theorem dX6_open_30 : decode cX6_open 30 = .ok (.aload_n 0, 1) := by decide +kernel
theorem dX6_open_31 : decode cX6_open 31 = .ok (.getfield 19, 3) := by decide +kernel
theorem dX6_open_34 : decode cX6_open 34 = .ok (.iconst 0, 1) := by decide +kernel
theorem dX6_open_35 : decode cX6_open 35 = .ok (.iaload, 1) := by decide +kernel
theorem dX6_open_36 : decode cX6_open 36 = .ok (.putfield 43, 3) := by decide +kernel
theorem dX6_open_39 : decode cX6_open 39 = .ok (.return_, 1) := by decide +kernel
def w_X6_open  (v0 : Nat) (v1 : Int32) (h : AH) (Q : AH → Prop) : Prop :=
  vr h v0 6 (
  w_X6_splitText v0 h (fun h =>
  uI h v0 6 1 (0 : Int32) fun h =>
  uI h v0 6 2 (-1 : Int32) fun h =>
  uI h v0 6 7 v1 fun h =>
  uI h v0 6 9 (0 : Int32) fun h =>
  uI h v0 6 5 (0 : Int32) fun h =>
  fN h v0 6 3 fun a1 =>
  aI h a1 (0 : Int32) fun x2 =>
  uI h v0 6 6 x2 fun h =>
  Q h))
set_option maxRecDepth 100000 in
set_option maxHeartbeats 4000000 in
theorem s_X6_open {l : Launch}  {v0 : Nat} {v1 : Int32} {h : AH} {Q : AH → Prop}  (hw : w_X6_open  v0 v1 h Q) : CT l yX6_open cX6_open 2 none 6 0 0 [.ref v0, .int v1] h (QV Q) := by
  refine CT.of (by decide) ⟨rfl, ⟨rfl, trivial⟩⟩ (Nat.le_of_ble_eq_true rfl) ?_
  intro p e s m args below meth c g C hr hin
  refine v_eq (pc' := 0) (ls' := [(0, .ref v0), (1, .int v1)]) rfl rfl rfl rfl ?_
  refine v_aload_n C dX6_open_0 0 rfl rfl ?_
  refine w_callVv (st := []) C cl_X6_64 im_X6_splitText se_X6_splitText rfl hw.1 (s_X6_splitText hw.2) rfl dX6_open_1 rfl (by decide) (by decide) (by decide) (by decide) (by decide) (fun h hw => ?_)
  refine v_aload_n C dX6_open_4 0 rfl rfl ?_
  refine v_iconst (v := 0) C dX6_open_5 (by decide) ?_
  refine w_putI C fp_X6_28 (Or.inl rfl) dX6_open_6 hw (fun h hw => ?_)
  refine v_aload_n C dX6_open_9 0 rfl rfl ?_
  refine v_iconst (v := -1) C dX6_open_10 (by decide) ?_
  refine w_putI C fp_X6_15 (Or.inl rfl) dX6_open_11 hw (fun h hw => ?_)
  refine v_aload_n C dX6_open_14 0 rfl rfl ?_
  refine v_iload_n C dX6_open_15 1 rfl rfl ?_
  refine w_putI C fp_X6_67 (Or.inl rfl) dX6_open_16 hw (fun h hw => ?_)
  refine v_aload_n C dX6_open_19 0 rfl rfl ?_
  refine v_iconst (v := 0) C dX6_open_20 (by decide) ?_
  refine w_putI C fp_X6_33 (Or.inl rfl) dX6_open_21 hw (fun h hw => ?_)
  refine v_aload_n C dX6_open_24 0 rfl rfl ?_
  refine v_iconst (v := 0) C dX6_open_25 (by decide) ?_
  refine w_putI C fp_X6_70 (Or.inl rfl) dX6_open_26 hw (fun h hw => ?_)
  refine v_aload_n C dX6_open_29 0 rfl rfl ?_
  refine v_aload_n C dX6_open_30 0 rfl rfl ?_
  refine w_getN C fl_X6_19 dX6_open_31 rfl hw (fun a1 hw => ?_)
  refine v_iconst (v := 0) C dX6_open_34 (by decide) ?_
  refine w_iaload C dX6_open_35 hw (fun x2 hw => ?_)
  refine w_putI C fp_X6_43 (Or.inl rfl) dX6_open_36 hw (fun h hw => ?_)
  exact (rt_MQ C _).2.2.1 _ _ _ _ _ hr dX6_open_39 (by decide) (by decide) ⟨rfl, hw⟩
-- GrassField$Reader.program()LGrassField$Program;
theorem dX6_program_0 : decode cX6_program 0 = .ok (.new 31, 3) := by decide +kernel
theorem dX6_program_3 : decode cX6_program 3 = .ok (.dup, 1) := by decide +kernel
theorem dX6_program_4 : decode cX6_program 4 = .ok (.aload_n 0, 1) := by decide +kernel
theorem dX6_program_5 : decode cX6_program 5 = .ok (.getfield 25, 3) := by decide +kernel
theorem dX6_program_8 : decode cX6_program 8 = .ok (.aload_n 0, 1) := by decide +kernel
theorem dX6_program_9 : decode cX6_program 9 = .ok (.getfield 33, 3) := by decide +kernel
theorem dX6_program_12 : decode cX6_program 12 = .ok (.invokespecial 36, 3) := by decide +kernel
theorem dX6_program_15 : decode cX6_program 15 = .ok (.areturn, 1) := by decide +kernel
def w_X6_program  (v0 : Nat) (h : AH) (Q : Nat → AH → Prop) : Prop :=
  wO h 5 fun a1 h =>
  fN h v0 6 8 fun a2 =>
  fI h v0 6 9 fun x3 =>
  w_X5_init a1 a2 x3 h (fun h =>
  Q a1 h)
set_option maxRecDepth 100000 in
set_option maxHeartbeats 4000000 in
theorem s_X6_program {l : Launch}  {v0 : Nat} {h : AH} {Q : Nat → AH → Prop}  (hw : w_X6_program  v0 h Q) : CT l yX6_program cX6_program 1 (some (.object "GrassField$Program")) 3 3 436 [.ref v0] h (QR Q) := by
  refine CT.of (by decide) ⟨rfl, trivial⟩ (Nat.le_of_ble_eq_true rfl) ?_
  intro p e s m args below meth c g C hr hin
  refine v_eq (pc' := 0) (ls' := [(0, .ref v0)]) rfl rfl rfl rfl ?_
  refine v_new (r := (RX5, TX5, 3)) (N := 3) (ci := 5) C tyX5 rfl iw_X5 tyX5_ok df_X5 (tb4 (List.mem_of_getElem? (i := 213) rfl)) (tb4 (List.mem_of_getElem? (i := 214) rfl)) (tb1 (List.mem_of_getElem? (i := 24) rfl)) rfl dX6_program_0 (by decide) (by decide) (fun a1 hn => ?_)
  have hw := hw a1 hn
  generalize nO h a1 5 = h at hw ⊢
  refine v_dup C dX6_program_3 rfl ?_
  refine v_aload_n C dX6_program_4 0 rfl rfl ?_
  refine w_getN C fl_X6_25 dX6_program_5 rfl hw (fun a2 hw => ?_)
  refine v_aload_n C dX6_program_8 0 rfl rfl ?_
  refine w_getI C fl_X6_33 dX6_program_9 rfl hw (fun x3 hw => ?_)
  refine w_callIv (st := [.ref a1]) C cl_X6_36 im_X5_init rfl (s_X5_init hw) rfl dX6_program_12 rfl (Nat.le_of_ble_eq_true rfl) (by decide) (by decide) (by decide) (by decide) (fun h hw => ?_)
  exact (rt_MQ C _).2.2.2 _ _ _ _ _ _ _ hr (Or.inl ⟨_, rfl⟩) dX6_program_15 (by decide) (by decide) ⟨_, rfl, hw⟩
-- GrassField$Reader.refuse()Z
theorem dX6_refuse_0 : decode cX6_refuse 0 = .ok (.aload_n 0, 1) := by decide +kernel
theorem dX6_refuse_1 : decode cX6_refuse 1 = .ok (.aload_n 0, 1) := by decide +kernel
theorem dX6_refuse_2 : decode cX6_refuse 2 = .ok (.getfield 22, 3) := by decide +kernel
theorem dX6_refuse_5 : decode cX6_refuse 5 = .ok (.aload_n 0, 1) := by decide +kernel
theorem dX6_refuse_6 : decode cX6_refuse 6 = .ok (.getfield 70, 3) := by decide +kernel
theorem dX6_refuse_9 : decode cX6_refuse 9 = .ok (.iaload, 1) := by decide +kernel
theorem dX6_refuse_10 : decode cX6_refuse 10 = .ok (.putfield 15, 3) := by decide +kernel
theorem dX6_refuse_13 : decode cX6_refuse 13 = .ok (.iconst 0, 1) := by decide +kernel
theorem dX6_refuse_14 : decode cX6_refuse 14 = .ok (.ireturn, 1) := by decide +kernel
def w_X6_refuse  (v0 : Nat) (h : AH) (Q : Int32 → AH → Prop) : Prop :=
  fN h v0 6 4 fun a1 =>
  fI h v0 6 5 fun x2 =>
  aI h a1 x2 fun x3 =>
  uI h v0 6 2 x3 fun h =>
  Q (0 : Int32) h
set_option maxRecDepth 100000 in
set_option maxHeartbeats 4000000 in
theorem s_X6_refuse {l : Launch}  {v0 : Nat} {h : AH} {Q : Int32 → AH → Prop}  (hw : w_X6_refuse  v0 h Q) : CT l yX6_refuse cX6_refuse 1 (some .boolean) 0 0 0 [.ref v0] h (QI Q) := by
  refine CT.of (by decide) ⟨rfl, trivial⟩ (Nat.le_of_ble_eq_true rfl) ?_
  intro p e s m args below meth c g C hr hin
  refine v_eq (pc' := 0) (ls' := [(0, .ref v0)]) rfl rfl rfl rfl ?_
  refine v_aload_n C dX6_refuse_0 0 rfl rfl ?_
  refine v_aload_n C dX6_refuse_1 0 rfl rfl ?_
  refine w_getN C fl_X6_22 dX6_refuse_2 rfl hw (fun a1 hw => ?_)
  refine v_aload_n C dX6_refuse_5 0 rfl rfl ?_
  refine w_getI C fl_X6_70 dX6_refuse_6 rfl hw (fun x2 hw => ?_)
  refine w_iaload C dX6_refuse_9 hw (fun x3 hw => ?_)
  refine w_putI C fp_X6_15 (Or.inl rfl) dX6_refuse_10 hw (fun h hw => ?_)
  refine v_iconst (v := 0) C dX6_refuse_13 (by decide) ?_
  exact (rt_MQ C _).2.1 _ _ _ _ _ _ _ hr rfl dX6_refuse_14 (by decide) (by decide) ⟨_, rfl, hw⟩
-- GrassField$Reader.readPart()Z
theorem dX6_readPart_0 : decode cX6_readPart 0 = .ok (.aload_n 0, 1) := by decide +kernel
theorem dX6_readPart_1 : decode cX6_readPart 1 = .ok (.getfield 43, 3) := by decide +kernel
theorem dX6_readPart_4 : decode cX6_readPart 4 = .ok (.sipush 2000, 3) := by decide +kernel
theorem dX6_readPart_7 : decode cX6_readPart 7 = .ok (.if_icmp .lt 7, 3) := by decide +kernel
theorem dX6_readPart_10 : decode cX6_readPart 10 = .ok (.iconst 1, 1) := by decide +kernel
theorem dX6_readPart_11 : decode cX6_readPart 11 = .ok (.goto 4, 3) := by decide +kernel
theorem dX6_readPart_14 : decode cX6_readPart 14 = .ok (.iconst 0, 1) := by decide +kernel
theorem dX6_readPart_15 : decode cX6_readPart 15 = .ok (.istore_n 1, 1) := by decide +kernel
theorem dX6_readPart_16 : decode cX6_readPart 16 = .ok (.iload_n 1, 1) := by decide +kernel
theorem dX6_readPart_17 : decode cX6_readPart 17 = .ok (.ifCond .eq 35, 3) := by decide +kernel
theorem dX6_readPart_20 : decode cX6_readPart 20 = .ok (.aload_n 0, 1) := by decide +kernel
theorem dX6_readPart_21 : decode cX6_readPart 21 = .ok (.iconst 0, 1) := by decide +kernel
theorem dX6_readPart_22 : decode cX6_readPart 22 = .ok (.aload_n 0, 1) := by decide +kernel
theorem dX6_readPart_23 : decode cX6_readPart 23 = .ok (.getfield 43, 3) := by decide +kernel
theorem dX6_readPart_26 : decode cX6_readPart 26 = .ok (.sipush 2000, 3) := by decide +kernel
theorem dX6_readPart_29 : decode cX6_readPart 29 = .ok (.isub, 1) := by decide +kernel
theorem dX6_readPart_30 : decode cX6_readPart 30 = .ok (.invokevirtual 60, 3) := by decide +kernel
theorem dX6_readPart_33 : decode cX6_readPart 33 = .ok (.aload_n 0, 1) := by decide +kernel
theorem dX6_readPart_34 : decode cX6_readPart 34 = .ok (.invokevirtual 53, 3) := by decide +kernel
theorem dX6_readPart_37 : decode cX6_readPart 37 = .ok (.aload_n 0, 1) := by decide +kernel
theorem dX6_readPart_38 : decode cX6_readPart 38 = .ok (.getfield 43, 3) := by decide +kernel
theorem dX6_readPart_41 : decode cX6_readPart 41 = .ok (.bipush 42, 2) := by decide +kernel
theorem dX6_readPart_43 : decode cX6_readPart 43 = .ok (.if_icmp .eq 5, 3) := by decide +kernel
theorem dX6_readPart_46 : decode cX6_readPart 46 = .ok (.iconst 1, 1) := by decide +kernel
theorem dX6_readPart_47 : decode cX6_readPart 47 = .ok (.ireturn, 1) := by decide +kernel
theorem dX6_readPart_48 : decode cX6_readPart 48 = .ok (.aload_n 0, 1) := by decide +kernel
theorem dX6_readPart_49 : decode cX6_readPart 49 = .ok (.invokevirtual 53, 3) := by decide +kernel
theorem dX6_readPart_52 : decode cX6_readPart 52 = .ok (.aload_n 0, 1) := by decide +kernel
theorem dX6_readPart_53 : decode cX6_readPart 53 = .ok (.getfield 43, 3) := by decide +kernel
theorem dX6_readPart_56 : decode cX6_readPart 56 = .ok (.aload_n 0, 1) := by decide +kernel
theorem dX6_readPart_57 : decode cX6_readPart 57 = .ok (.getfield 67, 3) := by decide +kernel
theorem dX6_readPart_60 : decode cX6_readPart 60 = .ok (.isub, 1) := by decide +kernel
theorem dX6_readPart_61 : decode cX6_readPart 61 = .ok (.istore_n 2, 1) := by decide +kernel
theorem dX6_readPart_62 : decode cX6_readPart 62 = .ok (.iload_n 2, 1) := by decide +kernel
theorem dX6_readPart_63 : decode cX6_readPart 63 = .ok (.ifCond .lt 9, 3) := by decide +kernel
theorem dX6_readPart_66 : decode cX6_readPart 66 = .ok (.iload_n 2, 1) := by decide +kernel
theorem dX6_readPart_67 : decode cX6_readPart 67 = .ok (.bipush 7, 2) := by decide +kernel
theorem dX6_readPart_69 : decode cX6_readPart 69 = .ok (.if_icmp .lt 8, 3) := by decide +kernel
theorem dX6_readPart_72 : decode cX6_readPart 72 = .ok (.aload_n 0, 1) := by decide +kernel
theorem dX6_readPart_73 : decode cX6_readPart 73 = .ok (.invokevirtual 50, 3) := by decide +kernel
theorem dX6_readPart_76 : decode cX6_readPart 76 = .ok (.ireturn, 1) := by decide +kernel
theorem dX6_readPart_77 : decode cX6_readPart 77 = .ok (.aload_n 0, 1) := by decide +kernel
theorem dX6_readPart_78 : decode cX6_readPart 78 = .ok (.iconst 1, 1) := by decide +kernel
theorem dX6_readPart_79 : decode cX6_readPart 79 = .ok (.iload_n 2, 1) := by decide +kernel
theorem dX6_readPart_80 : decode cX6_readPart 80 = .ok (.invokevirtual 60, 3) := by decide +kernel
theorem dX6_readPart_83 : decode cX6_readPart 83 = .ok (.aload_n 0, 1) := by decide +kernel
theorem dX6_readPart_84 : decode cX6_readPart 84 = .ok (.invokevirtual 53, 3) := by decide +kernel
theorem dX6_readPart_87 : decode cX6_readPart 87 = .ok (.iload_n 1, 1) := by decide +kernel
theorem dX6_readPart_88 : decode cX6_readPart 88 = .ok (.ifCond .eq 9, 3) := by decide +kernel
theorem dX6_readPart_91 : decode cX6_readPart 91 = .ok (.aload_n 0, 1) := by decide +kernel
theorem dX6_readPart_92 : decode cX6_readPart 92 = .ok (.iconst 2, 1) := by decide +kernel
theorem dX6_readPart_93 : decode cX6_readPart 93 = .ok (.iconst 0, 1) := by decide +kernel
theorem dX6_readPart_94 : decode cX6_readPart 94 = .ok (.invokevirtual 60, 3) := by decide +kernel
theorem dX6_readPart_97 : decode cX6_readPart 97 = .ok (.iconst 1, 1) := by decide +kernel
theorem dX6_readPart_98 : decode cX6_readPart 98 = .ok (.ireturn, 1) := by decide +kernel
def w_X6_readPart_97  (h : AH) (Q : Int32 → AH → Prop) : Prop :=
  Q (1 : Int32) h
def w_X6_readPart_72  (v0 : Nat) (h : AH) (Q : Int32 → AH → Prop) : Prop :=
  vr h v0 6 (
  w_X6_refuse v0 h (fun x1 h =>
  z1 x1 (Q x1 h)))
def w_X6_readPart_52  (v0 : Nat) (v1 : Int32) (h : AH) (Q : Int32 → AH → Prop) : Prop :=
  fI h v0 6 6 fun x1 =>
  fI h v0 6 7 fun x2 =>
  bd (x1 - x2) fun x3 =>
  br (x3 < 0) (
    w_X6_readPart_72 v0 h Q) (
    br (x3 < (7 : Int32)) (
      vr h v0 6 (
      w_X6_addStep v0 (1 : Int32) x3 h (fun h =>
      vr h v0 6 (
      w_X6_goOn v0 h (fun h =>
      br (v1 = 0) (
        w_X6_readPart_97  h Q) (
        vr h v0 6 (
        w_X6_addStep v0 (2 : Int32) (0 : Int32) h (fun h =>
        w_X6_readPart_97  h Q)))))))) (
      w_X6_readPart_72 v0 h Q))
def w_X6_readPart_15  (v0 : Nat) (t0 : Int32) (h : AH) (Q : Int32 → AH → Prop) : Prop :=
  br (t0 = 0) (
    w_X6_readPart_52 v0 t0 h Q) (
    fI h v0 6 6 fun x1 =>
    vr h v0 6 (
    w_X6_addStep v0 (0 : Int32) (x1 - (2000 : Int32)) h (fun h =>
    vr h v0 6 (
    w_X6_goOn v0 h (fun h =>
    fI h v0 6 6 fun x2 =>
    br (x2 = (42 : Int32)) (
      vr h v0 6 (
      w_X6_goOn v0 h (fun h =>
      w_X6_readPart_52 v0 t0 h Q))) (
      Q (1 : Int32) h))))))
def w_X6_readPart  (v0 : Nat) (h : AH) (Q : Int32 → AH → Prop) : Prop :=
  fI h v0 6 6 fun x1 =>
  br (x1 < (2000 : Int32)) (
    w_X6_readPart_15 v0 (0 : Int32) h Q) (
    w_X6_readPart_15 v0 (1 : Int32) h Q)
set_option maxRecDepth 100000 in
set_option maxHeartbeats 4000000 in
theorem s_X6_readPart_97 {p : Program} {l : Launch} {e : Env} {s : State} {m : MethodId} {args : Array Value} {below : List Frame} {meth : Method} {c : Code} {g : GG}  {Q : Int32 → AH → Prop}  (C : CXT p l s m args meth c RX6 cX6_readPart 3 g) (hr : meth.sig.returnType = (some .boolean))  : ∀  (h : AH), w_X6_readPart_97  h Q → V p l e s m args below meth c g 1 0 0 3 0 0 (MQ below (QCx g (QI Q)) args s 0 0 (gA g)) 97 [] [] h := by
  intro  h hw
  refine v_iconst (v := 1) C dX6_readPart_97 (by decide) ?_
  exact (rt_MQ C _).2.1 _ _ _ _ _ _ _ hr rfl dX6_readPart_98 (by decide) (by decide) ⟨_, rfl, hw⟩
set_option maxRecDepth 100000 in
set_option maxHeartbeats 4000000 in
theorem s_X6_readPart_72 {p : Program} {l : Launch} {e : Env} {s : State} {m : MethodId} {args : Array Value} {below : List Frame} {meth : Method} {c : Code} {g : GG}  {Q : Int32 → AH → Prop}  (C : CXT p l s m args meth c RX6 cX6_readPart 3 g) (hr : meth.sig.returnType = (some .boolean))  : ∀ (v0 : Nat) (h : AH), w_X6_readPart_72  v0 h Q → V p l e s m args below meth c g 1 0 0 3 0 0 (MQ below (QCx g (QI Q)) args s 0 0 (gA g)) 72 [(0, .ref v0)] [] h := by
  intro v0 h hw
  refine v_aload_n C dX6_readPart_72 0 rfl rfl ?_
  refine w_callVi (st := []) C cl_X6_50 im_X6_refuse se_X6_refuse rfl hw.1 (s_X6_refuse hw.2) rfl dX6_readPart_73 rfl (by decide) (by decide) (by decide) (by decide) (by decide) (fun x1 h hw => ?_)
  exact (rt_MQ C _).2.1 _ _ _ _ _ _ _ hr (by rcases hw.1 with z | z <;> rw [z] <;> rfl) dX6_readPart_76 (by decide) (by decide) ⟨_, rfl, hw.2⟩
set_option maxRecDepth 100000 in
set_option maxHeartbeats 4000000 in
theorem s_X6_readPart_52 {p : Program} {l : Launch} {e : Env} {s : State} {m : MethodId} {args : Array Value} {below : List Frame} {meth : Method} {c : Code} {g : GG}  {Q : Int32 → AH → Prop}  (C : CXT p l s m args meth c RX6 cX6_readPart 3 g) (hr : meth.sig.returnType = (some .boolean))  : ∀ (v0 : Nat) (v1 : Int32) (h : AH), w_X6_readPart_52  v0 v1 h Q → V p l e s m args below meth c g 1 0 0 3 0 0 (MQ below (QCx g (QI Q)) args s 0 0 (gA g)) 52 [(0, .ref v0), (1, .int v1)] [] h := by
  intro v0 v1 h hw
  refine v_aload_n C dX6_readPart_52 0 rfl rfl ?_
  refine w_getI C fl_X6_43 dX6_readPart_53 rfl hw (fun x1 hw => ?_)
  refine v_aload_n C dX6_readPart_56 0 rfl rfl ?_
  refine w_getI C fl_X6_67 dX6_readPart_57 rfl hw (fun x2 hw => ?_)
  refine v_isub C dX6_readPart_60 ?_
  refine w_bd hw (fun x3 hw => ?_)
  refine v_istore_n (ls' := [(2, .int x3), (0, .ref v0), (1, .int v1)]) C dX6_readPart_61 rfl (by decide) rfl ?_
  refine v_iload_n C dX6_readPart_62 0 rfl rfl ?_
  refine v_if_lt (tgt := 72) C dX6_readPart_63 (by decide) (fun c_63 => ?_) (fun c_63 => ?_)
  · have hw := hw.1 c_63
    refine v_sub [1] rfl ?_
    exact s_X6_readPart_72 C hr  _ _ hw
  · have hw := hw.2 c_63
    refine v_iload_n C dX6_readPart_66 0 rfl rfl ?_
    refine v_bipush (v := 7) C dX6_readPart_67 (by decide) ?_
    refine v_icmp_lt (tgt := 77) C dX6_readPart_69 (by decide) (fun c_69 => ?_) (fun c_69 => ?_)
    · have hw := hw.1 c_69
      refine v_aload_n C dX6_readPart_77 1 rfl rfl ?_
      refine v_iconst (v := 1) C dX6_readPart_78 (by decide) ?_
      refine v_iload_n C dX6_readPart_79 0 rfl rfl ?_
      refine w_callVv (st := []) C cl_X6_60 im_X6_addStep se_X6_addStep rfl hw.1 (s_X6_addStep hw.2) rfl dX6_readPart_80 rfl (by decide) (by decide) (by decide) (by decide) (by decide) (fun h hw => ?_)
      refine v_aload_n C dX6_readPart_83 1 rfl rfl ?_
      refine w_callVv (st := []) C cl_X6_53 im_X6_goOn se_X6_goOn rfl hw.1 (s_X6_goOn hw.2) rfl dX6_readPart_84 rfl (by decide) (by decide) (by decide) (by decide) (by decide) (fun h hw => ?_)
      refine v_iload_n C dX6_readPart_87 2 rfl rfl ?_
      refine v_if_eq (tgt := 97) C dX6_readPart_88 (by decide) (fun c_88 => ?_) (fun c_88 => ?_)
      · have hw := hw.1 c_88
        refine v_sub [] rfl ?_
        exact s_X6_readPart_97 C hr   _ hw
      · have hw := hw.2 c_88
        refine v_aload_n C dX6_readPart_91 1 rfl rfl ?_
        refine v_iconst (v := 2) C dX6_readPart_92 (by decide) ?_
        refine v_iconst (v := 0) C dX6_readPart_93 (by decide) ?_
        refine w_callVv (st := []) C cl_X6_60 im_X6_addStep se_X6_addStep rfl hw.1 (s_X6_addStep hw.2) rfl dX6_readPart_94 rfl (by decide) (by decide) (by decide) (by decide) (by decide) (fun h hw => ?_)
        refine v_sub [] rfl ?_
        exact s_X6_readPart_97 C hr   _ hw
    · have hw := hw.2 c_69
      refine v_sub [1] rfl ?_
      exact s_X6_readPart_72 C hr  _ _ hw
set_option maxRecDepth 100000 in
set_option maxHeartbeats 4000000 in
theorem s_X6_readPart_15 {p : Program} {l : Launch} {e : Env} {s : State} {m : MethodId} {args : Array Value} {below : List Frame} {meth : Method} {c : Code} {g : GG}  {Q : Int32 → AH → Prop}  (C : CXT p l s m args meth c RX6 cX6_readPart 3 g) (hr : meth.sig.returnType = (some .boolean))  : ∀ (v0 : Nat) (t0 : Int32) (h : AH), w_X6_readPart_15  v0 t0 h Q → V p l e s m args below meth c g 1 0 0 3 0 0 (MQ below (QCx g (QI Q)) args s 0 0 (gA g)) 15 [(0, .ref v0)] [.int t0] h := by
  intro v0 t0 h hw
  refine v_istore_n (ls' := [(1, .int t0), (0, .ref v0)]) C dX6_readPart_15 rfl (by decide) rfl ?_
  refine v_iload_n C dX6_readPart_16 0 rfl rfl ?_
  refine v_if_eq (tgt := 52) C dX6_readPart_17 (by decide) (fun c_17 => ?_) (fun c_17 => ?_)
  · have hw := hw.1 c_17
    refine v_sub [1, 0] rfl ?_
    exact s_X6_readPart_52 C hr  _ _ _ hw
  · have hw := hw.2 c_17
    refine v_aload_n C dX6_readPart_20 1 rfl rfl ?_
    refine v_iconst (v := 0) C dX6_readPart_21 (by decide) ?_
    refine v_aload_n C dX6_readPart_22 1 rfl rfl ?_
    refine w_getI C fl_X6_43 dX6_readPart_23 rfl hw (fun x1 hw => ?_)
    refine v_sipush (v := 2000) C dX6_readPart_26 (by decide) ?_
    refine v_isub C dX6_readPart_29 ?_
    refine w_callVv (st := []) C cl_X6_60 im_X6_addStep se_X6_addStep rfl hw.1 (s_X6_addStep hw.2) rfl dX6_readPart_30 rfl (by decide) (by decide) (by decide) (by decide) (by decide) (fun h hw => ?_)
    refine v_aload_n C dX6_readPart_33 1 rfl rfl ?_
    refine w_callVv (st := []) C cl_X6_53 im_X6_goOn se_X6_goOn rfl hw.1 (s_X6_goOn hw.2) rfl dX6_readPart_34 rfl (by decide) (by decide) (by decide) (by decide) (by decide) (fun h hw => ?_)
    refine v_aload_n C dX6_readPart_37 1 rfl rfl ?_
    refine w_getI C fl_X6_43 dX6_readPart_38 rfl hw (fun x2 hw => ?_)
    refine v_bipush (v := 42) C dX6_readPart_41 (by decide) ?_
    refine v_icmp_eq (tgt := 48) C dX6_readPart_43 (by decide) (fun c_43 => ?_) (fun c_43 => ?_)
    · have hw := hw.1 c_43
      refine v_aload_n C dX6_readPart_48 1 rfl rfl ?_
      refine w_callVv (st := []) C cl_X6_53 im_X6_goOn se_X6_goOn rfl hw.1 (s_X6_goOn hw.2) rfl dX6_readPart_49 rfl (by decide) (by decide) (by decide) (by decide) (by decide) (fun h hw => ?_)
      refine v_sub [1, 0] rfl ?_
      exact s_X6_readPart_52 C hr  _ _ _ hw
    · have hw := hw.2 c_43
      refine v_iconst (v := 1) C dX6_readPart_46 (by decide) ?_
      exact (rt_MQ C _).2.1 _ _ _ _ _ _ _ hr rfl dX6_readPart_47 (by decide) (by decide) ⟨_, rfl, hw⟩
set_option maxRecDepth 100000 in
set_option maxHeartbeats 4000000 in
theorem s_X6_readPart {l : Launch}  {v0 : Nat} {h : AH} {Q : Int32 → AH → Prop}  (hw : w_X6_readPart  v0 h Q) : CT l yX6_readPart cX6_readPart 3 (some .boolean) 1 0 0 [.ref v0] h (QI Q) := by
  refine CT.of (by decide) ⟨rfl, trivial⟩ (Nat.le_of_ble_eq_true rfl) ?_
  intro p e s m args below meth c g C hr hin
  refine v_eq (pc' := 0) (ls' := [(0, .ref v0)]) rfl rfl rfl rfl ?_
  refine v_aload_n C dX6_readPart_0 0 rfl rfl ?_
  refine w_getI C fl_X6_43 dX6_readPart_1 rfl hw (fun x1 hw => ?_)
  refine v_sipush (v := 2000) C dX6_readPart_4 (by decide) ?_
  refine v_icmp_lt (tgt := 14) C dX6_readPart_7 (by decide) (fun c_7 => ?_) (fun c_7 => ?_)
  · have hw := hw.1 c_7
    refine v_iconst (v := 0) C dX6_readPart_14 (by decide) ?_
    exact s_X6_readPart_15 C hr  _ _ _ hw
  · have hw := hw.2 c_7
    refine v_iconst (v := 1) C dX6_readPart_10 (by decide) ?_
    refine v_goto (tgt := 15) C dX6_readPart_11 (by decide) ?_
    exact s_X6_readPart_15 C hr  _ _ _ hw
-- GrassField$Reader.readSum()Z
theorem dX6_readSum_0 : decode cX6_readSum 0 = .ok (.aload_n 0, 1) := by decide +kernel
theorem dX6_readSum_1 : decode cX6_readSum 1 = .ok (.invokevirtual 91, 3) := by decide +kernel
theorem dX6_readSum_4 : decode cX6_readSum 4 = .ok (.ifCond .ne 5, 3) := by decide +kernel
theorem dX6_readSum_7 : decode cX6_readSum 7 = .ok (.iconst 0, 1) := by decide +kernel
theorem dX6_readSum_8 : decode cX6_readSum 8 = .ok (.ireturn, 1) := by decide +kernel
theorem dX6_readSum_9 : decode cX6_readSum 9 = .ok (.iconst 0, 1) := by decide +kernel
theorem dX6_readSum_10 : decode cX6_readSum 10 = .ok (.istore_n 1, 1) := by decide +kernel
theorem dX6_readSum_11 : decode cX6_readSum 11 = .ok (.iload_n 1, 1) := by decide +kernel
theorem dX6_readSum_12 : decode cX6_readSum 12 = .ok (.sipush 400, 3) := by decide +kernel
theorem dX6_readSum_15 : decode cX6_readSum 15 = .ok (.if_icmp .ge 37, 3) := by decide +kernel
theorem dX6_readSum_18 : decode cX6_readSum 18 = .ok (.aload_n 0, 1) := by decide +kernel
theorem dX6_readSum_19 : decode cX6_readSum 19 = .ok (.getfield 43, 3) := by decide +kernel
theorem dX6_readSum_22 : decode cX6_readSum 22 = .ok (.bipush 43, 2) := by decide +kernel
theorem dX6_readSum_24 : decode cX6_readSum 24 = .ok (.if_icmp .ne 28, 3) := by decide +kernel
theorem dX6_readSum_27 : decode cX6_readSum 27 = .ok (.aload_n 0, 1) := by decide +kernel
theorem dX6_readSum_28 : decode cX6_readSum 28 = .ok (.invokevirtual 53, 3) := by decide +kernel
theorem dX6_readSum_31 : decode cX6_readSum 31 = .ok (.aload_n 0, 1) := by decide +kernel
theorem dX6_readSum_32 : decode cX6_readSum 32 = .ok (.invokevirtual 91, 3) := by decide +kernel
theorem dX6_readSum_35 : decode cX6_readSum 35 = .ok (.ifCond .ne 5, 3) := by decide +kernel
theorem dX6_readSum_38 : decode cX6_readSum 38 = .ok (.iconst 0, 1) := by decide +kernel
theorem dX6_readSum_39 : decode cX6_readSum 39 = .ok (.ireturn, 1) := by decide +kernel
theorem dX6_readSum_40 : decode cX6_readSum 40 = .ok (.aload_n 0, 1) := by decide +kernel
theorem dX6_readSum_41 : decode cX6_readSum 41 = .ok (.iconst 3, 1) := by decide +kernel
theorem dX6_readSum_42 : decode cX6_readSum 42 = .ok (.iconst 0, 1) := by decide +kernel
theorem dX6_readSum_43 : decode cX6_readSum 43 = .ok (.invokevirtual 60, 3) := by decide +kernel
theorem dX6_readSum_46 : decode cX6_readSum 46 = .ok (.iinc 1 1, 3) := by decide +kernel
theorem dX6_readSum_49 : decode cX6_readSum 49 = .ok (.goto (-38), 3) := by decide +kernel
theorem dX6_readSum_52 : decode cX6_readSum 52 = .ok (.iconst 1, 1) := by decide +kernel
theorem dX6_readSum_53 : decode cX6_readSum 53 = .ok (.ireturn, 1) := by decide +kernel
def w_X6_readSum_52  (h : AH) (Q : Int32 → AH → Prop) : Prop :=
  Q (1 : Int32) h
def w_X6_readSum_38  (h : AH) (Q : Int32 → AH → Prop) : Prop :=
  Q (0 : Int32) h
def w_X6_readSum_11  (x38 : AH → Prop) (x52 : AH → Prop) (k : Int32 → AH → Prop) (v0 : Nat) (v1 : Int32) (h : AH) (Q : Int32 → AH → Prop) : Prop :=
  br ((400 : Int32) ≤ v1) (
    x52  h) (
    fI h v0 6 6 fun x1 =>
    br (x1 = (43 : Int32)) (
      vr h v0 6 (
      w_X6_goOn v0 h (fun h =>
      vr h v0 6 (
      w_X6_readPart v0 h (fun x2 h =>
      br (x2 = 0) (
        x38  h) (
        vr h v0 6 (
        w_X6_addStep v0 (3 : Int32) (0 : Int32) h (fun h =>
        k (v1 + 1) h)))))))) (
      x52  h))
def w_X6_readSum  (v0 : Nat) (h : AH) (Q : Int32 → AH → Prop) : Prop :=
  vr h v0 6 (
  w_X6_readPart v0 h (fun x1 h =>
  br (x1 = 0) (
    Q (0 : Int32) h) (
    lp (fun (k2 : Int32 × AH → Prop) (s2 : Int32 × AH) => w_X6_readSum_11  (fun  h => w_X6_readSum_38  h Q) (fun  h => w_X6_readSum_52  h Q) (fun (y1 : Int32) h => k2 (y1, h)) v0 s2.1 s2.2 Q) ((0 : Int32), h))))
set_option maxRecDepth 100000 in
set_option maxHeartbeats 4000000 in
theorem s_X6_readSum_52 {p : Program} {l : Launch} {e : Env} {s : State} {m : MethodId} {args : Array Value} {below : List Frame} {meth : Method} {c : Code} {g : GG}  {Q : Int32 → AH → Prop}  (C : CXT p l s m args meth c RX6 cX6_readSum 2 g) (hr : meth.sig.returnType = (some .boolean))  : ∀  (h : AH), w_X6_readSum_52  h Q → V p l e s m args below meth c g 2 0 0 2 0 0 (MQ below (QCx g (QI Q)) args s 0 0 (gA g)) 52 [] [] h := by
  intro  h hw
  refine v_iconst (v := 1) C dX6_readSum_52 (by decide) ?_
  exact (rt_MQ C _).2.1 _ _ _ _ _ _ _ hr rfl dX6_readSum_53 (by decide) (by decide) ⟨_, rfl, hw⟩
set_option maxRecDepth 100000 in
set_option maxHeartbeats 4000000 in
theorem s_X6_readSum_38 {p : Program} {l : Launch} {e : Env} {s : State} {m : MethodId} {args : Array Value} {below : List Frame} {meth : Method} {c : Code} {g : GG}  {Q : Int32 → AH → Prop}  (C : CXT p l s m args meth c RX6 cX6_readSum 2 g) (hr : meth.sig.returnType = (some .boolean))  : ∀  (h : AH), w_X6_readSum_38  h Q → V p l e s m args below meth c g 2 0 0 2 0 0 (MQ below (QCx g (QI Q)) args s 0 0 (gA g)) 38 [] [] h := by
  intro  h hw
  refine v_iconst (v := 0) C dX6_readSum_38 (by decide) ?_
  exact (rt_MQ C _).2.1 _ _ _ _ _ _ _ hr rfl dX6_readSum_39 (by decide) (by decide) ⟨_, rfl, hw⟩
set_option maxRecDepth 100000 in
set_option maxHeartbeats 4000000 in
theorem s_X6_readSum_11 {p : Program} {l : Launch} {e : Env} {s : State} {m : MethodId} {args : Array Value} {below : List Frame} {meth : Method} {c : Code} {g : GG} {v0 : Nat} {Q : Int32 → AH → Prop} {x38 : AH → Prop} {x52 : AH → Prop} {k : Int32 → AH → Prop} (C : CXT p l s m args meth c RX6 cX6_readSum 2 g) (hr : meth.sig.returnType = (some .boolean)) (hx38 : ∀  (h : AH), x38  h → V p l e s m args below meth c g 2 0 0 2 0 0 (MQ below (QCx g (QI Q)) args s 0 0 (gA g)) 38 [] [] h) (hx52 : ∀  (h : AH), x52  h → V p l e s m args below meth c g 2 0 0 2 0 0 (MQ below (QCx g (QI Q)) args s 0 0 (gA g)) 52 [] [] h) (hk : ∀ (y1 : Int32) (h : AH), k y1 h → V p l e s m args below meth c g 2 0 0 2 0 0 (MQ below (QCx g (QI Q)) args s 0 0 (gA g)) 11 [(0, .ref v0), (1, .int y1)] [] h) : ∀ (v1 : Int32) (h : AH), w_X6_readSum_11  x38 x52 k v0 v1 h Q → V p l e s m args below meth c g 2 0 0 2 0 0 (MQ below (QCx g (QI Q)) args s 0 0 (gA g)) 11 [(0, .ref v0), (1, .int v1)] [] h := by
  intro v1 h hw
  refine v_iload_n C dX6_readSum_11 1 rfl rfl ?_
  refine v_sipush (v := 400) C dX6_readSum_12 (by decide) ?_
  refine v_icmp_ge (tgt := 52) C dX6_readSum_15 (by decide) (fun c_15 => ?_) (fun c_15 => ?_)
  · have hw := hw.1 c_15
    refine v_sub [] rfl ?_
    exact hx52  _ hw
  · have hw := hw.2 c_15
    refine v_aload_n C dX6_readSum_18 0 rfl rfl ?_
    refine w_getI C fl_X6_43 dX6_readSum_19 rfl hw (fun x1 hw => ?_)
    refine v_bipush (v := 43) C dX6_readSum_22 (by decide) ?_
    refine v_icmp_ne (tgt := 52) C dX6_readSum_24 (by decide) (fun c_24 => ?_) (fun c_24 => ?_)
    · have hw := hw.2 c_24
      refine v_sub [] rfl ?_
      exact hx52  _ hw
    · have hw := hw.1 c_24
      refine v_aload_n C dX6_readSum_27 0 rfl rfl ?_
      refine w_callVv (st := []) C cl_X6_53 im_X6_goOn se_X6_goOn rfl hw.1 (s_X6_goOn hw.2) rfl dX6_readSum_28 rfl (by decide) (by decide) (by decide) (by decide) (by decide) (fun h hw => ?_)
      refine v_aload_n C dX6_readSum_31 0 rfl rfl ?_
      refine w_callVi (st := []) C cl_X6_91 im_X6_readPart se_X6_readPart rfl hw.1 (s_X6_readPart hw.2) rfl dX6_readSum_32 rfl (by decide) (by decide) (by decide) (by decide) (by decide) (fun x2 h hw => ?_)
      refine v_if_ne (tgt := 40) C dX6_readSum_35 (by decide) (fun c_35 => ?_) (fun c_35 => ?_)
      · have hw := hw.2 c_35
        refine v_aload_n C dX6_readSum_40 0 rfl rfl ?_
        refine v_iconst (v := 3) C dX6_readSum_41 (by decide) ?_
        refine v_iconst (v := 0) C dX6_readSum_42 (by decide) ?_
        refine w_callVv (st := []) C cl_X6_60 im_X6_addStep se_X6_addStep rfl hw.1 (s_X6_addStep hw.2) rfl dX6_readSum_43 rfl (by decide) (by decide) (by decide) (by decide) (by decide) (fun h hw => ?_)
        refine v_iinc (v := 1) (ls' := [(1, .int (v1 + 1)), (0, .ref v0)]) C dX6_readSum_46 1 rfl (by decide) (by decide) rfl ?_
        refine v_goto (tgt := 11) C dX6_readSum_49 (by decide) ?_
        refine v_sub [1, 0] rfl ?_
        exact hk _ _ hw
      · have hw := hw.1 c_35
        refine v_sub [] rfl ?_
        exact hx38  _ hw
set_option maxRecDepth 100000 in
set_option maxHeartbeats 4000000 in
theorem s_X6_readSum {l : Launch}  {v0 : Nat} {h : AH} {Q : Int32 → AH → Prop}  (hw : w_X6_readSum  v0 h Q) : CT l yX6_readSum cX6_readSum 2 (some .boolean) 2 0 0 [.ref v0] h (QI Q) := by
  refine CT.of (by decide) ⟨rfl, trivial⟩ (Nat.le_of_ble_eq_true rfl) ?_
  intro p e s m args below meth c g C hr hin
  refine v_eq (pc' := 0) (ls' := [(0, .ref v0)]) rfl rfl rfl rfl ?_
  refine v_aload_n C dX6_readSum_0 0 rfl rfl ?_
  refine w_callVi (st := []) C cl_X6_91 im_X6_readPart se_X6_readPart rfl hw.1 (s_X6_readPart hw.2) rfl dX6_readSum_1 rfl (by decide) (by decide) (by decide) (by decide) (by decide) (fun x1 h hw => ?_)
  refine v_if_ne (tgt := 9) C dX6_readSum_4 (by decide) (fun c_4 => ?_) (fun c_4 => ?_)
  · have hw := hw.2 c_4
    refine v_iconst (v := 0) C dX6_readSum_9 (by decide) ?_
    refine v_istore_n (ls' := [(1, .int (0 : Int32)), (0, .ref v0)]) C dX6_readSum_10 rfl (by decide) rfl ?_
    refine v_sub [1, 0] rfl ?_
    refine lp_walk (P := fun (s' : Int32 × AH) => V p l e s m args below meth c g 2 0 0 2 0 0 (MQ below (QCx g (QI Q)) args s 0 0 (gA g)) 11 [(0, .ref v0), (1, .int (s'.1))] [] s'.2) (fun k2 hk2 s' hw => ?_) ((0 : Int32), h) hw
    exact s_X6_readSum_11 C hr (fun  h hw => s_X6_readSum_38 C hr   h hw) (fun  h hw => s_X6_readSum_52 C hr   h hw) (fun y1 h hw => hk2 (y1, h) hw) _ _ hw
  · have hw := hw.1 c_4
    refine v_iconst (v := 0) C dX6_readSum_7 (by decide) ?_
    exact (rt_MQ C _).2.1 _ _ _ _ _ _ _ hr rfl dX6_readSum_8 (by decide) (by decide) ⟨_, rfl, hw⟩
-- GrassField$Reader.readComparison()Z
theorem dX6_readComparison_0 : decode cX6_readComparison 0 = .ok (.aload_n 0, 1) := by decide +kernel
theorem dX6_readComparison_1 : decode cX6_readComparison 1 = .ok (.invokevirtual 88, 3) := by decide +kernel
theorem dX6_readComparison_4 : decode cX6_readComparison 4 = .ok (.ifCond .ne 5, 3) := by decide +kernel
theorem dX6_readComparison_7 : decode cX6_readComparison 7 = .ok (.iconst 0, 1) := by decide +kernel
theorem dX6_readComparison_8 : decode cX6_readComparison 8 = .ok (.ireturn, 1) := by decide +kernel
theorem dX6_readComparison_9 : decode cX6_readComparison 9 = .ok (.aload_n 0, 1) := by decide +kernel
theorem dX6_readComparison_10 : decode cX6_readComparison 10 = .ok (.getfield 43, 3) := by decide +kernel
theorem dX6_readComparison_13 : decode cX6_readComparison 13 = .ok (.bipush 60, 2) := by decide +kernel
theorem dX6_readComparison_15 : decode cX6_readComparison 15 = .ok (.if_icmp .eq 17, 3) := by decide +kernel
theorem dX6_readComparison_18 : decode cX6_readComparison 18 = .ok (.aload_n 0, 1) := by decide +kernel
theorem dX6_readComparison_19 : decode cX6_readComparison 19 = .ok (.getfield 43, 3) := by decide +kernel
theorem dX6_readComparison_22 : decode cX6_readComparison 22 = .ok (.bipush 62, 2) := by decide +kernel
theorem dX6_readComparison_24 : decode cX6_readComparison 24 = .ok (.if_icmp .eq 8, 3) := by decide +kernel
theorem dX6_readComparison_27 : decode cX6_readComparison 27 = .ok (.aload_n 0, 1) := by decide +kernel
theorem dX6_readComparison_28 : decode cX6_readComparison 28 = .ok (.invokevirtual 50, 3) := by decide +kernel
theorem dX6_readComparison_31 : decode cX6_readComparison 31 = .ok (.ireturn, 1) := by decide +kernel
theorem dX6_readComparison_32 : decode cX6_readComparison 32 = .ok (.aload_n 0, 1) := by decide +kernel
theorem dX6_readComparison_33 : decode cX6_readComparison 33 = .ok (.getfield 43, 3) := by decide +kernel
theorem dX6_readComparison_36 : decode cX6_readComparison 36 = .ok (.bipush 60, 2) := by decide +kernel
theorem dX6_readComparison_38 : decode cX6_readComparison 38 = .ok (.if_icmp .ne 7, 3) := by decide +kernel
theorem dX6_readComparison_41 : decode cX6_readComparison 41 = .ok (.iconst 4, 1) := by decide +kernel
theorem dX6_readComparison_42 : decode cX6_readComparison 42 = .ok (.goto 4, 3) := by decide +kernel
theorem dX6_readComparison_45 : decode cX6_readComparison 45 = .ok (.iconst 5, 1) := by decide +kernel
theorem dX6_readComparison_46 : decode cX6_readComparison 46 = .ok (.istore_n 1, 1) := by decide +kernel
theorem dX6_readComparison_47 : decode cX6_readComparison 47 = .ok (.aload_n 0, 1) := by decide +kernel
theorem dX6_readComparison_48 : decode cX6_readComparison 48 = .ok (.invokevirtual 53, 3) := by decide +kernel
theorem dX6_readComparison_51 : decode cX6_readComparison 51 = .ok (.aload_n 0, 1) := by decide +kernel
theorem dX6_readComparison_52 : decode cX6_readComparison 52 = .ok (.invokevirtual 88, 3) := by decide +kernel
theorem dX6_readComparison_55 : decode cX6_readComparison 55 = .ok (.ifCond .ne 5, 3) := by decide +kernel
theorem dX6_readComparison_58 : decode cX6_readComparison 58 = .ok (.iconst 0, 1) := by decide +kernel
theorem dX6_readComparison_59 : decode cX6_readComparison 59 = .ok (.ireturn, 1) := by decide +kernel
theorem dX6_readComparison_60 : decode cX6_readComparison 60 = .ok (.aload_n 0, 1) := by decide +kernel
theorem dX6_readComparison_61 : decode cX6_readComparison 61 = .ok (.iload_n 1, 1) := by decide +kernel
theorem dX6_readComparison_62 : decode cX6_readComparison 62 = .ok (.iconst 0, 1) := by decide +kernel
theorem dX6_readComparison_63 : decode cX6_readComparison 63 = .ok (.invokevirtual 60, 3) := by decide +kernel
theorem dX6_readComparison_66 : decode cX6_readComparison 66 = .ok (.iconst 1, 1) := by decide +kernel
theorem dX6_readComparison_67 : decode cX6_readComparison 67 = .ok (.ireturn, 1) := by decide +kernel
def w_X6_readComparison_46  (v0 : Nat) (t0 : Int32) (h : AH) (Q : Int32 → AH → Prop) : Prop :=
  vr h v0 6 (
  w_X6_goOn v0 h (fun h =>
  vr h v0 6 (
  w_X6_readSum v0 h (fun x1 h =>
  br (x1 = 0) (
    Q (0 : Int32) h) (
    vr h v0 6 (
    w_X6_addStep v0 t0 (0 : Int32) h (fun h =>
    Q (1 : Int32) h)))))))
def w_X6_readComparison_32  (v0 : Nat) (h : AH) (Q : Int32 → AH → Prop) : Prop :=
  fI h v0 6 6 fun x1 =>
  br (x1 = (60 : Int32)) (
    w_X6_readComparison_46 v0 (4 : Int32) h Q) (
    w_X6_readComparison_46 v0 (5 : Int32) h Q)
def w_X6_readComparison  (v0 : Nat) (h : AH) (Q : Int32 → AH → Prop) : Prop :=
  vr h v0 6 (
  w_X6_readSum v0 h (fun x1 h =>
  br (x1 = 0) (
    Q (0 : Int32) h) (
    fI h v0 6 6 fun x2 =>
    br (x2 = (60 : Int32)) (
      w_X6_readComparison_32 v0 h Q) (
      fI h v0 6 6 fun x3 =>
      br (x3 = (62 : Int32)) (
        w_X6_readComparison_32 v0 h Q) (
        vr h v0 6 (
        w_X6_refuse v0 h (fun x4 h =>
        z1 x4 (Q x4 h))))))))
set_option maxRecDepth 100000 in
set_option maxHeartbeats 4000000 in
theorem s_X6_readComparison_46 {p : Program} {l : Launch} {e : Env} {s : State} {m : MethodId} {args : Array Value} {below : List Frame} {meth : Method} {c : Code} {g : GG}  {Q : Int32 → AH → Prop}  (C : CXT p l s m args meth c RX6 cX6_readComparison 2 g) (hr : meth.sig.returnType = (some .boolean))  : ∀ (v0 : Nat) (t0 : Int32) (h : AH), w_X6_readComparison_46  v0 t0 h Q → V p l e s m args below meth c g 3 0 0 2 0 0 (MQ below (QCx g (QI Q)) args s 0 0 (gA g)) 46 [(0, .ref v0)] [.int t0] h := by
  intro v0 t0 h hw
  refine v_istore_n (ls' := [(1, .int t0), (0, .ref v0)]) C dX6_readComparison_46 rfl (by decide) rfl ?_
  refine v_aload_n C dX6_readComparison_47 1 rfl rfl ?_
  refine w_callVv (st := []) C cl_X6_53 im_X6_goOn se_X6_goOn rfl hw.1 (s_X6_goOn hw.2) rfl dX6_readComparison_48 rfl (by decide) (by decide) (by decide) (by decide) (by decide) (fun h hw => ?_)
  refine v_aload_n C dX6_readComparison_51 1 rfl rfl ?_
  refine w_callVi (st := []) C cl_X6_88 im_X6_readSum se_X6_readSum rfl hw.1 (s_X6_readSum hw.2) rfl dX6_readComparison_52 rfl (by decide) (by decide) (by decide) (by decide) (by decide) (fun x1 h hw => ?_)
  refine v_if_ne (tgt := 60) C dX6_readComparison_55 (by decide) (fun c_55 => ?_) (fun c_55 => ?_)
  · have hw := hw.2 c_55
    refine v_aload_n C dX6_readComparison_60 1 rfl rfl ?_
    refine v_iload_n C dX6_readComparison_61 0 rfl rfl ?_
    refine v_iconst (v := 0) C dX6_readComparison_62 (by decide) ?_
    refine w_callVv (st := []) C cl_X6_60 im_X6_addStep se_X6_addStep rfl hw.1 (s_X6_addStep hw.2) rfl dX6_readComparison_63 rfl (by decide) (by decide) (by decide) (by decide) (by decide) (fun h hw => ?_)
    refine v_iconst (v := 1) C dX6_readComparison_66 (by decide) ?_
    exact (rt_MQ C _).2.1 _ _ _ _ _ _ _ hr rfl dX6_readComparison_67 (by decide) (by decide) ⟨_, rfl, hw⟩
  · have hw := hw.1 c_55
    refine v_iconst (v := 0) C dX6_readComparison_58 (by decide) ?_
    exact (rt_MQ C _).2.1 _ _ _ _ _ _ _ hr rfl dX6_readComparison_59 (by decide) (by decide) ⟨_, rfl, hw⟩
set_option maxRecDepth 100000 in
set_option maxHeartbeats 4000000 in
theorem s_X6_readComparison_32 {p : Program} {l : Launch} {e : Env} {s : State} {m : MethodId} {args : Array Value} {below : List Frame} {meth : Method} {c : Code} {g : GG}  {Q : Int32 → AH → Prop}  (C : CXT p l s m args meth c RX6 cX6_readComparison 2 g) (hr : meth.sig.returnType = (some .boolean))  : ∀ (v0 : Nat) (h : AH), w_X6_readComparison_32  v0 h Q → V p l e s m args below meth c g 3 0 0 2 0 0 (MQ below (QCx g (QI Q)) args s 0 0 (gA g)) 32 [(0, .ref v0)] [] h := by
  intro v0 h hw
  refine v_aload_n C dX6_readComparison_32 0 rfl rfl ?_
  refine w_getI C fl_X6_43 dX6_readComparison_33 rfl hw (fun x1 hw => ?_)
  refine v_bipush (v := 60) C dX6_readComparison_36 (by decide) ?_
  refine v_icmp_ne (tgt := 45) C dX6_readComparison_38 (by decide) (fun c_38 => ?_) (fun c_38 => ?_)
  · have hw := hw.2 c_38
    refine v_iconst (v := 5) C dX6_readComparison_45 (by decide) ?_
    exact s_X6_readComparison_46 C hr  _ _ _ hw
  · have hw := hw.1 c_38
    refine v_iconst (v := 4) C dX6_readComparison_41 (by decide) ?_
    refine v_goto (tgt := 46) C dX6_readComparison_42 (by decide) ?_
    exact s_X6_readComparison_46 C hr  _ _ _ hw
set_option maxRecDepth 100000 in
set_option maxHeartbeats 4000000 in
theorem s_X6_readComparison {l : Launch}  {v0 : Nat} {h : AH} {Q : Int32 → AH → Prop}  (hw : w_X6_readComparison  v0 h Q) : CT l yX6_readComparison cX6_readComparison 2 (some .boolean) 3 0 0 [.ref v0] h (QI Q) := by
  refine CT.of (by decide) ⟨rfl, trivial⟩ (Nat.le_of_ble_eq_true rfl) ?_
  intro p e s m args below meth c g C hr hin
  refine v_eq (pc' := 0) (ls' := [(0, .ref v0)]) rfl rfl rfl rfl ?_
  refine v_aload_n C dX6_readComparison_0 0 rfl rfl ?_
  refine w_callVi (st := []) C cl_X6_88 im_X6_readSum se_X6_readSum rfl hw.1 (s_X6_readSum hw.2) rfl dX6_readComparison_1 rfl (by decide) (by decide) (by decide) (by decide) (by decide) (fun x1 h hw => ?_)
  refine v_if_ne (tgt := 9) C dX6_readComparison_4 (by decide) (fun c_4 => ?_) (fun c_4 => ?_)
  · have hw := hw.2 c_4
    refine v_aload_n C dX6_readComparison_9 0 rfl rfl ?_
    refine w_getI C fl_X6_43 dX6_readComparison_10 rfl hw (fun x2 hw => ?_)
    refine v_bipush (v := 60) C dX6_readComparison_13 (by decide) ?_
    refine v_icmp_eq (tgt := 32) C dX6_readComparison_15 (by decide) (fun c_15 => ?_) (fun c_15 => ?_)
    · have hw := hw.1 c_15
      exact s_X6_readComparison_32 C hr  _ _ hw
    · have hw := hw.2 c_15
      refine v_aload_n C dX6_readComparison_18 0 rfl rfl ?_
      refine w_getI C fl_X6_43 dX6_readComparison_19 rfl hw (fun x3 hw => ?_)
      refine v_bipush (v := 62) C dX6_readComparison_22 (by decide) ?_
      refine v_icmp_eq (tgt := 32) C dX6_readComparison_24 (by decide) (fun c_24 => ?_) (fun c_24 => ?_)
      · have hw := hw.1 c_24
        exact s_X6_readComparison_32 C hr  _ _ hw
      · have hw := hw.2 c_24
        refine v_aload_n C dX6_readComparison_27 0 rfl rfl ?_
        refine w_callVi (st := []) C cl_X6_50 im_X6_refuse se_X6_refuse rfl hw.1 (s_X6_refuse hw.2) rfl dX6_readComparison_28 rfl (by decide) (by decide) (by decide) (by decide) (by decide) (fun x4 h hw => ?_)
        exact (rt_MQ C _).2.1 _ _ _ _ _ _ _ hr (by rcases hw.1 with z | z <;> rw [z] <;> rfl) dX6_readComparison_31 (by decide) (by decide) ⟨_, rfl, hw.2⟩
  · have hw := hw.1 c_4
    refine v_iconst (v := 0) C dX6_readComparison_7 (by decide) ?_
    exact (rt_MQ C _).2.1 _ _ _ _ _ _ _ hr rfl dX6_readComparison_8 (by decide) (by decide) ⟨_, rfl, hw⟩
-- GrassField$Reader.readHeld()Z
theorem dX6_readHeld_0 : decode cX6_readHeld 0 = .ok (.aload_n 0, 1) := by decide +kernel
theorem dX6_readHeld_1 : decode cX6_readHeld 1 = .ok (.invokevirtual 53, 3) := by decide +kernel
theorem dX6_readHeld_4 : decode cX6_readHeld 4 = .ok (.aload_n 0, 1) := by decide +kernel
theorem dX6_readHeld_5 : decode cX6_readHeld 5 = .ok (.getfield 43, 3) := by decide +kernel
theorem dX6_readHeld_8 : decode cX6_readHeld 8 = .ok (.sipush 2000, 3) := by decide +kernel
theorem dX6_readHeld_11 : decode cX6_readHeld 11 = .ok (.if_icmp .ge 8, 3) := by decide +kernel
theorem dX6_readHeld_14 : decode cX6_readHeld 14 = .ok (.aload_n 0, 1) := by decide +kernel
theorem dX6_readHeld_15 : decode cX6_readHeld 15 = .ok (.invokevirtual 50, 3) := by decide +kernel
theorem dX6_readHeld_18 : decode cX6_readHeld 18 = .ok (.ireturn, 1) := by decide +kernel
theorem dX6_readHeld_19 : decode cX6_readHeld 19 = .ok (.aload_n 0, 1) := by decide +kernel
theorem dX6_readHeld_20 : decode cX6_readHeld 20 = .ok (.iconst 1, 1) := by decide +kernel
theorem dX6_readHeld_21 : decode cX6_readHeld 21 = .ok (.bipush 7, 2) := by decide +kernel
theorem dX6_readHeld_23 : decode cX6_readHeld 23 = .ok (.invokevirtual 60, 3) := by decide +kernel
theorem dX6_readHeld_26 : decode cX6_readHeld 26 = .ok (.aload_n 0, 1) := by decide +kernel
theorem dX6_readHeld_27 : decode cX6_readHeld 27 = .ok (.iconst 0, 1) := by decide +kernel
theorem dX6_readHeld_28 : decode cX6_readHeld 28 = .ok (.aload_n 0, 1) := by decide +kernel
theorem dX6_readHeld_29 : decode cX6_readHeld 29 = .ok (.getfield 43, 3) := by decide +kernel
theorem dX6_readHeld_32 : decode cX6_readHeld 32 = .ok (.sipush 2000, 3) := by decide +kernel
theorem dX6_readHeld_35 : decode cX6_readHeld 35 = .ok (.isub, 1) := by decide +kernel
theorem dX6_readHeld_36 : decode cX6_readHeld 36 = .ok (.invokevirtual 60, 3) := by decide +kernel
theorem dX6_readHeld_39 : decode cX6_readHeld 39 = .ok (.aload_n 0, 1) := by decide +kernel
theorem dX6_readHeld_40 : decode cX6_readHeld 40 = .ok (.bipush 9, 2) := by decide +kernel
theorem dX6_readHeld_42 : decode cX6_readHeld 42 = .ok (.iconst 0, 1) := by decide +kernel
theorem dX6_readHeld_43 : decode cX6_readHeld 43 = .ok (.invokevirtual 60, 3) := by decide +kernel
theorem dX6_readHeld_46 : decode cX6_readHeld 46 = .ok (.aload_n 0, 1) := by decide +kernel
theorem dX6_readHeld_47 : decode cX6_readHeld 47 = .ok (.invokevirtual 53, 3) := by decide +kernel
theorem dX6_readHeld_50 : decode cX6_readHeld 50 = .ok (.iconst 1, 1) := by decide +kernel
theorem dX6_readHeld_51 : decode cX6_readHeld 51 = .ok (.ireturn, 1) := by decide +kernel
def w_X6_readHeld  (v0 : Nat) (h : AH) (Q : Int32 → AH → Prop) : Prop :=
  vr h v0 6 (
  w_X6_goOn v0 h (fun h =>
  fI h v0 6 6 fun x1 =>
  br ((2000 : Int32) ≤ x1) (
    vr h v0 6 (
    w_X6_addStep v0 (1 : Int32) (7 : Int32) h (fun h =>
    fI h v0 6 6 fun x2 =>
    vr h v0 6 (
    w_X6_addStep v0 (0 : Int32) (x2 - (2000 : Int32)) h (fun h =>
    vr h v0 6 (
    w_X6_addStep v0 (9 : Int32) (0 : Int32) h (fun h =>
    vr h v0 6 (
    w_X6_goOn v0 h (fun h =>
    Q (1 : Int32) h))))))))) (
    vr h v0 6 (
    w_X6_refuse v0 h (fun x3 h =>
    z1 x3 (Q x3 h))))))
set_option maxRecDepth 100000 in
set_option maxHeartbeats 4000000 in
theorem s_X6_readHeld {l : Launch}  {v0 : Nat} {h : AH} {Q : Int32 → AH → Prop}  (hw : w_X6_readHeld  v0 h Q) : CT l yX6_readHeld cX6_readHeld 1 (some .boolean) 1 0 0 [.ref v0] h (QI Q) := by
  refine CT.of (by decide) ⟨rfl, trivial⟩ (Nat.le_of_ble_eq_true rfl) ?_
  intro p e s m args below meth c g C hr hin
  refine v_eq (pc' := 0) (ls' := [(0, .ref v0)]) rfl rfl rfl rfl ?_
  refine v_aload_n C dX6_readHeld_0 0 rfl rfl ?_
  refine w_callVv (st := []) C cl_X6_53 im_X6_goOn se_X6_goOn rfl hw.1 (s_X6_goOn hw.2) rfl dX6_readHeld_1 rfl (by decide) (by decide) (by decide) (by decide) (by decide) (fun h hw => ?_)
  refine v_aload_n C dX6_readHeld_4 0 rfl rfl ?_
  refine w_getI C fl_X6_43 dX6_readHeld_5 rfl hw (fun x1 hw => ?_)
  refine v_sipush (v := 2000) C dX6_readHeld_8 (by decide) ?_
  refine v_icmp_ge (tgt := 19) C dX6_readHeld_11 (by decide) (fun c_11 => ?_) (fun c_11 => ?_)
  · have hw := hw.1 c_11
    refine v_aload_n C dX6_readHeld_19 0 rfl rfl ?_
    refine v_iconst (v := 1) C dX6_readHeld_20 (by decide) ?_
    refine v_bipush (v := 7) C dX6_readHeld_21 (by decide) ?_
    refine w_callVv (st := []) C cl_X6_60 im_X6_addStep se_X6_addStep rfl hw.1 (s_X6_addStep hw.2) rfl dX6_readHeld_23 rfl (by decide) (by decide) (by decide) (by decide) (by decide) (fun h hw => ?_)
    refine v_aload_n C dX6_readHeld_26 0 rfl rfl ?_
    refine v_iconst (v := 0) C dX6_readHeld_27 (by decide) ?_
    refine v_aload_n C dX6_readHeld_28 0 rfl rfl ?_
    refine w_getI C fl_X6_43 dX6_readHeld_29 rfl hw (fun x2 hw => ?_)
    refine v_sipush (v := 2000) C dX6_readHeld_32 (by decide) ?_
    refine v_isub C dX6_readHeld_35 ?_
    refine w_callVv (st := []) C cl_X6_60 im_X6_addStep se_X6_addStep rfl hw.1 (s_X6_addStep hw.2) rfl dX6_readHeld_36 rfl (by decide) (by decide) (by decide) (by decide) (by decide) (fun h hw => ?_)
    refine v_aload_n C dX6_readHeld_39 0 rfl rfl ?_
    refine v_bipush (v := 9) C dX6_readHeld_40 (by decide) ?_
    refine v_iconst (v := 0) C dX6_readHeld_42 (by decide) ?_
    refine w_callVv (st := []) C cl_X6_60 im_X6_addStep se_X6_addStep rfl hw.1 (s_X6_addStep hw.2) rfl dX6_readHeld_43 rfl (by decide) (by decide) (by decide) (by decide) (by decide) (fun h hw => ?_)
    refine v_aload_n C dX6_readHeld_46 0 rfl rfl ?_
    refine w_callVv (st := []) C cl_X6_53 im_X6_goOn se_X6_goOn rfl hw.1 (s_X6_goOn hw.2) rfl dX6_readHeld_47 rfl (by decide) (by decide) (by decide) (by decide) (by decide) (fun h hw => ?_)
    refine v_iconst (v := 1) C dX6_readHeld_50 (by decide) ?_
    exact (rt_MQ C _).2.1 _ _ _ _ _ _ _ hr rfl dX6_readHeld_51 (by decide) (by decide) ⟨_, rfl, hw⟩
  · have hw := hw.2 c_11
    refine v_aload_n C dX6_readHeld_14 0 rfl rfl ?_
    refine w_callVi (st := []) C cl_X6_50 im_X6_refuse se_X6_refuse rfl hw.1 (s_X6_refuse hw.2) rfl dX6_readHeld_15 rfl (by decide) (by decide) (by decide) (by decide) (by decide) (fun x3 h hw => ?_)
    exact (rt_MQ C _).2.1 _ _ _ _ _ _ _ hr (by rcases hw.1 with z | z <;> rw [z] <;> rfl) dX6_readHeld_18 (by decide) (by decide) ⟨_, rfl, hw.2⟩
