theorem iw_X10 : ∀ w ∈ u_ws RX10 TX10 9, w ∈ lw_tbl := (show ∀ w ∈ ([Cond.lays "GrassField$Ways" "GrassField$Ways" "size" "I", Cond.laysFinal "GrassField$Ways" "GrassField$Ways" "find" "[I", Cond.laysFinal "GrassField$Ways" "GrassField$Ways" "from" "[I", Cond.laysFinal "GrassField$Ways" "GrassField$Ways" "till" "[I", Cond.laysFinal "GrassField$Ways" "GrassField$Ways" "onFoot" "[I", Cond.laysFinal "GrassField$Ways" "GrassField$Ways" "best" "[I", Cond.laysFinal "GrassField$Ways" "GrassField$Ways" "byOne" "[I", Cond.laysFinal "GrassField$Ways" "GrassField$Ways" "hands" "[I", Cond.lays "GrassField$Ways" "GrassField$Ways" "soonest" "I"] : List Cond), w ∈ lw_tbl from List.forall_mem_cons.mpr ⟨(tb6 (List.mem_of_getElem? (i := 43) rfl)), List.forall_mem_cons.mpr ⟨(tb6 (List.mem_of_getElem? (i := 45) rfl)), List.forall_mem_cons.mpr ⟨(tb6 (List.mem_of_getElem? (i := 47) rfl)), List.forall_mem_cons.mpr ⟨(tb6 (List.mem_of_getElem? (i := 49) rfl)), List.forall_mem_cons.mpr ⟨(tb6 (List.mem_of_getElem? (i := 51) rfl)), List.forall_mem_cons.mpr ⟨(tb6 (List.mem_of_getElem? (i := 53) rfl)), List.forall_mem_cons.mpr ⟨(tb6 (List.mem_of_getElem? (i := 55) rfl)), List.forall_mem_cons.mpr ⟨(tb6 (List.mem_of_getElem? (i := 57) rfl)), List.forall_mem_cons.mpr ⟨(tb6 (List.mem_of_getElem? (i := 59) rfl)), fun _ h => nomatch h⟩⟩⟩⟩⟩⟩⟩⟩⟩)
theorem fl_X10_11 : FLk RX10 11 10 1 (RX10, TX10, 9) := ⟨rfl, by decide, iw_X10, Or.inl (tb6 (List.mem_of_getElem? (i := 34) rfl))⟩
theorem fp_X10_11 : FPk RX10 11 10 1 (RX10, TX10, 9) tyX10 2 := ⟨fl_X10_11, nmX10, tyX10_ok, Or.inr (Or.inr ⟨rfl, Or.inr ⟨_, rfl⟩, rfl⟩)⟩
theorem fl_X10_15 : FLk RX10 15 10 2 (RX10, TX10, 9) := ⟨rfl, by decide, iw_X10, Or.inl (tb6 (List.mem_of_getElem? (i := 35) rfl))⟩
theorem fp_X10_15 : FPk RX10 15 10 2 (RX10, TX10, 9) tyX10 2 := ⟨fl_X10_15, nmX10, tyX10_ok, Or.inr (Or.inr ⟨rfl, Or.inr ⟨_, rfl⟩, rfl⟩)⟩
theorem fl_X10_18 : FLk RX10 18 10 3 (RX10, TX10, 9) := ⟨rfl, by decide, iw_X10, Or.inl (tb6 (List.mem_of_getElem? (i := 36) rfl))⟩
theorem fp_X10_18 : FPk RX10 18 10 3 (RX10, TX10, 9) tyX10 2 := ⟨fl_X10_18, nmX10, tyX10_ok, Or.inr (Or.inr ⟨rfl, Or.inr ⟨_, rfl⟩, rfl⟩)⟩
theorem fl_X10_21 : FLk RX10 21 10 4 (RX10, TX10, 9) := ⟨rfl, by decide, iw_X10, Or.inl (tb6 (List.mem_of_getElem? (i := 37) rfl))⟩
theorem fp_X10_21 : FPk RX10 21 10 4 (RX10, TX10, 9) tyX10 2 := ⟨fl_X10_21, nmX10, tyX10_ok, Or.inr (Or.inr ⟨rfl, Or.inr ⟨_, rfl⟩, rfl⟩)⟩
theorem fl_X10_24 : FLk RX10 24 10 5 (RX10, TX10, 9) := ⟨rfl, by decide, iw_X10, Or.inl (tb6 (List.mem_of_getElem? (i := 38) rfl))⟩
theorem fp_X10_24 : FPk RX10 24 10 5 (RX10, TX10, 9) tyX10 2 := ⟨fl_X10_24, nmX10, tyX10_ok, Or.inr (Or.inr ⟨rfl, Or.inr ⟨_, rfl⟩, rfl⟩)⟩
theorem fl_X10_27 : FLk RX10 27 10 6 (RX10, TX10, 9) := ⟨rfl, by decide, iw_X10, Or.inl (tb6 (List.mem_of_getElem? (i := 39) rfl))⟩
theorem fp_X10_27 : FPk RX10 27 10 6 (RX10, TX10, 9) tyX10 2 := ⟨fl_X10_27, nmX10, tyX10_ok, Or.inr (Or.inr ⟨rfl, Or.inr ⟨_, rfl⟩, rfl⟩)⟩
theorem fl_X10_30 : FLk RX10 30 10 7 (RX10, TX10, 9) := ⟨rfl, by decide, iw_X10, Or.inl (tb6 (List.mem_of_getElem? (i := 40) rfl))⟩
theorem fp_X10_30 : FPk RX10 30 10 7 (RX10, TX10, 9) tyX10 2 := ⟨fl_X10_30, nmX10, tyX10_ok, Or.inr (Or.inr ⟨rfl, Or.inr ⟨_, rfl⟩, rfl⟩)⟩
theorem fl_X10_33 : FLk RX10 33 10 0 (RX10, TX10, 9) := ⟨rfl, by decide, iw_X10, Or.inl (tb6 (List.mem_of_getElem? (i := 32) rfl))⟩
theorem fp_X10_33 : FPk RX10 33 10 0 (RX10, TX10, 9) tyX10 0 := ⟨fl_X10_33, nmX10, tyX10_ok, Or.inl ⟨rfl, rfl, rfl⟩⟩
theorem fl_X10_41 : FLk RX10 41 1 2 (RX1, TX1, 10) := ⟨rfl, by decide, iw_X1, Or.inr ⟨"GrassField", (tb1 (List.mem_of_getElem? (i := 180) rfl))⟩⟩
theorem cl_X10_44 : CLk RX10 44 yX3_minutesOnFoot cX3_minutesOnFoot 3 (some .int) 2 := ⟨Or.inl (tb6 (List.mem_of_getElem? (i := 74) rfl)), (tb6 (List.mem_of_getElem? (i := 77) rfl)), (tb1 (List.mem_of_getElem? (i := 4) rfl)), by decide +kernel, by decide +kernel, by decide +kernel⟩
theorem im_X3_minutesOnFoot : Cond.instanceMethod yX3_minutesOnFoot ∈ lw_tbl := (tb6 (List.mem_of_getElem? (i := 75) rfl))
theorem se_X3_minutesOnFoot : Cond.selects RX3 yX3_minutesOnFoot yX3_minutesOnFoot ∈ lw_tbl := (tb6 (List.mem_of_getElem? (i := 76) rfl))
theorem fl_X10_37 : FLk RX10 37 1 5 (RX1, TX1, 10) := ⟨rfl, by decide, iw_X1, Or.inr ⟨"GrassField", (tb1 (List.mem_of_getElem? (i := 190) rfl))⟩⟩
theorem fl_X10_40 : FLk RX10 40 1 6 (RX1, TX1, 10) := ⟨rfl, by decide, iw_X1, Or.inr ⟨"GrassField", (tb1 (List.mem_of_getElem? (i := 193) rfl))⟩⟩
theorem ml_X10_68 : Cond.methodLink RX10 68 Lib.Math.min.name ∈ lw_tbl := (tb6 (List.mem_of_getElem? (i := 94) rfl))
theorem cl_X10_71 : CLk RX10 71 yX10_inTime cX10_inTime 4 (some .int) 2 := ⟨Or.inl (tb6 (List.mem_of_getElem? (i := 103) rfl)), (tb6 (List.mem_of_getElem? (i := 106) rfl)), (tb1 (List.mem_of_getElem? (i := 29) rfl)), by decide +kernel, by decide +kernel, by decide +kernel⟩
theorem im_X10_inTime : Cond.instanceMethod yX10_inTime ∈ lw_tbl := (tb6 (List.mem_of_getElem? (i := 105) rfl))
theorem se_X10_inTime : Cond.selects RX10 yX10_inTime yX10_inTime ∈ lw_tbl := (tbp3 8 rfl)
theorem ml_X10_63 : Cond.methodLink RX10 63 Lib.Math.max.name ∈ lw_tbl := (tb6 (List.mem_of_getElem? (i := 90) rfl))
theorem fl_X10_57 : FLk RX10 57 10 8 (RX10, TX10, 9) := ⟨rfl, by decide, iw_X10, Or.inl (tb6 (List.mem_of_getElem? (i := 41) rfl))⟩
theorem cl_X10_74 : CLk RX10 74 yX10_comeTo cX10_comeTo 6 none 2 := ⟨Or.inl (tb6 (List.mem_of_getElem? (i := 107) rfl)), (tb6 (List.mem_of_getElem? (i := 110) rfl)), (tb1 (List.mem_of_getElem? (i := 29) rfl)), by decide +kernel, by decide +kernel, by decide +kernel⟩
theorem im_X10_comeTo : Cond.instanceMethod yX10_comeTo ∈ lw_tbl := (tb6 (List.mem_of_getElem? (i := 109) rfl))
theorem se_X10_comeTo : Cond.selects RX10 yX10_comeTo yX10_comeTo ∈ lw_tbl := (tbp3 9 rfl)
theorem cl_X10_50 : CLk RX10 50 yX10_clearBest cX10_clearBest 3 none 0 := ⟨Or.inl (tb6 (List.mem_of_getElem? (i := 82) rfl)), (tb6 (List.mem_of_getElem? (i := 85) rfl)), (tb1 (List.mem_of_getElem? (i := 29) rfl)), by decide +kernel, by decide +kernel, by decide +kernel⟩
theorem im_X10_clearBest : Cond.instanceMethod yX10_clearBest ∈ lw_tbl := (tb6 (List.mem_of_getElem? (i := 84) rfl))
theorem se_X10_clearBest : Cond.selects RX10 yX10_clearBest yX10_clearBest ∈ lw_tbl := (tbp3 6 rfl)
theorem cl_X10_60 : CLk RX10 60 yX10_sooner cX10_sooner 2 (some .int) 2 := ⟨Or.inl (tb6 (List.mem_of_getElem? (i := 91) rfl)), (tb6 (List.mem_of_getElem? (i := 93) rfl)), (tb1 (List.mem_of_getElem? (i := 29) rfl)), by decide +kernel, by decide +kernel, by decide +kernel⟩
theorem st_X10_sooner : Cond.static yX10_sooner ∈ lw_tbl := (tb6 (List.mem_of_getElem? (i := 92) rfl))
theorem fp_X10_57 : FPk RX10 57 10 8 (RX10, TX10, 9) tyX10 0 := ⟨fl_X10_57, nmX10, tyX10_ok, Or.inl ⟨rfl, rfl, rfl⟩⟩
theorem cl_X10_53 : CLk RX10 53 yX10_goFrom cX10_goFrom 7 none 2 := ⟨Or.inl (tb6 (List.mem_of_getElem? (i := 86) rfl)), (tb6 (List.mem_of_getElem? (i := 89) rfl)), (tb1 (List.mem_of_getElem? (i := 29) rfl)), by decide +kernel, by decide +kernel, by decide +kernel⟩
theorem im_X10_goFrom : Cond.instanceMethod yX10_goFrom ∈ lw_tbl := (tb6 (List.mem_of_getElem? (i := 88) rfl))
theorem se_X10_goFrom : Cond.selects RX10 yX10_goFrom yX10_goFrom ∈ lw_tbl := (tbp3 7 rfl)
-- GrassField$Ways.<init>()V
theorem dX10_init_0 : decode cX10_init 0 = .ok (.aload_n 0, 1) := by decide +kernel
theorem dX10_init_1 : decode cX10_init 1 = .ok (.invokespecial 3, 3) := by decide +kernel
theorem dX10_init_4 : decode cX10_init 4 = .ok (.aload_n 0, 1) := by decide +kernel
theorem dX10_init_5 : decode cX10_init 5 = .ok (.bipush 8, 2) := by decide +kernel
theorem dX10_init_7 : decode cX10_init 7 = .ok (.newarray .int, 2) := by decide +kernel
theorem dX10_init_9 : decode cX10_init 9 = .ok (.putfield 11, 3) := by decide +kernel
theorem dX10_init_12 : decode cX10_init 12 = .ok (.aload_n 0, 1) := by decide +kernel
theorem dX10_init_13 : decode cX10_init 13 = .ok (.bipush 8, 2) := by decide +kernel
theorem dX10_init_15 : decode cX10_init 15 = .ok (.newarray .int, 2) := by decide +kernel
theorem dX10_init_17 : decode cX10_init 17 = .ok (.putfield 15, 3) := by decide +kernel
theorem dX10_init_20 : decode cX10_init 20 = .ok (.aload_n 0, 1) := by decide +kernel
theorem dX10_init_21 : decode cX10_init 21 = .ok (.bipush 8, 2) := by decide +kernel
theorem dX10_init_23 : decode cX10_init 23 = .ok (.newarray .int, 2) := by decide +kernel
theorem dX10_init_25 : decode cX10_init 25 = .ok (.putfield 18, 3) := by decide +kernel
theorem dX10_init_28 : decode cX10_init 28 = .ok (.aload_n 0, 1) := by decide +kernel
theorem dX10_init_29 : decode cX10_init 29 = .ok (.bipush 64, 2) := by decide +kernel
theorem dX10_init_31 : decode cX10_init 31 = .ok (.newarray .int, 2) := by decide +kernel
theorem dX10_init_33 : decode cX10_init 33 = .ok (.putfield 21, 3) := by decide +kernel
theorem dX10_init_36 : decode cX10_init 36 = .ok (.aload_n 0, 1) := by decide +kernel
theorem dX10_init_37 : decode cX10_init 37 = .ok (.sipush 2048, 3) := by decide +kernel
theorem dX10_init_40 : decode cX10_init 40 = .ok (.newarray .int, 2) := by decide +kernel
theorem dX10_init_42 : decode cX10_init 42 = .ok (.putfield 24, 3) := by decide +kernel
theorem dX10_init_45 : decode cX10_init 45 = .ok (.aload_n 0, 1) := by decide +kernel
theorem dX10_init_46 : decode cX10_init 46 = .ok (.sipush 256, 3) := by decide +kernel
theorem dX10_init_49 : decode cX10_init 49 = .ok (.newarray .int, 2) := by decide +kernel
theorem dX10_init_51 : decode cX10_init 51 = .ok (.putfield 27, 3) := by decide +kernel
theorem dX10_init_54 : decode cX10_init 54 = .ok (.aload_n 0, 1) := by decide +kernel
theorem dX10_init_55 : decode cX10_init 55 = .ok (.sipush 256, 3) := by decide +kernel
theorem dX10_init_58 : decode cX10_init 58 = .ok (.newarray .int, 2) := by decide +kernel
theorem dX10_init_60 : decode cX10_init 60 = .ok (.putfield 30, 3) := by decide +kernel
theorem dX10_init_63 : decode cX10_init 63 = .ok (.return_, 1) := by decide +kernel
def w_X10_init  (v0 : Nat) (h : AH) (Q : AH → Prop) : Prop :=
  wA h 0 8 fun a1 h =>
  uO h v0 10 1 (some a1) fun h =>
  wA h 0 8 fun a2 h =>
  uO h v0 10 2 (some a2) fun h =>
  wA h 0 8 fun a3 h =>
  uO h v0 10 3 (some a3) fun h =>
  wA h 0 64 fun a4 h =>
  uO h v0 10 4 (some a4) fun h =>
  wA h 0 2048 fun a5 h =>
  uO h v0 10 5 (some a5) fun h =>
  wA h 0 256 fun a6 h =>
  uO h v0 10 6 (some a6) fun h =>
  wA h 0 256 fun a7 h =>
  uO h v0 10 7 (some a7) fun h =>
  Q h
set_option maxRecDepth 100000 in
set_option maxHeartbeats 4000000 in
theorem s_X10_init {l : Launch}  {v0 : Nat} {h : AH} {Q : AH → Prop}  (hw : w_X10_init  v0 h Q) : CT l yX10_init cX10_init 1 none 1 7 2648 [.ref v0] h (QV Q) := by
  refine CT.of (by decide) ⟨rfl, trivial⟩ (Nat.le_of_ble_eq_true rfl) ?_
  intro p e s m args below meth c g C hr hin
  refine v_eq (pc' := 0) (ls' := [(0, .ref v0)]) rfl rfl rfl rfl ?_
  refine v_aload_n C dX10_init_0 0 rfl rfl ?_
  refine v_objInit C (tb6 (List.mem_of_getElem? (i := 31) rfl)) (tb1 (List.mem_of_getElem? (i := 36) rfl)) (tb1 (List.mem_of_getElem? (i := 37) rfl)) dX10_init_1 (by decide) (by decide) ?_
  refine v_aload_n C dX10_init_4 0 rfl rfl ?_
  refine v_bipush (v := 8) C dX10_init_5 (by decide) ?_
  refine v_newa (atype := .int) (j := 0) (N := 8) C rfl rfl (by decide) rfl rfl (tb1 (List.mem_of_getElem? (i := 77) rfl)) dX10_init_7 (by decide) (by decide) (by decide) (by decide) (by decide) (fun a1 hn => ?_)
  have hw := hw a1 hn
  generalize nA h a1 0 8 = h at hw ⊢
  refine w_putN C fp_X10_11 (Or.inr ⟨hin, rfl, rfl, (tb6 (List.mem_of_getElem? (i := 34) rfl))⟩) dX10_init_9 hw (fun h hw => ?_)
  refine v_aload_n C dX10_init_12 0 rfl rfl ?_
  refine v_bipush (v := 8) C dX10_init_13 (by decide) ?_
  refine v_newa (atype := .int) (j := 0) (N := 8) C rfl rfl (by decide) rfl rfl (tb1 (List.mem_of_getElem? (i := 77) rfl)) dX10_init_15 (by decide) (by decide) (by decide) (by decide) (by decide) (fun a2 hn => ?_)
  have hw := hw a2 hn
  generalize nA h a2 0 8 = h at hw ⊢
  refine w_putN C fp_X10_15 (Or.inr ⟨hin, rfl, rfl, (tb6 (List.mem_of_getElem? (i := 35) rfl))⟩) dX10_init_17 hw (fun h hw => ?_)
  refine v_aload_n C dX10_init_20 0 rfl rfl ?_
  refine v_bipush (v := 8) C dX10_init_21 (by decide) ?_
  refine v_newa (atype := .int) (j := 0) (N := 8) C rfl rfl (by decide) rfl rfl (tb1 (List.mem_of_getElem? (i := 77) rfl)) dX10_init_23 (by decide) (by decide) (by decide) (by decide) (by decide) (fun a3 hn => ?_)
  have hw := hw a3 hn
  generalize nA h a3 0 8 = h at hw ⊢
  refine w_putN C fp_X10_18 (Or.inr ⟨hin, rfl, rfl, (tb6 (List.mem_of_getElem? (i := 36) rfl))⟩) dX10_init_25 hw (fun h hw => ?_)
  refine v_aload_n C dX10_init_28 0 rfl rfl ?_
  refine v_bipush (v := 64) C dX10_init_29 (by decide) ?_
  refine v_newa (atype := .int) (j := 0) (N := 64) C rfl rfl (by decide) rfl rfl (tb1 (List.mem_of_getElem? (i := 77) rfl)) dX10_init_31 (by decide) (by decide) (by decide) (by decide) (by decide) (fun a4 hn => ?_)
  have hw := hw a4 hn
  generalize nA h a4 0 64 = h at hw ⊢
  refine w_putN C fp_X10_21 (Or.inr ⟨hin, rfl, rfl, (tb6 (List.mem_of_getElem? (i := 37) rfl))⟩) dX10_init_33 hw (fun h hw => ?_)
  refine v_aload_n C dX10_init_36 0 rfl rfl ?_
  refine v_sipush (v := 2048) C dX10_init_37 (by decide) ?_
  refine v_newa (atype := .int) (j := 0) (N := 2048) C rfl rfl (by decide) rfl rfl (tb1 (List.mem_of_getElem? (i := 77) rfl)) dX10_init_40 (by decide) (by decide) (by decide) (by decide) (by decide) (fun a5 hn => ?_)
  have hw := hw a5 hn
  generalize nA h a5 0 2048 = h at hw ⊢
  refine w_putN C fp_X10_24 (Or.inr ⟨hin, rfl, rfl, (tb6 (List.mem_of_getElem? (i := 38) rfl))⟩) dX10_init_42 hw (fun h hw => ?_)
  refine v_aload_n C dX10_init_45 0 rfl rfl ?_
  refine v_sipush (v := 256) C dX10_init_46 (by decide) ?_
  refine v_newa (atype := .int) (j := 0) (N := 256) C rfl rfl (by decide) rfl rfl (tb1 (List.mem_of_getElem? (i := 77) rfl)) dX10_init_49 (by decide) (by decide) (by decide) (by decide) (by decide) (fun a6 hn => ?_)
  have hw := hw a6 hn
  generalize nA h a6 0 256 = h at hw ⊢
  refine w_putN C fp_X10_27 (Or.inr ⟨hin, rfl, rfl, (tb6 (List.mem_of_getElem? (i := 39) rfl))⟩) dX10_init_51 hw (fun h hw => ?_)
  refine v_aload_n C dX10_init_54 0 rfl rfl ?_
  refine v_sipush (v := 256) C dX10_init_55 (by decide) ?_
  refine v_newa (atype := .int) (j := 0) (N := 256) C rfl rfl (by decide) rfl rfl (tb1 (List.mem_of_getElem? (i := 77) rfl)) dX10_init_58 (by decide) (by decide) (by decide) (by decide) (by decide) (fun a7 hn => ?_)
  have hw := hw a7 hn
  generalize nA h a7 0 256 = h at hw ⊢
  refine w_putN C fp_X10_30 (Or.inr ⟨hin, rfl, rfl, (tb6 (List.mem_of_getElem? (i := 40) rfl))⟩) dX10_init_60 hw (fun h hw => ?_)
  exact (rt_MQ C _).2.2.1 _ _ _ _ _ hr dX10_init_63 (by decide) (by decide) ⟨rfl, hw⟩
-- GrassField$Ways.add(ILGrassField$Finds;LGrassField$Land;)V
theorem dX10_add_0 : decode cX10_add 0 = .ok (.aload_n 0, 1) := by decide +kernel
theorem dX10_add_1 : decode cX10_add 1 = .ok (.getfield 11, 3) := by decide +kernel
theorem dX10_add_4 : decode cX10_add 4 = .ok (.aload_n 0, 1) := by decide +kernel
theorem dX10_add_5 : decode cX10_add 5 = .ok (.getfield 33, 3) := by decide +kernel
theorem dX10_add_8 : decode cX10_add 8 = .ok (.iload_n 1, 1) := by decide +kernel
theorem dX10_add_9 : decode cX10_add 9 = .ok (.iastore, 1) := by decide +kernel
theorem dX10_add_10 : decode cX10_add 10 = .ok (.aload_n 0, 1) := by decide +kernel
theorem dX10_add_11 : decode cX10_add 11 = .ok (.getfield 15, 3) := by decide +kernel
theorem dX10_add_14 : decode cX10_add 14 = .ok (.aload_n 0, 1) := by decide +kernel
theorem dX10_add_15 : decode cX10_add 15 = .ok (.getfield 33, 3) := by decide +kernel
theorem dX10_add_18 : decode cX10_add 18 = .ok (.aload_n 2, 1) := by decide +kernel
theorem dX10_add_19 : decode cX10_add 19 = .ok (.getfield 37, 3) := by decide +kernel
theorem dX10_add_22 : decode cX10_add 22 = .ok (.iload_n 1, 1) := by decide +kernel
theorem dX10_add_23 : decode cX10_add 23 = .ok (.iaload, 1) := by decide +kernel
theorem dX10_add_24 : decode cX10_add 24 = .ok (.iastore, 1) := by decide +kernel
theorem dX10_add_25 : decode cX10_add 25 = .ok (.aload_n 0, 1) := by decide +kernel
theorem dX10_add_26 : decode cX10_add 26 = .ok (.getfield 18, 3) := by decide +kernel
theorem dX10_add_29 : decode cX10_add 29 = .ok (.aload_n 0, 1) := by decide +kernel
theorem dX10_add_30 : decode cX10_add 30 = .ok (.getfield 33, 3) := by decide +kernel
theorem dX10_add_33 : decode cX10_add 33 = .ok (.aload_n 2, 1) := by decide +kernel
theorem dX10_add_34 : decode cX10_add 34 = .ok (.getfield 40, 3) := by decide +kernel
theorem dX10_add_37 : decode cX10_add 37 = .ok (.iload_n 1, 1) := by decide +kernel
theorem dX10_add_38 : decode cX10_add 38 = .ok (.iaload, 1) := by decide +kernel
theorem dX10_add_39 : decode cX10_add 39 = .ok (.iastore, 1) := by decide +kernel
theorem dX10_add_40 : decode cX10_add 40 = .ok (.iconst 0, 1) := by decide +kernel
theorem dX10_add_41 : decode cX10_add 41 = .ok (.istore 4, 2) := by decide +kernel
theorem dX10_add_43 : decode cX10_add 43 = .ok (.iload 4, 2) := by decide +kernel
theorem dX10_add_45 : decode cX10_add 45 = .ok (.aload_n 0, 1) := by decide +kernel
theorem dX10_add_46 : decode cX10_add 46 = .ok (.getfield 33, 3) := by decide +kernel
theorem dX10_add_49 : decode cX10_add 49 = .ok (.if_icmp .ge 77, 3) := by decide +kernel
theorem dX10_add_52 : decode cX10_add 52 = .ok (.aload_n 2, 1) := by decide +kernel
theorem dX10_add_53 : decode cX10_add 53 = .ok (.getfield 41, 3) := by decide +kernel
theorem dX10_add_56 : decode cX10_add 56 = .ok (.aload_n 0, 1) := by decide +kernel
theorem dX10_add_57 : decode cX10_add 57 = .ok (.getfield 11, 3) := by decide +kernel
theorem dX10_add_60 : decode cX10_add 60 = .ok (.iload 4, 2) := by decide +kernel
theorem dX10_add_62 : decode cX10_add 62 = .ok (.iaload, 1) := by decide +kernel
theorem dX10_add_63 : decode cX10_add 63 = .ok (.iaload, 1) := by decide +kernel
theorem dX10_add_64 : decode cX10_add 64 = .ok (.istore 5, 2) := by decide +kernel
theorem dX10_add_66 : decode cX10_add 66 = .ok (.aload_n 2, 1) := by decide +kernel
theorem dX10_add_67 : decode cX10_add 67 = .ok (.getfield 41, 3) := by decide +kernel
theorem dX10_add_70 : decode cX10_add 70 = .ok (.iload_n 1, 1) := by decide +kernel
theorem dX10_add_71 : decode cX10_add 71 = .ok (.iaload, 1) := by decide +kernel
theorem dX10_add_72 : decode cX10_add 72 = .ok (.istore 6, 2) := by decide +kernel
theorem dX10_add_74 : decode cX10_add 74 = .ok (.aload_n 0, 1) := by decide +kernel
theorem dX10_add_75 : decode cX10_add 75 = .ok (.getfield 21, 3) := by decide +kernel
theorem dX10_add_78 : decode cX10_add 78 = .ok (.iload 4, 2) := by decide +kernel
theorem dX10_add_80 : decode cX10_add 80 = .ok (.bipush 8, 2) := by decide +kernel
theorem dX10_add_82 : decode cX10_add 82 = .ok (.imul, 1) := by decide +kernel
theorem dX10_add_83 : decode cX10_add 83 = .ok (.aload_n 0, 1) := by decide +kernel
theorem dX10_add_84 : decode cX10_add 84 = .ok (.getfield 33, 3) := by decide +kernel
theorem dX10_add_87 : decode cX10_add 87 = .ok (.iadd, 1) := by decide +kernel
theorem dX10_add_88 : decode cX10_add 88 = .ok (.aload_n 3, 1) := by decide +kernel
theorem dX10_add_89 : decode cX10_add 89 = .ok (.iload 5, 2) := by decide +kernel
theorem dX10_add_91 : decode cX10_add 91 = .ok (.iload 6, 2) := by decide +kernel
theorem dX10_add_93 : decode cX10_add 93 = .ok (.invokevirtual 44, 3) := by decide +kernel
theorem dX10_add_96 : decode cX10_add 96 = .ok (.iastore, 1) := by decide +kernel
theorem dX10_add_97 : decode cX10_add 97 = .ok (.aload_n 0, 1) := by decide +kernel
theorem dX10_add_98 : decode cX10_add 98 = .ok (.getfield 21, 3) := by decide +kernel
theorem dX10_add_101 : decode cX10_add 101 = .ok (.aload_n 0, 1) := by decide +kernel
theorem dX10_add_102 : decode cX10_add 102 = .ok (.getfield 33, 3) := by decide +kernel
theorem dX10_add_105 : decode cX10_add 105 = .ok (.bipush 8, 2) := by decide +kernel
theorem dX10_add_107 : decode cX10_add 107 = .ok (.imul, 1) := by decide +kernel
theorem dX10_add_108 : decode cX10_add 108 = .ok (.iload 4, 2) := by decide +kernel
theorem dX10_add_110 : decode cX10_add 110 = .ok (.iadd, 1) := by decide +kernel
theorem dX10_add_111 : decode cX10_add 111 = .ok (.aload_n 3, 1) := by decide +kernel
theorem dX10_add_112 : decode cX10_add 112 = .ok (.iload 6, 2) := by decide +kernel
theorem dX10_add_114 : decode cX10_add 114 = .ok (.iload 5, 2) := by decide +kernel
theorem dX10_add_116 : decode cX10_add 116 = .ok (.invokevirtual 44, 3) := by decide +kernel
theorem dX10_add_119 : decode cX10_add 119 = .ok (.iastore, 1) := by decide +kernel
theorem dX10_add_120 : decode cX10_add 120 = .ok (.iinc 4 1, 3) := by decide +kernel
theorem dX10_add_123 : decode cX10_add 123 = .ok (.goto (-80), 3) := by decide +kernel
theorem dX10_add_126 : decode cX10_add 126 = .ok (.aload_n 0, 1) := by decide +kernel
theorem dX10_add_127 : decode cX10_add 127 = .ok (.dup, 1) := by decide +kernel
theorem dX10_add_128 : decode cX10_add 128 = .ok (.getfield 33, 3) := by decide +kernel
theorem dX10_add_131 : decode cX10_add 131 = .ok (.iconst 1, 1) := by decide +kernel
theorem dX10_add_132 : decode cX10_add 132 = .ok (.iadd, 1) := by decide +kernel
theorem dX10_add_133 : decode cX10_add 133 = .ok (.putfield 33, 3) := by decide +kernel
theorem dX10_add_136 : decode cX10_add 136 = .ok (.return_, 1) := by decide +kernel
def w_X10_add_126  (v0 : Nat) (h : AH) (Q : AH → Prop) : Prop :=
  fI h v0 10 0 fun x1 =>
  uI h v0 10 0 (x1 + (1 : Int32)) fun h =>
  Q h
def w_X10_add_43  (x126 : AH → Prop) (k : Int32 → AH → Prop) (v0 : Nat) (v1 : Int32) (v2 : Nat) (v3 : Nat) (v4 : Int32) (h : AH) (Q : AH → Prop) : Prop :=
  fI h v0 10 0 fun x1 =>
  br (x1 ≤ v4) (
    x126  h) (
    fN h v2 1 2 fun a2 =>
    fN h v0 10 1 fun a3 =>
    aI h a3 v4 fun x4 =>
    aI h a2 x4 fun x5 =>
    fN h v2 1 2 fun a6 =>
    aI h a6 v1 fun x7 =>
    fN h v0 10 4 fun a8 =>
    fI h v0 10 0 fun x9 =>
    vr h v3 3 (
    w_X3_minutesOnFoot v3 x5 x7 h (fun x10 h =>
    tI h a8 ((v4 * (8 : Int32)) + x9) x10 fun h =>
    fN h v0 10 4 fun a11 =>
    fI h v0 10 0 fun x12 =>
    vr h v3 3 (
    w_X3_minutesOnFoot v3 x7 x5 h (fun x13 h =>
    tI h a11 ((x12 * (8 : Int32)) + v4) x13 fun h =>
    k (v4 + 1) h)))))
def w_X10_add  (v0 : Nat) (v1 : Int32) (v2 : Nat) (v3 : Nat) (h : AH) (Q : AH → Prop) : Prop :=
  fN h v0 10 1 fun a1 =>
  fI h v0 10 0 fun x2 =>
  tI h a1 x2 v1 fun h =>
  fN h v0 10 2 fun a3 =>
  fI h v0 10 0 fun x4 =>
  fN h v2 1 5 fun a5 =>
  aI h a5 v1 fun x6 =>
  tI h a3 x4 x6 fun h =>
  fN h v0 10 3 fun a7 =>
  fI h v0 10 0 fun x8 =>
  fN h v2 1 6 fun a9 =>
  aI h a9 v1 fun x10 =>
  tI h a7 x8 x10 fun h =>
  lp (fun (k2 : Int32 × AH → Prop) (s2 : Int32 × AH) => w_X10_add_43  (fun  h => w_X10_add_126 v0 h Q) (fun (y4 : Int32) h => k2 (y4, h)) v0 v1 v2 v3 s2.1 s2.2 Q) ((0 : Int32), h)
set_option maxRecDepth 100000 in
set_option maxHeartbeats 4000000 in
theorem s_X10_add_126 {p : Program} {l : Launch} {e : Env} {s : State} {m : MethodId} {args : Array Value} {below : List Frame} {meth : Method} {c : Code} {g : GG}  {Q : AH → Prop}  (C : CXT p l s m args meth c RX10 cX10_add 7 g) (hr : meth.sig.returnType = none)  : ∀ (v0 : Nat) (h : AH), w_X10_add_126  v0 h Q → V p l e s m args below meth c g 3 0 0 7 0 0 (MQ below (QCx g (QV Q)) args s 0 0 (gA g)) 126 [(0, .ref v0)] [] h := by
  intro v0 h hw
  refine v_aload_n C dX10_add_126 0 rfl rfl ?_
  refine v_dup C dX10_add_127 rfl ?_
  refine w_getI C fl_X10_33 dX10_add_128 rfl hw (fun x1 hw => ?_)
  refine v_iconst (v := 1) C dX10_add_131 (by decide) ?_
  refine v_iadd C dX10_add_132 ?_
  refine w_putI C fp_X10_33 (Or.inl rfl) dX10_add_133 hw (fun h hw => ?_)
  exact (rt_MQ C _).2.2.1 _ _ _ _ _ hr dX10_add_136 (by decide) (by decide) ⟨rfl, hw⟩
set_option maxRecDepth 100000 in
set_option maxHeartbeats 4000000 in
theorem s_X10_add_43 {p : Program} {l : Launch} {e : Env} {s : State} {m : MethodId} {args : Array Value} {below : List Frame} {meth : Method} {c : Code} {g : GG} {v0 : Nat} {v1 : Int32} {v2 : Nat} {v3 : Nat} {Q : AH → Prop} {x126 : AH → Prop} {k : Int32 → AH → Prop} (C : CXT p l s m args meth c RX10 cX10_add 7 g) (hr : meth.sig.returnType = none) (hx126 : ∀  (h : AH), x126  h → V p l e s m args below meth c g 3 0 0 7 0 0 (MQ below (QCx g (QV Q)) args s 0 0 (gA g)) 126 [(0, .ref v0)] [] h) (hk : ∀ (y4 : Int32) (h : AH), k y4 h → V p l e s m args below meth c g 3 0 0 7 0 0 (MQ below (QCx g (QV Q)) args s 0 0 (gA g)) 43 [(0, .ref v0), (1, .int v1), (2, .ref v2), (3, .ref v3), (4, .int y4)] [] h) : ∀ (v4 : Int32) (h : AH), w_X10_add_43  x126 k v0 v1 v2 v3 v4 h Q → V p l e s m args below meth c g 3 0 0 7 0 0 (MQ below (QCx g (QV Q)) args s 0 0 (gA g)) 43 [(0, .ref v0), (1, .int v1), (2, .ref v2), (3, .ref v3), (4, .int v4)] [] h := by
  intro v4 h hw
  refine v_iload C dX10_add_43 4 rfl ?_
  refine v_aload_n C dX10_add_45 0 rfl rfl ?_
  refine w_getI C fl_X10_33 dX10_add_46 rfl hw (fun x1 hw => ?_)
  refine v_icmp_ge (tgt := 126) C dX10_add_49 (by decide) (fun c_49 => ?_) (fun c_49 => ?_)
  · have hw := hw.1 c_49
    refine v_sub [0] rfl ?_
    exact hx126  _ hw
  · have hw := hw.2 c_49
    refine v_aload_n C dX10_add_52 2 rfl rfl ?_
    refine w_getN C fl_X10_41 dX10_add_53 rfl hw (fun a2 hw => ?_)
    refine v_aload_n C dX10_add_56 0 rfl rfl ?_
    refine w_getN C fl_X10_11 dX10_add_57 rfl hw (fun a3 hw => ?_)
    refine v_iload C dX10_add_60 4 rfl ?_
    refine w_iaload C dX10_add_62 hw (fun x4 hw => ?_)
    refine w_iaload C dX10_add_63 hw (fun x5 hw => ?_)
    refine v_istore (ls' := [(5, .int x5), (0, .ref v0), (1, .int v1), (2, .ref v2), (3, .ref v3), (4, .int v4)]) C dX10_add_64 (by decide) rfl ?_
    refine v_aload_n C dX10_add_66 3 rfl rfl ?_
    refine w_getN C fl_X10_41 dX10_add_67 rfl hw (fun a6 hw => ?_)
    refine v_iload_n C dX10_add_70 2 rfl rfl ?_
    refine w_iaload C dX10_add_71 hw (fun x7 hw => ?_)
    refine v_istore (ls' := [(6, .int x7), (5, .int x5), (0, .ref v0), (1, .int v1), (2, .ref v2), (3, .ref v3), (4, .int v4)]) C dX10_add_72 (by decide) rfl ?_
    refine v_aload_n C dX10_add_74 2 rfl rfl ?_
    refine w_getN C fl_X10_21 dX10_add_75 rfl hw (fun a8 hw => ?_)
    refine v_iload C dX10_add_78 6 rfl ?_
    refine v_bipush (v := 8) C dX10_add_80 (by decide) ?_
    refine v_imul C dX10_add_82 ?_
    refine v_aload_n C dX10_add_83 2 rfl rfl ?_
    refine w_getI C fl_X10_33 dX10_add_84 rfl hw (fun x9 hw => ?_)
    refine v_iadd C dX10_add_87 ?_
    refine v_aload_n C dX10_add_88 5 rfl rfl ?_
    refine v_iload C dX10_add_89 1 rfl ?_
    refine v_iload C dX10_add_91 0 rfl ?_
    refine w_callVi (st := [.int ((v4 * (8 : Int32)) + x9), .ref a8]) C cl_X10_44 im_X3_minutesOnFoot se_X3_minutesOnFoot rfl hw.1 (s_X3_minutesOnFoot hw.2) rfl dX10_add_93 rfl (Nat.le_of_ble_eq_true rfl) (by decide) (by decide) (by decide) (by decide) (fun x10 h hw => ?_)
    refine w_iastore C dX10_add_96 hw (fun h hw => ?_)
    refine v_aload_n C dX10_add_97 2 rfl rfl ?_
    refine w_getN C fl_X10_21 dX10_add_98 rfl hw (fun a11 hw => ?_)
    refine v_aload_n C dX10_add_101 2 rfl rfl ?_
    refine w_getI C fl_X10_33 dX10_add_102 rfl hw (fun x12 hw => ?_)
    refine v_bipush (v := 8) C dX10_add_105 (by decide) ?_
    refine v_imul C dX10_add_107 ?_
    refine v_iload C dX10_add_108 6 rfl ?_
    refine v_iadd C dX10_add_110 ?_
    refine v_aload_n C dX10_add_111 5 rfl rfl ?_
    refine v_iload C dX10_add_112 0 rfl ?_
    refine v_iload C dX10_add_114 1 rfl ?_
    refine w_callVi (st := [.int ((x12 * (8 : Int32)) + v4), .ref a11]) C cl_X10_44 im_X3_minutesOnFoot se_X3_minutesOnFoot rfl hw.1 (s_X3_minutesOnFoot hw.2) rfl dX10_add_116 rfl (Nat.le_of_ble_eq_true rfl) (by decide) (by decide) (by decide) (by decide) (fun x13 h hw => ?_)
    refine w_iastore C dX10_add_119 hw (fun h hw => ?_)
    refine v_iinc (v := 1) (ls' := [(4, .int (v4 + 1)), (6, .int x7), (5, .int x5), (0, .ref v0), (1, .int v1), (2, .ref v2), (3, .ref v3)]) C dX10_add_120 6 rfl (by decide) (by decide) rfl ?_
    refine v_goto (tgt := 43) C dX10_add_123 (by decide) ?_
    refine v_sub [3, 4, 5, 6, 0] rfl ?_
    exact hk _ _ hw
set_option maxRecDepth 100000 in
set_option maxHeartbeats 4000000 in
theorem s_X10_add {l : Launch}  {v0 : Nat} {v1 : Int32} {v2 : Nat} {v3 : Nat} {h : AH} {Q : AH → Prop}  (hw : w_X10_add  v0 v1 v2 v3 h Q) : CT l yX10_add cX10_add 7 none 3 0 0 [.ref v0, .int v1, .ref v2, .ref v3] h (QV Q) := by
  refine CT.of (by decide) ⟨rfl, ⟨rfl, ⟨rfl, ⟨rfl, trivial⟩⟩⟩⟩ (Nat.le_of_ble_eq_true rfl) ?_
  intro p e s m args below meth c g C hr hin
  refine v_eq (pc' := 0) (ls' := [(0, .ref v0), (1, .int v1), (2, .ref v2), (3, .ref v3)]) rfl rfl rfl rfl ?_
  refine v_aload_n C dX10_add_0 0 rfl rfl ?_
  refine w_getN C fl_X10_11 dX10_add_1 rfl hw (fun a1 hw => ?_)
  refine v_aload_n C dX10_add_4 0 rfl rfl ?_
  refine w_getI C fl_X10_33 dX10_add_5 rfl hw (fun x2 hw => ?_)
  refine v_iload_n C dX10_add_8 1 rfl rfl ?_
  refine w_iastore C dX10_add_9 hw (fun h hw => ?_)
  refine v_aload_n C dX10_add_10 0 rfl rfl ?_
  refine w_getN C fl_X10_15 dX10_add_11 rfl hw (fun a3 hw => ?_)
  refine v_aload_n C dX10_add_14 0 rfl rfl ?_
  refine w_getI C fl_X10_33 dX10_add_15 rfl hw (fun x4 hw => ?_)
  refine v_aload_n C dX10_add_18 2 rfl rfl ?_
  refine w_getN C fl_X10_37 dX10_add_19 rfl hw (fun a5 hw => ?_)
  refine v_iload_n C dX10_add_22 1 rfl rfl ?_
  refine w_iaload C dX10_add_23 hw (fun x6 hw => ?_)
  refine w_iastore C dX10_add_24 hw (fun h hw => ?_)
  refine v_aload_n C dX10_add_25 0 rfl rfl ?_
  refine w_getN C fl_X10_18 dX10_add_26 rfl hw (fun a7 hw => ?_)
  refine v_aload_n C dX10_add_29 0 rfl rfl ?_
  refine w_getI C fl_X10_33 dX10_add_30 rfl hw (fun x8 hw => ?_)
  refine v_aload_n C dX10_add_33 2 rfl rfl ?_
  refine w_getN C fl_X10_40 dX10_add_34 rfl hw (fun a9 hw => ?_)
  refine v_iload_n C dX10_add_37 1 rfl rfl ?_
  refine w_iaload C dX10_add_38 hw (fun x10 hw => ?_)
  refine w_iastore C dX10_add_39 hw (fun h hw => ?_)
  refine v_iconst (v := 0) C dX10_add_40 (by decide) ?_
  refine v_istore (ls' := [(4, .int (0 : Int32)), (0, .ref v0), (1, .int v1), (2, .ref v2), (3, .ref v3)]) C dX10_add_41 (by decide) rfl ?_
  refine v_sub [1, 2, 3, 4, 0] rfl ?_
  refine lp_walk (P := fun (s' : Int32 × AH) => V p l e s m args below meth c g 3 0 0 7 0 0 (MQ below (QCx g (QV Q)) args s 0 0 (gA g)) 43 [(0, .ref v0), (1, .int v1), (2, .ref v2), (3, .ref v3), (4, .int (s'.1))] [] s'.2) (fun k2 hk2 s' hw => ?_) ((0 : Int32), h) hw
  exact s_X10_add_43 C hr (fun  h hw => s_X10_add_126 C hr  _ h hw) (fun y4 h hw => hk2 (y4, h) hw) _ _ hw
-- GrassField$Ways.clearBest()V
theorem dX10_clearBest_0 : decode cX10_clearBest 0 = .ok (.iconst 1, 1) := by decide +kernel
theorem dX10_clearBest_1 : decode cX10_clearBest 1 = .ok (.aload_n 0, 1) := by decide +kernel
theorem dX10_clearBest_2 : decode cX10_clearBest 2 = .ok (.getfield 33, 3) := by decide +kernel
theorem dX10_clearBest_5 : decode cX10_clearBest 5 = .ok (.ishl, 1) := by decide +kernel
theorem dX10_clearBest_6 : decode cX10_clearBest 6 = .ok (.bipush 8, 2) := by decide +kernel
theorem dX10_clearBest_8 : decode cX10_clearBest 8 = .ok (.imul, 1) := by decide +kernel
theorem dX10_clearBest_9 : decode cX10_clearBest 9 = .ok (.istore_n 1, 1) := by decide +kernel
theorem dX10_clearBest_10 : decode cX10_clearBest 10 = .ok (.iconst 0, 1) := by decide +kernel
theorem dX10_clearBest_11 : decode cX10_clearBest 11 = .ok (.istore_n 2, 1) := by decide +kernel
theorem dX10_clearBest_12 : decode cX10_clearBest 12 = .ok (.iload_n 2, 1) := by decide +kernel
theorem dX10_clearBest_13 : decode cX10_clearBest 13 = .ok (.iload_n 1, 1) := by decide +kernel
theorem dX10_clearBest_14 : decode cX10_clearBest 14 = .ok (.if_icmp .ge 16, 3) := by decide +kernel
theorem dX10_clearBest_17 : decode cX10_clearBest 17 = .ok (.aload_n 0, 1) := by decide +kernel
theorem dX10_clearBest_18 : decode cX10_clearBest 18 = .ok (.getfield 24, 3) := by decide +kernel
theorem dX10_clearBest_21 : decode cX10_clearBest 21 = .ok (.iload_n 2, 1) := by decide +kernel
theorem dX10_clearBest_22 : decode cX10_clearBest 22 = .ok (.iconst (-1), 1) := by decide +kernel
theorem dX10_clearBest_23 : decode cX10_clearBest 23 = .ok (.iastore, 1) := by decide +kernel
theorem dX10_clearBest_24 : decode cX10_clearBest 24 = .ok (.iinc 2 1, 3) := by decide +kernel
theorem dX10_clearBest_27 : decode cX10_clearBest 27 = .ok (.goto (-15), 3) := by decide +kernel
theorem dX10_clearBest_30 : decode cX10_clearBest 30 = .ok (.return_, 1) := by decide +kernel
def w_X10_clearBest_30  (h : AH) (Q : AH → Prop) : Prop :=
  Q h
def w_X10_clearBest_12  (x30 : AH → Prop) (k : Int32 → AH → Prop) (v0 : Nat) (v1 : Int32) (v2 : Int32) (h : AH) (Q : AH → Prop) : Prop :=
  br (v1 ≤ v2) (
    x30  h) (
    fN h v0 10 5 fun a1 =>
    tI h a1 v2 (-1 : Int32) fun h =>
    k (v2 + 1) h)
def w_X10_clearBest  (v0 : Nat) (h : AH) (Q : AH → Prop) : Prop :=
  fI h v0 10 0 fun x1 =>
  bd (((1 : Int32) <<< (x1 &&& 31)) * (8 : Int32)) fun x2 =>
  lp (fun (k2 : Int32 × AH → Prop) (s2 : Int32 × AH) => w_X10_clearBest_12  (fun  h => w_X10_clearBest_30  h Q) (fun (y2 : Int32) h => k2 (y2, h)) v0 x2 s2.1 s2.2 Q) ((0 : Int32), h)
set_option maxRecDepth 100000 in
set_option maxHeartbeats 4000000 in
theorem s_X10_clearBest_30 {p : Program} {l : Launch} {e : Env} {s : State} {m : MethodId} {args : Array Value} {below : List Frame} {meth : Method} {c : Code} {g : GG}  {Q : AH → Prop}  (C : CXT p l s m args meth c RX10 cX10_clearBest 3 g) (hr : meth.sig.returnType = none)  : ∀  (h : AH), w_X10_clearBest_30  h Q → V p l e s m args below meth c g 0 0 0 3 0 0 (MQ below (QCx g (QV Q)) args s 0 0 (gA g)) 30 [] [] h := by
  intro  h hw
  exact (rt_MQ C _).2.2.1 _ _ _ _ _ hr dX10_clearBest_30 (by decide) (by decide) ⟨rfl, hw⟩
set_option maxRecDepth 100000 in
set_option maxHeartbeats 4000000 in
theorem s_X10_clearBest_12 {p : Program} {l : Launch} {e : Env} {s : State} {m : MethodId} {args : Array Value} {below : List Frame} {meth : Method} {c : Code} {g : GG} {v0 : Nat} {v1 : Int32} {Q : AH → Prop} {x30 : AH → Prop} {k : Int32 → AH → Prop} (C : CXT p l s m args meth c RX10 cX10_clearBest 3 g) (hr : meth.sig.returnType = none) (hx30 : ∀  (h : AH), x30  h → V p l e s m args below meth c g 0 0 0 3 0 0 (MQ below (QCx g (QV Q)) args s 0 0 (gA g)) 30 [] [] h) (hk : ∀ (y2 : Int32) (h : AH), k y2 h → V p l e s m args below meth c g 0 0 0 3 0 0 (MQ below (QCx g (QV Q)) args s 0 0 (gA g)) 12 [(0, .ref v0), (1, .int v1), (2, .int y2)] [] h) : ∀ (v2 : Int32) (h : AH), w_X10_clearBest_12  x30 k v0 v1 v2 h Q → V p l e s m args below meth c g 0 0 0 3 0 0 (MQ below (QCx g (QV Q)) args s 0 0 (gA g)) 12 [(0, .ref v0), (1, .int v1), (2, .int v2)] [] h := by
  intro v2 h hw
  refine v_iload_n C dX10_clearBest_12 2 rfl rfl ?_
  refine v_iload_n C dX10_clearBest_13 1 rfl rfl ?_
  refine v_icmp_ge (tgt := 30) C dX10_clearBest_14 (by decide) (fun c_14 => ?_) (fun c_14 => ?_)
  · have hw := hw.1 c_14
    refine v_sub [] rfl ?_
    exact hx30  _ hw
  · have hw := hw.2 c_14
    refine v_aload_n C dX10_clearBest_17 0 rfl rfl ?_
    refine w_getN C fl_X10_24 dX10_clearBest_18 rfl hw (fun a1 hw => ?_)
    refine v_iload_n C dX10_clearBest_21 2 rfl rfl ?_
    refine v_iconst (v := -1) C dX10_clearBest_22 (by decide) ?_
    refine w_iastore C dX10_clearBest_23 hw (fun h hw => ?_)
    refine v_iinc (v := 1) (ls' := [(2, .int (v2 + 1)), (0, .ref v0), (1, .int v1)]) C dX10_clearBest_24 2 rfl (by decide) (by decide) rfl ?_
    refine v_goto (tgt := 12) C dX10_clearBest_27 (by decide) ?_
    refine v_sub [1, 2, 0] rfl ?_
    exact hk _ _ hw
set_option maxRecDepth 100000 in
set_option maxHeartbeats 4000000 in
theorem s_X10_clearBest {l : Launch}  {v0 : Nat} {h : AH} {Q : AH → Prop}  (hw : w_X10_clearBest  v0 h Q) : CT l yX10_clearBest cX10_clearBest 3 none 0 0 0 [.ref v0] h (QV Q) := by
  refine CT.of (by decide) ⟨rfl, trivial⟩ (Nat.le_of_ble_eq_true rfl) ?_
  intro p e s m args below meth c g C hr hin
  refine v_eq (pc' := 0) (ls' := [(0, .ref v0)]) rfl rfl rfl rfl ?_
  refine v_iconst (v := 1) C dX10_clearBest_0 (by decide) ?_
  refine v_aload_n C dX10_clearBest_1 0 rfl rfl ?_
  refine w_getI C fl_X10_33 dX10_clearBest_2 rfl hw (fun x1 hw => ?_)
  refine v_ishl C dX10_clearBest_5 ?_
  refine v_bipush (v := 8) C dX10_clearBest_6 (by decide) ?_
  refine v_imul C dX10_clearBest_8 ?_
  refine w_bd hw (fun x2 hw => ?_)
  refine v_istore_n (ls' := [(1, .int x2), (0, .ref v0)]) C dX10_clearBest_9 rfl (by decide) rfl ?_
  refine v_iconst (v := 0) C dX10_clearBest_10 (by decide) ?_
  refine v_istore_n (ls' := [(2, .int (0 : Int32)), (1, .int x2), (0, .ref v0)]) C dX10_clearBest_11 rfl (by decide) rfl ?_
  refine v_sub [2, 1, 0] rfl ?_
  refine lp_walk (P := fun (s' : Int32 × AH) => V p l e s m args below meth c g 0 0 0 3 0 0 (MQ below (QCx g (QV Q)) args s 0 0 (gA g)) 12 [(0, .ref v0), (1, .int x2), (2, .int (s'.1))] [] s'.2) (fun k2 hk2 s' hw => ?_) ((0 : Int32), h) hw
  exact s_X10_clearBest_12 C hr (fun  h hw => s_X10_clearBest_30 C hr   h hw) (fun y2 h hw => hk2 (y2, h) hw) _ _ hw
-- GrassField$Ways.inTime(II)I
theorem dX10_inTime_0 : decode cX10_inTime 0 = .ok (.aload_n 0, 1) := by decide +kernel
theorem dX10_inTime_1 : decode cX10_inTime 1 = .ok (.getfield 18, 3) := by decide +kernel
theorem dX10_inTime_4 : decode cX10_inTime 4 = .ok (.iload_n 1, 1) := by decide +kernel
theorem dX10_inTime_5 : decode cX10_inTime 5 = .ok (.iaload, 1) := by decide +kernel
theorem dX10_inTime_6 : decode cX10_inTime 6 = .ok (.iload_n 2, 1) := by decide +kernel
theorem dX10_inTime_7 : decode cX10_inTime 7 = .ok (.invokestatic 68, 3) := by decide +kernel
theorem dX10_inTime_10 : decode cX10_inTime 10 = .ok (.istore_n 3, 1) := by decide +kernel
theorem dX10_inTime_11 : decode cX10_inTime 11 = .ok (.iload_n 3, 1) := by decide +kernel
theorem dX10_inTime_12 : decode cX10_inTime 12 = .ok (.aload_n 0, 1) := by decide +kernel
theorem dX10_inTime_13 : decode cX10_inTime 13 = .ok (.getfield 15, 3) := by decide +kernel
theorem dX10_inTime_16 : decode cX10_inTime 16 = .ok (.iload_n 1, 1) := by decide +kernel
theorem dX10_inTime_17 : decode cX10_inTime 17 = .ok (.iaload, 1) := by decide +kernel
theorem dX10_inTime_18 : decode cX10_inTime 18 = .ok (.if_icmp .lt 7, 3) := by decide +kernel
theorem dX10_inTime_21 : decode cX10_inTime 21 = .ok (.iload_n 3, 1) := by decide +kernel
theorem dX10_inTime_22 : decode cX10_inTime 22 = .ok (.goto 4, 3) := by decide +kernel
theorem dX10_inTime_25 : decode cX10_inTime 25 = .ok (.iconst (-1), 1) := by decide +kernel
theorem dX10_inTime_26 : decode cX10_inTime 26 = .ok (.ireturn, 1) := by decide +kernel
def w_X10_inTime_26  (t0 : Int32) (h : AH) (Q : Int32 → AH → Prop) : Prop :=
  Q t0 h
def w_X10_inTime  (v0 : Nat) (v1 : Int32) (v2 : Int32) (h : AH) (Q : Int32 → AH → Prop) : Prop :=
  fN h v0 10 3 fun a1 =>
  aI h a1 v1 fun x2 =>
  bd (jmin x2 v2) fun x3 =>
  fN h v0 10 2 fun a4 =>
  aI h a4 v1 fun x5 =>
  br (x3 < x5) (
    w_X10_inTime_26 (-1 : Int32) h Q) (
    w_X10_inTime_26 x3 h Q)
set_option maxRecDepth 100000 in
set_option maxHeartbeats 4000000 in
theorem s_X10_inTime_26 {p : Program} {l : Launch} {e : Env} {s : State} {m : MethodId} {args : Array Value} {below : List Frame} {meth : Method} {c : Code} {g : GG}  {Q : Int32 → AH → Prop}  (C : CXT p l s m args meth c RX10 cX10_inTime 4 g) (hr : meth.sig.returnType = (some .int))  : ∀ (t0 : Int32) (h : AH), w_X10_inTime_26  t0 h Q → V p l e s m args below meth c g 1 0 0 4 0 0 (MQ below (QCx g (QI Q)) args s 0 0 (gA g)) 26 [] [.int t0] h := by
  intro t0 h hw
  exact (rt_MQ C _).1 _ _ _ _ _ _ hr dX10_inTime_26 (by decide) (by decide) ⟨_, rfl, hw⟩
set_option maxRecDepth 100000 in
set_option maxHeartbeats 4000000 in
theorem s_X10_inTime {l : Launch}  {v0 : Nat} {v1 : Int32} {v2 : Int32} {h : AH} {Q : Int32 → AH → Prop}  (hw : w_X10_inTime  v0 v1 v2 h Q) : CT l yX10_inTime cX10_inTime 4 (some .int) 1 0 0 [.ref v0, .int v1, .int v2] h (QI Q) := by
  refine CT.of (by decide) ⟨rfl, ⟨rfl, ⟨rfl, trivial⟩⟩⟩ (Nat.le_of_ble_eq_true rfl) ?_
  intro p e s m args below meth c g C hr hin
  refine v_eq (pc' := 0) (ls' := [(0, .ref v0), (1, .int v1), (2, .int v2)]) rfl rfl rfl rfl ?_
  refine v_aload_n C dX10_inTime_0 0 rfl rfl ?_
  refine w_getN C fl_X10_18 dX10_inTime_1 rfl hw (fun a1 hw => ?_)
  refine v_iload_n C dX10_inTime_4 1 rfl rfl ?_
  refine w_iaload C dX10_inTime_5 hw (fun x2 hw => ?_)
  refine v_iload_n C dX10_inTime_6 2 rfl rfl ?_
  refine v_min C ml_X10_68 ms_min mi_math mc_min dX10_inTime_7 (by decide) (by decide) (by decide) (by decide) ?_
  refine w_bd hw (fun x3 hw => ?_)
  refine v_istore_n (ls' := [(3, .int x3), (0, .ref v0), (1, .int v1), (2, .int v2)]) C dX10_inTime_10 rfl (by decide) rfl ?_
  refine v_iload_n C dX10_inTime_11 0 rfl rfl ?_
  refine v_aload_n C dX10_inTime_12 1 rfl rfl ?_
  refine w_getN C fl_X10_15 dX10_inTime_13 rfl hw (fun a4 hw => ?_)
  refine v_iload_n C dX10_inTime_16 2 rfl rfl ?_
  refine w_iaload C dX10_inTime_17 hw (fun x5 hw => ?_)
  refine v_icmp_lt (tgt := 25) C dX10_inTime_18 (by decide) (fun c_18 => ?_) (fun c_18 => ?_)
  · have hw := hw.1 c_18
    refine v_iconst (v := -1) C dX10_inTime_25 (by decide) ?_
    refine v_sub [] rfl ?_
    exact s_X10_inTime_26 C hr  _ _ hw
  · have hw := hw.2 c_18
    refine v_iload_n C dX10_inTime_21 0 rfl rfl ?_
    refine v_goto (tgt := 26) C dX10_inTime_22 (by decide) ?_
    refine v_sub [] rfl ?_
    exact s_X10_inTime_26 C hr  _ _ hw
-- GrassField$Ways.comeTo(II)V
theorem dX10_comeTo_0 : decode cX10_comeTo 0 = .ok (.aload_n 0, 1) := by decide +kernel
theorem dX10_comeTo_1 : decode cX10_comeTo 1 = .ok (.getfield 24, 3) := by decide +kernel
theorem dX10_comeTo_4 : decode cX10_comeTo 4 = .ok (.iload_n 1, 1) := by decide +kernel
theorem dX10_comeTo_5 : decode cX10_comeTo 5 = .ok (.bipush 8, 2) := by decide +kernel
theorem dX10_comeTo_7 : decode cX10_comeTo 7 = .ok (.imul, 1) := by decide +kernel
theorem dX10_comeTo_8 : decode cX10_comeTo 8 = .ok (.iload_n 2, 1) := by decide +kernel
theorem dX10_comeTo_9 : decode cX10_comeTo 9 = .ok (.iadd, 1) := by decide +kernel
theorem dX10_comeTo_10 : decode cX10_comeTo 10 = .ok (.iaload, 1) := by decide +kernel
theorem dX10_comeTo_11 : decode cX10_comeTo 11 = .ok (.istore_n 3, 1) := by decide +kernel
theorem dX10_comeTo_12 : decode cX10_comeTo 12 = .ok (.iconst 0, 1) := by decide +kernel
theorem dX10_comeTo_13 : decode cX10_comeTo 13 = .ok (.istore 4, 2) := by decide +kernel
theorem dX10_comeTo_15 : decode cX10_comeTo 15 = .ok (.iload 4, 2) := by decide +kernel
theorem dX10_comeTo_17 : decode cX10_comeTo 17 = .ok (.aload_n 0, 1) := by decide +kernel
theorem dX10_comeTo_18 : decode cX10_comeTo 18 = .ok (.getfield 33, 3) := by decide +kernel
theorem dX10_comeTo_21 : decode cX10_comeTo 21 = .ok (.if_icmp .ge 69, 3) := by decide +kernel
theorem dX10_comeTo_24 : decode cX10_comeTo 24 = .ok (.iload_n 1, 1) := by decide +kernel
theorem dX10_comeTo_25 : decode cX10_comeTo 25 = .ok (.iload 4, 2) := by decide +kernel
theorem dX10_comeTo_27 : decode cX10_comeTo 27 = .ok (.ishr, 1) := by decide +kernel
theorem dX10_comeTo_28 : decode cX10_comeTo 28 = .ok (.iconst 1, 1) := by decide +kernel
theorem dX10_comeTo_29 : decode cX10_comeTo 29 = .ok (.iand, 1) := by decide +kernel
theorem dX10_comeTo_30 : decode cX10_comeTo 30 = .ok (.ifCond .ne 54, 3) := by decide +kernel
theorem dX10_comeTo_33 : decode cX10_comeTo 33 = .ok (.iload_n 1, 1) := by decide +kernel
theorem dX10_comeTo_34 : decode cX10_comeTo 34 = .ok (.iconst 1, 1) := by decide +kernel
theorem dX10_comeTo_35 : decode cX10_comeTo 35 = .ok (.iload 4, 2) := by decide +kernel
theorem dX10_comeTo_37 : decode cX10_comeTo 37 = .ok (.ishl, 1) := by decide +kernel
theorem dX10_comeTo_38 : decode cX10_comeTo 38 = .ok (.ior, 1) := by decide +kernel
theorem dX10_comeTo_39 : decode cX10_comeTo 39 = .ok (.bipush 8, 2) := by decide +kernel
theorem dX10_comeTo_41 : decode cX10_comeTo 41 = .ok (.imul, 1) := by decide +kernel
theorem dX10_comeTo_42 : decode cX10_comeTo 42 = .ok (.iload 4, 2) := by decide +kernel
theorem dX10_comeTo_44 : decode cX10_comeTo 44 = .ok (.iadd, 1) := by decide +kernel
theorem dX10_comeTo_45 : decode cX10_comeTo 45 = .ok (.istore 5, 2) := by decide +kernel
theorem dX10_comeTo_47 : decode cX10_comeTo 47 = .ok (.aload_n 0, 1) := by decide +kernel
theorem dX10_comeTo_48 : decode cX10_comeTo 48 = .ok (.getfield 24, 3) := by decide +kernel
theorem dX10_comeTo_51 : decode cX10_comeTo 51 = .ok (.iload 5, 2) := by decide +kernel
theorem dX10_comeTo_53 : decode cX10_comeTo 53 = .ok (.aload_n 0, 1) := by decide +kernel
theorem dX10_comeTo_54 : decode cX10_comeTo 54 = .ok (.getfield 24, 3) := by decide +kernel
theorem dX10_comeTo_57 : decode cX10_comeTo 57 = .ok (.iload 5, 2) := by decide +kernel
theorem dX10_comeTo_59 : decode cX10_comeTo 59 = .ok (.iaload, 1) := by decide +kernel
theorem dX10_comeTo_60 : decode cX10_comeTo 60 = .ok (.aload_n 0, 1) := by decide +kernel
theorem dX10_comeTo_61 : decode cX10_comeTo 61 = .ok (.iload 4, 2) := by decide +kernel
theorem dX10_comeTo_63 : decode cX10_comeTo 63 = .ok (.iload_n 3, 1) := by decide +kernel
theorem dX10_comeTo_64 : decode cX10_comeTo 64 = .ok (.aload_n 0, 1) := by decide +kernel
theorem dX10_comeTo_65 : decode cX10_comeTo 65 = .ok (.getfield 21, 3) := by decide +kernel
theorem dX10_comeTo_68 : decode cX10_comeTo 68 = .ok (.iload 4, 2) := by decide +kernel
theorem dX10_comeTo_70 : decode cX10_comeTo 70 = .ok (.bipush 8, 2) := by decide +kernel
theorem dX10_comeTo_72 : decode cX10_comeTo 72 = .ok (.imul, 1) := by decide +kernel
theorem dX10_comeTo_73 : decode cX10_comeTo 73 = .ok (.iload_n 2, 1) := by decide +kernel
theorem dX10_comeTo_74 : decode cX10_comeTo 74 = .ok (.iadd, 1) := by decide +kernel
theorem dX10_comeTo_75 : decode cX10_comeTo 75 = .ok (.iaload, 1) := by decide +kernel
theorem dX10_comeTo_76 : decode cX10_comeTo 76 = .ok (.isub, 1) := by decide +kernel
theorem dX10_comeTo_77 : decode cX10_comeTo 77 = .ok (.invokevirtual 71, 3) := by decide +kernel
theorem dX10_comeTo_80 : decode cX10_comeTo 80 = .ok (.invokestatic 63, 3) := by decide +kernel
theorem dX10_comeTo_83 : decode cX10_comeTo 83 = .ok (.iastore, 1) := by decide +kernel
theorem dX10_comeTo_84 : decode cX10_comeTo 84 = .ok (.iinc 4 1, 3) := by decide +kernel
theorem dX10_comeTo_87 : decode cX10_comeTo 87 = .ok (.goto (-72), 3) := by decide +kernel
theorem dX10_comeTo_90 : decode cX10_comeTo 90 = .ok (.return_, 1) := by decide +kernel
def w_X10_comeTo_90  (h : AH) (Q : AH → Prop) : Prop :=
  Q h
def w_X10_comeTo_84  (x90 : AH → Prop) (k : Int32 → AH → Prop) (v0 : Nat) (v1 : Int32) (v2 : Int32) (v3 : Int32) (v4 : Int32) (h : AH) (Q : AH → Prop) : Prop :=
  k (v4 + 1) h
def w_X10_comeTo_15  (x90 : AH → Prop) (k : Int32 → AH → Prop) (v0 : Nat) (v1 : Int32) (v2 : Int32) (v3 : Int32) (v4 : Int32) (h : AH) (Q : AH → Prop) : Prop :=
  fI h v0 10 0 fun x1 =>
  br (x1 ≤ v4) (
    x90  h) (
    br (((v1 >>> (v4 &&& 31)) &&& (1 : Int32)) = 0) (
      bd (((v1 ||| ((1 : Int32) <<< (v4 &&& 31))) * (8 : Int32)) + v4) fun x2 =>
      fN h v0 10 5 fun a3 =>
      fN h v0 10 5 fun a4 =>
      aI h a4 x2 fun x5 =>
      fN h v0 10 4 fun a6 =>
      aI h a6 ((v4 * (8 : Int32)) + v2) fun x7 =>
      vr h v0 10 (
      w_X10_inTime v0 v4 (v3 - x7) h (fun x8 h =>
      tI h a3 x2 (jmax x5 x8) fun h =>
      w_X10_comeTo_84 x90 k v0 v1 v2 v3 v4 h Q))) (
      w_X10_comeTo_84 x90 k v0 v1 v2 v3 v4 h Q))
def w_X10_comeTo  (v0 : Nat) (v1 : Int32) (v2 : Int32) (h : AH) (Q : AH → Prop) : Prop :=
  fN h v0 10 5 fun a1 =>
  aI h a1 ((v1 * (8 : Int32)) + v2) fun x2 =>
  lp (fun (k2 : Int32 × AH → Prop) (s2 : Int32 × AH) => w_X10_comeTo_15  (fun  h => w_X10_comeTo_90  h Q) (fun (y4 : Int32) h => k2 (y4, h)) v0 v1 v2 x2 s2.1 s2.2 Q) ((0 : Int32), h)
set_option maxRecDepth 100000 in
set_option maxHeartbeats 4000000 in
theorem s_X10_comeTo_90 {p : Program} {l : Launch} {e : Env} {s : State} {m : MethodId} {args : Array Value} {below : List Frame} {meth : Method} {c : Code} {g : GG}  {Q : AH → Prop}  (C : CXT p l s m args meth c RX10 cX10_comeTo 6 g) (hr : meth.sig.returnType = none)  : ∀  (h : AH), w_X10_comeTo_90  h Q → V p l e s m args below meth c g 2 0 0 6 0 0 (MQ below (QCx g (QV Q)) args s 0 0 (gA g)) 90 [] [] h := by
  intro  h hw
  exact (rt_MQ C _).2.2.1 _ _ _ _ _ hr dX10_comeTo_90 (by decide) (by decide) ⟨rfl, hw⟩
set_option maxRecDepth 100000 in
set_option maxHeartbeats 4000000 in
theorem s_X10_comeTo_84 {p : Program} {l : Launch} {e : Env} {s : State} {m : MethodId} {args : Array Value} {below : List Frame} {meth : Method} {c : Code} {g : GG} {v0 : Nat} {v1 : Int32} {v2 : Int32} {v3 : Int32} {Q : AH → Prop} {x90 : AH → Prop} {k : Int32 → AH → Prop} (C : CXT p l s m args meth c RX10 cX10_comeTo 6 g) (hr : meth.sig.returnType = none) (hx90 : ∀  (h : AH), x90  h → V p l e s m args below meth c g 2 0 0 6 0 0 (MQ below (QCx g (QV Q)) args s 0 0 (gA g)) 90 [] [] h) (hk : ∀ (y4 : Int32) (h : AH), k y4 h → V p l e s m args below meth c g 2 0 0 6 0 0 (MQ below (QCx g (QV Q)) args s 0 0 (gA g)) 15 [(0, .ref v0), (1, .int v1), (2, .int v2), (3, .int v3), (4, .int y4)] [] h) : ∀ (v4 : Int32) (h : AH), w_X10_comeTo_84  x90 k v0 v1 v2 v3 v4 h Q → V p l e s m args below meth c g 2 0 0 6 0 0 (MQ below (QCx g (QV Q)) args s 0 0 (gA g)) 84 [(0, .ref v0), (1, .int v1), (2, .int v2), (3, .int v3), (4, .int v4)] [] h := by
  intro v4 h hw
  refine v_iinc (v := 1) (ls' := [(4, .int (v4 + 1)), (0, .ref v0), (1, .int v1), (2, .int v2), (3, .int v3)]) C dX10_comeTo_84 4 rfl (by decide) (by decide) rfl ?_
  refine v_goto (tgt := 15) C dX10_comeTo_87 (by decide) ?_
  refine v_sub [1, 2, 3, 4, 0] rfl ?_
  exact hk _ _ hw
set_option maxRecDepth 100000 in
set_option maxHeartbeats 4000000 in
theorem s_X10_comeTo_15 {p : Program} {l : Launch} {e : Env} {s : State} {m : MethodId} {args : Array Value} {below : List Frame} {meth : Method} {c : Code} {g : GG} {v0 : Nat} {v1 : Int32} {v2 : Int32} {v3 : Int32} {Q : AH → Prop} {x90 : AH → Prop} {k : Int32 → AH → Prop} (C : CXT p l s m args meth c RX10 cX10_comeTo 6 g) (hr : meth.sig.returnType = none) (hx90 : ∀  (h : AH), x90  h → V p l e s m args below meth c g 2 0 0 6 0 0 (MQ below (QCx g (QV Q)) args s 0 0 (gA g)) 90 [] [] h) (hk : ∀ (y4 : Int32) (h : AH), k y4 h → V p l e s m args below meth c g 2 0 0 6 0 0 (MQ below (QCx g (QV Q)) args s 0 0 (gA g)) 15 [(0, .ref v0), (1, .int v1), (2, .int v2), (3, .int v3), (4, .int y4)] [] h) : ∀ (v4 : Int32) (h : AH), w_X10_comeTo_15  x90 k v0 v1 v2 v3 v4 h Q → V p l e s m args below meth c g 2 0 0 6 0 0 (MQ below (QCx g (QV Q)) args s 0 0 (gA g)) 15 [(0, .ref v0), (1, .int v1), (2, .int v2), (3, .int v3), (4, .int v4)] [] h := by
  intro v4 h hw
  refine v_iload C dX10_comeTo_15 4 rfl ?_
  refine v_aload_n C dX10_comeTo_17 0 rfl rfl ?_
  refine w_getI C fl_X10_33 dX10_comeTo_18 rfl hw (fun x1 hw => ?_)
  refine v_icmp_ge (tgt := 90) C dX10_comeTo_21 (by decide) (fun c_21 => ?_) (fun c_21 => ?_)
  · have hw := hw.1 c_21
    refine v_sub [] rfl ?_
    exact hx90  _ hw
  · have hw := hw.2 c_21
    refine v_iload_n C dX10_comeTo_24 1 rfl rfl ?_
    refine v_iload C dX10_comeTo_25 4 rfl ?_
    refine v_ishr C dX10_comeTo_27 ?_
    refine v_iconst (v := 1) C dX10_comeTo_28 (by decide) ?_
    refine v_iand C dX10_comeTo_29 ?_
    refine v_if_ne (tgt := 84) C dX10_comeTo_30 (by decide) (fun c_30 => ?_) (fun c_30 => ?_)
    · have hw := hw.2 c_30
      exact s_X10_comeTo_84 C hr hx90 hk _ _ hw
    · have hw := hw.1 c_30
      refine v_iload_n C dX10_comeTo_33 1 rfl rfl ?_
      refine v_iconst (v := 1) C dX10_comeTo_34 (by decide) ?_
      refine v_iload C dX10_comeTo_35 4 rfl ?_
      refine v_ishl C dX10_comeTo_37 ?_
      refine v_ior C dX10_comeTo_38 ?_
      refine v_bipush (v := 8) C dX10_comeTo_39 (by decide) ?_
      refine v_imul C dX10_comeTo_41 ?_
      refine v_iload C dX10_comeTo_42 4 rfl ?_
      refine v_iadd C dX10_comeTo_44 ?_
      refine w_bd hw (fun x2 hw => ?_)
      refine v_istore (ls' := [(5, .int x2), (0, .ref v0), (1, .int v1), (2, .int v2), (3, .int v3), (4, .int v4)]) C dX10_comeTo_45 (by decide) rfl ?_
      refine v_aload_n C dX10_comeTo_47 1 rfl rfl ?_
      refine w_getN C fl_X10_24 dX10_comeTo_48 rfl hw (fun a3 hw => ?_)
      refine v_iload C dX10_comeTo_51 0 rfl ?_
      refine v_aload_n C dX10_comeTo_53 1 rfl rfl ?_
      refine w_getN C fl_X10_24 dX10_comeTo_54 rfl hw (fun a4 hw => ?_)
      refine v_iload C dX10_comeTo_57 0 rfl ?_
      refine w_iaload C dX10_comeTo_59 hw (fun x5 hw => ?_)
      refine v_aload_n C dX10_comeTo_60 1 rfl rfl ?_
      refine v_iload C dX10_comeTo_61 5 rfl ?_
      refine v_iload_n C dX10_comeTo_63 4 rfl rfl ?_
      refine v_aload_n C dX10_comeTo_64 1 rfl rfl ?_
      refine w_getN C fl_X10_21 dX10_comeTo_65 rfl hw (fun a6 hw => ?_)
      refine v_iload C dX10_comeTo_68 5 rfl ?_
      refine v_bipush (v := 8) C dX10_comeTo_70 (by decide) ?_
      refine v_imul C dX10_comeTo_72 ?_
      refine v_iload_n C dX10_comeTo_73 3 rfl rfl ?_
      refine v_iadd C dX10_comeTo_74 ?_
      refine w_iaload C dX10_comeTo_75 hw (fun x7 hw => ?_)
      refine v_isub C dX10_comeTo_76 ?_
      refine w_callVi (st := [.int x5, .int x2, .ref a3]) C cl_X10_71 im_X10_inTime se_X10_inTime rfl hw.1 (s_X10_inTime hw.2) rfl dX10_comeTo_77 rfl (Nat.le_of_ble_eq_true rfl) (by decide) (by decide) (by decide) (by decide) (fun x8 h hw => ?_)
      refine v_max C ml_X10_63 ms_max mi_math mc_max dX10_comeTo_80 (by decide) (Nat.le_of_ble_eq_true rfl) (by decide) (by decide) ?_
      refine w_iastore C dX10_comeTo_83 hw (fun h hw => ?_)
      refine v_sub [1, 2, 3, 4, 5] rfl ?_
      exact s_X10_comeTo_84 C hr hx90 hk _ _ hw
set_option maxRecDepth 100000 in
set_option maxHeartbeats 4000000 in
theorem s_X10_comeTo {l : Launch}  {v0 : Nat} {v1 : Int32} {v2 : Int32} {h : AH} {Q : AH → Prop}  (hw : w_X10_comeTo  v0 v1 v2 h Q) : CT l yX10_comeTo cX10_comeTo 6 none 2 0 0 [.ref v0, .int v1, .int v2] h (QV Q) := by
  refine CT.of (by decide) ⟨rfl, ⟨rfl, ⟨rfl, trivial⟩⟩⟩ (Nat.le_of_ble_eq_true rfl) ?_
  intro p e s m args below meth c g C hr hin
  refine v_eq (pc' := 0) (ls' := [(0, .ref v0), (1, .int v1), (2, .int v2)]) rfl rfl rfl rfl ?_
  refine v_aload_n C dX10_comeTo_0 0 rfl rfl ?_
  refine w_getN C fl_X10_24 dX10_comeTo_1 rfl hw (fun a1 hw => ?_)
  refine v_iload_n C dX10_comeTo_4 1 rfl rfl ?_
  refine v_bipush (v := 8) C dX10_comeTo_5 (by decide) ?_
  refine v_imul C dX10_comeTo_7 ?_
  refine v_iload_n C dX10_comeTo_8 2 rfl rfl ?_
  refine v_iadd C dX10_comeTo_9 ?_
  refine w_iaload C dX10_comeTo_10 hw (fun x2 hw => ?_)
  refine v_istore_n (ls' := [(3, .int x2), (0, .ref v0), (1, .int v1), (2, .int v2)]) C dX10_comeTo_11 rfl (by decide) rfl ?_
  refine v_iconst (v := 0) C dX10_comeTo_12 (by decide) ?_
  refine v_istore (ls' := [(4, .int (0 : Int32)), (3, .int x2), (0, .ref v0), (1, .int v1), (2, .int v2)]) C dX10_comeTo_13 (by decide) rfl ?_
  refine v_sub [2, 3, 4, 1, 0] rfl ?_
  refine lp_walk (P := fun (s' : Int32 × AH) => V p l e s m args below meth c g 2 0 0 6 0 0 (MQ below (QCx g (QV Q)) args s 0 0 (gA g)) 15 [(0, .ref v0), (1, .int v1), (2, .int v2), (3, .int x2), (4, .int (s'.1))] [] s'.2) (fun k2 hk2 s' hw => ?_) ((0 : Int32), h) hw
  exact s_X10_comeTo_15 C hr (fun  h hw => s_X10_comeTo_90 C hr   h hw) (fun y4 h hw => hk2 (y4, h) hw) _ _ hw
-- GrassField$Ways.fewestHands()I
theorem dX10_fewestHands_0 : decode cX10_fewestHands 0 = .ok (.aload_n 0, 1) := by decide +kernel
theorem dX10_fewestHands_1 : decode cX10_fewestHands 1 = .ok (.getfield 57, 3) := by decide +kernel
theorem dX10_fewestHands_4 : decode cX10_fewestHands 4 = .ok (.iconst (-1), 1) := by decide +kernel
theorem dX10_fewestHands_5 : decode cX10_fewestHands 5 = .ok (.if_icmp .eq 5, 3) := by decide +kernel
theorem dX10_fewestHands_8 : decode cX10_fewestHands 8 = .ok (.iconst 1, 1) := by decide +kernel
theorem dX10_fewestHands_9 : decode cX10_fewestHands 9 = .ok (.ireturn, 1) := by decide +kernel
theorem dX10_fewestHands_10 : decode cX10_fewestHands 10 = .ok (.iconst 1, 1) := by decide +kernel
theorem dX10_fewestHands_11 : decode cX10_fewestHands 11 = .ok (.aload_n 0, 1) := by decide +kernel
theorem dX10_fewestHands_12 : decode cX10_fewestHands 12 = .ok (.getfield 33, 3) := by decide +kernel
theorem dX10_fewestHands_15 : decode cX10_fewestHands 15 = .ok (.ishl, 1) := by decide +kernel
theorem dX10_fewestHands_16 : decode cX10_fewestHands 16 = .ok (.iconst 1, 1) := by decide +kernel
theorem dX10_fewestHands_17 : decode cX10_fewestHands 17 = .ok (.isub, 1) := by decide +kernel
theorem dX10_fewestHands_18 : decode cX10_fewestHands 18 = .ok (.istore_n 1, 1) := by decide +kernel
theorem dX10_fewestHands_19 : decode cX10_fewestHands 19 = .ok (.aload_n 0, 1) := by decide +kernel
theorem dX10_fewestHands_20 : decode cX10_fewestHands 20 = .ok (.getfield 30, 3) := by decide +kernel
theorem dX10_fewestHands_23 : decode cX10_fewestHands 23 = .ok (.iconst 0, 1) := by decide +kernel
theorem dX10_fewestHands_24 : decode cX10_fewestHands 24 = .ok (.iconst 0, 1) := by decide +kernel
theorem dX10_fewestHands_25 : decode cX10_fewestHands 25 = .ok (.iastore, 1) := by decide +kernel
theorem dX10_fewestHands_26 : decode cX10_fewestHands 26 = .ok (.iconst 1, 1) := by decide +kernel
theorem dX10_fewestHands_27 : decode cX10_fewestHands 27 = .ok (.istore_n 2, 1) := by decide +kernel
theorem dX10_fewestHands_28 : decode cX10_fewestHands 28 = .ok (.iload_n 2, 1) := by decide +kernel
theorem dX10_fewestHands_29 : decode cX10_fewestHands 29 = .ok (.iload_n 1, 1) := by decide +kernel
theorem dX10_fewestHands_30 : decode cX10_fewestHands 30 = .ok (.if_icmp .gt 89, 3) := by decide +kernel
theorem dX10_fewestHands_33 : decode cX10_fewestHands 33 = .ok (.iload_n 2, 1) := by decide +kernel
theorem dX10_fewestHands_34 : decode cX10_fewestHands 34 = .ok (.iload_n 2, 1) := by decide +kernel
theorem dX10_fewestHands_35 : decode cX10_fewestHands 35 = .ok (.ineg, 1) := by decide +kernel
theorem dX10_fewestHands_36 : decode cX10_fewestHands 36 = .ok (.iand, 1) := by decide +kernel
theorem dX10_fewestHands_37 : decode cX10_fewestHands 37 = .ok (.istore_n 3, 1) := by decide +kernel
theorem dX10_fewestHands_38 : decode cX10_fewestHands 38 = .ok (.aload_n 0, 1) := by decide +kernel
theorem dX10_fewestHands_39 : decode cX10_fewestHands 39 = .ok (.getfield 30, 3) := by decide +kernel
theorem dX10_fewestHands_42 : decode cX10_fewestHands 42 = .ok (.iload_n 2, 1) := by decide +kernel
theorem dX10_fewestHands_43 : decode cX10_fewestHands 43 = .ok (.aload_n 0, 1) := by decide +kernel
theorem dX10_fewestHands_44 : decode cX10_fewestHands 44 = .ok (.getfield 33, 3) := by decide +kernel
theorem dX10_fewestHands_47 : decode cX10_fewestHands 47 = .ok (.iastore, 1) := by decide +kernel
theorem dX10_fewestHands_48 : decode cX10_fewestHands 48 = .ok (.iload_n 2, 1) := by decide +kernel
theorem dX10_fewestHands_49 : decode cX10_fewestHands 49 = .ok (.istore 4, 2) := by decide +kernel
theorem dX10_fewestHands_51 : decode cX10_fewestHands 51 = .ok (.iload 4, 2) := by decide +kernel
theorem dX10_fewestHands_53 : decode cX10_fewestHands 53 = .ok (.ifCond .le 60, 3) := by decide +kernel
theorem dX10_fewestHands_56 : decode cX10_fewestHands 56 = .ok (.aload_n 0, 1) := by decide +kernel
theorem dX10_fewestHands_57 : decode cX10_fewestHands 57 = .ok (.getfield 27, 3) := by decide +kernel
theorem dX10_fewestHands_60 : decode cX10_fewestHands 60 = .ok (.iload 4, 2) := by decide +kernel
theorem dX10_fewestHands_62 : decode cX10_fewestHands 62 = .ok (.iaload, 1) := by decide +kernel
theorem dX10_fewestHands_63 : decode cX10_fewestHands 63 = .ok (.iconst 1, 1) := by decide +kernel
theorem dX10_fewestHands_64 : decode cX10_fewestHands 64 = .ok (.if_icmp .ne 38, 3) := by decide +kernel
theorem dX10_fewestHands_67 : decode cX10_fewestHands 67 = .ok (.iload 4, 2) := by decide +kernel
theorem dX10_fewestHands_69 : decode cX10_fewestHands 69 = .ok (.iload_n 3, 1) := by decide +kernel
theorem dX10_fewestHands_70 : decode cX10_fewestHands 70 = .ok (.iand, 1) := by decide +kernel
theorem dX10_fewestHands_71 : decode cX10_fewestHands 71 = .ok (.ifCond .eq 31, 3) := by decide +kernel
theorem dX10_fewestHands_74 : decode cX10_fewestHands 74 = .ok (.aload_n 0, 1) := by decide +kernel
theorem dX10_fewestHands_75 : decode cX10_fewestHands 75 = .ok (.getfield 30, 3) := by decide +kernel
theorem dX10_fewestHands_78 : decode cX10_fewestHands 78 = .ok (.iload_n 2, 1) := by decide +kernel
theorem dX10_fewestHands_79 : decode cX10_fewestHands 79 = .ok (.aload_n 0, 1) := by decide +kernel
theorem dX10_fewestHands_80 : decode cX10_fewestHands 80 = .ok (.getfield 30, 3) := by decide +kernel
theorem dX10_fewestHands_83 : decode cX10_fewestHands 83 = .ok (.iload_n 2, 1) := by decide +kernel
theorem dX10_fewestHands_84 : decode cX10_fewestHands 84 = .ok (.iaload, 1) := by decide +kernel
theorem dX10_fewestHands_85 : decode cX10_fewestHands 85 = .ok (.aload_n 0, 1) := by decide +kernel
theorem dX10_fewestHands_86 : decode cX10_fewestHands 86 = .ok (.getfield 30, 3) := by decide +kernel
theorem dX10_fewestHands_89 : decode cX10_fewestHands 89 = .ok (.iload_n 2, 1) := by decide +kernel
theorem dX10_fewestHands_90 : decode cX10_fewestHands 90 = .ok (.iload 4, 2) := by decide +kernel
theorem dX10_fewestHands_92 : decode cX10_fewestHands 92 = .ok (.iconst (-1), 1) := by decide +kernel
theorem dX10_fewestHands_93 : decode cX10_fewestHands 93 = .ok (.ixor, 1) := by decide +kernel
theorem dX10_fewestHands_94 : decode cX10_fewestHands 94 = .ok (.iand, 1) := by decide +kernel
theorem dX10_fewestHands_95 : decode cX10_fewestHands 95 = .ok (.iaload, 1) := by decide +kernel
theorem dX10_fewestHands_96 : decode cX10_fewestHands 96 = .ok (.iconst 1, 1) := by decide +kernel
theorem dX10_fewestHands_97 : decode cX10_fewestHands 97 = .ok (.iadd, 1) := by decide +kernel
theorem dX10_fewestHands_98 : decode cX10_fewestHands 98 = .ok (.invokestatic 68, 3) := by decide +kernel
theorem dX10_fewestHands_101 : decode cX10_fewestHands 101 = .ok (.iastore, 1) := by decide +kernel
theorem dX10_fewestHands_102 : decode cX10_fewestHands 102 = .ok (.iload 4, 2) := by decide +kernel
theorem dX10_fewestHands_104 : decode cX10_fewestHands 104 = .ok (.iconst 1, 1) := by decide +kernel
theorem dX10_fewestHands_105 : decode cX10_fewestHands 105 = .ok (.isub, 1) := by decide +kernel
theorem dX10_fewestHands_106 : decode cX10_fewestHands 106 = .ok (.iload_n 2, 1) := by decide +kernel
theorem dX10_fewestHands_107 : decode cX10_fewestHands 107 = .ok (.iand, 1) := by decide +kernel
theorem dX10_fewestHands_108 : decode cX10_fewestHands 108 = .ok (.istore 4, 2) := by decide +kernel
theorem dX10_fewestHands_110 : decode cX10_fewestHands 110 = .ok (.goto (-59), 3) := by decide +kernel
theorem dX10_fewestHands_113 : decode cX10_fewestHands 113 = .ok (.iinc 2 1, 3) := by decide +kernel
theorem dX10_fewestHands_116 : decode cX10_fewestHands 116 = .ok (.goto (-88), 3) := by decide +kernel
theorem dX10_fewestHands_119 : decode cX10_fewestHands 119 = .ok (.aload_n 0, 1) := by decide +kernel
theorem dX10_fewestHands_120 : decode cX10_fewestHands 120 = .ok (.getfield 30, 3) := by decide +kernel
theorem dX10_fewestHands_123 : decode cX10_fewestHands 123 = .ok (.iload_n 1, 1) := by decide +kernel
theorem dX10_fewestHands_124 : decode cX10_fewestHands 124 = .ok (.iaload, 1) := by decide +kernel
theorem dX10_fewestHands_125 : decode cX10_fewestHands 125 = .ok (.ireturn, 1) := by decide +kernel
def w_X10_fewestHands_119  (v0 : Nat) (v1 : Int32) (h : AH) (Q : Int32 → AH → Prop) : Prop :=
  fN h v0 10 7 fun a1 =>
  aI h a1 v1 fun x2 =>
  Q x2 h
def w_X10_fewestHands_113  (x119 : AH → Prop) (k : Int32 → AH → Prop) (v0 : Nat) (v1 : Int32) (v2 : Int32) (h : AH) (Q : Int32 → AH → Prop) : Prop :=
  k (v2 + 1) h
def w_X10_fewestHands_102  (x113 : AH → Prop) (k : Int32 → AH → Prop) (v0 : Nat) (v1 : Int32) (v2 : Int32) (v3 : Int32) (v4 : Int32) (h : AH) (Q : Int32 → AH → Prop) : Prop :=
  bd ((v4 - (1 : Int32)) &&& v2) fun x1 =>
  k x1 h
def w_X10_fewestHands_51  (x113 : AH → Prop) (k : Int32 → AH → Prop) (v0 : Nat) (v1 : Int32) (v2 : Int32) (v3 : Int32) (v4 : Int32) (h : AH) (Q : Int32 → AH → Prop) : Prop :=
  br (v4 ≤ 0) (
    x113  h) (
    fN h v0 10 6 fun a1 =>
    aI h a1 v4 fun x2 =>
    br (x2 = (1 : Int32)) (
      br ((v4 &&& v3) = 0) (
        w_X10_fewestHands_102 x113 k v0 v1 v2 v3 v4 h Q) (
        fN h v0 10 7 fun a3 =>
        fN h v0 10 7 fun a4 =>
        aI h a4 v2 fun x5 =>
        fN h v0 10 7 fun a6 =>
        aI h a6 (v2 &&& (v4 ^^^ (-1 : Int32))) fun x7 =>
        tI h a3 v2 (jmin x5 (x7 + (1 : Int32))) fun h =>
        w_X10_fewestHands_102 x113 k v0 v1 v2 v3 v4 h Q)) (
      w_X10_fewestHands_102 x113 k v0 v1 v2 v3 v4 h Q))
def w_X10_fewestHands_28  (x119 : AH → Prop) (k : Int32 → AH → Prop) (v0 : Nat) (v1 : Int32) (v2 : Int32) (h : AH) (Q : Int32 → AH → Prop) : Prop :=
  br (v1 < v2) (
    x119  h) (
    bd (v2 &&& (-v2)) fun x1 =>
    fN h v0 10 7 fun a2 =>
    fI h v0 10 0 fun x3 =>
    tI h a2 v2 x3 fun h =>
    lp (fun (k2 : Int32 × AH → Prop) (s2 : Int32 × AH) => w_X10_fewestHands_51  (fun  h => w_X10_fewestHands_113 x119 k v0 v1 v2 h Q) (fun (y4 : Int32) h => k2 (y4, h)) v0 v1 v2 x1 s2.1 s2.2 Q) (v2, h))
def w_X10_fewestHands  (v0 : Nat) (h : AH) (Q : Int32 → AH → Prop) : Prop :=
  fI h v0 10 8 fun x1 =>
  br (x1 = (-1 : Int32)) (
    fI h v0 10 0 fun x2 =>
    bd (((1 : Int32) <<< (x2 &&& 31)) - (1 : Int32)) fun x3 =>
    fN h v0 10 7 fun a4 =>
    tI h a4 (0 : Int32) (0 : Int32) fun h =>
    lp (fun (k2 : Int32 × AH → Prop) (s2 : Int32 × AH) => w_X10_fewestHands_28  (fun  h => w_X10_fewestHands_119 v0 x3 h Q) (fun (y2 : Int32) h => k2 (y2, h)) v0 x3 s2.1 s2.2 Q) ((1 : Int32), h)) (
    Q (1 : Int32) h)
set_option maxRecDepth 100000 in
set_option maxHeartbeats 4000000 in
theorem s_X10_fewestHands_119 {p : Program} {l : Launch} {e : Env} {s : State} {m : MethodId} {args : Array Value} {below : List Frame} {meth : Method} {c : Code} {g : GG}  {Q : Int32 → AH → Prop}  (C : CXT p l s m args meth c RX10 cX10_fewestHands 5 g) (hr : meth.sig.returnType = (some .int))  : ∀ (v0 : Nat) (v1 : Int32) (h : AH), w_X10_fewestHands_119  v0 v1 h Q → V p l e s m args below meth c g 1 0 0 5 0 0 (MQ below (QCx g (QI Q)) args s 0 0 (gA g)) 119 [(0, .ref v0), (1, .int v1)] [] h := by
  intro v0 v1 h hw
  refine v_aload_n C dX10_fewestHands_119 0 rfl rfl ?_
  refine w_getN C fl_X10_30 dX10_fewestHands_120 rfl hw (fun a1 hw => ?_)
  refine v_iload_n C dX10_fewestHands_123 1 rfl rfl ?_
  refine w_iaload C dX10_fewestHands_124 hw (fun x2 hw => ?_)
  exact (rt_MQ C _).1 _ _ _ _ _ _ hr dX10_fewestHands_125 (by decide) (by decide) ⟨_, rfl, hw⟩
set_option maxRecDepth 100000 in
set_option maxHeartbeats 4000000 in
theorem s_X10_fewestHands_113 {p : Program} {l : Launch} {e : Env} {s : State} {m : MethodId} {args : Array Value} {below : List Frame} {meth : Method} {c : Code} {g : GG} {v0 : Nat} {v1 : Int32} {Q : Int32 → AH → Prop} {x119 : AH → Prop} {k : Int32 → AH → Prop} (C : CXT p l s m args meth c RX10 cX10_fewestHands 5 g) (hr : meth.sig.returnType = (some .int)) (hx119 : ∀  (h : AH), x119  h → V p l e s m args below meth c g 1 0 0 5 0 0 (MQ below (QCx g (QI Q)) args s 0 0 (gA g)) 119 [(0, .ref v0), (1, .int v1)] [] h) (hk : ∀ (y2 : Int32) (h : AH), k y2 h → V p l e s m args below meth c g 1 0 0 5 0 0 (MQ below (QCx g (QI Q)) args s 0 0 (gA g)) 28 [(0, .ref v0), (1, .int v1), (2, .int y2)] [] h) : ∀ (v2 : Int32) (h : AH), w_X10_fewestHands_113  x119 k v0 v1 v2 h Q → V p l e s m args below meth c g 1 0 0 5 0 0 (MQ below (QCx g (QI Q)) args s 0 0 (gA g)) 113 [(0, .ref v0), (1, .int v1), (2, .int v2)] [] h := by
  intro v2 h hw
  refine v_iinc (v := 1) (ls' := [(2, .int (v2 + 1)), (0, .ref v0), (1, .int v1)]) C dX10_fewestHands_113 2 rfl (by decide) (by decide) rfl ?_
  refine v_goto (tgt := 28) C dX10_fewestHands_116 (by decide) ?_
  refine v_sub [1, 2, 0] rfl ?_
  exact hk _ _ hw
set_option maxRecDepth 100000 in
set_option maxHeartbeats 4000000 in
theorem s_X10_fewestHands_102 {p : Program} {l : Launch} {e : Env} {s : State} {m : MethodId} {args : Array Value} {below : List Frame} {meth : Method} {c : Code} {g : GG} {v0 : Nat} {v1 : Int32} {v2 : Int32} {v3 : Int32} {Q : Int32 → AH → Prop} {x113 : AH → Prop} {k : Int32 → AH → Prop} (C : CXT p l s m args meth c RX10 cX10_fewestHands 5 g) (hr : meth.sig.returnType = (some .int)) (hx113 : ∀  (h : AH), x113  h → V p l e s m args below meth c g 1 0 0 5 0 0 (MQ below (QCx g (QI Q)) args s 0 0 (gA g)) 113 [(0, .ref v0), (1, .int v1), (2, .int v2)] [] h) (hk : ∀ (y4 : Int32) (h : AH), k y4 h → V p l e s m args below meth c g 1 0 0 5 0 0 (MQ below (QCx g (QI Q)) args s 0 0 (gA g)) 51 [(0, .ref v0), (1, .int v1), (2, .int v2), (3, .int v3), (4, .int y4)] [] h) : ∀ (v4 : Int32) (h : AH), w_X10_fewestHands_102  x113 k v0 v1 v2 v3 v4 h Q → V p l e s m args below meth c g 1 0 0 5 0 0 (MQ below (QCx g (QI Q)) args s 0 0 (gA g)) 102 [(0, .ref v0), (1, .int v1), (2, .int v2), (3, .int v3), (4, .int v4)] [] h := by
  intro v4 h hw
  refine v_iload C dX10_fewestHands_102 4 rfl ?_
  refine v_iconst (v := 1) C dX10_fewestHands_104 (by decide) ?_
  refine v_isub C dX10_fewestHands_105 ?_
  refine v_iload_n C dX10_fewestHands_106 2 rfl rfl ?_
  refine v_iand C dX10_fewestHands_107 ?_
  refine w_bd hw (fun x1 hw => ?_)
  refine v_istore (ls' := [(4, .int x1), (0, .ref v0), (1, .int v1), (2, .int v2), (3, .int v3)]) C dX10_fewestHands_108 (by decide) rfl ?_
  refine v_goto (tgt := 51) C dX10_fewestHands_110 (by decide) ?_
  refine v_sub [1, 2, 3, 4, 0] rfl ?_
  exact hk _ _ hw
set_option maxRecDepth 100000 in
set_option maxHeartbeats 4000000 in
theorem s_X10_fewestHands_51 {p : Program} {l : Launch} {e : Env} {s : State} {m : MethodId} {args : Array Value} {below : List Frame} {meth : Method} {c : Code} {g : GG} {v0 : Nat} {v1 : Int32} {v2 : Int32} {v3 : Int32} {Q : Int32 → AH → Prop} {x113 : AH → Prop} {k : Int32 → AH → Prop} (C : CXT p l s m args meth c RX10 cX10_fewestHands 5 g) (hr : meth.sig.returnType = (some .int)) (hx113 : ∀  (h : AH), x113  h → V p l e s m args below meth c g 1 0 0 5 0 0 (MQ below (QCx g (QI Q)) args s 0 0 (gA g)) 113 [(0, .ref v0), (1, .int v1), (2, .int v2)] [] h) (hk : ∀ (y4 : Int32) (h : AH), k y4 h → V p l e s m args below meth c g 1 0 0 5 0 0 (MQ below (QCx g (QI Q)) args s 0 0 (gA g)) 51 [(0, .ref v0), (1, .int v1), (2, .int v2), (3, .int v3), (4, .int y4)] [] h) : ∀ (v4 : Int32) (h : AH), w_X10_fewestHands_51  x113 k v0 v1 v2 v3 v4 h Q → V p l e s m args below meth c g 1 0 0 5 0 0 (MQ below (QCx g (QI Q)) args s 0 0 (gA g)) 51 [(0, .ref v0), (1, .int v1), (2, .int v2), (3, .int v3), (4, .int v4)] [] h := by
  intro v4 h hw
  refine v_iload C dX10_fewestHands_51 4 rfl ?_
  refine v_if_le (tgt := 113) C dX10_fewestHands_53 (by decide) (fun c_53 => ?_) (fun c_53 => ?_)
  · have hw := hw.1 c_53
    refine v_sub [0, 1, 2] rfl ?_
    exact hx113  _ hw
  · have hw := hw.2 c_53
    refine v_aload_n C dX10_fewestHands_56 0 rfl rfl ?_
    refine w_getN C fl_X10_27 dX10_fewestHands_57 rfl hw (fun a1 hw => ?_)
    refine v_iload C dX10_fewestHands_60 4 rfl ?_
    refine w_iaload C dX10_fewestHands_62 hw (fun x2 hw => ?_)
    refine v_iconst (v := 1) C dX10_fewestHands_63 (by decide) ?_
    refine v_icmp_ne (tgt := 102) C dX10_fewestHands_64 (by decide) (fun c_64 => ?_) (fun c_64 => ?_)
    · have hw := hw.2 c_64
      exact s_X10_fewestHands_102 C hr hx113 hk _ _ hw
    · have hw := hw.1 c_64
      refine v_iload C dX10_fewestHands_67 4 rfl ?_
      refine v_iload_n C dX10_fewestHands_69 3 rfl rfl ?_
      refine v_iand C dX10_fewestHands_70 ?_
      refine v_if_eq (tgt := 102) C dX10_fewestHands_71 (by decide) (fun c_71 => ?_) (fun c_71 => ?_)
      · have hw := hw.1 c_71
        exact s_X10_fewestHands_102 C hr hx113 hk _ _ hw
      · have hw := hw.2 c_71
        refine v_aload_n C dX10_fewestHands_74 0 rfl rfl ?_
        refine w_getN C fl_X10_30 dX10_fewestHands_75 rfl hw (fun a3 hw => ?_)
        refine v_iload_n C dX10_fewestHands_78 2 rfl rfl ?_
        refine v_aload_n C dX10_fewestHands_79 0 rfl rfl ?_
        refine w_getN C fl_X10_30 dX10_fewestHands_80 rfl hw (fun a4 hw => ?_)
        refine v_iload_n C dX10_fewestHands_83 2 rfl rfl ?_
        refine w_iaload C dX10_fewestHands_84 hw (fun x5 hw => ?_)
        refine v_aload_n C dX10_fewestHands_85 0 rfl rfl ?_
        refine w_getN C fl_X10_30 dX10_fewestHands_86 rfl hw (fun a6 hw => ?_)
        refine v_iload_n C dX10_fewestHands_89 2 rfl rfl ?_
        refine v_iload C dX10_fewestHands_90 4 rfl ?_
        refine v_iconst (v := -1) C dX10_fewestHands_92 (by decide) ?_
        refine v_ixor C dX10_fewestHands_93 ?_
        refine v_iand C dX10_fewestHands_94 ?_
        refine w_iaload C dX10_fewestHands_95 hw (fun x7 hw => ?_)
        refine v_iconst (v := 1) C dX10_fewestHands_96 (by decide) ?_
        refine v_iadd C dX10_fewestHands_97 ?_
        refine v_min C ml_X10_68 ms_min mi_math mc_min dX10_fewestHands_98 (by decide) (Nat.le_of_ble_eq_true rfl) (by decide) (by decide) ?_
        refine w_iastore C dX10_fewestHands_101 hw (fun h hw => ?_)
        exact s_X10_fewestHands_102 C hr hx113 hk _ _ hw
set_option maxRecDepth 100000 in
set_option maxHeartbeats 4000000 in
theorem s_X10_fewestHands_28 {p : Program} {l : Launch} {e : Env} {s : State} {m : MethodId} {args : Array Value} {below : List Frame} {meth : Method} {c : Code} {g : GG} {v0 : Nat} {v1 : Int32} {Q : Int32 → AH → Prop} {x119 : AH → Prop} {k : Int32 → AH → Prop} (C : CXT p l s m args meth c RX10 cX10_fewestHands 5 g) (hr : meth.sig.returnType = (some .int)) (hx119 : ∀  (h : AH), x119  h → V p l e s m args below meth c g 1 0 0 5 0 0 (MQ below (QCx g (QI Q)) args s 0 0 (gA g)) 119 [(0, .ref v0), (1, .int v1)] [] h) (hk : ∀ (y2 : Int32) (h : AH), k y2 h → V p l e s m args below meth c g 1 0 0 5 0 0 (MQ below (QCx g (QI Q)) args s 0 0 (gA g)) 28 [(0, .ref v0), (1, .int v1), (2, .int y2)] [] h) : ∀ (v2 : Int32) (h : AH), w_X10_fewestHands_28  x119 k v0 v1 v2 h Q → V p l e s m args below meth c g 1 0 0 5 0 0 (MQ below (QCx g (QI Q)) args s 0 0 (gA g)) 28 [(0, .ref v0), (1, .int v1), (2, .int v2)] [] h := by
  intro v2 h hw
  refine v_iload_n C dX10_fewestHands_28 2 rfl rfl ?_
  refine v_iload_n C dX10_fewestHands_29 1 rfl rfl ?_
  refine v_icmp_gt (tgt := 119) C dX10_fewestHands_30 (by decide) (fun c_30 => ?_) (fun c_30 => ?_)
  · have hw := hw.1 c_30
    refine v_sub [0, 1] rfl ?_
    exact hx119  _ hw
  · have hw := hw.2 c_30
    refine v_iload_n C dX10_fewestHands_33 2 rfl rfl ?_
    refine v_iload_n C dX10_fewestHands_34 2 rfl rfl ?_
    refine v_ineg C dX10_fewestHands_35 ?_
    refine v_iand C dX10_fewestHands_36 ?_
    refine w_bd hw (fun x1 hw => ?_)
    refine v_istore_n (ls' := [(3, .int x1), (0, .ref v0), (1, .int v1), (2, .int v2)]) C dX10_fewestHands_37 rfl (by decide) rfl ?_
    refine v_aload_n C dX10_fewestHands_38 1 rfl rfl ?_
    refine w_getN C fl_X10_30 dX10_fewestHands_39 rfl hw (fun a2 hw => ?_)
    refine v_iload_n C dX10_fewestHands_42 3 rfl rfl ?_
    refine v_aload_n C dX10_fewestHands_43 1 rfl rfl ?_
    refine w_getI C fl_X10_33 dX10_fewestHands_44 rfl hw (fun x3 hw => ?_)
    refine w_iastore C dX10_fewestHands_47 hw (fun h hw => ?_)
    refine v_iload_n C dX10_fewestHands_48 3 rfl rfl ?_
    refine v_istore (ls' := [(4, .int v2), (3, .int x1), (0, .ref v0), (1, .int v1), (2, .int v2)]) C dX10_fewestHands_49 (by decide) rfl ?_
    refine v_sub [2, 3, 4, 1, 0] rfl ?_
    refine lp_walk (P := fun (s' : Int32 × AH) => V p l e s m args below meth c g 1 0 0 5 0 0 (MQ below (QCx g (QI Q)) args s 0 0 (gA g)) 51 [(0, .ref v0), (1, .int v1), (2, .int v2), (3, .int x1), (4, .int (s'.1))] [] s'.2) (fun k2 hk2 s' hw => ?_) (v2, h) hw
    exact s_X10_fewestHands_51 C hr (fun  h hw => s_X10_fewestHands_113 C hr hx119 hk _ h hw) (fun y4 h hw => hk2 (y4, h) hw) _ _ hw
set_option maxRecDepth 100000 in
set_option maxHeartbeats 4000000 in
theorem s_X10_fewestHands {l : Launch}  {v0 : Nat} {h : AH} {Q : Int32 → AH → Prop}  (hw : w_X10_fewestHands  v0 h Q) : CT l yX10_fewestHands cX10_fewestHands 5 (some .int) 1 0 0 [.ref v0] h (QI Q) := by
  refine CT.of (by decide) ⟨rfl, trivial⟩ (Nat.le_of_ble_eq_true rfl) ?_
  intro p e s m args below meth c g C hr hin
  refine v_eq (pc' := 0) (ls' := [(0, .ref v0)]) rfl rfl rfl rfl ?_
  refine v_aload_n C dX10_fewestHands_0 0 rfl rfl ?_
  refine w_getI C fl_X10_57 dX10_fewestHands_1 rfl hw (fun x1 hw => ?_)
  refine v_iconst (v := -1) C dX10_fewestHands_4 (by decide) ?_
  refine v_icmp_eq (tgt := 10) C dX10_fewestHands_5 (by decide) (fun c_5 => ?_) (fun c_5 => ?_)
  · have hw := hw.1 c_5
    refine v_iconst (v := 1) C dX10_fewestHands_10 (by decide) ?_
    refine v_aload_n C dX10_fewestHands_11 0 rfl rfl ?_
    refine w_getI C fl_X10_33 dX10_fewestHands_12 rfl hw (fun x2 hw => ?_)
    refine v_ishl C dX10_fewestHands_15 ?_
    refine v_iconst (v := 1) C dX10_fewestHands_16 (by decide) ?_
    refine v_isub C dX10_fewestHands_17 ?_
    refine w_bd hw (fun x3 hw => ?_)
    refine v_istore_n (ls' := [(1, .int x3), (0, .ref v0)]) C dX10_fewestHands_18 rfl (by decide) rfl ?_
    refine v_aload_n C dX10_fewestHands_19 1 rfl rfl ?_
    refine w_getN C fl_X10_30 dX10_fewestHands_20 rfl hw (fun a4 hw => ?_)
    refine v_iconst (v := 0) C dX10_fewestHands_23 (by decide) ?_
    refine v_iconst (v := 0) C dX10_fewestHands_24 (by decide) ?_
    refine w_iastore C dX10_fewestHands_25 hw (fun h hw => ?_)
    refine v_iconst (v := 1) C dX10_fewestHands_26 (by decide) ?_
    refine v_istore_n (ls' := [(2, .int (1 : Int32)), (1, .int x3), (0, .ref v0)]) C dX10_fewestHands_27 rfl (by decide) rfl ?_
    refine v_sub [2, 1, 0] rfl ?_
    refine lp_walk (P := fun (s' : Int32 × AH) => V p l e s m args below meth c g 1 0 0 5 0 0 (MQ below (QCx g (QI Q)) args s 0 0 (gA g)) 28 [(0, .ref v0), (1, .int x3), (2, .int (s'.1))] [] s'.2) (fun k2 hk2 s' hw => ?_) ((1 : Int32), h) hw
    exact s_X10_fewestHands_28 C hr (fun  h hw => s_X10_fewestHands_119 C hr  _ _ h hw) (fun y2 h hw => hk2 (y2, h) hw) _ _ hw
  · have hw := hw.2 c_5
    refine v_iconst (v := 1) C dX10_fewestHands_8 (by decide) ?_
    exact (rt_MQ C _).1 _ _ _ _ _ _ hr dX10_fewestHands_9 (by decide) (by decide) ⟨_, rfl, hw⟩
-- GrassField$Ways.firstFind()I
theorem dX10_firstFind_0 : decode cX10_firstFind 0 = .ok (.aload_n 0, 1) := by decide +kernel
theorem dX10_firstFind_1 : decode cX10_firstFind 1 = .ok (.getfield 57, 3) := by decide +kernel
theorem dX10_firstFind_4 : decode cX10_firstFind 4 = .ok (.iconst (-1), 1) := by decide +kernel
theorem dX10_firstFind_5 : decode cX10_firstFind 5 = .ok (.if_icmp .ne 5, 3) := by decide +kernel
theorem dX10_firstFind_8 : decode cX10_firstFind 8 = .ok (.iconst (-1), 1) := by decide +kernel
theorem dX10_firstFind_9 : decode cX10_firstFind 9 = .ok (.ireturn, 1) := by decide +kernel
theorem dX10_firstFind_10 : decode cX10_firstFind 10 = .ok (.iconst 1, 1) := by decide +kernel
theorem dX10_firstFind_11 : decode cX10_firstFind 11 = .ok (.aload_n 0, 1) := by decide +kernel
theorem dX10_firstFind_12 : decode cX10_firstFind 12 = .ok (.getfield 33, 3) := by decide +kernel
theorem dX10_firstFind_15 : decode cX10_firstFind 15 = .ok (.ishl, 1) := by decide +kernel
theorem dX10_firstFind_16 : decode cX10_firstFind 16 = .ok (.iconst 1, 1) := by decide +kernel
theorem dX10_firstFind_17 : decode cX10_firstFind 17 = .ok (.isub, 1) := by decide +kernel
theorem dX10_firstFind_18 : decode cX10_firstFind 18 = .ok (.istore_n 1, 1) := by decide +kernel
theorem dX10_firstFind_19 : decode cX10_firstFind 19 = .ok (.aload_n 0, 1) := by decide +kernel
theorem dX10_firstFind_20 : decode cX10_firstFind 20 = .ok (.invokevirtual 50, 3) := by decide +kernel
theorem dX10_firstFind_23 : decode cX10_firstFind 23 = .ok (.iconst 0, 1) := by decide +kernel
theorem dX10_firstFind_24 : decode cX10_firstFind 24 = .ok (.istore_n 2, 1) := by decide +kernel
theorem dX10_firstFind_25 : decode cX10_firstFind 25 = .ok (.iload_n 2, 1) := by decide +kernel
theorem dX10_firstFind_26 : decode cX10_firstFind 26 = .ok (.aload_n 0, 1) := by decide +kernel
theorem dX10_firstFind_27 : decode cX10_firstFind 27 = .ok (.getfield 33, 3) := by decide +kernel
theorem dX10_firstFind_30 : decode cX10_firstFind 30 = .ok (.if_icmp .ge 31, 3) := by decide +kernel
theorem dX10_firstFind_33 : decode cX10_firstFind 33 = .ok (.aload_n 0, 1) := by decide +kernel
theorem dX10_firstFind_34 : decode cX10_firstFind 34 = .ok (.getfield 24, 3) := by decide +kernel
theorem dX10_firstFind_37 : decode cX10_firstFind 37 = .ok (.iconst 1, 1) := by decide +kernel
theorem dX10_firstFind_38 : decode cX10_firstFind 38 = .ok (.iload_n 2, 1) := by decide +kernel
theorem dX10_firstFind_39 : decode cX10_firstFind 39 = .ok (.ishl, 1) := by decide +kernel
theorem dX10_firstFind_40 : decode cX10_firstFind 40 = .ok (.bipush 8, 2) := by decide +kernel
theorem dX10_firstFind_42 : decode cX10_firstFind 42 = .ok (.imul, 1) := by decide +kernel
theorem dX10_firstFind_43 : decode cX10_firstFind 43 = .ok (.iload_n 2, 1) := by decide +kernel
theorem dX10_firstFind_44 : decode cX10_firstFind 44 = .ok (.iadd, 1) := by decide +kernel
theorem dX10_firstFind_45 : decode cX10_firstFind 45 = .ok (.aload_n 0, 1) := by decide +kernel
theorem dX10_firstFind_46 : decode cX10_firstFind 46 = .ok (.iload_n 2, 1) := by decide +kernel
theorem dX10_firstFind_47 : decode cX10_firstFind 47 = .ok (.aload_n 0, 1) := by decide +kernel
theorem dX10_firstFind_48 : decode cX10_firstFind 48 = .ok (.getfield 57, 3) := by decide +kernel
theorem dX10_firstFind_51 : decode cX10_firstFind 51 = .ok (.invokevirtual 71, 3) := by decide +kernel
theorem dX10_firstFind_54 : decode cX10_firstFind 54 = .ok (.iastore, 1) := by decide +kernel
theorem dX10_firstFind_55 : decode cX10_firstFind 55 = .ok (.iinc 2 1, 3) := by decide +kernel
theorem dX10_firstFind_58 : decode cX10_firstFind 58 = .ok (.goto (-33), 3) := by decide +kernel
theorem dX10_firstFind_61 : decode cX10_firstFind 61 = .ok (.iconst 1, 1) := by decide +kernel
theorem dX10_firstFind_62 : decode cX10_firstFind 62 = .ok (.istore_n 2, 1) := by decide +kernel
theorem dX10_firstFind_63 : decode cX10_firstFind 63 = .ok (.iload_n 2, 1) := by decide +kernel
theorem dX10_firstFind_64 : decode cX10_firstFind 64 = .ok (.iload_n 1, 1) := by decide +kernel
theorem dX10_firstFind_65 : decode cX10_firstFind 65 = .ok (.if_icmp .gt 46, 3) := by decide +kernel
theorem dX10_firstFind_68 : decode cX10_firstFind 68 = .ok (.iconst 0, 1) := by decide +kernel
theorem dX10_firstFind_69 : decode cX10_firstFind 69 = .ok (.istore_n 3, 1) := by decide +kernel
theorem dX10_firstFind_70 : decode cX10_firstFind 70 = .ok (.iload_n 3, 1) := by decide +kernel
theorem dX10_firstFind_71 : decode cX10_firstFind 71 = .ok (.aload_n 0, 1) := by decide +kernel
theorem dX10_firstFind_72 : decode cX10_firstFind 72 = .ok (.getfield 33, 3) := by decide +kernel
theorem dX10_firstFind_75 : decode cX10_firstFind 75 = .ok (.if_icmp .ge 30, 3) := by decide +kernel
theorem dX10_firstFind_78 : decode cX10_firstFind 78 = .ok (.aload_n 0, 1) := by decide +kernel
theorem dX10_firstFind_79 : decode cX10_firstFind 79 = .ok (.getfield 24, 3) := by decide +kernel
theorem dX10_firstFind_82 : decode cX10_firstFind 82 = .ok (.iload_n 2, 1) := by decide +kernel
theorem dX10_firstFind_83 : decode cX10_firstFind 83 = .ok (.bipush 8, 2) := by decide +kernel
theorem dX10_firstFind_85 : decode cX10_firstFind 85 = .ok (.imul, 1) := by decide +kernel
theorem dX10_firstFind_86 : decode cX10_firstFind 86 = .ok (.iload_n 3, 1) := by decide +kernel
theorem dX10_firstFind_87 : decode cX10_firstFind 87 = .ok (.iadd, 1) := by decide +kernel
theorem dX10_firstFind_88 : decode cX10_firstFind 88 = .ok (.iaload, 1) := by decide +kernel
theorem dX10_firstFind_89 : decode cX10_firstFind 89 = .ok (.iconst (-1), 1) := by decide +kernel
theorem dX10_firstFind_90 : decode cX10_firstFind 90 = .ok (.if_icmp .eq 9, 3) := by decide +kernel
theorem dX10_firstFind_93 : decode cX10_firstFind 93 = .ok (.aload_n 0, 1) := by decide +kernel
theorem dX10_firstFind_94 : decode cX10_firstFind 94 = .ok (.iload_n 2, 1) := by decide +kernel
theorem dX10_firstFind_95 : decode cX10_firstFind 95 = .ok (.iload_n 3, 1) := by decide +kernel
theorem dX10_firstFind_96 : decode cX10_firstFind 96 = .ok (.invokevirtual 74, 3) := by decide +kernel
theorem dX10_firstFind_99 : decode cX10_firstFind 99 = .ok (.iinc 3 1, 3) := by decide +kernel
theorem dX10_firstFind_102 : decode cX10_firstFind 102 = .ok (.goto (-32), 3) := by decide +kernel
theorem dX10_firstFind_105 : decode cX10_firstFind 105 = .ok (.iinc 2 1, 3) := by decide +kernel
theorem dX10_firstFind_108 : decode cX10_firstFind 108 = .ok (.goto (-45), 3) := by decide +kernel
theorem dX10_firstFind_111 : decode cX10_firstFind 111 = .ok (.iconst 0, 1) := by decide +kernel
theorem dX10_firstFind_112 : decode cX10_firstFind 112 = .ok (.istore_n 2, 1) := by decide +kernel
theorem dX10_firstFind_113 : decode cX10_firstFind 113 = .ok (.iload_n 2, 1) := by decide +kernel
theorem dX10_firstFind_114 : decode cX10_firstFind 114 = .ok (.aload_n 0, 1) := by decide +kernel
theorem dX10_firstFind_115 : decode cX10_firstFind 115 = .ok (.getfield 33, 3) := by decide +kernel
theorem dX10_firstFind_118 : decode cX10_firstFind 118 = .ok (.if_icmp .ge 31, 3) := by decide +kernel
theorem dX10_firstFind_121 : decode cX10_firstFind 121 = .ok (.aload_n 0, 1) := by decide +kernel
theorem dX10_firstFind_122 : decode cX10_firstFind 122 = .ok (.getfield 24, 3) := by decide +kernel
theorem dX10_firstFind_125 : decode cX10_firstFind 125 = .ok (.iload_n 1, 1) := by decide +kernel
theorem dX10_firstFind_126 : decode cX10_firstFind 126 = .ok (.bipush 8, 2) := by decide +kernel
theorem dX10_firstFind_128 : decode cX10_firstFind 128 = .ok (.imul, 1) := by decide +kernel
theorem dX10_firstFind_129 : decode cX10_firstFind 129 = .ok (.iload_n 2, 1) := by decide +kernel
theorem dX10_firstFind_130 : decode cX10_firstFind 130 = .ok (.iadd, 1) := by decide +kernel
theorem dX10_firstFind_131 : decode cX10_firstFind 131 = .ok (.iaload, 1) := by decide +kernel
theorem dX10_firstFind_132 : decode cX10_firstFind 132 = .ok (.iconst (-1), 1) := by decide +kernel
theorem dX10_firstFind_133 : decode cX10_firstFind 133 = .ok (.if_icmp .eq 10, 3) := by decide +kernel
theorem dX10_firstFind_136 : decode cX10_firstFind 136 = .ok (.aload_n 0, 1) := by decide +kernel
theorem dX10_firstFind_137 : decode cX10_firstFind 137 = .ok (.getfield 11, 3) := by decide +kernel
theorem dX10_firstFind_140 : decode cX10_firstFind 140 = .ok (.iload_n 2, 1) := by decide +kernel
theorem dX10_firstFind_141 : decode cX10_firstFind 141 = .ok (.iaload, 1) := by decide +kernel
theorem dX10_firstFind_142 : decode cX10_firstFind 142 = .ok (.ireturn, 1) := by decide +kernel
theorem dX10_firstFind_143 : decode cX10_firstFind 143 = .ok (.iinc 2 1, 3) := by decide +kernel
theorem dX10_firstFind_146 : decode cX10_firstFind 146 = .ok (.goto (-33), 3) := by decide +kernel
theorem dX10_firstFind_149 : decode cX10_firstFind 149 = .ok (.iconst (-1), 1) := by decide +kernel
theorem dX10_firstFind_150 : decode cX10_firstFind 150 = .ok (.ireturn, 1) := by decide +kernel
def w_X10_firstFind_149  (h : AH) (Q : Int32 → AH → Prop) : Prop :=
  Q (-1 : Int32) h
def w_X10_firstFind_136  (v0 : Nat) (v2 : Int32) (h : AH) (Q : Int32 → AH → Prop) : Prop :=
  fN h v0 10 1 fun a1 =>
  aI h a1 v2 fun x2 =>
  Q x2 h
def w_X10_firstFind_113  (x136 : Int32 → AH → Prop) (x149 : AH → Prop) (k : Int32 → AH → Prop) (v0 : Nat) (v1 : Int32) (v2 : Int32) (h : AH) (Q : Int32 → AH → Prop) : Prop :=
  fI h v0 10 0 fun x1 =>
  br (x1 ≤ v2) (
    x149  h) (
    fN h v0 10 5 fun a2 =>
    aI h a2 ((v1 * (8 : Int32)) + v2) fun x3 =>
    br (x3 = (-1 : Int32)) (
      k (v2 + 1) h) (
      x136 v2 h))
def w_X10_firstFind_111  (v0 : Nat) (v1 : Int32) (h : AH) (Q : Int32 → AH → Prop) : Prop :=
  lp (fun (k2 : Int32 × AH → Prop) (s2 : Int32 × AH) => w_X10_firstFind_113  (fun (y2 : Int32) h => w_X10_firstFind_136 v0 y2 h Q) (fun  h => w_X10_firstFind_149  h Q) (fun (y2 : Int32) h => k2 (y2, h)) v0 v1 s2.1 s2.2 Q) ((0 : Int32), h)
def w_X10_firstFind_105  (x111 : AH → Prop) (k : Int32 → AH → Prop) (v0 : Nat) (v1 : Int32) (v2 : Int32) (h : AH) (Q : Int32 → AH → Prop) : Prop :=
  k (v2 + 1) h
def w_X10_firstFind_99  (x105 : AH → Prop) (k : Int32 → AH → Prop) (v0 : Nat) (v1 : Int32) (v2 : Int32) (v3 : Int32) (h : AH) (Q : Int32 → AH → Prop) : Prop :=
  k (v3 + 1) h
def w_X10_firstFind_70  (x105 : AH → Prop) (k : Int32 → AH → Prop) (v0 : Nat) (v1 : Int32) (v2 : Int32) (v3 : Int32) (h : AH) (Q : Int32 → AH → Prop) : Prop :=
  fI h v0 10 0 fun x1 =>
  br (x1 ≤ v3) (
    x105  h) (
    fN h v0 10 5 fun a2 =>
    aI h a2 ((v2 * (8 : Int32)) + v3) fun x3 =>
    br (x3 = (-1 : Int32)) (
      w_X10_firstFind_99 x105 k v0 v1 v2 v3 h Q) (
      vr h v0 10 (
      w_X10_comeTo v0 v2 v3 h (fun h =>
      w_X10_firstFind_99 x105 k v0 v1 v2 v3 h Q))))
def w_X10_firstFind_63  (x111 : AH → Prop) (k : Int32 → AH → Prop) (v0 : Nat) (v1 : Int32) (v2 : Int32) (h : AH) (Q : Int32 → AH → Prop) : Prop :=
  br (v1 < v2) (
    x111  h) (
    lp (fun (k2 : Int32 × AH → Prop) (s2 : Int32 × AH) => w_X10_firstFind_70  (fun  h => w_X10_firstFind_105 x111 k v0 v1 v2 h Q) (fun (y3 : Int32) h => k2 (y3, h)) v0 v1 v2 s2.1 s2.2 Q) ((0 : Int32), h))
def w_X10_firstFind_61  (v0 : Nat) (v1 : Int32) (h : AH) (Q : Int32 → AH → Prop) : Prop :=
  lp (fun (k2 : Int32 × AH → Prop) (s2 : Int32 × AH) => w_X10_firstFind_63  (fun  h => w_X10_firstFind_111 v0 v1 h Q) (fun (y2 : Int32) h => k2 (y2, h)) v0 v1 s2.1 s2.2 Q) ((1 : Int32), h)
def w_X10_firstFind_25  (x61 : AH → Prop) (k : Int32 → AH → Prop) (v0 : Nat) (v1 : Int32) (v2 : Int32) (h : AH) (Q : Int32 → AH → Prop) : Prop :=
  fI h v0 10 0 fun x1 =>
  br (x1 ≤ v2) (
    x61  h) (
    fN h v0 10 5 fun a2 =>
    fI h v0 10 8 fun x3 =>
    vr h v0 10 (
    w_X10_inTime v0 v2 x3 h (fun x4 h =>
    tI h a2 ((((1 : Int32) <<< (v2 &&& 31)) * (8 : Int32)) + v2) x4 fun h =>
    k (v2 + 1) h)))
def w_X10_firstFind  (v0 : Nat) (h : AH) (Q : Int32 → AH → Prop) : Prop :=
  fI h v0 10 8 fun x1 =>
  br (x1 = (-1 : Int32)) (
    Q (-1 : Int32) h) (
    fI h v0 10 0 fun x2 =>
    bd (((1 : Int32) <<< (x2 &&& 31)) - (1 : Int32)) fun x3 =>
    vr h v0 10 (
    w_X10_clearBest v0 h (fun h =>
    lp (fun (k2 : Int32 × AH → Prop) (s2 : Int32 × AH) => w_X10_firstFind_25  (fun  h => w_X10_firstFind_61 v0 x3 h Q) (fun (y2 : Int32) h => k2 (y2, h)) v0 x3 s2.1 s2.2 Q) ((0 : Int32), h))))
set_option maxRecDepth 100000 in
set_option maxHeartbeats 4000000 in
theorem s_X10_firstFind_149 {p : Program} {l : Launch} {e : Env} {s : State} {m : MethodId} {args : Array Value} {below : List Frame} {meth : Method} {c : Code} {g : GG}  {Q : Int32 → AH → Prop}  (C : CXT p l s m args meth c RX10 cX10_firstFind 4 g) (hr : meth.sig.returnType = (some .int))  : ∀  (h : AH), w_X10_firstFind_149  h Q → V p l e s m args below meth c g 3 0 0 4 0 0 (MQ below (QCx g (QI Q)) args s 0 0 (gA g)) 149 [] [] h := by
  intro  h hw
  refine v_iconst (v := -1) C dX10_firstFind_149 (by decide) ?_
  exact (rt_MQ C _).1 _ _ _ _ _ _ hr dX10_firstFind_150 (by decide) (by decide) ⟨_, rfl, hw⟩
set_option maxRecDepth 100000 in
set_option maxHeartbeats 4000000 in
theorem s_X10_firstFind_136 {p : Program} {l : Launch} {e : Env} {s : State} {m : MethodId} {args : Array Value} {below : List Frame} {meth : Method} {c : Code} {g : GG}  {Q : Int32 → AH → Prop}  (C : CXT p l s m args meth c RX10 cX10_firstFind 4 g) (hr : meth.sig.returnType = (some .int))  : ∀ (v0 : Nat) (v2 : Int32) (h : AH), w_X10_firstFind_136  v0 v2 h Q → V p l e s m args below meth c g 3 0 0 4 0 0 (MQ below (QCx g (QI Q)) args s 0 0 (gA g)) 136 [(0, .ref v0), (2, .int v2)] [] h := by
  intro v0 v2 h hw
  refine v_aload_n C dX10_firstFind_136 0 rfl rfl ?_
  refine w_getN C fl_X10_11 dX10_firstFind_137 rfl hw (fun a1 hw => ?_)
  refine v_iload_n C dX10_firstFind_140 1 rfl rfl ?_
  refine w_iaload C dX10_firstFind_141 hw (fun x2 hw => ?_)
  exact (rt_MQ C _).1 _ _ _ _ _ _ hr dX10_firstFind_142 (by decide) (by decide) ⟨_, rfl, hw⟩
set_option maxRecDepth 100000 in
set_option maxHeartbeats 4000000 in
theorem s_X10_firstFind_113 {p : Program} {l : Launch} {e : Env} {s : State} {m : MethodId} {args : Array Value} {below : List Frame} {meth : Method} {c : Code} {g : GG} {v0 : Nat} {v1 : Int32} {Q : Int32 → AH → Prop} {x136 : Int32 → AH → Prop} {x149 : AH → Prop} {k : Int32 → AH → Prop} (C : CXT p l s m args meth c RX10 cX10_firstFind 4 g) (hr : meth.sig.returnType = (some .int)) (hx136 : ∀ (y2 : Int32) (h : AH), x136 y2 h → V p l e s m args below meth c g 3 0 0 4 0 0 (MQ below (QCx g (QI Q)) args s 0 0 (gA g)) 136 [(0, .ref v0), (2, .int y2)] [] h) (hx149 : ∀  (h : AH), x149  h → V p l e s m args below meth c g 3 0 0 4 0 0 (MQ below (QCx g (QI Q)) args s 0 0 (gA g)) 149 [] [] h) (hk : ∀ (y2 : Int32) (h : AH), k y2 h → V p l e s m args below meth c g 3 0 0 4 0 0 (MQ below (QCx g (QI Q)) args s 0 0 (gA g)) 113 [(0, .ref v0), (1, .int v1), (2, .int y2)] [] h) : ∀ (v2 : Int32) (h : AH), w_X10_firstFind_113  x136 x149 k v0 v1 v2 h Q → V p l e s m args below meth c g 3 0 0 4 0 0 (MQ below (QCx g (QI Q)) args s 0 0 (gA g)) 113 [(0, .ref v0), (1, .int v1), (2, .int v2)] [] h := by
  intro v2 h hw
  refine v_iload_n C dX10_firstFind_113 2 rfl rfl ?_
  refine v_aload_n C dX10_firstFind_114 0 rfl rfl ?_
  refine w_getI C fl_X10_33 dX10_firstFind_115 rfl hw (fun x1 hw => ?_)
  refine v_icmp_ge (tgt := 149) C dX10_firstFind_118 (by decide) (fun c_118 => ?_) (fun c_118 => ?_)
  · have hw := hw.1 c_118
    refine v_sub [] rfl ?_
    exact hx149  _ hw
  · have hw := hw.2 c_118
    refine v_aload_n C dX10_firstFind_121 0 rfl rfl ?_
    refine w_getN C fl_X10_24 dX10_firstFind_122 rfl hw (fun a2 hw => ?_)
    refine v_iload_n C dX10_firstFind_125 1 rfl rfl ?_
    refine v_bipush (v := 8) C dX10_firstFind_126 (by decide) ?_
    refine v_imul C dX10_firstFind_128 ?_
    refine v_iload_n C dX10_firstFind_129 2 rfl rfl ?_
    refine v_iadd C dX10_firstFind_130 ?_
    refine w_iaload C dX10_firstFind_131 hw (fun x3 hw => ?_)
    refine v_iconst (v := -1) C dX10_firstFind_132 (by decide) ?_
    refine v_icmp_eq (tgt := 143) C dX10_firstFind_133 (by decide) (fun c_133 => ?_) (fun c_133 => ?_)
    · have hw := hw.1 c_133
      refine v_iinc (v := 1) (ls' := [(2, .int (v2 + 1)), (0, .ref v0), (1, .int v1)]) C dX10_firstFind_143 2 rfl (by decide) (by decide) rfl ?_
      refine v_goto (tgt := 113) C dX10_firstFind_146 (by decide) ?_
      refine v_sub [1, 2, 0] rfl ?_
      exact hk _ _ hw
    · have hw := hw.2 c_133
      refine v_sub [0, 2] rfl ?_
      exact hx136 _ _ hw
set_option maxRecDepth 100000 in
set_option maxHeartbeats 4000000 in
theorem s_X10_firstFind_111 {p : Program} {l : Launch} {e : Env} {s : State} {m : MethodId} {args : Array Value} {below : List Frame} {meth : Method} {c : Code} {g : GG}  {Q : Int32 → AH → Prop}  (C : CXT p l s m args meth c RX10 cX10_firstFind 4 g) (hr : meth.sig.returnType = (some .int))  : ∀ (v0 : Nat) (v1 : Int32) (h : AH), w_X10_firstFind_111  v0 v1 h Q → V p l e s m args below meth c g 3 0 0 4 0 0 (MQ below (QCx g (QI Q)) args s 0 0 (gA g)) 111 [(0, .ref v0), (1, .int v1)] [] h := by
  intro v0 v1 h hw
  refine v_iconst (v := 0) C dX10_firstFind_111 (by decide) ?_
  refine v_istore_n (ls' := [(2, .int (0 : Int32)), (0, .ref v0), (1, .int v1)]) C dX10_firstFind_112 rfl (by decide) rfl ?_
  refine v_sub [1, 2, 0] rfl ?_
  refine lp_walk (P := fun (s' : Int32 × AH) => V p l e s m args below meth c g 3 0 0 4 0 0 (MQ below (QCx g (QI Q)) args s 0 0 (gA g)) 113 [(0, .ref v0), (1, .int v1), (2, .int (s'.1))] [] s'.2) (fun k2 hk2 s' hw => ?_) ((0 : Int32), h) hw
  exact s_X10_firstFind_113 C hr (fun y2 h hw => s_X10_firstFind_136 C hr  _ _ h hw) (fun  h hw => s_X10_firstFind_149 C hr   h hw) (fun y2 h hw => hk2 (y2, h) hw) _ _ hw
set_option maxRecDepth 100000 in
set_option maxHeartbeats 4000000 in
theorem s_X10_firstFind_105 {p : Program} {l : Launch} {e : Env} {s : State} {m : MethodId} {args : Array Value} {below : List Frame} {meth : Method} {c : Code} {g : GG} {v0 : Nat} {v1 : Int32} {Q : Int32 → AH → Prop} {x111 : AH → Prop} {k : Int32 → AH → Prop} (C : CXT p l s m args meth c RX10 cX10_firstFind 4 g) (hr : meth.sig.returnType = (some .int)) (hx111 : ∀  (h : AH), x111  h → V p l e s m args below meth c g 3 0 0 4 0 0 (MQ below (QCx g (QI Q)) args s 0 0 (gA g)) 111 [(0, .ref v0), (1, .int v1)] [] h) (hk : ∀ (y2 : Int32) (h : AH), k y2 h → V p l e s m args below meth c g 3 0 0 4 0 0 (MQ below (QCx g (QI Q)) args s 0 0 (gA g)) 63 [(0, .ref v0), (1, .int v1), (2, .int y2)] [] h) : ∀ (v2 : Int32) (h : AH), w_X10_firstFind_105  x111 k v0 v1 v2 h Q → V p l e s m args below meth c g 3 0 0 4 0 0 (MQ below (QCx g (QI Q)) args s 0 0 (gA g)) 105 [(0, .ref v0), (1, .int v1), (2, .int v2)] [] h := by
  intro v2 h hw
  refine v_iinc (v := 1) (ls' := [(2, .int (v2 + 1)), (0, .ref v0), (1, .int v1)]) C dX10_firstFind_105 2 rfl (by decide) (by decide) rfl ?_
  refine v_goto (tgt := 63) C dX10_firstFind_108 (by decide) ?_
  refine v_sub [1, 2, 0] rfl ?_
  exact hk _ _ hw
set_option maxRecDepth 100000 in
set_option maxHeartbeats 4000000 in
theorem s_X10_firstFind_99 {p : Program} {l : Launch} {e : Env} {s : State} {m : MethodId} {args : Array Value} {below : List Frame} {meth : Method} {c : Code} {g : GG} {v0 : Nat} {v1 : Int32} {v2 : Int32} {Q : Int32 → AH → Prop} {x105 : AH → Prop} {k : Int32 → AH → Prop} (C : CXT p l s m args meth c RX10 cX10_firstFind 4 g) (hr : meth.sig.returnType = (some .int)) (hx105 : ∀  (h : AH), x105  h → V p l e s m args below meth c g 3 0 0 4 0 0 (MQ below (QCx g (QI Q)) args s 0 0 (gA g)) 105 [(0, .ref v0), (1, .int v1), (2, .int v2)] [] h) (hk : ∀ (y3 : Int32) (h : AH), k y3 h → V p l e s m args below meth c g 3 0 0 4 0 0 (MQ below (QCx g (QI Q)) args s 0 0 (gA g)) 70 [(0, .ref v0), (1, .int v1), (2, .int v2), (3, .int y3)] [] h) : ∀ (v3 : Int32) (h : AH), w_X10_firstFind_99  x105 k v0 v1 v2 v3 h Q → V p l e s m args below meth c g 3 0 0 4 0 0 (MQ below (QCx g (QI Q)) args s 0 0 (gA g)) 99 [(0, .ref v0), (1, .int v1), (2, .int v2), (3, .int v3)] [] h := by
  intro v3 h hw
  refine v_iinc (v := 1) (ls' := [(3, .int (v3 + 1)), (0, .ref v0), (1, .int v1), (2, .int v2)]) C dX10_firstFind_99 3 rfl (by decide) (by decide) rfl ?_
  refine v_goto (tgt := 70) C dX10_firstFind_102 (by decide) ?_
  refine v_sub [1, 2, 3, 0] rfl ?_
  exact hk _ _ hw
set_option maxRecDepth 100000 in
set_option maxHeartbeats 4000000 in
theorem s_X10_firstFind_70 {p : Program} {l : Launch} {e : Env} {s : State} {m : MethodId} {args : Array Value} {below : List Frame} {meth : Method} {c : Code} {g : GG} {v0 : Nat} {v1 : Int32} {v2 : Int32} {Q : Int32 → AH → Prop} {x105 : AH → Prop} {k : Int32 → AH → Prop} (C : CXT p l s m args meth c RX10 cX10_firstFind 4 g) (hr : meth.sig.returnType = (some .int)) (hx105 : ∀  (h : AH), x105  h → V p l e s m args below meth c g 3 0 0 4 0 0 (MQ below (QCx g (QI Q)) args s 0 0 (gA g)) 105 [(0, .ref v0), (1, .int v1), (2, .int v2)] [] h) (hk : ∀ (y3 : Int32) (h : AH), k y3 h → V p l e s m args below meth c g 3 0 0 4 0 0 (MQ below (QCx g (QI Q)) args s 0 0 (gA g)) 70 [(0, .ref v0), (1, .int v1), (2, .int v2), (3, .int y3)] [] h) : ∀ (v3 : Int32) (h : AH), w_X10_firstFind_70  x105 k v0 v1 v2 v3 h Q → V p l e s m args below meth c g 3 0 0 4 0 0 (MQ below (QCx g (QI Q)) args s 0 0 (gA g)) 70 [(0, .ref v0), (1, .int v1), (2, .int v2), (3, .int v3)] [] h := by
  intro v3 h hw
  refine v_iload_n C dX10_firstFind_70 3 rfl rfl ?_
  refine v_aload_n C dX10_firstFind_71 0 rfl rfl ?_
  refine w_getI C fl_X10_33 dX10_firstFind_72 rfl hw (fun x1 hw => ?_)
  refine v_icmp_ge (tgt := 105) C dX10_firstFind_75 (by decide) (fun c_75 => ?_) (fun c_75 => ?_)
  · have hw := hw.1 c_75
    refine v_sub [0, 1, 2] rfl ?_
    exact hx105  _ hw
  · have hw := hw.2 c_75
    refine v_aload_n C dX10_firstFind_78 0 rfl rfl ?_
    refine w_getN C fl_X10_24 dX10_firstFind_79 rfl hw (fun a2 hw => ?_)
    refine v_iload_n C dX10_firstFind_82 2 rfl rfl ?_
    refine v_bipush (v := 8) C dX10_firstFind_83 (by decide) ?_
    refine v_imul C dX10_firstFind_85 ?_
    refine v_iload_n C dX10_firstFind_86 3 rfl rfl ?_
    refine v_iadd C dX10_firstFind_87 ?_
    refine w_iaload C dX10_firstFind_88 hw (fun x3 hw => ?_)
    refine v_iconst (v := -1) C dX10_firstFind_89 (by decide) ?_
    refine v_icmp_eq (tgt := 99) C dX10_firstFind_90 (by decide) (fun c_90 => ?_) (fun c_90 => ?_)
    · have hw := hw.1 c_90
      exact s_X10_firstFind_99 C hr hx105 hk _ _ hw
    · have hw := hw.2 c_90
      refine v_aload_n C dX10_firstFind_93 0 rfl rfl ?_
      refine v_iload_n C dX10_firstFind_94 2 rfl rfl ?_
      refine v_iload_n C dX10_firstFind_95 3 rfl rfl ?_
      refine w_callVv (st := []) C cl_X10_74 im_X10_comeTo se_X10_comeTo rfl hw.1 (s_X10_comeTo hw.2) rfl dX10_firstFind_96 rfl (by decide) (by decide) (by decide) (by decide) (by decide) (fun h hw => ?_)
      exact s_X10_firstFind_99 C hr hx105 hk _ _ hw
set_option maxRecDepth 100000 in
set_option maxHeartbeats 4000000 in
theorem s_X10_firstFind_63 {p : Program} {l : Launch} {e : Env} {s : State} {m : MethodId} {args : Array Value} {below : List Frame} {meth : Method} {c : Code} {g : GG} {v0 : Nat} {v1 : Int32} {Q : Int32 → AH → Prop} {x111 : AH → Prop} {k : Int32 → AH → Prop} (C : CXT p l s m args meth c RX10 cX10_firstFind 4 g) (hr : meth.sig.returnType = (some .int)) (hx111 : ∀  (h : AH), x111  h → V p l e s m args below meth c g 3 0 0 4 0 0 (MQ below (QCx g (QI Q)) args s 0 0 (gA g)) 111 [(0, .ref v0), (1, .int v1)] [] h) (hk : ∀ (y2 : Int32) (h : AH), k y2 h → V p l e s m args below meth c g 3 0 0 4 0 0 (MQ below (QCx g (QI Q)) args s 0 0 (gA g)) 63 [(0, .ref v0), (1, .int v1), (2, .int y2)] [] h) : ∀ (v2 : Int32) (h : AH), w_X10_firstFind_63  x111 k v0 v1 v2 h Q → V p l e s m args below meth c g 3 0 0 4 0 0 (MQ below (QCx g (QI Q)) args s 0 0 (gA g)) 63 [(0, .ref v0), (1, .int v1), (2, .int v2)] [] h := by
  intro v2 h hw
  refine v_iload_n C dX10_firstFind_63 2 rfl rfl ?_
  refine v_iload_n C dX10_firstFind_64 1 rfl rfl ?_
  refine v_icmp_gt (tgt := 111) C dX10_firstFind_65 (by decide) (fun c_65 => ?_) (fun c_65 => ?_)
  · have hw := hw.1 c_65
    refine v_sub [0, 1] rfl ?_
    exact hx111  _ hw
  · have hw := hw.2 c_65
    refine v_iconst (v := 0) C dX10_firstFind_68 (by decide) ?_
    refine v_istore_n (ls' := [(3, .int (0 : Int32)), (0, .ref v0), (1, .int v1), (2, .int v2)]) C dX10_firstFind_69 rfl (by decide) rfl ?_
    refine v_sub [1, 2, 3, 0] rfl ?_
    refine lp_walk (P := fun (s' : Int32 × AH) => V p l e s m args below meth c g 3 0 0 4 0 0 (MQ below (QCx g (QI Q)) args s 0 0 (gA g)) 70 [(0, .ref v0), (1, .int v1), (2, .int v2), (3, .int (s'.1))] [] s'.2) (fun k2 hk2 s' hw => ?_) ((0 : Int32), h) hw
    exact s_X10_firstFind_70 C hr (fun  h hw => s_X10_firstFind_105 C hr hx111 hk _ h hw) (fun y3 h hw => hk2 (y3, h) hw) _ _ hw
set_option maxRecDepth 100000 in
set_option maxHeartbeats 4000000 in
theorem s_X10_firstFind_61 {p : Program} {l : Launch} {e : Env} {s : State} {m : MethodId} {args : Array Value} {below : List Frame} {meth : Method} {c : Code} {g : GG}  {Q : Int32 → AH → Prop}  (C : CXT p l s m args meth c RX10 cX10_firstFind 4 g) (hr : meth.sig.returnType = (some .int))  : ∀ (v0 : Nat) (v1 : Int32) (h : AH), w_X10_firstFind_61  v0 v1 h Q → V p l e s m args below meth c g 3 0 0 4 0 0 (MQ below (QCx g (QI Q)) args s 0 0 (gA g)) 61 [(0, .ref v0), (1, .int v1)] [] h := by
  intro v0 v1 h hw
  refine v_iconst (v := 1) C dX10_firstFind_61 (by decide) ?_
  refine v_istore_n (ls' := [(2, .int (1 : Int32)), (0, .ref v0), (1, .int v1)]) C dX10_firstFind_62 rfl (by decide) rfl ?_
  refine v_sub [1, 2, 0] rfl ?_
  refine lp_walk (P := fun (s' : Int32 × AH) => V p l e s m args below meth c g 3 0 0 4 0 0 (MQ below (QCx g (QI Q)) args s 0 0 (gA g)) 63 [(0, .ref v0), (1, .int v1), (2, .int (s'.1))] [] s'.2) (fun k2 hk2 s' hw => ?_) ((1 : Int32), h) hw
  exact s_X10_firstFind_63 C hr (fun  h hw => s_X10_firstFind_111 C hr  _ _ h hw) (fun y2 h hw => hk2 (y2, h) hw) _ _ hw
set_option maxRecDepth 100000 in
set_option maxHeartbeats 4000000 in
theorem s_X10_firstFind_25 {p : Program} {l : Launch} {e : Env} {s : State} {m : MethodId} {args : Array Value} {below : List Frame} {meth : Method} {c : Code} {g : GG} {v0 : Nat} {v1 : Int32} {Q : Int32 → AH → Prop} {x61 : AH → Prop} {k : Int32 → AH → Prop} (C : CXT p l s m args meth c RX10 cX10_firstFind 4 g) (hr : meth.sig.returnType = (some .int)) (hx61 : ∀  (h : AH), x61  h → V p l e s m args below meth c g 3 0 0 4 0 0 (MQ below (QCx g (QI Q)) args s 0 0 (gA g)) 61 [(0, .ref v0), (1, .int v1)] [] h) (hk : ∀ (y2 : Int32) (h : AH), k y2 h → V p l e s m args below meth c g 3 0 0 4 0 0 (MQ below (QCx g (QI Q)) args s 0 0 (gA g)) 25 [(0, .ref v0), (1, .int v1), (2, .int y2)] [] h) : ∀ (v2 : Int32) (h : AH), w_X10_firstFind_25  x61 k v0 v1 v2 h Q → V p l e s m args below meth c g 3 0 0 4 0 0 (MQ below (QCx g (QI Q)) args s 0 0 (gA g)) 25 [(0, .ref v0), (1, .int v1), (2, .int v2)] [] h := by
  intro v2 h hw
  refine v_iload_n C dX10_firstFind_25 2 rfl rfl ?_
  refine v_aload_n C dX10_firstFind_26 0 rfl rfl ?_
  refine w_getI C fl_X10_33 dX10_firstFind_27 rfl hw (fun x1 hw => ?_)
  refine v_icmp_ge (tgt := 61) C dX10_firstFind_30 (by decide) (fun c_30 => ?_) (fun c_30 => ?_)
  · have hw := hw.1 c_30
    refine v_sub [0, 1] rfl ?_
    exact hx61  _ hw
  · have hw := hw.2 c_30
    refine v_aload_n C dX10_firstFind_33 0 rfl rfl ?_
    refine w_getN C fl_X10_24 dX10_firstFind_34 rfl hw (fun a2 hw => ?_)
    refine v_iconst (v := 1) C dX10_firstFind_37 (by decide) ?_
    refine v_iload_n C dX10_firstFind_38 2 rfl rfl ?_
    refine v_ishl C dX10_firstFind_39 ?_
    refine v_bipush (v := 8) C dX10_firstFind_40 (by decide) ?_
    refine v_imul C dX10_firstFind_42 ?_
    refine v_iload_n C dX10_firstFind_43 2 rfl rfl ?_
    refine v_iadd C dX10_firstFind_44 ?_
    refine v_aload_n C dX10_firstFind_45 0 rfl rfl ?_
    refine v_iload_n C dX10_firstFind_46 2 rfl rfl ?_
    refine v_aload_n C dX10_firstFind_47 0 rfl rfl ?_
    refine w_getI C fl_X10_57 dX10_firstFind_48 rfl hw (fun x3 hw => ?_)
    refine w_callVi (st := [.int ((((1 : Int32) <<< (v2 &&& 31)) * (8 : Int32)) + v2), .ref a2]) C cl_X10_71 im_X10_inTime se_X10_inTime rfl hw.1 (s_X10_inTime hw.2) rfl dX10_firstFind_51 rfl (Nat.le_of_ble_eq_true rfl) (by decide) (by decide) (by decide) (by decide) (fun x4 h hw => ?_)
    refine w_iastore C dX10_firstFind_54 hw (fun h hw => ?_)
    refine v_iinc (v := 1) (ls' := [(2, .int (v2 + 1)), (0, .ref v0), (1, .int v1)]) C dX10_firstFind_55 2 rfl (by decide) (by decide) rfl ?_
    refine v_goto (tgt := 25) C dX10_firstFind_58 (by decide) ?_
    refine v_sub [1, 2, 0] rfl ?_
    exact hk _ _ hw
set_option maxRecDepth 100000 in
set_option maxHeartbeats 4000000 in
theorem s_X10_firstFind {l : Launch}  {v0 : Nat} {h : AH} {Q : Int32 → AH → Prop}  (hw : w_X10_firstFind  v0 h Q) : CT l yX10_firstFind cX10_firstFind 4 (some .int) 3 0 0 [.ref v0] h (QI Q) := by
  refine CT.of (by decide) ⟨rfl, trivial⟩ (Nat.le_of_ble_eq_true rfl) ?_
  intro p e s m args below meth c g C hr hin
  refine v_eq (pc' := 0) (ls' := [(0, .ref v0)]) rfl rfl rfl rfl ?_
  refine v_aload_n C dX10_firstFind_0 0 rfl rfl ?_
  refine w_getI C fl_X10_57 dX10_firstFind_1 rfl hw (fun x1 hw => ?_)
  refine v_iconst (v := -1) C dX10_firstFind_4 (by decide) ?_
  refine v_icmp_ne (tgt := 10) C dX10_firstFind_5 (by decide) (fun c_5 => ?_) (fun c_5 => ?_)
  · have hw := hw.2 c_5
    refine v_iconst (v := 1) C dX10_firstFind_10 (by decide) ?_
    refine v_aload_n C dX10_firstFind_11 0 rfl rfl ?_
    refine w_getI C fl_X10_33 dX10_firstFind_12 rfl hw (fun x2 hw => ?_)
    refine v_ishl C dX10_firstFind_15 ?_
    refine v_iconst (v := 1) C dX10_firstFind_16 (by decide) ?_
    refine v_isub C dX10_firstFind_17 ?_
    refine w_bd hw (fun x3 hw => ?_)
    refine v_istore_n (ls' := [(1, .int x3), (0, .ref v0)]) C dX10_firstFind_18 rfl (by decide) rfl ?_
    refine v_aload_n C dX10_firstFind_19 1 rfl rfl ?_
    refine w_callVv (st := []) C cl_X10_50 im_X10_clearBest se_X10_clearBest rfl hw.1 (s_X10_clearBest hw.2) rfl dX10_firstFind_20 rfl (by decide) (by decide) (by decide) (by decide) (by decide) (fun h hw => ?_)
    refine v_iconst (v := 0) C dX10_firstFind_23 (by decide) ?_
    refine v_istore_n (ls' := [(2, .int (0 : Int32)), (1, .int x3), (0, .ref v0)]) C dX10_firstFind_24 rfl (by decide) rfl ?_
    refine v_sub [2, 1, 0] rfl ?_
    refine lp_walk (P := fun (s' : Int32 × AH) => V p l e s m args below meth c g 3 0 0 4 0 0 (MQ below (QCx g (QI Q)) args s 0 0 (gA g)) 25 [(0, .ref v0), (1, .int x3), (2, .int (s'.1))] [] s'.2) (fun k2 hk2 s' hw => ?_) ((0 : Int32), h) hw
    exact s_X10_firstFind_25 C hr (fun  h hw => s_X10_firstFind_61 C hr  _ _ h hw) (fun y2 h hw => hk2 (y2, h) hw) _ _ hw
  · have hw := hw.1 c_5
    refine v_iconst (v := -1) C dX10_firstFind_8 (by decide) ?_
    exact (rt_MQ C _).1 _ _ _ _ _ _ hr dX10_firstFind_9 (by decide) (by decide) ⟨_, rfl, hw⟩
-- GrassField$Ways.sooner(II)I
theorem dX10_sooner_0 : decode cX10_sooner 0 = .ok (.iload_n 0, 1) := by decide +kernel
theorem dX10_sooner_1 : decode cX10_sooner 1 = .ok (.iconst (-1), 1) := by decide +kernel
theorem dX10_sooner_2 : decode cX10_sooner 2 = .ok (.if_icmp .eq 8, 3) := by decide +kernel
theorem dX10_sooner_5 : decode cX10_sooner 5 = .ok (.iload_n 1, 1) := by decide +kernel
theorem dX10_sooner_6 : decode cX10_sooner 6 = .ok (.iconst (-1), 1) := by decide +kernel
theorem dX10_sooner_7 : decode cX10_sooner 7 = .ok (.if_icmp .ne 9, 3) := by decide +kernel
theorem dX10_sooner_10 : decode cX10_sooner 10 = .ok (.iload_n 0, 1) := by decide +kernel
theorem dX10_sooner_11 : decode cX10_sooner 11 = .ok (.iload_n 1, 1) := by decide +kernel
theorem dX10_sooner_12 : decode cX10_sooner 12 = .ok (.invokestatic 63, 3) := by decide +kernel
theorem dX10_sooner_15 : decode cX10_sooner 15 = .ok (.ireturn, 1) := by decide +kernel
theorem dX10_sooner_16 : decode cX10_sooner 16 = .ok (.iload_n 0, 1) := by decide +kernel
theorem dX10_sooner_17 : decode cX10_sooner 17 = .ok (.iload_n 1, 1) := by decide +kernel
theorem dX10_sooner_18 : decode cX10_sooner 18 = .ok (.invokestatic 68, 3) := by decide +kernel
theorem dX10_sooner_21 : decode cX10_sooner 21 = .ok (.ireturn, 1) := by decide +kernel
def w_X10_sooner_10  (v0 : Int32) (v1 : Int32) (h : AH) (Q : Int32 → AH → Prop) : Prop :=
  Q (jmax v0 v1) h
def w_X10_sooner  (v0 : Int32) (v1 : Int32) (h : AH) (Q : Int32 → AH → Prop) : Prop :=
  br (v0 = (-1 : Int32)) (
    w_X10_sooner_10 v0 v1 h Q) (
    br (v1 = (-1 : Int32)) (
      w_X10_sooner_10 v0 v1 h Q) (
      Q (jmin v0 v1) h))
set_option maxRecDepth 100000 in
set_option maxHeartbeats 4000000 in
theorem s_X10_sooner_10 {p : Program} {l : Launch} {e : Env} {s : State} {m : MethodId} {args : Array Value} {below : List Frame} {meth : Method} {c : Code} {g : GG}  {Q : Int32 → AH → Prop}  (C : CXT p l s m args meth c RX10 cX10_sooner 2 g) (hr : meth.sig.returnType = (some .int))  : ∀ (v0 : Int32) (v1 : Int32) (h : AH), w_X10_sooner_10  v0 v1 h Q → V p l e s m args below meth c g 1 0 0 2 0 0 (MQ below (QCx g (QI Q)) args s 0 0 (gA g)) 10 [(0, .int v0), (1, .int v1)] [] h := by
  intro v0 v1 h hw
  refine v_iload_n C dX10_sooner_10 0 rfl rfl ?_
  refine v_iload_n C dX10_sooner_11 1 rfl rfl ?_
  refine v_max C ml_X10_63 ms_max mi_math mc_max dX10_sooner_12 (by decide) (by decide) (by decide) (by decide) ?_
  exact (rt_MQ C _).1 _ _ _ _ _ _ hr dX10_sooner_15 (by decide) (by decide) ⟨_, rfl, hw⟩
set_option maxRecDepth 100000 in
set_option maxHeartbeats 4000000 in
theorem s_X10_sooner {l : Launch}  {v0 : Int32} {v1 : Int32} {h : AH} {Q : Int32 → AH → Prop}  (hw : w_X10_sooner  v0 v1 h Q) : CT l yX10_sooner cX10_sooner 2 (some .int) 1 0 0 [.int v0, .int v1] h (QI Q) := by
  refine CT.of (by decide) ⟨rfl, ⟨rfl, trivial⟩⟩ (Nat.le_of_ble_eq_true rfl) ?_
  intro p e s m args below meth c g C hr hin
  refine v_eq (pc' := 0) (ls' := [(0, .int v0), (1, .int v1)]) rfl rfl rfl rfl ?_
  refine v_iload_n C dX10_sooner_0 0 rfl rfl ?_
  refine v_iconst (v := -1) C dX10_sooner_1 (by decide) ?_
  refine v_icmp_eq (tgt := 10) C dX10_sooner_2 (by decide) (fun c_2 => ?_) (fun c_2 => ?_)
  · have hw := hw.1 c_2
    exact s_X10_sooner_10 C hr  _ _ _ hw
  · have hw := hw.2 c_2
    refine v_iload_n C dX10_sooner_5 1 rfl rfl ?_
    refine v_iconst (v := -1) C dX10_sooner_6 (by decide) ?_
    refine v_icmp_ne (tgt := 16) C dX10_sooner_7 (by decide) (fun c_7 => ?_) (fun c_7 => ?_)
    · have hw := hw.2 c_7
      refine v_iload_n C dX10_sooner_16 0 rfl rfl ?_
      refine v_iload_n C dX10_sooner_17 1 rfl rfl ?_
      refine v_min C ml_X10_68 ms_min mi_math mc_min dX10_sooner_18 (by decide) (by decide) (by decide) (by decide) ?_
      exact (rt_MQ C _).1 _ _ _ _ _ _ hr dX10_sooner_21 (by decide) (by decide) ⟨_, rfl, hw⟩
    · have hw := hw.1 c_7
      exact s_X10_sooner_10 C hr  _ _ _ hw
-- GrassField$Ways.goFrom(II)V
theorem dX10_goFrom_0 : decode cX10_goFrom 0 = .ok (.aload_n 0, 1) := by decide +kernel
theorem dX10_goFrom_1 : decode cX10_goFrom 1 = .ok (.getfield 24, 3) := by decide +kernel
theorem dX10_goFrom_4 : decode cX10_goFrom 4 = .ok (.iload_n 1, 1) := by decide +kernel
theorem dX10_goFrom_5 : decode cX10_goFrom 5 = .ok (.bipush 8, 2) := by decide +kernel
theorem dX10_goFrom_7 : decode cX10_goFrom 7 = .ok (.imul, 1) := by decide +kernel
theorem dX10_goFrom_8 : decode cX10_goFrom 8 = .ok (.iload_n 2, 1) := by decide +kernel
theorem dX10_goFrom_9 : decode cX10_goFrom 9 = .ok (.iadd, 1) := by decide +kernel
theorem dX10_goFrom_10 : decode cX10_goFrom 10 = .ok (.iaload, 1) := by decide +kernel
theorem dX10_goFrom_11 : decode cX10_goFrom 11 = .ok (.istore_n 3, 1) := by decide +kernel
theorem dX10_goFrom_12 : decode cX10_goFrom 12 = .ok (.iconst 0, 1) := by decide +kernel
theorem dX10_goFrom_13 : decode cX10_goFrom 13 = .ok (.istore 4, 2) := by decide +kernel
theorem dX10_goFrom_15 : decode cX10_goFrom 15 = .ok (.iload 4, 2) := by decide +kernel
theorem dX10_goFrom_17 : decode cX10_goFrom 17 = .ok (.aload_n 0, 1) := by decide +kernel
theorem dX10_goFrom_18 : decode cX10_goFrom 18 = .ok (.getfield 33, 3) := by decide +kernel
theorem dX10_goFrom_21 : decode cX10_goFrom 21 = .ok (.if_icmp .ge 89, 3) := by decide +kernel
theorem dX10_goFrom_24 : decode cX10_goFrom 24 = .ok (.aload_n 0, 1) := by decide +kernel
theorem dX10_goFrom_25 : decode cX10_goFrom 25 = .ok (.getfield 15, 3) := by decide +kernel
theorem dX10_goFrom_28 : decode cX10_goFrom 28 = .ok (.iload 4, 2) := by decide +kernel
theorem dX10_goFrom_30 : decode cX10_goFrom 30 = .ok (.iaload, 1) := by decide +kernel
theorem dX10_goFrom_31 : decode cX10_goFrom 31 = .ok (.iload_n 3, 1) := by decide +kernel
theorem dX10_goFrom_32 : decode cX10_goFrom 32 = .ok (.aload_n 0, 1) := by decide +kernel
theorem dX10_goFrom_33 : decode cX10_goFrom 33 = .ok (.getfield 21, 3) := by decide +kernel
theorem dX10_goFrom_36 : decode cX10_goFrom 36 = .ok (.iload_n 2, 1) := by decide +kernel
theorem dX10_goFrom_37 : decode cX10_goFrom 37 = .ok (.bipush 8, 2) := by decide +kernel
theorem dX10_goFrom_39 : decode cX10_goFrom 39 = .ok (.imul, 1) := by decide +kernel
theorem dX10_goFrom_40 : decode cX10_goFrom 40 = .ok (.iload 4, 2) := by decide +kernel
theorem dX10_goFrom_42 : decode cX10_goFrom 42 = .ok (.iadd, 1) := by decide +kernel
theorem dX10_goFrom_43 : decode cX10_goFrom 43 = .ok (.iaload, 1) := by decide +kernel
theorem dX10_goFrom_44 : decode cX10_goFrom 44 = .ok (.iadd, 1) := by decide +kernel
theorem dX10_goFrom_45 : decode cX10_goFrom 45 = .ok (.invokestatic 63, 3) := by decide +kernel
theorem dX10_goFrom_48 : decode cX10_goFrom 48 = .ok (.istore 5, 2) := by decide +kernel
theorem dX10_goFrom_50 : decode cX10_goFrom 50 = .ok (.iload_n 1, 1) := by decide +kernel
theorem dX10_goFrom_51 : decode cX10_goFrom 51 = .ok (.iload 4, 2) := by decide +kernel
theorem dX10_goFrom_53 : decode cX10_goFrom 53 = .ok (.ishr, 1) := by decide +kernel
theorem dX10_goFrom_54 : decode cX10_goFrom 54 = .ok (.iconst 1, 1) := by decide +kernel
theorem dX10_goFrom_55 : decode cX10_goFrom 55 = .ok (.iand, 1) := by decide +kernel
theorem dX10_goFrom_56 : decode cX10_goFrom 56 = .ok (.ifCond .ne 48, 3) := by decide +kernel
theorem dX10_goFrom_59 : decode cX10_goFrom 59 = .ok (.iload 5, 2) := by decide +kernel
theorem dX10_goFrom_61 : decode cX10_goFrom 61 = .ok (.aload_n 0, 1) := by decide +kernel
theorem dX10_goFrom_62 : decode cX10_goFrom 62 = .ok (.getfield 18, 3) := by decide +kernel
theorem dX10_goFrom_65 : decode cX10_goFrom 65 = .ok (.iload 4, 2) := by decide +kernel
theorem dX10_goFrom_67 : decode cX10_goFrom 67 = .ok (.iaload, 1) := by decide +kernel
theorem dX10_goFrom_68 : decode cX10_goFrom 68 = .ok (.if_icmp .gt 36, 3) := by decide +kernel
theorem dX10_goFrom_71 : decode cX10_goFrom 71 = .ok (.iload_n 1, 1) := by decide +kernel
theorem dX10_goFrom_72 : decode cX10_goFrom 72 = .ok (.iconst 1, 1) := by decide +kernel
theorem dX10_goFrom_73 : decode cX10_goFrom 73 = .ok (.iload 4, 2) := by decide +kernel
theorem dX10_goFrom_75 : decode cX10_goFrom 75 = .ok (.ishl, 1) := by decide +kernel
theorem dX10_goFrom_76 : decode cX10_goFrom 76 = .ok (.ior, 1) := by decide +kernel
theorem dX10_goFrom_77 : decode cX10_goFrom 77 = .ok (.bipush 8, 2) := by decide +kernel
theorem dX10_goFrom_79 : decode cX10_goFrom 79 = .ok (.imul, 1) := by decide +kernel
theorem dX10_goFrom_80 : decode cX10_goFrom 80 = .ok (.iload 4, 2) := by decide +kernel
theorem dX10_goFrom_82 : decode cX10_goFrom 82 = .ok (.iadd, 1) := by decide +kernel
theorem dX10_goFrom_83 : decode cX10_goFrom 83 = .ok (.istore 6, 2) := by decide +kernel
theorem dX10_goFrom_85 : decode cX10_goFrom 85 = .ok (.aload_n 0, 1) := by decide +kernel
theorem dX10_goFrom_86 : decode cX10_goFrom 86 = .ok (.getfield 24, 3) := by decide +kernel
theorem dX10_goFrom_89 : decode cX10_goFrom 89 = .ok (.iload 6, 2) := by decide +kernel
theorem dX10_goFrom_91 : decode cX10_goFrom 91 = .ok (.aload_n 0, 1) := by decide +kernel
theorem dX10_goFrom_92 : decode cX10_goFrom 92 = .ok (.getfield 24, 3) := by decide +kernel
theorem dX10_goFrom_95 : decode cX10_goFrom 95 = .ok (.iload 6, 2) := by decide +kernel
theorem dX10_goFrom_97 : decode cX10_goFrom 97 = .ok (.iaload, 1) := by decide +kernel
theorem dX10_goFrom_98 : decode cX10_goFrom 98 = .ok (.iload 5, 2) := by decide +kernel
theorem dX10_goFrom_100 : decode cX10_goFrom 100 = .ok (.invokestatic 60, 3) := by decide +kernel
theorem dX10_goFrom_103 : decode cX10_goFrom 103 = .ok (.iastore, 1) := by decide +kernel
theorem dX10_goFrom_104 : decode cX10_goFrom 104 = .ok (.iinc 4 1, 3) := by decide +kernel
theorem dX10_goFrom_107 : decode cX10_goFrom 107 = .ok (.goto (-92), 3) := by decide +kernel
theorem dX10_goFrom_110 : decode cX10_goFrom 110 = .ok (.return_, 1) := by decide +kernel
def w_X10_goFrom_110  (h : AH) (Q : AH → Prop) : Prop :=
  Q h
def w_X10_goFrom_104  (x110 : AH → Prop) (k : Int32 → AH → Prop) (v0 : Nat) (v1 : Int32) (v2 : Int32) (v3 : Int32) (v4 : Int32) (h : AH) (Q : AH → Prop) : Prop :=
  k (v4 + 1) h
def w_X10_goFrom_15  (x110 : AH → Prop) (k : Int32 → AH → Prop) (v0 : Nat) (v1 : Int32) (v2 : Int32) (v3 : Int32) (v4 : Int32) (h : AH) (Q : AH → Prop) : Prop :=
  fI h v0 10 0 fun x1 =>
  br (x1 ≤ v4) (
    x110  h) (
    fN h v0 10 2 fun a2 =>
    aI h a2 v4 fun x3 =>
    fN h v0 10 4 fun a4 =>
    aI h a4 ((v2 * (8 : Int32)) + v4) fun x5 =>
    bd (jmax x3 (v3 + x5)) fun x6 =>
    br (((v1 >>> (v4 &&& 31)) &&& (1 : Int32)) = 0) (
      fN h v0 10 3 fun a7 =>
      aI h a7 v4 fun x8 =>
      br (x8 < x6) (
        w_X10_goFrom_104 x110 k v0 v1 v2 v3 v4 h Q) (
        bd (((v1 ||| ((1 : Int32) <<< (v4 &&& 31))) * (8 : Int32)) + v4) fun x9 =>
        fN h v0 10 5 fun a10 =>
        fN h v0 10 5 fun a11 =>
        aI h a11 x9 fun x12 =>
        w_X10_sooner x12 x6 h (fun x13 h =>
        tI h a10 x9 x13 fun h =>
        w_X10_goFrom_104 x110 k v0 v1 v2 v3 v4 h Q))) (
      w_X10_goFrom_104 x110 k v0 v1 v2 v3 v4 h Q))
def w_X10_goFrom  (v0 : Nat) (v1 : Int32) (v2 : Int32) (h : AH) (Q : AH → Prop) : Prop :=
  fN h v0 10 5 fun a1 =>
  aI h a1 ((v1 * (8 : Int32)) + v2) fun x2 =>
  lp (fun (k2 : Int32 × AH → Prop) (s2 : Int32 × AH) => w_X10_goFrom_15  (fun  h => w_X10_goFrom_110  h Q) (fun (y4 : Int32) h => k2 (y4, h)) v0 v1 v2 x2 s2.1 s2.2 Q) ((0 : Int32), h)
set_option maxRecDepth 100000 in
set_option maxHeartbeats 4000000 in
theorem s_X10_goFrom_110 {p : Program} {l : Launch} {e : Env} {s : State} {m : MethodId} {args : Array Value} {below : List Frame} {meth : Method} {c : Code} {g : GG}  {Q : AH → Prop}  (C : CXT p l s m args meth c RX10 cX10_goFrom 7 g) (hr : meth.sig.returnType = none)  : ∀  (h : AH), w_X10_goFrom_110  h Q → V p l e s m args below meth c g 2 0 0 7 0 0 (MQ below (QCx g (QV Q)) args s 0 0 (gA g)) 110 [] [] h := by
  intro  h hw
  exact (rt_MQ C _).2.2.1 _ _ _ _ _ hr dX10_goFrom_110 (by decide) (by decide) ⟨rfl, hw⟩
set_option maxRecDepth 100000 in
set_option maxHeartbeats 4000000 in
theorem s_X10_goFrom_104 {p : Program} {l : Launch} {e : Env} {s : State} {m : MethodId} {args : Array Value} {below : List Frame} {meth : Method} {c : Code} {g : GG} {v0 : Nat} {v1 : Int32} {v2 : Int32} {v3 : Int32} {Q : AH → Prop} {x110 : AH → Prop} {k : Int32 → AH → Prop} (C : CXT p l s m args meth c RX10 cX10_goFrom 7 g) (hr : meth.sig.returnType = none) (hx110 : ∀  (h : AH), x110  h → V p l e s m args below meth c g 2 0 0 7 0 0 (MQ below (QCx g (QV Q)) args s 0 0 (gA g)) 110 [] [] h) (hk : ∀ (y4 : Int32) (h : AH), k y4 h → V p l e s m args below meth c g 2 0 0 7 0 0 (MQ below (QCx g (QV Q)) args s 0 0 (gA g)) 15 [(0, .ref v0), (1, .int v1), (2, .int v2), (3, .int v3), (4, .int y4)] [] h) : ∀ (v4 : Int32) (h : AH), w_X10_goFrom_104  x110 k v0 v1 v2 v3 v4 h Q → V p l e s m args below meth c g 2 0 0 7 0 0 (MQ below (QCx g (QV Q)) args s 0 0 (gA g)) 104 [(0, .ref v0), (1, .int v1), (2, .int v2), (3, .int v3), (4, .int v4)] [] h := by
  intro v4 h hw
  refine v_iinc (v := 1) (ls' := [(4, .int (v4 + 1)), (0, .ref v0), (1, .int v1), (2, .int v2), (3, .int v3)]) C dX10_goFrom_104 4 rfl (by decide) (by decide) rfl ?_
  refine v_goto (tgt := 15) C dX10_goFrom_107 (by decide) ?_
  refine v_sub [1, 2, 3, 4, 0] rfl ?_
  exact hk _ _ hw
set_option maxRecDepth 100000 in
set_option maxHeartbeats 4000000 in
theorem s_X10_goFrom_15 {p : Program} {l : Launch} {e : Env} {s : State} {m : MethodId} {args : Array Value} {below : List Frame} {meth : Method} {c : Code} {g : GG} {v0 : Nat} {v1 : Int32} {v2 : Int32} {v3 : Int32} {Q : AH → Prop} {x110 : AH → Prop} {k : Int32 → AH → Prop} (C : CXT p l s m args meth c RX10 cX10_goFrom 7 g) (hr : meth.sig.returnType = none) (hx110 : ∀  (h : AH), x110  h → V p l e s m args below meth c g 2 0 0 7 0 0 (MQ below (QCx g (QV Q)) args s 0 0 (gA g)) 110 [] [] h) (hk : ∀ (y4 : Int32) (h : AH), k y4 h → V p l e s m args below meth c g 2 0 0 7 0 0 (MQ below (QCx g (QV Q)) args s 0 0 (gA g)) 15 [(0, .ref v0), (1, .int v1), (2, .int v2), (3, .int v3), (4, .int y4)] [] h) : ∀ (v4 : Int32) (h : AH), w_X10_goFrom_15  x110 k v0 v1 v2 v3 v4 h Q → V p l e s m args below meth c g 2 0 0 7 0 0 (MQ below (QCx g (QV Q)) args s 0 0 (gA g)) 15 [(0, .ref v0), (1, .int v1), (2, .int v2), (3, .int v3), (4, .int v4)] [] h := by
  intro v4 h hw
  refine v_iload C dX10_goFrom_15 4 rfl ?_
  refine v_aload_n C dX10_goFrom_17 0 rfl rfl ?_
  refine w_getI C fl_X10_33 dX10_goFrom_18 rfl hw (fun x1 hw => ?_)
  refine v_icmp_ge (tgt := 110) C dX10_goFrom_21 (by decide) (fun c_21 => ?_) (fun c_21 => ?_)
  · have hw := hw.1 c_21
    refine v_sub [] rfl ?_
    exact hx110  _ hw
  · have hw := hw.2 c_21
    refine v_aload_n C dX10_goFrom_24 0 rfl rfl ?_
    refine w_getN C fl_X10_15 dX10_goFrom_25 rfl hw (fun a2 hw => ?_)
    refine v_iload C dX10_goFrom_28 4 rfl ?_
    refine w_iaload C dX10_goFrom_30 hw (fun x3 hw => ?_)
    refine v_iload_n C dX10_goFrom_31 3 rfl rfl ?_
    refine v_aload_n C dX10_goFrom_32 0 rfl rfl ?_
    refine w_getN C fl_X10_21 dX10_goFrom_33 rfl hw (fun a4 hw => ?_)
    refine v_iload_n C dX10_goFrom_36 2 rfl rfl ?_
    refine v_bipush (v := 8) C dX10_goFrom_37 (by decide) ?_
    refine v_imul C dX10_goFrom_39 ?_
    refine v_iload C dX10_goFrom_40 4 rfl ?_
    refine v_iadd C dX10_goFrom_42 ?_
    refine w_iaload C dX10_goFrom_43 hw (fun x5 hw => ?_)
    refine v_iadd C dX10_goFrom_44 ?_
    refine v_max C ml_X10_63 ms_max mi_math mc_max dX10_goFrom_45 (by decide) (by decide) (by decide) (by decide) ?_
    refine w_bd hw (fun x6 hw => ?_)
    refine v_istore (ls' := [(5, .int x6), (0, .ref v0), (1, .int v1), (2, .int v2), (3, .int v3), (4, .int v4)]) C dX10_goFrom_48 (by decide) rfl ?_
    refine v_iload_n C dX10_goFrom_50 2 rfl rfl ?_
    refine v_iload C dX10_goFrom_51 5 rfl ?_
    refine v_ishr C dX10_goFrom_53 ?_
    refine v_iconst (v := 1) C dX10_goFrom_54 (by decide) ?_
    refine v_iand C dX10_goFrom_55 ?_
    refine v_if_ne (tgt := 104) C dX10_goFrom_56 (by decide) (fun c_56 => ?_) (fun c_56 => ?_)
    · have hw := hw.2 c_56
      refine v_sub [1, 2, 3, 4, 5] rfl ?_
      exact s_X10_goFrom_104 C hr hx110 hk _ _ hw
    · have hw := hw.1 c_56
      refine v_iload C dX10_goFrom_59 0 rfl ?_
      refine v_aload_n C dX10_goFrom_61 1 rfl rfl ?_
      refine w_getN C fl_X10_18 dX10_goFrom_62 rfl hw (fun a7 hw => ?_)
      refine v_iload C dX10_goFrom_65 5 rfl ?_
      refine w_iaload C dX10_goFrom_67 hw (fun x8 hw => ?_)
      refine v_icmp_gt (tgt := 104) C dX10_goFrom_68 (by decide) (fun c_68 => ?_) (fun c_68 => ?_)
      · have hw := hw.1 c_68
        refine v_sub [1, 2, 3, 4, 5] rfl ?_
        exact s_X10_goFrom_104 C hr hx110 hk _ _ hw
      · have hw := hw.2 c_68
        refine v_iload_n C dX10_goFrom_71 2 rfl rfl ?_
        refine v_iconst (v := 1) C dX10_goFrom_72 (by decide) ?_
        refine v_iload C dX10_goFrom_73 5 rfl ?_
        refine v_ishl C dX10_goFrom_75 ?_
        refine v_ior C dX10_goFrom_76 ?_
        refine v_bipush (v := 8) C dX10_goFrom_77 (by decide) ?_
        refine v_imul C dX10_goFrom_79 ?_
        refine v_iload C dX10_goFrom_80 5 rfl ?_
        refine v_iadd C dX10_goFrom_82 ?_
        refine w_bd hw (fun x9 hw => ?_)
        refine v_istore (ls' := [(6, .int x9), (5, .int x6), (0, .ref v0), (1, .int v1), (2, .int v2), (3, .int v3), (4, .int v4)]) C dX10_goFrom_83 (by decide) rfl ?_
        refine v_aload_n C dX10_goFrom_85 2 rfl rfl ?_
        refine w_getN C fl_X10_24 dX10_goFrom_86 rfl hw (fun a10 hw => ?_)
        refine v_iload C dX10_goFrom_89 0 rfl ?_
        refine v_aload_n C dX10_goFrom_91 2 rfl rfl ?_
        refine w_getN C fl_X10_24 dX10_goFrom_92 rfl hw (fun a11 hw => ?_)
        refine v_iload C dX10_goFrom_95 0 rfl ?_
        refine w_iaload C dX10_goFrom_97 hw (fun x12 hw => ?_)
        refine v_iload C dX10_goFrom_98 1 rfl ?_
        refine w_callSi (st := [.int x9, .ref a10]) C cl_X10_60 st_X10_sooner (s_X10_sooner hw) rfl dX10_goFrom_100 rfl (Nat.le_of_ble_eq_true rfl) (by decide) (by decide) (by decide) (by decide) (fun x13 h hw => ?_)
        refine w_iastore C dX10_goFrom_103 hw (fun h hw => ?_)
        refine v_sub [2, 3, 4, 5, 6] rfl ?_
        exact s_X10_goFrom_104 C hr hx110 hk _ _ hw
set_option maxRecDepth 100000 in
set_option maxHeartbeats 4000000 in
theorem s_X10_goFrom {l : Launch}  {v0 : Nat} {v1 : Int32} {v2 : Int32} {h : AH} {Q : AH → Prop}  (hw : w_X10_goFrom  v0 v1 v2 h Q) : CT l yX10_goFrom cX10_goFrom 7 none 2 0 0 [.ref v0, .int v1, .int v2] h (QV Q) := by
  refine CT.of (by decide) ⟨rfl, ⟨rfl, ⟨rfl, trivial⟩⟩⟩ (Nat.le_of_ble_eq_true rfl) ?_
  intro p e s m args below meth c g C hr hin
  refine v_eq (pc' := 0) (ls' := [(0, .ref v0), (1, .int v1), (2, .int v2)]) rfl rfl rfl rfl ?_
  refine v_aload_n C dX10_goFrom_0 0 rfl rfl ?_
  refine w_getN C fl_X10_24 dX10_goFrom_1 rfl hw (fun a1 hw => ?_)
  refine v_iload_n C dX10_goFrom_4 1 rfl rfl ?_
  refine v_bipush (v := 8) C dX10_goFrom_5 (by decide) ?_
  refine v_imul C dX10_goFrom_7 ?_
  refine v_iload_n C dX10_goFrom_8 2 rfl rfl ?_
  refine v_iadd C dX10_goFrom_9 ?_
  refine w_iaload C dX10_goFrom_10 hw (fun x2 hw => ?_)
  refine v_istore_n (ls' := [(3, .int x2), (0, .ref v0), (1, .int v1), (2, .int v2)]) C dX10_goFrom_11 rfl (by decide) rfl ?_
  refine v_iconst (v := 0) C dX10_goFrom_12 (by decide) ?_
  refine v_istore (ls' := [(4, .int (0 : Int32)), (3, .int x2), (0, .ref v0), (1, .int v1), (2, .int v2)]) C dX10_goFrom_13 (by decide) rfl ?_
  refine v_sub [2, 3, 4, 1, 0] rfl ?_
  refine lp_walk (P := fun (s' : Int32 × AH) => V p l e s m args below meth c g 2 0 0 7 0 0 (MQ below (QCx g (QV Q)) args s 0 0 (gA g)) 15 [(0, .ref v0), (1, .int v1), (2, .int v2), (3, .int x2), (4, .int (s'.1))] [] s'.2) (fun k2 hk2 s' hw => ?_) ((0 : Int32), h) hw
  exact s_X10_goFrom_15 C hr (fun  h hw => s_X10_goFrom_110 C hr   h hw) (fun y4 h hw => hk2 (y4, h) hw) _ _ hw
-- GrassField$Ways.isFull()Z
theorem dX10_isFull_0 : decode cX10_isFull 0 = .ok (.aload_n 0, 1) := by decide +kernel
theorem dX10_isFull_1 : decode cX10_isFull 1 = .ok (.getfield 33, 3) := by decide +kernel
theorem dX10_isFull_4 : decode cX10_isFull 4 = .ok (.bipush 8, 2) := by decide +kernel
theorem dX10_isFull_6 : decode cX10_isFull 6 = .ok (.if_icmp .lt 7, 3) := by decide +kernel
theorem dX10_isFull_9 : decode cX10_isFull 9 = .ok (.iconst 1, 1) := by decide +kernel
theorem dX10_isFull_10 : decode cX10_isFull 10 = .ok (.goto 4, 3) := by decide +kernel
theorem dX10_isFull_13 : decode cX10_isFull 13 = .ok (.iconst 0, 1) := by decide +kernel
theorem dX10_isFull_14 : decode cX10_isFull 14 = .ok (.ireturn, 1) := by decide +kernel
def w_X10_isFull_14  (t0 : Int32) (h : AH) (Q : Int32 → AH → Prop) : Prop :=
  z1 t0 (Q t0 h)
def w_X10_isFull  (v0 : Nat) (h : AH) (Q : Int32 → AH → Prop) : Prop :=
  fI h v0 10 0 fun x1 =>
  br (x1 < (8 : Int32)) (
    w_X10_isFull_14 (0 : Int32) h Q) (
    w_X10_isFull_14 (1 : Int32) h Q)
set_option maxRecDepth 100000 in
set_option maxHeartbeats 4000000 in
theorem s_X10_isFull_14 {p : Program} {l : Launch} {e : Env} {s : State} {m : MethodId} {args : Array Value} {below : List Frame} {meth : Method} {c : Code} {g : GG}  {Q : Int32 → AH → Prop}  (C : CXT p l s m args meth c RX10 cX10_isFull 1 g) (hr : meth.sig.returnType = (some .boolean))  : ∀ (t0 : Int32) (h : AH), w_X10_isFull_14  t0 h Q → V p l e s m args below meth c g 0 0 0 1 0 0 (MQ below (QCx g (QI Q)) args s 0 0 (gA g)) 14 [] [.int t0] h := by
  intro t0 h hw
  exact (rt_MQ C _).2.1 _ _ _ _ _ _ _ hr (by rcases hw.1 with z | z <;> rw [z] <;> rfl) dX10_isFull_14 (by decide) (by decide) ⟨_, rfl, hw.2⟩
set_option maxRecDepth 100000 in
set_option maxHeartbeats 4000000 in
theorem s_X10_isFull {l : Launch}  {v0 : Nat} {h : AH} {Q : Int32 → AH → Prop}  (hw : w_X10_isFull  v0 h Q) : CT l yX10_isFull cX10_isFull 1 (some .boolean) 0 0 0 [.ref v0] h (QI Q) := by
  refine CT.of (by decide) ⟨rfl, trivial⟩ (Nat.le_of_ble_eq_true rfl) ?_
  intro p e s m args below meth c g C hr hin
  refine v_eq (pc' := 0) (ls' := [(0, .ref v0)]) rfl rfl rfl rfl ?_
  refine v_aload_n C dX10_isFull_0 0 rfl rfl ?_
  refine w_getI C fl_X10_33 dX10_isFull_1 rfl hw (fun x1 hw => ?_)
  refine v_bipush (v := 8) C dX10_isFull_4 (by decide) ?_
  refine v_icmp_lt (tgt := 13) C dX10_isFull_6 (by decide) (fun c_6 => ?_) (fun c_6 => ?_)
  · have hw := hw.1 c_6
    refine v_iconst (v := 0) C dX10_isFull_13 (by decide) ?_
    refine v_sub [] rfl ?_
    exact s_X10_isFull_14 C hr  _ _ hw
  · have hw := hw.2 c_6
    refine v_iconst (v := 1) C dX10_isFull_9 (by decide) ?_
    refine v_goto (tgt := 14) C dX10_isFull_10 (by decide) ?_
    refine v_sub [] rfl ?_
    exact s_X10_isFull_14 C hr  _ _ hw
-- GrassField$Ways.solve()V
theorem dX10_solve_0 : decode cX10_solve 0 = .ok (.iconst 1, 1) := by decide +kernel
theorem dX10_solve_1 : decode cX10_solve 1 = .ok (.aload_n 0, 1) := by decide +kernel
theorem dX10_solve_2 : decode cX10_solve 2 = .ok (.getfield 33, 3) := by decide +kernel
theorem dX10_solve_5 : decode cX10_solve 5 = .ok (.ishl, 1) := by decide +kernel
theorem dX10_solve_6 : decode cX10_solve 6 = .ok (.iconst 1, 1) := by decide +kernel
theorem dX10_solve_7 : decode cX10_solve 7 = .ok (.isub, 1) := by decide +kernel
theorem dX10_solve_8 : decode cX10_solve 8 = .ok (.istore_n 1, 1) := by decide +kernel
theorem dX10_solve_9 : decode cX10_solve 9 = .ok (.aload_n 0, 1) := by decide +kernel
theorem dX10_solve_10 : decode cX10_solve 10 = .ok (.invokevirtual 50, 3) := by decide +kernel
theorem dX10_solve_13 : decode cX10_solve 13 = .ok (.iconst 0, 1) := by decide +kernel
theorem dX10_solve_14 : decode cX10_solve 14 = .ok (.istore_n 2, 1) := by decide +kernel
theorem dX10_solve_15 : decode cX10_solve 15 = .ok (.iload_n 2, 1) := by decide +kernel
theorem dX10_solve_16 : decode cX10_solve 16 = .ok (.aload_n 0, 1) := by decide +kernel
theorem dX10_solve_17 : decode cX10_solve 17 = .ok (.getfield 33, 3) := by decide +kernel
theorem dX10_solve_20 : decode cX10_solve 20 = .ok (.if_icmp .ge 28, 3) := by decide +kernel
theorem dX10_solve_23 : decode cX10_solve 23 = .ok (.aload_n 0, 1) := by decide +kernel
theorem dX10_solve_24 : decode cX10_solve 24 = .ok (.getfield 24, 3) := by decide +kernel
theorem dX10_solve_27 : decode cX10_solve 27 = .ok (.iconst 1, 1) := by decide +kernel
theorem dX10_solve_28 : decode cX10_solve 28 = .ok (.iload_n 2, 1) := by decide +kernel
theorem dX10_solve_29 : decode cX10_solve 29 = .ok (.ishl, 1) := by decide +kernel
theorem dX10_solve_30 : decode cX10_solve 30 = .ok (.bipush 8, 2) := by decide +kernel
theorem dX10_solve_32 : decode cX10_solve 32 = .ok (.imul, 1) := by decide +kernel
theorem dX10_solve_33 : decode cX10_solve 33 = .ok (.iload_n 2, 1) := by decide +kernel
theorem dX10_solve_34 : decode cX10_solve 34 = .ok (.iadd, 1) := by decide +kernel
theorem dX10_solve_35 : decode cX10_solve 35 = .ok (.aload_n 0, 1) := by decide +kernel
theorem dX10_solve_36 : decode cX10_solve 36 = .ok (.getfield 15, 3) := by decide +kernel
theorem dX10_solve_39 : decode cX10_solve 39 = .ok (.iload_n 2, 1) := by decide +kernel
theorem dX10_solve_40 : decode cX10_solve 40 = .ok (.iaload, 1) := by decide +kernel
theorem dX10_solve_41 : decode cX10_solve 41 = .ok (.iastore, 1) := by decide +kernel
theorem dX10_solve_42 : decode cX10_solve 42 = .ok (.iinc 2 1, 3) := by decide +kernel
theorem dX10_solve_45 : decode cX10_solve 45 = .ok (.goto (-30), 3) := by decide +kernel
theorem dX10_solve_48 : decode cX10_solve 48 = .ok (.iconst 1, 1) := by decide +kernel
theorem dX10_solve_49 : decode cX10_solve 49 = .ok (.istore_n 2, 1) := by decide +kernel
theorem dX10_solve_50 : decode cX10_solve 50 = .ok (.iload_n 2, 1) := by decide +kernel
theorem dX10_solve_51 : decode cX10_solve 51 = .ok (.iload_n 1, 1) := by decide +kernel
theorem dX10_solve_52 : decode cX10_solve 52 = .ok (.if_icmp .gt 60, 3) := by decide +kernel
theorem dX10_solve_55 : decode cX10_solve 55 = .ok (.aload_n 0, 1) := by decide +kernel
theorem dX10_solve_56 : decode cX10_solve 56 = .ok (.getfield 27, 3) := by decide +kernel
theorem dX10_solve_59 : decode cX10_solve 59 = .ok (.iload_n 2, 1) := by decide +kernel
theorem dX10_solve_60 : decode cX10_solve 60 = .ok (.iconst 0, 1) := by decide +kernel
theorem dX10_solve_61 : decode cX10_solve 61 = .ok (.iastore, 1) := by decide +kernel
theorem dX10_solve_62 : decode cX10_solve 62 = .ok (.iconst 0, 1) := by decide +kernel
theorem dX10_solve_63 : decode cX10_solve 63 = .ok (.istore_n 3, 1) := by decide +kernel
theorem dX10_solve_64 : decode cX10_solve 64 = .ok (.iload_n 3, 1) := by decide +kernel
theorem dX10_solve_65 : decode cX10_solve 65 = .ok (.aload_n 0, 1) := by decide +kernel
theorem dX10_solve_66 : decode cX10_solve 66 = .ok (.getfield 33, 3) := by decide +kernel
theorem dX10_solve_69 : decode cX10_solve 69 = .ok (.if_icmp .ge 37, 3) := by decide +kernel
theorem dX10_solve_72 : decode cX10_solve 72 = .ok (.aload_n 0, 1) := by decide +kernel
theorem dX10_solve_73 : decode cX10_solve 73 = .ok (.getfield 24, 3) := by decide +kernel
theorem dX10_solve_76 : decode cX10_solve 76 = .ok (.iload_n 2, 1) := by decide +kernel
theorem dX10_solve_77 : decode cX10_solve 77 = .ok (.bipush 8, 2) := by decide +kernel
theorem dX10_solve_79 : decode cX10_solve 79 = .ok (.imul, 1) := by decide +kernel
theorem dX10_solve_80 : decode cX10_solve 80 = .ok (.iload_n 3, 1) := by decide +kernel
theorem dX10_solve_81 : decode cX10_solve 81 = .ok (.iadd, 1) := by decide +kernel
theorem dX10_solve_82 : decode cX10_solve 82 = .ok (.iaload, 1) := by decide +kernel
theorem dX10_solve_83 : decode cX10_solve 83 = .ok (.iconst (-1), 1) := by decide +kernel
theorem dX10_solve_84 : decode cX10_solve 84 = .ok (.if_icmp .eq 16, 3) := by decide +kernel
theorem dX10_solve_87 : decode cX10_solve 87 = .ok (.aload_n 0, 1) := by decide +kernel
theorem dX10_solve_88 : decode cX10_solve 88 = .ok (.getfield 27, 3) := by decide +kernel
theorem dX10_solve_91 : decode cX10_solve 91 = .ok (.iload_n 2, 1) := by decide +kernel
theorem dX10_solve_92 : decode cX10_solve 92 = .ok (.iconst 1, 1) := by decide +kernel
theorem dX10_solve_93 : decode cX10_solve 93 = .ok (.iastore, 1) := by decide +kernel
theorem dX10_solve_94 : decode cX10_solve 94 = .ok (.aload_n 0, 1) := by decide +kernel
theorem dX10_solve_95 : decode cX10_solve 95 = .ok (.iload_n 2, 1) := by decide +kernel
theorem dX10_solve_96 : decode cX10_solve 96 = .ok (.iload_n 3, 1) := by decide +kernel
theorem dX10_solve_97 : decode cX10_solve 97 = .ok (.invokevirtual 53, 3) := by decide +kernel
theorem dX10_solve_100 : decode cX10_solve 100 = .ok (.iinc 3 1, 3) := by decide +kernel
theorem dX10_solve_103 : decode cX10_solve 103 = .ok (.goto (-39), 3) := by decide +kernel
theorem dX10_solve_106 : decode cX10_solve 106 = .ok (.iinc 2 1, 3) := by decide +kernel
theorem dX10_solve_109 : decode cX10_solve 109 = .ok (.goto (-59), 3) := by decide +kernel
theorem dX10_solve_112 : decode cX10_solve 112 = .ok (.aload_n 0, 1) := by decide +kernel
theorem dX10_solve_113 : decode cX10_solve 113 = .ok (.iconst (-1), 1) := by decide +kernel
theorem dX10_solve_114 : decode cX10_solve 114 = .ok (.putfield 57, 3) := by decide +kernel
theorem dX10_solve_117 : decode cX10_solve 117 = .ok (.iconst 0, 1) := by decide +kernel
theorem dX10_solve_118 : decode cX10_solve 118 = .ok (.istore_n 2, 1) := by decide +kernel
theorem dX10_solve_119 : decode cX10_solve 119 = .ok (.iload_n 2, 1) := by decide +kernel
theorem dX10_solve_120 : decode cX10_solve 120 = .ok (.aload_n 0, 1) := by decide +kernel
theorem dX10_solve_121 : decode cX10_solve 121 = .ok (.getfield 33, 3) := by decide +kernel
theorem dX10_solve_124 : decode cX10_solve 124 = .ok (.if_icmp .ge 31, 3) := by decide +kernel
theorem dX10_solve_127 : decode cX10_solve 127 = .ok (.aload_n 0, 1) := by decide +kernel
theorem dX10_solve_128 : decode cX10_solve 128 = .ok (.aload_n 0, 1) := by decide +kernel
theorem dX10_solve_129 : decode cX10_solve 129 = .ok (.getfield 57, 3) := by decide +kernel
theorem dX10_solve_132 : decode cX10_solve 132 = .ok (.aload_n 0, 1) := by decide +kernel
theorem dX10_solve_133 : decode cX10_solve 133 = .ok (.getfield 24, 3) := by decide +kernel
theorem dX10_solve_136 : decode cX10_solve 136 = .ok (.iload_n 1, 1) := by decide +kernel
theorem dX10_solve_137 : decode cX10_solve 137 = .ok (.bipush 8, 2) := by decide +kernel
theorem dX10_solve_139 : decode cX10_solve 139 = .ok (.imul, 1) := by decide +kernel
theorem dX10_solve_140 : decode cX10_solve 140 = .ok (.iload_n 2, 1) := by decide +kernel
theorem dX10_solve_141 : decode cX10_solve 141 = .ok (.iadd, 1) := by decide +kernel
theorem dX10_solve_142 : decode cX10_solve 142 = .ok (.iaload, 1) := by decide +kernel
theorem dX10_solve_143 : decode cX10_solve 143 = .ok (.invokestatic 60, 3) := by decide +kernel
theorem dX10_solve_146 : decode cX10_solve 146 = .ok (.putfield 57, 3) := by decide +kernel
theorem dX10_solve_149 : decode cX10_solve 149 = .ok (.iinc 2 1, 3) := by decide +kernel
theorem dX10_solve_152 : decode cX10_solve 152 = .ok (.goto (-33), 3) := by decide +kernel
theorem dX10_solve_155 : decode cX10_solve 155 = .ok (.return_, 1) := by decide +kernel
def w_X10_solve_155  (h : AH) (Q : AH → Prop) : Prop :=
  Q h
def w_X10_solve_119  (x155 : AH → Prop) (k : Int32 → AH → Prop) (v0 : Nat) (v1 : Int32) (v2 : Int32) (h : AH) (Q : AH → Prop) : Prop :=
  fI h v0 10 0 fun x1 =>
  br (x1 ≤ v2) (
    x155  h) (
    fI h v0 10 8 fun x2 =>
    fN h v0 10 5 fun a3 =>
    aI h a3 ((v1 * (8 : Int32)) + v2) fun x4 =>
    w_X10_sooner x2 x4 h (fun x5 h =>
    uI h v0 10 8 x5 fun h =>
    k (v2 + 1) h))
def w_X10_solve_112  (v0 : Nat) (v1 : Int32) (h : AH) (Q : AH → Prop) : Prop :=
  uI h v0 10 8 (-1 : Int32) fun h =>
  lp (fun (k2 : Int32 × AH → Prop) (s2 : Int32 × AH) => w_X10_solve_119  (fun  h => w_X10_solve_155  h Q) (fun (y2 : Int32) h => k2 (y2, h)) v0 v1 s2.1 s2.2 Q) ((0 : Int32), h)
def w_X10_solve_106  (x112 : AH → Prop) (k : Int32 → AH → Prop) (v0 : Nat) (v1 : Int32) (v2 : Int32) (h : AH) (Q : AH → Prop) : Prop :=
  k (v2 + 1) h
def w_X10_solve_100  (x106 : AH → Prop) (k : Int32 → AH → Prop) (v0 : Nat) (v1 : Int32) (v2 : Int32) (v3 : Int32) (h : AH) (Q : AH → Prop) : Prop :=
  k (v3 + 1) h
def w_X10_solve_64  (x106 : AH → Prop) (k : Int32 → AH → Prop) (v0 : Nat) (v1 : Int32) (v2 : Int32) (v3 : Int32) (h : AH) (Q : AH → Prop) : Prop :=
  fI h v0 10 0 fun x1 =>
  br (x1 ≤ v3) (
    x106  h) (
    fN h v0 10 5 fun a2 =>
    aI h a2 ((v2 * (8 : Int32)) + v3) fun x3 =>
    br (x3 = (-1 : Int32)) (
      w_X10_solve_100 x106 k v0 v1 v2 v3 h Q) (
      fN h v0 10 6 fun a4 =>
      tI h a4 v2 (1 : Int32) fun h =>
      vr h v0 10 (
      w_X10_goFrom v0 v2 v3 h (fun h =>
      w_X10_solve_100 x106 k v0 v1 v2 v3 h Q))))
def w_X10_solve_50  (x112 : AH → Prop) (k : Int32 → AH → Prop) (v0 : Nat) (v1 : Int32) (v2 : Int32) (h : AH) (Q : AH → Prop) : Prop :=
  br (v1 < v2) (
    x112  h) (
    fN h v0 10 6 fun a1 =>
    tI h a1 v2 (0 : Int32) fun h =>
    lp (fun (k2 : Int32 × AH → Prop) (s2 : Int32 × AH) => w_X10_solve_64  (fun  h => w_X10_solve_106 x112 k v0 v1 v2 h Q) (fun (y3 : Int32) h => k2 (y3, h)) v0 v1 v2 s2.1 s2.2 Q) ((0 : Int32), h))
def w_X10_solve_48  (v0 : Nat) (v1 : Int32) (h : AH) (Q : AH → Prop) : Prop :=
  lp (fun (k2 : Int32 × AH → Prop) (s2 : Int32 × AH) => w_X10_solve_50  (fun  h => w_X10_solve_112 v0 v1 h Q) (fun (y2 : Int32) h => k2 (y2, h)) v0 v1 s2.1 s2.2 Q) ((1 : Int32), h)
def w_X10_solve_15  (x48 : AH → Prop) (k : Int32 → AH → Prop) (v0 : Nat) (v1 : Int32) (v2 : Int32) (h : AH) (Q : AH → Prop) : Prop :=
  fI h v0 10 0 fun x1 =>
  br (x1 ≤ v2) (
    x48  h) (
    fN h v0 10 5 fun a2 =>
    fN h v0 10 2 fun a3 =>
    aI h a3 v2 fun x4 =>
    tI h a2 ((((1 : Int32) <<< (v2 &&& 31)) * (8 : Int32)) + v2) x4 fun h =>
    k (v2 + 1) h)
def w_X10_solve  (v0 : Nat) (h : AH) (Q : AH → Prop) : Prop :=
  fI h v0 10 0 fun x1 =>
  bd (((1 : Int32) <<< (x1 &&& 31)) - (1 : Int32)) fun x2 =>
  vr h v0 10 (
  w_X10_clearBest v0 h (fun h =>
  lp (fun (k2 : Int32 × AH → Prop) (s2 : Int32 × AH) => w_X10_solve_15  (fun  h => w_X10_solve_48 v0 x2 h Q) (fun (y2 : Int32) h => k2 (y2, h)) v0 x2 s2.1 s2.2 Q) ((0 : Int32), h)))
set_option maxRecDepth 100000 in
set_option maxHeartbeats 4000000 in
theorem s_X10_solve_155 {p : Program} {l : Launch} {e : Env} {s : State} {m : MethodId} {args : Array Value} {below : List Frame} {meth : Method} {c : Code} {g : GG}  {Q : AH → Prop}  (C : CXT p l s m args meth c RX10 cX10_solve 4 g) (hr : meth.sig.returnType = none)  : ∀  (h : AH), w_X10_solve_155  h Q → V p l e s m args below meth c g 3 0 0 4 0 0 (MQ below (QCx g (QV Q)) args s 0 0 (gA g)) 155 [] [] h := by
  intro  h hw
  exact (rt_MQ C _).2.2.1 _ _ _ _ _ hr dX10_solve_155 (by decide) (by decide) ⟨rfl, hw⟩
set_option maxRecDepth 100000 in
set_option maxHeartbeats 4000000 in
theorem s_X10_solve_119 {p : Program} {l : Launch} {e : Env} {s : State} {m : MethodId} {args : Array Value} {below : List Frame} {meth : Method} {c : Code} {g : GG} {v0 : Nat} {v1 : Int32} {Q : AH → Prop} {x155 : AH → Prop} {k : Int32 → AH → Prop} (C : CXT p l s m args meth c RX10 cX10_solve 4 g) (hr : meth.sig.returnType = none) (hx155 : ∀  (h : AH), x155  h → V p l e s m args below meth c g 3 0 0 4 0 0 (MQ below (QCx g (QV Q)) args s 0 0 (gA g)) 155 [] [] h) (hk : ∀ (y2 : Int32) (h : AH), k y2 h → V p l e s m args below meth c g 3 0 0 4 0 0 (MQ below (QCx g (QV Q)) args s 0 0 (gA g)) 119 [(0, .ref v0), (1, .int v1), (2, .int y2)] [] h) : ∀ (v2 : Int32) (h : AH), w_X10_solve_119  x155 k v0 v1 v2 h Q → V p l e s m args below meth c g 3 0 0 4 0 0 (MQ below (QCx g (QV Q)) args s 0 0 (gA g)) 119 [(0, .ref v0), (1, .int v1), (2, .int v2)] [] h := by
  intro v2 h hw
  refine v_iload_n C dX10_solve_119 2 rfl rfl ?_
  refine v_aload_n C dX10_solve_120 0 rfl rfl ?_
  refine w_getI C fl_X10_33 dX10_solve_121 rfl hw (fun x1 hw => ?_)
  refine v_icmp_ge (tgt := 155) C dX10_solve_124 (by decide) (fun c_124 => ?_) (fun c_124 => ?_)
  · have hw := hw.1 c_124
    refine v_sub [] rfl ?_
    exact hx155  _ hw
  · have hw := hw.2 c_124
    refine v_aload_n C dX10_solve_127 0 rfl rfl ?_
    refine v_aload_n C dX10_solve_128 0 rfl rfl ?_
    refine w_getI C fl_X10_57 dX10_solve_129 rfl hw (fun x2 hw => ?_)
    refine v_aload_n C dX10_solve_132 0 rfl rfl ?_
    refine w_getN C fl_X10_24 dX10_solve_133 rfl hw (fun a3 hw => ?_)
    refine v_iload_n C dX10_solve_136 1 rfl rfl ?_
    refine v_bipush (v := 8) C dX10_solve_137 (by decide) ?_
    refine v_imul C dX10_solve_139 ?_
    refine v_iload_n C dX10_solve_140 2 rfl rfl ?_
    refine v_iadd C dX10_solve_141 ?_
    refine w_iaload C dX10_solve_142 hw (fun x4 hw => ?_)
    refine w_callSi (st := [.ref v0]) C cl_X10_60 st_X10_sooner (s_X10_sooner hw) rfl dX10_solve_143 rfl (Nat.le_of_ble_eq_true rfl) (by decide) (by decide) (by decide) (by decide) (fun x5 h hw => ?_)
    refine w_putI C fp_X10_57 (Or.inl rfl) dX10_solve_146 hw (fun h hw => ?_)
    refine v_iinc (v := 1) (ls' := [(2, .int (v2 + 1)), (0, .ref v0), (1, .int v1)]) C dX10_solve_149 2 rfl (by decide) (by decide) rfl ?_
    refine v_goto (tgt := 119) C dX10_solve_152 (by decide) ?_
    refine v_sub [1, 2, 0] rfl ?_
    exact hk _ _ hw
set_option maxRecDepth 100000 in
set_option maxHeartbeats 4000000 in
theorem s_X10_solve_112 {p : Program} {l : Launch} {e : Env} {s : State} {m : MethodId} {args : Array Value} {below : List Frame} {meth : Method} {c : Code} {g : GG}  {Q : AH → Prop}  (C : CXT p l s m args meth c RX10 cX10_solve 4 g) (hr : meth.sig.returnType = none)  : ∀ (v0 : Nat) (v1 : Int32) (h : AH), w_X10_solve_112  v0 v1 h Q → V p l e s m args below meth c g 3 0 0 4 0 0 (MQ below (QCx g (QV Q)) args s 0 0 (gA g)) 112 [(0, .ref v0), (1, .int v1)] [] h := by
  intro v0 v1 h hw
  refine v_aload_n C dX10_solve_112 0 rfl rfl ?_
  refine v_iconst (v := -1) C dX10_solve_113 (by decide) ?_
  refine w_putI C fp_X10_57 (Or.inl rfl) dX10_solve_114 hw (fun h hw => ?_)
  refine v_iconst (v := 0) C dX10_solve_117 (by decide) ?_
  refine v_istore_n (ls' := [(2, .int (0 : Int32)), (0, .ref v0), (1, .int v1)]) C dX10_solve_118 rfl (by decide) rfl ?_
  refine v_sub [1, 2, 0] rfl ?_
  refine lp_walk (P := fun (s' : Int32 × AH) => V p l e s m args below meth c g 3 0 0 4 0 0 (MQ below (QCx g (QV Q)) args s 0 0 (gA g)) 119 [(0, .ref v0), (1, .int v1), (2, .int (s'.1))] [] s'.2) (fun k2 hk2 s' hw => ?_) ((0 : Int32), h) hw
  exact s_X10_solve_119 C hr (fun  h hw => s_X10_solve_155 C hr   h hw) (fun y2 h hw => hk2 (y2, h) hw) _ _ hw
set_option maxRecDepth 100000 in
set_option maxHeartbeats 4000000 in
theorem s_X10_solve_106 {p : Program} {l : Launch} {e : Env} {s : State} {m : MethodId} {args : Array Value} {below : List Frame} {meth : Method} {c : Code} {g : GG} {v0 : Nat} {v1 : Int32} {Q : AH → Prop} {x112 : AH → Prop} {k : Int32 → AH → Prop} (C : CXT p l s m args meth c RX10 cX10_solve 4 g) (hr : meth.sig.returnType = none) (hx112 : ∀  (h : AH), x112  h → V p l e s m args below meth c g 3 0 0 4 0 0 (MQ below (QCx g (QV Q)) args s 0 0 (gA g)) 112 [(0, .ref v0), (1, .int v1)] [] h) (hk : ∀ (y2 : Int32) (h : AH), k y2 h → V p l e s m args below meth c g 3 0 0 4 0 0 (MQ below (QCx g (QV Q)) args s 0 0 (gA g)) 50 [(0, .ref v0), (1, .int v1), (2, .int y2)] [] h) : ∀ (v2 : Int32) (h : AH), w_X10_solve_106  x112 k v0 v1 v2 h Q → V p l e s m args below meth c g 3 0 0 4 0 0 (MQ below (QCx g (QV Q)) args s 0 0 (gA g)) 106 [(0, .ref v0), (1, .int v1), (2, .int v2)] [] h := by
  intro v2 h hw
  refine v_iinc (v := 1) (ls' := [(2, .int (v2 + 1)), (0, .ref v0), (1, .int v1)]) C dX10_solve_106 2 rfl (by decide) (by decide) rfl ?_
  refine v_goto (tgt := 50) C dX10_solve_109 (by decide) ?_
  refine v_sub [1, 2, 0] rfl ?_
  exact hk _ _ hw
set_option maxRecDepth 100000 in
set_option maxHeartbeats 4000000 in
theorem s_X10_solve_100 {p : Program} {l : Launch} {e : Env} {s : State} {m : MethodId} {args : Array Value} {below : List Frame} {meth : Method} {c : Code} {g : GG} {v0 : Nat} {v1 : Int32} {v2 : Int32} {Q : AH → Prop} {x106 : AH → Prop} {k : Int32 → AH → Prop} (C : CXT p l s m args meth c RX10 cX10_solve 4 g) (hr : meth.sig.returnType = none) (hx106 : ∀  (h : AH), x106  h → V p l e s m args below meth c g 3 0 0 4 0 0 (MQ below (QCx g (QV Q)) args s 0 0 (gA g)) 106 [(0, .ref v0), (1, .int v1), (2, .int v2)] [] h) (hk : ∀ (y3 : Int32) (h : AH), k y3 h → V p l e s m args below meth c g 3 0 0 4 0 0 (MQ below (QCx g (QV Q)) args s 0 0 (gA g)) 64 [(0, .ref v0), (1, .int v1), (2, .int v2), (3, .int y3)] [] h) : ∀ (v3 : Int32) (h : AH), w_X10_solve_100  x106 k v0 v1 v2 v3 h Q → V p l e s m args below meth c g 3 0 0 4 0 0 (MQ below (QCx g (QV Q)) args s 0 0 (gA g)) 100 [(0, .ref v0), (1, .int v1), (2, .int v2), (3, .int v3)] [] h := by
  intro v3 h hw
  refine v_iinc (v := 1) (ls' := [(3, .int (v3 + 1)), (0, .ref v0), (1, .int v1), (2, .int v2)]) C dX10_solve_100 3 rfl (by decide) (by decide) rfl ?_
  refine v_goto (tgt := 64) C dX10_solve_103 (by decide) ?_
  refine v_sub [1, 2, 3, 0] rfl ?_
  exact hk _ _ hw
set_option maxRecDepth 100000 in
set_option maxHeartbeats 4000000 in
theorem s_X10_solve_64 {p : Program} {l : Launch} {e : Env} {s : State} {m : MethodId} {args : Array Value} {below : List Frame} {meth : Method} {c : Code} {g : GG} {v0 : Nat} {v1 : Int32} {v2 : Int32} {Q : AH → Prop} {x106 : AH → Prop} {k : Int32 → AH → Prop} (C : CXT p l s m args meth c RX10 cX10_solve 4 g) (hr : meth.sig.returnType = none) (hx106 : ∀  (h : AH), x106  h → V p l e s m args below meth c g 3 0 0 4 0 0 (MQ below (QCx g (QV Q)) args s 0 0 (gA g)) 106 [(0, .ref v0), (1, .int v1), (2, .int v2)] [] h) (hk : ∀ (y3 : Int32) (h : AH), k y3 h → V p l e s m args below meth c g 3 0 0 4 0 0 (MQ below (QCx g (QV Q)) args s 0 0 (gA g)) 64 [(0, .ref v0), (1, .int v1), (2, .int v2), (3, .int y3)] [] h) : ∀ (v3 : Int32) (h : AH), w_X10_solve_64  x106 k v0 v1 v2 v3 h Q → V p l e s m args below meth c g 3 0 0 4 0 0 (MQ below (QCx g (QV Q)) args s 0 0 (gA g)) 64 [(0, .ref v0), (1, .int v1), (2, .int v2), (3, .int v3)] [] h := by
  intro v3 h hw
  refine v_iload_n C dX10_solve_64 3 rfl rfl ?_
  refine v_aload_n C dX10_solve_65 0 rfl rfl ?_
  refine w_getI C fl_X10_33 dX10_solve_66 rfl hw (fun x1 hw => ?_)
  refine v_icmp_ge (tgt := 106) C dX10_solve_69 (by decide) (fun c_69 => ?_) (fun c_69 => ?_)
  · have hw := hw.1 c_69
    refine v_sub [0, 1, 2] rfl ?_
    exact hx106  _ hw
  · have hw := hw.2 c_69
    refine v_aload_n C dX10_solve_72 0 rfl rfl ?_
    refine w_getN C fl_X10_24 dX10_solve_73 rfl hw (fun a2 hw => ?_)
    refine v_iload_n C dX10_solve_76 2 rfl rfl ?_
    refine v_bipush (v := 8) C dX10_solve_77 (by decide) ?_
    refine v_imul C dX10_solve_79 ?_
    refine v_iload_n C dX10_solve_80 3 rfl rfl ?_
    refine v_iadd C dX10_solve_81 ?_
    refine w_iaload C dX10_solve_82 hw (fun x3 hw => ?_)
    refine v_iconst (v := -1) C dX10_solve_83 (by decide) ?_
    refine v_icmp_eq (tgt := 100) C dX10_solve_84 (by decide) (fun c_84 => ?_) (fun c_84 => ?_)
    · have hw := hw.1 c_84
      exact s_X10_solve_100 C hr hx106 hk _ _ hw
    · have hw := hw.2 c_84
      refine v_aload_n C dX10_solve_87 0 rfl rfl ?_
      refine w_getN C fl_X10_27 dX10_solve_88 rfl hw (fun a4 hw => ?_)
      refine v_iload_n C dX10_solve_91 2 rfl rfl ?_
      refine v_iconst (v := 1) C dX10_solve_92 (by decide) ?_
      refine w_iastore C dX10_solve_93 hw (fun h hw => ?_)
      refine v_aload_n C dX10_solve_94 0 rfl rfl ?_
      refine v_iload_n C dX10_solve_95 2 rfl rfl ?_
      refine v_iload_n C dX10_solve_96 3 rfl rfl ?_
      refine w_callVv (st := []) C cl_X10_53 im_X10_goFrom se_X10_goFrom rfl hw.1 (s_X10_goFrom hw.2) rfl dX10_solve_97 rfl (by decide) (by decide) (by decide) (by decide) (by decide) (fun h hw => ?_)
      exact s_X10_solve_100 C hr hx106 hk _ _ hw
set_option maxRecDepth 100000 in
set_option maxHeartbeats 4000000 in
theorem s_X10_solve_50 {p : Program} {l : Launch} {e : Env} {s : State} {m : MethodId} {args : Array Value} {below : List Frame} {meth : Method} {c : Code} {g : GG} {v0 : Nat} {v1 : Int32} {Q : AH → Prop} {x112 : AH → Prop} {k : Int32 → AH → Prop} (C : CXT p l s m args meth c RX10 cX10_solve 4 g) (hr : meth.sig.returnType = none) (hx112 : ∀  (h : AH), x112  h → V p l e s m args below meth c g 3 0 0 4 0 0 (MQ below (QCx g (QV Q)) args s 0 0 (gA g)) 112 [(0, .ref v0), (1, .int v1)] [] h) (hk : ∀ (y2 : Int32) (h : AH), k y2 h → V p l e s m args below meth c g 3 0 0 4 0 0 (MQ below (QCx g (QV Q)) args s 0 0 (gA g)) 50 [(0, .ref v0), (1, .int v1), (2, .int y2)] [] h) : ∀ (v2 : Int32) (h : AH), w_X10_solve_50  x112 k v0 v1 v2 h Q → V p l e s m args below meth c g 3 0 0 4 0 0 (MQ below (QCx g (QV Q)) args s 0 0 (gA g)) 50 [(0, .ref v0), (1, .int v1), (2, .int v2)] [] h := by
  intro v2 h hw
  refine v_iload_n C dX10_solve_50 2 rfl rfl ?_
  refine v_iload_n C dX10_solve_51 1 rfl rfl ?_
  refine v_icmp_gt (tgt := 112) C dX10_solve_52 (by decide) (fun c_52 => ?_) (fun c_52 => ?_)
  · have hw := hw.1 c_52
    refine v_sub [0, 1] rfl ?_
    exact hx112  _ hw
  · have hw := hw.2 c_52
    refine v_aload_n C dX10_solve_55 0 rfl rfl ?_
    refine w_getN C fl_X10_27 dX10_solve_56 rfl hw (fun a1 hw => ?_)
    refine v_iload_n C dX10_solve_59 2 rfl rfl ?_
    refine v_iconst (v := 0) C dX10_solve_60 (by decide) ?_
    refine w_iastore C dX10_solve_61 hw (fun h hw => ?_)
    refine v_iconst (v := 0) C dX10_solve_62 (by decide) ?_
    refine v_istore_n (ls' := [(3, .int (0 : Int32)), (0, .ref v0), (1, .int v1), (2, .int v2)]) C dX10_solve_63 rfl (by decide) rfl ?_
    refine v_sub [1, 2, 3, 0] rfl ?_
    refine lp_walk (P := fun (s' : Int32 × AH) => V p l e s m args below meth c g 3 0 0 4 0 0 (MQ below (QCx g (QV Q)) args s 0 0 (gA g)) 64 [(0, .ref v0), (1, .int v1), (2, .int v2), (3, .int (s'.1))] [] s'.2) (fun k2 hk2 s' hw => ?_) ((0 : Int32), h) hw
    exact s_X10_solve_64 C hr (fun  h hw => s_X10_solve_106 C hr hx112 hk _ h hw) (fun y3 h hw => hk2 (y3, h) hw) _ _ hw
set_option maxRecDepth 100000 in
set_option maxHeartbeats 4000000 in
theorem s_X10_solve_48 {p : Program} {l : Launch} {e : Env} {s : State} {m : MethodId} {args : Array Value} {below : List Frame} {meth : Method} {c : Code} {g : GG}  {Q : AH → Prop}  (C : CXT p l s m args meth c RX10 cX10_solve 4 g) (hr : meth.sig.returnType = none)  : ∀ (v0 : Nat) (v1 : Int32) (h : AH), w_X10_solve_48  v0 v1 h Q → V p l e s m args below meth c g 3 0 0 4 0 0 (MQ below (QCx g (QV Q)) args s 0 0 (gA g)) 48 [(0, .ref v0), (1, .int v1)] [] h := by
  intro v0 v1 h hw
  refine v_iconst (v := 1) C dX10_solve_48 (by decide) ?_
  refine v_istore_n (ls' := [(2, .int (1 : Int32)), (0, .ref v0), (1, .int v1)]) C dX10_solve_49 rfl (by decide) rfl ?_
  refine v_sub [1, 2, 0] rfl ?_
  refine lp_walk (P := fun (s' : Int32 × AH) => V p l e s m args below meth c g 3 0 0 4 0 0 (MQ below (QCx g (QV Q)) args s 0 0 (gA g)) 50 [(0, .ref v0), (1, .int v1), (2, .int (s'.1))] [] s'.2) (fun k2 hk2 s' hw => ?_) ((1 : Int32), h) hw
  exact s_X10_solve_50 C hr (fun  h hw => s_X10_solve_112 C hr  _ _ h hw) (fun y2 h hw => hk2 (y2, h) hw) _ _ hw
set_option maxRecDepth 100000 in
set_option maxHeartbeats 4000000 in
theorem s_X10_solve_15 {p : Program} {l : Launch} {e : Env} {s : State} {m : MethodId} {args : Array Value} {below : List Frame} {meth : Method} {c : Code} {g : GG} {v0 : Nat} {v1 : Int32} {Q : AH → Prop} {x48 : AH → Prop} {k : Int32 → AH → Prop} (C : CXT p l s m args meth c RX10 cX10_solve 4 g) (hr : meth.sig.returnType = none) (hx48 : ∀  (h : AH), x48  h → V p l e s m args below meth c g 3 0 0 4 0 0 (MQ below (QCx g (QV Q)) args s 0 0 (gA g)) 48 [(0, .ref v0), (1, .int v1)] [] h) (hk : ∀ (y2 : Int32) (h : AH), k y2 h → V p l e s m args below meth c g 3 0 0 4 0 0 (MQ below (QCx g (QV Q)) args s 0 0 (gA g)) 15 [(0, .ref v0), (1, .int v1), (2, .int y2)] [] h) : ∀ (v2 : Int32) (h : AH), w_X10_solve_15  x48 k v0 v1 v2 h Q → V p l e s m args below meth c g 3 0 0 4 0 0 (MQ below (QCx g (QV Q)) args s 0 0 (gA g)) 15 [(0, .ref v0), (1, .int v1), (2, .int v2)] [] h := by
  intro v2 h hw
  refine v_iload_n C dX10_solve_15 2 rfl rfl ?_
  refine v_aload_n C dX10_solve_16 0 rfl rfl ?_
  refine w_getI C fl_X10_33 dX10_solve_17 rfl hw (fun x1 hw => ?_)
  refine v_icmp_ge (tgt := 48) C dX10_solve_20 (by decide) (fun c_20 => ?_) (fun c_20 => ?_)
  · have hw := hw.1 c_20
    refine v_sub [0, 1] rfl ?_
    exact hx48  _ hw
  · have hw := hw.2 c_20
    refine v_aload_n C dX10_solve_23 0 rfl rfl ?_
    refine w_getN C fl_X10_24 dX10_solve_24 rfl hw (fun a2 hw => ?_)
    refine v_iconst (v := 1) C dX10_solve_27 (by decide) ?_
    refine v_iload_n C dX10_solve_28 2 rfl rfl ?_
    refine v_ishl C dX10_solve_29 ?_
    refine v_bipush (v := 8) C dX10_solve_30 (by decide) ?_
    refine v_imul C dX10_solve_32 ?_
    refine v_iload_n C dX10_solve_33 2 rfl rfl ?_
    refine v_iadd C dX10_solve_34 ?_
    refine v_aload_n C dX10_solve_35 0 rfl rfl ?_
    refine w_getN C fl_X10_15 dX10_solve_36 rfl hw (fun a3 hw => ?_)
    refine v_iload_n C dX10_solve_39 2 rfl rfl ?_
    refine w_iaload C dX10_solve_40 hw (fun x4 hw => ?_)
    refine w_iastore C dX10_solve_41 hw (fun h hw => ?_)
    refine v_iinc (v := 1) (ls' := [(2, .int (v2 + 1)), (0, .ref v0), (1, .int v1)]) C dX10_solve_42 2 rfl (by decide) (by decide) rfl ?_
    refine v_goto (tgt := 15) C dX10_solve_45 (by decide) ?_
    refine v_sub [1, 2, 0] rfl ?_
    exact hk _ _ hw
set_option maxRecDepth 100000 in
set_option maxHeartbeats 4000000 in
theorem s_X10_solve {l : Launch}  {v0 : Nat} {h : AH} {Q : AH → Prop}  (hw : w_X10_solve  v0 h Q) : CT l yX10_solve cX10_solve 4 none 3 0 0 [.ref v0] h (QV Q) := by
  refine CT.of (by decide) ⟨rfl, trivial⟩ (Nat.le_of_ble_eq_true rfl) ?_
  intro p e s m args below meth c g C hr hin
  refine v_eq (pc' := 0) (ls' := [(0, .ref v0)]) rfl rfl rfl rfl ?_
  refine v_iconst (v := 1) C dX10_solve_0 (by decide) ?_
  refine v_aload_n C dX10_solve_1 0 rfl rfl ?_
  refine w_getI C fl_X10_33 dX10_solve_2 rfl hw (fun x1 hw => ?_)
  refine v_ishl C dX10_solve_5 ?_
  refine v_iconst (v := 1) C dX10_solve_6 (by decide) ?_
  refine v_isub C dX10_solve_7 ?_
  refine w_bd hw (fun x2 hw => ?_)
  refine v_istore_n (ls' := [(1, .int x2), (0, .ref v0)]) C dX10_solve_8 rfl (by decide) rfl ?_
  refine v_aload_n C dX10_solve_9 1 rfl rfl ?_
  refine w_callVv (st := []) C cl_X10_50 im_X10_clearBest se_X10_clearBest rfl hw.1 (s_X10_clearBest hw.2) rfl dX10_solve_10 rfl (by decide) (by decide) (by decide) (by decide) (by decide) (fun h hw => ?_)
  refine v_iconst (v := 0) C dX10_solve_13 (by decide) ?_
  refine v_istore_n (ls' := [(2, .int (0 : Int32)), (1, .int x2), (0, .ref v0)]) C dX10_solve_14 rfl (by decide) rfl ?_
  refine v_sub [2, 1, 0] rfl ?_
  refine lp_walk (P := fun (s' : Int32 × AH) => V p l e s m args below meth c g 3 0 0 4 0 0 (MQ below (QCx g (QV Q)) args s 0 0 (gA g)) 15 [(0, .ref v0), (1, .int x2), (2, .int (s'.1))] [] s'.2) (fun k2 hk2 s' hw => ?_) ((0 : Int32), h) hw
  exact s_X10_solve_15 C hr (fun  h hw => s_X10_solve_48 C hr  _ _ h hw) (fun y2 h hw => hk2 (y2, h) hw) _ _ hw
