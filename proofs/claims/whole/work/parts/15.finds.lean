theorem iw_X1 : ∀ w ∈ u_ws RX1 TX1 10, w ∈ lw_tbl := (show ∀ w ∈ ([Cond.lays "GrassField$Finds" "GrassField$Finds" "size" "I", Cond.laysFinal "GrassField$Finds" "GrassField$Finds" "kind" "[I", Cond.laysFinal "GrassField$Finds" "GrassField$Finds" "cell" "[I", Cond.laysFinal "GrassField$Finds" "GrassField$Finds" "depth" "[I", Cond.laysFinal "GrassField$Finds" "GrassField$Finds" "value" "[I", Cond.laysFinal "GrassField$Finds" "GrassField$Finds" "from" "[I", Cond.laysFinal "GrassField$Finds" "GrassField$Finds" "till" "[I", Cond.lays "GrassField$Finds" "GrassField$Finds" "reach" "I", Cond.lays "GrassField$Finds" "GrassField$Finds" "wide" "I", Cond.lays "GrassField$Finds" "GrassField$Finds" "walked" "I"] : List Cond), w ∈ lw_tbl from List.forall_mem_cons.mpr ⟨(tb1 (List.mem_of_getElem? (i := 201) rfl)), List.forall_mem_cons.mpr ⟨(tb1 (List.mem_of_getElem? (i := 203) rfl)), List.forall_mem_cons.mpr ⟨(tb1 (List.mem_of_getElem? (i := 205) rfl)), List.forall_mem_cons.mpr ⟨(tb1 (List.mem_of_getElem? (i := 207) rfl)), List.forall_mem_cons.mpr ⟨(tb1 (List.mem_of_getElem? (i := 209) rfl)), List.forall_mem_cons.mpr ⟨(tb1 (List.mem_of_getElem? (i := 211) rfl)), List.forall_mem_cons.mpr ⟨(tb1 (List.mem_of_getElem? (i := 213) rfl)), List.forall_mem_cons.mpr ⟨(tb1 (List.mem_of_getElem? (i := 215) rfl)), List.forall_mem_cons.mpr ⟨(tb1 (List.mem_of_getElem? (i := 217) rfl)), List.forall_mem_cons.mpr ⟨(tb1 (List.mem_of_getElem? (i := 219) rfl)), fun _ h => nomatch h⟩⟩⟩⟩⟩⟩⟩⟩⟩⟩)
theorem fl_X1_9 : FLk RX1 9 1 1 (RX1, TX1, 10) := ⟨rfl, by decide, iw_X1, Or.inl (tb1 (List.mem_of_getElem? (i := 175) rfl))⟩
theorem fp_X1_9 : FPk RX1 9 1 1 (RX1, TX1, 10) tyX1 2 := ⟨fl_X1_9, nmX1, tyX1_ok, Or.inr (Or.inr ⟨rfl, Or.inr ⟨_, rfl⟩, rfl⟩)⟩
theorem fl_X1_15 : FLk RX1 15 1 2 (RX1, TX1, 10) := ⟨rfl, by decide, iw_X1, Or.inl (tb1 (List.mem_of_getElem? (i := 179) rfl))⟩
theorem fp_X1_15 : FPk RX1 15 1 2 (RX1, TX1, 10) tyX1 2 := ⟨fl_X1_15, nmX1, tyX1_ok, Or.inr (Or.inr ⟨rfl, Or.inr ⟨_, rfl⟩, rfl⟩)⟩
theorem fl_X1_18 : FLk RX1 18 1 3 (RX1, TX1, 10) := ⟨rfl, by decide, iw_X1, Or.inl (tb1 (List.mem_of_getElem? (i := 183) rfl))⟩
theorem fp_X1_18 : FPk RX1 18 1 3 (RX1, TX1, 10) tyX1 2 := ⟨fl_X1_18, nmX1, tyX1_ok, Or.inr (Or.inr ⟨rfl, Or.inr ⟨_, rfl⟩, rfl⟩)⟩
theorem fl_X1_21 : FLk RX1 21 1 4 (RX1, TX1, 10) := ⟨rfl, by decide, iw_X1, Or.inl (tb1 (List.mem_of_getElem? (i := 185) rfl))⟩
theorem fp_X1_21 : FPk RX1 21 1 4 (RX1, TX1, 10) tyX1 2 := ⟨fl_X1_21, nmX1, tyX1_ok, Or.inr (Or.inr ⟨rfl, Or.inr ⟨_, rfl⟩, rfl⟩)⟩
theorem fl_X1_24 : FLk RX1 24 1 5 (RX1, TX1, 10) := ⟨rfl, by decide, iw_X1, Or.inl (tb1 (List.mem_of_getElem? (i := 189) rfl))⟩
theorem fp_X1_24 : FPk RX1 24 1 5 (RX1, TX1, 10) tyX1 2 := ⟨fl_X1_24, nmX1, tyX1_ok, Or.inr (Or.inr ⟨rfl, Or.inr ⟨_, rfl⟩, rfl⟩)⟩
theorem fl_X1_27 : FLk RX1 27 1 6 (RX1, TX1, 10) := ⟨rfl, by decide, iw_X1, Or.inl (tb1 (List.mem_of_getElem? (i := 192) rfl))⟩
theorem fp_X1_27 : FPk RX1 27 1 6 (RX1, TX1, 10) tyX1 2 := ⟨fl_X1_27, nmX1, tyX1_ok, Or.inr (Or.inr ⟨rfl, Or.inr ⟨_, rfl⟩, rfl⟩)⟩
theorem fl_X1_30 : FLk RX1 30 1 7 (RX1, TX1, 10) := ⟨rfl, by decide, iw_X1, Or.inl (tb1 (List.mem_of_getElem? (i := 195) rfl))⟩
theorem fp_X1_30 : FPk RX1 30 1 7 (RX1, TX1, 10) tyX1 0 := ⟨fl_X1_30, nmX1, tyX1_ok, Or.inl ⟨rfl, rfl, rfl⟩⟩
theorem fl_X1_34 : FLk RX1 34 1 0 (RX1, TX1, 10) := ⟨rfl, by decide, iw_X1, Or.inl (tb1 (List.mem_of_getElem? (i := 172) rfl))⟩
theorem fp_X1_34 : FPk RX1 34 1 0 (RX1, TX1, 10) tyX1 0 := ⟨fl_X1_34, nmX1, tyX1_ok, Or.inl ⟨rfl, rfl, rfl⟩⟩
theorem ac_X1_64 : Cond.methodLink RX1 64 arraycopyName ∈ lw_tbl := (tb3 (List.mem_of_getElem? (i := 59) rfl))
theorem fl_X1_44 : FLk RX1 44 1 8 (RX1, TX1, 10) := ⟨rfl, by decide, iw_X1, Or.inl (tb1 (List.mem_of_getElem? (i := 197) rfl))⟩
theorem fp_X1_44 : FPk RX1 44 1 8 (RX1, TX1, 10) tyX1 0 := ⟨fl_X1_44, nmX1, tyX1_ok, Or.inl ⟨rfl, rfl, rfl⟩⟩
theorem fl_X1_37 : FLk RX1 37 1 9 (RX1, TX1, 10) := ⟨rfl, by decide, iw_X1, Or.inl (tb1 (List.mem_of_getElem? (i := 199) rfl))⟩
theorem fp_X1_37 : FPk RX1 37 1 9 (RX1, TX1, 10) tyX1 0 := ⟨fl_X1_37, nmX1, tyX1_ok, Or.inl ⟨rfl, rfl, rfl⟩⟩
theorem ct_X1_47 : Cond.constant RX1 47 (65535) ∈ lw_tbl := (tb2 (List.mem_of_getElem? (i := 197) rfl))
theorem cl_X1_40 : CLk RX1 40 yX1_rowsNear cX1_rowsNear 4 (some .int) 1 := ⟨Or.inl (tb2 (List.mem_of_getElem? (i := 193) rfl)), (tb2 (List.mem_of_getElem? (i := 196) rfl)), (tb1 (List.mem_of_getElem? (i := 7) rfl)), by decide +kernel, by decide +kernel, by decide +kernel⟩
theorem im_X1_rowsNear : Cond.instanceMethod yX1_rowsNear ∈ lw_tbl := (tb2 (List.mem_of_getElem? (i := 195) rfl))
theorem se_X1_rowsNear : Cond.selects RX1 yX1_rowsNear yX1_rowsNear ∈ lw_tbl := (tbp1 0 rfl)
theorem cl_X1_48 : CLk RX1 48 yX3_row cX3_row 1 (some .int) 1 := ⟨Or.inl (tb2 (List.mem_of_getElem? (i := 206) rfl)), (tb2 (List.mem_of_getElem? (i := 208) rfl)), (tb1 (List.mem_of_getElem? (i := 4) rfl)), by decide +kernel, by decide +kernel, by decide +kernel⟩
theorem cl_X1_60 : CLk RX1 60 yX1_isSeen cX1_isSeen 3 (some .boolean) 2 := ⟨Or.inl (tb2 (List.mem_of_getElem? (i := 202) rfl)), (tb2 (List.mem_of_getElem? (i := 205) rfl)), (tb1 (List.mem_of_getElem? (i := 7) rfl)), by decide +kernel, by decide +kernel, by decide +kernel⟩
theorem im_X1_isSeen : Cond.instanceMethod yX1_isSeen ∈ lw_tbl := (tb2 (List.mem_of_getElem? (i := 203) rfl))
theorem se_X1_isSeen : Cond.selects RX1 yX1_isSeen yX1_isSeen ∈ lw_tbl := (tb2 (List.mem_of_getElem? (i := 204) rfl))
theorem cl_X1_57 : CLk RX1 57 yX1_seenIn cX1_seenIn 4 (some .int) 1 := ⟨Or.inl (tb2 (List.mem_of_getElem? (i := 198) rfl)), (tb2 (List.mem_of_getElem? (i := 201) rfl)), (tb1 (List.mem_of_getElem? (i := 7) rfl)), by decide +kernel, by decide +kernel, by decide +kernel⟩
theorem im_X1_seenIn : Cond.instanceMethod yX1_seenIn ∈ lw_tbl := (tb2 (List.mem_of_getElem? (i := 200) rfl))
theorem se_X1_seenIn : Cond.selects RX1 yX1_seenIn yX1_seenIn ∈ lw_tbl := (tbp1 1 rfl)
theorem cl_X1_53 : CLk RX1 53 yX1_nearRows cX1_nearRows 1 (some .int) 0 := ⟨Or.inl (tb2 (List.mem_of_getElem? (i := 189) rfl)), (tb2 (List.mem_of_getElem? (i := 192) rfl)), (tb1 (List.mem_of_getElem? (i := 7) rfl)), by decide +kernel, by decide +kernel, by decide +kernel⟩
theorem im_X1_nearRows : Cond.instanceMethod yX1_nearRows ∈ lw_tbl := (tb2 (List.mem_of_getElem? (i := 190) rfl))
theorem se_X1_nearRows : Cond.selects RX1 yX1_nearRows yX1_nearRows ∈ lw_tbl := (tb2 (List.mem_of_getElem? (i := 191) rfl))
-- GrassField$Finds.<init>()V
theorem dX1_init_0 : decode cX1_init 0 = .ok (.aload_n 0, 1) := by decide +kernel
theorem dX1_init_1 : decode cX1_init 1 = .ok (.invokespecial 3, 3) := by decide +kernel
theorem dX1_init_4 : decode cX1_init 4 = .ok (.aload_n 0, 1) := by decide +kernel
theorem dX1_init_5 : decode cX1_init 5 = .ok (.bipush 120, 2) := by decide +kernel
theorem dX1_init_7 : decode cX1_init 7 = .ok (.newarray .int, 2) := by decide +kernel
theorem dX1_init_9 : decode cX1_init 9 = .ok (.putfield 9, 3) := by decide +kernel
theorem dX1_init_12 : decode cX1_init 12 = .ok (.aload_n 0, 1) := by decide +kernel
theorem dX1_init_13 : decode cX1_init 13 = .ok (.bipush 120, 2) := by decide +kernel
theorem dX1_init_15 : decode cX1_init 15 = .ok (.newarray .int, 2) := by decide +kernel
theorem dX1_init_17 : decode cX1_init 17 = .ok (.putfield 15, 3) := by decide +kernel
theorem dX1_init_20 : decode cX1_init 20 = .ok (.aload_n 0, 1) := by decide +kernel
theorem dX1_init_21 : decode cX1_init 21 = .ok (.bipush 120, 2) := by decide +kernel
theorem dX1_init_23 : decode cX1_init 23 = .ok (.newarray .int, 2) := by decide +kernel
theorem dX1_init_25 : decode cX1_init 25 = .ok (.putfield 18, 3) := by decide +kernel
theorem dX1_init_28 : decode cX1_init 28 = .ok (.aload_n 0, 1) := by decide +kernel
theorem dX1_init_29 : decode cX1_init 29 = .ok (.bipush 120, 2) := by decide +kernel
theorem dX1_init_31 : decode cX1_init 31 = .ok (.newarray .int, 2) := by decide +kernel
theorem dX1_init_33 : decode cX1_init 33 = .ok (.putfield 21, 3) := by decide +kernel
theorem dX1_init_36 : decode cX1_init 36 = .ok (.aload_n 0, 1) := by decide +kernel
theorem dX1_init_37 : decode cX1_init 37 = .ok (.bipush 120, 2) := by decide +kernel
theorem dX1_init_39 : decode cX1_init 39 = .ok (.newarray .int, 2) := by decide +kernel
theorem dX1_init_41 : decode cX1_init 41 = .ok (.putfield 24, 3) := by decide +kernel
theorem dX1_init_44 : decode cX1_init 44 = .ok (.aload_n 0, 1) := by decide +kernel
theorem dX1_init_45 : decode cX1_init 45 = .ok (.bipush 120, 2) := by decide +kernel
theorem dX1_init_47 : decode cX1_init 47 = .ok (.newarray .int, 2) := by decide +kernel
theorem dX1_init_49 : decode cX1_init 49 = .ok (.putfield 27, 3) := by decide +kernel
theorem dX1_init_52 : decode cX1_init 52 = .ok (.aload_n 0, 1) := by decide +kernel
theorem dX1_init_53 : decode cX1_init 53 = .ok (.bipush 9, 2) := by decide +kernel
theorem dX1_init_55 : decode cX1_init 55 = .ok (.putfield 30, 3) := by decide +kernel
theorem dX1_init_58 : decode cX1_init 58 = .ok (.return_, 1) := by decide +kernel
def w_X1_init  (v0 : Nat) (h : AH) (Q : AH → Prop) : Prop :=
  wA h 0 120 fun a1 h =>
  uO h v0 1 1 (some a1) fun h =>
  wA h 0 120 fun a2 h =>
  uO h v0 1 2 (some a2) fun h =>
  wA h 0 120 fun a3 h =>
  uO h v0 1 3 (some a3) fun h =>
  wA h 0 120 fun a4 h =>
  uO h v0 1 4 (some a4) fun h =>
  wA h 0 120 fun a5 h =>
  uO h v0 1 5 (some a5) fun h =>
  wA h 0 120 fun a6 h =>
  uO h v0 1 6 (some a6) fun h =>
  uI h v0 1 7 (9 : Int32) fun h =>
  Q h
set_option maxRecDepth 100000 in
set_option maxHeartbeats 4000000 in
theorem s_X1_init {l : Launch}  {v0 : Nat} {h : AH} {Q : AH → Prop}  (hw : w_X1_init  v0 h Q) : CT l yX1_init cX1_init 1 none 1 6 720 [.ref v0] h (QV Q) := by
  refine CT.of (by decide) ⟨rfl, trivial⟩ (Nat.le_of_ble_eq_true rfl) ?_
  intro p e s m args below meth c g C hr hin
  refine v_eq (pc' := 0) (ls' := [(0, .ref v0)]) rfl rfl rfl rfl ?_
  refine v_aload_n C dX1_init_0 0 rfl rfl ?_
  refine v_objInit C (tb1 (List.mem_of_getElem? (i := 171) rfl)) (tb1 (List.mem_of_getElem? (i := 36) rfl)) (tb1 (List.mem_of_getElem? (i := 37) rfl)) dX1_init_1 (by decide) (by decide) ?_
  refine v_aload_n C dX1_init_4 0 rfl rfl ?_
  refine v_bipush (v := 120) C dX1_init_5 (by decide) ?_
  refine v_newa (atype := .int) (j := 0) (N := 120) C rfl rfl (by decide) rfl rfl (tb1 (List.mem_of_getElem? (i := 77) rfl)) dX1_init_7 (by decide) (by decide) (by decide) (by decide) (by decide) (fun a1 hn => ?_)
  have hw := hw a1 hn
  generalize nA h a1 0 120 = h at hw ⊢
  refine w_putN C fp_X1_9 (Or.inr ⟨hin, rfl, rfl, (tb1 (List.mem_of_getElem? (i := 175) rfl))⟩) dX1_init_9 hw (fun h hw => ?_)
  refine v_aload_n C dX1_init_12 0 rfl rfl ?_
  refine v_bipush (v := 120) C dX1_init_13 (by decide) ?_
  refine v_newa (atype := .int) (j := 0) (N := 120) C rfl rfl (by decide) rfl rfl (tb1 (List.mem_of_getElem? (i := 77) rfl)) dX1_init_15 (by decide) (by decide) (by decide) (by decide) (by decide) (fun a2 hn => ?_)
  have hw := hw a2 hn
  generalize nA h a2 0 120 = h at hw ⊢
  refine w_putN C fp_X1_15 (Or.inr ⟨hin, rfl, rfl, (tb1 (List.mem_of_getElem? (i := 179) rfl))⟩) dX1_init_17 hw (fun h hw => ?_)
  refine v_aload_n C dX1_init_20 0 rfl rfl ?_
  refine v_bipush (v := 120) C dX1_init_21 (by decide) ?_
  refine v_newa (atype := .int) (j := 0) (N := 120) C rfl rfl (by decide) rfl rfl (tb1 (List.mem_of_getElem? (i := 77) rfl)) dX1_init_23 (by decide) (by decide) (by decide) (by decide) (by decide) (fun a3 hn => ?_)
  have hw := hw a3 hn
  generalize nA h a3 0 120 = h at hw ⊢
  refine w_putN C fp_X1_18 (Or.inr ⟨hin, rfl, rfl, (tb1 (List.mem_of_getElem? (i := 183) rfl))⟩) dX1_init_25 hw (fun h hw => ?_)
  refine v_aload_n C dX1_init_28 0 rfl rfl ?_
  refine v_bipush (v := 120) C dX1_init_29 (by decide) ?_
  refine v_newa (atype := .int) (j := 0) (N := 120) C rfl rfl (by decide) rfl rfl (tb1 (List.mem_of_getElem? (i := 77) rfl)) dX1_init_31 (by decide) (by decide) (by decide) (by decide) (by decide) (fun a4 hn => ?_)
  have hw := hw a4 hn
  generalize nA h a4 0 120 = h at hw ⊢
  refine w_putN C fp_X1_21 (Or.inr ⟨hin, rfl, rfl, (tb1 (List.mem_of_getElem? (i := 185) rfl))⟩) dX1_init_33 hw (fun h hw => ?_)
  refine v_aload_n C dX1_init_36 0 rfl rfl ?_
  refine v_bipush (v := 120) C dX1_init_37 (by decide) ?_
  refine v_newa (atype := .int) (j := 0) (N := 120) C rfl rfl (by decide) rfl rfl (tb1 (List.mem_of_getElem? (i := 77) rfl)) dX1_init_39 (by decide) (by decide) (by decide) (by decide) (by decide) (fun a5 hn => ?_)
  have hw := hw a5 hn
  generalize nA h a5 0 120 = h at hw ⊢
  refine w_putN C fp_X1_24 (Or.inr ⟨hin, rfl, rfl, (tb1 (List.mem_of_getElem? (i := 189) rfl))⟩) dX1_init_41 hw (fun h hw => ?_)
  refine v_aload_n C dX1_init_44 0 rfl rfl ?_
  refine v_bipush (v := 120) C dX1_init_45 (by decide) ?_
  refine v_newa (atype := .int) (j := 0) (N := 120) C rfl rfl (by decide) rfl rfl (tb1 (List.mem_of_getElem? (i := 77) rfl)) dX1_init_47 (by decide) (by decide) (by decide) (by decide) (by decide) (fun a6 hn => ?_)
  have hw := hw a6 hn
  generalize nA h a6 0 120 = h at hw ⊢
  refine w_putN C fp_X1_27 (Or.inr ⟨hin, rfl, rfl, (tb1 (List.mem_of_getElem? (i := 192) rfl))⟩) dX1_init_49 hw (fun h hw => ?_)
  refine v_aload_n C dX1_init_52 0 rfl rfl ?_
  refine v_bipush (v := 9) C dX1_init_53 (by decide) ?_
  refine w_putI C fp_X1_30 (Or.inl rfl) dX1_init_55 hw (fun h hw => ?_)
  exact (rt_MQ C _).2.2.1 _ _ _ _ _ hr dX1_init_58 (by decide) (by decide) ⟨rfl, hw⟩
-- GrassField$Finds.add(IIII)I
theorem dX1_add_0 : decode cX1_add 0 = .ok (.aload_n 0, 1) := by decide +kernel
theorem dX1_add_1 : decode cX1_add 1 = .ok (.getfield 34, 3) := by decide +kernel
theorem dX1_add_4 : decode cX1_add 4 = .ok (.bipush 120, 2) := by decide +kernel
theorem dX1_add_6 : decode cX1_add 6 = .ok (.if_icmp .lt 5, 3) := by decide +kernel
theorem dX1_add_9 : decode cX1_add 9 = .ok (.iconst (-1), 1) := by decide +kernel
theorem dX1_add_10 : decode cX1_add 10 = .ok (.ireturn, 1) := by decide +kernel
theorem dX1_add_11 : decode cX1_add 11 = .ok (.aload_n 0, 1) := by decide +kernel
theorem dX1_add_12 : decode cX1_add 12 = .ok (.getfield 9, 3) := by decide +kernel
theorem dX1_add_15 : decode cX1_add 15 = .ok (.aload_n 0, 1) := by decide +kernel
theorem dX1_add_16 : decode cX1_add 16 = .ok (.getfield 34, 3) := by decide +kernel
theorem dX1_add_19 : decode cX1_add 19 = .ok (.iload_n 1, 1) := by decide +kernel
theorem dX1_add_20 : decode cX1_add 20 = .ok (.iastore, 1) := by decide +kernel
theorem dX1_add_21 : decode cX1_add 21 = .ok (.aload_n 0, 1) := by decide +kernel
theorem dX1_add_22 : decode cX1_add 22 = .ok (.getfield 15, 3) := by decide +kernel
theorem dX1_add_25 : decode cX1_add 25 = .ok (.aload_n 0, 1) := by decide +kernel
theorem dX1_add_26 : decode cX1_add 26 = .ok (.getfield 34, 3) := by decide +kernel
theorem dX1_add_29 : decode cX1_add 29 = .ok (.iload_n 2, 1) := by decide +kernel
theorem dX1_add_30 : decode cX1_add 30 = .ok (.iastore, 1) := by decide +kernel
theorem dX1_add_31 : decode cX1_add 31 = .ok (.aload_n 0, 1) := by decide +kernel
theorem dX1_add_32 : decode cX1_add 32 = .ok (.getfield 18, 3) := by decide +kernel
theorem dX1_add_35 : decode cX1_add 35 = .ok (.aload_n 0, 1) := by decide +kernel
theorem dX1_add_36 : decode cX1_add 36 = .ok (.getfield 34, 3) := by decide +kernel
theorem dX1_add_39 : decode cX1_add 39 = .ok (.iload_n 3, 1) := by decide +kernel
theorem dX1_add_40 : decode cX1_add 40 = .ok (.iastore, 1) := by decide +kernel
theorem dX1_add_41 : decode cX1_add 41 = .ok (.aload_n 0, 1) := by decide +kernel
theorem dX1_add_42 : decode cX1_add 42 = .ok (.getfield 21, 3) := by decide +kernel
theorem dX1_add_45 : decode cX1_add 45 = .ok (.aload_n 0, 1) := by decide +kernel
theorem dX1_add_46 : decode cX1_add 46 = .ok (.getfield 34, 3) := by decide +kernel
theorem dX1_add_49 : decode cX1_add 49 = .ok (.iload 4, 2) := by decide +kernel
theorem dX1_add_51 : decode cX1_add 51 = .ok (.iastore, 1) := by decide +kernel
theorem dX1_add_52 : decode cX1_add 52 = .ok (.aload_n 0, 1) := by decide +kernel
theorem dX1_add_53 : decode cX1_add 53 = .ok (.getfield 24, 3) := by decide +kernel
theorem dX1_add_56 : decode cX1_add 56 = .ok (.aload_n 0, 1) := by decide +kernel
theorem dX1_add_57 : decode cX1_add 57 = .ok (.getfield 34, 3) := by decide +kernel
theorem dX1_add_60 : decode cX1_add 60 = .ok (.iconst 0, 1) := by decide +kernel
theorem dX1_add_61 : decode cX1_add 61 = .ok (.iastore, 1) := by decide +kernel
theorem dX1_add_62 : decode cX1_add 62 = .ok (.aload_n 0, 1) := by decide +kernel
theorem dX1_add_63 : decode cX1_add 63 = .ok (.getfield 27, 3) := by decide +kernel
theorem dX1_add_66 : decode cX1_add 66 = .ok (.aload_n 0, 1) := by decide +kernel
theorem dX1_add_67 : decode cX1_add 67 = .ok (.getfield 34, 3) := by decide +kernel
theorem dX1_add_70 : decode cX1_add 70 = .ok (.sipush 239, 3) := by decide +kernel
theorem dX1_add_73 : decode cX1_add 73 = .ok (.iastore, 1) := by decide +kernel
theorem dX1_add_74 : decode cX1_add 74 = .ok (.aload_n 0, 1) := by decide +kernel
theorem dX1_add_75 : decode cX1_add 75 = .ok (.dup, 1) := by decide +kernel
theorem dX1_add_76 : decode cX1_add 76 = .ok (.getfield 34, 3) := by decide +kernel
theorem dX1_add_79 : decode cX1_add 79 = .ok (.iconst 1, 1) := by decide +kernel
theorem dX1_add_80 : decode cX1_add 80 = .ok (.iadd, 1) := by decide +kernel
theorem dX1_add_81 : decode cX1_add 81 = .ok (.putfield 34, 3) := by decide +kernel
theorem dX1_add_84 : decode cX1_add 84 = .ok (.aload_n 0, 1) := by decide +kernel
theorem dX1_add_85 : decode cX1_add 85 = .ok (.getfield 34, 3) := by decide +kernel
theorem dX1_add_88 : decode cX1_add 88 = .ok (.iconst 1, 1) := by decide +kernel
theorem dX1_add_89 : decode cX1_add 89 = .ok (.isub, 1) := by decide +kernel
theorem dX1_add_90 : decode cX1_add 90 = .ok (.ireturn, 1) := by decide +kernel
def w_X1_add  (v0 : Nat) (v1 : Int32) (v2 : Int32) (v3 : Int32) (v4 : Int32) (h : AH) (Q : Int32 → AH → Prop) : Prop :=
  fI h v0 1 0 fun x1 =>
  br (x1 < (120 : Int32)) (
    fN h v0 1 1 fun a2 =>
    fI h v0 1 0 fun x3 =>
    tI h a2 x3 v1 fun h =>
    fN h v0 1 2 fun a4 =>
    fI h v0 1 0 fun x5 =>
    tI h a4 x5 v2 fun h =>
    fN h v0 1 3 fun a6 =>
    fI h v0 1 0 fun x7 =>
    tI h a6 x7 v3 fun h =>
    fN h v0 1 4 fun a8 =>
    fI h v0 1 0 fun x9 =>
    tI h a8 x9 v4 fun h =>
    fN h v0 1 5 fun a10 =>
    fI h v0 1 0 fun x11 =>
    tI h a10 x11 (0 : Int32) fun h =>
    fN h v0 1 6 fun a12 =>
    fI h v0 1 0 fun x13 =>
    tI h a12 x13 (239 : Int32) fun h =>
    fI h v0 1 0 fun x14 =>
    uI h v0 1 0 (x14 + (1 : Int32)) fun h =>
    fI h v0 1 0 fun x15 =>
    Q (x15 - (1 : Int32)) h) (
    Q (-1 : Int32) h)
set_option maxRecDepth 100000 in
set_option maxHeartbeats 4000000 in
theorem s_X1_add {l : Launch}  {v0 : Nat} {v1 : Int32} {v2 : Int32} {v3 : Int32} {v4 : Int32} {h : AH} {Q : Int32 → AH → Prop}  (hw : w_X1_add  v0 v1 v2 v3 v4 h Q) : CT l yX1_add cX1_add 5 (some .int) 0 0 0 [.ref v0, .int v1, .int v2, .int v3, .int v4] h (QI Q) := by
  refine CT.of (by decide) ⟨rfl, ⟨rfl, ⟨rfl, ⟨rfl, ⟨rfl, trivial⟩⟩⟩⟩⟩ (Nat.le_of_ble_eq_true rfl) ?_
  intro p e s m args below meth c g C hr hin
  refine v_eq (pc' := 0) (ls' := [(0, .ref v0), (1, .int v1), (2, .int v2), (3, .int v3), (4, .int v4)]) rfl rfl rfl rfl ?_
  refine v_aload_n C dX1_add_0 0 rfl rfl ?_
  refine w_getI C fl_X1_34 dX1_add_1 rfl hw (fun x1 hw => ?_)
  refine v_bipush (v := 120) C dX1_add_4 (by decide) ?_
  refine v_icmp_lt (tgt := 11) C dX1_add_6 (by decide) (fun c_6 => ?_) (fun c_6 => ?_)
  · have hw := hw.1 c_6
    refine v_aload_n C dX1_add_11 0 rfl rfl ?_
    refine w_getN C fl_X1_9 dX1_add_12 rfl hw (fun a2 hw => ?_)
    refine v_aload_n C dX1_add_15 0 rfl rfl ?_
    refine w_getI C fl_X1_34 dX1_add_16 rfl hw (fun x3 hw => ?_)
    refine v_iload_n C dX1_add_19 1 rfl rfl ?_
    refine w_iastore C dX1_add_20 hw (fun h hw => ?_)
    refine v_aload_n C dX1_add_21 0 rfl rfl ?_
    refine w_getN C fl_X1_15 dX1_add_22 rfl hw (fun a4 hw => ?_)
    refine v_aload_n C dX1_add_25 0 rfl rfl ?_
    refine w_getI C fl_X1_34 dX1_add_26 rfl hw (fun x5 hw => ?_)
    refine v_iload_n C dX1_add_29 2 rfl rfl ?_
    refine w_iastore C dX1_add_30 hw (fun h hw => ?_)
    refine v_aload_n C dX1_add_31 0 rfl rfl ?_
    refine w_getN C fl_X1_18 dX1_add_32 rfl hw (fun a6 hw => ?_)
    refine v_aload_n C dX1_add_35 0 rfl rfl ?_
    refine w_getI C fl_X1_34 dX1_add_36 rfl hw (fun x7 hw => ?_)
    refine v_iload_n C dX1_add_39 3 rfl rfl ?_
    refine w_iastore C dX1_add_40 hw (fun h hw => ?_)
    refine v_aload_n C dX1_add_41 0 rfl rfl ?_
    refine w_getN C fl_X1_21 dX1_add_42 rfl hw (fun a8 hw => ?_)
    refine v_aload_n C dX1_add_45 0 rfl rfl ?_
    refine w_getI C fl_X1_34 dX1_add_46 rfl hw (fun x9 hw => ?_)
    refine v_iload C dX1_add_49 4 rfl ?_
    refine w_iastore C dX1_add_51 hw (fun h hw => ?_)
    refine v_aload_n C dX1_add_52 0 rfl rfl ?_
    refine w_getN C fl_X1_24 dX1_add_53 rfl hw (fun a10 hw => ?_)
    refine v_aload_n C dX1_add_56 0 rfl rfl ?_
    refine w_getI C fl_X1_34 dX1_add_57 rfl hw (fun x11 hw => ?_)
    refine v_iconst (v := 0) C dX1_add_60 (by decide) ?_
    refine w_iastore C dX1_add_61 hw (fun h hw => ?_)
    refine v_aload_n C dX1_add_62 0 rfl rfl ?_
    refine w_getN C fl_X1_27 dX1_add_63 rfl hw (fun a12 hw => ?_)
    refine v_aload_n C dX1_add_66 0 rfl rfl ?_
    refine w_getI C fl_X1_34 dX1_add_67 rfl hw (fun x13 hw => ?_)
    refine v_sipush (v := 239) C dX1_add_70 (by decide) ?_
    refine w_iastore C dX1_add_73 hw (fun h hw => ?_)
    refine v_aload_n C dX1_add_74 0 rfl rfl ?_
    refine v_dup C dX1_add_75 rfl ?_
    refine w_getI C fl_X1_34 dX1_add_76 rfl hw (fun x14 hw => ?_)
    refine v_iconst (v := 1) C dX1_add_79 (by decide) ?_
    refine v_iadd C dX1_add_80 ?_
    refine w_putI C fp_X1_34 (Or.inl rfl) dX1_add_81 hw (fun h hw => ?_)
    refine v_aload_n C dX1_add_84 0 rfl rfl ?_
    refine w_getI C fl_X1_34 dX1_add_85 rfl hw (fun x15 hw => ?_)
    refine v_iconst (v := 1) C dX1_add_88 (by decide) ?_
    refine v_isub C dX1_add_89 ?_
    exact (rt_MQ C _).1 _ _ _ _ _ _ hr dX1_add_90 (by decide) (by decide) ⟨_, rfl, hw⟩
  · have hw := hw.2 c_6
    refine v_iconst (v := -1) C dX1_add_9 (by decide) ?_
    exact (rt_MQ C _).1 _ _ _ _ _ _ hr dX1_add_10 (by decide) (by decide) ⟨_, rfl, hw⟩
-- GrassField$Finds.become(LGrassField$Finds;)V
theorem dX1_become_0 : decode cX1_become 0 = .ok (.aload_n 0, 1) := by decide +kernel
theorem dX1_become_1 : decode cX1_become 1 = .ok (.aload_n 1, 1) := by decide +kernel
theorem dX1_become_2 : decode cX1_become 2 = .ok (.getfield 34, 3) := by decide +kernel
theorem dX1_become_5 : decode cX1_become 5 = .ok (.putfield 34, 3) := by decide +kernel
theorem dX1_become_8 : decode cX1_become 8 = .ok (.aload_n 1, 1) := by decide +kernel
theorem dX1_become_9 : decode cX1_become 9 = .ok (.getfield 9, 3) := by decide +kernel
theorem dX1_become_12 : decode cX1_become 12 = .ok (.iconst 0, 1) := by decide +kernel
theorem dX1_become_13 : decode cX1_become 13 = .ok (.aload_n 0, 1) := by decide +kernel
theorem dX1_become_14 : decode cX1_become 14 = .ok (.getfield 9, 3) := by decide +kernel
theorem dX1_become_17 : decode cX1_become 17 = .ok (.iconst 0, 1) := by decide +kernel
theorem dX1_become_18 : decode cX1_become 18 = .ok (.bipush 120, 2) := by decide +kernel
theorem dX1_become_20 : decode cX1_become 20 = .ok (.invokestatic 64, 3) := by decide +kernel
theorem dX1_become_23 : decode cX1_become 23 = .ok (.aload_n 1, 1) := by decide +kernel
theorem dX1_become_24 : decode cX1_become 24 = .ok (.getfield 15, 3) := by decide +kernel
theorem dX1_become_27 : decode cX1_become 27 = .ok (.iconst 0, 1) := by decide +kernel
theorem dX1_become_28 : decode cX1_become 28 = .ok (.aload_n 0, 1) := by decide +kernel
theorem dX1_become_29 : decode cX1_become 29 = .ok (.getfield 15, 3) := by decide +kernel
theorem dX1_become_32 : decode cX1_become 32 = .ok (.iconst 0, 1) := by decide +kernel
theorem dX1_become_33 : decode cX1_become 33 = .ok (.bipush 120, 2) := by decide +kernel
theorem dX1_become_35 : decode cX1_become 35 = .ok (.invokestatic 64, 3) := by decide +kernel
theorem dX1_become_38 : decode cX1_become 38 = .ok (.aload_n 1, 1) := by decide +kernel
theorem dX1_become_39 : decode cX1_become 39 = .ok (.getfield 18, 3) := by decide +kernel
theorem dX1_become_42 : decode cX1_become 42 = .ok (.iconst 0, 1) := by decide +kernel
theorem dX1_become_43 : decode cX1_become 43 = .ok (.aload_n 0, 1) := by decide +kernel
theorem dX1_become_44 : decode cX1_become 44 = .ok (.getfield 18, 3) := by decide +kernel
theorem dX1_become_47 : decode cX1_become 47 = .ok (.iconst 0, 1) := by decide +kernel
theorem dX1_become_48 : decode cX1_become 48 = .ok (.bipush 120, 2) := by decide +kernel
theorem dX1_become_50 : decode cX1_become 50 = .ok (.invokestatic 64, 3) := by decide +kernel
theorem dX1_become_53 : decode cX1_become 53 = .ok (.aload_n 1, 1) := by decide +kernel
theorem dX1_become_54 : decode cX1_become 54 = .ok (.getfield 21, 3) := by decide +kernel
theorem dX1_become_57 : decode cX1_become 57 = .ok (.iconst 0, 1) := by decide +kernel
theorem dX1_become_58 : decode cX1_become 58 = .ok (.aload_n 0, 1) := by decide +kernel
theorem dX1_become_59 : decode cX1_become 59 = .ok (.getfield 21, 3) := by decide +kernel
theorem dX1_become_62 : decode cX1_become 62 = .ok (.iconst 0, 1) := by decide +kernel
theorem dX1_become_63 : decode cX1_become 63 = .ok (.bipush 120, 2) := by decide +kernel
theorem dX1_become_65 : decode cX1_become 65 = .ok (.invokestatic 64, 3) := by decide +kernel
theorem dX1_become_68 : decode cX1_become 68 = .ok (.aload_n 1, 1) := by decide +kernel
theorem dX1_become_69 : decode cX1_become 69 = .ok (.getfield 24, 3) := by decide +kernel
theorem dX1_become_72 : decode cX1_become 72 = .ok (.iconst 0, 1) := by decide +kernel
theorem dX1_become_73 : decode cX1_become 73 = .ok (.aload_n 0, 1) := by decide +kernel
theorem dX1_become_74 : decode cX1_become 74 = .ok (.getfield 24, 3) := by decide +kernel
theorem dX1_become_77 : decode cX1_become 77 = .ok (.iconst 0, 1) := by decide +kernel
theorem dX1_become_78 : decode cX1_become 78 = .ok (.bipush 120, 2) := by decide +kernel
theorem dX1_become_80 : decode cX1_become 80 = .ok (.invokestatic 64, 3) := by decide +kernel
theorem dX1_become_83 : decode cX1_become 83 = .ok (.aload_n 1, 1) := by decide +kernel
theorem dX1_become_84 : decode cX1_become 84 = .ok (.getfield 27, 3) := by decide +kernel
theorem dX1_become_87 : decode cX1_become 87 = .ok (.iconst 0, 1) := by decide +kernel
theorem dX1_become_88 : decode cX1_become 88 = .ok (.aload_n 0, 1) := by decide +kernel
theorem dX1_become_89 : decode cX1_become 89 = .ok (.getfield 27, 3) := by decide +kernel
theorem dX1_become_92 : decode cX1_become 92 = .ok (.iconst 0, 1) := by decide +kernel
theorem dX1_become_93 : decode cX1_become 93 = .ok (.bipush 120, 2) := by decide +kernel
theorem dX1_become_95 : decode cX1_become 95 = .ok (.invokestatic 64, 3) := by decide +kernel
theorem dX1_become_98 : decode cX1_become 98 = .ok (.aload_n 0, 1) := by decide +kernel
theorem dX1_become_99 : decode cX1_become 99 = .ok (.aload_n 1, 1) := by decide +kernel
theorem dX1_become_100 : decode cX1_become 100 = .ok (.getfield 30, 3) := by decide +kernel
theorem dX1_become_103 : decode cX1_become 103 = .ok (.putfield 30, 3) := by decide +kernel
theorem dX1_become_106 : decode cX1_become 106 = .ok (.aload_n 0, 1) := by decide +kernel
theorem dX1_become_107 : decode cX1_become 107 = .ok (.aload_n 1, 1) := by decide +kernel
theorem dX1_become_108 : decode cX1_become 108 = .ok (.getfield 44, 3) := by decide +kernel
theorem dX1_become_111 : decode cX1_become 111 = .ok (.putfield 44, 3) := by decide +kernel
theorem dX1_become_114 : decode cX1_become 114 = .ok (.aload_n 0, 1) := by decide +kernel
theorem dX1_become_115 : decode cX1_become 115 = .ok (.aload_n 1, 1) := by decide +kernel
theorem dX1_become_116 : decode cX1_become 116 = .ok (.getfield 37, 3) := by decide +kernel
theorem dX1_become_119 : decode cX1_become 119 = .ok (.putfield 37, 3) := by decide +kernel
theorem dX1_become_122 : decode cX1_become 122 = .ok (.return_, 1) := by decide +kernel
def w_X1_become  (v0 : Nat) (v1 : Nat) (h : AH) (Q : AH → Prop) : Prop :=
  fI h v1 1 0 fun x1 =>
  uI h v0 1 0 x1 fun h =>
  fN h v1 1 1 fun a2 =>
  fN h v0 1 1 fun a3 =>
  cp h a2 (0 : Int32) a3 (0 : Int32) (120 : Int32) fun h =>
  fN h v1 1 2 fun a4 =>
  fN h v0 1 2 fun a5 =>
  cp h a4 (0 : Int32) a5 (0 : Int32) (120 : Int32) fun h =>
  fN h v1 1 3 fun a6 =>
  fN h v0 1 3 fun a7 =>
  cp h a6 (0 : Int32) a7 (0 : Int32) (120 : Int32) fun h =>
  fN h v1 1 4 fun a8 =>
  fN h v0 1 4 fun a9 =>
  cp h a8 (0 : Int32) a9 (0 : Int32) (120 : Int32) fun h =>
  fN h v1 1 5 fun a10 =>
  fN h v0 1 5 fun a11 =>
  cp h a10 (0 : Int32) a11 (0 : Int32) (120 : Int32) fun h =>
  fN h v1 1 6 fun a12 =>
  fN h v0 1 6 fun a13 =>
  cp h a12 (0 : Int32) a13 (0 : Int32) (120 : Int32) fun h =>
  fI h v1 1 7 fun x14 =>
  uI h v0 1 7 x14 fun h =>
  fI h v1 1 8 fun x15 =>
  uI h v0 1 8 x15 fun h =>
  fI h v1 1 9 fun x16 =>
  uI h v0 1 9 x16 fun h =>
  Q h
set_option maxRecDepth 100000 in
set_option maxHeartbeats 4000000 in
theorem s_X1_become {l : Launch}  {v0 : Nat} {v1 : Nat} {h : AH} {Q : AH → Prop}  (hw : w_X1_become  v0 v1 h Q) : CT l yX1_become cX1_become 2 none 1 0 0 [.ref v0, .ref v1] h (QV Q) := by
  refine CT.of (by decide) ⟨rfl, ⟨rfl, trivial⟩⟩ (Nat.le_of_ble_eq_true rfl) ?_
  intro p e s m args below meth c g C hr hin
  refine v_eq (pc' := 0) (ls' := [(0, .ref v0), (1, .ref v1)]) rfl rfl rfl rfl ?_
  refine v_aload_n C dX1_become_0 0 rfl rfl ?_
  refine v_aload_n C dX1_become_1 1 rfl rfl ?_
  refine w_getI C fl_X1_34 dX1_become_2 rfl hw (fun x1 hw => ?_)
  refine w_putI C fp_X1_34 (Or.inl rfl) dX1_become_5 hw (fun h hw => ?_)
  refine v_aload_n C dX1_become_8 1 rfl rfl ?_
  refine w_getN C fl_X1_9 dX1_become_9 rfl hw (fun a2 hw => ?_)
  refine v_iconst (v := 0) C dX1_become_12 (by decide) ?_
  refine v_aload_n C dX1_become_13 0 rfl rfl ?_
  refine w_getN C fl_X1_9 dX1_become_14 rfl hw (fun a3 hw => ?_)
  refine v_iconst (v := 0) C dX1_become_17 (by decide) ?_
  refine v_bipush (v := 120) C dX1_become_18 (by decide) ?_
  refine w_acopy C ac_X1_64 ac_nat ac_st ac_in dX1_become_20 (by decide) (by decide) hw (fun h hw => ?_)
  refine v_aload_n C dX1_become_23 1 rfl rfl ?_
  refine w_getN C fl_X1_15 dX1_become_24 rfl hw (fun a4 hw => ?_)
  refine v_iconst (v := 0) C dX1_become_27 (by decide) ?_
  refine v_aload_n C dX1_become_28 0 rfl rfl ?_
  refine w_getN C fl_X1_15 dX1_become_29 rfl hw (fun a5 hw => ?_)
  refine v_iconst (v := 0) C dX1_become_32 (by decide) ?_
  refine v_bipush (v := 120) C dX1_become_33 (by decide) ?_
  refine w_acopy C ac_X1_64 ac_nat ac_st ac_in dX1_become_35 (by decide) (by decide) hw (fun h hw => ?_)
  refine v_aload_n C dX1_become_38 1 rfl rfl ?_
  refine w_getN C fl_X1_18 dX1_become_39 rfl hw (fun a6 hw => ?_)
  refine v_iconst (v := 0) C dX1_become_42 (by decide) ?_
  refine v_aload_n C dX1_become_43 0 rfl rfl ?_
  refine w_getN C fl_X1_18 dX1_become_44 rfl hw (fun a7 hw => ?_)
  refine v_iconst (v := 0) C dX1_become_47 (by decide) ?_
  refine v_bipush (v := 120) C dX1_become_48 (by decide) ?_
  refine w_acopy C ac_X1_64 ac_nat ac_st ac_in dX1_become_50 (by decide) (by decide) hw (fun h hw => ?_)
  refine v_aload_n C dX1_become_53 1 rfl rfl ?_
  refine w_getN C fl_X1_21 dX1_become_54 rfl hw (fun a8 hw => ?_)
  refine v_iconst (v := 0) C dX1_become_57 (by decide) ?_
  refine v_aload_n C dX1_become_58 0 rfl rfl ?_
  refine w_getN C fl_X1_21 dX1_become_59 rfl hw (fun a9 hw => ?_)
  refine v_iconst (v := 0) C dX1_become_62 (by decide) ?_
  refine v_bipush (v := 120) C dX1_become_63 (by decide) ?_
  refine w_acopy C ac_X1_64 ac_nat ac_st ac_in dX1_become_65 (by decide) (by decide) hw (fun h hw => ?_)
  refine v_aload_n C dX1_become_68 1 rfl rfl ?_
  refine w_getN C fl_X1_24 dX1_become_69 rfl hw (fun a10 hw => ?_)
  refine v_iconst (v := 0) C dX1_become_72 (by decide) ?_
  refine v_aload_n C dX1_become_73 0 rfl rfl ?_
  refine w_getN C fl_X1_24 dX1_become_74 rfl hw (fun a11 hw => ?_)
  refine v_iconst (v := 0) C dX1_become_77 (by decide) ?_
  refine v_bipush (v := 120) C dX1_become_78 (by decide) ?_
  refine w_acopy C ac_X1_64 ac_nat ac_st ac_in dX1_become_80 (by decide) (by decide) hw (fun h hw => ?_)
  refine v_aload_n C dX1_become_83 1 rfl rfl ?_
  refine w_getN C fl_X1_27 dX1_become_84 rfl hw (fun a12 hw => ?_)
  refine v_iconst (v := 0) C dX1_become_87 (by decide) ?_
  refine v_aload_n C dX1_become_88 0 rfl rfl ?_
  refine w_getN C fl_X1_27 dX1_become_89 rfl hw (fun a13 hw => ?_)
  refine v_iconst (v := 0) C dX1_become_92 (by decide) ?_
  refine v_bipush (v := 120) C dX1_become_93 (by decide) ?_
  refine w_acopy C ac_X1_64 ac_nat ac_st ac_in dX1_become_95 (by decide) (by decide) hw (fun h hw => ?_)
  refine v_aload_n C dX1_become_98 0 rfl rfl ?_
  refine v_aload_n C dX1_become_99 1 rfl rfl ?_
  refine w_getI C fl_X1_30 dX1_become_100 rfl hw (fun x14 hw => ?_)
  refine w_putI C fp_X1_30 (Or.inl rfl) dX1_become_103 hw (fun h hw => ?_)
  refine v_aload_n C dX1_become_106 0 rfl rfl ?_
  refine v_aload_n C dX1_become_107 1 rfl rfl ?_
  refine w_getI C fl_X1_44 dX1_become_108 rfl hw (fun x15 hw => ?_)
  refine w_putI C fp_X1_44 (Or.inl rfl) dX1_become_111 hw (fun h hw => ?_)
  refine v_aload_n C dX1_become_114 0 rfl rfl ?_
  refine v_aload_n C dX1_become_115 1 rfl rfl ?_
  refine w_getI C fl_X1_37 dX1_become_116 rfl hw (fun x16 hw => ?_)
  refine w_putI C fp_X1_37 (Or.inl rfl) dX1_become_119 hw (fun h hw => ?_)
  exact (rt_MQ C _).2.2.1 _ _ _ _ _ hr dX1_become_122 (by decide) (by decide) ⟨rfl, hw⟩
-- GrassField$Finds.rowsNear(I)I
theorem dX1_rowsNear_0 : decode cX1_rowsNear 0 = .ok (.iload_n 1, 1) := by decide +kernel
theorem dX1_rowsNear_1 : decode cX1_rowsNear 1 = .ok (.istore_n 2, 1) := by decide +kernel
theorem dX1_rowsNear_2 : decode cX1_rowsNear 2 = .ok (.iconst 1, 1) := by decide +kernel
theorem dX1_rowsNear_3 : decode cX1_rowsNear 3 = .ok (.istore_n 3, 1) := by decide +kernel
theorem dX1_rowsNear_4 : decode cX1_rowsNear 4 = .ok (.iload_n 3, 1) := by decide +kernel
theorem dX1_rowsNear_5 : decode cX1_rowsNear 5 = .ok (.aload_n 0, 1) := by decide +kernel
theorem dX1_rowsNear_6 : decode cX1_rowsNear 6 = .ok (.getfield 44, 3) := by decide +kernel
theorem dX1_rowsNear_9 : decode cX1_rowsNear 9 = .ok (.if_icmp .gt 19, 3) := by decide +kernel
theorem dX1_rowsNear_12 : decode cX1_rowsNear 12 = .ok (.iload_n 2, 1) := by decide +kernel
theorem dX1_rowsNear_13 : decode cX1_rowsNear 13 = .ok (.iload_n 1, 1) := by decide +kernel
theorem dX1_rowsNear_14 : decode cX1_rowsNear 14 = .ok (.iload_n 3, 1) := by decide +kernel
theorem dX1_rowsNear_15 : decode cX1_rowsNear 15 = .ok (.ishl, 1) := by decide +kernel
theorem dX1_rowsNear_16 : decode cX1_rowsNear 16 = .ok (.iload_n 1, 1) := by decide +kernel
theorem dX1_rowsNear_17 : decode cX1_rowsNear 17 = .ok (.iload_n 3, 1) := by decide +kernel
theorem dX1_rowsNear_18 : decode cX1_rowsNear 18 = .ok (.ishr, 1) := by decide +kernel
theorem dX1_rowsNear_19 : decode cX1_rowsNear 19 = .ok (.ior, 1) := by decide +kernel
theorem dX1_rowsNear_20 : decode cX1_rowsNear 20 = .ok (.ior, 1) := by decide +kernel
theorem dX1_rowsNear_21 : decode cX1_rowsNear 21 = .ok (.istore_n 2, 1) := by decide +kernel
theorem dX1_rowsNear_22 : decode cX1_rowsNear 22 = .ok (.iinc 3 1, 3) := by decide +kernel
theorem dX1_rowsNear_25 : decode cX1_rowsNear 25 = .ok (.goto (-21), 3) := by decide +kernel
theorem dX1_rowsNear_28 : decode cX1_rowsNear 28 = .ok (.iload_n 2, 1) := by decide +kernel
theorem dX1_rowsNear_29 : decode cX1_rowsNear 29 = .ok (.ldc 47, 2) := by decide +kernel
theorem dX1_rowsNear_31 : decode cX1_rowsNear 31 = .ok (.iand, 1) := by decide +kernel
theorem dX1_rowsNear_32 : decode cX1_rowsNear 32 = .ok (.ireturn, 1) := by decide +kernel
def w_X1_rowsNear_28  (v2 : Int32) (h : AH) (Q : Int32 → AH → Prop) : Prop :=
  Q (v2 &&& (65535 : Int32)) h
def w_X1_rowsNear_4  (x28 : Int32 → AH → Prop) (k : Int32 → Int32 → AH → Prop) (v0 : Nat) (v1 : Int32) (v2 : Int32) (v3 : Int32) (h : AH) (Q : Int32 → AH → Prop) : Prop :=
  fI h v0 1 8 fun x1 =>
  br (x1 < v3) (
    x28 v2 h) (
    bd (v2 ||| ((v1 <<< (v3 &&& 31)) ||| (v1 >>> (v3 &&& 31)))) fun x2 =>
    k x2 (v3 + 1) h)
def w_X1_rowsNear  (v0 : Nat) (v1 : Int32) (h : AH) (Q : Int32 → AH → Prop) : Prop :=
  lp (fun (k2 : Int32 × Int32 × AH → Prop) (s2 : Int32 × Int32 × AH) => w_X1_rowsNear_4  (fun (y2 : Int32) h => w_X1_rowsNear_28 y2 h Q) (fun (y2 : Int32) (y3 : Int32) h => k2 (y2, y3, h)) v0 v1 s2.1 s2.2.1 s2.2.2 Q) (v1, (1 : Int32), h)
set_option maxRecDepth 100000 in
set_option maxHeartbeats 4000000 in
theorem s_X1_rowsNear_28 {p : Program} {l : Launch} {e : Env} {s : State} {m : MethodId} {args : Array Value} {below : List Frame} {meth : Method} {c : Code} {g : GG}  {Q : Int32 → AH → Prop}  (C : CXT p l s m args meth c RX1 cX1_rowsNear 4 g) (hr : meth.sig.returnType = (some .int))  : ∀ (v2 : Int32) (h : AH), w_X1_rowsNear_28  v2 h Q → V p l e s m args below meth c g 0 0 0 4 0 0 (MQ below (QCx g (QI Q)) args s 0 0 (gA g)) 28 [(2, .int v2)] [] h := by
  intro v2 h hw
  refine v_iload_n C dX1_rowsNear_28 0 rfl rfl ?_
  refine v_ldc C dX1_rowsNear_29 ct_X1_47 ?_
  refine v_iand C dX1_rowsNear_31 ?_
  exact (rt_MQ C _).1 _ _ _ _ _ _ hr dX1_rowsNear_32 (by decide) (by decide) ⟨_, rfl, hw⟩
set_option maxRecDepth 100000 in
set_option maxHeartbeats 4000000 in
theorem s_X1_rowsNear_4 {p : Program} {l : Launch} {e : Env} {s : State} {m : MethodId} {args : Array Value} {below : List Frame} {meth : Method} {c : Code} {g : GG} {v0 : Nat} {v1 : Int32} {Q : Int32 → AH → Prop} {x28 : Int32 → AH → Prop} {k : Int32 → Int32 → AH → Prop} (C : CXT p l s m args meth c RX1 cX1_rowsNear 4 g) (hr : meth.sig.returnType = (some .int)) (hx28 : ∀ (y2 : Int32) (h : AH), x28 y2 h → V p l e s m args below meth c g 0 0 0 4 0 0 (MQ below (QCx g (QI Q)) args s 0 0 (gA g)) 28 [(2, .int y2)] [] h) (hk : ∀ (y2 : Int32) (y3 : Int32) (h : AH), k y2 y3 h → V p l e s m args below meth c g 0 0 0 4 0 0 (MQ below (QCx g (QI Q)) args s 0 0 (gA g)) 4 [(0, .ref v0), (1, .int v1), (2, .int y2), (3, .int y3)] [] h) : ∀ (v2 : Int32) (v3 : Int32) (h : AH), w_X1_rowsNear_4  x28 k v0 v1 v2 v3 h Q → V p l e s m args below meth c g 0 0 0 4 0 0 (MQ below (QCx g (QI Q)) args s 0 0 (gA g)) 4 [(0, .ref v0), (1, .int v1), (2, .int v2), (3, .int v3)] [] h := by
  intro v2 v3 h hw
  refine v_iload_n C dX1_rowsNear_4 3 rfl rfl ?_
  refine v_aload_n C dX1_rowsNear_5 0 rfl rfl ?_
  refine w_getI C fl_X1_44 dX1_rowsNear_6 rfl hw (fun x1 hw => ?_)
  refine v_icmp_gt (tgt := 28) C dX1_rowsNear_9 (by decide) (fun c_9 => ?_) (fun c_9 => ?_)
  · have hw := hw.1 c_9
    refine v_sub [2] rfl ?_
    exact hx28 _ _ hw
  · have hw := hw.2 c_9
    refine v_iload_n C dX1_rowsNear_12 2 rfl rfl ?_
    refine v_iload_n C dX1_rowsNear_13 1 rfl rfl ?_
    refine v_iload_n C dX1_rowsNear_14 3 rfl rfl ?_
    refine v_ishl C dX1_rowsNear_15 ?_
    refine v_iload_n C dX1_rowsNear_16 1 rfl rfl ?_
    refine v_iload_n C dX1_rowsNear_17 3 rfl rfl ?_
    refine v_ishr C dX1_rowsNear_18 ?_
    refine v_ior C dX1_rowsNear_19 ?_
    refine v_ior C dX1_rowsNear_20 ?_
    refine w_bd hw (fun x2 hw => ?_)
    refine v_istore_n (ls' := [(2, .int x2), (0, .ref v0), (1, .int v1), (3, .int v3)]) C dX1_rowsNear_21 rfl (by decide) rfl ?_
    refine v_iinc (v := 1) (ls' := [(3, .int (v3 + 1)), (2, .int x2), (0, .ref v0), (1, .int v1)]) C dX1_rowsNear_22 3 rfl (by decide) (by decide) rfl ?_
    refine v_goto (tgt := 4) C dX1_rowsNear_25 (by decide) ?_
    refine v_sub [2, 3, 1, 0] rfl ?_
    exact hk _ _ _ hw
set_option maxRecDepth 100000 in
set_option maxHeartbeats 4000000 in
theorem s_X1_rowsNear {l : Launch}  {v0 : Nat} {v1 : Int32} {h : AH} {Q : Int32 → AH → Prop}  (hw : w_X1_rowsNear  v0 v1 h Q) : CT l yX1_rowsNear cX1_rowsNear 4 (some .int) 0 0 0 [.ref v0, .int v1] h (QI Q) := by
  refine CT.of (by decide) ⟨rfl, ⟨rfl, trivial⟩⟩ (Nat.le_of_ble_eq_true rfl) ?_
  intro p e s m args below meth c g C hr hin
  refine v_eq (pc' := 0) (ls' := [(0, .ref v0), (1, .int v1)]) rfl rfl rfl rfl ?_
  refine v_iload_n C dX1_rowsNear_0 1 rfl rfl ?_
  refine v_istore_n (ls' := [(2, .int v1), (0, .ref v0), (1, .int v1)]) C dX1_rowsNear_1 rfl (by decide) rfl ?_
  refine v_iconst (v := 1) C dX1_rowsNear_2 (by decide) ?_
  refine v_istore_n (ls' := [(3, .int (1 : Int32)), (2, .int v1), (0, .ref v0), (1, .int v1)]) C dX1_rowsNear_3 rfl (by decide) rfl ?_
  refine v_sub [2, 3, 1, 0] rfl ?_
  refine lp_walk (P := fun (s' : Int32 × Int32 × AH) => V p l e s m args below meth c g 0 0 0 4 0 0 (MQ below (QCx g (QI Q)) args s 0 0 (gA g)) 4 [(0, .ref v0), (1, .int v1), (2, .int (s'.1)), (3, .int (s'.2.1))] [] s'.2.2) (fun k2 hk2 s' hw => ?_) (v1, (1 : Int32), h) hw
  exact s_X1_rowsNear_4 C hr (fun y2 h hw => s_X1_rowsNear_28 C hr  _ h hw) (fun y2 y3 h hw => hk2 (y2, y3, h) hw) _ _ _ hw
-- GrassField$Finds.nearRows()I
theorem dX1_nearRows_0 : decode cX1_nearRows 0 = .ok (.aload_n 0, 1) := by decide +kernel
theorem dX1_nearRows_1 : decode cX1_nearRows 1 = .ok (.aload_n 0, 1) := by decide +kernel
theorem dX1_nearRows_2 : decode cX1_nearRows 2 = .ok (.getfield 37, 3) := by decide +kernel
theorem dX1_nearRows_5 : decode cX1_nearRows 5 = .ok (.invokevirtual 40, 3) := by decide +kernel
theorem dX1_nearRows_8 : decode cX1_nearRows 8 = .ok (.ireturn, 1) := by decide +kernel
def w_X1_nearRows  (v0 : Nat) (h : AH) (Q : Int32 → AH → Prop) : Prop :=
  fI h v0 1 9 fun x1 =>
  vr h v0 1 (
  w_X1_rowsNear v0 x1 h (fun x2 h =>
  Q x2 h))
set_option maxRecDepth 100000 in
set_option maxHeartbeats 4000000 in
theorem s_X1_nearRows {l : Launch}  {v0 : Nat} {h : AH} {Q : Int32 → AH → Prop}  (hw : w_X1_nearRows  v0 h Q) : CT l yX1_nearRows cX1_nearRows 1 (some .int) 1 0 0 [.ref v0] h (QI Q) := by
  refine CT.of (by decide) ⟨rfl, trivial⟩ (Nat.le_of_ble_eq_true rfl) ?_
  intro p e s m args below meth c g C hr hin
  refine v_eq (pc' := 0) (ls' := [(0, .ref v0)]) rfl rfl rfl rfl ?_
  refine v_aload_n C dX1_nearRows_0 0 rfl rfl ?_
  refine v_aload_n C dX1_nearRows_1 0 rfl rfl ?_
  refine w_getI C fl_X1_37 dX1_nearRows_2 rfl hw (fun x1 hw => ?_)
  refine w_callVi (st := []) C cl_X1_40 im_X1_rowsNear se_X1_rowsNear rfl hw.1 (s_X1_rowsNear hw.2) rfl dX1_nearRows_5 rfl (by decide) (by decide) (by decide) (by decide) (by decide) (fun x2 h hw => ?_)
  exact (rt_MQ C _).1 _ _ _ _ _ _ hr dX1_nearRows_8 (by decide) (by decide) ⟨_, rfl, hw⟩
-- GrassField$Finds.isSeen(II)Z
theorem dX1_isSeen_0 : decode cX1_isSeen 0 = .ok (.aload_n 0, 1) := by decide +kernel
theorem dX1_isSeen_1 : decode cX1_isSeen 1 = .ok (.getfield 18, 3) := by decide +kernel
theorem dX1_isSeen_4 : decode cX1_isSeen 4 = .ok (.iload_n 1, 1) := by decide +kernel
theorem dX1_isSeen_5 : decode cX1_isSeen 5 = .ok (.iaload, 1) := by decide +kernel
theorem dX1_isSeen_6 : decode cX1_isSeen 6 = .ok (.aload_n 0, 1) := by decide +kernel
theorem dX1_isSeen_7 : decode cX1_isSeen 7 = .ok (.getfield 30, 3) := by decide +kernel
theorem dX1_isSeen_10 : decode cX1_isSeen 10 = .ok (.if_icmp .gt 24, 3) := by decide +kernel
theorem dX1_isSeen_13 : decode cX1_isSeen 13 = .ok (.iload_n 2, 1) := by decide +kernel
theorem dX1_isSeen_14 : decode cX1_isSeen 14 = .ok (.aload_n 0, 1) := by decide +kernel
theorem dX1_isSeen_15 : decode cX1_isSeen 15 = .ok (.getfield 15, 3) := by decide +kernel
theorem dX1_isSeen_18 : decode cX1_isSeen 18 = .ok (.iload_n 1, 1) := by decide +kernel
theorem dX1_isSeen_19 : decode cX1_isSeen 19 = .ok (.iaload, 1) := by decide +kernel
theorem dX1_isSeen_20 : decode cX1_isSeen 20 = .ok (.invokestatic 48, 3) := by decide +kernel
theorem dX1_isSeen_23 : decode cX1_isSeen 23 = .ok (.ishr, 1) := by decide +kernel
theorem dX1_isSeen_24 : decode cX1_isSeen 24 = .ok (.iconst 1, 1) := by decide +kernel
theorem dX1_isSeen_25 : decode cX1_isSeen 25 = .ok (.iand, 1) := by decide +kernel
theorem dX1_isSeen_26 : decode cX1_isSeen 26 = .ok (.iconst 1, 1) := by decide +kernel
theorem dX1_isSeen_27 : decode cX1_isSeen 27 = .ok (.if_icmp .ne 7, 3) := by decide +kernel
theorem dX1_isSeen_30 : decode cX1_isSeen 30 = .ok (.iconst 1, 1) := by decide +kernel
theorem dX1_isSeen_31 : decode cX1_isSeen 31 = .ok (.goto 4, 3) := by decide +kernel
theorem dX1_isSeen_34 : decode cX1_isSeen 34 = .ok (.iconst 0, 1) := by decide +kernel
theorem dX1_isSeen_35 : decode cX1_isSeen 35 = .ok (.ireturn, 1) := by decide +kernel
def w_X1_isSeen_35  (t0 : Int32) (h : AH) (Q : Int32 → AH → Prop) : Prop :=
  z1 t0 (Q t0 h)
def w_X1_isSeen_34  (h : AH) (Q : Int32 → AH → Prop) : Prop :=
  w_X1_isSeen_35 (0 : Int32) h Q
def w_X1_isSeen  (v0 : Nat) (v1 : Int32) (v2 : Int32) (h : AH) (Q : Int32 → AH → Prop) : Prop :=
  fN h v0 1 3 fun a1 =>
  aI h a1 v1 fun x2 =>
  fI h v0 1 7 fun x3 =>
  br (x3 < x2) (
    w_X1_isSeen_34  h Q) (
    fN h v0 1 2 fun a4 =>
    aI h a4 v1 fun x5 =>
    w_X3_row x5 h (fun x6 h =>
    br (((v2 >>> (x6 &&& 31)) &&& (1 : Int32)) = (1 : Int32)) (
      w_X1_isSeen_35 (1 : Int32) h Q) (
      w_X1_isSeen_34  h Q)))
set_option maxRecDepth 100000 in
set_option maxHeartbeats 4000000 in
theorem s_X1_isSeen_35 {p : Program} {l : Launch} {e : Env} {s : State} {m : MethodId} {args : Array Value} {below : List Frame} {meth : Method} {c : Code} {g : GG}  {Q : Int32 → AH → Prop}  (C : CXT p l s m args meth c RX1 cX1_isSeen 3 g) (hr : meth.sig.returnType = (some .boolean))  : ∀ (t0 : Int32) (h : AH), w_X1_isSeen_35  t0 h Q → V p l e s m args below meth c g 1 0 0 3 0 0 (MQ below (QCx g (QI Q)) args s 0 0 (gA g)) 35 [] [.int t0] h := by
  intro t0 h hw
  exact (rt_MQ C _).2.1 _ _ _ _ _ _ _ hr (by rcases hw.1 with z | z <;> rw [z] <;> rfl) dX1_isSeen_35 (by decide) (by decide) ⟨_, rfl, hw.2⟩
set_option maxRecDepth 100000 in
set_option maxHeartbeats 4000000 in
theorem s_X1_isSeen_34 {p : Program} {l : Launch} {e : Env} {s : State} {m : MethodId} {args : Array Value} {below : List Frame} {meth : Method} {c : Code} {g : GG}  {Q : Int32 → AH → Prop}  (C : CXT p l s m args meth c RX1 cX1_isSeen 3 g) (hr : meth.sig.returnType = (some .boolean))  : ∀  (h : AH), w_X1_isSeen_34  h Q → V p l e s m args below meth c g 1 0 0 3 0 0 (MQ below (QCx g (QI Q)) args s 0 0 (gA g)) 34 [] [] h := by
  intro  h hw
  refine v_iconst (v := 0) C dX1_isSeen_34 (by decide) ?_
  exact s_X1_isSeen_35 C hr  _ _ hw
set_option maxRecDepth 100000 in
set_option maxHeartbeats 4000000 in
theorem s_X1_isSeen {l : Launch}  {v0 : Nat} {v1 : Int32} {v2 : Int32} {h : AH} {Q : Int32 → AH → Prop}  (hw : w_X1_isSeen  v0 v1 v2 h Q) : CT l yX1_isSeen cX1_isSeen 3 (some .boolean) 1 0 0 [.ref v0, .int v1, .int v2] h (QI Q) := by
  refine CT.of (by decide) ⟨rfl, ⟨rfl, ⟨rfl, trivial⟩⟩⟩ (Nat.le_of_ble_eq_true rfl) ?_
  intro p e s m args below meth c g C hr hin
  refine v_eq (pc' := 0) (ls' := [(0, .ref v0), (1, .int v1), (2, .int v2)]) rfl rfl rfl rfl ?_
  refine v_aload_n C dX1_isSeen_0 0 rfl rfl ?_
  refine w_getN C fl_X1_18 dX1_isSeen_1 rfl hw (fun a1 hw => ?_)
  refine v_iload_n C dX1_isSeen_4 1 rfl rfl ?_
  refine w_iaload C dX1_isSeen_5 hw (fun x2 hw => ?_)
  refine v_aload_n C dX1_isSeen_6 0 rfl rfl ?_
  refine w_getI C fl_X1_30 dX1_isSeen_7 rfl hw (fun x3 hw => ?_)
  refine v_icmp_gt (tgt := 34) C dX1_isSeen_10 (by decide) (fun c_10 => ?_) (fun c_10 => ?_)
  · have hw := hw.1 c_10
    refine v_sub [] rfl ?_
    exact s_X1_isSeen_34 C hr   _ hw
  · have hw := hw.2 c_10
    refine v_iload_n C dX1_isSeen_13 2 rfl rfl ?_
    refine v_aload_n C dX1_isSeen_14 0 rfl rfl ?_
    refine w_getN C fl_X1_15 dX1_isSeen_15 rfl hw (fun a4 hw => ?_)
    refine v_iload_n C dX1_isSeen_18 1 rfl rfl ?_
    refine w_iaload C dX1_isSeen_19 hw (fun x5 hw => ?_)
    refine w_callSi (st := [.int v2]) C cl_X1_48 st_X3_row (s_X3_row hw) rfl dX1_isSeen_20 rfl (Nat.le_of_ble_eq_true rfl) (by decide) (by decide) (by decide) (by decide) (fun x6 h hw => ?_)
    refine v_ishr C dX1_isSeen_23 ?_
    refine v_iconst (v := 1) C dX1_isSeen_24 (by decide) ?_
    refine v_iand C dX1_isSeen_25 ?_
    refine v_iconst (v := 1) C dX1_isSeen_26 (by decide) ?_
    refine v_icmp_ne (tgt := 34) C dX1_isSeen_27 (by decide) (fun c_27 => ?_) (fun c_27 => ?_)
    · have hw := hw.2 c_27
      refine v_sub [] rfl ?_
      exact s_X1_isSeen_34 C hr   _ hw
    · have hw := hw.1 c_27
      refine v_iconst (v := 1) C dX1_isSeen_30 (by decide) ?_
      refine v_goto (tgt := 35) C dX1_isSeen_31 (by decide) ?_
      refine v_sub [] rfl ?_
      exact s_X1_isSeen_35 C hr  _ _ hw
-- GrassField$Finds.seenIn(I)I
theorem dX1_seenIn_0 : decode cX1_seenIn 0 = .ok (.iconst 0, 1) := by decide +kernel
theorem dX1_seenIn_1 : decode cX1_seenIn 1 = .ok (.istore_n 2, 1) := by decide +kernel
theorem dX1_seenIn_2 : decode cX1_seenIn 2 = .ok (.iconst 0, 1) := by decide +kernel
theorem dX1_seenIn_3 : decode cX1_seenIn 3 = .ok (.istore_n 3, 1) := by decide +kernel
theorem dX1_seenIn_4 : decode cX1_seenIn 4 = .ok (.iload_n 3, 1) := by decide +kernel
theorem dX1_seenIn_5 : decode cX1_seenIn 5 = .ok (.aload_n 0, 1) := by decide +kernel
theorem dX1_seenIn_6 : decode cX1_seenIn 6 = .ok (.getfield 34, 3) := by decide +kernel
theorem dX1_seenIn_9 : decode cX1_seenIn 9 = .ok (.if_icmp .ge 21, 3) := by decide +kernel
theorem dX1_seenIn_12 : decode cX1_seenIn 12 = .ok (.aload_n 0, 1) := by decide +kernel
theorem dX1_seenIn_13 : decode cX1_seenIn 13 = .ok (.iload_n 3, 1) := by decide +kernel
theorem dX1_seenIn_14 : decode cX1_seenIn 14 = .ok (.iload_n 1, 1) := by decide +kernel
theorem dX1_seenIn_15 : decode cX1_seenIn 15 = .ok (.invokevirtual 60, 3) := by decide +kernel
theorem dX1_seenIn_18 : decode cX1_seenIn 18 = .ok (.ifCond .eq 6, 3) := by decide +kernel
theorem dX1_seenIn_21 : decode cX1_seenIn 21 = .ok (.iinc 2 1, 3) := by decide +kernel
theorem dX1_seenIn_24 : decode cX1_seenIn 24 = .ok (.iinc 3 1, 3) := by decide +kernel
theorem dX1_seenIn_27 : decode cX1_seenIn 27 = .ok (.goto (-23), 3) := by decide +kernel
theorem dX1_seenIn_30 : decode cX1_seenIn 30 = .ok (.iload_n 2, 1) := by decide +kernel
theorem dX1_seenIn_31 : decode cX1_seenIn 31 = .ok (.ireturn, 1) := by decide +kernel
def w_X1_seenIn_30  (v2 : Int32) (h : AH) (Q : Int32 → AH → Prop) : Prop :=
  Q v2 h
def w_X1_seenIn_24  (x30 : Int32 → AH → Prop) (k : Int32 → Int32 → AH → Prop) (v0 : Nat) (v1 : Int32) (v2 : Int32) (v3 : Int32) (h : AH) (Q : Int32 → AH → Prop) : Prop :=
  k v2 (v3 + 1) h
def w_X1_seenIn_4  (x30 : Int32 → AH → Prop) (k : Int32 → Int32 → AH → Prop) (v0 : Nat) (v1 : Int32) (v2 : Int32) (v3 : Int32) (h : AH) (Q : Int32 → AH → Prop) : Prop :=
  fI h v0 1 0 fun x1 =>
  br (x1 ≤ v3) (
    x30 v2 h) (
    vr h v0 1 (
    w_X1_isSeen v0 v3 v1 h (fun x2 h =>
    br (x2 = 0) (
      w_X1_seenIn_24 x30 k v0 v1 v2 v3 h Q) (
      w_X1_seenIn_24 x30 k v0 v1 (v2 + 1) v3 h Q))))
def w_X1_seenIn  (v0 : Nat) (v1 : Int32) (h : AH) (Q : Int32 → AH → Prop) : Prop :=
  lp (fun (k2 : Int32 × Int32 × AH → Prop) (s2 : Int32 × Int32 × AH) => w_X1_seenIn_4  (fun (y2 : Int32) h => w_X1_seenIn_30 y2 h Q) (fun (y2 : Int32) (y3 : Int32) h => k2 (y2, y3, h)) v0 v1 s2.1 s2.2.1 s2.2.2 Q) ((0 : Int32), (0 : Int32), h)
set_option maxRecDepth 100000 in
set_option maxHeartbeats 4000000 in
theorem s_X1_seenIn_30 {p : Program} {l : Launch} {e : Env} {s : State} {m : MethodId} {args : Array Value} {below : List Frame} {meth : Method} {c : Code} {g : GG}  {Q : Int32 → AH → Prop}  (C : CXT p l s m args meth c RX1 cX1_seenIn 4 g) (hr : meth.sig.returnType = (some .int))  : ∀ (v2 : Int32) (h : AH), w_X1_seenIn_30  v2 h Q → V p l e s m args below meth c g 2 0 0 4 0 0 (MQ below (QCx g (QI Q)) args s 0 0 (gA g)) 30 [(2, .int v2)] [] h := by
  intro v2 h hw
  refine v_iload_n C dX1_seenIn_30 0 rfl rfl ?_
  exact (rt_MQ C _).1 _ _ _ _ _ _ hr dX1_seenIn_31 (by decide) (by decide) ⟨_, rfl, hw⟩
set_option maxRecDepth 100000 in
set_option maxHeartbeats 4000000 in
theorem s_X1_seenIn_24 {p : Program} {l : Launch} {e : Env} {s : State} {m : MethodId} {args : Array Value} {below : List Frame} {meth : Method} {c : Code} {g : GG} {v0 : Nat} {v1 : Int32} {Q : Int32 → AH → Prop} {x30 : Int32 → AH → Prop} {k : Int32 → Int32 → AH → Prop} (C : CXT p l s m args meth c RX1 cX1_seenIn 4 g) (hr : meth.sig.returnType = (some .int)) (hx30 : ∀ (y2 : Int32) (h : AH), x30 y2 h → V p l e s m args below meth c g 2 0 0 4 0 0 (MQ below (QCx g (QI Q)) args s 0 0 (gA g)) 30 [(2, .int y2)] [] h) (hk : ∀ (y2 : Int32) (y3 : Int32) (h : AH), k y2 y3 h → V p l e s m args below meth c g 2 0 0 4 0 0 (MQ below (QCx g (QI Q)) args s 0 0 (gA g)) 4 [(0, .ref v0), (1, .int v1), (2, .int y2), (3, .int y3)] [] h) : ∀ (v2 : Int32) (v3 : Int32) (h : AH), w_X1_seenIn_24  x30 k v0 v1 v2 v3 h Q → V p l e s m args below meth c g 2 0 0 4 0 0 (MQ below (QCx g (QI Q)) args s 0 0 (gA g)) 24 [(0, .ref v0), (1, .int v1), (2, .int v2), (3, .int v3)] [] h := by
  intro v2 v3 h hw
  refine v_iinc (v := 1) (ls' := [(3, .int (v3 + 1)), (0, .ref v0), (1, .int v1), (2, .int v2)]) C dX1_seenIn_24 3 rfl (by decide) (by decide) rfl ?_
  refine v_goto (tgt := 4) C dX1_seenIn_27 (by decide) ?_
  refine v_sub [1, 2, 3, 0] rfl ?_
  exact hk _ _ _ hw
set_option maxRecDepth 100000 in
set_option maxHeartbeats 4000000 in
theorem s_X1_seenIn_4 {p : Program} {l : Launch} {e : Env} {s : State} {m : MethodId} {args : Array Value} {below : List Frame} {meth : Method} {c : Code} {g : GG} {v0 : Nat} {v1 : Int32} {Q : Int32 → AH → Prop} {x30 : Int32 → AH → Prop} {k : Int32 → Int32 → AH → Prop} (C : CXT p l s m args meth c RX1 cX1_seenIn 4 g) (hr : meth.sig.returnType = (some .int)) (hx30 : ∀ (y2 : Int32) (h : AH), x30 y2 h → V p l e s m args below meth c g 2 0 0 4 0 0 (MQ below (QCx g (QI Q)) args s 0 0 (gA g)) 30 [(2, .int y2)] [] h) (hk : ∀ (y2 : Int32) (y3 : Int32) (h : AH), k y2 y3 h → V p l e s m args below meth c g 2 0 0 4 0 0 (MQ below (QCx g (QI Q)) args s 0 0 (gA g)) 4 [(0, .ref v0), (1, .int v1), (2, .int y2), (3, .int y3)] [] h) : ∀ (v2 : Int32) (v3 : Int32) (h : AH), w_X1_seenIn_4  x30 k v0 v1 v2 v3 h Q → V p l e s m args below meth c g 2 0 0 4 0 0 (MQ below (QCx g (QI Q)) args s 0 0 (gA g)) 4 [(0, .ref v0), (1, .int v1), (2, .int v2), (3, .int v3)] [] h := by
  intro v2 v3 h hw
  refine v_iload_n C dX1_seenIn_4 3 rfl rfl ?_
  refine v_aload_n C dX1_seenIn_5 0 rfl rfl ?_
  refine w_getI C fl_X1_34 dX1_seenIn_6 rfl hw (fun x1 hw => ?_)
  refine v_icmp_ge (tgt := 30) C dX1_seenIn_9 (by decide) (fun c_9 => ?_) (fun c_9 => ?_)
  · have hw := hw.1 c_9
    refine v_sub [2] rfl ?_
    exact hx30 _ _ hw
  · have hw := hw.2 c_9
    refine v_aload_n C dX1_seenIn_12 0 rfl rfl ?_
    refine v_iload_n C dX1_seenIn_13 3 rfl rfl ?_
    refine v_iload_n C dX1_seenIn_14 1 rfl rfl ?_
    refine w_callVi (st := []) C cl_X1_60 im_X1_isSeen se_X1_isSeen rfl hw.1 (s_X1_isSeen hw.2) rfl dX1_seenIn_15 rfl (by decide) (by decide) (by decide) (by decide) (by decide) (fun x2 h hw => ?_)
    refine v_if_eq (tgt := 24) C dX1_seenIn_18 (by decide) (fun c_18 => ?_) (fun c_18 => ?_)
    · have hw := hw.1 c_18
      exact s_X1_seenIn_24 C hr hx30 hk _ _ _ hw
    · have hw := hw.2 c_18
      refine v_iinc (v := 1) (ls' := [(2, .int (v2 + 1)), (0, .ref v0), (1, .int v1), (3, .int v3)]) C dX1_seenIn_21 2 rfl (by decide) (by decide) rfl ?_
      refine v_sub [1, 2, 0, 3] rfl ?_
      exact s_X1_seenIn_24 C hr hx30 hk _ _ _ hw
set_option maxRecDepth 100000 in
set_option maxHeartbeats 4000000 in
theorem s_X1_seenIn {l : Launch}  {v0 : Nat} {v1 : Int32} {h : AH} {Q : Int32 → AH → Prop}  (hw : w_X1_seenIn  v0 v1 h Q) : CT l yX1_seenIn cX1_seenIn 4 (some .int) 2 0 0 [.ref v0, .int v1] h (QI Q) := by
  refine CT.of (by decide) ⟨rfl, ⟨rfl, trivial⟩⟩ (Nat.le_of_ble_eq_true rfl) ?_
  intro p e s m args below meth c g C hr hin
  refine v_eq (pc' := 0) (ls' := [(0, .ref v0), (1, .int v1)]) rfl rfl rfl rfl ?_
  refine v_iconst (v := 0) C dX1_seenIn_0 (by decide) ?_
  refine v_istore_n (ls' := [(2, .int (0 : Int32)), (0, .ref v0), (1, .int v1)]) C dX1_seenIn_1 rfl (by decide) rfl ?_
  refine v_iconst (v := 0) C dX1_seenIn_2 (by decide) ?_
  refine v_istore_n (ls' := [(3, .int (0 : Int32)), (2, .int (0 : Int32)), (0, .ref v0), (1, .int v1)]) C dX1_seenIn_3 rfl (by decide) rfl ?_
  refine v_sub [2, 3, 1, 0] rfl ?_
  refine lp_walk (P := fun (s' : Int32 × Int32 × AH) => V p l e s m args below meth c g 2 0 0 4 0 0 (MQ below (QCx g (QI Q)) args s 0 0 (gA g)) 4 [(0, .ref v0), (1, .int v1), (2, .int (s'.1)), (3, .int (s'.2.1))] [] s'.2.2) (fun k2 hk2 s' hw => ?_) ((0 : Int32), (0 : Int32), h) hw
  exact s_X1_seenIn_4 C hr (fun y2 h hw => s_X1_seenIn_30 C hr  _ h hw) (fun y2 y3 h hw => hk2 (y2, y3, h) hw) _ _ _ hw
-- GrassField$Finds.bestRow()I
theorem dX1_bestRow_0 : decode cX1_bestRow 0 = .ok (.aload_n 0, 1) := by decide +kernel
theorem dX1_bestRow_1 : decode cX1_bestRow 1 = .ok (.invokevirtual 53, 3) := by decide +kernel
theorem dX1_bestRow_4 : decode cX1_bestRow 4 = .ok (.istore_n 1, 1) := by decide +kernel
theorem dX1_bestRow_5 : decode cX1_bestRow 5 = .ok (.iconst (-1), 1) := by decide +kernel
theorem dX1_bestRow_6 : decode cX1_bestRow 6 = .ok (.istore_n 2, 1) := by decide +kernel
theorem dX1_bestRow_7 : decode cX1_bestRow 7 = .ok (.iconst (-1), 1) := by decide +kernel
theorem dX1_bestRow_8 : decode cX1_bestRow 8 = .ok (.istore_n 3, 1) := by decide +kernel
theorem dX1_bestRow_9 : decode cX1_bestRow 9 = .ok (.iconst 0, 1) := by decide +kernel
theorem dX1_bestRow_10 : decode cX1_bestRow 10 = .ok (.istore 4, 2) := by decide +kernel
theorem dX1_bestRow_12 : decode cX1_bestRow 12 = .ok (.iload 4, 2) := by decide +kernel
theorem dX1_bestRow_14 : decode cX1_bestRow 14 = .ok (.bipush 16, 2) := by decide +kernel
theorem dX1_bestRow_16 : decode cX1_bestRow 16 = .ok (.if_icmp .ge 51, 3) := by decide +kernel
theorem dX1_bestRow_19 : decode cX1_bestRow 19 = .ok (.aload_n 0, 1) := by decide +kernel
theorem dX1_bestRow_20 : decode cX1_bestRow 20 = .ok (.getfield 37, 3) := by decide +kernel
theorem dX1_bestRow_23 : decode cX1_bestRow 23 = .ok (.iload 4, 2) := by decide +kernel
theorem dX1_bestRow_25 : decode cX1_bestRow 25 = .ok (.ishr, 1) := by decide +kernel
theorem dX1_bestRow_26 : decode cX1_bestRow 26 = .ok (.iconst 1, 1) := by decide +kernel
theorem dX1_bestRow_27 : decode cX1_bestRow 27 = .ok (.iand, 1) := by decide +kernel
theorem dX1_bestRow_28 : decode cX1_bestRow 28 = .ok (.ifCond .ne 33, 3) := by decide +kernel
theorem dX1_bestRow_31 : decode cX1_bestRow 31 = .ok (.aload_n 0, 1) := by decide +kernel
theorem dX1_bestRow_32 : decode cX1_bestRow 32 = .ok (.aload_n 0, 1) := by decide +kernel
theorem dX1_bestRow_33 : decode cX1_bestRow 33 = .ok (.iconst 1, 1) := by decide +kernel
theorem dX1_bestRow_34 : decode cX1_bestRow 34 = .ok (.iload 4, 2) := by decide +kernel
theorem dX1_bestRow_36 : decode cX1_bestRow 36 = .ok (.ishl, 1) := by decide +kernel
theorem dX1_bestRow_37 : decode cX1_bestRow 37 = .ok (.invokevirtual 40, 3) := by decide +kernel
theorem dX1_bestRow_40 : decode cX1_bestRow 40 = .ok (.iload_n 1, 1) := by decide +kernel
theorem dX1_bestRow_41 : decode cX1_bestRow 41 = .ok (.iconst (-1), 1) := by decide +kernel
theorem dX1_bestRow_42 : decode cX1_bestRow 42 = .ok (.ixor, 1) := by decide +kernel
theorem dX1_bestRow_43 : decode cX1_bestRow 43 = .ok (.iand, 1) := by decide +kernel
theorem dX1_bestRow_44 : decode cX1_bestRow 44 = .ok (.invokevirtual 57, 3) := by decide +kernel
theorem dX1_bestRow_47 : decode cX1_bestRow 47 = .ok (.istore 5, 2) := by decide +kernel
theorem dX1_bestRow_49 : decode cX1_bestRow 49 = .ok (.iload 5, 2) := by decide +kernel
theorem dX1_bestRow_51 : decode cX1_bestRow 51 = .ok (.iload_n 3, 1) := by decide +kernel
theorem dX1_bestRow_52 : decode cX1_bestRow 52 = .ok (.if_icmp .le 9, 3) := by decide +kernel
theorem dX1_bestRow_55 : decode cX1_bestRow 55 = .ok (.iload 5, 2) := by decide +kernel
theorem dX1_bestRow_57 : decode cX1_bestRow 57 = .ok (.istore_n 3, 1) := by decide +kernel
theorem dX1_bestRow_58 : decode cX1_bestRow 58 = .ok (.iload 4, 2) := by decide +kernel
theorem dX1_bestRow_60 : decode cX1_bestRow 60 = .ok (.istore_n 2, 1) := by decide +kernel
theorem dX1_bestRow_61 : decode cX1_bestRow 61 = .ok (.iinc 4 1, 3) := by decide +kernel
theorem dX1_bestRow_64 : decode cX1_bestRow 64 = .ok (.goto (-52), 3) := by decide +kernel
theorem dX1_bestRow_67 : decode cX1_bestRow 67 = .ok (.iload_n 2, 1) := by decide +kernel
theorem dX1_bestRow_68 : decode cX1_bestRow 68 = .ok (.ireturn, 1) := by decide +kernel
def w_X1_bestRow_67  (v2 : Int32) (h : AH) (Q : Int32 → AH → Prop) : Prop :=
  Q v2 h
def w_X1_bestRow_61  (x67 : Int32 → AH → Prop) (k : Int32 → Int32 → Int32 → AH → Prop) (v0 : Nat) (v1 : Int32) (v2 : Int32) (v3 : Int32) (v4 : Int32) (h : AH) (Q : Int32 → AH → Prop) : Prop :=
  k v2 v3 (v4 + 1) h
def w_X1_bestRow_12  (x67 : Int32 → AH → Prop) (k : Int32 → Int32 → Int32 → AH → Prop) (v0 : Nat) (v1 : Int32) (v2 : Int32) (v3 : Int32) (v4 : Int32) (h : AH) (Q : Int32 → AH → Prop) : Prop :=
  br ((16 : Int32) ≤ v4) (
    x67 v2 h) (
    fI h v0 1 9 fun x1 =>
    br (((x1 >>> (v4 &&& 31)) &&& (1 : Int32)) = 0) (
      vr h v0 1 (
      w_X1_rowsNear v0 ((1 : Int32) <<< (v4 &&& 31)) h (fun x2 h =>
      vr h v0 1 (
      w_X1_seenIn v0 (x2 &&& (v1 ^^^ (-1 : Int32))) h (fun x3 h =>
      br (x3 ≤ v3) (
        w_X1_bestRow_61 x67 k v0 v1 v2 v3 v4 h Q) (
        w_X1_bestRow_61 x67 k v0 v1 v4 x3 v4 h Q)))))) (
      w_X1_bestRow_61 x67 k v0 v1 v2 v3 v4 h Q))
def w_X1_bestRow  (v0 : Nat) (h : AH) (Q : Int32 → AH → Prop) : Prop :=
  vr h v0 1 (
  w_X1_nearRows v0 h (fun x1 h =>
  lp (fun (k2 : Int32 × Int32 × Int32 × AH → Prop) (s2 : Int32 × Int32 × Int32 × AH) => w_X1_bestRow_12  (fun (y2 : Int32) h => w_X1_bestRow_67 y2 h Q) (fun (y2 : Int32) (y3 : Int32) (y4 : Int32) h => k2 (y2, y3, y4, h)) v0 x1 s2.1 s2.2.1 s2.2.2.1 s2.2.2.2 Q) ((-1 : Int32), (-1 : Int32), (0 : Int32), h)))
set_option maxRecDepth 100000 in
set_option maxHeartbeats 4000000 in
theorem s_X1_bestRow_67 {p : Program} {l : Launch} {e : Env} {s : State} {m : MethodId} {args : Array Value} {below : List Frame} {meth : Method} {c : Code} {g : GG}  {Q : Int32 → AH → Prop}  (C : CXT p l s m args meth c RX1 cX1_bestRow 6 g) (hr : meth.sig.returnType = (some .int))  : ∀ (v2 : Int32) (h : AH), w_X1_bestRow_67  v2 h Q → V p l e s m args below meth c g 3 0 0 6 0 0 (MQ below (QCx g (QI Q)) args s 0 0 (gA g)) 67 [(2, .int v2)] [] h := by
  intro v2 h hw
  refine v_iload_n C dX1_bestRow_67 0 rfl rfl ?_
  exact (rt_MQ C _).1 _ _ _ _ _ _ hr dX1_bestRow_68 (by decide) (by decide) ⟨_, rfl, hw⟩
set_option maxRecDepth 100000 in
set_option maxHeartbeats 4000000 in
theorem s_X1_bestRow_61 {p : Program} {l : Launch} {e : Env} {s : State} {m : MethodId} {args : Array Value} {below : List Frame} {meth : Method} {c : Code} {g : GG} {v0 : Nat} {v1 : Int32} {Q : Int32 → AH → Prop} {x67 : Int32 → AH → Prop} {k : Int32 → Int32 → Int32 → AH → Prop} (C : CXT p l s m args meth c RX1 cX1_bestRow 6 g) (hr : meth.sig.returnType = (some .int)) (hx67 : ∀ (y2 : Int32) (h : AH), x67 y2 h → V p l e s m args below meth c g 3 0 0 6 0 0 (MQ below (QCx g (QI Q)) args s 0 0 (gA g)) 67 [(2, .int y2)] [] h) (hk : ∀ (y2 : Int32) (y3 : Int32) (y4 : Int32) (h : AH), k y2 y3 y4 h → V p l e s m args below meth c g 3 0 0 6 0 0 (MQ below (QCx g (QI Q)) args s 0 0 (gA g)) 12 [(0, .ref v0), (1, .int v1), (2, .int y2), (3, .int y3), (4, .int y4)] [] h) : ∀ (v2 : Int32) (v3 : Int32) (v4 : Int32) (h : AH), w_X1_bestRow_61  x67 k v0 v1 v2 v3 v4 h Q → V p l e s m args below meth c g 3 0 0 6 0 0 (MQ below (QCx g (QI Q)) args s 0 0 (gA g)) 61 [(0, .ref v0), (1, .int v1), (2, .int v2), (3, .int v3), (4, .int v4)] [] h := by
  intro v2 v3 v4 h hw
  refine v_iinc (v := 1) (ls' := [(4, .int (v4 + 1)), (0, .ref v0), (1, .int v1), (2, .int v2), (3, .int v3)]) C dX1_bestRow_61 4 rfl (by decide) (by decide) rfl ?_
  refine v_goto (tgt := 12) C dX1_bestRow_64 (by decide) ?_
  refine v_sub [1, 2, 3, 4, 0] rfl ?_
  exact hk _ _ _ _ hw
set_option maxRecDepth 100000 in
set_option maxHeartbeats 4000000 in
theorem s_X1_bestRow_12 {p : Program} {l : Launch} {e : Env} {s : State} {m : MethodId} {args : Array Value} {below : List Frame} {meth : Method} {c : Code} {g : GG} {v0 : Nat} {v1 : Int32} {Q : Int32 → AH → Prop} {x67 : Int32 → AH → Prop} {k : Int32 → Int32 → Int32 → AH → Prop} (C : CXT p l s m args meth c RX1 cX1_bestRow 6 g) (hr : meth.sig.returnType = (some .int)) (hx67 : ∀ (y2 : Int32) (h : AH), x67 y2 h → V p l e s m args below meth c g 3 0 0 6 0 0 (MQ below (QCx g (QI Q)) args s 0 0 (gA g)) 67 [(2, .int y2)] [] h) (hk : ∀ (y2 : Int32) (y3 : Int32) (y4 : Int32) (h : AH), k y2 y3 y4 h → V p l e s m args below meth c g 3 0 0 6 0 0 (MQ below (QCx g (QI Q)) args s 0 0 (gA g)) 12 [(0, .ref v0), (1, .int v1), (2, .int y2), (3, .int y3), (4, .int y4)] [] h) : ∀ (v2 : Int32) (v3 : Int32) (v4 : Int32) (h : AH), w_X1_bestRow_12  x67 k v0 v1 v2 v3 v4 h Q → V p l e s m args below meth c g 3 0 0 6 0 0 (MQ below (QCx g (QI Q)) args s 0 0 (gA g)) 12 [(0, .ref v0), (1, .int v1), (2, .int v2), (3, .int v3), (4, .int v4)] [] h := by
  intro v2 v3 v4 h hw
  refine v_iload C dX1_bestRow_12 4 rfl ?_
  refine v_bipush (v := 16) C dX1_bestRow_14 (by decide) ?_
  refine v_icmp_ge (tgt := 67) C dX1_bestRow_16 (by decide) (fun c_16 => ?_) (fun c_16 => ?_)
  · have hw := hw.1 c_16
    refine v_sub [2] rfl ?_
    exact hx67 _ _ hw
  · have hw := hw.2 c_16
    refine v_aload_n C dX1_bestRow_19 0 rfl rfl ?_
    refine w_getI C fl_X1_37 dX1_bestRow_20 rfl hw (fun x1 hw => ?_)
    refine v_iload C dX1_bestRow_23 4 rfl ?_
    refine v_ishr C dX1_bestRow_25 ?_
    refine v_iconst (v := 1) C dX1_bestRow_26 (by decide) ?_
    refine v_iand C dX1_bestRow_27 ?_
    refine v_if_ne (tgt := 61) C dX1_bestRow_28 (by decide) (fun c_28 => ?_) (fun c_28 => ?_)
    · have hw := hw.2 c_28
      exact s_X1_bestRow_61 C hr hx67 hk _ _ _ _ hw
    · have hw := hw.1 c_28
      refine v_aload_n C dX1_bestRow_31 0 rfl rfl ?_
      refine v_aload_n C dX1_bestRow_32 0 rfl rfl ?_
      refine v_iconst (v := 1) C dX1_bestRow_33 (by decide) ?_
      refine v_iload C dX1_bestRow_34 4 rfl ?_
      refine v_ishl C dX1_bestRow_36 ?_
      refine w_callVi (st := [.ref v0]) C cl_X1_40 im_X1_rowsNear se_X1_rowsNear rfl hw.1 (s_X1_rowsNear hw.2) rfl dX1_bestRow_37 rfl (Nat.le_of_ble_eq_true rfl) (by decide) (by decide) (by decide) (by decide) (fun x2 h hw => ?_)
      refine v_iload_n C dX1_bestRow_40 1 rfl rfl ?_
      refine v_iconst (v := -1) C dX1_bestRow_41 (by decide) ?_
      refine v_ixor C dX1_bestRow_42 ?_
      refine v_iand C dX1_bestRow_43 ?_
      refine w_callVi (st := []) C cl_X1_57 im_X1_seenIn se_X1_seenIn rfl hw.1 (s_X1_seenIn hw.2) rfl dX1_bestRow_44 rfl (by decide) (by decide) (by decide) (by decide) (by decide) (fun x3 h hw => ?_)
      refine v_istore (ls' := [(5, .int x3), (0, .ref v0), (1, .int v1), (2, .int v2), (3, .int v3), (4, .int v4)]) C dX1_bestRow_47 (by decide) rfl ?_
      refine v_iload C dX1_bestRow_49 0 rfl ?_
      refine v_iload_n C dX1_bestRow_51 4 rfl rfl ?_
      refine v_icmp_le (tgt := 61) C dX1_bestRow_52 (by decide) (fun c_52 => ?_) (fun c_52 => ?_)
      · have hw := hw.1 c_52
        refine v_sub [1, 2, 3, 4, 5] rfl ?_
        exact s_X1_bestRow_61 C hr hx67 hk _ _ _ _ hw
      · have hw := hw.2 c_52
        refine v_iload C dX1_bestRow_55 0 rfl ?_
        refine v_istore_n (ls' := [(3, .int x3), (5, .int x3), (0, .ref v0), (1, .int v1), (2, .int v2), (4, .int v4)]) C dX1_bestRow_57 rfl (by decide) rfl ?_
        refine v_iload C dX1_bestRow_58 5 rfl ?_
        refine v_istore_n (ls' := [(2, .int v4), (3, .int x3), (5, .int x3), (0, .ref v0), (1, .int v1), (4, .int v4)]) C dX1_bestRow_60 rfl (by decide) rfl ?_
        refine v_sub [3, 4, 0, 1, 5] rfl ?_
        exact s_X1_bestRow_61 C hr hx67 hk _ _ _ _ hw
set_option maxRecDepth 100000 in
set_option maxHeartbeats 4000000 in
theorem s_X1_bestRow {l : Launch}  {v0 : Nat} {h : AH} {Q : Int32 → AH → Prop}  (hw : w_X1_bestRow  v0 h Q) : CT l yX1_bestRow cX1_bestRow 6 (some .int) 3 0 0 [.ref v0] h (QI Q) := by
  refine CT.of (by decide) ⟨rfl, trivial⟩ (Nat.le_of_ble_eq_true rfl) ?_
  intro p e s m args below meth c g C hr hin
  refine v_eq (pc' := 0) (ls' := [(0, .ref v0)]) rfl rfl rfl rfl ?_
  refine v_aload_n C dX1_bestRow_0 0 rfl rfl ?_
  refine w_callVi (st := []) C cl_X1_53 im_X1_nearRows se_X1_nearRows rfl hw.1 (s_X1_nearRows hw.2) rfl dX1_bestRow_1 rfl (by decide) (by decide) (by decide) (by decide) (by decide) (fun x1 h hw => ?_)
  refine v_istore_n (ls' := [(1, .int x1), (0, .ref v0)]) C dX1_bestRow_4 rfl (by decide) rfl ?_
  refine v_iconst (v := -1) C dX1_bestRow_5 (by decide) ?_
  refine v_istore_n (ls' := [(2, .int (-1 : Int32)), (1, .int x1), (0, .ref v0)]) C dX1_bestRow_6 rfl (by decide) rfl ?_
  refine v_iconst (v := -1) C dX1_bestRow_7 (by decide) ?_
  refine v_istore_n (ls' := [(3, .int (-1 : Int32)), (2, .int (-1 : Int32)), (1, .int x1), (0, .ref v0)]) C dX1_bestRow_8 rfl (by decide) rfl ?_
  refine v_iconst (v := 0) C dX1_bestRow_9 (by decide) ?_
  refine v_istore (ls' := [(4, .int (0 : Int32)), (3, .int (-1 : Int32)), (2, .int (-1 : Int32)), (1, .int x1), (0, .ref v0)]) C dX1_bestRow_10 (by decide) rfl ?_
  refine v_sub [4, 3, 2, 1, 0] rfl ?_
  refine lp_walk (P := fun (s' : Int32 × Int32 × Int32 × AH) => V p l e s m args below meth c g 3 0 0 6 0 0 (MQ below (QCx g (QI Q)) args s 0 0 (gA g)) 12 [(0, .ref v0), (1, .int x1), (2, .int (s'.1)), (3, .int (s'.2.1)), (4, .int (s'.2.2.1))] [] s'.2.2.2) (fun k2 hk2 s' hw => ?_) ((-1 : Int32), (-1 : Int32), (0 : Int32), h) hw
  exact s_X1_bestRow_12 C hr (fun y2 h hw => s_X1_bestRow_67 C hr  _ h hw) (fun y2 y3 y4 h hw => hk2 (y2, y3, y4, h) hw) _ _ _ _ hw
-- GrassField$Finds.seenCount()I
theorem dX1_seenCount_0 : decode cX1_seenCount 0 = .ok (.aload_n 0, 1) := by decide +kernel
theorem dX1_seenCount_1 : decode cX1_seenCount 1 = .ok (.aload_n 0, 1) := by decide +kernel
theorem dX1_seenCount_2 : decode cX1_seenCount 2 = .ok (.invokevirtual 53, 3) := by decide +kernel
theorem dX1_seenCount_5 : decode cX1_seenCount 5 = .ok (.invokevirtual 57, 3) := by decide +kernel
theorem dX1_seenCount_8 : decode cX1_seenCount 8 = .ok (.ireturn, 1) := by decide +kernel
def w_X1_seenCount  (v0 : Nat) (h : AH) (Q : Int32 → AH → Prop) : Prop :=
  vr h v0 1 (
  w_X1_nearRows v0 h (fun x1 h =>
  vr h v0 1 (
  w_X1_seenIn v0 x1 h (fun x2 h =>
  Q x2 h))))
set_option maxRecDepth 100000 in
set_option maxHeartbeats 4000000 in
theorem s_X1_seenCount {l : Launch}  {v0 : Nat} {h : AH} {Q : Int32 → AH → Prop}  (hw : w_X1_seenCount  v0 h Q) : CT l yX1_seenCount cX1_seenCount 1 (some .int) 3 0 0 [.ref v0] h (QI Q) := by
  refine CT.of (by decide) ⟨rfl, trivial⟩ (Nat.le_of_ble_eq_true rfl) ?_
  intro p e s m args below meth c g C hr hin
  refine v_eq (pc' := 0) (ls' := [(0, .ref v0)]) rfl rfl rfl rfl ?_
  refine v_aload_n C dX1_seenCount_0 0 rfl rfl ?_
  refine v_aload_n C dX1_seenCount_1 0 rfl rfl ?_
  refine w_callVi (st := [.ref v0]) C cl_X1_53 im_X1_nearRows se_X1_nearRows rfl hw.1 (s_X1_nearRows hw.2) rfl dX1_seenCount_2 rfl (Nat.le_of_ble_eq_true rfl) (by decide) (by decide) (by decide) (by decide) (fun x1 h hw => ?_)
  refine w_callVi (st := []) C cl_X1_57 im_X1_seenIn se_X1_seenIn rfl hw.1 (s_X1_seenIn hw.2) rfl dX1_seenCount_5 rfl (by decide) (by decide) (by decide) (by decide) (by decide) (fun x2 h hw => ?_)
  exact (rt_MQ C _).1 _ _ _ _ _ _ hr dX1_seenCount_8 (by decide) (by decide) ⟨_, rfl, hw⟩
