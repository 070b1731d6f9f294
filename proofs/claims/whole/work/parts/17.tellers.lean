theorem iw_X9 : ∀ w ∈ u_ws RX9 TX9 9, w ∈ lw_tbl := (show ∀ w ∈ ([Cond.lays "GrassField$Tellers" "GrassField$Tellers" "size" "I", Cond.laysFinal "GrassField$Tellers" "GrassField$Tellers" "cell" "[I", Cond.laysFinal "GrassField$Tellers" "GrassField$Tellers" "from" "[I", Cond.laysFinal "GrassField$Tellers" "GrassField$Tellers" "till" "[I", Cond.laysFinal "GrassField$Tellers" "GrassField$Tellers" "listener" "[I", Cond.lays "GrassField$Tellers" "GrassField$Tellers" "told" "I", Cond.laysFinal "GrassField$Tellers" "GrassField$Tellers" "teller" "[I", Cond.laysFinal "GrassField$Tellers" "GrassField$Tellers" "toldCell" "[I", Cond.laysFinal "GrassField$Tellers" "GrassField$Tellers" "toldMinute" "[I"] : List Cond), w ∈ lw_tbl from List.forall_mem_cons.mpr ⟨(tb2 (List.mem_of_getElem? (i := 3) rfl)), List.forall_mem_cons.mpr ⟨(tb2 (List.mem_of_getElem? (i := 5) rfl)), List.forall_mem_cons.mpr ⟨(tb2 (List.mem_of_getElem? (i := 7) rfl)), List.forall_mem_cons.mpr ⟨(tb2 (List.mem_of_getElem? (i := 9) rfl)), List.forall_mem_cons.mpr ⟨(tb2 (List.mem_of_getElem? (i := 11) rfl)), List.forall_mem_cons.mpr ⟨(tb2 (List.mem_of_getElem? (i := 13) rfl)), List.forall_mem_cons.mpr ⟨(tb2 (List.mem_of_getElem? (i := 15) rfl)), List.forall_mem_cons.mpr ⟨(tb2 (List.mem_of_getElem? (i := 17) rfl)), List.forall_mem_cons.mpr ⟨(tb2 (List.mem_of_getElem? (i := 19) rfl)), fun _ h => nomatch h⟩⟩⟩⟩⟩⟩⟩⟩⟩)
theorem fl_X9_9 : FLk RX9 9 9 1 (RX9, TX9, 9) := ⟨rfl, by decide, iw_X9, Or.inl (tb1 (List.mem_of_getElem? (i := 231) rfl))⟩
theorem fp_X9_9 : FPk RX9 9 9 1 (RX9, TX9, 9) tyX9 2 := ⟨fl_X9_9, nmX9, tyX9_ok, Or.inr (Or.inr ⟨rfl, Or.inr ⟨_, rfl⟩, rfl⟩)⟩
theorem fl_X9_15 : FLk RX9 15 9 2 (RX9, TX9, 9) := ⟨rfl, by decide, iw_X9, Or.inl (tb1 (List.mem_of_getElem? (i := 232) rfl))⟩
theorem fp_X9_15 : FPk RX9 15 9 2 (RX9, TX9, 9) tyX9 2 := ⟨fl_X9_15, nmX9, tyX9_ok, Or.inr (Or.inr ⟨rfl, Or.inr ⟨_, rfl⟩, rfl⟩)⟩
theorem fl_X9_18 : FLk RX9 18 9 3 (RX9, TX9, 9) := ⟨rfl, by decide, iw_X9, Or.inl (tb1 (List.mem_of_getElem? (i := 233) rfl))⟩
theorem fp_X9_18 : FPk RX9 18 9 3 (RX9, TX9, 9) tyX9 2 := ⟨fl_X9_18, nmX9, tyX9_ok, Or.inr (Or.inr ⟨rfl, Or.inr ⟨_, rfl⟩, rfl⟩)⟩
theorem fl_X9_21 : FLk RX9 21 9 4 (RX9, TX9, 9) := ⟨rfl, by decide, iw_X9, Or.inl (tb1 (List.mem_of_getElem? (i := 234) rfl))⟩
theorem fp_X9_21 : FPk RX9 21 9 4 (RX9, TX9, 9) tyX9 2 := ⟨fl_X9_21, nmX9, tyX9_ok, Or.inr (Or.inr ⟨rfl, Or.inr ⟨_, rfl⟩, rfl⟩)⟩
theorem fl_X9_24 : FLk RX9 24 9 6 (RX9, TX9, 9) := ⟨rfl, by decide, iw_X9, Or.inl (tb1 (List.mem_of_getElem? (i := 238) rfl))⟩
theorem fp_X9_24 : FPk RX9 24 9 6 (RX9, TX9, 9) tyX9 2 := ⟨fl_X9_24, nmX9, tyX9_ok, Or.inr (Or.inr ⟨rfl, Or.inr ⟨_, rfl⟩, rfl⟩)⟩
theorem fl_X9_27 : FLk RX9 27 9 7 (RX9, TX9, 9) := ⟨rfl, by decide, iw_X9, Or.inl (tb2 (List.mem_of_getElem? (i := 0) rfl))⟩
theorem fp_X9_27 : FPk RX9 27 9 7 (RX9, TX9, 9) tyX9 2 := ⟨fl_X9_27, nmX9, tyX9_ok, Or.inr (Or.inr ⟨rfl, Or.inr ⟨_, rfl⟩, rfl⟩)⟩
theorem fl_X9_30 : FLk RX9 30 9 8 (RX9, TX9, 9) := ⟨rfl, by decide, iw_X9, Or.inl (tb2 (List.mem_of_getElem? (i := 2) rfl))⟩
theorem fp_X9_30 : FPk RX9 30 9 8 (RX9, TX9, 9) tyX9 2 := ⟨fl_X9_30, nmX9, tyX9_ok, Or.inr (Or.inr ⟨rfl, Or.inr ⟨_, rfl⟩, rfl⟩)⟩
theorem fl_X9_33 : FLk RX9 33 9 0 (RX9, TX9, 9) := ⟨rfl, by decide, iw_X9, Or.inl (tb1 (List.mem_of_getElem? (i := 228) rfl))⟩
theorem fp_X9_33 : FPk RX9 33 9 0 (RX9, TX9, 9) tyX9 0 := ⟨fl_X9_33, nmX9, tyX9_ok, Or.inl ⟨rfl, rfl, rfl⟩⟩
theorem fl_X9_37 : FLk RX9 37 9 5 (RX9, TX9, 9) := ⟨rfl, by decide, iw_X9, Or.inl (tb1 (List.mem_of_getElem? (i := 235) rfl))⟩
theorem fp_X9_37 : FPk RX9 37 9 5 (RX9, TX9, 9) tyX9 0 := ⟨fl_X9_37, nmX9, tyX9_ok, Or.inl ⟨rfl, rfl, rfl⟩⟩
theorem ac_X9_52 : Cond.methodLink RX9 52 arraycopyName ∈ lw_tbl := (tb3 (List.mem_of_getElem? (i := 64) rfl))
theorem cl_X9_40 : CLk RX9 40 yX3_isOpen cX3_isOpen 8 (some .boolean) 2 := ⟨Or.inl (tb2 (List.mem_of_getElem? (i := 225) rfl)), (tb2 (List.mem_of_getElem? (i := 228) rfl)), (tb1 (List.mem_of_getElem? (i := 4) rfl)), by decide +kernel, by decide +kernel, by decide +kernel⟩
theorem im_X3_isOpen : Cond.instanceMethod yX3_isOpen ∈ lw_tbl := (tb2 (List.mem_of_getElem? (i := 226) rfl))
theorem se_X3_isOpen : Cond.selects RX3 yX3_isOpen yX3_isOpen ∈ lw_tbl := (tb2 (List.mem_of_getElem? (i := 227) rfl))
theorem cl_X9_49 : CLk RX9 49 yX9_hasToldOf cX9_hasToldOf 4 (some .boolean) 2 := ⟨Or.inl (tb3 (List.mem_of_getElem? (i := 26) rfl)), (tb3 (List.mem_of_getElem? (i := 29) rfl)), (tb1 (List.mem_of_getElem? (i := 8) rfl)), by decide +kernel, by decide +kernel, by decide +kernel⟩
theorem im_X9_hasToldOf : Cond.instanceMethod yX9_hasToldOf ∈ lw_tbl := (tb3 (List.mem_of_getElem? (i := 28) rfl))
theorem se_X9_hasToldOf : Cond.selects RX9 yX9_hasToldOf yX9_hasToldOf ∈ lw_tbl := (tbp1 4 rfl)
theorem cl_X9_46 : CLk RX9 46 yX9_toldOfOneCell cX9_toldOfOneCell 4 (some .boolean) 2 := ⟨Or.inl (tb3 (List.mem_of_getElem? (i := 22) rfl)), (tb3 (List.mem_of_getElem? (i := 25) rfl)), (tb1 (List.mem_of_getElem? (i := 8) rfl)), by decide +kernel, by decide +kernel, by decide +kernel⟩
theorem im_X9_toldOfOneCell : Cond.instanceMethod yX9_toldOfOneCell ∈ lw_tbl := (tb3 (List.mem_of_getElem? (i := 24) rfl))
theorem se_X9_toldOfOneCell : Cond.selects RX9 yX9_toldOfOneCell yX9_toldOfOneCell ∈ lw_tbl := (tbp1 3 rfl)
-- GrassField$Tellers.<init>()V
theorem dX9_init_0 : decode cX9_init 0 = .ok (.aload_n 0, 1) := by decide +kernel
theorem dX9_init_1 : decode cX9_init 1 = .ok (.invokespecial 3, 3) := by decide +kernel
theorem dX9_init_4 : decode cX9_init 4 = .ok (.aload_n 0, 1) := by decide +kernel
theorem dX9_init_5 : decode cX9_init 5 = .ok (.bipush 8, 2) := by decide +kernel
theorem dX9_init_7 : decode cX9_init 7 = .ok (.newarray .int, 2) := by decide +kernel
theorem dX9_init_9 : decode cX9_init 9 = .ok (.putfield 9, 3) := by decide +kernel
theorem dX9_init_12 : decode cX9_init 12 = .ok (.aload_n 0, 1) := by decide +kernel
theorem dX9_init_13 : decode cX9_init 13 = .ok (.bipush 8, 2) := by decide +kernel
theorem dX9_init_15 : decode cX9_init 15 = .ok (.newarray .int, 2) := by decide +kernel
theorem dX9_init_17 : decode cX9_init 17 = .ok (.putfield 15, 3) := by decide +kernel
theorem dX9_init_20 : decode cX9_init 20 = .ok (.aload_n 0, 1) := by decide +kernel
theorem dX9_init_21 : decode cX9_init 21 = .ok (.bipush 8, 2) := by decide +kernel
theorem dX9_init_23 : decode cX9_init 23 = .ok (.newarray .int, 2) := by decide +kernel
theorem dX9_init_25 : decode cX9_init 25 = .ok (.putfield 18, 3) := by decide +kernel
theorem dX9_init_28 : decode cX9_init 28 = .ok (.aload_n 0, 1) := by decide +kernel
theorem dX9_init_29 : decode cX9_init 29 = .ok (.bipush 8, 2) := by decide +kernel
theorem dX9_init_31 : decode cX9_init 31 = .ok (.newarray .int, 2) := by decide +kernel
theorem dX9_init_33 : decode cX9_init 33 = .ok (.putfield 21, 3) := by decide +kernel
theorem dX9_init_36 : decode cX9_init 36 = .ok (.aload_n 0, 1) := by decide +kernel
theorem dX9_init_37 : decode cX9_init 37 = .ok (.bipush 20, 2) := by decide +kernel
theorem dX9_init_39 : decode cX9_init 39 = .ok (.newarray .int, 2) := by decide +kernel
theorem dX9_init_41 : decode cX9_init 41 = .ok (.putfield 24, 3) := by decide +kernel
theorem dX9_init_44 : decode cX9_init 44 = .ok (.aload_n 0, 1) := by decide +kernel
theorem dX9_init_45 : decode cX9_init 45 = .ok (.bipush 20, 2) := by decide +kernel
theorem dX9_init_47 : decode cX9_init 47 = .ok (.newarray .int, 2) := by decide +kernel
theorem dX9_init_49 : decode cX9_init 49 = .ok (.putfield 27, 3) := by decide +kernel
theorem dX9_init_52 : decode cX9_init 52 = .ok (.aload_n 0, 1) := by decide +kernel
theorem dX9_init_53 : decode cX9_init 53 = .ok (.bipush 20, 2) := by decide +kernel
theorem dX9_init_55 : decode cX9_init 55 = .ok (.newarray .int, 2) := by decide +kernel
theorem dX9_init_57 : decode cX9_init 57 = .ok (.putfield 30, 3) := by decide +kernel
theorem dX9_init_60 : decode cX9_init 60 = .ok (.return_, 1) := by decide +kernel
def w_X9_init  (v0 : Nat) (h : AH) (Q : AH → Prop) : Prop :=
  wA h 0 8 fun a1 h =>
  uO h v0 9 1 (some a1) fun h =>
  wA h 0 8 fun a2 h =>
  uO h v0 9 2 (some a2) fun h =>
  wA h 0 8 fun a3 h =>
  uO h v0 9 3 (some a3) fun h =>
  wA h 0 8 fun a4 h =>
  uO h v0 9 4 (some a4) fun h =>
  wA h 0 20 fun a5 h =>
  uO h v0 9 6 (some a5) fun h =>
  wA h 0 20 fun a6 h =>
  uO h v0 9 7 (some a6) fun h =>
  wA h 0 20 fun a7 h =>
  uO h v0 9 8 (some a7) fun h =>
  Q h
set_option maxRecDepth 100000 in
set_option maxHeartbeats 4000000 in
theorem s_X9_init {l : Launch}  {v0 : Nat} {h : AH} {Q : AH → Prop}  (hw : w_X9_init  v0 h Q) : CT l yX9_init cX9_init 1 none 1 7 92 [.ref v0] h (QV Q) := by
  refine CT.of (by decide) ⟨rfl, trivial⟩ (Nat.le_of_ble_eq_true rfl) ?_
  intro p e s m args below meth c g C hr hin
  refine v_eq (pc' := 0) (ls' := [(0, .ref v0)]) rfl rfl rfl rfl ?_
  refine v_aload_n C dX9_init_0 0 rfl rfl ?_
  refine v_objInit C (tb1 (List.mem_of_getElem? (i := 227) rfl)) (tb1 (List.mem_of_getElem? (i := 36) rfl)) (tb1 (List.mem_of_getElem? (i := 37) rfl)) dX9_init_1 (by decide) (by decide) ?_
  refine v_aload_n C dX9_init_4 0 rfl rfl ?_
  refine v_bipush (v := 8) C dX9_init_5 (by decide) ?_
  refine v_newa (atype := .int) (j := 0) (N := 8) C rfl rfl (by decide) rfl rfl (tb1 (List.mem_of_getElem? (i := 77) rfl)) dX9_init_7 (by decide) (by decide) (by decide) (by decide) (by decide) (fun a1 hn => ?_)
  have hw := hw a1 hn
  generalize nA h a1 0 8 = h at hw ⊢
  refine w_putN C fp_X9_9 (Or.inr ⟨hin, rfl, rfl, (tb1 (List.mem_of_getElem? (i := 231) rfl))⟩) dX9_init_9 hw (fun h hw => ?_)
  refine v_aload_n C dX9_init_12 0 rfl rfl ?_
  refine v_bipush (v := 8) C dX9_init_13 (by decide) ?_
  refine v_newa (atype := .int) (j := 0) (N := 8) C rfl rfl (by decide) rfl rfl (tb1 (List.mem_of_getElem? (i := 77) rfl)) dX9_init_15 (by decide) (by decide) (by decide) (by decide) (by decide) (fun a2 hn => ?_)
  have hw := hw a2 hn
  generalize nA h a2 0 8 = h at hw ⊢
  refine w_putN C fp_X9_15 (Or.inr ⟨hin, rfl, rfl, (tb1 (List.mem_of_getElem? (i := 232) rfl))⟩) dX9_init_17 hw (fun h hw => ?_)
  refine v_aload_n C dX9_init_20 0 rfl rfl ?_
  refine v_bipush (v := 8) C dX9_init_21 (by decide) ?_
  refine v_newa (atype := .int) (j := 0) (N := 8) C rfl rfl (by decide) rfl rfl (tb1 (List.mem_of_getElem? (i := 77) rfl)) dX9_init_23 (by decide) (by decide) (by decide) (by decide) (by decide) (fun a3 hn => ?_)
  have hw := hw a3 hn
  generalize nA h a3 0 8 = h at hw ⊢
  refine w_putN C fp_X9_18 (Or.inr ⟨hin, rfl, rfl, (tb1 (List.mem_of_getElem? (i := 233) rfl))⟩) dX9_init_25 hw (fun h hw => ?_)
  refine v_aload_n C dX9_init_28 0 rfl rfl ?_
  refine v_bipush (v := 8) C dX9_init_29 (by decide) ?_
  refine v_newa (atype := .int) (j := 0) (N := 8) C rfl rfl (by decide) rfl rfl (tb1 (List.mem_of_getElem? (i := 77) rfl)) dX9_init_31 (by decide) (by decide) (by decide) (by decide) (by decide) (fun a4 hn => ?_)
  have hw := hw a4 hn
  generalize nA h a4 0 8 = h at hw ⊢
  refine w_putN C fp_X9_21 (Or.inr ⟨hin, rfl, rfl, (tb1 (List.mem_of_getElem? (i := 234) rfl))⟩) dX9_init_33 hw (fun h hw => ?_)
  refine v_aload_n C dX9_init_36 0 rfl rfl ?_
  refine v_bipush (v := 20) C dX9_init_37 (by decide) ?_
  refine v_newa (atype := .int) (j := 0) (N := 20) C rfl rfl (by decide) rfl rfl (tb1 (List.mem_of_getElem? (i := 77) rfl)) dX9_init_39 (by decide) (by decide) (by decide) (by decide) (by decide) (fun a5 hn => ?_)
  have hw := hw a5 hn
  generalize nA h a5 0 20 = h at hw ⊢
  refine w_putN C fp_X9_24 (Or.inr ⟨hin, rfl, rfl, (tb1 (List.mem_of_getElem? (i := 238) rfl))⟩) dX9_init_41 hw (fun h hw => ?_)
  refine v_aload_n C dX9_init_44 0 rfl rfl ?_
  refine v_bipush (v := 20) C dX9_init_45 (by decide) ?_
  refine v_newa (atype := .int) (j := 0) (N := 20) C rfl rfl (by decide) rfl rfl (tb1 (List.mem_of_getElem? (i := 77) rfl)) dX9_init_47 (by decide) (by decide) (by decide) (by decide) (by decide) (fun a6 hn => ?_)
  have hw := hw a6 hn
  generalize nA h a6 0 20 = h at hw ⊢
  refine w_putN C fp_X9_27 (Or.inr ⟨hin, rfl, rfl, (tb2 (List.mem_of_getElem? (i := 0) rfl))⟩) dX9_init_49 hw (fun h hw => ?_)
  refine v_aload_n C dX9_init_52 0 rfl rfl ?_
  refine v_bipush (v := 20) C dX9_init_53 (by decide) ?_
  refine v_newa (atype := .int) (j := 0) (N := 20) C rfl rfl (by decide) rfl rfl (tb1 (List.mem_of_getElem? (i := 77) rfl)) dX9_init_55 (by decide) (by decide) (by decide) (by decide) (by decide) (fun a7 hn => ?_)
  have hw := hw a7 hn
  generalize nA h a7 0 20 = h at hw ⊢
  refine w_putN C fp_X9_30 (Or.inr ⟨hin, rfl, rfl, (tb2 (List.mem_of_getElem? (i := 2) rfl))⟩) dX9_init_57 hw (fun h hw => ?_)
  exact (rt_MQ C _).2.2.1 _ _ _ _ _ hr dX9_init_60 (by decide) (by decide) ⟨rfl, hw⟩
-- GrassField$Tellers.add(IIII)I
theorem dX9_add_0 : decode cX9_add 0 = .ok (.aload_n 0, 1) := by decide +kernel
theorem dX9_add_1 : decode cX9_add 1 = .ok (.getfield 9, 3) := by decide +kernel
theorem dX9_add_4 : decode cX9_add 4 = .ok (.aload_n 0, 1) := by decide +kernel
theorem dX9_add_5 : decode cX9_add 5 = .ok (.getfield 33, 3) := by decide +kernel
theorem dX9_add_8 : decode cX9_add 8 = .ok (.iload_n 1, 1) := by decide +kernel
theorem dX9_add_9 : decode cX9_add 9 = .ok (.iastore, 1) := by decide +kernel
theorem dX9_add_10 : decode cX9_add 10 = .ok (.aload_n 0, 1) := by decide +kernel
theorem dX9_add_11 : decode cX9_add 11 = .ok (.getfield 15, 3) := by decide +kernel
theorem dX9_add_14 : decode cX9_add 14 = .ok (.aload_n 0, 1) := by decide +kernel
theorem dX9_add_15 : decode cX9_add 15 = .ok (.getfield 33, 3) := by decide +kernel
theorem dX9_add_18 : decode cX9_add 18 = .ok (.iload_n 2, 1) := by decide +kernel
theorem dX9_add_19 : decode cX9_add 19 = .ok (.iastore, 1) := by decide +kernel
theorem dX9_add_20 : decode cX9_add 20 = .ok (.aload_n 0, 1) := by decide +kernel
theorem dX9_add_21 : decode cX9_add 21 = .ok (.getfield 18, 3) := by decide +kernel
theorem dX9_add_24 : decode cX9_add 24 = .ok (.aload_n 0, 1) := by decide +kernel
theorem dX9_add_25 : decode cX9_add 25 = .ok (.getfield 33, 3) := by decide +kernel
theorem dX9_add_28 : decode cX9_add 28 = .ok (.iload_n 3, 1) := by decide +kernel
theorem dX9_add_29 : decode cX9_add 29 = .ok (.iastore, 1) := by decide +kernel
theorem dX9_add_30 : decode cX9_add 30 = .ok (.aload_n 0, 1) := by decide +kernel
theorem dX9_add_31 : decode cX9_add 31 = .ok (.getfield 21, 3) := by decide +kernel
theorem dX9_add_34 : decode cX9_add 34 = .ok (.aload_n 0, 1) := by decide +kernel
theorem dX9_add_35 : decode cX9_add 35 = .ok (.getfield 33, 3) := by decide +kernel
theorem dX9_add_38 : decode cX9_add 38 = .ok (.iload 4, 2) := by decide +kernel
theorem dX9_add_40 : decode cX9_add 40 = .ok (.iastore, 1) := by decide +kernel
theorem dX9_add_41 : decode cX9_add 41 = .ok (.aload_n 0, 1) := by decide +kernel
theorem dX9_add_42 : decode cX9_add 42 = .ok (.dup, 1) := by decide +kernel
theorem dX9_add_43 : decode cX9_add 43 = .ok (.getfield 33, 3) := by decide +kernel
theorem dX9_add_46 : decode cX9_add 46 = .ok (.iconst 1, 1) := by decide +kernel
theorem dX9_add_47 : decode cX9_add 47 = .ok (.iadd, 1) := by decide +kernel
theorem dX9_add_48 : decode cX9_add 48 = .ok (.putfield 33, 3) := by decide +kernel
theorem dX9_add_51 : decode cX9_add 51 = .ok (.aload_n 0, 1) := by decide +kernel
theorem dX9_add_52 : decode cX9_add 52 = .ok (.getfield 33, 3) := by decide +kernel
theorem dX9_add_55 : decode cX9_add 55 = .ok (.iconst 1, 1) := by decide +kernel
theorem dX9_add_56 : decode cX9_add 56 = .ok (.isub, 1) := by decide +kernel
theorem dX9_add_57 : decode cX9_add 57 = .ok (.ireturn, 1) := by decide +kernel
def w_X9_add  (v0 : Nat) (v1 : Int32) (v2 : Int32) (v3 : Int32) (v4 : Int32) (h : AH) (Q : Int32 → AH → Prop) : Prop :=
  fN h v0 9 1 fun a1 =>
  fI h v0 9 0 fun x2 =>
  tI h a1 x2 v1 fun h =>
  fN h v0 9 2 fun a3 =>
  fI h v0 9 0 fun x4 =>
  tI h a3 x4 v2 fun h =>
  fN h v0 9 3 fun a5 =>
  fI h v0 9 0 fun x6 =>
  tI h a5 x6 v3 fun h =>
  fN h v0 9 4 fun a7 =>
  fI h v0 9 0 fun x8 =>
  tI h a7 x8 v4 fun h =>
  fI h v0 9 0 fun x9 =>
  uI h v0 9 0 (x9 + (1 : Int32)) fun h =>
  fI h v0 9 0 fun x10 =>
  Q (x10 - (1 : Int32)) h
set_option maxRecDepth 100000 in
set_option maxHeartbeats 4000000 in
theorem s_X9_add {l : Launch}  {v0 : Nat} {v1 : Int32} {v2 : Int32} {v3 : Int32} {v4 : Int32} {h : AH} {Q : Int32 → AH → Prop}  (hw : w_X9_add  v0 v1 v2 v3 v4 h Q) : CT l yX9_add cX9_add 5 (some .int) 0 0 0 [.ref v0, .int v1, .int v2, .int v3, .int v4] h (QI Q) := by
  refine CT.of (by decide) ⟨rfl, ⟨rfl, ⟨rfl, ⟨rfl, ⟨rfl, trivial⟩⟩⟩⟩⟩ (Nat.le_of_ble_eq_true rfl) ?_
  intro p e s m args below meth c g C hr hin
  refine v_eq (pc' := 0) (ls' := [(0, .ref v0), (1, .int v1), (2, .int v2), (3, .int v3), (4, .int v4)]) rfl rfl rfl rfl ?_
  refine v_aload_n C dX9_add_0 0 rfl rfl ?_
  refine w_getN C fl_X9_9 dX9_add_1 rfl hw (fun a1 hw => ?_)
  refine v_aload_n C dX9_add_4 0 rfl rfl ?_
  refine w_getI C fl_X9_33 dX9_add_5 rfl hw (fun x2 hw => ?_)
  refine v_iload_n C dX9_add_8 1 rfl rfl ?_
  refine w_iastore C dX9_add_9 hw (fun h hw => ?_)
  refine v_aload_n C dX9_add_10 0 rfl rfl ?_
  refine w_getN C fl_X9_15 dX9_add_11 rfl hw (fun a3 hw => ?_)
  refine v_aload_n C dX9_add_14 0 rfl rfl ?_
  refine w_getI C fl_X9_33 dX9_add_15 rfl hw (fun x4 hw => ?_)
  refine v_iload_n C dX9_add_18 2 rfl rfl ?_
  refine w_iastore C dX9_add_19 hw (fun h hw => ?_)
  refine v_aload_n C dX9_add_20 0 rfl rfl ?_
  refine w_getN C fl_X9_18 dX9_add_21 rfl hw (fun a5 hw => ?_)
  refine v_aload_n C dX9_add_24 0 rfl rfl ?_
  refine w_getI C fl_X9_33 dX9_add_25 rfl hw (fun x6 hw => ?_)
  refine v_iload_n C dX9_add_28 3 rfl rfl ?_
  refine w_iastore C dX9_add_29 hw (fun h hw => ?_)
  refine v_aload_n C dX9_add_30 0 rfl rfl ?_
  refine w_getN C fl_X9_21 dX9_add_31 rfl hw (fun a7 hw => ?_)
  refine v_aload_n C dX9_add_34 0 rfl rfl ?_
  refine w_getI C fl_X9_33 dX9_add_35 rfl hw (fun x8 hw => ?_)
  refine v_iload C dX9_add_38 4 rfl ?_
  refine w_iastore C dX9_add_40 hw (fun h hw => ?_)
  refine v_aload_n C dX9_add_41 0 rfl rfl ?_
  refine v_dup C dX9_add_42 rfl ?_
  refine w_getI C fl_X9_33 dX9_add_43 rfl hw (fun x9 hw => ?_)
  refine v_iconst (v := 1) C dX9_add_46 (by decide) ?_
  refine v_iadd C dX9_add_47 ?_
  refine w_putI C fp_X9_33 (Or.inl rfl) dX9_add_48 hw (fun h hw => ?_)
  refine v_aload_n C dX9_add_51 0 rfl rfl ?_
  refine w_getI C fl_X9_33 dX9_add_52 rfl hw (fun x10 hw => ?_)
  refine v_iconst (v := 1) C dX9_add_55 (by decide) ?_
  refine v_isub C dX9_add_56 ?_
  exact (rt_MQ C _).1 _ _ _ _ _ _ hr dX9_add_57 (by decide) (by decide) ⟨_, rfl, hw⟩
-- GrassField$Tellers.addTelling(III)I
theorem dX9_addTelling_0 : decode cX9_addTelling 0 = .ok (.aload_n 0, 1) := by decide +kernel
theorem dX9_addTelling_1 : decode cX9_addTelling 1 = .ok (.getfield 24, 3) := by decide +kernel
theorem dX9_addTelling_4 : decode cX9_addTelling 4 = .ok (.aload_n 0, 1) := by decide +kernel
theorem dX9_addTelling_5 : decode cX9_addTelling 5 = .ok (.getfield 37, 3) := by decide +kernel
theorem dX9_addTelling_8 : decode cX9_addTelling 8 = .ok (.iload_n 1, 1) := by decide +kernel
theorem dX9_addTelling_9 : decode cX9_addTelling 9 = .ok (.iastore, 1) := by decide +kernel
theorem dX9_addTelling_10 : decode cX9_addTelling 10 = .ok (.aload_n 0, 1) := by decide +kernel
theorem dX9_addTelling_11 : decode cX9_addTelling 11 = .ok (.getfield 27, 3) := by decide +kernel
theorem dX9_addTelling_14 : decode cX9_addTelling 14 = .ok (.aload_n 0, 1) := by decide +kernel
theorem dX9_addTelling_15 : decode cX9_addTelling 15 = .ok (.getfield 37, 3) := by decide +kernel
theorem dX9_addTelling_18 : decode cX9_addTelling 18 = .ok (.iload_n 2, 1) := by decide +kernel
theorem dX9_addTelling_19 : decode cX9_addTelling 19 = .ok (.iastore, 1) := by decide +kernel
theorem dX9_addTelling_20 : decode cX9_addTelling 20 = .ok (.aload_n 0, 1) := by decide +kernel
theorem dX9_addTelling_21 : decode cX9_addTelling 21 = .ok (.getfield 30, 3) := by decide +kernel
theorem dX9_addTelling_24 : decode cX9_addTelling 24 = .ok (.aload_n 0, 1) := by decide +kernel
theorem dX9_addTelling_25 : decode cX9_addTelling 25 = .ok (.getfield 37, 3) := by decide +kernel
theorem dX9_addTelling_28 : decode cX9_addTelling 28 = .ok (.iload_n 3, 1) := by decide +kernel
theorem dX9_addTelling_29 : decode cX9_addTelling 29 = .ok (.iastore, 1) := by decide +kernel
theorem dX9_addTelling_30 : decode cX9_addTelling 30 = .ok (.aload_n 0, 1) := by decide +kernel
theorem dX9_addTelling_31 : decode cX9_addTelling 31 = .ok (.dup, 1) := by decide +kernel
theorem dX9_addTelling_32 : decode cX9_addTelling 32 = .ok (.getfield 37, 3) := by decide +kernel
theorem dX9_addTelling_35 : decode cX9_addTelling 35 = .ok (.iconst 1, 1) := by decide +kernel
theorem dX9_addTelling_36 : decode cX9_addTelling 36 = .ok (.iadd, 1) := by decide +kernel
theorem dX9_addTelling_37 : decode cX9_addTelling 37 = .ok (.putfield 37, 3) := by decide +kernel
theorem dX9_addTelling_40 : decode cX9_addTelling 40 = .ok (.aload_n 0, 1) := by decide +kernel
theorem dX9_addTelling_41 : decode cX9_addTelling 41 = .ok (.getfield 37, 3) := by decide +kernel
theorem dX9_addTelling_44 : decode cX9_addTelling 44 = .ok (.iconst 1, 1) := by decide +kernel
theorem dX9_addTelling_45 : decode cX9_addTelling 45 = .ok (.isub, 1) := by decide +kernel
theorem dX9_addTelling_46 : decode cX9_addTelling 46 = .ok (.ireturn, 1) := by decide +kernel
def w_X9_addTelling  (v0 : Nat) (v1 : Int32) (v2 : Int32) (v3 : Int32) (h : AH) (Q : Int32 → AH → Prop) : Prop :=
  fN h v0 9 6 fun a1 =>
  fI h v0 9 5 fun x2 =>
  tI h a1 x2 v1 fun h =>
  fN h v0 9 7 fun a3 =>
  fI h v0 9 5 fun x4 =>
  tI h a3 x4 v2 fun h =>
  fN h v0 9 8 fun a5 =>
  fI h v0 9 5 fun x6 =>
  tI h a5 x6 v3 fun h =>
  fI h v0 9 5 fun x7 =>
  uI h v0 9 5 (x7 + (1 : Int32)) fun h =>
  fI h v0 9 5 fun x8 =>
  Q (x8 - (1 : Int32)) h
set_option maxRecDepth 100000 in
set_option maxHeartbeats 4000000 in
theorem s_X9_addTelling {l : Launch}  {v0 : Nat} {v1 : Int32} {v2 : Int32} {v3 : Int32} {h : AH} {Q : Int32 → AH → Prop}  (hw : w_X9_addTelling  v0 v1 v2 v3 h Q) : CT l yX9_addTelling cX9_addTelling 4 (some .int) 0 0 0 [.ref v0, .int v1, .int v2, .int v3] h (QI Q) := by
  refine CT.of (by decide) ⟨rfl, ⟨rfl, ⟨rfl, ⟨rfl, trivial⟩⟩⟩⟩ (Nat.le_of_ble_eq_true rfl) ?_
  intro p e s m args below meth c g C hr hin
  refine v_eq (pc' := 0) (ls' := [(0, .ref v0), (1, .int v1), (2, .int v2), (3, .int v3)]) rfl rfl rfl rfl ?_
  refine v_aload_n C dX9_addTelling_0 0 rfl rfl ?_
  refine w_getN C fl_X9_24 dX9_addTelling_1 rfl hw (fun a1 hw => ?_)
  refine v_aload_n C dX9_addTelling_4 0 rfl rfl ?_
  refine w_getI C fl_X9_37 dX9_addTelling_5 rfl hw (fun x2 hw => ?_)
  refine v_iload_n C dX9_addTelling_8 1 rfl rfl ?_
  refine w_iastore C dX9_addTelling_9 hw (fun h hw => ?_)
  refine v_aload_n C dX9_addTelling_10 0 rfl rfl ?_
  refine w_getN C fl_X9_27 dX9_addTelling_11 rfl hw (fun a3 hw => ?_)
  refine v_aload_n C dX9_addTelling_14 0 rfl rfl ?_
  refine w_getI C fl_X9_37 dX9_addTelling_15 rfl hw (fun x4 hw => ?_)
  refine v_iload_n C dX9_addTelling_18 2 rfl rfl ?_
  refine w_iastore C dX9_addTelling_19 hw (fun h hw => ?_)
  refine v_aload_n C dX9_addTelling_20 0 rfl rfl ?_
  refine w_getN C fl_X9_30 dX9_addTelling_21 rfl hw (fun a5 hw => ?_)
  refine v_aload_n C dX9_addTelling_24 0 rfl rfl ?_
  refine w_getI C fl_X9_37 dX9_addTelling_25 rfl hw (fun x6 hw => ?_)
  refine v_iload_n C dX9_addTelling_28 3 rfl rfl ?_
  refine w_iastore C dX9_addTelling_29 hw (fun h hw => ?_)
  refine v_aload_n C dX9_addTelling_30 0 rfl rfl ?_
  refine v_dup C dX9_addTelling_31 rfl ?_
  refine w_getI C fl_X9_37 dX9_addTelling_32 rfl hw (fun x7 hw => ?_)
  refine v_iconst (v := 1) C dX9_addTelling_35 (by decide) ?_
  refine v_iadd C dX9_addTelling_36 ?_
  refine w_putI C fp_X9_37 (Or.inl rfl) dX9_addTelling_37 hw (fun h hw => ?_)
  refine v_aload_n C dX9_addTelling_40 0 rfl rfl ?_
  refine w_getI C fl_X9_37 dX9_addTelling_41 rfl hw (fun x8 hw => ?_)
  refine v_iconst (v := 1) C dX9_addTelling_44 (by decide) ?_
  refine v_isub C dX9_addTelling_45 ?_
  exact (rt_MQ C _).1 _ _ _ _ _ _ hr dX9_addTelling_46 (by decide) (by decide) ⟨_, rfl, hw⟩
-- GrassField$Tellers.become(LGrassField$Tellers;)V
theorem dX9_become_0 : decode cX9_become 0 = .ok (.aload_n 0, 1) := by decide +kernel
theorem dX9_become_1 : decode cX9_become 1 = .ok (.aload_n 1, 1) := by decide +kernel
theorem dX9_become_2 : decode cX9_become 2 = .ok (.getfield 33, 3) := by decide +kernel
theorem dX9_become_5 : decode cX9_become 5 = .ok (.putfield 33, 3) := by decide +kernel
theorem dX9_become_8 : decode cX9_become 8 = .ok (.aload_n 1, 1) := by decide +kernel
theorem dX9_become_9 : decode cX9_become 9 = .ok (.getfield 9, 3) := by decide +kernel
theorem dX9_become_12 : decode cX9_become 12 = .ok (.iconst 0, 1) := by decide +kernel
theorem dX9_become_13 : decode cX9_become 13 = .ok (.aload_n 0, 1) := by decide +kernel
theorem dX9_become_14 : decode cX9_become 14 = .ok (.getfield 9, 3) := by decide +kernel
theorem dX9_become_17 : decode cX9_become 17 = .ok (.iconst 0, 1) := by decide +kernel
theorem dX9_become_18 : decode cX9_become 18 = .ok (.bipush 8, 2) := by decide +kernel
theorem dX9_become_20 : decode cX9_become 20 = .ok (.invokestatic 52, 3) := by decide +kernel
theorem dX9_become_23 : decode cX9_become 23 = .ok (.aload_n 1, 1) := by decide +kernel
theorem dX9_become_24 : decode cX9_become 24 = .ok (.getfield 15, 3) := by decide +kernel
theorem dX9_become_27 : decode cX9_become 27 = .ok (.iconst 0, 1) := by decide +kernel
theorem dX9_become_28 : decode cX9_become 28 = .ok (.aload_n 0, 1) := by decide +kernel
theorem dX9_become_29 : decode cX9_become 29 = .ok (.getfield 15, 3) := by decide +kernel
theorem dX9_become_32 : decode cX9_become 32 = .ok (.iconst 0, 1) := by decide +kernel
theorem dX9_become_33 : decode cX9_become 33 = .ok (.bipush 8, 2) := by decide +kernel
theorem dX9_become_35 : decode cX9_become 35 = .ok (.invokestatic 52, 3) := by decide +kernel
theorem dX9_become_38 : decode cX9_become 38 = .ok (.aload_n 1, 1) := by decide +kernel
theorem dX9_become_39 : decode cX9_become 39 = .ok (.getfield 18, 3) := by decide +kernel
theorem dX9_become_42 : decode cX9_become 42 = .ok (.iconst 0, 1) := by decide +kernel
theorem dX9_become_43 : decode cX9_become 43 = .ok (.aload_n 0, 1) := by decide +kernel
theorem dX9_become_44 : decode cX9_become 44 = .ok (.getfield 18, 3) := by decide +kernel
theorem dX9_become_47 : decode cX9_become 47 = .ok (.iconst 0, 1) := by decide +kernel
theorem dX9_become_48 : decode cX9_become 48 = .ok (.bipush 8, 2) := by decide +kernel
theorem dX9_become_50 : decode cX9_become 50 = .ok (.invokestatic 52, 3) := by decide +kernel
theorem dX9_become_53 : decode cX9_become 53 = .ok (.aload_n 1, 1) := by decide +kernel
theorem dX9_become_54 : decode cX9_become 54 = .ok (.getfield 21, 3) := by decide +kernel
theorem dX9_become_57 : decode cX9_become 57 = .ok (.iconst 0, 1) := by decide +kernel
theorem dX9_become_58 : decode cX9_become 58 = .ok (.aload_n 0, 1) := by decide +kernel
theorem dX9_become_59 : decode cX9_become 59 = .ok (.getfield 21, 3) := by decide +kernel
theorem dX9_become_62 : decode cX9_become 62 = .ok (.iconst 0, 1) := by decide +kernel
theorem dX9_become_63 : decode cX9_become 63 = .ok (.bipush 8, 2) := by decide +kernel
theorem dX9_become_65 : decode cX9_become 65 = .ok (.invokestatic 52, 3) := by decide +kernel
theorem dX9_become_68 : decode cX9_become 68 = .ok (.aload_n 0, 1) := by decide +kernel
theorem dX9_become_69 : decode cX9_become 69 = .ok (.aload_n 1, 1) := by decide +kernel
theorem dX9_become_70 : decode cX9_become 70 = .ok (.getfield 37, 3) := by decide +kernel
theorem dX9_become_73 : decode cX9_become 73 = .ok (.putfield 37, 3) := by decide +kernel
theorem dX9_become_76 : decode cX9_become 76 = .ok (.aload_n 1, 1) := by decide +kernel
theorem dX9_become_77 : decode cX9_become 77 = .ok (.getfield 24, 3) := by decide +kernel
theorem dX9_become_80 : decode cX9_become 80 = .ok (.iconst 0, 1) := by decide +kernel
theorem dX9_become_81 : decode cX9_become 81 = .ok (.aload_n 0, 1) := by decide +kernel
theorem dX9_become_82 : decode cX9_become 82 = .ok (.getfield 24, 3) := by decide +kernel
theorem dX9_become_85 : decode cX9_become 85 = .ok (.iconst 0, 1) := by decide +kernel
theorem dX9_become_86 : decode cX9_become 86 = .ok (.bipush 20, 2) := by decide +kernel
theorem dX9_become_88 : decode cX9_become 88 = .ok (.invokestatic 52, 3) := by decide +kernel
theorem dX9_become_91 : decode cX9_become 91 = .ok (.aload_n 1, 1) := by decide +kernel
theorem dX9_become_92 : decode cX9_become 92 = .ok (.getfield 27, 3) := by decide +kernel
theorem dX9_become_95 : decode cX9_become 95 = .ok (.iconst 0, 1) := by decide +kernel
theorem dX9_become_96 : decode cX9_become 96 = .ok (.aload_n 0, 1) := by decide +kernel
theorem dX9_become_97 : decode cX9_become 97 = .ok (.getfield 27, 3) := by decide +kernel
theorem dX9_become_100 : decode cX9_become 100 = .ok (.iconst 0, 1) := by decide +kernel
theorem dX9_become_101 : decode cX9_become 101 = .ok (.bipush 20, 2) := by decide +kernel
theorem dX9_become_103 : decode cX9_become 103 = .ok (.invokestatic 52, 3) := by decide +kernel
theorem dX9_become_106 : decode cX9_become 106 = .ok (.aload_n 1, 1) := by decide +kernel
theorem dX9_become_107 : decode cX9_become 107 = .ok (.getfield 30, 3) := by decide +kernel
theorem dX9_become_110 : decode cX9_become 110 = .ok (.iconst 0, 1) := by decide +kernel
theorem dX9_become_111 : decode cX9_become 111 = .ok (.aload_n 0, 1) := by decide +kernel
theorem dX9_become_112 : decode cX9_become 112 = .ok (.getfield 30, 3) := by decide +kernel
theorem dX9_become_115 : decode cX9_become 115 = .ok (.iconst 0, 1) := by decide +kernel
theorem dX9_become_116 : decode cX9_become 116 = .ok (.bipush 20, 2) := by decide +kernel
theorem dX9_become_118 : decode cX9_become 118 = .ok (.invokestatic 52, 3) := by decide +kernel
theorem dX9_become_121 : decode cX9_become 121 = .ok (.return_, 1) := by decide +kernel
def w_X9_become  (v0 : Nat) (v1 : Nat) (h : AH) (Q : AH → Prop) : Prop :=
  fI h v1 9 0 fun x1 =>
  uI h v0 9 0 x1 fun h =>
  fN h v1 9 1 fun a2 =>
  fN h v0 9 1 fun a3 =>
  cp h a2 (0 : Int32) a3 (0 : Int32) (8 : Int32) fun h =>
  fN h v1 9 2 fun a4 =>
  fN h v0 9 2 fun a5 =>
  cp h a4 (0 : Int32) a5 (0 : Int32) (8 : Int32) fun h =>
  fN h v1 9 3 fun a6 =>
  fN h v0 9 3 fun a7 =>
  cp h a6 (0 : Int32) a7 (0 : Int32) (8 : Int32) fun h =>
  fN h v1 9 4 fun a8 =>
  fN h v0 9 4 fun a9 =>
  cp h a8 (0 : Int32) a9 (0 : Int32) (8 : Int32) fun h =>
  fI h v1 9 5 fun x10 =>
  uI h v0 9 5 x10 fun h =>
  fN h v1 9 6 fun a11 =>
  fN h v0 9 6 fun a12 =>
  cp h a11 (0 : Int32) a12 (0 : Int32) (20 : Int32) fun h =>
  fN h v1 9 7 fun a13 =>
  fN h v0 9 7 fun a14 =>
  cp h a13 (0 : Int32) a14 (0 : Int32) (20 : Int32) fun h =>
  fN h v1 9 8 fun a15 =>
  fN h v0 9 8 fun a16 =>
  cp h a15 (0 : Int32) a16 (0 : Int32) (20 : Int32) fun h =>
  Q h
set_option maxRecDepth 100000 in
set_option maxHeartbeats 4000000 in
theorem s_X9_become {l : Launch}  {v0 : Nat} {v1 : Nat} {h : AH} {Q : AH → Prop}  (hw : w_X9_become  v0 v1 h Q) : CT l yX9_become cX9_become 2 none 1 0 0 [.ref v0, .ref v1] h (QV Q) := by
  refine CT.of (by decide) ⟨rfl, ⟨rfl, trivial⟩⟩ (Nat.le_of_ble_eq_true rfl) ?_
  intro p e s m args below meth c g C hr hin
  refine v_eq (pc' := 0) (ls' := [(0, .ref v0), (1, .ref v1)]) rfl rfl rfl rfl ?_
  refine v_aload_n C dX9_become_0 0 rfl rfl ?_
  refine v_aload_n C dX9_become_1 1 rfl rfl ?_
  refine w_getI C fl_X9_33 dX9_become_2 rfl hw (fun x1 hw => ?_)
  refine w_putI C fp_X9_33 (Or.inl rfl) dX9_become_5 hw (fun h hw => ?_)
  refine v_aload_n C dX9_become_8 1 rfl rfl ?_
  refine w_getN C fl_X9_9 dX9_become_9 rfl hw (fun a2 hw => ?_)
  refine v_iconst (v := 0) C dX9_become_12 (by decide) ?_
  refine v_aload_n C dX9_become_13 0 rfl rfl ?_
  refine w_getN C fl_X9_9 dX9_become_14 rfl hw (fun a3 hw => ?_)
  refine v_iconst (v := 0) C dX9_become_17 (by decide) ?_
  refine v_bipush (v := 8) C dX9_become_18 (by decide) ?_
  refine w_acopy C ac_X9_52 ac_nat ac_st ac_in dX9_become_20 (by decide) (by decide) hw (fun h hw => ?_)
  refine v_aload_n C dX9_become_23 1 rfl rfl ?_
  refine w_getN C fl_X9_15 dX9_become_24 rfl hw (fun a4 hw => ?_)
  refine v_iconst (v := 0) C dX9_become_27 (by decide) ?_
  refine v_aload_n C dX9_become_28 0 rfl rfl ?_
  refine w_getN C fl_X9_15 dX9_become_29 rfl hw (fun a5 hw => ?_)
  refine v_iconst (v := 0) C dX9_become_32 (by decide) ?_
  refine v_bipush (v := 8) C dX9_become_33 (by decide) ?_
  refine w_acopy C ac_X9_52 ac_nat ac_st ac_in dX9_become_35 (by decide) (by decide) hw (fun h hw => ?_)
  refine v_aload_n C dX9_become_38 1 rfl rfl ?_
  refine w_getN C fl_X9_18 dX9_become_39 rfl hw (fun a6 hw => ?_)
  refine v_iconst (v := 0) C dX9_become_42 (by decide) ?_
  refine v_aload_n C dX9_become_43 0 rfl rfl ?_
  refine w_getN C fl_X9_18 dX9_become_44 rfl hw (fun a7 hw => ?_)
  refine v_iconst (v := 0) C dX9_become_47 (by decide) ?_
  refine v_bipush (v := 8) C dX9_become_48 (by decide) ?_
  refine w_acopy C ac_X9_52 ac_nat ac_st ac_in dX9_become_50 (by decide) (by decide) hw (fun h hw => ?_)
  refine v_aload_n C dX9_become_53 1 rfl rfl ?_
  refine w_getN C fl_X9_21 dX9_become_54 rfl hw (fun a8 hw => ?_)
  refine v_iconst (v := 0) C dX9_become_57 (by decide) ?_
  refine v_aload_n C dX9_become_58 0 rfl rfl ?_
  refine w_getN C fl_X9_21 dX9_become_59 rfl hw (fun a9 hw => ?_)
  refine v_iconst (v := 0) C dX9_become_62 (by decide) ?_
  refine v_bipush (v := 8) C dX9_become_63 (by decide) ?_
  refine w_acopy C ac_X9_52 ac_nat ac_st ac_in dX9_become_65 (by decide) (by decide) hw (fun h hw => ?_)
  refine v_aload_n C dX9_become_68 0 rfl rfl ?_
  refine v_aload_n C dX9_become_69 1 rfl rfl ?_
  refine w_getI C fl_X9_37 dX9_become_70 rfl hw (fun x10 hw => ?_)
  refine w_putI C fp_X9_37 (Or.inl rfl) dX9_become_73 hw (fun h hw => ?_)
  refine v_aload_n C dX9_become_76 1 rfl rfl ?_
  refine w_getN C fl_X9_24 dX9_become_77 rfl hw (fun a11 hw => ?_)
  refine v_iconst (v := 0) C dX9_become_80 (by decide) ?_
  refine v_aload_n C dX9_become_81 0 rfl rfl ?_
  refine w_getN C fl_X9_24 dX9_become_82 rfl hw (fun a12 hw => ?_)
  refine v_iconst (v := 0) C dX9_become_85 (by decide) ?_
  refine v_bipush (v := 20) C dX9_become_86 (by decide) ?_
  refine w_acopy C ac_X9_52 ac_nat ac_st ac_in dX9_become_88 (by decide) (by decide) hw (fun h hw => ?_)
  refine v_aload_n C dX9_become_91 1 rfl rfl ?_
  refine w_getN C fl_X9_27 dX9_become_92 rfl hw (fun a13 hw => ?_)
  refine v_iconst (v := 0) C dX9_become_95 (by decide) ?_
  refine v_aload_n C dX9_become_96 0 rfl rfl ?_
  refine w_getN C fl_X9_27 dX9_become_97 rfl hw (fun a14 hw => ?_)
  refine v_iconst (v := 0) C dX9_become_100 (by decide) ?_
  refine v_bipush (v := 20) C dX9_become_101 (by decide) ?_
  refine w_acopy C ac_X9_52 ac_nat ac_st ac_in dX9_become_103 (by decide) (by decide) hw (fun h hw => ?_)
  refine v_aload_n C dX9_become_106 1 rfl rfl ?_
  refine w_getN C fl_X9_30 dX9_become_107 rfl hw (fun a15 hw => ?_)
  refine v_iconst (v := 0) C dX9_become_110 (by decide) ?_
  refine v_aload_n C dX9_become_111 0 rfl rfl ?_
  refine w_getN C fl_X9_30 dX9_become_112 rfl hw (fun a16 hw => ?_)
  refine v_iconst (v := 0) C dX9_become_115 (by decide) ?_
  refine v_bipush (v := 20) C dX9_become_116 (by decide) ?_
  refine w_acopy C ac_X9_52 ac_nat ac_st ac_in dX9_become_118 (by decide) (by decide) hw (fun h hw => ?_)
  exact (rt_MQ C _).2.2.1 _ _ _ _ _ hr dX9_become_121 (by decide) (by decide) ⟨rfl, hw⟩
-- GrassField$Tellers.hasToldOf(II)Z
theorem dX9_hasToldOf_0 : decode cX9_hasToldOf 0 = .ok (.iconst 0, 1) := by decide +kernel
theorem dX9_hasToldOf_1 : decode cX9_hasToldOf 1 = .ok (.istore_n 3, 1) := by decide +kernel
theorem dX9_hasToldOf_2 : decode cX9_hasToldOf 2 = .ok (.iload_n 3, 1) := by decide +kernel
theorem dX9_hasToldOf_3 : decode cX9_hasToldOf 3 = .ok (.aload_n 0, 1) := by decide +kernel
theorem dX9_hasToldOf_4 : decode cX9_hasToldOf 4 = .ok (.getfield 37, 3) := by decide +kernel
theorem dX9_hasToldOf_7 : decode cX9_hasToldOf 7 = .ok (.if_icmp .ge 31, 3) := by decide +kernel
theorem dX9_hasToldOf_10 : decode cX9_hasToldOf 10 = .ok (.aload_n 0, 1) := by decide +kernel
theorem dX9_hasToldOf_11 : decode cX9_hasToldOf 11 = .ok (.getfield 24, 3) := by decide +kernel
theorem dX9_hasToldOf_14 : decode cX9_hasToldOf 14 = .ok (.iload_n 3, 1) := by decide +kernel
theorem dX9_hasToldOf_15 : decode cX9_hasToldOf 15 = .ok (.iaload, 1) := by decide +kernel
theorem dX9_hasToldOf_16 : decode cX9_hasToldOf 16 = .ok (.iload_n 1, 1) := by decide +kernel
theorem dX9_hasToldOf_17 : decode cX9_hasToldOf 17 = .ok (.if_icmp .ne 15, 3) := by decide +kernel
theorem dX9_hasToldOf_20 : decode cX9_hasToldOf 20 = .ok (.aload_n 0, 1) := by decide +kernel
theorem dX9_hasToldOf_21 : decode cX9_hasToldOf 21 = .ok (.getfield 27, 3) := by decide +kernel
theorem dX9_hasToldOf_24 : decode cX9_hasToldOf 24 = .ok (.iload_n 3, 1) := by decide +kernel
theorem dX9_hasToldOf_25 : decode cX9_hasToldOf 25 = .ok (.iaload, 1) := by decide +kernel
theorem dX9_hasToldOf_26 : decode cX9_hasToldOf 26 = .ok (.iload_n 2, 1) := by decide +kernel
theorem dX9_hasToldOf_27 : decode cX9_hasToldOf 27 = .ok (.if_icmp .ne 5, 3) := by decide +kernel
theorem dX9_hasToldOf_30 : decode cX9_hasToldOf 30 = .ok (.iconst 1, 1) := by decide +kernel
theorem dX9_hasToldOf_31 : decode cX9_hasToldOf 31 = .ok (.ireturn, 1) := by decide +kernel
theorem dX9_hasToldOf_32 : decode cX9_hasToldOf 32 = .ok (.iinc 3 1, 3) := by decide +kernel
theorem dX9_hasToldOf_35 : decode cX9_hasToldOf 35 = .ok (.goto (-33), 3) := by decide +kernel
theorem dX9_hasToldOf_38 : decode cX9_hasToldOf 38 = .ok (.iconst 0, 1) := by decide +kernel
theorem dX9_hasToldOf_39 : decode cX9_hasToldOf 39 = .ok (.ireturn, 1) := by decide +kernel
def w_X9_hasToldOf_38  (h : AH) (Q : Int32 → AH → Prop) : Prop :=
  Q (0 : Int32) h
def w_X9_hasToldOf_32  (x30 : AH → Prop) (x38 : AH → Prop) (k : Int32 → AH → Prop) (v0 : Nat) (v1 : Int32) (v2 : Int32) (v3 : Int32) (h : AH) (Q : Int32 → AH → Prop) : Prop :=
  k (v3 + 1) h
def w_X9_hasToldOf_30  (h : AH) (Q : Int32 → AH → Prop) : Prop :=
  Q (1 : Int32) h
def w_X9_hasToldOf_2  (x30 : AH → Prop) (x38 : AH → Prop) (k : Int32 → AH → Prop) (v0 : Nat) (v1 : Int32) (v2 : Int32) (v3 : Int32) (h : AH) (Q : Int32 → AH → Prop) : Prop :=
  fI h v0 9 5 fun x1 =>
  br (x1 ≤ v3) (
    x38  h) (
    fN h v0 9 6 fun a2 =>
    aI h a2 v3 fun x3 =>
    br (x3 = v1) (
      fN h v0 9 7 fun a4 =>
      aI h a4 v3 fun x5 =>
      br (x5 = v2) (
        x30  h) (
        w_X9_hasToldOf_32 x30 x38 k v0 v1 v2 v3 h Q)) (
      w_X9_hasToldOf_32 x30 x38 k v0 v1 v2 v3 h Q))
def w_X9_hasToldOf  (v0 : Nat) (v1 : Int32) (v2 : Int32) (h : AH) (Q : Int32 → AH → Prop) : Prop :=
  lp (fun (k2 : Int32 × AH → Prop) (s2 : Int32 × AH) => w_X9_hasToldOf_2  (fun  h => w_X9_hasToldOf_30  h Q) (fun  h => w_X9_hasToldOf_38  h Q) (fun (y3 : Int32) h => k2 (y3, h)) v0 v1 v2 s2.1 s2.2 Q) ((0 : Int32), h)
set_option maxRecDepth 100000 in
set_option maxHeartbeats 4000000 in
theorem s_X9_hasToldOf_38 {p : Program} {l : Launch} {e : Env} {s : State} {m : MethodId} {args : Array Value} {below : List Frame} {meth : Method} {c : Code} {g : GG}  {Q : Int32 → AH → Prop}  (C : CXT p l s m args meth c RX9 cX9_hasToldOf 4 g) (hr : meth.sig.returnType = (some .boolean))  : ∀  (h : AH), w_X9_hasToldOf_38  h Q → V p l e s m args below meth c g 0 0 0 4 0 0 (MQ below (QCx g (QI Q)) args s 0 0 (gA g)) 38 [] [] h := by
  intro  h hw
  refine v_iconst (v := 0) C dX9_hasToldOf_38 (by decide) ?_
  exact (rt_MQ C _).2.1 _ _ _ _ _ _ _ hr rfl dX9_hasToldOf_39 (by decide) (by decide) ⟨_, rfl, hw⟩
set_option maxRecDepth 100000 in
set_option maxHeartbeats 4000000 in
theorem s_X9_hasToldOf_32 {p : Program} {l : Launch} {e : Env} {s : State} {m : MethodId} {args : Array Value} {below : List Frame} {meth : Method} {c : Code} {g : GG} {v0 : Nat} {v1 : Int32} {v2 : Int32} {Q : Int32 → AH → Prop} {x30 : AH → Prop} {x38 : AH → Prop} {k : Int32 → AH → Prop} (C : CXT p l s m args meth c RX9 cX9_hasToldOf 4 g) (hr : meth.sig.returnType = (some .boolean)) (hx30 : ∀  (h : AH), x30  h → V p l e s m args below meth c g 0 0 0 4 0 0 (MQ below (QCx g (QI Q)) args s 0 0 (gA g)) 30 [] [] h) (hx38 : ∀  (h : AH), x38  h → V p l e s m args below meth c g 0 0 0 4 0 0 (MQ below (QCx g (QI Q)) args s 0 0 (gA g)) 38 [] [] h) (hk : ∀ (y3 : Int32) (h : AH), k y3 h → V p l e s m args below meth c g 0 0 0 4 0 0 (MQ below (QCx g (QI Q)) args s 0 0 (gA g)) 2 [(0, .ref v0), (1, .int v1), (2, .int v2), (3, .int y3)] [] h) : ∀ (v3 : Int32) (h : AH), w_X9_hasToldOf_32  x30 x38 k v0 v1 v2 v3 h Q → V p l e s m args below meth c g 0 0 0 4 0 0 (MQ below (QCx g (QI Q)) args s 0 0 (gA g)) 32 [(0, .ref v0), (1, .int v1), (2, .int v2), (3, .int v3)] [] h := by
  intro v3 h hw
  refine v_iinc (v := 1) (ls' := [(3, .int (v3 + 1)), (0, .ref v0), (1, .int v1), (2, .int v2)]) C dX9_hasToldOf_32 3 rfl (by decide) (by decide) rfl ?_
  refine v_goto (tgt := 2) C dX9_hasToldOf_35 (by decide) ?_
  refine v_sub [1, 2, 3, 0] rfl ?_
  exact hk _ _ hw
set_option maxRecDepth 100000 in
set_option maxHeartbeats 4000000 in
theorem s_X9_hasToldOf_30 {p : Program} {l : Launch} {e : Env} {s : State} {m : MethodId} {args : Array Value} {below : List Frame} {meth : Method} {c : Code} {g : GG}  {Q : Int32 → AH → Prop}  (C : CXT p l s m args meth c RX9 cX9_hasToldOf 4 g) (hr : meth.sig.returnType = (some .boolean))  : ∀  (h : AH), w_X9_hasToldOf_30  h Q → V p l e s m args below meth c g 0 0 0 4 0 0 (MQ below (QCx g (QI Q)) args s 0 0 (gA g)) 30 [] [] h := by
  intro  h hw
  refine v_iconst (v := 1) C dX9_hasToldOf_30 (by decide) ?_
  exact (rt_MQ C _).2.1 _ _ _ _ _ _ _ hr rfl dX9_hasToldOf_31 (by decide) (by decide) ⟨_, rfl, hw⟩
set_option maxRecDepth 100000 in
set_option maxHeartbeats 4000000 in
theorem s_X9_hasToldOf_2 {p : Program} {l : Launch} {e : Env} {s : State} {m : MethodId} {args : Array Value} {below : List Frame} {meth : Method} {c : Code} {g : GG} {v0 : Nat} {v1 : Int32} {v2 : Int32} {Q : Int32 → AH → Prop} {x30 : AH → Prop} {x38 : AH → Prop} {k : Int32 → AH → Prop} (C : CXT p l s m args meth c RX9 cX9_hasToldOf 4 g) (hr : meth.sig.returnType = (some .boolean)) (hx30 : ∀  (h : AH), x30  h → V p l e s m args below meth c g 0 0 0 4 0 0 (MQ below (QCx g (QI Q)) args s 0 0 (gA g)) 30 [] [] h) (hx38 : ∀  (h : AH), x38  h → V p l e s m args below meth c g 0 0 0 4 0 0 (MQ below (QCx g (QI Q)) args s 0 0 (gA g)) 38 [] [] h) (hk : ∀ (y3 : Int32) (h : AH), k y3 h → V p l e s m args below meth c g 0 0 0 4 0 0 (MQ below (QCx g (QI Q)) args s 0 0 (gA g)) 2 [(0, .ref v0), (1, .int v1), (2, .int v2), (3, .int y3)] [] h) : ∀ (v3 : Int32) (h : AH), w_X9_hasToldOf_2  x30 x38 k v0 v1 v2 v3 h Q → V p l e s m args below meth c g 0 0 0 4 0 0 (MQ below (QCx g (QI Q)) args s 0 0 (gA g)) 2 [(0, .ref v0), (1, .int v1), (2, .int v2), (3, .int v3)] [] h := by
  intro v3 h hw
  refine v_iload_n C dX9_hasToldOf_2 3 rfl rfl ?_
  refine v_aload_n C dX9_hasToldOf_3 0 rfl rfl ?_
  refine w_getI C fl_X9_37 dX9_hasToldOf_4 rfl hw (fun x1 hw => ?_)
  refine v_icmp_ge (tgt := 38) C dX9_hasToldOf_7 (by decide) (fun c_7 => ?_) (fun c_7 => ?_)
  · have hw := hw.1 c_7
    refine v_sub [] rfl ?_
    exact hx38  _ hw
  · have hw := hw.2 c_7
    refine v_aload_n C dX9_hasToldOf_10 0 rfl rfl ?_
    refine w_getN C fl_X9_24 dX9_hasToldOf_11 rfl hw (fun a2 hw => ?_)
    refine v_iload_n C dX9_hasToldOf_14 3 rfl rfl ?_
    refine w_iaload C dX9_hasToldOf_15 hw (fun x3 hw => ?_)
    refine v_iload_n C dX9_hasToldOf_16 1 rfl rfl ?_
    refine v_icmp_ne (tgt := 32) C dX9_hasToldOf_17 (by decide) (fun c_17 => ?_) (fun c_17 => ?_)
    · have hw := hw.2 c_17
      exact s_X9_hasToldOf_32 C hr hx30 hx38 hk _ _ hw
    · have hw := hw.1 c_17
      refine v_aload_n C dX9_hasToldOf_20 0 rfl rfl ?_
      refine w_getN C fl_X9_27 dX9_hasToldOf_21 rfl hw (fun a4 hw => ?_)
      refine v_iload_n C dX9_hasToldOf_24 3 rfl rfl ?_
      refine w_iaload C dX9_hasToldOf_25 hw (fun x5 hw => ?_)
      refine v_iload_n C dX9_hasToldOf_26 2 rfl rfl ?_
      refine v_icmp_ne (tgt := 32) C dX9_hasToldOf_27 (by decide) (fun c_27 => ?_) (fun c_27 => ?_)
      · have hw := hw.2 c_27
        exact s_X9_hasToldOf_32 C hr hx30 hx38 hk _ _ hw
      · have hw := hw.1 c_27
        refine v_sub [] rfl ?_
        exact hx30  _ hw
set_option maxRecDepth 100000 in
set_option maxHeartbeats 4000000 in
theorem s_X9_hasToldOf {l : Launch}  {v0 : Nat} {v1 : Int32} {v2 : Int32} {h : AH} {Q : Int32 → AH → Prop}  (hw : w_X9_hasToldOf  v0 v1 v2 h Q) : CT l yX9_hasToldOf cX9_hasToldOf 4 (some .boolean) 0 0 0 [.ref v0, .int v1, .int v2] h (QI Q) := by
  refine CT.of (by decide) ⟨rfl, ⟨rfl, ⟨rfl, trivial⟩⟩⟩ (Nat.le_of_ble_eq_true rfl) ?_
  intro p e s m args below meth c g C hr hin
  refine v_eq (pc' := 0) (ls' := [(0, .ref v0), (1, .int v1), (2, .int v2)]) rfl rfl rfl rfl ?_
  refine v_iconst (v := 0) C dX9_hasToldOf_0 (by decide) ?_
  refine v_istore_n (ls' := [(3, .int (0 : Int32)), (0, .ref v0), (1, .int v1), (2, .int v2)]) C dX9_hasToldOf_1 rfl (by decide) rfl ?_
  refine v_sub [1, 2, 3, 0] rfl ?_
  refine lp_walk (P := fun (s' : Int32 × AH) => V p l e s m args below meth c g 0 0 0 4 0 0 (MQ below (QCx g (QI Q)) args s 0 0 (gA g)) 2 [(0, .ref v0), (1, .int v1), (2, .int v2), (3, .int (s'.1))] [] s'.2) (fun k2 hk2 s' hw => ?_) ((0 : Int32), h) hw
  exact s_X9_hasToldOf_2 C hr (fun  h hw => s_X9_hasToldOf_30 C hr   h hw) (fun  h hw => s_X9_hasToldOf_38 C hr   h hw) (fun y3 h hw => hk2 (y3, h) hw) _ _ hw
-- GrassField$Tellers.isPossible(ILGrassField$Land;)Z
theorem dX9_isPossible_0 : decode cX9_isPossible 0 = .ok (.aload_n 0, 1) := by decide +kernel
theorem dX9_isPossible_1 : decode cX9_isPossible 1 = .ok (.getfield 24, 3) := by decide +kernel
theorem dX9_isPossible_4 : decode cX9_isPossible 4 = .ok (.iload_n 1, 1) := by decide +kernel
theorem dX9_isPossible_5 : decode cX9_isPossible 5 = .ok (.iaload, 1) := by decide +kernel
theorem dX9_isPossible_6 : decode cX9_isPossible 6 = .ok (.istore_n 3, 1) := by decide +kernel
theorem dX9_isPossible_7 : decode cX9_isPossible 7 = .ok (.aload_n 0, 1) := by decide +kernel
theorem dX9_isPossible_8 : decode cX9_isPossible 8 = .ok (.getfield 30, 3) := by decide +kernel
theorem dX9_isPossible_11 : decode cX9_isPossible 11 = .ok (.iload_n 1, 1) := by decide +kernel
theorem dX9_isPossible_12 : decode cX9_isPossible 12 = .ok (.iaload, 1) := by decide +kernel
theorem dX9_isPossible_13 : decode cX9_isPossible 13 = .ok (.istore 4, 2) := by decide +kernel
theorem dX9_isPossible_15 : decode cX9_isPossible 15 = .ok (.aload_n 0, 1) := by decide +kernel
theorem dX9_isPossible_16 : decode cX9_isPossible 16 = .ok (.getfield 15, 3) := by decide +kernel
theorem dX9_isPossible_19 : decode cX9_isPossible 19 = .ok (.iload_n 3, 1) := by decide +kernel
theorem dX9_isPossible_20 : decode cX9_isPossible 20 = .ok (.iaload, 1) := by decide +kernel
theorem dX9_isPossible_21 : decode cX9_isPossible 21 = .ok (.iload 4, 2) := by decide +kernel
theorem dX9_isPossible_23 : decode cX9_isPossible 23 = .ok (.if_icmp .gt 37, 3) := by decide +kernel
theorem dX9_isPossible_26 : decode cX9_isPossible 26 = .ok (.iload 4, 2) := by decide +kernel
theorem dX9_isPossible_28 : decode cX9_isPossible 28 = .ok (.aload_n 0, 1) := by decide +kernel
theorem dX9_isPossible_29 : decode cX9_isPossible 29 = .ok (.getfield 18, 3) := by decide +kernel
theorem dX9_isPossible_32 : decode cX9_isPossible 32 = .ok (.iload_n 3, 1) := by decide +kernel
theorem dX9_isPossible_33 : decode cX9_isPossible 33 = .ok (.iaload, 1) := by decide +kernel
theorem dX9_isPossible_34 : decode cX9_isPossible 34 = .ok (.if_icmp .gt 26, 3) := by decide +kernel
theorem dX9_isPossible_37 : decode cX9_isPossible 37 = .ok (.aload_n 2, 1) := by decide +kernel
theorem dX9_isPossible_38 : decode cX9_isPossible 38 = .ok (.aload_n 0, 1) := by decide +kernel
theorem dX9_isPossible_39 : decode cX9_isPossible 39 = .ok (.getfield 9, 3) := by decide +kernel
theorem dX9_isPossible_42 : decode cX9_isPossible 42 = .ok (.iload_n 3, 1) := by decide +kernel
theorem dX9_isPossible_43 : decode cX9_isPossible 43 = .ok (.iaload, 1) := by decide +kernel
theorem dX9_isPossible_44 : decode cX9_isPossible 44 = .ok (.aload_n 0, 1) := by decide +kernel
theorem dX9_isPossible_45 : decode cX9_isPossible 45 = .ok (.getfield 27, 3) := by decide +kernel
theorem dX9_isPossible_48 : decode cX9_isPossible 48 = .ok (.iload_n 1, 1) := by decide +kernel
theorem dX9_isPossible_49 : decode cX9_isPossible 49 = .ok (.iaload, 1) := by decide +kernel
theorem dX9_isPossible_50 : decode cX9_isPossible 50 = .ok (.invokevirtual 40, 3) := by decide +kernel
theorem dX9_isPossible_53 : decode cX9_isPossible 53 = .ok (.ifCond .eq 7, 3) := by decide +kernel
theorem dX9_isPossible_56 : decode cX9_isPossible 56 = .ok (.iconst 1, 1) := by decide +kernel
theorem dX9_isPossible_57 : decode cX9_isPossible 57 = .ok (.goto 4, 3) := by decide +kernel
theorem dX9_isPossible_60 : decode cX9_isPossible 60 = .ok (.iconst 0, 1) := by decide +kernel
theorem dX9_isPossible_61 : decode cX9_isPossible 61 = .ok (.ireturn, 1) := by decide +kernel
def w_X9_isPossible_61  (t0 : Int32) (h : AH) (Q : Int32 → AH → Prop) : Prop :=
  z1 t0 (Q t0 h)
def w_X9_isPossible_60  (h : AH) (Q : Int32 → AH → Prop) : Prop :=
  w_X9_isPossible_61 (0 : Int32) h Q
def w_X9_isPossible  (v0 : Nat) (v1 : Int32) (v2 : Nat) (h : AH) (Q : Int32 → AH → Prop) : Prop :=
  fN h v0 9 6 fun a1 =>
  aI h a1 v1 fun x2 =>
  fN h v0 9 8 fun a3 =>
  aI h a3 v1 fun x4 =>
  fN h v0 9 2 fun a5 =>
  aI h a5 x2 fun x6 =>
  br (x4 < x6) (
    w_X9_isPossible_60  h Q) (
    fN h v0 9 3 fun a7 =>
    aI h a7 x2 fun x8 =>
    br (x8 < x4) (
      w_X9_isPossible_60  h Q) (
      fN h v0 9 1 fun a9 =>
      aI h a9 x2 fun x10 =>
      fN h v0 9 7 fun a11 =>
      aI h a11 v1 fun x12 =>
      vr h v2 3 (
      w_X3_isOpen v2 x10 x12 h (fun x13 h =>
      br (x13 = 0) (
        w_X9_isPossible_60  h Q) (
        w_X9_isPossible_61 (1 : Int32) h Q)))))
set_option maxRecDepth 100000 in
set_option maxHeartbeats 4000000 in
theorem s_X9_isPossible_61 {p : Program} {l : Launch} {e : Env} {s : State} {m : MethodId} {args : Array Value} {below : List Frame} {meth : Method} {c : Code} {g : GG}  {Q : Int32 → AH → Prop}  (C : CXT p l s m args meth c RX9 cX9_isPossible 5 g) (hr : meth.sig.returnType = (some .boolean))  : ∀ (t0 : Int32) (h : AH), w_X9_isPossible_61  t0 h Q → V p l e s m args below meth c g 3 0 0 5 0 0 (MQ below (QCx g (QI Q)) args s 0 0 (gA g)) 61 [] [.int t0] h := by
  intro t0 h hw
  exact (rt_MQ C _).2.1 _ _ _ _ _ _ _ hr (by rcases hw.1 with z | z <;> rw [z] <;> rfl) dX9_isPossible_61 (by decide) (by decide) ⟨_, rfl, hw.2⟩
set_option maxRecDepth 100000 in
set_option maxHeartbeats 4000000 in
theorem s_X9_isPossible_60 {p : Program} {l : Launch} {e : Env} {s : State} {m : MethodId} {args : Array Value} {below : List Frame} {meth : Method} {c : Code} {g : GG}  {Q : Int32 → AH → Prop}  (C : CXT p l s m args meth c RX9 cX9_isPossible 5 g) (hr : meth.sig.returnType = (some .boolean))  : ∀  (h : AH), w_X9_isPossible_60  h Q → V p l e s m args below meth c g 3 0 0 5 0 0 (MQ below (QCx g (QI Q)) args s 0 0 (gA g)) 60 [] [] h := by
  intro  h hw
  refine v_iconst (v := 0) C dX9_isPossible_60 (by decide) ?_
  exact s_X9_isPossible_61 C hr  _ _ hw
set_option maxRecDepth 100000 in
set_option maxHeartbeats 4000000 in
theorem s_X9_isPossible {l : Launch}  {v0 : Nat} {v1 : Int32} {v2 : Nat} {h : AH} {Q : Int32 → AH → Prop}  (hw : w_X9_isPossible  v0 v1 v2 h Q) : CT l yX9_isPossible cX9_isPossible 5 (some .boolean) 3 0 0 [.ref v0, .int v1, .ref v2] h (QI Q) := by
  refine CT.of (by decide) ⟨rfl, ⟨rfl, ⟨rfl, trivial⟩⟩⟩ (Nat.le_of_ble_eq_true rfl) ?_
  intro p e s m args below meth c g C hr hin
  refine v_eq (pc' := 0) (ls' := [(0, .ref v0), (1, .int v1), (2, .ref v2)]) rfl rfl rfl rfl ?_
  refine v_aload_n C dX9_isPossible_0 0 rfl rfl ?_
  refine w_getN C fl_X9_24 dX9_isPossible_1 rfl hw (fun a1 hw => ?_)
  refine v_iload_n C dX9_isPossible_4 1 rfl rfl ?_
  refine w_iaload C dX9_isPossible_5 hw (fun x2 hw => ?_)
  refine v_istore_n (ls' := [(3, .int x2), (0, .ref v0), (1, .int v1), (2, .ref v2)]) C dX9_isPossible_6 rfl (by decide) rfl ?_
  refine v_aload_n C dX9_isPossible_7 1 rfl rfl ?_
  refine w_getN C fl_X9_30 dX9_isPossible_8 rfl hw (fun a3 hw => ?_)
  refine v_iload_n C dX9_isPossible_11 2 rfl rfl ?_
  refine w_iaload C dX9_isPossible_12 hw (fun x4 hw => ?_)
  refine v_istore (ls' := [(4, .int x4), (3, .int x2), (0, .ref v0), (1, .int v1), (2, .ref v2)]) C dX9_isPossible_13 (by decide) rfl ?_
  refine v_aload_n C dX9_isPossible_15 2 rfl rfl ?_
  refine w_getN C fl_X9_15 dX9_isPossible_16 rfl hw (fun a5 hw => ?_)
  refine v_iload_n C dX9_isPossible_19 1 rfl rfl ?_
  refine w_iaload C dX9_isPossible_20 hw (fun x6 hw => ?_)
  refine v_iload C dX9_isPossible_21 0 rfl ?_
  refine v_icmp_gt (tgt := 60) C dX9_isPossible_23 (by decide) (fun c_23 => ?_) (fun c_23 => ?_)
  · have hw := hw.1 c_23
    refine v_sub [] rfl ?_
    exact s_X9_isPossible_60 C hr   _ hw
  · have hw := hw.2 c_23
    refine v_iload C dX9_isPossible_26 0 rfl ?_
    refine v_aload_n C dX9_isPossible_28 2 rfl rfl ?_
    refine w_getN C fl_X9_18 dX9_isPossible_29 rfl hw (fun a7 hw => ?_)
    refine v_iload_n C dX9_isPossible_32 1 rfl rfl ?_
    refine w_iaload C dX9_isPossible_33 hw (fun x8 hw => ?_)
    refine v_icmp_gt (tgt := 60) C dX9_isPossible_34 (by decide) (fun c_34 => ?_) (fun c_34 => ?_)
    · have hw := hw.1 c_34
      refine v_sub [] rfl ?_
      exact s_X9_isPossible_60 C hr   _ hw
    · have hw := hw.2 c_34
      refine v_aload_n C dX9_isPossible_37 4 rfl rfl ?_
      refine v_aload_n C dX9_isPossible_38 2 rfl rfl ?_
      refine w_getN C fl_X9_9 dX9_isPossible_39 rfl hw (fun a9 hw => ?_)
      refine v_iload_n C dX9_isPossible_42 1 rfl rfl ?_
      refine w_iaload C dX9_isPossible_43 hw (fun x10 hw => ?_)
      refine v_aload_n C dX9_isPossible_44 2 rfl rfl ?_
      refine w_getN C fl_X9_27 dX9_isPossible_45 rfl hw (fun a11 hw => ?_)
      refine v_iload_n C dX9_isPossible_48 3 rfl rfl ?_
      refine w_iaload C dX9_isPossible_49 hw (fun x12 hw => ?_)
      refine w_callVi (st := []) C cl_X9_40 im_X3_isOpen se_X3_isOpen rfl hw.1 (s_X3_isOpen hw.2) rfl dX9_isPossible_50 rfl (by decide) (by decide) (by decide) (by decide) (by decide) (fun x13 h hw => ?_)
      refine v_if_eq (tgt := 60) C dX9_isPossible_53 (by decide) (fun c_53 => ?_) (fun c_53 => ?_)
      · have hw := hw.1 c_53
        refine v_sub [] rfl ?_
        exact s_X9_isPossible_60 C hr   _ hw
      · have hw := hw.2 c_53
        refine v_iconst (v := 1) C dX9_isPossible_56 (by decide) ?_
        refine v_goto (tgt := 61) C dX9_isPossible_57 (by decide) ?_
        refine v_sub [] rfl ?_
        exact s_X9_isPossible_61 C hr  _ _ hw
-- GrassField$Tellers.toldOfOneCell(II)Z
theorem dX9_toldOfOneCell_0 : decode cX9_toldOfOneCell 0 = .ok (.iconst 0, 1) := by decide +kernel
theorem dX9_toldOfOneCell_1 : decode cX9_toldOfOneCell 1 = .ok (.istore_n 3, 1) := by decide +kernel
theorem dX9_toldOfOneCell_2 : decode cX9_toldOfOneCell 2 = .ok (.iload_n 3, 1) := by decide +kernel
theorem dX9_toldOfOneCell_3 : decode cX9_toldOfOneCell 3 = .ok (.aload_n 0, 1) := by decide +kernel
theorem dX9_toldOfOneCell_4 : decode cX9_toldOfOneCell 4 = .ok (.getfield 37, 3) := by decide +kernel
theorem dX9_toldOfOneCell_7 : decode cX9_toldOfOneCell 7 = .ok (.if_icmp .ge 35, 3) := by decide +kernel
theorem dX9_toldOfOneCell_10 : decode cX9_toldOfOneCell 10 = .ok (.aload_n 0, 1) := by decide +kernel
theorem dX9_toldOfOneCell_11 : decode cX9_toldOfOneCell 11 = .ok (.getfield 24, 3) := by decide +kernel
theorem dX9_toldOfOneCell_14 : decode cX9_toldOfOneCell 14 = .ok (.iload_n 3, 1) := by decide +kernel
theorem dX9_toldOfOneCell_15 : decode cX9_toldOfOneCell 15 = .ok (.iaload, 1) := by decide +kernel
theorem dX9_toldOfOneCell_16 : decode cX9_toldOfOneCell 16 = .ok (.iload_n 1, 1) := by decide +kernel
theorem dX9_toldOfOneCell_17 : decode cX9_toldOfOneCell 17 = .ok (.if_icmp .ne 19, 3) := by decide +kernel
theorem dX9_toldOfOneCell_20 : decode cX9_toldOfOneCell 20 = .ok (.aload_n 0, 1) := by decide +kernel
theorem dX9_toldOfOneCell_21 : decode cX9_toldOfOneCell 21 = .ok (.iload_n 2, 1) := by decide +kernel
theorem dX9_toldOfOneCell_22 : decode cX9_toldOfOneCell 22 = .ok (.aload_n 0, 1) := by decide +kernel
theorem dX9_toldOfOneCell_23 : decode cX9_toldOfOneCell 23 = .ok (.getfield 27, 3) := by decide +kernel
theorem dX9_toldOfOneCell_26 : decode cX9_toldOfOneCell 26 = .ok (.iload_n 3, 1) := by decide +kernel
theorem dX9_toldOfOneCell_27 : decode cX9_toldOfOneCell 27 = .ok (.iaload, 1) := by decide +kernel
theorem dX9_toldOfOneCell_28 : decode cX9_toldOfOneCell 28 = .ok (.invokevirtual 49, 3) := by decide +kernel
theorem dX9_toldOfOneCell_31 : decode cX9_toldOfOneCell 31 = .ok (.ifCond .eq 5, 3) := by decide +kernel
theorem dX9_toldOfOneCell_34 : decode cX9_toldOfOneCell 34 = .ok (.iconst 1, 1) := by decide +kernel
theorem dX9_toldOfOneCell_35 : decode cX9_toldOfOneCell 35 = .ok (.ireturn, 1) := by decide +kernel
theorem dX9_toldOfOneCell_36 : decode cX9_toldOfOneCell 36 = .ok (.iinc 3 1, 3) := by decide +kernel
theorem dX9_toldOfOneCell_39 : decode cX9_toldOfOneCell 39 = .ok (.goto (-37), 3) := by decide +kernel
theorem dX9_toldOfOneCell_42 : decode cX9_toldOfOneCell 42 = .ok (.iconst 0, 1) := by decide +kernel
theorem dX9_toldOfOneCell_43 : decode cX9_toldOfOneCell 43 = .ok (.ireturn, 1) := by decide +kernel
def w_X9_toldOfOneCell_42  (h : AH) (Q : Int32 → AH → Prop) : Prop :=
  Q (0 : Int32) h
def w_X9_toldOfOneCell_36  (x34 : AH → Prop) (x42 : AH → Prop) (k : Int32 → AH → Prop) (v0 : Nat) (v1 : Int32) (v2 : Int32) (v3 : Int32) (h : AH) (Q : Int32 → AH → Prop) : Prop :=
  k (v3 + 1) h
def w_X9_toldOfOneCell_34  (h : AH) (Q : Int32 → AH → Prop) : Prop :=
  Q (1 : Int32) h
def w_X9_toldOfOneCell_2  (x34 : AH → Prop) (x42 : AH → Prop) (k : Int32 → AH → Prop) (v0 : Nat) (v1 : Int32) (v2 : Int32) (v3 : Int32) (h : AH) (Q : Int32 → AH → Prop) : Prop :=
  fI h v0 9 5 fun x1 =>
  br (x1 ≤ v3) (
    x42  h) (
    fN h v0 9 6 fun a2 =>
    aI h a2 v3 fun x3 =>
    br (x3 = v1) (
      fN h v0 9 7 fun a4 =>
      aI h a4 v3 fun x5 =>
      vr h v0 9 (
      w_X9_hasToldOf v0 v2 x5 h (fun x6 h =>
      br (x6 = 0) (
        w_X9_toldOfOneCell_36 x34 x42 k v0 v1 v2 v3 h Q) (
        x34  h)))) (
      w_X9_toldOfOneCell_36 x34 x42 k v0 v1 v2 v3 h Q))
def w_X9_toldOfOneCell  (v0 : Nat) (v1 : Int32) (v2 : Int32) (h : AH) (Q : Int32 → AH → Prop) : Prop :=
  lp (fun (k2 : Int32 × AH → Prop) (s2 : Int32 × AH) => w_X9_toldOfOneCell_2  (fun  h => w_X9_toldOfOneCell_34  h Q) (fun  h => w_X9_toldOfOneCell_42  h Q) (fun (y3 : Int32) h => k2 (y3, h)) v0 v1 v2 s2.1 s2.2 Q) ((0 : Int32), h)
set_option maxRecDepth 100000 in
set_option maxHeartbeats 4000000 in
theorem s_X9_toldOfOneCell_42 {p : Program} {l : Launch} {e : Env} {s : State} {m : MethodId} {args : Array Value} {below : List Frame} {meth : Method} {c : Code} {g : GG}  {Q : Int32 → AH → Prop}  (C : CXT p l s m args meth c RX9 cX9_toldOfOneCell 4 g) (hr : meth.sig.returnType = (some .boolean))  : ∀  (h : AH), w_X9_toldOfOneCell_42  h Q → V p l e s m args below meth c g 1 0 0 4 0 0 (MQ below (QCx g (QI Q)) args s 0 0 (gA g)) 42 [] [] h := by
  intro  h hw
  refine v_iconst (v := 0) C dX9_toldOfOneCell_42 (by decide) ?_
  exact (rt_MQ C _).2.1 _ _ _ _ _ _ _ hr rfl dX9_toldOfOneCell_43 (by decide) (by decide) ⟨_, rfl, hw⟩
set_option maxRecDepth 100000 in
set_option maxHeartbeats 4000000 in
theorem s_X9_toldOfOneCell_36 {p : Program} {l : Launch} {e : Env} {s : State} {m : MethodId} {args : Array Value} {below : List Frame} {meth : Method} {c : Code} {g : GG} {v0 : Nat} {v1 : Int32} {v2 : Int32} {Q : Int32 → AH → Prop} {x34 : AH → Prop} {x42 : AH → Prop} {k : Int32 → AH → Prop} (C : CXT p l s m args meth c RX9 cX9_toldOfOneCell 4 g) (hr : meth.sig.returnType = (some .boolean)) (hx34 : ∀  (h : AH), x34  h → V p l e s m args below meth c g 1 0 0 4 0 0 (MQ below (QCx g (QI Q)) args s 0 0 (gA g)) 34 [] [] h) (hx42 : ∀  (h : AH), x42  h → V p l e s m args below meth c g 1 0 0 4 0 0 (MQ below (QCx g (QI Q)) args s 0 0 (gA g)) 42 [] [] h) (hk : ∀ (y3 : Int32) (h : AH), k y3 h → V p l e s m args below meth c g 1 0 0 4 0 0 (MQ below (QCx g (QI Q)) args s 0 0 (gA g)) 2 [(0, .ref v0), (1, .int v1), (2, .int v2), (3, .int y3)] [] h) : ∀ (v3 : Int32) (h : AH), w_X9_toldOfOneCell_36  x34 x42 k v0 v1 v2 v3 h Q → V p l e s m args below meth c g 1 0 0 4 0 0 (MQ below (QCx g (QI Q)) args s 0 0 (gA g)) 36 [(0, .ref v0), (1, .int v1), (2, .int v2), (3, .int v3)] [] h := by
  intro v3 h hw
  refine v_iinc (v := 1) (ls' := [(3, .int (v3 + 1)), (0, .ref v0), (1, .int v1), (2, .int v2)]) C dX9_toldOfOneCell_36 3 rfl (by decide) (by decide) rfl ?_
  refine v_goto (tgt := 2) C dX9_toldOfOneCell_39 (by decide) ?_
  refine v_sub [1, 2, 3, 0] rfl ?_
  exact hk _ _ hw
set_option maxRecDepth 100000 in
set_option maxHeartbeats 4000000 in
theorem s_X9_toldOfOneCell_34 {p : Program} {l : Launch} {e : Env} {s : State} {m : MethodId} {args : Array Value} {below : List Frame} {meth : Method} {c : Code} {g : GG}  {Q : Int32 → AH → Prop}  (C : CXT p l s m args meth c RX9 cX9_toldOfOneCell 4 g) (hr : meth.sig.returnType = (some .boolean))  : ∀  (h : AH), w_X9_toldOfOneCell_34  h Q → V p l e s m args below meth c g 1 0 0 4 0 0 (MQ below (QCx g (QI Q)) args s 0 0 (gA g)) 34 [] [] h := by
  intro  h hw
  refine v_iconst (v := 1) C dX9_toldOfOneCell_34 (by decide) ?_
  exact (rt_MQ C _).2.1 _ _ _ _ _ _ _ hr rfl dX9_toldOfOneCell_35 (by decide) (by decide) ⟨_, rfl, hw⟩
set_option maxRecDepth 100000 in
set_option maxHeartbeats 4000000 in
theorem s_X9_toldOfOneCell_2 {p : Program} {l : Launch} {e : Env} {s : State} {m : MethodId} {args : Array Value} {below : List Frame} {meth : Method} {c : Code} {g : GG} {v0 : Nat} {v1 : Int32} {v2 : Int32} {Q : Int32 → AH → Prop} {x34 : AH → Prop} {x42 : AH → Prop} {k : Int32 → AH → Prop} (C : CXT p l s m args meth c RX9 cX9_toldOfOneCell 4 g) (hr : meth.sig.returnType = (some .boolean)) (hx34 : ∀  (h : AH), x34  h → V p l e s m args below meth c g 1 0 0 4 0 0 (MQ below (QCx g (QI Q)) args s 0 0 (gA g)) 34 [] [] h) (hx42 : ∀  (h : AH), x42  h → V p l e s m args below meth c g 1 0 0 4 0 0 (MQ below (QCx g (QI Q)) args s 0 0 (gA g)) 42 [] [] h) (hk : ∀ (y3 : Int32) (h : AH), k y3 h → V p l e s m args below meth c g 1 0 0 4 0 0 (MQ below (QCx g (QI Q)) args s 0 0 (gA g)) 2 [(0, .ref v0), (1, .int v1), (2, .int v2), (3, .int y3)] [] h) : ∀ (v3 : Int32) (h : AH), w_X9_toldOfOneCell_2  x34 x42 k v0 v1 v2 v3 h Q → V p l e s m args below meth c g 1 0 0 4 0 0 (MQ below (QCx g (QI Q)) args s 0 0 (gA g)) 2 [(0, .ref v0), (1, .int v1), (2, .int v2), (3, .int v3)] [] h := by
  intro v3 h hw
  refine v_iload_n C dX9_toldOfOneCell_2 3 rfl rfl ?_
  refine v_aload_n C dX9_toldOfOneCell_3 0 rfl rfl ?_
  refine w_getI C fl_X9_37 dX9_toldOfOneCell_4 rfl hw (fun x1 hw => ?_)
  refine v_icmp_ge (tgt := 42) C dX9_toldOfOneCell_7 (by decide) (fun c_7 => ?_) (fun c_7 => ?_)
  · have hw := hw.1 c_7
    refine v_sub [] rfl ?_
    exact hx42  _ hw
  · have hw := hw.2 c_7
    refine v_aload_n C dX9_toldOfOneCell_10 0 rfl rfl ?_
    refine w_getN C fl_X9_24 dX9_toldOfOneCell_11 rfl hw (fun a2 hw => ?_)
    refine v_iload_n C dX9_toldOfOneCell_14 3 rfl rfl ?_
    refine w_iaload C dX9_toldOfOneCell_15 hw (fun x3 hw => ?_)
    refine v_iload_n C dX9_toldOfOneCell_16 1 rfl rfl ?_
    refine v_icmp_ne (tgt := 36) C dX9_toldOfOneCell_17 (by decide) (fun c_17 => ?_) (fun c_17 => ?_)
    · have hw := hw.2 c_17
      exact s_X9_toldOfOneCell_36 C hr hx34 hx42 hk _ _ hw
    · have hw := hw.1 c_17
      refine v_aload_n C dX9_toldOfOneCell_20 0 rfl rfl ?_
      refine v_iload_n C dX9_toldOfOneCell_21 2 rfl rfl ?_
      refine v_aload_n C dX9_toldOfOneCell_22 0 rfl rfl ?_
      refine w_getN C fl_X9_27 dX9_toldOfOneCell_23 rfl hw (fun a4 hw => ?_)
      refine v_iload_n C dX9_toldOfOneCell_26 3 rfl rfl ?_
      refine w_iaload C dX9_toldOfOneCell_27 hw (fun x5 hw => ?_)
      refine w_callVi (st := []) C cl_X9_49 im_X9_hasToldOf se_X9_hasToldOf rfl hw.1 (s_X9_hasToldOf hw.2) rfl dX9_toldOfOneCell_28 rfl (by decide) (by decide) (by decide) (by decide) (by decide) (fun x6 h hw => ?_)
      refine v_if_eq (tgt := 36) C dX9_toldOfOneCell_31 (by decide) (fun c_31 => ?_) (fun c_31 => ?_)
      · have hw := hw.1 c_31
        exact s_X9_toldOfOneCell_36 C hr hx34 hx42 hk _ _ hw
      · have hw := hw.2 c_31
        refine v_sub [] rfl ?_
        exact hx34  _ hw
set_option maxRecDepth 100000 in
set_option maxHeartbeats 4000000 in
theorem s_X9_toldOfOneCell {l : Launch}  {v0 : Nat} {v1 : Int32} {v2 : Int32} {h : AH} {Q : Int32 → AH → Prop}  (hw : w_X9_toldOfOneCell  v0 v1 v2 h Q) : CT l yX9_toldOfOneCell cX9_toldOfOneCell 4 (some .boolean) 1 0 0 [.ref v0, .int v1, .int v2] h (QI Q) := by
  refine CT.of (by decide) ⟨rfl, ⟨rfl, ⟨rfl, trivial⟩⟩⟩ (Nat.le_of_ble_eq_true rfl) ?_
  intro p e s m args below meth c g C hr hin
  refine v_eq (pc' := 0) (ls' := [(0, .ref v0), (1, .int v1), (2, .int v2)]) rfl rfl rfl rfl ?_
  refine v_iconst (v := 0) C dX9_toldOfOneCell_0 (by decide) ?_
  refine v_istore_n (ls' := [(3, .int (0 : Int32)), (0, .ref v0), (1, .int v1), (2, .int v2)]) C dX9_toldOfOneCell_1 rfl (by decide) rfl ?_
  refine v_sub [1, 2, 3, 0] rfl ?_
  refine lp_walk (P := fun (s' : Int32 × AH) => V p l e s m args below meth c g 1 0 0 4 0 0 (MQ below (QCx g (QI Q)) args s 0 0 (gA g)) 2 [(0, .ref v0), (1, .int v1), (2, .int v2), (3, .int (s'.1))] [] s'.2) (fun k2 hk2 s' hw => ?_) ((0 : Int32), h) hw
  exact s_X9_toldOfOneCell_2 C hr (fun  h hw => s_X9_toldOfOneCell_34 C hr   h hw) (fun  h hw => s_X9_toldOfOneCell_42 C hr   h hw) (fun y3 h hw => hk2 (y3, h) hw) _ _ hw
-- GrassField$Tellers.mayHaveTalked(II)Z
theorem dX9_mayHaveTalked_0 : decode cX9_mayHaveTalked 0 = .ok (.iload_n 1, 1) := by decide +kernel
theorem dX9_mayHaveTalked_1 : decode cX9_mayHaveTalked 1 = .ok (.iload_n 2, 1) := by decide +kernel
theorem dX9_mayHaveTalked_2 : decode cX9_mayHaveTalked 2 = .ok (.if_icmp .eq 31, 3) := by decide +kernel
theorem dX9_mayHaveTalked_5 : decode cX9_mayHaveTalked 5 = .ok (.aload_n 0, 1) := by decide +kernel
theorem dX9_mayHaveTalked_6 : decode cX9_mayHaveTalked 6 = .ok (.getfield 21, 3) := by decide +kernel
theorem dX9_mayHaveTalked_9 : decode cX9_mayHaveTalked 9 = .ok (.iload_n 1, 1) := by decide +kernel
theorem dX9_mayHaveTalked_10 : decode cX9_mayHaveTalked 10 = .ok (.iaload, 1) := by decide +kernel
theorem dX9_mayHaveTalked_11 : decode cX9_mayHaveTalked 11 = .ok (.aload_n 0, 1) := by decide +kernel
theorem dX9_mayHaveTalked_12 : decode cX9_mayHaveTalked 12 = .ok (.getfield 21, 3) := by decide +kernel
theorem dX9_mayHaveTalked_15 : decode cX9_mayHaveTalked 15 = .ok (.iload_n 2, 1) := by decide +kernel
theorem dX9_mayHaveTalked_16 : decode cX9_mayHaveTalked 16 = .ok (.iaload, 1) := by decide +kernel
theorem dX9_mayHaveTalked_17 : decode cX9_mayHaveTalked 17 = .ok (.if_icmp .ne 16, 3) := by decide +kernel
theorem dX9_mayHaveTalked_20 : decode cX9_mayHaveTalked 20 = .ok (.aload_n 0, 1) := by decide +kernel
theorem dX9_mayHaveTalked_21 : decode cX9_mayHaveTalked 21 = .ok (.iload_n 1, 1) := by decide +kernel
theorem dX9_mayHaveTalked_22 : decode cX9_mayHaveTalked 22 = .ok (.iload_n 2, 1) := by decide +kernel
theorem dX9_mayHaveTalked_23 : decode cX9_mayHaveTalked 23 = .ok (.invokevirtual 46, 3) := by decide +kernel
theorem dX9_mayHaveTalked_26 : decode cX9_mayHaveTalked 26 = .ok (.ifCond .eq 7, 3) := by decide +kernel
theorem dX9_mayHaveTalked_29 : decode cX9_mayHaveTalked 29 = .ok (.iconst 1, 1) := by decide +kernel
theorem dX9_mayHaveTalked_30 : decode cX9_mayHaveTalked 30 = .ok (.goto 4, 3) := by decide +kernel
theorem dX9_mayHaveTalked_33 : decode cX9_mayHaveTalked 33 = .ok (.iconst 0, 1) := by decide +kernel
theorem dX9_mayHaveTalked_34 : decode cX9_mayHaveTalked 34 = .ok (.ireturn, 1) := by decide +kernel
def w_X9_mayHaveTalked_34  (t0 : Int32) (h : AH) (Q : Int32 → AH → Prop) : Prop :=
  z1 t0 (Q t0 h)
def w_X9_mayHaveTalked_33  (h : AH) (Q : Int32 → AH → Prop) : Prop :=
  w_X9_mayHaveTalked_34 (0 : Int32) h Q
def w_X9_mayHaveTalked  (v0 : Nat) (v1 : Int32) (v2 : Int32) (h : AH) (Q : Int32 → AH → Prop) : Prop :=
  br (v1 = v2) (
    w_X9_mayHaveTalked_33  h Q) (
    fN h v0 9 4 fun a1 =>
    aI h a1 v1 fun x2 =>
    fN h v0 9 4 fun a3 =>
    aI h a3 v2 fun x4 =>
    br (x2 = x4) (
      vr h v0 9 (
      w_X9_toldOfOneCell v0 v1 v2 h (fun x5 h =>
      br (x5 = 0) (
        w_X9_mayHaveTalked_33  h Q) (
        w_X9_mayHaveTalked_34 (1 : Int32) h Q)))) (
      w_X9_mayHaveTalked_33  h Q))
set_option maxRecDepth 100000 in
set_option maxHeartbeats 4000000 in
theorem s_X9_mayHaveTalked_34 {p : Program} {l : Launch} {e : Env} {s : State} {m : MethodId} {args : Array Value} {below : List Frame} {meth : Method} {c : Code} {g : GG}  {Q : Int32 → AH → Prop}  (C : CXT p l s m args meth c RX9 cX9_mayHaveTalked 3 g) (hr : meth.sig.returnType = (some .boolean))  : ∀ (t0 : Int32) (h : AH), w_X9_mayHaveTalked_34  t0 h Q → V p l e s m args below meth c g 2 0 0 3 0 0 (MQ below (QCx g (QI Q)) args s 0 0 (gA g)) 34 [] [.int t0] h := by
  intro t0 h hw
  exact (rt_MQ C _).2.1 _ _ _ _ _ _ _ hr (by rcases hw.1 with z | z <;> rw [z] <;> rfl) dX9_mayHaveTalked_34 (by decide) (by decide) ⟨_, rfl, hw.2⟩
set_option maxRecDepth 100000 in
set_option maxHeartbeats 4000000 in
theorem s_X9_mayHaveTalked_33 {p : Program} {l : Launch} {e : Env} {s : State} {m : MethodId} {args : Array Value} {below : List Frame} {meth : Method} {c : Code} {g : GG}  {Q : Int32 → AH → Prop}  (C : CXT p l s m args meth c RX9 cX9_mayHaveTalked 3 g) (hr : meth.sig.returnType = (some .boolean))  : ∀  (h : AH), w_X9_mayHaveTalked_33  h Q → V p l e s m args below meth c g 2 0 0 3 0 0 (MQ below (QCx g (QI Q)) args s 0 0 (gA g)) 33 [] [] h := by
  intro  h hw
  refine v_iconst (v := 0) C dX9_mayHaveTalked_33 (by decide) ?_
  exact s_X9_mayHaveTalked_34 C hr  _ _ hw
set_option maxRecDepth 100000 in
set_option maxHeartbeats 4000000 in
theorem s_X9_mayHaveTalked {l : Launch}  {v0 : Nat} {v1 : Int32} {v2 : Int32} {h : AH} {Q : Int32 → AH → Prop}  (hw : w_X9_mayHaveTalked  v0 v1 v2 h Q) : CT l yX9_mayHaveTalked cX9_mayHaveTalked 3 (some .boolean) 2 0 0 [.ref v0, .int v1, .int v2] h (QI Q) := by
  refine CT.of (by decide) ⟨rfl, ⟨rfl, ⟨rfl, trivial⟩⟩⟩ (Nat.le_of_ble_eq_true rfl) ?_
  intro p e s m args below meth c g C hr hin
  refine v_eq (pc' := 0) (ls' := [(0, .ref v0), (1, .int v1), (2, .int v2)]) rfl rfl rfl rfl ?_
  refine v_iload_n C dX9_mayHaveTalked_0 1 rfl rfl ?_
  refine v_iload_n C dX9_mayHaveTalked_1 2 rfl rfl ?_
  refine v_icmp_eq (tgt := 33) C dX9_mayHaveTalked_2 (by decide) (fun c_2 => ?_) (fun c_2 => ?_)
  · have hw := hw.1 c_2
    refine v_sub [] rfl ?_
    exact s_X9_mayHaveTalked_33 C hr   _ hw
  · have hw := hw.2 c_2
    refine v_aload_n C dX9_mayHaveTalked_5 0 rfl rfl ?_
    refine w_getN C fl_X9_21 dX9_mayHaveTalked_6 rfl hw (fun a1 hw => ?_)
    refine v_iload_n C dX9_mayHaveTalked_9 1 rfl rfl ?_
    refine w_iaload C dX9_mayHaveTalked_10 hw (fun x2 hw => ?_)
    refine v_aload_n C dX9_mayHaveTalked_11 0 rfl rfl ?_
    refine w_getN C fl_X9_21 dX9_mayHaveTalked_12 rfl hw (fun a3 hw => ?_)
    refine v_iload_n C dX9_mayHaveTalked_15 2 rfl rfl ?_
    refine w_iaload C dX9_mayHaveTalked_16 hw (fun x4 hw => ?_)
    refine v_icmp_ne (tgt := 33) C dX9_mayHaveTalked_17 (by decide) (fun c_17 => ?_) (fun c_17 => ?_)
    · have hw := hw.2 c_17
      refine v_sub [] rfl ?_
      exact s_X9_mayHaveTalked_33 C hr   _ hw
    · have hw := hw.1 c_17
      refine v_aload_n C dX9_mayHaveTalked_20 0 rfl rfl ?_
      refine v_iload_n C dX9_mayHaveTalked_21 1 rfl rfl ?_
      refine v_iload_n C dX9_mayHaveTalked_22 2 rfl rfl ?_
      refine w_callVi (st := []) C cl_X9_46 im_X9_toldOfOneCell se_X9_toldOfOneCell rfl hw.1 (s_X9_toldOfOneCell hw.2) rfl dX9_mayHaveTalked_23 rfl (by decide) (by decide) (by decide) (by decide) (by decide) (fun x5 h hw => ?_)
      refine v_if_eq (tgt := 33) C dX9_mayHaveTalked_26 (by decide) (fun c_26 => ?_) (fun c_26 => ?_)
      · have hw := hw.1 c_26
        refine v_sub [] rfl ?_
        exact s_X9_mayHaveTalked_33 C hr   _ hw
      · have hw := hw.2 c_26
        refine v_iconst (v := 1) C dX9_mayHaveTalked_29 (by decide) ?_
        refine v_goto (tgt := 34) C dX9_mayHaveTalked_30 (by decide) ?_
        refine v_sub [] rfl ?_
        exact s_X9_mayHaveTalked_34 C hr  _ _ hw
