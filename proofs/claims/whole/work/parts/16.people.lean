theorem iw_X4 : ∀ w ∈ u_ws RX4 TX4 7, w ∈ lw_tbl := (show ∀ w ∈ ([Cond.lays "GrassField$People" "GrassField$People" "size" "I", Cond.laysFinal "GrassField$People" "GrassField$People" "gun" "[I", Cond.laysFinal "GrassField$People" "GrassField$People" "side" "[I", Cond.laysFinal "GrassField$People" "GrassField$People" "cell" "[I", Cond.laysFinal "GrassField$People" "GrassField$People" "fear" "[I", Cond.laysFinal "GrassField$People" "GrassField$People" "law" "[I", Cond.laysFinal "GrassField$People" "GrassField$People" "living" "[I"] : List Cond), w ∈ lw_tbl from List.forall_mem_cons.mpr ⟨(tb1 (List.mem_of_getElem? (i := 151) rfl)), List.forall_mem_cons.mpr ⟨(tb1 (List.mem_of_getElem? (i := 153) rfl)), List.forall_mem_cons.mpr ⟨(tb1 (List.mem_of_getElem? (i := 155) rfl)), List.forall_mem_cons.mpr ⟨(tb1 (List.mem_of_getElem? (i := 157) rfl)), List.forall_mem_cons.mpr ⟨(tb1 (List.mem_of_getElem? (i := 159) rfl)), List.forall_mem_cons.mpr ⟨(tb1 (List.mem_of_getElem? (i := 161) rfl)), List.forall_mem_cons.mpr ⟨(tb1 (List.mem_of_getElem? (i := 163) rfl)), fun _ h => nomatch h⟩⟩⟩⟩⟩⟩⟩)
theorem fl_X4_9 : FLk RX4 9 4 1 (RX4, TX4, 7) := ⟨rfl, by decide, iw_X4, Or.inl (tb1 (List.mem_of_getElem? (i := 133) rfl))⟩
theorem fp_X4_9 : FPk RX4 9 4 1 (RX4, TX4, 7) tyX4 2 := ⟨fl_X4_9, nmX4, tyX4_ok, Or.inr (Or.inr ⟨rfl, Or.inr ⟨_, rfl⟩, rfl⟩)⟩
theorem fl_X4_15 : FLk RX4 15 4 2 (RX4, TX4, 7) := ⟨rfl, by decide, iw_X4, Or.inl (tb1 (List.mem_of_getElem? (i := 136) rfl))⟩
theorem fp_X4_15 : FPk RX4 15 4 2 (RX4, TX4, 7) tyX4 2 := ⟨fl_X4_15, nmX4, tyX4_ok, Or.inr (Or.inr ⟨rfl, Or.inr ⟨_, rfl⟩, rfl⟩)⟩
theorem fl_X4_18 : FLk RX4 18 4 3 (RX4, TX4, 7) := ⟨rfl, by decide, iw_X4, Or.inl (tb1 (List.mem_of_getElem? (i := 139) rfl))⟩
theorem fp_X4_18 : FPk RX4 18 4 3 (RX4, TX4, 7) tyX4 2 := ⟨fl_X4_18, nmX4, tyX4_ok, Or.inr (Or.inr ⟨rfl, Or.inr ⟨_, rfl⟩, rfl⟩)⟩
theorem fl_X4_21 : FLk RX4 21 4 4 (RX4, TX4, 7) := ⟨rfl, by decide, iw_X4, Or.inl (tb1 (List.mem_of_getElem? (i := 142) rfl))⟩
theorem fp_X4_21 : FPk RX4 21 4 4 (RX4, TX4, 7) tyX4 2 := ⟨fl_X4_21, nmX4, tyX4_ok, Or.inr (Or.inr ⟨rfl, Or.inr ⟨_, rfl⟩, rfl⟩)⟩
theorem fl_X4_24 : FLk RX4 24 4 5 (RX4, TX4, 7) := ⟨rfl, by decide, iw_X4, Or.inl (tb1 (List.mem_of_getElem? (i := 145) rfl))⟩
theorem fp_X4_24 : FPk RX4 24 4 5 (RX4, TX4, 7) tyX4 2 := ⟨fl_X4_24, nmX4, tyX4_ok, Or.inr (Or.inr ⟨rfl, Or.inr ⟨_, rfl⟩, rfl⟩)⟩
theorem fl_X4_27 : FLk RX4 27 4 6 (RX4, TX4, 7) := ⟨rfl, by decide, iw_X4, Or.inl (tb1 (List.mem_of_getElem? (i := 148) rfl))⟩
theorem fp_X4_27 : FPk RX4 27 4 6 (RX4, TX4, 7) tyX4 2 := ⟨fl_X4_27, nmX4, tyX4_ok, Or.inr (Or.inr ⟨rfl, Or.inr ⟨_, rfl⟩, rfl⟩)⟩
theorem fl_X4_30 : FLk RX4 30 4 0 (RX4, TX4, 7) := ⟨rfl, by decide, iw_X4, Or.inl (tb1 (List.mem_of_getElem? (i := 130) rfl))⟩
theorem fp_X4_30 : FPk RX4 30 4 0 (RX4, TX4, 7) tyX4 0 := ⟨fl_X4_30, nmX4, tyX4_ok, Or.inl ⟨rfl, rfl, rfl⟩⟩
theorem ac_X4_48 : Cond.methodLink RX4 48 arraycopyName ∈ lw_tbl := (tb3 (List.mem_of_getElem? (i := 54) rfl))
theorem cl_X4_38 : CLk RX4 38 yX4_isRelated cX4_isRelated 4 (some .boolean) 3 := ⟨Or.inl (tb5 (List.mem_of_getElem? (i := 36) rfl)), (tb5 (List.mem_of_getElem? (i := 39) rfl)), (tb1 (List.mem_of_getElem? (i := 6) rfl)), by decide +kernel, by decide +kernel, by decide +kernel⟩
theorem im_X4_isRelated : Cond.instanceMethod yX4_isRelated ∈ lw_tbl := (tb5 (List.mem_of_getElem? (i := 38) rfl))
theorem se_X4_isRelated : Cond.selects RX4 yX4_isRelated yX4_isRelated ∈ lw_tbl := (tbp2 9 rfl)
theorem cl_X4_42 : CLk RX4 42 yX3_far cX3_far 4 (some .int) 2 := ⟨Or.inl (tb5 (List.mem_of_getElem? (i := 40) rfl)), (tb2 (List.mem_of_getElem? (i := 231) rfl)), (tb1 (List.mem_of_getElem? (i := 4) rfl)), by decide +kernel, by decide +kernel, by decide +kernel⟩
theorem cl_X4_34 : CLk RX4 34 yX4_countNear cX4_countNear 6 (some .int) 3 := ⟨Or.inl (tb5 (List.mem_of_getElem? (i := 32) rfl)), (tb5 (List.mem_of_getElem? (i := 35) rfl)), (tb1 (List.mem_of_getElem? (i := 6) rfl)), by decide +kernel, by decide +kernel, by decide +kernel⟩
theorem im_X4_countNear : Cond.instanceMethod yX4_countNear ∈ lw_tbl := (tb5 (List.mem_of_getElem? (i := 34) rfl))
theorem se_X4_countNear : Cond.selects RX4 yX4_countNear yX4_countNear ∈ lw_tbl := (tbp2 8 rfl)
-- GrassField$People.<init>()V
theorem dX4_init_0 : decode cX4_init 0 = .ok (.aload_n 0, 1) := by decide +kernel
theorem dX4_init_1 : decode cX4_init 1 = .ok (.invokespecial 3, 3) := by decide +kernel
theorem dX4_init_4 : decode cX4_init 4 = .ok (.aload_n 0, 1) := by decide +kernel
theorem dX4_init_5 : decode cX4_init 5 = .ok (.bipush 8, 2) := by decide +kernel
theorem dX4_init_7 : decode cX4_init 7 = .ok (.newarray .int, 2) := by decide +kernel
theorem dX4_init_9 : decode cX4_init 9 = .ok (.putfield 9, 3) := by decide +kernel
theorem dX4_init_12 : decode cX4_init 12 = .ok (.aload_n 0, 1) := by decide +kernel
theorem dX4_init_13 : decode cX4_init 13 = .ok (.bipush 8, 2) := by decide +kernel
theorem dX4_init_15 : decode cX4_init 15 = .ok (.newarray .int, 2) := by decide +kernel
theorem dX4_init_17 : decode cX4_init 17 = .ok (.putfield 15, 3) := by decide +kernel
theorem dX4_init_20 : decode cX4_init 20 = .ok (.aload_n 0, 1) := by decide +kernel
theorem dX4_init_21 : decode cX4_init 21 = .ok (.bipush 8, 2) := by decide +kernel
theorem dX4_init_23 : decode cX4_init 23 = .ok (.newarray .int, 2) := by decide +kernel
theorem dX4_init_25 : decode cX4_init 25 = .ok (.putfield 18, 3) := by decide +kernel
theorem dX4_init_28 : decode cX4_init 28 = .ok (.aload_n 0, 1) := by decide +kernel
theorem dX4_init_29 : decode cX4_init 29 = .ok (.bipush 8, 2) := by decide +kernel
theorem dX4_init_31 : decode cX4_init 31 = .ok (.newarray .int, 2) := by decide +kernel
theorem dX4_init_33 : decode cX4_init 33 = .ok (.putfield 21, 3) := by decide +kernel
theorem dX4_init_36 : decode cX4_init 36 = .ok (.aload_n 0, 1) := by decide +kernel
theorem dX4_init_37 : decode cX4_init 37 = .ok (.bipush 8, 2) := by decide +kernel
theorem dX4_init_39 : decode cX4_init 39 = .ok (.newarray .int, 2) := by decide +kernel
theorem dX4_init_41 : decode cX4_init 41 = .ok (.putfield 24, 3) := by decide +kernel
theorem dX4_init_44 : decode cX4_init 44 = .ok (.aload_n 0, 1) := by decide +kernel
theorem dX4_init_45 : decode cX4_init 45 = .ok (.bipush 8, 2) := by decide +kernel
theorem dX4_init_47 : decode cX4_init 47 = .ok (.newarray .int, 2) := by decide +kernel
theorem dX4_init_49 : decode cX4_init 49 = .ok (.putfield 27, 3) := by decide +kernel
theorem dX4_init_52 : decode cX4_init 52 = .ok (.return_, 1) := by decide +kernel
def w_X4_init  (v0 : Nat) (h : AH) (Q : AH → Prop) : Prop :=
  wA h 0 8 fun a1 h =>
  uO h v0 4 1 (some a1) fun h =>
  wA h 0 8 fun a2 h =>
  uO h v0 4 2 (some a2) fun h =>
  wA h 0 8 fun a3 h =>
  uO h v0 4 3 (some a3) fun h =>
  wA h 0 8 fun a4 h =>
  uO h v0 4 4 (some a4) fun h =>
  wA h 0 8 fun a5 h =>
  uO h v0 4 5 (some a5) fun h =>
  wA h 0 8 fun a6 h =>
  uO h v0 4 6 (some a6) fun h =>
  Q h
set_option maxRecDepth 100000 in
set_option maxHeartbeats 4000000 in
theorem s_X4_init {l : Launch}  {v0 : Nat} {h : AH} {Q : AH → Prop}  (hw : w_X4_init  v0 h Q) : CT l yX4_init cX4_init 1 none 1 6 48 [.ref v0] h (QV Q) := by
  refine CT.of (by decide) ⟨rfl, trivial⟩ (Nat.le_of_ble_eq_true rfl) ?_
  intro p e s m args below meth c g C hr hin
  refine v_eq (pc' := 0) (ls' := [(0, .ref v0)]) rfl rfl rfl rfl ?_
  refine v_aload_n C dX4_init_0 0 rfl rfl ?_
  refine v_objInit C (tb1 (List.mem_of_getElem? (i := 129) rfl)) (tb1 (List.mem_of_getElem? (i := 36) rfl)) (tb1 (List.mem_of_getElem? (i := 37) rfl)) dX4_init_1 (by decide) (by decide) ?_
  refine v_aload_n C dX4_init_4 0 rfl rfl ?_
  refine v_bipush (v := 8) C dX4_init_5 (by decide) ?_
  refine v_newa (atype := .int) (j := 0) (N := 8) C rfl rfl (by decide) rfl rfl (tb1 (List.mem_of_getElem? (i := 77) rfl)) dX4_init_7 (by decide) (by decide) (by decide) (by decide) (by decide) (fun a1 hn => ?_)
  have hw := hw a1 hn
  generalize nA h a1 0 8 = h at hw ⊢
  refine w_putN C fp_X4_9 (Or.inr ⟨hin, rfl, rfl, (tb1 (List.mem_of_getElem? (i := 133) rfl))⟩) dX4_init_9 hw (fun h hw => ?_)
  refine v_aload_n C dX4_init_12 0 rfl rfl ?_
  refine v_bipush (v := 8) C dX4_init_13 (by decide) ?_
  refine v_newa (atype := .int) (j := 0) (N := 8) C rfl rfl (by decide) rfl rfl (tb1 (List.mem_of_getElem? (i := 77) rfl)) dX4_init_15 (by decide) (by decide) (by decide) (by decide) (by decide) (fun a2 hn => ?_)
  have hw := hw a2 hn
  generalize nA h a2 0 8 = h at hw ⊢
  refine w_putN C fp_X4_15 (Or.inr ⟨hin, rfl, rfl, (tb1 (List.mem_of_getElem? (i := 136) rfl))⟩) dX4_init_17 hw (fun h hw => ?_)
  refine v_aload_n C dX4_init_20 0 rfl rfl ?_
  refine v_bipush (v := 8) C dX4_init_21 (by decide) ?_
  refine v_newa (atype := .int) (j := 0) (N := 8) C rfl rfl (by decide) rfl rfl (tb1 (List.mem_of_getElem? (i := 77) rfl)) dX4_init_23 (by decide) (by decide) (by decide) (by decide) (by decide) (fun a3 hn => ?_)
  have hw := hw a3 hn
  generalize nA h a3 0 8 = h at hw ⊢
  refine w_putN C fp_X4_18 (Or.inr ⟨hin, rfl, rfl, (tb1 (List.mem_of_getElem? (i := 139) rfl))⟩) dX4_init_25 hw (fun h hw => ?_)
  refine v_aload_n C dX4_init_28 0 rfl rfl ?_
  refine v_bipush (v := 8) C dX4_init_29 (by decide) ?_
  refine v_newa (atype := .int) (j := 0) (N := 8) C rfl rfl (by decide) rfl rfl (tb1 (List.mem_of_getElem? (i := 77) rfl)) dX4_init_31 (by decide) (by decide) (by decide) (by decide) (by decide) (fun a4 hn => ?_)
  have hw := hw a4 hn
  generalize nA h a4 0 8 = h at hw ⊢
  refine w_putN C fp_X4_21 (Or.inr ⟨hin, rfl, rfl, (tb1 (List.mem_of_getElem? (i := 142) rfl))⟩) dX4_init_33 hw (fun h hw => ?_)
  refine v_aload_n C dX4_init_36 0 rfl rfl ?_
  refine v_bipush (v := 8) C dX4_init_37 (by decide) ?_
  refine v_newa (atype := .int) (j := 0) (N := 8) C rfl rfl (by decide) rfl rfl (tb1 (List.mem_of_getElem? (i := 77) rfl)) dX4_init_39 (by decide) (by decide) (by decide) (by decide) (by decide) (fun a5 hn => ?_)
  have hw := hw a5 hn
  generalize nA h a5 0 8 = h at hw ⊢
  refine w_putN C fp_X4_24 (Or.inr ⟨hin, rfl, rfl, (tb1 (List.mem_of_getElem? (i := 145) rfl))⟩) dX4_init_41 hw (fun h hw => ?_)
  refine v_aload_n C dX4_init_44 0 rfl rfl ?_
  refine v_bipush (v := 8) C dX4_init_45 (by decide) ?_
  refine v_newa (atype := .int) (j := 0) (N := 8) C rfl rfl (by decide) rfl rfl (tb1 (List.mem_of_getElem? (i := 77) rfl)) dX4_init_47 (by decide) (by decide) (by decide) (by decide) (by decide) (fun a6 hn => ?_)
  have hw := hw a6 hn
  generalize nA h a6 0 8 = h at hw ⊢
  refine w_putN C fp_X4_27 (Or.inr ⟨hin, rfl, rfl, (tb1 (List.mem_of_getElem? (i := 148) rfl))⟩) dX4_init_49 hw (fun h hw => ?_)
  exact (rt_MQ C _).2.2.1 _ _ _ _ _ hr dX4_init_52 (by decide) (by decide) ⟨rfl, hw⟩
-- GrassField$People.add(IIIII)I
theorem dX4_add_0 : decode cX4_add 0 = .ok (.aload_n 0, 1) := by decide +kernel
theorem dX4_add_1 : decode cX4_add 1 = .ok (.getfield 9, 3) := by decide +kernel
theorem dX4_add_4 : decode cX4_add 4 = .ok (.aload_n 0, 1) := by decide +kernel
theorem dX4_add_5 : decode cX4_add 5 = .ok (.getfield 30, 3) := by decide +kernel
theorem dX4_add_8 : decode cX4_add 8 = .ok (.iload_n 1, 1) := by decide +kernel
theorem dX4_add_9 : decode cX4_add 9 = .ok (.iastore, 1) := by decide +kernel
theorem dX4_add_10 : decode cX4_add 10 = .ok (.aload_n 0, 1) := by decide +kernel
theorem dX4_add_11 : decode cX4_add 11 = .ok (.getfield 15, 3) := by decide +kernel
theorem dX4_add_14 : decode cX4_add 14 = .ok (.aload_n 0, 1) := by decide +kernel
theorem dX4_add_15 : decode cX4_add 15 = .ok (.getfield 30, 3) := by decide +kernel
theorem dX4_add_18 : decode cX4_add 18 = .ok (.iload_n 2, 1) := by decide +kernel
theorem dX4_add_19 : decode cX4_add 19 = .ok (.iastore, 1) := by decide +kernel
theorem dX4_add_20 : decode cX4_add 20 = .ok (.aload_n 0, 1) := by decide +kernel
theorem dX4_add_21 : decode cX4_add 21 = .ok (.getfield 18, 3) := by decide +kernel
theorem dX4_add_24 : decode cX4_add 24 = .ok (.aload_n 0, 1) := by decide +kernel
theorem dX4_add_25 : decode cX4_add 25 = .ok (.getfield 30, 3) := by decide +kernel
theorem dX4_add_28 : decode cX4_add 28 = .ok (.iload_n 3, 1) := by decide +kernel
theorem dX4_add_29 : decode cX4_add 29 = .ok (.iastore, 1) := by decide +kernel
theorem dX4_add_30 : decode cX4_add 30 = .ok (.aload_n 0, 1) := by decide +kernel
theorem dX4_add_31 : decode cX4_add 31 = .ok (.getfield 21, 3) := by decide +kernel
theorem dX4_add_34 : decode cX4_add 34 = .ok (.aload_n 0, 1) := by decide +kernel
theorem dX4_add_35 : decode cX4_add 35 = .ok (.getfield 30, 3) := by decide +kernel
theorem dX4_add_38 : decode cX4_add 38 = .ok (.iload 4, 2) := by decide +kernel
theorem dX4_add_40 : decode cX4_add 40 = .ok (.iastore, 1) := by decide +kernel
theorem dX4_add_41 : decode cX4_add 41 = .ok (.aload_n 0, 1) := by decide +kernel
theorem dX4_add_42 : decode cX4_add 42 = .ok (.getfield 24, 3) := by decide +kernel
theorem dX4_add_45 : decode cX4_add 45 = .ok (.aload_n 0, 1) := by decide +kernel
theorem dX4_add_46 : decode cX4_add 46 = .ok (.getfield 30, 3) := by decide +kernel
theorem dX4_add_49 : decode cX4_add 49 = .ok (.iload 5, 2) := by decide +kernel
theorem dX4_add_51 : decode cX4_add 51 = .ok (.iastore, 1) := by decide +kernel
theorem dX4_add_52 : decode cX4_add 52 = .ok (.aload_n 0, 1) := by decide +kernel
theorem dX4_add_53 : decode cX4_add 53 = .ok (.getfield 27, 3) := by decide +kernel
theorem dX4_add_56 : decode cX4_add 56 = .ok (.aload_n 0, 1) := by decide +kernel
theorem dX4_add_57 : decode cX4_add 57 = .ok (.getfield 30, 3) := by decide +kernel
theorem dX4_add_60 : decode cX4_add 60 = .ok (.iconst 1, 1) := by decide +kernel
theorem dX4_add_61 : decode cX4_add 61 = .ok (.iastore, 1) := by decide +kernel
theorem dX4_add_62 : decode cX4_add 62 = .ok (.aload_n 0, 1) := by decide +kernel
theorem dX4_add_63 : decode cX4_add 63 = .ok (.dup, 1) := by decide +kernel
theorem dX4_add_64 : decode cX4_add 64 = .ok (.getfield 30, 3) := by decide +kernel
theorem dX4_add_67 : decode cX4_add 67 = .ok (.iconst 1, 1) := by decide +kernel
theorem dX4_add_68 : decode cX4_add 68 = .ok (.iadd, 1) := by decide +kernel
theorem dX4_add_69 : decode cX4_add 69 = .ok (.putfield 30, 3) := by decide +kernel
theorem dX4_add_72 : decode cX4_add 72 = .ok (.aload_n 0, 1) := by decide +kernel
theorem dX4_add_73 : decode cX4_add 73 = .ok (.getfield 30, 3) := by decide +kernel
theorem dX4_add_76 : decode cX4_add 76 = .ok (.iconst 1, 1) := by decide +kernel
theorem dX4_add_77 : decode cX4_add 77 = .ok (.isub, 1) := by decide +kernel
theorem dX4_add_78 : decode cX4_add 78 = .ok (.ireturn, 1) := by decide +kernel
def w_X4_add  (v0 : Nat) (v1 : Int32) (v2 : Int32) (v3 : Int32) (v4 : Int32) (v5 : Int32) (h : AH) (Q : Int32 → AH → Prop) : Prop :=
  fN h v0 4 1 fun a1 =>
  fI h v0 4 0 fun x2 =>
  tI h a1 x2 v1 fun h =>
  fN h v0 4 2 fun a3 =>
  fI h v0 4 0 fun x4 =>
  tI h a3 x4 v2 fun h =>
  fN h v0 4 3 fun a5 =>
  fI h v0 4 0 fun x6 =>
  tI h a5 x6 v3 fun h =>
  fN h v0 4 4 fun a7 =>
  fI h v0 4 0 fun x8 =>
  tI h a7 x8 v4 fun h =>
  fN h v0 4 5 fun a9 =>
  fI h v0 4 0 fun x10 =>
  tI h a9 x10 v5 fun h =>
  fN h v0 4 6 fun a11 =>
  fI h v0 4 0 fun x12 =>
  tI h a11 x12 (1 : Int32) fun h =>
  fI h v0 4 0 fun x13 =>
  uI h v0 4 0 (x13 + (1 : Int32)) fun h =>
  fI h v0 4 0 fun x14 =>
  Q (x14 - (1 : Int32)) h
set_option maxRecDepth 100000 in
set_option maxHeartbeats 4000000 in
theorem s_X4_add {l : Launch}  {v0 : Nat} {v1 : Int32} {v2 : Int32} {v3 : Int32} {v4 : Int32} {v5 : Int32} {h : AH} {Q : Int32 → AH → Prop}  (hw : w_X4_add  v0 v1 v2 v3 v4 v5 h Q) : CT l yX4_add cX4_add 6 (some .int) 0 0 0 [.ref v0, .int v1, .int v2, .int v3, .int v4, .int v5] h (QI Q) := by
  refine CT.of (by decide) ⟨rfl, ⟨rfl, ⟨rfl, ⟨rfl, ⟨rfl, ⟨rfl, trivial⟩⟩⟩⟩⟩⟩ (Nat.le_of_ble_eq_true rfl) ?_
  intro p e s m args below meth c g C hr hin
  refine v_eq (pc' := 0) (ls' := [(0, .ref v0), (1, .int v1), (2, .int v2), (3, .int v3), (4, .int v4), (5, .int v5)]) rfl rfl rfl rfl ?_
  refine v_aload_n C dX4_add_0 0 rfl rfl ?_
  refine w_getN C fl_X4_9 dX4_add_1 rfl hw (fun a1 hw => ?_)
  refine v_aload_n C dX4_add_4 0 rfl rfl ?_
  refine w_getI C fl_X4_30 dX4_add_5 rfl hw (fun x2 hw => ?_)
  refine v_iload_n C dX4_add_8 1 rfl rfl ?_
  refine w_iastore C dX4_add_9 hw (fun h hw => ?_)
  refine v_aload_n C dX4_add_10 0 rfl rfl ?_
  refine w_getN C fl_X4_15 dX4_add_11 rfl hw (fun a3 hw => ?_)
  refine v_aload_n C dX4_add_14 0 rfl rfl ?_
  refine w_getI C fl_X4_30 dX4_add_15 rfl hw (fun x4 hw => ?_)
  refine v_iload_n C dX4_add_18 2 rfl rfl ?_
  refine w_iastore C dX4_add_19 hw (fun h hw => ?_)
  refine v_aload_n C dX4_add_20 0 rfl rfl ?_
  refine w_getN C fl_X4_18 dX4_add_21 rfl hw (fun a5 hw => ?_)
  refine v_aload_n C dX4_add_24 0 rfl rfl ?_
  refine w_getI C fl_X4_30 dX4_add_25 rfl hw (fun x6 hw => ?_)
  refine v_iload_n C dX4_add_28 3 rfl rfl ?_
  refine w_iastore C dX4_add_29 hw (fun h hw => ?_)
  refine v_aload_n C dX4_add_30 0 rfl rfl ?_
  refine w_getN C fl_X4_21 dX4_add_31 rfl hw (fun a7 hw => ?_)
  refine v_aload_n C dX4_add_34 0 rfl rfl ?_
  refine w_getI C fl_X4_30 dX4_add_35 rfl hw (fun x8 hw => ?_)
  refine v_iload C dX4_add_38 4 rfl ?_
  refine w_iastore C dX4_add_40 hw (fun h hw => ?_)
  refine v_aload_n C dX4_add_41 0 rfl rfl ?_
  refine w_getN C fl_X4_24 dX4_add_42 rfl hw (fun a9 hw => ?_)
  refine v_aload_n C dX4_add_45 0 rfl rfl ?_
  refine w_getI C fl_X4_30 dX4_add_46 rfl hw (fun x10 hw => ?_)
  refine v_iload C dX4_add_49 5 rfl ?_
  refine w_iastore C dX4_add_51 hw (fun h hw => ?_)
  refine v_aload_n C dX4_add_52 0 rfl rfl ?_
  refine w_getN C fl_X4_27 dX4_add_53 rfl hw (fun a11 hw => ?_)
  refine v_aload_n C dX4_add_56 0 rfl rfl ?_
  refine w_getI C fl_X4_30 dX4_add_57 rfl hw (fun x12 hw => ?_)
  refine v_iconst (v := 1) C dX4_add_60 (by decide) ?_
  refine w_iastore C dX4_add_61 hw (fun h hw => ?_)
  refine v_aload_n C dX4_add_62 0 rfl rfl ?_
  refine v_dup C dX4_add_63 rfl ?_
  refine w_getI C fl_X4_30 dX4_add_64 rfl hw (fun x13 hw => ?_)
  refine v_iconst (v := 1) C dX4_add_67 (by decide) ?_
  refine v_iadd C dX4_add_68 ?_
  refine w_putI C fp_X4_30 (Or.inl rfl) dX4_add_69 hw (fun h hw => ?_)
  refine v_aload_n C dX4_add_72 0 rfl rfl ?_
  refine w_getI C fl_X4_30 dX4_add_73 rfl hw (fun x14 hw => ?_)
  refine v_iconst (v := 1) C dX4_add_76 (by decide) ?_
  refine v_isub C dX4_add_77 ?_
  exact (rt_MQ C _).1 _ _ _ _ _ _ hr dX4_add_78 (by decide) (by decide) ⟨_, rfl, hw⟩
-- GrassField$People.become(LGrassField$People;)V
theorem dX4_become_0 : decode cX4_become 0 = .ok (.aload_n 0, 1) := by decide +kernel
theorem dX4_become_1 : decode cX4_become 1 = .ok (.aload_n 1, 1) := by decide +kernel
theorem dX4_become_2 : decode cX4_become 2 = .ok (.getfield 30, 3) := by decide +kernel
theorem dX4_become_5 : decode cX4_become 5 = .ok (.putfield 30, 3) := by decide +kernel
theorem dX4_become_8 : decode cX4_become 8 = .ok (.aload_n 1, 1) := by decide +kernel
theorem dX4_become_9 : decode cX4_become 9 = .ok (.getfield 9, 3) := by decide +kernel
theorem dX4_become_12 : decode cX4_become 12 = .ok (.iconst 0, 1) := by decide +kernel
theorem dX4_become_13 : decode cX4_become 13 = .ok (.aload_n 0, 1) := by decide +kernel
theorem dX4_become_14 : decode cX4_become 14 = .ok (.getfield 9, 3) := by decide +kernel
theorem dX4_become_17 : decode cX4_become 17 = .ok (.iconst 0, 1) := by decide +kernel
theorem dX4_become_18 : decode cX4_become 18 = .ok (.bipush 8, 2) := by decide +kernel
theorem dX4_become_20 : decode cX4_become 20 = .ok (.invokestatic 48, 3) := by decide +kernel
theorem dX4_become_23 : decode cX4_become 23 = .ok (.aload_n 1, 1) := by decide +kernel
theorem dX4_become_24 : decode cX4_become 24 = .ok (.getfield 15, 3) := by decide +kernel
theorem dX4_become_27 : decode cX4_become 27 = .ok (.iconst 0, 1) := by decide +kernel
theorem dX4_become_28 : decode cX4_become 28 = .ok (.aload_n 0, 1) := by decide +kernel
theorem dX4_become_29 : decode cX4_become 29 = .ok (.getfield 15, 3) := by decide +kernel
theorem dX4_become_32 : decode cX4_become 32 = .ok (.iconst 0, 1) := by decide +kernel
theorem dX4_become_33 : decode cX4_become 33 = .ok (.bipush 8, 2) := by decide +kernel
theorem dX4_become_35 : decode cX4_become 35 = .ok (.invokestatic 48, 3) := by decide +kernel
theorem dX4_become_38 : decode cX4_become 38 = .ok (.aload_n 1, 1) := by decide +kernel
theorem dX4_become_39 : decode cX4_become 39 = .ok (.getfield 18, 3) := by decide +kernel
theorem dX4_become_42 : decode cX4_become 42 = .ok (.iconst 0, 1) := by decide +kernel
theorem dX4_become_43 : decode cX4_become 43 = .ok (.aload_n 0, 1) := by decide +kernel
theorem dX4_become_44 : decode cX4_become 44 = .ok (.getfield 18, 3) := by decide +kernel
theorem dX4_become_47 : decode cX4_become 47 = .ok (.iconst 0, 1) := by decide +kernel
theorem dX4_become_48 : decode cX4_become 48 = .ok (.bipush 8, 2) := by decide +kernel
theorem dX4_become_50 : decode cX4_become 50 = .ok (.invokestatic 48, 3) := by decide +kernel
theorem dX4_become_53 : decode cX4_become 53 = .ok (.aload_n 1, 1) := by decide +kernel
theorem dX4_become_54 : decode cX4_become 54 = .ok (.getfield 21, 3) := by decide +kernel
theorem dX4_become_57 : decode cX4_become 57 = .ok (.iconst 0, 1) := by decide +kernel
theorem dX4_become_58 : decode cX4_become 58 = .ok (.aload_n 0, 1) := by decide +kernel
theorem dX4_become_59 : decode cX4_become 59 = .ok (.getfield 21, 3) := by decide +kernel
theorem dX4_become_62 : decode cX4_become 62 = .ok (.iconst 0, 1) := by decide +kernel
theorem dX4_become_63 : decode cX4_become 63 = .ok (.bipush 8, 2) := by decide +kernel
theorem dX4_become_65 : decode cX4_become 65 = .ok (.invokestatic 48, 3) := by decide +kernel
theorem dX4_become_68 : decode cX4_become 68 = .ok (.aload_n 1, 1) := by decide +kernel
theorem dX4_become_69 : decode cX4_become 69 = .ok (.getfield 24, 3) := by decide +kernel
theorem dX4_become_72 : decode cX4_become 72 = .ok (.iconst 0, 1) := by decide +kernel
theorem dX4_become_73 : decode cX4_become 73 = .ok (.aload_n 0, 1) := by decide +kernel
theorem dX4_become_74 : decode cX4_become 74 = .ok (.getfield 24, 3) := by decide +kernel
theorem dX4_become_77 : decode cX4_become 77 = .ok (.iconst 0, 1) := by decide +kernel
theorem dX4_become_78 : decode cX4_become 78 = .ok (.bipush 8, 2) := by decide +kernel
theorem dX4_become_80 : decode cX4_become 80 = .ok (.invokestatic 48, 3) := by decide +kernel
theorem dX4_become_83 : decode cX4_become 83 = .ok (.aload_n 1, 1) := by decide +kernel
theorem dX4_become_84 : decode cX4_become 84 = .ok (.getfield 27, 3) := by decide +kernel
theorem dX4_become_87 : decode cX4_become 87 = .ok (.iconst 0, 1) := by decide +kernel
theorem dX4_become_88 : decode cX4_become 88 = .ok (.aload_n 0, 1) := by decide +kernel
theorem dX4_become_89 : decode cX4_become 89 = .ok (.getfield 27, 3) := by decide +kernel
theorem dX4_become_92 : decode cX4_become 92 = .ok (.iconst 0, 1) := by decide +kernel
theorem dX4_become_93 : decode cX4_become 93 = .ok (.bipush 8, 2) := by decide +kernel
theorem dX4_become_95 : decode cX4_become 95 = .ok (.invokestatic 48, 3) := by decide +kernel
theorem dX4_become_98 : decode cX4_become 98 = .ok (.return_, 1) := by decide +kernel
def w_X4_become  (v0 : Nat) (v1 : Nat) (h : AH) (Q : AH → Prop) : Prop :=
  fI h v1 4 0 fun x1 =>
  uI h v0 4 0 x1 fun h =>
  fN h v1 4 1 fun a2 =>
  fN h v0 4 1 fun a3 =>
  cp h a2 (0 : Int32) a3 (0 : Int32) (8 : Int32) fun h =>
  fN h v1 4 2 fun a4 =>
  fN h v0 4 2 fun a5 =>
  cp h a4 (0 : Int32) a5 (0 : Int32) (8 : Int32) fun h =>
  fN h v1 4 3 fun a6 =>
  fN h v0 4 3 fun a7 =>
  cp h a6 (0 : Int32) a7 (0 : Int32) (8 : Int32) fun h =>
  fN h v1 4 4 fun a8 =>
  fN h v0 4 4 fun a9 =>
  cp h a8 (0 : Int32) a9 (0 : Int32) (8 : Int32) fun h =>
  fN h v1 4 5 fun a10 =>
  fN h v0 4 5 fun a11 =>
  cp h a10 (0 : Int32) a11 (0 : Int32) (8 : Int32) fun h =>
  fN h v1 4 6 fun a12 =>
  fN h v0 4 6 fun a13 =>
  cp h a12 (0 : Int32) a13 (0 : Int32) (8 : Int32) fun h =>
  Q h
set_option maxRecDepth 100000 in
set_option maxHeartbeats 4000000 in
theorem s_X4_become {l : Launch}  {v0 : Nat} {v1 : Nat} {h : AH} {Q : AH → Prop}  (hw : w_X4_become  v0 v1 h Q) : CT l yX4_become cX4_become 2 none 1 0 0 [.ref v0, .ref v1] h (QV Q) := by
  refine CT.of (by decide) ⟨rfl, ⟨rfl, trivial⟩⟩ (Nat.le_of_ble_eq_true rfl) ?_
  intro p e s m args below meth c g C hr hin
  refine v_eq (pc' := 0) (ls' := [(0, .ref v0), (1, .ref v1)]) rfl rfl rfl rfl ?_
  refine v_aload_n C dX4_become_0 0 rfl rfl ?_
  refine v_aload_n C dX4_become_1 1 rfl rfl ?_
  refine w_getI C fl_X4_30 dX4_become_2 rfl hw (fun x1 hw => ?_)
  refine w_putI C fp_X4_30 (Or.inl rfl) dX4_become_5 hw (fun h hw => ?_)
  refine v_aload_n C dX4_become_8 1 rfl rfl ?_
  refine w_getN C fl_X4_9 dX4_become_9 rfl hw (fun a2 hw => ?_)
  refine v_iconst (v := 0) C dX4_become_12 (by decide) ?_
  refine v_aload_n C dX4_become_13 0 rfl rfl ?_
  refine w_getN C fl_X4_9 dX4_become_14 rfl hw (fun a3 hw => ?_)
  refine v_iconst (v := 0) C dX4_become_17 (by decide) ?_
  refine v_bipush (v := 8) C dX4_become_18 (by decide) ?_
  refine w_acopy C ac_X4_48 ac_nat ac_st ac_in dX4_become_20 (by decide) (by decide) hw (fun h hw => ?_)
  refine v_aload_n C dX4_become_23 1 rfl rfl ?_
  refine w_getN C fl_X4_15 dX4_become_24 rfl hw (fun a4 hw => ?_)
  refine v_iconst (v := 0) C dX4_become_27 (by decide) ?_
  refine v_aload_n C dX4_become_28 0 rfl rfl ?_
  refine w_getN C fl_X4_15 dX4_become_29 rfl hw (fun a5 hw => ?_)
  refine v_iconst (v := 0) C dX4_become_32 (by decide) ?_
  refine v_bipush (v := 8) C dX4_become_33 (by decide) ?_
  refine w_acopy C ac_X4_48 ac_nat ac_st ac_in dX4_become_35 (by decide) (by decide) hw (fun h hw => ?_)
  refine v_aload_n C dX4_become_38 1 rfl rfl ?_
  refine w_getN C fl_X4_18 dX4_become_39 rfl hw (fun a6 hw => ?_)
  refine v_iconst (v := 0) C dX4_become_42 (by decide) ?_
  refine v_aload_n C dX4_become_43 0 rfl rfl ?_
  refine w_getN C fl_X4_18 dX4_become_44 rfl hw (fun a7 hw => ?_)
  refine v_iconst (v := 0) C dX4_become_47 (by decide) ?_
  refine v_bipush (v := 8) C dX4_become_48 (by decide) ?_
  refine w_acopy C ac_X4_48 ac_nat ac_st ac_in dX4_become_50 (by decide) (by decide) hw (fun h hw => ?_)
  refine v_aload_n C dX4_become_53 1 rfl rfl ?_
  refine w_getN C fl_X4_21 dX4_become_54 rfl hw (fun a8 hw => ?_)
  refine v_iconst (v := 0) C dX4_become_57 (by decide) ?_
  refine v_aload_n C dX4_become_58 0 rfl rfl ?_
  refine w_getN C fl_X4_21 dX4_become_59 rfl hw (fun a9 hw => ?_)
  refine v_iconst (v := 0) C dX4_become_62 (by decide) ?_
  refine v_bipush (v := 8) C dX4_become_63 (by decide) ?_
  refine w_acopy C ac_X4_48 ac_nat ac_st ac_in dX4_become_65 (by decide) (by decide) hw (fun h hw => ?_)
  refine v_aload_n C dX4_become_68 1 rfl rfl ?_
  refine w_getN C fl_X4_24 dX4_become_69 rfl hw (fun a10 hw => ?_)
  refine v_iconst (v := 0) C dX4_become_72 (by decide) ?_
  refine v_aload_n C dX4_become_73 0 rfl rfl ?_
  refine w_getN C fl_X4_24 dX4_become_74 rfl hw (fun a11 hw => ?_)
  refine v_iconst (v := 0) C dX4_become_77 (by decide) ?_
  refine v_bipush (v := 8) C dX4_become_78 (by decide) ?_
  refine w_acopy C ac_X4_48 ac_nat ac_st ac_in dX4_become_80 (by decide) (by decide) hw (fun h hw => ?_)
  refine v_aload_n C dX4_become_83 1 rfl rfl ?_
  refine w_getN C fl_X4_27 dX4_become_84 rfl hw (fun a12 hw => ?_)
  refine v_iconst (v := 0) C dX4_become_87 (by decide) ?_
  refine v_aload_n C dX4_become_88 0 rfl rfl ?_
  refine w_getN C fl_X4_27 dX4_become_89 rfl hw (fun a13 hw => ?_)
  refine v_iconst (v := 0) C dX4_become_92 (by decide) ?_
  refine v_bipush (v := 8) C dX4_become_93 (by decide) ?_
  refine w_acopy C ac_X4_48 ac_nat ac_st ac_in dX4_become_95 (by decide) (by decide) hw (fun h hw => ?_)
  exact (rt_MQ C _).2.2.1 _ _ _ _ _ hr dX4_become_98 (by decide) (by decide) ⟨rfl, hw⟩
-- GrassField$People.isRelated(IIZ)Z
theorem dX4_isRelated_0 : decode cX4_isRelated 0 = .ok (.aload_n 0, 1) := by decide +kernel
theorem dX4_isRelated_1 : decode cX4_isRelated 1 = .ok (.getfield 27, 3) := by decide +kernel
theorem dX4_isRelated_4 : decode cX4_isRelated 4 = .ok (.iload_n 2, 1) := by decide +kernel
theorem dX4_isRelated_5 : decode cX4_isRelated 5 = .ok (.iaload, 1) := by decide +kernel
theorem dX4_isRelated_6 : decode cX4_isRelated 6 = .ok (.iconst 1, 1) := by decide +kernel
theorem dX4_isRelated_7 : decode cX4_isRelated 7 = .ok (.if_icmp .ne 36, 3) := by decide +kernel
theorem dX4_isRelated_10 : decode cX4_isRelated 10 = .ok (.iload_n 2, 1) := by decide +kernel
theorem dX4_isRelated_11 : decode cX4_isRelated 11 = .ok (.iload_n 1, 1) := by decide +kernel
theorem dX4_isRelated_12 : decode cX4_isRelated 12 = .ok (.if_icmp .eq 31, 3) := by decide +kernel
theorem dX4_isRelated_15 : decode cX4_isRelated 15 = .ok (.aload_n 0, 1) := by decide +kernel
theorem dX4_isRelated_16 : decode cX4_isRelated 16 = .ok (.getfield 15, 3) := by decide +kernel
theorem dX4_isRelated_19 : decode cX4_isRelated 19 = .ok (.iload_n 2, 1) := by decide +kernel
theorem dX4_isRelated_20 : decode cX4_isRelated 20 = .ok (.iaload, 1) := by decide +kernel
theorem dX4_isRelated_21 : decode cX4_isRelated 21 = .ok (.aload_n 0, 1) := by decide +kernel
theorem dX4_isRelated_22 : decode cX4_isRelated 22 = .ok (.getfield 15, 3) := by decide +kernel
theorem dX4_isRelated_25 : decode cX4_isRelated 25 = .ok (.iload_n 1, 1) := by decide +kernel
theorem dX4_isRelated_26 : decode cX4_isRelated 26 = .ok (.iaload, 1) := by decide +kernel
theorem dX4_isRelated_27 : decode cX4_isRelated 27 = .ok (.if_icmp .eq 7, 3) := by decide +kernel
theorem dX4_isRelated_30 : decode cX4_isRelated 30 = .ok (.iconst 1, 1) := by decide +kernel
theorem dX4_isRelated_31 : decode cX4_isRelated 31 = .ok (.goto 4, 3) := by decide +kernel
theorem dX4_isRelated_34 : decode cX4_isRelated 34 = .ok (.iconst 0, 1) := by decide +kernel
theorem dX4_isRelated_35 : decode cX4_isRelated 35 = .ok (.iload_n 3, 1) := by decide +kernel
theorem dX4_isRelated_36 : decode cX4_isRelated 36 = .ok (.if_icmp .ne 7, 3) := by decide +kernel
theorem dX4_isRelated_39 : decode cX4_isRelated 39 = .ok (.iconst 1, 1) := by decide +kernel
theorem dX4_isRelated_40 : decode cX4_isRelated 40 = .ok (.goto 4, 3) := by decide +kernel
theorem dX4_isRelated_43 : decode cX4_isRelated 43 = .ok (.iconst 0, 1) := by decide +kernel
theorem dX4_isRelated_44 : decode cX4_isRelated 44 = .ok (.ireturn, 1) := by decide +kernel
def w_X4_isRelated_44  (t0 : Int32) (h : AH) (Q : Int32 → AH → Prop) : Prop :=
  z1 t0 (Q t0 h)
def w_X4_isRelated_43  (h : AH) (Q : Int32 → AH → Prop) : Prop :=
  w_X4_isRelated_44 (0 : Int32) h Q
def w_X4_isRelated_35  (v3 : Int32) (t0 : Int32) (h : AH) (Q : Int32 → AH → Prop) : Prop :=
  br (t0 = v3) (
    w_X4_isRelated_44 (1 : Int32) h Q) (
    w_X4_isRelated_43  h Q)
def w_X4_isRelated  (v0 : Nat) (v1 : Int32) (v2 : Int32) (v3 : Int32) (h : AH) (Q : Int32 → AH → Prop) : Prop :=
  fN h v0 4 6 fun a1 =>
  aI h a1 v2 fun x2 =>
  br (x2 = (1 : Int32)) (
    br (v2 = v1) (
      w_X4_isRelated_43  h Q) (
      fN h v0 4 2 fun a3 =>
      aI h a3 v2 fun x4 =>
      fN h v0 4 2 fun a5 =>
      aI h a5 v1 fun x6 =>
      br (x4 = x6) (
        w_X4_isRelated_35 v3 (0 : Int32) h Q) (
        w_X4_isRelated_35 v3 (1 : Int32) h Q))) (
    w_X4_isRelated_43  h Q)
set_option maxRecDepth 100000 in
set_option maxHeartbeats 4000000 in
theorem s_X4_isRelated_44 {p : Program} {l : Launch} {e : Env} {s : State} {m : MethodId} {args : Array Value} {below : List Frame} {meth : Method} {c : Code} {g : GG}  {Q : Int32 → AH → Prop}  (C : CXT p l s m args meth c RX4 cX4_isRelated 4 g) (hr : meth.sig.returnType = (some .boolean))  : ∀ (t0 : Int32) (h : AH), w_X4_isRelated_44  t0 h Q → V p l e s m args below meth c g 0 0 0 4 0 0 (MQ below (QCx g (QI Q)) args s 0 0 (gA g)) 44 [] [.int t0] h := by
  intro t0 h hw
  exact (rt_MQ C _).2.1 _ _ _ _ _ _ _ hr (by rcases hw.1 with z | z <;> rw [z] <;> rfl) dX4_isRelated_44 (by decide) (by decide) ⟨_, rfl, hw.2⟩
set_option maxRecDepth 100000 in
set_option maxHeartbeats 4000000 in
theorem s_X4_isRelated_43 {p : Program} {l : Launch} {e : Env} {s : State} {m : MethodId} {args : Array Value} {below : List Frame} {meth : Method} {c : Code} {g : GG}  {Q : Int32 → AH → Prop}  (C : CXT p l s m args meth c RX4 cX4_isRelated 4 g) (hr : meth.sig.returnType = (some .boolean))  : ∀  (h : AH), w_X4_isRelated_43  h Q → V p l e s m args below meth c g 0 0 0 4 0 0 (MQ below (QCx g (QI Q)) args s 0 0 (gA g)) 43 [] [] h := by
  intro  h hw
  refine v_iconst (v := 0) C dX4_isRelated_43 (by decide) ?_
  exact s_X4_isRelated_44 C hr  _ _ hw
set_option maxRecDepth 100000 in
set_option maxHeartbeats 4000000 in
theorem s_X4_isRelated_35 {p : Program} {l : Launch} {e : Env} {s : State} {m : MethodId} {args : Array Value} {below : List Frame} {meth : Method} {c : Code} {g : GG}  {Q : Int32 → AH → Prop}  (C : CXT p l s m args meth c RX4 cX4_isRelated 4 g) (hr : meth.sig.returnType = (some .boolean))  : ∀ (v3 : Int32) (t0 : Int32) (h : AH), w_X4_isRelated_35  v3 t0 h Q → V p l e s m args below meth c g 0 0 0 4 0 0 (MQ below (QCx g (QI Q)) args s 0 0 (gA g)) 35 [(3, .int v3)] [.int t0] h := by
  intro v3 t0 h hw
  refine v_iload_n C dX4_isRelated_35 0 rfl rfl ?_
  refine v_icmp_ne (tgt := 43) C dX4_isRelated_36 (by decide) (fun c_36 => ?_) (fun c_36 => ?_)
  · have hw := hw.2 c_36
    refine v_sub [] rfl ?_
    exact s_X4_isRelated_43 C hr   _ hw
  · have hw := hw.1 c_36
    refine v_iconst (v := 1) C dX4_isRelated_39 (by decide) ?_
    refine v_goto (tgt := 44) C dX4_isRelated_40 (by decide) ?_
    refine v_sub [] rfl ?_
    exact s_X4_isRelated_44 C hr  _ _ hw
set_option maxRecDepth 100000 in
set_option maxHeartbeats 4000000 in
theorem s_X4_isRelated {l : Launch}  {v0 : Nat} {v1 : Int32} {v2 : Int32} {v3 : Int32} {h : AH} {Q : Int32 → AH → Prop}  (hw : w_X4_isRelated  v0 v1 v2 v3 h Q) : CT l yX4_isRelated cX4_isRelated 4 (some .boolean) 0 0 0 [.ref v0, .int v1, .int v2, .int v3] h (QI Q) := by
  refine CT.of (by decide) ⟨rfl, ⟨rfl, ⟨rfl, ⟨rfl, trivial⟩⟩⟩⟩ (Nat.le_of_ble_eq_true rfl) ?_
  intro p e s m args below meth c g C hr hin
  refine v_eq (pc' := 0) (ls' := [(0, .ref v0), (1, .int v1), (2, .int v2), (3, .int v3)]) rfl rfl rfl rfl ?_
  refine v_aload_n C dX4_isRelated_0 0 rfl rfl ?_
  refine w_getN C fl_X4_27 dX4_isRelated_1 rfl hw (fun a1 hw => ?_)
  refine v_iload_n C dX4_isRelated_4 2 rfl rfl ?_
  refine w_iaload C dX4_isRelated_5 hw (fun x2 hw => ?_)
  refine v_iconst (v := 1) C dX4_isRelated_6 (by decide) ?_
  refine v_icmp_ne (tgt := 43) C dX4_isRelated_7 (by decide) (fun c_7 => ?_) (fun c_7 => ?_)
  · have hw := hw.2 c_7
    refine v_sub [] rfl ?_
    exact s_X4_isRelated_43 C hr   _ hw
  · have hw := hw.1 c_7
    refine v_iload_n C dX4_isRelated_10 2 rfl rfl ?_
    refine v_iload_n C dX4_isRelated_11 1 rfl rfl ?_
    refine v_icmp_eq (tgt := 43) C dX4_isRelated_12 (by decide) (fun c_12 => ?_) (fun c_12 => ?_)
    · have hw := hw.1 c_12
      refine v_sub [] rfl ?_
      exact s_X4_isRelated_43 C hr   _ hw
    · have hw := hw.2 c_12
      refine v_aload_n C dX4_isRelated_15 0 rfl rfl ?_
      refine w_getN C fl_X4_15 dX4_isRelated_16 rfl hw (fun a3 hw => ?_)
      refine v_iload_n C dX4_isRelated_19 2 rfl rfl ?_
      refine w_iaload C dX4_isRelated_20 hw (fun x4 hw => ?_)
      refine v_aload_n C dX4_isRelated_21 0 rfl rfl ?_
      refine w_getN C fl_X4_15 dX4_isRelated_22 rfl hw (fun a5 hw => ?_)
      refine v_iload_n C dX4_isRelated_25 1 rfl rfl ?_
      refine w_iaload C dX4_isRelated_26 hw (fun x6 hw => ?_)
      refine v_icmp_eq (tgt := 34) C dX4_isRelated_27 (by decide) (fun c_27 => ?_) (fun c_27 => ?_)
      · have hw := hw.1 c_27
        refine v_iconst (v := 0) C dX4_isRelated_34 (by decide) ?_
        refine v_sub [3] rfl ?_
        exact s_X4_isRelated_35 C hr  _ _ _ hw
      · have hw := hw.2 c_27
        refine v_iconst (v := 1) C dX4_isRelated_30 (by decide) ?_
        refine v_goto (tgt := 35) C dX4_isRelated_31 (by decide) ?_
        refine v_sub [3] rfl ?_
        exact s_X4_isRelated_35 C hr  _ _ _ hw
-- GrassField$People.countNear(IZI)I
theorem dX4_countNear_0 : decode cX4_countNear 0 = .ok (.iconst 0, 1) := by decide +kernel
theorem dX4_countNear_1 : decode cX4_countNear 1 = .ok (.istore 4, 2) := by decide +kernel
theorem dX4_countNear_3 : decode cX4_countNear 3 = .ok (.iconst 0, 1) := by decide +kernel
theorem dX4_countNear_4 : decode cX4_countNear 4 = .ok (.istore 5, 2) := by decide +kernel
theorem dX4_countNear_6 : decode cX4_countNear 6 = .ok (.iload 5, 2) := by decide +kernel
theorem dX4_countNear_8 : decode cX4_countNear 8 = .ok (.aload_n 0, 1) := by decide +kernel
theorem dX4_countNear_9 : decode cX4_countNear 9 = .ok (.getfield 30, 3) := by decide +kernel
theorem dX4_countNear_12 : decode cX4_countNear 12 = .ok (.if_icmp .ge 43, 3) := by decide +kernel
theorem dX4_countNear_15 : decode cX4_countNear 15 = .ok (.aload_n 0, 1) := by decide +kernel
theorem dX4_countNear_16 : decode cX4_countNear 16 = .ok (.iload_n 1, 1) := by decide +kernel
theorem dX4_countNear_17 : decode cX4_countNear 17 = .ok (.iload 5, 2) := by decide +kernel
theorem dX4_countNear_19 : decode cX4_countNear 19 = .ok (.iload_n 2, 1) := by decide +kernel
theorem dX4_countNear_20 : decode cX4_countNear 20 = .ok (.invokevirtual 38, 3) := by decide +kernel
theorem dX4_countNear_23 : decode cX4_countNear 23 = .ok (.ifCond .eq 26, 3) := by decide +kernel
theorem dX4_countNear_26 : decode cX4_countNear 26 = .ok (.aload_n 0, 1) := by decide +kernel
theorem dX4_countNear_27 : decode cX4_countNear 27 = .ok (.getfield 18, 3) := by decide +kernel
theorem dX4_countNear_30 : decode cX4_countNear 30 = .ok (.iload_n 1, 1) := by decide +kernel
theorem dX4_countNear_31 : decode cX4_countNear 31 = .ok (.iaload, 1) := by decide +kernel
theorem dX4_countNear_32 : decode cX4_countNear 32 = .ok (.aload_n 0, 1) := by decide +kernel
theorem dX4_countNear_33 : decode cX4_countNear 33 = .ok (.getfield 18, 3) := by decide +kernel
theorem dX4_countNear_36 : decode cX4_countNear 36 = .ok (.iload 5, 2) := by decide +kernel
theorem dX4_countNear_38 : decode cX4_countNear 38 = .ok (.iaload, 1) := by decide +kernel
theorem dX4_countNear_39 : decode cX4_countNear 39 = .ok (.invokestatic 42, 3) := by decide +kernel
theorem dX4_countNear_42 : decode cX4_countNear 42 = .ok (.iload_n 3, 1) := by decide +kernel
theorem dX4_countNear_43 : decode cX4_countNear 43 = .ok (.if_icmp .gt 6, 3) := by decide +kernel
theorem dX4_countNear_46 : decode cX4_countNear 46 = .ok (.iinc 4 1, 3) := by decide +kernel
theorem dX4_countNear_49 : decode cX4_countNear 49 = .ok (.iinc 5 1, 3) := by decide +kernel
theorem dX4_countNear_52 : decode cX4_countNear 52 = .ok (.goto (-46), 3) := by decide +kernel
theorem dX4_countNear_55 : decode cX4_countNear 55 = .ok (.iload 4, 2) := by decide +kernel
theorem dX4_countNear_57 : decode cX4_countNear 57 = .ok (.ireturn, 1) := by decide +kernel
def w_X4_countNear_55  (v4 : Int32) (h : AH) (Q : Int32 → AH → Prop) : Prop :=
  Q v4 h
def w_X4_countNear_49  (x55 : Int32 → AH → Prop) (k : Int32 → Int32 → AH → Prop) (v0 : Nat) (v1 : Int32) (v2 : Int32) (v3 : Int32) (v4 : Int32) (v5 : Int32) (h : AH) (Q : Int32 → AH → Prop) : Prop :=
  k v4 (v5 + 1) h
def w_X4_countNear_6  (x55 : Int32 → AH → Prop) (k : Int32 → Int32 → AH → Prop) (v0 : Nat) (v1 : Int32) (v2 : Int32) (v3 : Int32) (v4 : Int32) (v5 : Int32) (h : AH) (Q : Int32 → AH → Prop) : Prop :=
  fI h v0 4 0 fun x1 =>
  br (x1 ≤ v5) (
    x55 v4 h) (
    vr h v0 4 (
    w_X4_isRelated v0 v1 v5 v2 h (fun x2 h =>
    br (x2 = 0) (
      w_X4_countNear_49 x55 k v0 v1 v2 v3 v4 v5 h Q) (
      fN h v0 4 3 fun a3 =>
      aI h a3 v1 fun x4 =>
      fN h v0 4 3 fun a5 =>
      aI h a5 v5 fun x6 =>
      w_X3_far x4 x6 h (fun x7 h =>
      br (v3 < x7) (
        w_X4_countNear_49 x55 k v0 v1 v2 v3 v4 v5 h Q) (
        w_X4_countNear_49 x55 k v0 v1 v2 v3 (v4 + 1) v5 h Q))))))
def w_X4_countNear  (v0 : Nat) (v1 : Int32) (v2 : Int32) (v3 : Int32) (h : AH) (Q : Int32 → AH → Prop) : Prop :=
  lp (fun (k2 : Int32 × Int32 × AH → Prop) (s2 : Int32 × Int32 × AH) => w_X4_countNear_6  (fun (y4 : Int32) h => w_X4_countNear_55 y4 h Q) (fun (y4 : Int32) (y5 : Int32) h => k2 (y4, y5, h)) v0 v1 v2 v3 s2.1 s2.2.1 s2.2.2 Q) ((0 : Int32), (0 : Int32), h)
set_option maxRecDepth 100000 in
set_option maxHeartbeats 4000000 in
theorem s_X4_countNear_55 {p : Program} {l : Launch} {e : Env} {s : State} {m : MethodId} {args : Array Value} {below : List Frame} {meth : Method} {c : Code} {g : GG}  {Q : Int32 → AH → Prop}  (C : CXT p l s m args meth c RX4 cX4_countNear 6 g) (hr : meth.sig.returnType = (some .int))  : ∀ (v4 : Int32) (h : AH), w_X4_countNear_55  v4 h Q → V p l e s m args below meth c g 2 0 0 6 0 0 (MQ below (QCx g (QI Q)) args s 0 0 (gA g)) 55 [(4, .int v4)] [] h := by
  intro v4 h hw
  refine v_iload C dX4_countNear_55 0 rfl ?_
  exact (rt_MQ C _).1 _ _ _ _ _ _ hr dX4_countNear_57 (by decide) (by decide) ⟨_, rfl, hw⟩
set_option maxRecDepth 100000 in
set_option maxHeartbeats 4000000 in
theorem s_X4_countNear_49 {p : Program} {l : Launch} {e : Env} {s : State} {m : MethodId} {args : Array Value} {below : List Frame} {meth : Method} {c : Code} {g : GG} {v0 : Nat} {v1 : Int32} {v2 : Int32} {v3 : Int32} {Q : Int32 → AH → Prop} {x55 : Int32 → AH → Prop} {k : Int32 → Int32 → AH → Prop} (C : CXT p l s m args meth c RX4 cX4_countNear 6 g) (hr : meth.sig.returnType = (some .int)) (hx55 : ∀ (y4 : Int32) (h : AH), x55 y4 h → V p l e s m args below meth c g 2 0 0 6 0 0 (MQ below (QCx g (QI Q)) args s 0 0 (gA g)) 55 [(4, .int y4)] [] h) (hk : ∀ (y4 : Int32) (y5 : Int32) (h : AH), k y4 y5 h → V p l e s m args below meth c g 2 0 0 6 0 0 (MQ below (QCx g (QI Q)) args s 0 0 (gA g)) 6 [(0, .ref v0), (1, .int v1), (2, .int v2), (3, .int v3), (4, .int y4), (5, .int y5)] [] h) : ∀ (v4 : Int32) (v5 : Int32) (h : AH), w_X4_countNear_49  x55 k v0 v1 v2 v3 v4 v5 h Q → V p l e s m args below meth c g 2 0 0 6 0 0 (MQ below (QCx g (QI Q)) args s 0 0 (gA g)) 49 [(0, .ref v0), (1, .int v1), (2, .int v2), (3, .int v3), (4, .int v4), (5, .int v5)] [] h := by
  intro v4 v5 h hw
  refine v_iinc (v := 1) (ls' := [(5, .int (v5 + 1)), (0, .ref v0), (1, .int v1), (2, .int v2), (3, .int v3), (4, .int v4)]) C dX4_countNear_49 5 rfl (by decide) (by decide) rfl ?_
  refine v_goto (tgt := 6) C dX4_countNear_52 (by decide) ?_
  refine v_sub [1, 2, 3, 4, 5, 0] rfl ?_
  exact hk _ _ _ hw
set_option maxRecDepth 100000 in
set_option maxHeartbeats 4000000 in
theorem s_X4_countNear_6 {p : Program} {l : Launch} {e : Env} {s : State} {m : MethodId} {args : Array Value} {below : List Frame} {meth : Method} {c : Code} {g : GG} {v0 : Nat} {v1 : Int32} {v2 : Int32} {v3 : Int32} {Q : Int32 → AH → Prop} {x55 : Int32 → AH → Prop} {k : Int32 → Int32 → AH → Prop} (C : CXT p l s m args meth c RX4 cX4_countNear 6 g) (hr : meth.sig.returnType = (some .int)) (hx55 : ∀ (y4 : Int32) (h : AH), x55 y4 h → V p l e s m args below meth c g 2 0 0 6 0 0 (MQ below (QCx g (QI Q)) args s 0 0 (gA g)) 55 [(4, .int y4)] [] h) (hk : ∀ (y4 : Int32) (y5 : Int32) (h : AH), k y4 y5 h → V p l e s m args below meth c g 2 0 0 6 0 0 (MQ below (QCx g (QI Q)) args s 0 0 (gA g)) 6 [(0, .ref v0), (1, .int v1), (2, .int v2), (3, .int v3), (4, .int y4), (5, .int y5)] [] h) : ∀ (v4 : Int32) (v5 : Int32) (h : AH), w_X4_countNear_6  x55 k v0 v1 v2 v3 v4 v5 h Q → V p l e s m args below meth c g 2 0 0 6 0 0 (MQ below (QCx g (QI Q)) args s 0 0 (gA g)) 6 [(0, .ref v0), (1, .int v1), (2, .int v2), (3, .int v3), (4, .int v4), (5, .int v5)] [] h := by
  intro v4 v5 h hw
  refine v_iload C dX4_countNear_6 5 rfl ?_
  refine v_aload_n C dX4_countNear_8 0 rfl rfl ?_
  refine w_getI C fl_X4_30 dX4_countNear_9 rfl hw (fun x1 hw => ?_)
  refine v_icmp_ge (tgt := 55) C dX4_countNear_12 (by decide) (fun c_12 => ?_) (fun c_12 => ?_)
  · have hw := hw.1 c_12
    refine v_sub [4] rfl ?_
    exact hx55 _ _ hw
  · have hw := hw.2 c_12
    refine v_aload_n C dX4_countNear_15 0 rfl rfl ?_
    refine v_iload_n C dX4_countNear_16 1 rfl rfl ?_
    refine v_iload C dX4_countNear_17 5 rfl ?_
    refine v_iload_n C dX4_countNear_19 2 rfl rfl ?_
    refine w_callVi (st := []) C cl_X4_38 im_X4_isRelated se_X4_isRelated rfl hw.1 (s_X4_isRelated hw.2) rfl dX4_countNear_20 rfl (by decide) (by decide) (by decide) (by decide) (by decide) (fun x2 h hw => ?_)
    refine v_if_eq (tgt := 49) C dX4_countNear_23 (by decide) (fun c_23 => ?_) (fun c_23 => ?_)
    · have hw := hw.1 c_23
      exact s_X4_countNear_49 C hr hx55 hk _ _ _ hw
    · have hw := hw.2 c_23
      refine v_aload_n C dX4_countNear_26 0 rfl rfl ?_
      refine w_getN C fl_X4_18 dX4_countNear_27 rfl hw (fun a3 hw => ?_)
      refine v_iload_n C dX4_countNear_30 1 rfl rfl ?_
      refine w_iaload C dX4_countNear_31 hw (fun x4 hw => ?_)
      refine v_aload_n C dX4_countNear_32 0 rfl rfl ?_
      refine w_getN C fl_X4_18 dX4_countNear_33 rfl hw (fun a5 hw => ?_)
      refine v_iload C dX4_countNear_36 5 rfl ?_
      refine w_iaload C dX4_countNear_38 hw (fun x6 hw => ?_)
      refine w_callSi (st := []) C cl_X4_42 st_X3_far (s_X3_far hw) rfl dX4_countNear_39 rfl (by decide) (by decide) (by decide) (by decide) (by decide) (fun x7 h hw => ?_)
      refine v_iload_n C dX4_countNear_42 3 rfl rfl ?_
      refine v_icmp_gt (tgt := 49) C dX4_countNear_43 (by decide) (fun c_43 => ?_) (fun c_43 => ?_)
      · have hw := hw.1 c_43
        exact s_X4_countNear_49 C hr hx55 hk _ _ _ hw
      · have hw := hw.2 c_43
        refine v_iinc (v := 1) (ls' := [(4, .int (v4 + 1)), (0, .ref v0), (1, .int v1), (2, .int v2), (3, .int v3), (5, .int v5)]) C dX4_countNear_46 4 rfl (by decide) (by decide) rfl ?_
        refine v_sub [1, 2, 3, 4, 0, 5] rfl ?_
        exact s_X4_countNear_49 C hr hx55 hk _ _ _ hw
set_option maxRecDepth 100000 in
set_option maxHeartbeats 4000000 in
theorem s_X4_countNear {l : Launch}  {v0 : Nat} {v1 : Int32} {v2 : Int32} {v3 : Int32} {h : AH} {Q : Int32 → AH → Prop}  (hw : w_X4_countNear  v0 v1 v2 v3 h Q) : CT l yX4_countNear cX4_countNear 6 (some .int) 2 0 0 [.ref v0, .int v1, .int v2, .int v3] h (QI Q) := by
  refine CT.of (by decide) ⟨rfl, ⟨rfl, ⟨rfl, ⟨rfl, trivial⟩⟩⟩⟩ (Nat.le_of_ble_eq_true rfl) ?_
  intro p e s m args below meth c g C hr hin
  refine v_eq (pc' := 0) (ls' := [(0, .ref v0), (1, .int v1), (2, .int v2), (3, .int v3)]) rfl rfl rfl rfl ?_
  refine v_iconst (v := 0) C dX4_countNear_0 (by decide) ?_
  refine v_istore (ls' := [(4, .int (0 : Int32)), (0, .ref v0), (1, .int v1), (2, .int v2), (3, .int v3)]) C dX4_countNear_1 (by decide) rfl ?_
  refine v_iconst (v := 0) C dX4_countNear_3 (by decide) ?_
  refine v_istore (ls' := [(5, .int (0 : Int32)), (4, .int (0 : Int32)), (0, .ref v0), (1, .int v1), (2, .int v2), (3, .int v3)]) C dX4_countNear_4 (by decide) rfl ?_
  refine v_sub [2, 3, 4, 5, 1, 0] rfl ?_
  refine lp_walk (P := fun (s' : Int32 × Int32 × AH) => V p l e s m args below meth c g 2 0 0 6 0 0 (MQ below (QCx g (QI Q)) args s 0 0 (gA g)) 6 [(0, .ref v0), (1, .int v1), (2, .int v2), (3, .int v3), (4, .int (s'.1)), (5, .int (s'.2.1))] [] s'.2.2) (fun k2 hk2 s' hw => ?_) ((0 : Int32), (0 : Int32), h) hw
  exact s_X4_countNear_6 C hr (fun y4 h hw => s_X4_countNear_55 C hr  _ h hw) (fun y4 y5 h hw => hk2 (y4, y5, h) hw) _ _ _ hw
-- GrassField$People.foesNear(I)I
theorem dX4_foesNear_0 : decode cX4_foesNear 0 = .ok (.aload_n 0, 1) := by decide +kernel
theorem dX4_foesNear_1 : decode cX4_foesNear 1 = .ok (.iload_n 1, 1) := by decide +kernel
theorem dX4_foesNear_2 : decode cX4_foesNear 2 = .ok (.iconst 1, 1) := by decide +kernel
theorem dX4_foesNear_3 : decode cX4_foesNear 3 = .ok (.iconst 3, 1) := by decide +kernel
theorem dX4_foesNear_4 : decode cX4_foesNear 4 = .ok (.invokevirtual 34, 3) := by decide +kernel
theorem dX4_foesNear_7 : decode cX4_foesNear 7 = .ok (.ireturn, 1) := by decide +kernel
def w_X4_foesNear  (v0 : Nat) (v1 : Int32) (h : AH) (Q : Int32 → AH → Prop) : Prop :=
  vr h v0 4 (
  w_X4_countNear v0 v1 (1 : Int32) (3 : Int32) h (fun x1 h =>
  Q x1 h))
set_option maxRecDepth 100000 in
set_option maxHeartbeats 4000000 in
theorem s_X4_foesNear {l : Launch}  {v0 : Nat} {v1 : Int32} {h : AH} {Q : Int32 → AH → Prop}  (hw : w_X4_foesNear  v0 v1 h Q) : CT l yX4_foesNear cX4_foesNear 2 (some .int) 3 0 0 [.ref v0, .int v1] h (QI Q) := by
  refine CT.of (by decide) ⟨rfl, ⟨rfl, trivial⟩⟩ (Nat.le_of_ble_eq_true rfl) ?_
  intro p e s m args below meth c g C hr hin
  refine v_eq (pc' := 0) (ls' := [(0, .ref v0), (1, .int v1)]) rfl rfl rfl rfl ?_
  refine v_aload_n C dX4_foesNear_0 0 rfl rfl ?_
  refine v_iload_n C dX4_foesNear_1 1 rfl rfl ?_
  refine v_iconst (v := 1) C dX4_foesNear_2 (by decide) ?_
  refine v_iconst (v := 3) C dX4_foesNear_3 (by decide) ?_
  refine w_callVi (st := []) C cl_X4_34 im_X4_countNear se_X4_countNear rfl hw.1 (s_X4_countNear hw.2) rfl dX4_foesNear_4 rfl (by decide) (by decide) (by decide) (by decide) (by decide) (fun x1 h hw => ?_)
  exact (rt_MQ C _).1 _ _ _ _ _ _ hr dX4_foesNear_7 (by decide) (by decide) ⟨_, rfl, hw⟩
-- GrassField$People.friendsNear(I)I
theorem dX4_friendsNear_0 : decode cX4_friendsNear 0 = .ok (.aload_n 0, 1) := by decide +kernel
theorem dX4_friendsNear_1 : decode cX4_friendsNear 1 = .ok (.iload_n 1, 1) := by decide +kernel
theorem dX4_friendsNear_2 : decode cX4_friendsNear 2 = .ok (.iconst 0, 1) := by decide +kernel
theorem dX4_friendsNear_3 : decode cX4_friendsNear 3 = .ok (.iconst 2, 1) := by decide +kernel
theorem dX4_friendsNear_4 : decode cX4_friendsNear 4 = .ok (.invokevirtual 34, 3) := by decide +kernel
theorem dX4_friendsNear_7 : decode cX4_friendsNear 7 = .ok (.ireturn, 1) := by decide +kernel
def w_X4_friendsNear  (v0 : Nat) (v1 : Int32) (h : AH) (Q : Int32 → AH → Prop) : Prop :=
  vr h v0 4 (
  w_X4_countNear v0 v1 (0 : Int32) (2 : Int32) h (fun x1 h =>
  Q x1 h))
set_option maxRecDepth 100000 in
set_option maxHeartbeats 4000000 in
theorem s_X4_friendsNear {l : Launch}  {v0 : Nat} {v1 : Int32} {h : AH} {Q : Int32 → AH → Prop}  (hw : w_X4_friendsNear  v0 v1 h Q) : CT l yX4_friendsNear cX4_friendsNear 2 (some .int) 3 0 0 [.ref v0, .int v1] h (QI Q) := by
  refine CT.of (by decide) ⟨rfl, ⟨rfl, trivial⟩⟩ (Nat.le_of_ble_eq_true rfl) ?_
  intro p e s m args below meth c g C hr hin
  refine v_eq (pc' := 0) (ls' := [(0, .ref v0), (1, .int v1)]) rfl rfl rfl rfl ?_
  refine v_aload_n C dX4_friendsNear_0 0 rfl rfl ?_
  refine v_iload_n C dX4_friendsNear_1 1 rfl rfl ?_
  refine v_iconst (v := 0) C dX4_friendsNear_2 (by decide) ?_
  refine v_iconst (v := 2) C dX4_friendsNear_3 (by decide) ?_
  refine w_callVi (st := []) C cl_X4_34 im_X4_countNear se_X4_countNear rfl hw.1 (s_X4_countNear hw.2) rfl dX4_friendsNear_4 rfl (by decide) (by decide) (by decide) (by decide) (by decide) (fun x1 h hw => ?_)
  exact (rt_MQ C _).1 _ _ _ _ _ _ hr dX4_friendsNear_7 (by decide) (by decide) ⟨_, rfl, hw⟩
-- GrassField$People.livingCount()I
theorem dX4_livingCount_0 : decode cX4_livingCount 0 = .ok (.iconst 0, 1) := by decide +kernel
theorem dX4_livingCount_1 : decode cX4_livingCount 1 = .ok (.istore_n 1, 1) := by decide +kernel
theorem dX4_livingCount_2 : decode cX4_livingCount 2 = .ok (.iconst 0, 1) := by decide +kernel
theorem dX4_livingCount_3 : decode cX4_livingCount 3 = .ok (.istore_n 2, 1) := by decide +kernel
theorem dX4_livingCount_4 : decode cX4_livingCount 4 = .ok (.iload_n 2, 1) := by decide +kernel
theorem dX4_livingCount_5 : decode cX4_livingCount 5 = .ok (.aload_n 0, 1) := by decide +kernel
theorem dX4_livingCount_6 : decode cX4_livingCount 6 = .ok (.getfield 30, 3) := by decide +kernel
theorem dX4_livingCount_9 : decode cX4_livingCount 9 = .ok (.if_icmp .ge 18, 3) := by decide +kernel
theorem dX4_livingCount_12 : decode cX4_livingCount 12 = .ok (.iload_n 1, 1) := by decide +kernel
theorem dX4_livingCount_13 : decode cX4_livingCount 13 = .ok (.aload_n 0, 1) := by decide +kernel
theorem dX4_livingCount_14 : decode cX4_livingCount 14 = .ok (.getfield 27, 3) := by decide +kernel
theorem dX4_livingCount_17 : decode cX4_livingCount 17 = .ok (.iload_n 2, 1) := by decide +kernel
theorem dX4_livingCount_18 : decode cX4_livingCount 18 = .ok (.iaload, 1) := by decide +kernel
theorem dX4_livingCount_19 : decode cX4_livingCount 19 = .ok (.iadd, 1) := by decide +kernel
theorem dX4_livingCount_20 : decode cX4_livingCount 20 = .ok (.istore_n 1, 1) := by decide +kernel
theorem dX4_livingCount_21 : decode cX4_livingCount 21 = .ok (.iinc 2 1, 3) := by decide +kernel
theorem dX4_livingCount_24 : decode cX4_livingCount 24 = .ok (.goto (-20), 3) := by decide +kernel
theorem dX4_livingCount_27 : decode cX4_livingCount 27 = .ok (.iload_n 1, 1) := by decide +kernel
theorem dX4_livingCount_28 : decode cX4_livingCount 28 = .ok (.ireturn, 1) := by decide +kernel
def w_X4_livingCount_27  (v1 : Int32) (h : AH) (Q : Int32 → AH → Prop) : Prop :=
  Q v1 h
def w_X4_livingCount_4  (x27 : Int32 → AH → Prop) (k : Int32 → Int32 → AH → Prop) (v0 : Nat) (v1 : Int32) (v2 : Int32) (h : AH) (Q : Int32 → AH → Prop) : Prop :=
  fI h v0 4 0 fun x1 =>
  br (x1 ≤ v2) (
    x27 v1 h) (
    fN h v0 4 6 fun a2 =>
    aI h a2 v2 fun x3 =>
    bd (v1 + x3) fun x4 =>
    k x4 (v2 + 1) h)
def w_X4_livingCount  (v0 : Nat) (h : AH) (Q : Int32 → AH → Prop) : Prop :=
  lp (fun (k2 : Int32 × Int32 × AH → Prop) (s2 : Int32 × Int32 × AH) => w_X4_livingCount_4  (fun (y1 : Int32) h => w_X4_livingCount_27 y1 h Q) (fun (y1 : Int32) (y2 : Int32) h => k2 (y1, y2, h)) v0 s2.1 s2.2.1 s2.2.2 Q) ((0 : Int32), (0 : Int32), h)
set_option maxRecDepth 100000 in
set_option maxHeartbeats 4000000 in
theorem s_X4_livingCount_27 {p : Program} {l : Launch} {e : Env} {s : State} {m : MethodId} {args : Array Value} {below : List Frame} {meth : Method} {c : Code} {g : GG}  {Q : Int32 → AH → Prop}  (C : CXT p l s m args meth c RX4 cX4_livingCount 3 g) (hr : meth.sig.returnType = (some .int))  : ∀ (v1 : Int32) (h : AH), w_X4_livingCount_27  v1 h Q → V p l e s m args below meth c g 0 0 0 3 0 0 (MQ below (QCx g (QI Q)) args s 0 0 (gA g)) 27 [(1, .int v1)] [] h := by
  intro v1 h hw
  refine v_iload_n C dX4_livingCount_27 0 rfl rfl ?_
  exact (rt_MQ C _).1 _ _ _ _ _ _ hr dX4_livingCount_28 (by decide) (by decide) ⟨_, rfl, hw⟩
set_option maxRecDepth 100000 in
set_option maxHeartbeats 4000000 in
theorem s_X4_livingCount_4 {p : Program} {l : Launch} {e : Env} {s : State} {m : MethodId} {args : Array Value} {below : List Frame} {meth : Method} {c : Code} {g : GG} {v0 : Nat} {Q : Int32 → AH → Prop} {x27 : Int32 → AH → Prop} {k : Int32 → Int32 → AH → Prop} (C : CXT p l s m args meth c RX4 cX4_livingCount 3 g) (hr : meth.sig.returnType = (some .int)) (hx27 : ∀ (y1 : Int32) (h : AH), x27 y1 h → V p l e s m args below meth c g 0 0 0 3 0 0 (MQ below (QCx g (QI Q)) args s 0 0 (gA g)) 27 [(1, .int y1)] [] h) (hk : ∀ (y1 : Int32) (y2 : Int32) (h : AH), k y1 y2 h → V p l e s m args below meth c g 0 0 0 3 0 0 (MQ below (QCx g (QI Q)) args s 0 0 (gA g)) 4 [(0, .ref v0), (1, .int y1), (2, .int y2)] [] h) : ∀ (v1 : Int32) (v2 : Int32) (h : AH), w_X4_livingCount_4  x27 k v0 v1 v2 h Q → V p l e s m args below meth c g 0 0 0 3 0 0 (MQ below (QCx g (QI Q)) args s 0 0 (gA g)) 4 [(0, .ref v0), (1, .int v1), (2, .int v2)] [] h := by
  intro v1 v2 h hw
  refine v_iload_n C dX4_livingCount_4 2 rfl rfl ?_
  refine v_aload_n C dX4_livingCount_5 0 rfl rfl ?_
  refine w_getI C fl_X4_30 dX4_livingCount_6 rfl hw (fun x1 hw => ?_)
  refine v_icmp_ge (tgt := 27) C dX4_livingCount_9 (by decide) (fun c_9 => ?_) (fun c_9 => ?_)
  · have hw := hw.1 c_9
    refine v_sub [1] rfl ?_
    exact hx27 _ _ hw
  · have hw := hw.2 c_9
    refine v_iload_n C dX4_livingCount_12 1 rfl rfl ?_
    refine v_aload_n C dX4_livingCount_13 0 rfl rfl ?_
    refine w_getN C fl_X4_27 dX4_livingCount_14 rfl hw (fun a2 hw => ?_)
    refine v_iload_n C dX4_livingCount_17 2 rfl rfl ?_
    refine w_iaload C dX4_livingCount_18 hw (fun x3 hw => ?_)
    refine v_iadd C dX4_livingCount_19 ?_
    refine w_bd hw (fun x4 hw => ?_)
    refine v_istore_n (ls' := [(1, .int x4), (0, .ref v0), (2, .int v2)]) C dX4_livingCount_20 rfl (by decide) rfl ?_
    refine v_iinc (v := 1) (ls' := [(2, .int (v2 + 1)), (1, .int x4), (0, .ref v0)]) C dX4_livingCount_21 2 rfl (by decide) (by decide) rfl ?_
    refine v_goto (tgt := 4) C dX4_livingCount_24 (by decide) ?_
    refine v_sub [2, 1, 0] rfl ?_
    exact hk _ _ _ hw
set_option maxRecDepth 100000 in
set_option maxHeartbeats 4000000 in
theorem s_X4_livingCount {l : Launch}  {v0 : Nat} {h : AH} {Q : Int32 → AH → Prop}  (hw : w_X4_livingCount  v0 h Q) : CT l yX4_livingCount cX4_livingCount 3 (some .int) 0 0 0 [.ref v0] h (QI Q) := by
  refine CT.of (by decide) ⟨rfl, trivial⟩ (Nat.le_of_ble_eq_true rfl) ?_
  intro p e s m args below meth c g C hr hin
  refine v_eq (pc' := 0) (ls' := [(0, .ref v0)]) rfl rfl rfl rfl ?_
  refine v_iconst (v := 0) C dX4_livingCount_0 (by decide) ?_
  refine v_istore_n (ls' := [(1, .int (0 : Int32)), (0, .ref v0)]) C dX4_livingCount_1 rfl (by decide) rfl ?_
  refine v_iconst (v := 0) C dX4_livingCount_2 (by decide) ?_
  refine v_istore_n (ls' := [(2, .int (0 : Int32)), (1, .int (0 : Int32)), (0, .ref v0)]) C dX4_livingCount_3 rfl (by decide) rfl ?_
  refine v_sub [2, 1, 0] rfl ?_
  refine lp_walk (P := fun (s' : Int32 × Int32 × AH) => V p l e s m args below meth c g 0 0 0 3 0 0 (MQ below (QCx g (QI Q)) args s 0 0 (gA g)) 4 [(0, .ref v0), (1, .int (s'.1)), (2, .int (s'.2.1))] [] s'.2.2) (fun k2 hk2 s' hw => ?_) ((0 : Int32), (0 : Int32), h) hw
  exact s_X4_livingCount_4 C hr (fun y1 h hw => s_X4_livingCount_27 C hr  _ h hw) (fun y1 y2 h hw => hk2 (y1, y2, h) hw) _ _ _ hw
-- GrassField$People.nearest(IIZ)I
theorem dX4_nearest_0 : decode cX4_nearest 0 = .ok (.iconst (-1), 1) := by decide +kernel
theorem dX4_nearest_1 : decode cX4_nearest 1 = .ok (.istore 4, 2) := by decide +kernel
theorem dX4_nearest_3 : decode cX4_nearest 3 = .ok (.iconst 0, 1) := by decide +kernel
theorem dX4_nearest_4 : decode cX4_nearest 4 = .ok (.istore 5, 2) := by decide +kernel
theorem dX4_nearest_6 : decode cX4_nearest 6 = .ok (.iload 5, 2) := by decide +kernel
theorem dX4_nearest_8 : decode cX4_nearest 8 = .ok (.aload_n 0, 1) := by decide +kernel
theorem dX4_nearest_9 : decode cX4_nearest 9 = .ok (.getfield 30, 3) := by decide +kernel
theorem dX4_nearest_12 : decode cX4_nearest 12 = .ok (.if_icmp .ge 55, 3) := by decide +kernel
theorem dX4_nearest_15 : decode cX4_nearest 15 = .ok (.aload_n 0, 1) := by decide +kernel
theorem dX4_nearest_16 : decode cX4_nearest 16 = .ok (.iload_n 1, 1) := by decide +kernel
theorem dX4_nearest_17 : decode cX4_nearest 17 = .ok (.iload 5, 2) := by decide +kernel
theorem dX4_nearest_19 : decode cX4_nearest 19 = .ok (.iload_n 3, 1) := by decide +kernel
theorem dX4_nearest_20 : decode cX4_nearest 20 = .ok (.invokevirtual 38, 3) := by decide +kernel
theorem dX4_nearest_23 : decode cX4_nearest 23 = .ok (.ifCond .eq 38, 3) := by decide +kernel
theorem dX4_nearest_26 : decode cX4_nearest 26 = .ok (.iload 4, 2) := by decide +kernel
theorem dX4_nearest_28 : decode cX4_nearest 28 = .ok (.iconst (-1), 1) := by decide +kernel
theorem dX4_nearest_29 : decode cX4_nearest 29 = .ok (.if_icmp .eq 28, 3) := by decide +kernel
theorem dX4_nearest_32 : decode cX4_nearest 32 = .ok (.iload_n 2, 1) := by decide +kernel
theorem dX4_nearest_33 : decode cX4_nearest 33 = .ok (.aload_n 0, 1) := by decide +kernel
theorem dX4_nearest_34 : decode cX4_nearest 34 = .ok (.getfield 18, 3) := by decide +kernel
theorem dX4_nearest_37 : decode cX4_nearest 37 = .ok (.iload 5, 2) := by decide +kernel
theorem dX4_nearest_39 : decode cX4_nearest 39 = .ok (.iaload, 1) := by decide +kernel
theorem dX4_nearest_40 : decode cX4_nearest 40 = .ok (.invokestatic 42, 3) := by decide +kernel
theorem dX4_nearest_43 : decode cX4_nearest 43 = .ok (.iload_n 2, 1) := by decide +kernel
theorem dX4_nearest_44 : decode cX4_nearest 44 = .ok (.aload_n 0, 1) := by decide +kernel
theorem dX4_nearest_45 : decode cX4_nearest 45 = .ok (.getfield 18, 3) := by decide +kernel
theorem dX4_nearest_48 : decode cX4_nearest 48 = .ok (.iload 4, 2) := by decide +kernel
theorem dX4_nearest_50 : decode cX4_nearest 50 = .ok (.iaload, 1) := by decide +kernel
theorem dX4_nearest_51 : decode cX4_nearest 51 = .ok (.invokestatic 42, 3) := by decide +kernel
theorem dX4_nearest_54 : decode cX4_nearest 54 = .ok (.if_icmp .ge 7, 3) := by decide +kernel
theorem dX4_nearest_57 : decode cX4_nearest 57 = .ok (.iload 5, 2) := by decide +kernel
theorem dX4_nearest_59 : decode cX4_nearest 59 = .ok (.istore 4, 2) := by decide +kernel
theorem dX4_nearest_61 : decode cX4_nearest 61 = .ok (.iinc 5 1, 3) := by decide +kernel
theorem dX4_nearest_64 : decode cX4_nearest 64 = .ok (.goto (-58), 3) := by decide +kernel
theorem dX4_nearest_67 : decode cX4_nearest 67 = .ok (.iload 4, 2) := by decide +kernel
theorem dX4_nearest_69 : decode cX4_nearest 69 = .ok (.ireturn, 1) := by decide +kernel
def w_X4_nearest_67  (v4 : Int32) (h : AH) (Q : Int32 → AH → Prop) : Prop :=
  Q v4 h
def w_X4_nearest_61  (x67 : Int32 → AH → Prop) (k : Int32 → Int32 → AH → Prop) (v0 : Nat) (v1 : Int32) (v2 : Int32) (v3 : Int32) (v4 : Int32) (v5 : Int32) (h : AH) (Q : Int32 → AH → Prop) : Prop :=
  k v4 (v5 + 1) h
def w_X4_nearest_57  (x67 : Int32 → AH → Prop) (k : Int32 → Int32 → AH → Prop) (v0 : Nat) (v1 : Int32) (v2 : Int32) (v3 : Int32) (v5 : Int32) (h : AH) (Q : Int32 → AH → Prop) : Prop :=
  w_X4_nearest_61 x67 k v0 v1 v2 v3 v5 v5 h Q
def w_X4_nearest_6  (x67 : Int32 → AH → Prop) (k : Int32 → Int32 → AH → Prop) (v0 : Nat) (v1 : Int32) (v2 : Int32) (v3 : Int32) (v4 : Int32) (v5 : Int32) (h : AH) (Q : Int32 → AH → Prop) : Prop :=
  fI h v0 4 0 fun x1 =>
  br (x1 ≤ v5) (
    x67 v4 h) (
    vr h v0 4 (
    w_X4_isRelated v0 v1 v5 v3 h (fun x2 h =>
    br (x2 = 0) (
      w_X4_nearest_61 x67 k v0 v1 v2 v3 v4 v5 h Q) (
      br (v4 = (-1 : Int32)) (
        w_X4_nearest_57 x67 k v0 v1 v2 v3 v5 h Q) (
        fN h v0 4 3 fun a3 =>
        aI h a3 v5 fun x4 =>
        w_X3_far v2 x4 h (fun x5 h =>
        fN h v0 4 3 fun a6 =>
        aI h a6 v4 fun x7 =>
        w_X3_far v2 x7 h (fun x8 h =>
        br (x8 ≤ x5) (
          w_X4_nearest_61 x67 k v0 v1 v2 v3 v4 v5 h Q) (
          w_X4_nearest_57 x67 k v0 v1 v2 v3 v5 h Q))))))))
def w_X4_nearest  (v0 : Nat) (v1 : Int32) (v2 : Int32) (v3 : Int32) (h : AH) (Q : Int32 → AH → Prop) : Prop :=
  lp (fun (k2 : Int32 × Int32 × AH → Prop) (s2 : Int32 × Int32 × AH) => w_X4_nearest_6  (fun (y4 : Int32) h => w_X4_nearest_67 y4 h Q) (fun (y4 : Int32) (y5 : Int32) h => k2 (y4, y5, h)) v0 v1 v2 v3 s2.1 s2.2.1 s2.2.2 Q) ((-1 : Int32), (0 : Int32), h)
set_option maxRecDepth 100000 in
set_option maxHeartbeats 4000000 in
theorem s_X4_nearest_67 {p : Program} {l : Launch} {e : Env} {s : State} {m : MethodId} {args : Array Value} {below : List Frame} {meth : Method} {c : Code} {g : GG}  {Q : Int32 → AH → Prop}  (C : CXT p l s m args meth c RX4 cX4_nearest 6 g) (hr : meth.sig.returnType = (some .int))  : ∀ (v4 : Int32) (h : AH), w_X4_nearest_67  v4 h Q → V p l e s m args below meth c g 2 0 0 6 0 0 (MQ below (QCx g (QI Q)) args s 0 0 (gA g)) 67 [(4, .int v4)] [] h := by
  intro v4 h hw
  refine v_iload C dX4_nearest_67 0 rfl ?_
  exact (rt_MQ C _).1 _ _ _ _ _ _ hr dX4_nearest_69 (by decide) (by decide) ⟨_, rfl, hw⟩
set_option maxRecDepth 100000 in
set_option maxHeartbeats 4000000 in
theorem s_X4_nearest_61 {p : Program} {l : Launch} {e : Env} {s : State} {m : MethodId} {args : Array Value} {below : List Frame} {meth : Method} {c : Code} {g : GG} {v0 : Nat} {v1 : Int32} {v2 : Int32} {v3 : Int32} {Q : Int32 → AH → Prop} {x67 : Int32 → AH → Prop} {k : Int32 → Int32 → AH → Prop} (C : CXT p l s m args meth c RX4 cX4_nearest 6 g) (hr : meth.sig.returnType = (some .int)) (hx67 : ∀ (y4 : Int32) (h : AH), x67 y4 h → V p l e s m args below meth c g 2 0 0 6 0 0 (MQ below (QCx g (QI Q)) args s 0 0 (gA g)) 67 [(4, .int y4)] [] h) (hk : ∀ (y4 : Int32) (y5 : Int32) (h : AH), k y4 y5 h → V p l e s m args below meth c g 2 0 0 6 0 0 (MQ below (QCx g (QI Q)) args s 0 0 (gA g)) 6 [(0, .ref v0), (1, .int v1), (2, .int v2), (3, .int v3), (4, .int y4), (5, .int y5)] [] h) : ∀ (v4 : Int32) (v5 : Int32) (h : AH), w_X4_nearest_61  x67 k v0 v1 v2 v3 v4 v5 h Q → V p l e s m args below meth c g 2 0 0 6 0 0 (MQ below (QCx g (QI Q)) args s 0 0 (gA g)) 61 [(0, .ref v0), (1, .int v1), (2, .int v2), (3, .int v3), (4, .int v4), (5, .int v5)] [] h := by
  intro v4 v5 h hw
  refine v_iinc (v := 1) (ls' := [(5, .int (v5 + 1)), (0, .ref v0), (1, .int v1), (2, .int v2), (3, .int v3), (4, .int v4)]) C dX4_nearest_61 5 rfl (by decide) (by decide) rfl ?_
  refine v_goto (tgt := 6) C dX4_nearest_64 (by decide) ?_
  refine v_sub [1, 2, 3, 4, 5, 0] rfl ?_
  exact hk _ _ _ hw
set_option maxRecDepth 100000 in
set_option maxHeartbeats 4000000 in
theorem s_X4_nearest_57 {p : Program} {l : Launch} {e : Env} {s : State} {m : MethodId} {args : Array Value} {below : List Frame} {meth : Method} {c : Code} {g : GG} {v0 : Nat} {v1 : Int32} {v2 : Int32} {v3 : Int32} {Q : Int32 → AH → Prop} {x67 : Int32 → AH → Prop} {k : Int32 → Int32 → AH → Prop} (C : CXT p l s m args meth c RX4 cX4_nearest 6 g) (hr : meth.sig.returnType = (some .int)) (hx67 : ∀ (y4 : Int32) (h : AH), x67 y4 h → V p l e s m args below meth c g 2 0 0 6 0 0 (MQ below (QCx g (QI Q)) args s 0 0 (gA g)) 67 [(4, .int y4)] [] h) (hk : ∀ (y4 : Int32) (y5 : Int32) (h : AH), k y4 y5 h → V p l e s m args below meth c g 2 0 0 6 0 0 (MQ below (QCx g (QI Q)) args s 0 0 (gA g)) 6 [(0, .ref v0), (1, .int v1), (2, .int v2), (3, .int v3), (4, .int y4), (5, .int y5)] [] h) : ∀ (v5 : Int32) (h : AH), w_X4_nearest_57  x67 k v0 v1 v2 v3 v5 h Q → V p l e s m args below meth c g 2 0 0 6 0 0 (MQ below (QCx g (QI Q)) args s 0 0 (gA g)) 57 [(0, .ref v0), (1, .int v1), (2, .int v2), (3, .int v3), (5, .int v5)] [] h := by
  intro v5 h hw
  refine v_iload C dX4_nearest_57 4 rfl ?_
  refine v_istore (ls' := [(4, .int v5), (0, .ref v0), (1, .int v1), (2, .int v2), (3, .int v3), (5, .int v5)]) C dX4_nearest_59 (by decide) rfl ?_
  refine v_sub [1, 2, 3, 4, 0, 5] rfl ?_
  exact s_X4_nearest_61 C hr hx67 hk _ _ _ hw
set_option maxRecDepth 100000 in
set_option maxHeartbeats 4000000 in
theorem s_X4_nearest_6 {p : Program} {l : Launch} {e : Env} {s : State} {m : MethodId} {args : Array Value} {below : List Frame} {meth : Method} {c : Code} {g : GG} {v0 : Nat} {v1 : Int32} {v2 : Int32} {v3 : Int32} {Q : Int32 → AH → Prop} {x67 : Int32 → AH → Prop} {k : Int32 → Int32 → AH → Prop} (C : CXT p l s m args meth c RX4 cX4_nearest 6 g) (hr : meth.sig.returnType = (some .int)) (hx67 : ∀ (y4 : Int32) (h : AH), x67 y4 h → V p l e s m args below meth c g 2 0 0 6 0 0 (MQ below (QCx g (QI Q)) args s 0 0 (gA g)) 67 [(4, .int y4)] [] h) (hk : ∀ (y4 : Int32) (y5 : Int32) (h : AH), k y4 y5 h → V p l e s m args below meth c g 2 0 0 6 0 0 (MQ below (QCx g (QI Q)) args s 0 0 (gA g)) 6 [(0, .ref v0), (1, .int v1), (2, .int v2), (3, .int v3), (4, .int y4), (5, .int y5)] [] h) : ∀ (v4 : Int32) (v5 : Int32) (h : AH), w_X4_nearest_6  x67 k v0 v1 v2 v3 v4 v5 h Q → V p l e s m args below meth c g 2 0 0 6 0 0 (MQ below (QCx g (QI Q)) args s 0 0 (gA g)) 6 [(0, .ref v0), (1, .int v1), (2, .int v2), (3, .int v3), (4, .int v4), (5, .int v5)] [] h := by
  intro v4 v5 h hw
  refine v_iload C dX4_nearest_6 5 rfl ?_
  refine v_aload_n C dX4_nearest_8 0 rfl rfl ?_
  refine w_getI C fl_X4_30 dX4_nearest_9 rfl hw (fun x1 hw => ?_)
  refine v_icmp_ge (tgt := 67) C dX4_nearest_12 (by decide) (fun c_12 => ?_) (fun c_12 => ?_)
  · have hw := hw.1 c_12
    refine v_sub [4] rfl ?_
    exact hx67 _ _ hw
  · have hw := hw.2 c_12
    refine v_aload_n C dX4_nearest_15 0 rfl rfl ?_
    refine v_iload_n C dX4_nearest_16 1 rfl rfl ?_
    refine v_iload C dX4_nearest_17 5 rfl ?_
    refine v_iload_n C dX4_nearest_19 3 rfl rfl ?_
    refine w_callVi (st := []) C cl_X4_38 im_X4_isRelated se_X4_isRelated rfl hw.1 (s_X4_isRelated hw.2) rfl dX4_nearest_20 rfl (by decide) (by decide) (by decide) (by decide) (by decide) (fun x2 h hw => ?_)
    refine v_if_eq (tgt := 61) C dX4_nearest_23 (by decide) (fun c_23 => ?_) (fun c_23 => ?_)
    · have hw := hw.1 c_23
      exact s_X4_nearest_61 C hr hx67 hk _ _ _ hw
    · have hw := hw.2 c_23
      refine v_iload C dX4_nearest_26 4 rfl ?_
      refine v_iconst (v := -1) C dX4_nearest_28 (by decide) ?_
      refine v_icmp_eq (tgt := 57) C dX4_nearest_29 (by decide) (fun c_29 => ?_) (fun c_29 => ?_)
      · have hw := hw.1 c_29
        refine v_sub [0, 1, 2, 3, 5] rfl ?_
        exact s_X4_nearest_57 C hr hx67 hk _ _ hw
      · have hw := hw.2 c_29
        refine v_iload_n C dX4_nearest_32 2 rfl rfl ?_
        refine v_aload_n C dX4_nearest_33 0 rfl rfl ?_
        refine w_getN C fl_X4_18 dX4_nearest_34 rfl hw (fun a3 hw => ?_)
        refine v_iload C dX4_nearest_37 5 rfl ?_
        refine w_iaload C dX4_nearest_39 hw (fun x4 hw => ?_)
        refine w_callSi (st := []) C cl_X4_42 st_X3_far (s_X3_far hw) rfl dX4_nearest_40 rfl (by decide) (by decide) (by decide) (by decide) (by decide) (fun x5 h hw => ?_)
        refine v_iload_n C dX4_nearest_43 2 rfl rfl ?_
        refine v_aload_n C dX4_nearest_44 0 rfl rfl ?_
        refine w_getN C fl_X4_18 dX4_nearest_45 rfl hw (fun a6 hw => ?_)
        refine v_iload C dX4_nearest_48 4 rfl ?_
        refine w_iaload C dX4_nearest_50 hw (fun x7 hw => ?_)
        refine w_callSi (st := [.int x5]) C cl_X4_42 st_X3_far (s_X3_far hw) rfl dX4_nearest_51 rfl (Nat.le_of_ble_eq_true rfl) (by decide) (by decide) (by decide) (by decide) (fun x8 h hw => ?_)
        refine v_icmp_ge (tgt := 61) C dX4_nearest_54 (by decide) (fun c_54 => ?_) (fun c_54 => ?_)
        · have hw := hw.1 c_54
          exact s_X4_nearest_61 C hr hx67 hk _ _ _ hw
        · have hw := hw.2 c_54
          refine v_sub [0, 1, 2, 3, 5] rfl ?_
          exact s_X4_nearest_57 C hr hx67 hk _ _ hw
set_option maxRecDepth 100000 in
set_option maxHeartbeats 4000000 in
theorem s_X4_nearest {l : Launch}  {v0 : Nat} {v1 : Int32} {v2 : Int32} {v3 : Int32} {h : AH} {Q : Int32 → AH → Prop}  (hw : w_X4_nearest  v0 v1 v2 v3 h Q) : CT l yX4_nearest cX4_nearest 6 (some .int) 2 0 0 [.ref v0, .int v1, .int v2, .int v3] h (QI Q) := by
  refine CT.of (by decide) ⟨rfl, ⟨rfl, ⟨rfl, ⟨rfl, trivial⟩⟩⟩⟩ (Nat.le_of_ble_eq_true rfl) ?_
  intro p e s m args below meth c g C hr hin
  refine v_eq (pc' := 0) (ls' := [(0, .ref v0), (1, .int v1), (2, .int v2), (3, .int v3)]) rfl rfl rfl rfl ?_
  refine v_iconst (v := -1) C dX4_nearest_0 (by decide) ?_
  refine v_istore (ls' := [(4, .int (-1 : Int32)), (0, .ref v0), (1, .int v1), (2, .int v2), (3, .int v3)]) C dX4_nearest_1 (by decide) rfl ?_
  refine v_iconst (v := 0) C dX4_nearest_3 (by decide) ?_
  refine v_istore (ls' := [(5, .int (0 : Int32)), (4, .int (-1 : Int32)), (0, .ref v0), (1, .int v1), (2, .int v2), (3, .int v3)]) C dX4_nearest_4 (by decide) rfl ?_
  refine v_sub [2, 3, 4, 5, 1, 0] rfl ?_
  refine lp_walk (P := fun (s' : Int32 × Int32 × AH) => V p l e s m args below meth c g 2 0 0 6 0 0 (MQ below (QCx g (QI Q)) args s 0 0 (gA g)) 6 [(0, .ref v0), (1, .int v1), (2, .int v2), (3, .int v3), (4, .int (s'.1)), (5, .int (s'.2.1))] [] s'.2.2) (fun k2 hk2 s' hw => ?_) ((-1 : Int32), (0 : Int32), h) hw
  exact s_X4_nearest_6 C hr (fun y4 h hw => s_X4_nearest_67 C hr  _ h hw) (fun y4 y5 h hw => hk2 (y4, y5, h) hw) _ _ _ hw
-- GrassField$People.someoneHas(I)Z
theorem dX4_someoneHas_0 : decode cX4_someoneHas 0 = .ok (.iconst 0, 1) := by decide +kernel
theorem dX4_someoneHas_1 : decode cX4_someoneHas 1 = .ok (.istore_n 2, 1) := by decide +kernel
theorem dX4_someoneHas_2 : decode cX4_someoneHas 2 = .ok (.iload_n 2, 1) := by decide +kernel
theorem dX4_someoneHas_3 : decode cX4_someoneHas 3 = .ok (.aload_n 0, 1) := by decide +kernel
theorem dX4_someoneHas_4 : decode cX4_someoneHas 4 = .ok (.getfield 30, 3) := by decide +kernel
theorem dX4_someoneHas_7 : decode cX4_someoneHas 7 = .ok (.if_icmp .ge 21, 3) := by decide +kernel
theorem dX4_someoneHas_10 : decode cX4_someoneHas 10 = .ok (.aload_n 0, 1) := by decide +kernel
theorem dX4_someoneHas_11 : decode cX4_someoneHas 11 = .ok (.getfield 9, 3) := by decide +kernel
theorem dX4_someoneHas_14 : decode cX4_someoneHas 14 = .ok (.iload_n 2, 1) := by decide +kernel
theorem dX4_someoneHas_15 : decode cX4_someoneHas 15 = .ok (.iaload, 1) := by decide +kernel
theorem dX4_someoneHas_16 : decode cX4_someoneHas 16 = .ok (.iload_n 1, 1) := by decide +kernel
theorem dX4_someoneHas_17 : decode cX4_someoneHas 17 = .ok (.if_icmp .ne 5, 3) := by decide +kernel
theorem dX4_someoneHas_20 : decode cX4_someoneHas 20 = .ok (.iconst 1, 1) := by decide +kernel
theorem dX4_someoneHas_21 : decode cX4_someoneHas 21 = .ok (.ireturn, 1) := by decide +kernel
theorem dX4_someoneHas_22 : decode cX4_someoneHas 22 = .ok (.iinc 2 1, 3) := by decide +kernel
theorem dX4_someoneHas_25 : decode cX4_someoneHas 25 = .ok (.goto (-23), 3) := by decide +kernel
theorem dX4_someoneHas_28 : decode cX4_someoneHas 28 = .ok (.iconst 0, 1) := by decide +kernel
theorem dX4_someoneHas_29 : decode cX4_someoneHas 29 = .ok (.ireturn, 1) := by decide +kernel
def w_X4_someoneHas_28  (h : AH) (Q : Int32 → AH → Prop) : Prop :=
  Q (0 : Int32) h
def w_X4_someoneHas_20  (h : AH) (Q : Int32 → AH → Prop) : Prop :=
  Q (1 : Int32) h
def w_X4_someoneHas_2  (x20 : AH → Prop) (x28 : AH → Prop) (k : Int32 → AH → Prop) (v0 : Nat) (v1 : Int32) (v2 : Int32) (h : AH) (Q : Int32 → AH → Prop) : Prop :=
  fI h v0 4 0 fun x1 =>
  br (x1 ≤ v2) (
    x28  h) (
    fN h v0 4 1 fun a2 =>
    aI h a2 v2 fun x3 =>
    br (x3 = v1) (
      x20  h) (
      k (v2 + 1) h))
def w_X4_someoneHas  (v0 : Nat) (v1 : Int32) (h : AH) (Q : Int32 → AH → Prop) : Prop :=
  lp (fun (k2 : Int32 × AH → Prop) (s2 : Int32 × AH) => w_X4_someoneHas_2  (fun  h => w_X4_someoneHas_20  h Q) (fun  h => w_X4_someoneHas_28  h Q) (fun (y2 : Int32) h => k2 (y2, h)) v0 v1 s2.1 s2.2 Q) ((0 : Int32), h)
set_option maxRecDepth 100000 in
set_option maxHeartbeats 4000000 in
theorem s_X4_someoneHas_28 {p : Program} {l : Launch} {e : Env} {s : State} {m : MethodId} {args : Array Value} {below : List Frame} {meth : Method} {c : Code} {g : GG}  {Q : Int32 → AH → Prop}  (C : CXT p l s m args meth c RX4 cX4_someoneHas 3 g) (hr : meth.sig.returnType = (some .boolean))  : ∀  (h : AH), w_X4_someoneHas_28  h Q → V p l e s m args below meth c g 0 0 0 3 0 0 (MQ below (QCx g (QI Q)) args s 0 0 (gA g)) 28 [] [] h := by
  intro  h hw
  refine v_iconst (v := 0) C dX4_someoneHas_28 (by decide) ?_
  exact (rt_MQ C _).2.1 _ _ _ _ _ _ _ hr rfl dX4_someoneHas_29 (by decide) (by decide) ⟨_, rfl, hw⟩
set_option maxRecDepth 100000 in
set_option maxHeartbeats 4000000 in
theorem s_X4_someoneHas_20 {p : Program} {l : Launch} {e : Env} {s : State} {m : MethodId} {args : Array Value} {below : List Frame} {meth : Method} {c : Code} {g : GG}  {Q : Int32 → AH → Prop}  (C : CXT p l s m args meth c RX4 cX4_someoneHas 3 g) (hr : meth.sig.returnType = (some .boolean))  : ∀  (h : AH), w_X4_someoneHas_20  h Q → V p l e s m args below meth c g 0 0 0 3 0 0 (MQ below (QCx g (QI Q)) args s 0 0 (gA g)) 20 [] [] h := by
  intro  h hw
  refine v_iconst (v := 1) C dX4_someoneHas_20 (by decide) ?_
  exact (rt_MQ C _).2.1 _ _ _ _ _ _ _ hr rfl dX4_someoneHas_21 (by decide) (by decide) ⟨_, rfl, hw⟩
set_option maxRecDepth 100000 in
set_option maxHeartbeats 4000000 in
theorem s_X4_someoneHas_2 {p : Program} {l : Launch} {e : Env} {s : State} {m : MethodId} {args : Array Value} {below : List Frame} {meth : Method} {c : Code} {g : GG} {v0 : Nat} {v1 : Int32} {Q : Int32 → AH → Prop} {x20 : AH → Prop} {x28 : AH → Prop} {k : Int32 → AH → Prop} (C : CXT p l s m args meth c RX4 cX4_someoneHas 3 g) (hr : meth.sig.returnType = (some .boolean)) (hx20 : ∀  (h : AH), x20  h → V p l e s m args below meth c g 0 0 0 3 0 0 (MQ below (QCx g (QI Q)) args s 0 0 (gA g)) 20 [] [] h) (hx28 : ∀  (h : AH), x28  h → V p l e s m args below meth c g 0 0 0 3 0 0 (MQ below (QCx g (QI Q)) args s 0 0 (gA g)) 28 [] [] h) (hk : ∀ (y2 : Int32) (h : AH), k y2 h → V p l e s m args below meth c g 0 0 0 3 0 0 (MQ below (QCx g (QI Q)) args s 0 0 (gA g)) 2 [(0, .ref v0), (1, .int v1), (2, .int y2)] [] h) : ∀ (v2 : Int32) (h : AH), w_X4_someoneHas_2  x20 x28 k v0 v1 v2 h Q → V p l e s m args below meth c g 0 0 0 3 0 0 (MQ below (QCx g (QI Q)) args s 0 0 (gA g)) 2 [(0, .ref v0), (1, .int v1), (2, .int v2)] [] h := by
  intro v2 h hw
  refine v_iload_n C dX4_someoneHas_2 2 rfl rfl ?_
  refine v_aload_n C dX4_someoneHas_3 0 rfl rfl ?_
  refine w_getI C fl_X4_30 dX4_someoneHas_4 rfl hw (fun x1 hw => ?_)
  refine v_icmp_ge (tgt := 28) C dX4_someoneHas_7 (by decide) (fun c_7 => ?_) (fun c_7 => ?_)
  · have hw := hw.1 c_7
    refine v_sub [] rfl ?_
    exact hx28  _ hw
  · have hw := hw.2 c_7
    refine v_aload_n C dX4_someoneHas_10 0 rfl rfl ?_
    refine w_getN C fl_X4_9 dX4_someoneHas_11 rfl hw (fun a2 hw => ?_)
    refine v_iload_n C dX4_someoneHas_14 2 rfl rfl ?_
    refine w_iaload C dX4_someoneHas_15 hw (fun x3 hw => ?_)
    refine v_iload_n C dX4_someoneHas_16 1 rfl rfl ?_
    refine v_icmp_ne (tgt := 22) C dX4_someoneHas_17 (by decide) (fun c_17 => ?_) (fun c_17 => ?_)
    · have hw := hw.2 c_17
      refine v_iinc (v := 1) (ls' := [(2, .int (v2 + 1)), (0, .ref v0), (1, .int v1)]) C dX4_someoneHas_22 2 rfl (by decide) (by decide) rfl ?_
      refine v_goto (tgt := 2) C dX4_someoneHas_25 (by decide) ?_
      refine v_sub [1, 2, 0] rfl ?_
      exact hk _ _ hw
    · have hw := hw.1 c_17
      refine v_sub [] rfl ?_
      exact hx20  _ hw
set_option maxRecDepth 100000 in
set_option maxHeartbeats 4000000 in
theorem s_X4_someoneHas {l : Launch}  {v0 : Nat} {v1 : Int32} {h : AH} {Q : Int32 → AH → Prop}  (hw : w_X4_someoneHas  v0 v1 h Q) : CT l yX4_someoneHas cX4_someoneHas 3 (some .boolean) 0 0 0 [.ref v0, .int v1] h (QI Q) := by
  refine CT.of (by decide) ⟨rfl, ⟨rfl, trivial⟩⟩ (Nat.le_of_ble_eq_true rfl) ?_
  intro p e s m args below meth c g C hr hin
  refine v_eq (pc' := 0) (ls' := [(0, .ref v0), (1, .int v1)]) rfl rfl rfl rfl ?_
  refine v_iconst (v := 0) C dX4_someoneHas_0 (by decide) ?_
  refine v_istore_n (ls' := [(2, .int (0 : Int32)), (0, .ref v0), (1, .int v1)]) C dX4_someoneHas_1 rfl (by decide) rfl ?_
  refine v_sub [1, 2, 0] rfl ?_
  refine lp_walk (P := fun (s' : Int32 × AH) => V p l e s m args below meth c g 0 0 0 3 0 0 (MQ below (QCx g (QI Q)) args s 0 0 (gA g)) 2 [(0, .ref v0), (1, .int v1), (2, .int (s'.1))] [] s'.2) (fun k2 hk2 s' hw => ?_) ((0 : Int32), h) hw
  exact s_X4_someoneHas_2 C hr (fun  h hw => s_X4_someoneHas_20 C hr   h hw) (fun  h hw => s_X4_someoneHas_28 C hr   h hw) (fun y2 h hw => hk2 (y2, h) hw) _ _ hw
