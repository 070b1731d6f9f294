theorem iw_X3 : ∀ w ∈ u_ws RX3 TX3 1, w ∈ lw_tbl := (show ∀ w ∈ ([Cond.laysFinal "GrassField$Land" "GrassField$Land" "heights" "[I"] : List Cond), w ∈ lw_tbl from List.forall_mem_cons.mpr ⟨(tb1 (List.mem_of_getElem? (i := 93) rfl)), fun _ h => nomatch h⟩)
theorem fl_X3_9 : FLk RX3 9 3 0 (RX3, TX3, 1) := ⟨rfl, by decide, iw_X3, Or.inl (tb1 (List.mem_of_getElem? (i := 90) rfl))⟩
theorem fp_X3_9 : FPk RX3 9 3 0 (RX3, TX3, 1) tyX3 2 := ⟨fl_X3_9, nmX3, tyX3_ok, Or.inr (Or.inr ⟨rfl, Or.inr ⟨_, rfl⟩, rfl⟩)⟩
theorem ac_X3_48 : Cond.methodLink RX3 48 arraycopyName ∈ lw_tbl := (tb3 (List.mem_of_getElem? (i := 42) rfl))
theorem ml_X3_15 : Cond.methodLink RX3 15 Lib.Math.abs.name ∈ lw_tbl := (tb2 (List.mem_of_getElem? (i := 232) rfl))
theorem ms_abs : Cond.static Lib.Math.abs.name ∈ lw_tbl := (tb2 (List.mem_of_getElem? (i := 233) rfl))
theorem mc_abs : Cond.code Lib.Math.abs.name Lib.Math.abs.code 1 (some .int) ∈ lw_tbl := (tb2 (List.mem_of_getElem? (i := 234) rfl))
theorem ml_X3_21 : Cond.methodLink RX3 21 Lib.Math.max.name ∈ lw_tbl := (tb2 (List.mem_of_getElem? (i := 235) rfl))
theorem ml_X3_35 : Cond.methodLink RX3 35 Lib.Math.min.name ∈ lw_tbl := (tb3 (List.mem_of_getElem? (i := 202) rfl))
theorem cl_X3_25 : CLk RX3 25 yX3_column cX3_column 1 (some .int) 1 := ⟨Or.inl (tb2 (List.mem_of_getElem? (i := 238) rfl)), (tb3 (List.mem_of_getElem? (i := 0) rfl)), (tb1 (List.mem_of_getElem? (i := 4) rfl)), by decide +kernel, by decide +kernel, by decide +kernel⟩
theorem st_X3_column : Cond.static yX3_column ∈ lw_tbl := (tb2 (List.mem_of_getElem? (i := 239) rfl))
theorem cl_X3_28 : CLk RX3 28 yX3_isBetween cX3_isBetween 3 (some .boolean) 3 := ⟨Or.inl (tb3 (List.mem_of_getElem? (i := 199) rfl)), (tb3 (List.mem_of_getElem? (i := 201) rfl)), (tb1 (List.mem_of_getElem? (i := 4) rfl)), by decide +kernel, by decide +kernel, by decide +kernel⟩
theorem st_X3_isBetween : Cond.static yX3_isBetween ∈ lw_tbl := (tb3 (List.mem_of_getElem? (i := 200) rfl))
theorem cl_X3_32 : CLk RX3 32 yX3_row cX3_row 1 (some .int) 1 := ⟨Or.inl (tb3 (List.mem_of_getElem? (i := 4) rfl)), (tb2 (List.mem_of_getElem? (i := 208) rfl)), (tb1 (List.mem_of_getElem? (i := 4) rfl)), by decide +kernel, by decide +kernel, by decide +kernel⟩
theorem st_X3_row : Cond.static yX3_row ∈ lw_tbl := (tb2 (List.mem_of_getElem? (i := 207) rfl))
theorem cl_X3_44 : CLk RX3 44 yX3_between cX3_between 4 (some .int) 4 := ⟨Or.inl (tb3 (List.mem_of_getElem? (i := 1) rfl)), (tb3 (List.mem_of_getElem? (i := 3) rfl)), (tb1 (List.mem_of_getElem? (i := 4) rfl)), by decide +kernel, by decide +kernel, by decide +kernel⟩
theorem st_X3_between : Cond.static yX3_between ∈ lw_tbl := (tb3 (List.mem_of_getElem? (i := 2) rfl))
theorem cl_X3_41 : CLk RX3 41 yX3_far cX3_far 4 (some .int) 2 := ⟨Or.inl (tb2 (List.mem_of_getElem? (i := 229) rfl)), (tb2 (List.mem_of_getElem? (i := 231) rfl)), (tb1 (List.mem_of_getElem? (i := 4) rfl)), by decide +kernel, by decide +kernel, by decide +kernel⟩
theorem st_X3_far : Cond.static yX3_far ∈ lw_tbl := (tb2 (List.mem_of_getElem? (i := 230) rfl))
theorem cl_X3_38 : CLk RX3 38 yX3_isInArea cX3_isInArea 3 (some .boolean) 3 := ⟨Or.inl (tb3 (List.mem_of_getElem? (i := 196) rfl)), (tb3 (List.mem_of_getElem? (i := 198) rfl)), (tb1 (List.mem_of_getElem? (i := 4) rfl)), by decide +kernel, by decide +kernel, by decide +kernel⟩
theorem st_X3_isInArea : Cond.static yX3_isInArea ∈ lw_tbl := (tb3 (List.mem_of_getElem? (i := 197) rfl))
-- GrassField$Land.<init>()V
theorem dX3_init_0 : decode cX3_init 0 = .ok (.aload_n 0, 1) := by decide +kernel
theorem dX3_init_1 : decode cX3_init 1 = .ok (.invokespecial 3, 3) := by decide +kernel
theorem dX3_init_4 : decode cX3_init 4 = .ok (.aload_n 0, 1) := by decide +kernel
theorem dX3_init_5 : decode cX3_init 5 = .ok (.sipush 256, 3) := by decide +kernel
theorem dX3_init_8 : decode cX3_init 8 = .ok (.newarray .int, 2) := by decide +kernel
theorem dX3_init_10 : decode cX3_init 10 = .ok (.putfield 9, 3) := by decide +kernel
theorem dX3_init_13 : decode cX3_init 13 = .ok (.return_, 1) := by decide +kernel
def w_X3_init  (v0 : Nat) (h : AH) (Q : AH → Prop) : Prop :=
  wA h 0 256 fun a1 h =>
  uO h v0 3 0 (some a1) fun h =>
  Q h
set_option maxRecDepth 100000 in
set_option maxHeartbeats 4000000 in
theorem s_X3_init {l : Launch}  {v0 : Nat} {h : AH} {Q : AH → Prop}  (hw : w_X3_init  v0 h Q) : CT l yX3_init cX3_init 1 none 1 1 256 [.ref v0] h (QV Q) := by
  refine CT.of (by decide) ⟨rfl, trivial⟩ (Nat.le_of_ble_eq_true rfl) ?_
  intro p e s m args below meth c g C hr hin
  refine v_eq (pc' := 0) (ls' := [(0, .ref v0)]) rfl rfl rfl rfl ?_
  refine v_aload_n C dX3_init_0 0 rfl rfl ?_
  refine v_objInit C (tb1 (List.mem_of_getElem? (i := 89) rfl)) (tb1 (List.mem_of_getElem? (i := 36) rfl)) (tb1 (List.mem_of_getElem? (i := 37) rfl)) dX3_init_1 (by decide) (by decide) ?_
  refine v_aload_n C dX3_init_4 0 rfl rfl ?_
  refine v_sipush (v := 256) C dX3_init_5 (by decide) ?_
  refine v_newa (atype := .int) (j := 0) (N := 256) C rfl rfl (by decide) rfl rfl (tb1 (List.mem_of_getElem? (i := 77) rfl)) dX3_init_8 (by decide) (by decide) (by decide) (by decide) (by decide) (fun a1 hn => ?_)
  have hw := hw a1 hn
  generalize nA h a1 0 256 = h at hw ⊢
  refine w_putN C fp_X3_9 (Or.inr ⟨hin, rfl, rfl, (tb1 (List.mem_of_getElem? (i := 90) rfl))⟩) dX3_init_10 hw (fun h hw => ?_)
  exact (rt_MQ C _).2.2.1 _ _ _ _ _ hr dX3_init_13 (by decide) (by decide) ⟨rfl, hw⟩
-- GrassField$Land.become(LGrassField$Land;)V
theorem dX3_become_0 : decode cX3_become 0 = .ok (.aload_n 1, 1) := by decide +kernel
theorem dX3_become_1 : decode cX3_become 1 = .ok (.getfield 9, 3) := by decide +kernel
theorem dX3_become_4 : decode cX3_become 4 = .ok (.iconst 0, 1) := by decide +kernel
theorem dX3_become_5 : decode cX3_become 5 = .ok (.aload_n 0, 1) := by decide +kernel
theorem dX3_become_6 : decode cX3_become 6 = .ok (.getfield 9, 3) := by decide +kernel
theorem dX3_become_9 : decode cX3_become 9 = .ok (.iconst 0, 1) := by decide +kernel
theorem dX3_become_10 : decode cX3_become 10 = .ok (.sipush 256, 3) := by decide +kernel
theorem dX3_become_13 : decode cX3_become 13 = .ok (.invokestatic 48, 3) := by decide +kernel
theorem dX3_become_16 : decode cX3_become 16 = .ok (.return_, 1) := by decide +kernel
def w_X3_become  (v0 : Nat) (v1 : Nat) (h : AH) (Q : AH → Prop) : Prop :=
  fN h v1 3 0 fun a1 =>
  fN h v0 3 0 fun a2 =>
  cp h a1 (0 : Int32) a2 (0 : Int32) (256 : Int32) fun h =>
  Q h
set_option maxRecDepth 100000 in
set_option maxHeartbeats 4000000 in
theorem s_X3_become {l : Launch}  {v0 : Nat} {v1 : Nat} {h : AH} {Q : AH → Prop}  (hw : w_X3_become  v0 v1 h Q) : CT l yX3_become cX3_become 2 none 1 0 0 [.ref v0, .ref v1] h (QV Q) := by
  refine CT.of (by decide) ⟨rfl, ⟨rfl, trivial⟩⟩ (Nat.le_of_ble_eq_true rfl) ?_
  intro p e s m args below meth c g C hr hin
  refine v_eq (pc' := 0) (ls' := [(0, .ref v0), (1, .ref v1)]) rfl rfl rfl rfl ?_
  refine v_aload_n C dX3_become_0 1 rfl rfl ?_
  refine w_getN C fl_X3_9 dX3_become_1 rfl hw (fun a1 hw => ?_)
  refine v_iconst (v := 0) C dX3_become_4 (by decide) ?_
  refine v_aload_n C dX3_become_5 0 rfl rfl ?_
  refine w_getN C fl_X3_9 dX3_become_6 rfl hw (fun a2 hw => ?_)
  refine v_iconst (v := 0) C dX3_become_9 (by decide) ?_
  refine v_sipush (v := 256) C dX3_become_10 (by decide) ?_
  refine w_acopy C ac_X3_48 ac_nat ac_st ac_in dX3_become_13 (by decide) (by decide) hw (fun h hw => ?_)
  exact (rt_MQ C _).2.2.1 _ _ _ _ _ hr dX3_become_16 (by decide) (by decide) ⟨rfl, hw⟩
-- GrassField$Land.between(IIII)I
theorem dX3_between_0 : decode cX3_between 0 = .ok (.iconst 2, 1) := by decide +kernel
theorem dX3_between_1 : decode cX3_between 1 = .ok (.iload_n 0, 1) := by decide +kernel
theorem dX3_between_2 : decode cX3_between 2 = .ok (.iload_n 3, 1) := by decide +kernel
theorem dX3_between_3 : decode cX3_between 3 = .ok (.iload_n 2, 1) := by decide +kernel
theorem dX3_between_4 : decode cX3_between 4 = .ok (.isub, 1) := by decide +kernel
theorem dX3_between_5 : decode cX3_between 5 = .ok (.imul, 1) := by decide +kernel
theorem dX3_between_6 : decode cX3_between 6 = .ok (.iload_n 1, 1) := by decide +kernel
theorem dX3_between_7 : decode cX3_between 7 = .ok (.iload_n 2, 1) := by decide +kernel
theorem dX3_between_8 : decode cX3_between 8 = .ok (.imul, 1) := by decide +kernel
theorem dX3_between_9 : decode cX3_between 9 = .ok (.iadd, 1) := by decide +kernel
theorem dX3_between_10 : decode cX3_between 10 = .ok (.imul, 1) := by decide +kernel
theorem dX3_between_11 : decode cX3_between 11 = .ok (.iload_n 3, 1) := by decide +kernel
theorem dX3_between_12 : decode cX3_between 12 = .ok (.iadd, 1) := by decide +kernel
theorem dX3_between_13 : decode cX3_between 13 = .ok (.iconst 2, 1) := by decide +kernel
theorem dX3_between_14 : decode cX3_between 14 = .ok (.iload_n 3, 1) := by decide +kernel
theorem dX3_between_15 : decode cX3_between 15 = .ok (.imul, 1) := by decide +kernel
theorem dX3_between_16 : decode cX3_between 16 = .ok (.idiv, 1) := by decide +kernel
theorem dX3_between_17 : decode cX3_between 17 = .ok (.ireturn, 1) := by decide +kernel
def w_X3_between  (v0 : Int32) (v1 : Int32) (v2 : Int32) (v3 : Int32) (h : AH) (Q : Int32 → AH → Prop) : Prop :=
  dv ((2 : Int32) * v3) (
  Q ((((2 : Int32) * ((v0 * (v3 - v2)) + (v1 * v2))) + v3) / ((2 : Int32) * v3)) h)
set_option maxRecDepth 100000 in
set_option maxHeartbeats 4000000 in
theorem s_X3_between {l : Launch}  {v0 : Int32} {v1 : Int32} {v2 : Int32} {v3 : Int32} {h : AH} {Q : Int32 → AH → Prop}  (hw : w_X3_between  v0 v1 v2 v3 h Q) : CT l yX3_between cX3_between 4 (some .int) 0 0 0 [.int v0, .int v1, .int v2, .int v3] h (QI Q) := by
  refine CT.of (by decide) ⟨rfl, ⟨rfl, ⟨rfl, ⟨rfl, trivial⟩⟩⟩⟩ (Nat.le_of_ble_eq_true rfl) ?_
  intro p e s m args below meth c g C hr hin
  refine v_eq (pc' := 0) (ls' := [(0, .int v0), (1, .int v1), (2, .int v2), (3, .int v3)]) rfl rfl rfl rfl ?_
  refine v_iconst (v := 2) C dX3_between_0 (by decide) ?_
  refine v_iload_n C dX3_between_1 0 rfl rfl ?_
  refine v_iload_n C dX3_between_2 3 rfl rfl ?_
  refine v_iload_n C dX3_between_3 2 rfl rfl ?_
  refine v_isub C dX3_between_4 ?_
  refine v_imul C dX3_between_5 ?_
  refine v_iload_n C dX3_between_6 1 rfl rfl ?_
  refine v_iload_n C dX3_between_7 2 rfl rfl ?_
  refine v_imul C dX3_between_8 ?_
  refine v_iadd C dX3_between_9 ?_
  refine v_imul C dX3_between_10 ?_
  refine v_iload_n C dX3_between_11 3 rfl rfl ?_
  refine v_iadd C dX3_between_12 ?_
  refine v_iconst (v := 2) C dX3_between_13 (by decide) ?_
  refine v_iload_n C dX3_between_14 3 rfl rfl ?_
  refine v_imul C dX3_between_15 ?_
  refine w_idiv C dX3_between_16 hw (fun hw => ?_)
  exact (rt_MQ C _).1 _ _ _ _ _ _ hr dX3_between_17 (by decide) (by decide) ⟨_, rfl, hw⟩
-- GrassField$Land.column(I)I
theorem dX3_column_0 : decode cX3_column 0 = .ok (.iload_n 0, 1) := by decide +kernel
theorem dX3_column_1 : decode cX3_column 1 = .ok (.bipush 16, 2) := by decide +kernel
theorem dX3_column_3 : decode cX3_column 3 = .ok (.irem, 1) := by decide +kernel
theorem dX3_column_4 : decode cX3_column 4 = .ok (.ireturn, 1) := by decide +kernel
def w_X3_column  (v0 : Int32) (h : AH) (Q : Int32 → AH → Prop) : Prop :=
  Q (jrem v0 (16 : Int32)) h
set_option maxRecDepth 100000 in
set_option maxHeartbeats 4000000 in
theorem s_X3_column {l : Launch}  {v0 : Int32} {h : AH} {Q : Int32 → AH → Prop}  (hw : w_X3_column  v0 h Q) : CT l yX3_column cX3_column 1 (some .int) 0 0 0 [.int v0] h (QI Q) := by
  refine CT.of (by decide) ⟨rfl, trivial⟩ (Nat.le_of_ble_eq_true rfl) ?_
  intro p e s m args below meth c g C hr hin
  refine v_eq (pc' := 0) (ls' := [(0, .int v0)]) rfl rfl rfl rfl ?_
  refine v_iload_n C dX3_column_0 0 rfl rfl ?_
  refine v_bipush (v := 16) C dX3_column_1 (by decide) ?_
  refine v_irem C dX3_column_3 (by decide) ?_
  exact (rt_MQ C _).1 _ _ _ _ _ _ hr dX3_column_4 (by decide) (by decide) ⟨_, rfl, hw⟩
-- GrassField$Land.far(II)I
theorem dX3_far_0 : decode cX3_far 0 = .ok (.iload_n 0, 1) := by decide +kernel
theorem dX3_far_1 : decode cX3_far 1 = .ok (.bipush 16, 2) := by decide +kernel
theorem dX3_far_3 : decode cX3_far 3 = .ok (.irem, 1) := by decide +kernel
theorem dX3_far_4 : decode cX3_far 4 = .ok (.iload_n 1, 1) := by decide +kernel
theorem dX3_far_5 : decode cX3_far 5 = .ok (.bipush 16, 2) := by decide +kernel
theorem dX3_far_7 : decode cX3_far 7 = .ok (.irem, 1) := by decide +kernel
theorem dX3_far_8 : decode cX3_far 8 = .ok (.isub, 1) := by decide +kernel
theorem dX3_far_9 : decode cX3_far 9 = .ok (.invokestatic 15, 3) := by decide +kernel
theorem dX3_far_12 : decode cX3_far 12 = .ok (.istore_n 2, 1) := by decide +kernel
theorem dX3_far_13 : decode cX3_far 13 = .ok (.iload_n 0, 1) := by decide +kernel
theorem dX3_far_14 : decode cX3_far 14 = .ok (.bipush 16, 2) := by decide +kernel
theorem dX3_far_16 : decode cX3_far 16 = .ok (.idiv, 1) := by decide +kernel
theorem dX3_far_17 : decode cX3_far 17 = .ok (.iload_n 1, 1) := by decide +kernel
theorem dX3_far_18 : decode cX3_far 18 = .ok (.bipush 16, 2) := by decide +kernel
theorem dX3_far_20 : decode cX3_far 20 = .ok (.idiv, 1) := by decide +kernel
theorem dX3_far_21 : decode cX3_far 21 = .ok (.isub, 1) := by decide +kernel
theorem dX3_far_22 : decode cX3_far 22 = .ok (.invokestatic 15, 3) := by decide +kernel
theorem dX3_far_25 : decode cX3_far 25 = .ok (.istore_n 3, 1) := by decide +kernel
theorem dX3_far_26 : decode cX3_far 26 = .ok (.iload_n 2, 1) := by decide +kernel
theorem dX3_far_27 : decode cX3_far 27 = .ok (.iload_n 3, 1) := by decide +kernel
theorem dX3_far_28 : decode cX3_far 28 = .ok (.invokestatic 21, 3) := by decide +kernel
theorem dX3_far_31 : decode cX3_far 31 = .ok (.ireturn, 1) := by decide +kernel
def w_X3_far  (v0 : Int32) (v1 : Int32) (h : AH) (Q : Int32 → AH → Prop) : Prop :=
  bd (jabs ((jrem v0 (16 : Int32)) - (jrem v1 (16 : Int32)))) fun x1 =>
  bd (jabs ((v0 / (16 : Int32)) - (v1 / (16 : Int32)))) fun x2 =>
  Q (jmax x1 x2) h
set_option maxRecDepth 100000 in
set_option maxHeartbeats 4000000 in
theorem s_X3_far {l : Launch}  {v0 : Int32} {v1 : Int32} {h : AH} {Q : Int32 → AH → Prop}  (hw : w_X3_far  v0 v1 h Q) : CT l yX3_far cX3_far 4 (some .int) 1 0 0 [.int v0, .int v1] h (QI Q) := by
  refine CT.of (by decide) ⟨rfl, ⟨rfl, trivial⟩⟩ (Nat.le_of_ble_eq_true rfl) ?_
  intro p e s m args below meth c g C hr hin
  refine v_eq (pc' := 0) (ls' := [(0, .int v0), (1, .int v1)]) rfl rfl rfl rfl ?_
  refine v_iload_n C dX3_far_0 0 rfl rfl ?_
  refine v_bipush (v := 16) C dX3_far_1 (by decide) ?_
  refine v_irem C dX3_far_3 (by decide) ?_
  refine v_iload_n C dX3_far_4 1 rfl rfl ?_
  refine v_bipush (v := 16) C dX3_far_5 (by decide) ?_
  refine v_irem C dX3_far_7 (by decide) ?_
  refine v_isub C dX3_far_8 ?_
  refine v_abs C ml_X3_15 ms_abs mi_math mc_abs dX3_far_9 (by decide) (by decide) (by decide) (by decide) ?_
  refine w_bd hw (fun x1 hw => ?_)
  refine v_istore_n (ls' := [(2, .int x1), (0, .int v0), (1, .int v1)]) C dX3_far_12 rfl (by decide) rfl ?_
  refine v_iload_n C dX3_far_13 1 rfl rfl ?_
  refine v_bipush (v := 16) C dX3_far_14 (by decide) ?_
  refine v_idiv C dX3_far_16 (by decide) ?_
  refine v_iload_n C dX3_far_17 2 rfl rfl ?_
  refine v_bipush (v := 16) C dX3_far_18 (by decide) ?_
  refine v_idiv C dX3_far_20 (by decide) ?_
  refine v_isub C dX3_far_21 ?_
  refine v_abs C ml_X3_15 ms_abs mi_math mc_abs dX3_far_22 (by decide) (by decide) (by decide) (by decide) ?_
  refine w_bd hw (fun x2 hw => ?_)
  refine v_istore_n (ls' := [(3, .int x2), (2, .int x1), (0, .int v0), (1, .int v1)]) C dX3_far_25 rfl (by decide) rfl ?_
  refine v_iload_n C dX3_far_26 1 rfl rfl ?_
  refine v_iload_n C dX3_far_27 0 rfl rfl ?_
  refine v_max C ml_X3_21 ms_max mi_math mc_max dX3_far_28 (by decide) (by decide) (by decide) (by decide) ?_
  exact (rt_MQ C _).1 _ _ _ _ _ _ hr dX3_far_31 (by decide) (by decide) ⟨_, rfl, hw⟩
-- GrassField$Land.isBetween(III)Z
theorem dX3_isBetween_0 : decode cX3_isBetween 0 = .ok (.iload_n 1, 1) := by decide +kernel
theorem dX3_isBetween_1 : decode cX3_isBetween 1 = .ok (.iload_n 2, 1) := by decide +kernel
theorem dX3_isBetween_2 : decode cX3_isBetween 2 = .ok (.invokestatic 35, 3) := by decide +kernel
theorem dX3_isBetween_5 : decode cX3_isBetween 5 = .ok (.iload_n 0, 1) := by decide +kernel
theorem dX3_isBetween_6 : decode cX3_isBetween 6 = .ok (.if_icmp .gt 16, 3) := by decide +kernel
theorem dX3_isBetween_9 : decode cX3_isBetween 9 = .ok (.iload_n 0, 1) := by decide +kernel
theorem dX3_isBetween_10 : decode cX3_isBetween 10 = .ok (.iload_n 1, 1) := by decide +kernel
theorem dX3_isBetween_11 : decode cX3_isBetween 11 = .ok (.iload_n 2, 1) := by decide +kernel
theorem dX3_isBetween_12 : decode cX3_isBetween 12 = .ok (.invokestatic 21, 3) := by decide +kernel
theorem dX3_isBetween_15 : decode cX3_isBetween 15 = .ok (.if_icmp .gt 7, 3) := by decide +kernel
theorem dX3_isBetween_18 : decode cX3_isBetween 18 = .ok (.iconst 1, 1) := by decide +kernel
theorem dX3_isBetween_19 : decode cX3_isBetween 19 = .ok (.goto 4, 3) := by decide +kernel
theorem dX3_isBetween_22 : decode cX3_isBetween 22 = .ok (.iconst 0, 1) := by decide +kernel
theorem dX3_isBetween_23 : decode cX3_isBetween 23 = .ok (.ireturn, 1) := by decide +kernel
def w_X3_isBetween_23  (t0 : Int32) (h : AH) (Q : Int32 → AH → Prop) : Prop :=
  z1 t0 (Q t0 h)
def w_X3_isBetween_22  (h : AH) (Q : Int32 → AH → Prop) : Prop :=
  w_X3_isBetween_23 (0 : Int32) h Q
def w_X3_isBetween  (v0 : Int32) (v1 : Int32) (v2 : Int32) (h : AH) (Q : Int32 → AH → Prop) : Prop :=
  br (v0 < (jmin v1 v2)) (
    w_X3_isBetween_22  h Q) (
    br ((jmax v1 v2) < v0) (
      w_X3_isBetween_22  h Q) (
      w_X3_isBetween_23 (1 : Int32) h Q))
set_option maxRecDepth 100000 in
set_option maxHeartbeats 4000000 in
theorem s_X3_isBetween_23 {p : Program} {l : Launch} {e : Env} {s : State} {m : MethodId} {args : Array Value} {below : List Frame} {meth : Method} {c : Code} {g : GG}  {Q : Int32 → AH → Prop}  (C : CXT p l s m args meth c RX3 cX3_isBetween 3 g) (hr : meth.sig.returnType = (some .boolean))  : ∀ (t0 : Int32) (h : AH), w_X3_isBetween_23  t0 h Q → V p l e s m args below meth c g 1 0 0 3 0 0 (MQ below (QCx g (QI Q)) args s 0 0 (gA g)) 23 [] [.int t0] h := by
  intro t0 h hw
  exact (rt_MQ C _).2.1 _ _ _ _ _ _ _ hr (by rcases hw.1 with z | z <;> rw [z] <;> rfl) dX3_isBetween_23 (by decide) (by decide) ⟨_, rfl, hw.2⟩
set_option maxRecDepth 100000 in
set_option maxHeartbeats 4000000 in
theorem s_X3_isBetween_22 {p : Program} {l : Launch} {e : Env} {s : State} {m : MethodId} {args : Array Value} {below : List Frame} {meth : Method} {c : Code} {g : GG}  {Q : Int32 → AH → Prop}  (C : CXT p l s m args meth c RX3 cX3_isBetween 3 g) (hr : meth.sig.returnType = (some .boolean))  : ∀  (h : AH), w_X3_isBetween_22  h Q → V p l e s m args below meth c g 1 0 0 3 0 0 (MQ below (QCx g (QI Q)) args s 0 0 (gA g)) 22 [] [] h := by
  intro  h hw
  refine v_iconst (v := 0) C dX3_isBetween_22 (by decide) ?_
  exact s_X3_isBetween_23 C hr  _ _ hw
set_option maxRecDepth 100000 in
set_option maxHeartbeats 4000000 in
theorem s_X3_isBetween {l : Launch}  {v0 : Int32} {v1 : Int32} {v2 : Int32} {h : AH} {Q : Int32 → AH → Prop}  (hw : w_X3_isBetween  v0 v1 v2 h Q) : CT l yX3_isBetween cX3_isBetween 3 (some .boolean) 1 0 0 [.int v0, .int v1, .int v2] h (QI Q) := by
  refine CT.of (by decide) ⟨rfl, ⟨rfl, ⟨rfl, trivial⟩⟩⟩ (Nat.le_of_ble_eq_true rfl) ?_
  intro p e s m args below meth c g C hr hin
  refine v_eq (pc' := 0) (ls' := [(0, .int v0), (1, .int v1), (2, .int v2)]) rfl rfl rfl rfl ?_
  refine v_iload_n C dX3_isBetween_0 1 rfl rfl ?_
  refine v_iload_n C dX3_isBetween_1 2 rfl rfl ?_
  refine v_min C ml_X3_35 ms_min mi_math mc_min dX3_isBetween_2 (by decide) (by decide) (by decide) (by decide) ?_
  refine v_iload_n C dX3_isBetween_5 0 rfl rfl ?_
  refine v_icmp_gt (tgt := 22) C dX3_isBetween_6 (by decide) (fun c_6 => ?_) (fun c_6 => ?_)
  · have hw := hw.1 c_6
    refine v_sub [] rfl ?_
    exact s_X3_isBetween_22 C hr   _ hw
  · have hw := hw.2 c_6
    refine v_iload_n C dX3_isBetween_9 0 rfl rfl ?_
    refine v_iload_n C dX3_isBetween_10 1 rfl rfl ?_
    refine v_iload_n C dX3_isBetween_11 2 rfl rfl ?_
    refine v_max C ml_X3_21 ms_max mi_math mc_max dX3_isBetween_12 (by decide) (Nat.le_of_ble_eq_true rfl) (by decide) (by decide) ?_
    refine v_icmp_gt (tgt := 22) C dX3_isBetween_15 (by decide) (fun c_15 => ?_) (fun c_15 => ?_)
    · have hw := hw.1 c_15
      refine v_sub [] rfl ?_
      exact s_X3_isBetween_22 C hr   _ hw
    · have hw := hw.2 c_15
      refine v_iconst (v := 1) C dX3_isBetween_18 (by decide) ?_
      refine v_goto (tgt := 23) C dX3_isBetween_19 (by decide) ?_
      refine v_sub [] rfl ?_
      exact s_X3_isBetween_23 C hr  _ _ hw
-- GrassField$Land.row(I)I
theorem dX3_row_0 : decode cX3_row 0 = .ok (.iload_n 0, 1) := by decide +kernel
theorem dX3_row_1 : decode cX3_row 1 = .ok (.bipush 16, 2) := by decide +kernel
theorem dX3_row_3 : decode cX3_row 3 = .ok (.idiv, 1) := by decide +kernel
theorem dX3_row_4 : decode cX3_row 4 = .ok (.ireturn, 1) := by decide +kernel
def w_X3_row  (v0 : Int32) (h : AH) (Q : Int32 → AH → Prop) : Prop :=
  Q (v0 / (16 : Int32)) h
set_option maxRecDepth 100000 in
set_option maxHeartbeats 4000000 in
theorem s_X3_row {l : Launch}  {v0 : Int32} {h : AH} {Q : Int32 → AH → Prop}  (hw : w_X3_row  v0 h Q) : CT l yX3_row cX3_row 1 (some .int) 0 0 0 [.int v0] h (QI Q) := by
  refine CT.of (by decide) ⟨rfl, trivial⟩ (Nat.le_of_ble_eq_true rfl) ?_
  intro p e s m args below meth c g C hr hin
  refine v_eq (pc' := 0) (ls' := [(0, .int v0)]) rfl rfl rfl rfl ?_
  refine v_iload_n C dX3_row_0 0 rfl rfl ?_
  refine v_bipush (v := 16) C dX3_row_1 (by decide) ?_
  refine v_idiv C dX3_row_3 (by decide) ?_
  exact (rt_MQ C _).1 _ _ _ _ _ _ hr dX3_row_4 (by decide) (by decide) ⟨_, rfl, hw⟩
-- GrassField$Land.isInArea(III)Z
theorem dX3_isInArea_0 : decode cX3_isInArea 0 = .ok (.iload_n 0, 1) := by decide +kernel
theorem dX3_isInArea_1 : decode cX3_isInArea 1 = .ok (.invokestatic 25, 3) := by decide +kernel
theorem dX3_isInArea_4 : decode cX3_isInArea 4 = .ok (.iload_n 1, 1) := by decide +kernel
theorem dX3_isInArea_5 : decode cX3_isInArea 5 = .ok (.invokestatic 25, 3) := by decide +kernel
theorem dX3_isInArea_8 : decode cX3_isInArea 8 = .ok (.iload_n 2, 1) := by decide +kernel
theorem dX3_isInArea_9 : decode cX3_isInArea 9 = .ok (.invokestatic 25, 3) := by decide +kernel
theorem dX3_isInArea_12 : decode cX3_isInArea 12 = .ok (.invokestatic 28, 3) := by decide +kernel
theorem dX3_isInArea_15 : decode cX3_isInArea 15 = .ok (.ifCond .eq 25, 3) := by decide +kernel
theorem dX3_isInArea_18 : decode cX3_isInArea 18 = .ok (.iload_n 0, 1) := by decide +kernel
theorem dX3_isInArea_19 : decode cX3_isInArea 19 = .ok (.invokestatic 32, 3) := by decide +kernel
theorem dX3_isInArea_22 : decode cX3_isInArea 22 = .ok (.iload_n 1, 1) := by decide +kernel
theorem dX3_isInArea_23 : decode cX3_isInArea 23 = .ok (.invokestatic 32, 3) := by decide +kernel
theorem dX3_isInArea_26 : decode cX3_isInArea 26 = .ok (.iload_n 2, 1) := by decide +kernel
theorem dX3_isInArea_27 : decode cX3_isInArea 27 = .ok (.invokestatic 32, 3) := by decide +kernel
theorem dX3_isInArea_30 : decode cX3_isInArea 30 = .ok (.invokestatic 28, 3) := by decide +kernel
theorem dX3_isInArea_33 : decode cX3_isInArea 33 = .ok (.ifCond .eq 7, 3) := by decide +kernel
theorem dX3_isInArea_36 : decode cX3_isInArea 36 = .ok (.iconst 1, 1) := by decide +kernel
theorem dX3_isInArea_37 : decode cX3_isInArea 37 = .ok (.goto 4, 3) := by decide +kernel
theorem dX3_isInArea_40 : decode cX3_isInArea 40 = .ok (.iconst 0, 1) := by decide +kernel
theorem dX3_isInArea_41 : decode cX3_isInArea 41 = .ok (.ireturn, 1) := by decide +kernel
def w_X3_isInArea_41  (t0 : Int32) (h : AH) (Q : Int32 → AH → Prop) : Prop :=
  z1 t0 (Q t0 h)
def w_X3_isInArea_40  (h : AH) (Q : Int32 → AH → Prop) : Prop :=
  w_X3_isInArea_41 (0 : Int32) h Q
def w_X3_isInArea  (v0 : Int32) (v1 : Int32) (v2 : Int32) (h : AH) (Q : Int32 → AH → Prop) : Prop :=
  w_X3_column v0 h (fun x1 h =>
  w_X3_column v1 h (fun x2 h =>
  w_X3_column v2 h (fun x3 h =>
  w_X3_isBetween x1 x2 x3 h (fun x4 h =>
  br (x4 = 0) (
    w_X3_isInArea_40  h Q) (
    w_X3_row v0 h (fun x5 h =>
    w_X3_row v1 h (fun x6 h =>
    w_X3_row v2 h (fun x7 h =>
    w_X3_isBetween x5 x6 x7 h (fun x8 h =>
    br (x8 = 0) (
      w_X3_isInArea_40  h Q) (
      w_X3_isInArea_41 (1 : Int32) h Q))))))))))
set_option maxRecDepth 100000 in
set_option maxHeartbeats 4000000 in
theorem s_X3_isInArea_41 {p : Program} {l : Launch} {e : Env} {s : State} {m : MethodId} {args : Array Value} {below : List Frame} {meth : Method} {c : Code} {g : GG}  {Q : Int32 → AH → Prop}  (C : CXT p l s m args meth c RX3 cX3_isInArea 3 g) (hr : meth.sig.returnType = (some .boolean))  : ∀ (t0 : Int32) (h : AH), w_X3_isInArea_41  t0 h Q → V p l e s m args below meth c g 2 0 0 3 0 0 (MQ below (QCx g (QI Q)) args s 0 0 (gA g)) 41 [] [.int t0] h := by
  intro t0 h hw
  exact (rt_MQ C _).2.1 _ _ _ _ _ _ _ hr (by rcases hw.1 with z | z <;> rw [z] <;> rfl) dX3_isInArea_41 (by decide) (by decide) ⟨_, rfl, hw.2⟩
set_option maxRecDepth 100000 in
set_option maxHeartbeats 4000000 in
theorem s_X3_isInArea_40 {p : Program} {l : Launch} {e : Env} {s : State} {m : MethodId} {args : Array Value} {below : List Frame} {meth : Method} {c : Code} {g : GG}  {Q : Int32 → AH → Prop}  (C : CXT p l s m args meth c RX3 cX3_isInArea 3 g) (hr : meth.sig.returnType = (some .boolean))  : ∀  (h : AH), w_X3_isInArea_40  h Q → V p l e s m args below meth c g 2 0 0 3 0 0 (MQ below (QCx g (QI Q)) args s 0 0 (gA g)) 40 [] [] h := by
  intro  h hw
  refine v_iconst (v := 0) C dX3_isInArea_40 (by decide) ?_
  exact s_X3_isInArea_41 C hr  _ _ hw
set_option maxRecDepth 100000 in
set_option maxHeartbeats 4000000 in
theorem s_X3_isInArea {l : Launch}  {v0 : Int32} {v1 : Int32} {v2 : Int32} {h : AH} {Q : Int32 → AH → Prop}  (hw : w_X3_isInArea  v0 v1 v2 h Q) : CT l yX3_isInArea cX3_isInArea 3 (some .boolean) 2 0 0 [.int v0, .int v1, .int v2] h (QI Q) := by
  refine CT.of (by decide) ⟨rfl, ⟨rfl, ⟨rfl, trivial⟩⟩⟩ (Nat.le_of_ble_eq_true rfl) ?_
  intro p e s m args below meth c g C hr hin
  refine v_eq (pc' := 0) (ls' := [(0, .int v0), (1, .int v1), (2, .int v2)]) rfl rfl rfl rfl ?_
  refine v_iload_n C dX3_isInArea_0 0 rfl rfl ?_
  refine w_callSi (st := []) C cl_X3_25 st_X3_column (s_X3_column hw) rfl dX3_isInArea_1 rfl (by decide) (by decide) (by decide) (by decide) (by decide) (fun x1 h hw => ?_)
  refine v_iload_n C dX3_isInArea_4 1 rfl rfl ?_
  refine w_callSi (st := [.int x1]) C cl_X3_25 st_X3_column (s_X3_column hw) rfl dX3_isInArea_5 rfl (Nat.le_of_ble_eq_true rfl) (by decide) (by decide) (by decide) (by decide) (fun x2 h hw => ?_)
  refine v_iload_n C dX3_isInArea_8 2 rfl rfl ?_
  refine w_callSi (st := [.int x2, .int x1]) C cl_X3_25 st_X3_column (s_X3_column hw) rfl dX3_isInArea_9 rfl (Nat.le_of_ble_eq_true rfl) (by decide) (by decide) (by decide) (by decide) (fun x3 h hw => ?_)
  refine w_callSi (st := []) C cl_X3_28 st_X3_isBetween (s_X3_isBetween hw) rfl dX3_isInArea_12 rfl (by decide) (by decide) (by decide) (by decide) (by decide) (fun x4 h hw => ?_)
  refine v_if_eq (tgt := 40) C dX3_isInArea_15 (by decide) (fun c_15 => ?_) (fun c_15 => ?_)
  · have hw := hw.1 c_15
    refine v_sub [] rfl ?_
    exact s_X3_isInArea_40 C hr   _ hw
  · have hw := hw.2 c_15
    refine v_iload_n C dX3_isInArea_18 0 rfl rfl ?_
    refine w_callSi (st := []) C cl_X3_32 st_X3_row (s_X3_row hw) rfl dX3_isInArea_19 rfl (by decide) (by decide) (by decide) (by decide) (by decide) (fun x5 h hw => ?_)
    refine v_iload_n C dX3_isInArea_22 1 rfl rfl ?_
    refine w_callSi (st := [.int x5]) C cl_X3_32 st_X3_row (s_X3_row hw) rfl dX3_isInArea_23 rfl (Nat.le_of_ble_eq_true rfl) (by decide) (by decide) (by decide) (by decide) (fun x6 h hw => ?_)
    refine v_iload_n C dX3_isInArea_26 2 rfl rfl ?_
    refine w_callSi (st := [.int x6, .int x5]) C cl_X3_32 st_X3_row (s_X3_row hw) rfl dX3_isInArea_27 rfl (Nat.le_of_ble_eq_true rfl) (by decide) (by decide) (by decide) (by decide) (fun x7 h hw => ?_)
    refine w_callSi (st := []) C cl_X3_28 st_X3_isBetween (s_X3_isBetween hw) rfl dX3_isInArea_30 rfl (by decide) (by decide) (by decide) (by decide) (by decide) (fun x8 h hw => ?_)
    refine v_if_eq (tgt := 40) C dX3_isInArea_33 (by decide) (fun c_33 => ?_) (fun c_33 => ?_)
    · have hw := hw.1 c_33
      refine v_sub [] rfl ?_
      exact s_X3_isInArea_40 C hr   _ hw
    · have hw := hw.2 c_33
      refine v_iconst (v := 1) C dX3_isInArea_36 (by decide) ?_
      refine v_goto (tgt := 41) C dX3_isInArea_37 (by decide) ?_
      refine v_sub [] rfl ?_
      exact s_X3_isInArea_41 C hr  _ _ hw
-- GrassField$Land.isOpen(II)Z
theorem dX3_isOpen_0 : decode cX3_isOpen 0 = .ok (.iload_n 1, 1) := by decide +kernel
theorem dX3_isOpen_1 : decode cX3_isOpen 1 = .ok (.iload_n 2, 1) := by decide +kernel
theorem dX3_isOpen_2 : decode cX3_isOpen 2 = .ok (.invokestatic 41, 3) := by decide +kernel
theorem dX3_isOpen_5 : decode cX3_isOpen 5 = .ok (.istore_n 3, 1) := by decide +kernel
theorem dX3_isOpen_6 : decode cX3_isOpen 6 = .ok (.iconst 1, 1) := by decide +kernel
theorem dX3_isOpen_7 : decode cX3_isOpen 7 = .ok (.istore 4, 2) := by decide +kernel
theorem dX3_isOpen_9 : decode cX3_isOpen 9 = .ok (.iload 4, 2) := by decide +kernel
theorem dX3_isOpen_11 : decode cX3_isOpen 11 = .ok (.iload_n 3, 1) := by decide +kernel
theorem dX3_isOpen_12 : decode cX3_isOpen 12 = .ok (.if_icmp .ge 86, 3) := by decide +kernel
theorem dX3_isOpen_15 : decode cX3_isOpen 15 = .ok (.iload_n 1, 1) := by decide +kernel
theorem dX3_isOpen_16 : decode cX3_isOpen 16 = .ok (.invokestatic 25, 3) := by decide +kernel
theorem dX3_isOpen_19 : decode cX3_isOpen 19 = .ok (.iload_n 2, 1) := by decide +kernel
theorem dX3_isOpen_20 : decode cX3_isOpen 20 = .ok (.invokestatic 25, 3) := by decide +kernel
theorem dX3_isOpen_23 : decode cX3_isOpen 23 = .ok (.iload 4, 2) := by decide +kernel
theorem dX3_isOpen_25 : decode cX3_isOpen 25 = .ok (.iload_n 3, 1) := by decide +kernel
theorem dX3_isOpen_26 : decode cX3_isOpen 26 = .ok (.invokestatic 44, 3) := by decide +kernel
theorem dX3_isOpen_29 : decode cX3_isOpen 29 = .ok (.istore 5, 2) := by decide +kernel
theorem dX3_isOpen_31 : decode cX3_isOpen 31 = .ok (.iload_n 1, 1) := by decide +kernel
theorem dX3_isOpen_32 : decode cX3_isOpen 32 = .ok (.invokestatic 32, 3) := by decide +kernel
theorem dX3_isOpen_35 : decode cX3_isOpen 35 = .ok (.iload_n 2, 1) := by decide +kernel
theorem dX3_isOpen_36 : decode cX3_isOpen 36 = .ok (.invokestatic 32, 3) := by decide +kernel
theorem dX3_isOpen_39 : decode cX3_isOpen 39 = .ok (.iload 4, 2) := by decide +kernel
theorem dX3_isOpen_41 : decode cX3_isOpen 41 = .ok (.iload_n 3, 1) := by decide +kernel
theorem dX3_isOpen_42 : decode cX3_isOpen 42 = .ok (.invokestatic 44, 3) := by decide +kernel
theorem dX3_isOpen_45 : decode cX3_isOpen 45 = .ok (.istore 6, 2) := by decide +kernel
theorem dX3_isOpen_47 : decode cX3_isOpen 47 = .ok (.aload_n 0, 1) := by decide +kernel
theorem dX3_isOpen_48 : decode cX3_isOpen 48 = .ok (.getfield 9, 3) := by decide +kernel
theorem dX3_isOpen_51 : decode cX3_isOpen 51 = .ok (.iload_n 1, 1) := by decide +kernel
theorem dX3_isOpen_52 : decode cX3_isOpen 52 = .ok (.iaload, 1) := by decide +kernel
theorem dX3_isOpen_53 : decode cX3_isOpen 53 = .ok (.iload_n 3, 1) := by decide +kernel
theorem dX3_isOpen_54 : decode cX3_isOpen 54 = .ok (.iload 4, 2) := by decide +kernel
theorem dX3_isOpen_56 : decode cX3_isOpen 56 = .ok (.isub, 1) := by decide +kernel
theorem dX3_isOpen_57 : decode cX3_isOpen 57 = .ok (.imul, 1) := by decide +kernel
theorem dX3_isOpen_58 : decode cX3_isOpen 58 = .ok (.aload_n 0, 1) := by decide +kernel
theorem dX3_isOpen_59 : decode cX3_isOpen 59 = .ok (.getfield 9, 3) := by decide +kernel
theorem dX3_isOpen_62 : decode cX3_isOpen 62 = .ok (.iload_n 2, 1) := by decide +kernel
theorem dX3_isOpen_63 : decode cX3_isOpen 63 = .ok (.iaload, 1) := by decide +kernel
theorem dX3_isOpen_64 : decode cX3_isOpen 64 = .ok (.iload 4, 2) := by decide +kernel
theorem dX3_isOpen_66 : decode cX3_isOpen 66 = .ok (.imul, 1) := by decide +kernel
theorem dX3_isOpen_67 : decode cX3_isOpen 67 = .ok (.iadd, 1) := by decide +kernel
theorem dX3_isOpen_68 : decode cX3_isOpen 68 = .ok (.istore 7, 2) := by decide +kernel
theorem dX3_isOpen_70 : decode cX3_isOpen 70 = .ok (.aload_n 0, 1) := by decide +kernel
theorem dX3_isOpen_71 : decode cX3_isOpen 71 = .ok (.getfield 9, 3) := by decide +kernel
theorem dX3_isOpen_74 : decode cX3_isOpen 74 = .ok (.bipush 16, 2) := by decide +kernel
theorem dX3_isOpen_76 : decode cX3_isOpen 76 = .ok (.iload 6, 2) := by decide +kernel
theorem dX3_isOpen_78 : decode cX3_isOpen 78 = .ok (.imul, 1) := by decide +kernel
theorem dX3_isOpen_79 : decode cX3_isOpen 79 = .ok (.iload 5, 2) := by decide +kernel
theorem dX3_isOpen_81 : decode cX3_isOpen 81 = .ok (.iadd, 1) := by decide +kernel
theorem dX3_isOpen_82 : decode cX3_isOpen 82 = .ok (.iaload, 1) := by decide +kernel
theorem dX3_isOpen_83 : decode cX3_isOpen 83 = .ok (.iload_n 3, 1) := by decide +kernel
theorem dX3_isOpen_84 : decode cX3_isOpen 84 = .ok (.imul, 1) := by decide +kernel
theorem dX3_isOpen_85 : decode cX3_isOpen 85 = .ok (.iload 7, 2) := by decide +kernel
theorem dX3_isOpen_87 : decode cX3_isOpen 87 = .ok (.if_icmp .le 5, 3) := by decide +kernel
theorem dX3_isOpen_90 : decode cX3_isOpen 90 = .ok (.iconst 0, 1) := by decide +kernel
theorem dX3_isOpen_91 : decode cX3_isOpen 91 = .ok (.ireturn, 1) := by decide +kernel
theorem dX3_isOpen_92 : decode cX3_isOpen 92 = .ok (.iinc 4 1, 3) := by decide +kernel
theorem dX3_isOpen_95 : decode cX3_isOpen 95 = .ok (.goto (-86), 3) := by decide +kernel
theorem dX3_isOpen_98 : decode cX3_isOpen 98 = .ok (.iconst 1, 1) := by decide +kernel
theorem dX3_isOpen_99 : decode cX3_isOpen 99 = .ok (.ireturn, 1) := by decide +kernel
def w_X3_isOpen_98  (h : AH) (Q : Int32 → AH → Prop) : Prop :=
  Q (1 : Int32) h
def w_X3_isOpen_90  (h : AH) (Q : Int32 → AH → Prop) : Prop :=
  Q (0 : Int32) h
def w_X3_isOpen_9  (x90 : AH → Prop) (x98 : AH → Prop) (k : Int32 → AH → Prop) (v0 : Nat) (v1 : Int32) (v2 : Int32) (v3 : Int32) (v4 : Int32) (h : AH) (Q : Int32 → AH → Prop) : Prop :=
  br (v3 ≤ v4) (
    x98  h) (
    w_X3_column v1 h (fun x1 h =>
    w_X3_column v2 h (fun x2 h =>
    w_X3_between x1 x2 v4 v3 h (fun x3 h =>
    w_X3_row v1 h (fun x4 h =>
    w_X3_row v2 h (fun x5 h =>
    w_X3_between x4 x5 v4 v3 h (fun x6 h =>
    fN h v0 3 0 fun a7 =>
    aI h a7 v1 fun x8 =>
    fN h v0 3 0 fun a9 =>
    aI h a9 v2 fun x10 =>
    bd ((x8 * (v3 - v4)) + (x10 * v4)) fun x11 =>
    fN h v0 3 0 fun a12 =>
    aI h a12 (((16 : Int32) * x6) + x3) fun x13 =>
    br ((x13 * v3) ≤ x11) (
      k (v4 + 1) h) (
      x90  h))))))))
def w_X3_isOpen  (v0 : Nat) (v1 : Int32) (v2 : Int32) (h : AH) (Q : Int32 → AH → Prop) : Prop :=
  w_X3_far v1 v2 h (fun x1 h =>
  lp (fun (k2 : Int32 × AH → Prop) (s2 : Int32 × AH) => w_X3_isOpen_9  (fun  h => w_X3_isOpen_90  h Q) (fun  h => w_X3_isOpen_98  h Q) (fun (y4 : Int32) h => k2 (y4, h)) v0 v1 v2 x1 s2.1 s2.2 Q) ((1 : Int32), h))
set_option maxRecDepth 100000 in
set_option maxHeartbeats 4000000 in
theorem s_X3_isOpen_98 {p : Program} {l : Launch} {e : Env} {s : State} {m : MethodId} {args : Array Value} {below : List Frame} {meth : Method} {c : Code} {g : GG}  {Q : Int32 → AH → Prop}  (C : CXT p l s m args meth c RX3 cX3_isOpen 8 g) (hr : meth.sig.returnType = (some .boolean))  : ∀  (h : AH), w_X3_isOpen_98  h Q → V p l e s m args below meth c g 2 0 0 8 0 0 (MQ below (QCx g (QI Q)) args s 0 0 (gA g)) 98 [] [] h := by
  intro  h hw
  refine v_iconst (v := 1) C dX3_isOpen_98 (by decide) ?_
  exact (rt_MQ C _).2.1 _ _ _ _ _ _ _ hr rfl dX3_isOpen_99 (by decide) (by decide) ⟨_, rfl, hw⟩
set_option maxRecDepth 100000 in
set_option maxHeartbeats 4000000 in
theorem s_X3_isOpen_90 {p : Program} {l : Launch} {e : Env} {s : State} {m : MethodId} {args : Array Value} {below : List Frame} {meth : Method} {c : Code} {g : GG}  {Q : Int32 → AH → Prop}  (C : CXT p l s m args meth c RX3 cX3_isOpen 8 g) (hr : meth.sig.returnType = (some .boolean))  : ∀  (h : AH), w_X3_isOpen_90  h Q → V p l e s m args below meth c g 2 0 0 8 0 0 (MQ below (QCx g (QI Q)) args s 0 0 (gA g)) 90 [] [] h := by
  intro  h hw
  refine v_iconst (v := 0) C dX3_isOpen_90 (by decide) ?_
  exact (rt_MQ C _).2.1 _ _ _ _ _ _ _ hr rfl dX3_isOpen_91 (by decide) (by decide) ⟨_, rfl, hw⟩
set_option maxRecDepth 100000 in
set_option maxHeartbeats 4000000 in
theorem s_X3_isOpen_9 {p : Program} {l : Launch} {e : Env} {s : State} {m : MethodId} {args : Array Value} {below : List Frame} {meth : Method} {c : Code} {g : GG} {v0 : Nat} {v1 : Int32} {v2 : Int32} {v3 : Int32} {Q : Int32 → AH → Prop} {x90 : AH → Prop} {x98 : AH → Prop} {k : Int32 → AH → Prop} (C : CXT p l s m args meth c RX3 cX3_isOpen 8 g) (hr : meth.sig.returnType = (some .boolean)) (hx90 : ∀  (h : AH), x90  h → V p l e s m args below meth c g 2 0 0 8 0 0 (MQ below (QCx g (QI Q)) args s 0 0 (gA g)) 90 [] [] h) (hx98 : ∀  (h : AH), x98  h → V p l e s m args below meth c g 2 0 0 8 0 0 (MQ below (QCx g (QI Q)) args s 0 0 (gA g)) 98 [] [] h) (hk : ∀ (y4 : Int32) (h : AH), k y4 h → V p l e s m args below meth c g 2 0 0 8 0 0 (MQ below (QCx g (QI Q)) args s 0 0 (gA g)) 9 [(0, .ref v0), (1, .int v1), (2, .int v2), (3, .int v3), (4, .int y4)] [] h) : ∀ (v4 : Int32) (h : AH), w_X3_isOpen_9  x90 x98 k v0 v1 v2 v3 v4 h Q → V p l e s m args below meth c g 2 0 0 8 0 0 (MQ below (QCx g (QI Q)) args s 0 0 (gA g)) 9 [(0, .ref v0), (1, .int v1), (2, .int v2), (3, .int v3), (4, .int v4)] [] h := by
  intro v4 h hw
  refine v_iload C dX3_isOpen_9 4 rfl ?_
  refine v_iload_n C dX3_isOpen_11 3 rfl rfl ?_
  refine v_icmp_ge (tgt := 98) C dX3_isOpen_12 (by decide) (fun c_12 => ?_) (fun c_12 => ?_)
  · have hw := hw.1 c_12
    refine v_sub [] rfl ?_
    exact hx98  _ hw
  · have hw := hw.2 c_12
    refine v_iload_n C dX3_isOpen_15 1 rfl rfl ?_
    refine w_callSi (st := []) C cl_X3_25 st_X3_column (s_X3_column hw) rfl dX3_isOpen_16 rfl (by decide) (by decide) (by decide) (by decide) (by decide) (fun x1 h hw => ?_)
    refine v_iload_n C dX3_isOpen_19 2 rfl rfl ?_
    refine w_callSi (st := [.int x1]) C cl_X3_25 st_X3_column (s_X3_column hw) rfl dX3_isOpen_20 rfl (Nat.le_of_ble_eq_true rfl) (by decide) (by decide) (by decide) (by decide) (fun x2 h hw => ?_)
    refine v_iload C dX3_isOpen_23 4 rfl ?_
    refine v_iload_n C dX3_isOpen_25 3 rfl rfl ?_
    refine w_callSi (st := []) C cl_X3_44 st_X3_between (s_X3_between hw) rfl dX3_isOpen_26 rfl (by decide) (by decide) (by decide) (by decide) (by decide) (fun x3 h hw => ?_)
    refine v_istore (ls' := [(5, .int x3), (0, .ref v0), (1, .int v1), (2, .int v2), (3, .int v3), (4, .int v4)]) C dX3_isOpen_29 (by decide) rfl ?_
    refine v_iload_n C dX3_isOpen_31 2 rfl rfl ?_
    refine w_callSi (st := []) C cl_X3_32 st_X3_row (s_X3_row hw) rfl dX3_isOpen_32 rfl (by decide) (by decide) (by decide) (by decide) (by decide) (fun x4 h hw => ?_)
    refine v_iload_n C dX3_isOpen_35 3 rfl rfl ?_
    refine w_callSi (st := [.int x4]) C cl_X3_32 st_X3_row (s_X3_row hw) rfl dX3_isOpen_36 rfl (Nat.le_of_ble_eq_true rfl) (by decide) (by decide) (by decide) (by decide) (fun x5 h hw => ?_)
    refine v_iload C dX3_isOpen_39 5 rfl ?_
    refine v_iload_n C dX3_isOpen_41 4 rfl rfl ?_
    refine w_callSi (st := []) C cl_X3_44 st_X3_between (s_X3_between hw) rfl dX3_isOpen_42 rfl (by decide) (by decide) (by decide) (by decide) (by decide) (fun x6 h hw => ?_)
    refine v_istore (ls' := [(6, .int x6), (5, .int x3), (0, .ref v0), (1, .int v1), (2, .int v2), (3, .int v3), (4, .int v4)]) C dX3_isOpen_45 (by decide) rfl ?_
    refine v_aload_n C dX3_isOpen_47 2 rfl rfl ?_
    refine w_getN C fl_X3_9 dX3_isOpen_48 rfl hw (fun a7 hw => ?_)
    refine v_iload_n C dX3_isOpen_51 3 rfl rfl ?_
    refine w_iaload C dX3_isOpen_52 hw (fun x8 hw => ?_)
    refine v_iload_n C dX3_isOpen_53 5 rfl rfl ?_
    refine v_iload C dX3_isOpen_54 6 rfl ?_
    refine v_isub C dX3_isOpen_56 ?_
    refine v_imul C dX3_isOpen_57 ?_
    refine v_aload_n C dX3_isOpen_58 2 rfl rfl ?_
    refine w_getN C fl_X3_9 dX3_isOpen_59 rfl hw (fun a9 hw => ?_)
    refine v_iload_n C dX3_isOpen_62 4 rfl rfl ?_
    refine w_iaload C dX3_isOpen_63 hw (fun x10 hw => ?_)
    refine v_iload C dX3_isOpen_64 6 rfl ?_
    refine v_imul C dX3_isOpen_66 ?_
    refine v_iadd C dX3_isOpen_67 ?_
    refine w_bd hw (fun x11 hw => ?_)
    refine v_istore (ls' := [(7, .int x11), (6, .int x6), (5, .int x3), (0, .ref v0), (1, .int v1), (2, .int v2), (3, .int v3), (4, .int v4)]) C dX3_isOpen_68 (by decide) rfl ?_
    refine v_aload_n C dX3_isOpen_70 3 rfl rfl ?_
    refine w_getN C fl_X3_9 dX3_isOpen_71 rfl hw (fun a12 hw => ?_)
    refine v_bipush (v := 16) C dX3_isOpen_74 (by decide) ?_
    refine v_iload C dX3_isOpen_76 1 rfl ?_
    refine v_imul C dX3_isOpen_78 ?_
    refine v_iload C dX3_isOpen_79 2 rfl ?_
    refine v_iadd C dX3_isOpen_81 ?_
    refine w_iaload C dX3_isOpen_82 hw (fun x13 hw => ?_)
    refine v_iload_n C dX3_isOpen_83 6 rfl rfl ?_
    refine v_imul C dX3_isOpen_84 ?_
    refine v_iload C dX3_isOpen_85 0 rfl ?_
    refine v_icmp_le (tgt := 92) C dX3_isOpen_87 (by decide) (fun c_87 => ?_) (fun c_87 => ?_)
    · have hw := hw.1 c_87
      refine v_iinc (v := 1) (ls' := [(4, .int (v4 + 1)), (7, .int x11), (6, .int x6), (5, .int x3), (0, .ref v0), (1, .int v1), (2, .int v2), (3, .int v3)]) C dX3_isOpen_92 7 rfl (by decide) (by decide) rfl ?_
      refine v_goto (tgt := 9) C dX3_isOpen_95 (by decide) ?_
      refine v_sub [4, 5, 6, 7, 0] rfl ?_
      exact hk _ _ hw
    · have hw := hw.2 c_87
      refine v_sub [] rfl ?_
      exact hx90  _ hw
set_option maxRecDepth 100000 in
set_option maxHeartbeats 4000000 in
theorem s_X3_isOpen {l : Launch}  {v0 : Nat} {v1 : Int32} {v2 : Int32} {h : AH} {Q : Int32 → AH → Prop}  (hw : w_X3_isOpen  v0 v1 v2 h Q) : CT l yX3_isOpen cX3_isOpen 8 (some .boolean) 2 0 0 [.ref v0, .int v1, .int v2] h (QI Q) := by
  refine CT.of (by decide) ⟨rfl, ⟨rfl, ⟨rfl, trivial⟩⟩⟩ (Nat.le_of_ble_eq_true rfl) ?_
  intro p e s m args below meth c g C hr hin
  refine v_eq (pc' := 0) (ls' := [(0, .ref v0), (1, .int v1), (2, .int v2)]) rfl rfl rfl rfl ?_
  refine v_iload_n C dX3_isOpen_0 1 rfl rfl ?_
  refine v_iload_n C dX3_isOpen_1 2 rfl rfl ?_
  refine w_callSi (st := []) C cl_X3_41 st_X3_far (s_X3_far hw) rfl dX3_isOpen_2 rfl (by decide) (by decide) (by decide) (by decide) (by decide) (fun x1 h hw => ?_)
  refine v_istore_n (ls' := [(3, .int x1), (0, .ref v0), (1, .int v1), (2, .int v2)]) C dX3_isOpen_5 rfl (by decide) rfl ?_
  refine v_iconst (v := 1) C dX3_isOpen_6 (by decide) ?_
  refine v_istore (ls' := [(4, .int (1 : Int32)), (3, .int x1), (0, .ref v0), (1, .int v1), (2, .int v2)]) C dX3_isOpen_7 (by decide) rfl ?_
  refine v_sub [2, 3, 4, 1, 0] rfl ?_
  refine lp_walk (P := fun (s' : Int32 × AH) => V p l e s m args below meth c g 2 0 0 8 0 0 (MQ below (QCx g (QI Q)) args s 0 0 (gA g)) 9 [(0, .ref v0), (1, .int v1), (2, .int v2), (3, .int x1), (4, .int (s'.1))] [] s'.2) (fun k2 hk2 s' hw => ?_) ((1 : Int32), h) hw
  exact s_X3_isOpen_9 C hr (fun  h hw => s_X3_isOpen_90 C hr   h hw) (fun  h hw => s_X3_isOpen_98 C hr   h hw) (fun y4 h hw => hk2 (y4, h) hw) _ _ hw
-- GrassField$Land.minutesOnFoot(II)I
theorem dX3_minutesOnFoot_0 : decode cX3_minutesOnFoot 0 = .ok (.iload_n 1, 1) := by decide +kernel
theorem dX3_minutesOnFoot_1 : decode cX3_minutesOnFoot 1 = .ok (.iload_n 2, 1) := by decide +kernel
theorem dX3_minutesOnFoot_2 : decode cX3_minutesOnFoot 2 = .ok (.invokestatic 41, 3) := by decide +kernel
theorem dX3_minutesOnFoot_5 : decode cX3_minutesOnFoot 5 = .ok (.aload_n 0, 1) := by decide +kernel
theorem dX3_minutesOnFoot_6 : decode cX3_minutesOnFoot 6 = .ok (.getfield 9, 3) := by decide +kernel
theorem dX3_minutesOnFoot_9 : decode cX3_minutesOnFoot 9 = .ok (.iload_n 2, 1) := by decide +kernel
theorem dX3_minutesOnFoot_10 : decode cX3_minutesOnFoot 10 = .ok (.iaload, 1) := by decide +kernel
theorem dX3_minutesOnFoot_11 : decode cX3_minutesOnFoot 11 = .ok (.aload_n 0, 1) := by decide +kernel
theorem dX3_minutesOnFoot_12 : decode cX3_minutesOnFoot 12 = .ok (.getfield 9, 3) := by decide +kernel
theorem dX3_minutesOnFoot_15 : decode cX3_minutesOnFoot 15 = .ok (.iload_n 1, 1) := by decide +kernel
theorem dX3_minutesOnFoot_16 : decode cX3_minutesOnFoot 16 = .ok (.iaload, 1) := by decide +kernel
theorem dX3_minutesOnFoot_17 : decode cX3_minutesOnFoot 17 = .ok (.if_icmp .le 7, 3) := by decide +kernel
theorem dX3_minutesOnFoot_20 : decode cX3_minutesOnFoot 20 = .ok (.iconst 1, 1) := by decide +kernel
theorem dX3_minutesOnFoot_21 : decode cX3_minutesOnFoot 21 = .ok (.goto 4, 3) := by decide +kernel
theorem dX3_minutesOnFoot_24 : decode cX3_minutesOnFoot 24 = .ok (.iconst 0, 1) := by decide +kernel
theorem dX3_minutesOnFoot_25 : decode cX3_minutesOnFoot 25 = .ok (.iadd, 1) := by decide +kernel
theorem dX3_minutesOnFoot_26 : decode cX3_minutesOnFoot 26 = .ok (.ireturn, 1) := by decide +kernel
def w_X3_minutesOnFoot_25  (t0 : Int32) (t1 : Int32) (h : AH) (Q : Int32 → AH → Prop) : Prop :=
  Q (t0 + t1) h
def w_X3_minutesOnFoot  (v0 : Nat) (v1 : Int32) (v2 : Int32) (h : AH) (Q : Int32 → AH → Prop) : Prop :=
  w_X3_far v1 v2 h (fun x1 h =>
  fN h v0 3 0 fun a2 =>
  aI h a2 v2 fun x3 =>
  fN h v0 3 0 fun a4 =>
  aI h a4 v1 fun x5 =>
  br (x3 ≤ x5) (
    w_X3_minutesOnFoot_25 x1 (0 : Int32) h Q) (
    w_X3_minutesOnFoot_25 x1 (1 : Int32) h Q))
set_option maxRecDepth 100000 in
set_option maxHeartbeats 4000000 in
theorem s_X3_minutesOnFoot_25 {p : Program} {l : Launch} {e : Env} {s : State} {m : MethodId} {args : Array Value} {below : List Frame} {meth : Method} {c : Code} {g : GG}  {Q : Int32 → AH → Prop}  (C : CXT p l s m args meth c RX3 cX3_minutesOnFoot 3 g) (hr : meth.sig.returnType = (some .int))  : ∀ (t0 : Int32) (t1 : Int32) (h : AH), w_X3_minutesOnFoot_25  t0 t1 h Q → V p l e s m args below meth c g 2 0 0 3 0 0 (MQ below (QCx g (QI Q)) args s 0 0 (gA g)) 25 [] [.int t1, .int t0] h := by
  intro t0 t1 h hw
  refine v_iadd C dX3_minutesOnFoot_25 ?_
  exact (rt_MQ C _).1 _ _ _ _ _ _ hr dX3_minutesOnFoot_26 (by decide) (by decide) ⟨_, rfl, hw⟩
set_option maxRecDepth 100000 in
set_option maxHeartbeats 4000000 in
theorem s_X3_minutesOnFoot {l : Launch}  {v0 : Nat} {v1 : Int32} {v2 : Int32} {h : AH} {Q : Int32 → AH → Prop}  (hw : w_X3_minutesOnFoot  v0 v1 v2 h Q) : CT l yX3_minutesOnFoot cX3_minutesOnFoot 3 (some .int) 2 0 0 [.ref v0, .int v1, .int v2] h (QI Q) := by
  refine CT.of (by decide) ⟨rfl, ⟨rfl, ⟨rfl, trivial⟩⟩⟩ (Nat.le_of_ble_eq_true rfl) ?_
  intro p e s m args below meth c g C hr hin
  refine v_eq (pc' := 0) (ls' := [(0, .ref v0), (1, .int v1), (2, .int v2)]) rfl rfl rfl rfl ?_
  refine v_iload_n C dX3_minutesOnFoot_0 1 rfl rfl ?_
  refine v_iload_n C dX3_minutesOnFoot_1 2 rfl rfl ?_
  refine w_callSi (st := []) C cl_X3_41 st_X3_far (s_X3_far hw) rfl dX3_minutesOnFoot_2 rfl (by decide) (by decide) (by decide) (by decide) (by decide) (fun x1 h hw => ?_)
  refine v_aload_n C dX3_minutesOnFoot_5 0 rfl rfl ?_
  refine w_getN C fl_X3_9 dX3_minutesOnFoot_6 rfl hw (fun a2 hw => ?_)
  refine v_iload_n C dX3_minutesOnFoot_9 2 rfl rfl ?_
  refine w_iaload C dX3_minutesOnFoot_10 hw (fun x3 hw => ?_)
  refine v_aload_n C dX3_minutesOnFoot_11 0 rfl rfl ?_
  refine w_getN C fl_X3_9 dX3_minutesOnFoot_12 rfl hw (fun a4 hw => ?_)
  refine v_iload_n C dX3_minutesOnFoot_15 1 rfl rfl ?_
  refine w_iaload C dX3_minutesOnFoot_16 hw (fun x5 hw => ?_)
  refine v_icmp_le (tgt := 24) C dX3_minutesOnFoot_17 (by decide) (fun c_17 => ?_) (fun c_17 => ?_)
  · have hw := hw.1 c_17
    refine v_iconst (v := 0) C dX3_minutesOnFoot_24 (by decide) ?_
    refine v_sub [] rfl ?_
    exact s_X3_minutesOnFoot_25 C hr  _ _ _ hw
  · have hw := hw.2 c_17
    refine v_iconst (v := 1) C dX3_minutesOnFoot_20 (by decide) ?_
    refine v_goto (tgt := 25) C dX3_minutesOnFoot_21 (by decide) ?_
    refine v_sub [] rfl ?_
    exact s_X3_minutesOnFoot_25 C hr  _ _ _ hw
-- GrassField$Land.raise(III)V
theorem dX3_raise_0 : decode cX3_raise 0 = .ok (.iconst 0, 1) := by decide +kernel
theorem dX3_raise_1 : decode cX3_raise 1 = .ok (.istore 4, 2) := by decide +kernel
theorem dX3_raise_3 : decode cX3_raise 3 = .ok (.iload 4, 2) := by decide +kernel
theorem dX3_raise_5 : decode cX3_raise 5 = .ok (.sipush 256, 3) := by decide +kernel
theorem dX3_raise_8 : decode cX3_raise 8 = .ok (.if_icmp .ge 27, 3) := by decide +kernel
theorem dX3_raise_11 : decode cX3_raise 11 = .ok (.iload 4, 2) := by decide +kernel
theorem dX3_raise_13 : decode cX3_raise 13 = .ok (.iload_n 1, 1) := by decide +kernel
theorem dX3_raise_14 : decode cX3_raise 14 = .ok (.iload_n 2, 1) := by decide +kernel
theorem dX3_raise_15 : decode cX3_raise 15 = .ok (.invokestatic 38, 3) := by decide +kernel
theorem dX3_raise_18 : decode cX3_raise 18 = .ok (.ifCond .eq 11, 3) := by decide +kernel
theorem dX3_raise_21 : decode cX3_raise 21 = .ok (.aload_n 0, 1) := by decide +kernel
theorem dX3_raise_22 : decode cX3_raise 22 = .ok (.getfield 9, 3) := by decide +kernel
theorem dX3_raise_25 : decode cX3_raise 25 = .ok (.iload 4, 2) := by decide +kernel
theorem dX3_raise_27 : decode cX3_raise 27 = .ok (.iload_n 3, 1) := by decide +kernel
theorem dX3_raise_28 : decode cX3_raise 28 = .ok (.iastore, 1) := by decide +kernel
theorem dX3_raise_29 : decode cX3_raise 29 = .ok (.iinc 4 1, 3) := by decide +kernel
theorem dX3_raise_32 : decode cX3_raise 32 = .ok (.goto (-29), 3) := by decide +kernel
theorem dX3_raise_35 : decode cX3_raise 35 = .ok (.return_, 1) := by decide +kernel
def w_X3_raise_35  (h : AH) (Q : AH → Prop) : Prop :=
  Q h
def w_X3_raise_29  (x35 : AH → Prop) (k : Int32 → AH → Prop) (v0 : Nat) (v1 : Int32) (v2 : Int32) (v3 : Int32) (v4 : Int32) (h : AH) (Q : AH → Prop) : Prop :=
  k (v4 + 1) h
def w_X3_raise_3  (x35 : AH → Prop) (k : Int32 → AH → Prop) (v0 : Nat) (v1 : Int32) (v2 : Int32) (v3 : Int32) (v4 : Int32) (h : AH) (Q : AH → Prop) : Prop :=
  br ((256 : Int32) ≤ v4) (
    x35  h) (
    w_X3_isInArea v4 v1 v2 h (fun x1 h =>
    br (x1 = 0) (
      w_X3_raise_29 x35 k v0 v1 v2 v3 v4 h Q) (
      fN h v0 3 0 fun a2 =>
      tI h a2 v4 v3 fun h =>
      w_X3_raise_29 x35 k v0 v1 v2 v3 v4 h Q)))
def w_X3_raise  (v0 : Nat) (v1 : Int32) (v2 : Int32) (v3 : Int32) (h : AH) (Q : AH → Prop) : Prop :=
  lp (fun (k2 : Int32 × AH → Prop) (s2 : Int32 × AH) => w_X3_raise_3  (fun  h => w_X3_raise_35  h Q) (fun (y4 : Int32) h => k2 (y4, h)) v0 v1 v2 v3 s2.1 s2.2 Q) ((0 : Int32), h)
set_option maxRecDepth 100000 in
set_option maxHeartbeats 4000000 in
theorem s_X3_raise_35 {p : Program} {l : Launch} {e : Env} {s : State} {m : MethodId} {args : Array Value} {below : List Frame} {meth : Method} {c : Code} {g : GG}  {Q : AH → Prop}  (C : CXT p l s m args meth c RX3 cX3_raise 5 g) (hr : meth.sig.returnType = none)  : ∀  (h : AH), w_X3_raise_35  h Q → V p l e s m args below meth c g 3 0 0 5 0 0 (MQ below (QCx g (QV Q)) args s 0 0 (gA g)) 35 [] [] h := by
  intro  h hw
  exact (rt_MQ C _).2.2.1 _ _ _ _ _ hr dX3_raise_35 (by decide) (by decide) ⟨rfl, hw⟩
set_option maxRecDepth 100000 in
set_option maxHeartbeats 4000000 in
theorem s_X3_raise_29 {p : Program} {l : Launch} {e : Env} {s : State} {m : MethodId} {args : Array Value} {below : List Frame} {meth : Method} {c : Code} {g : GG} {v0 : Nat} {v1 : Int32} {v2 : Int32} {v3 : Int32} {Q : AH → Prop} {x35 : AH → Prop} {k : Int32 → AH → Prop} (C : CXT p l s m args meth c RX3 cX3_raise 5 g) (hr : meth.sig.returnType = none) (hx35 : ∀  (h : AH), x35  h → V p l e s m args below meth c g 3 0 0 5 0 0 (MQ below (QCx g (QV Q)) args s 0 0 (gA g)) 35 [] [] h) (hk : ∀ (y4 : Int32) (h : AH), k y4 h → V p l e s m args below meth c g 3 0 0 5 0 0 (MQ below (QCx g (QV Q)) args s 0 0 (gA g)) 3 [(0, .ref v0), (1, .int v1), (2, .int v2), (3, .int v3), (4, .int y4)] [] h) : ∀ (v4 : Int32) (h : AH), w_X3_raise_29  x35 k v0 v1 v2 v3 v4 h Q → V p l e s m args below meth c g 3 0 0 5 0 0 (MQ below (QCx g (QV Q)) args s 0 0 (gA g)) 29 [(0, .ref v0), (1, .int v1), (2, .int v2), (3, .int v3), (4, .int v4)] [] h := by
  intro v4 h hw
  refine v_iinc (v := 1) (ls' := [(4, .int (v4 + 1)), (0, .ref v0), (1, .int v1), (2, .int v2), (3, .int v3)]) C dX3_raise_29 4 rfl (by decide) (by decide) rfl ?_
  refine v_goto (tgt := 3) C dX3_raise_32 (by decide) ?_
  refine v_sub [1, 2, 3, 4, 0] rfl ?_
  exact hk _ _ hw
set_option maxRecDepth 100000 in
set_option maxHeartbeats 4000000 in
theorem s_X3_raise_3 {p : Program} {l : Launch} {e : Env} {s : State} {m : MethodId} {args : Array Value} {below : List Frame} {meth : Method} {c : Code} {g : GG} {v0 : Nat} {v1 : Int32} {v2 : Int32} {v3 : Int32} {Q : AH → Prop} {x35 : AH → Prop} {k : Int32 → AH → Prop} (C : CXT p l s m args meth c RX3 cX3_raise 5 g) (hr : meth.sig.returnType = none) (hx35 : ∀  (h : AH), x35  h → V p l e s m args below meth c g 3 0 0 5 0 0 (MQ below (QCx g (QV Q)) args s 0 0 (gA g)) 35 [] [] h) (hk : ∀ (y4 : Int32) (h : AH), k y4 h → V p l e s m args below meth c g 3 0 0 5 0 0 (MQ below (QCx g (QV Q)) args s 0 0 (gA g)) 3 [(0, .ref v0), (1, .int v1), (2, .int v2), (3, .int v3), (4, .int y4)] [] h) : ∀ (v4 : Int32) (h : AH), w_X3_raise_3  x35 k v0 v1 v2 v3 v4 h Q → V p l e s m args below meth c g 3 0 0 5 0 0 (MQ below (QCx g (QV Q)) args s 0 0 (gA g)) 3 [(0, .ref v0), (1, .int v1), (2, .int v2), (3, .int v3), (4, .int v4)] [] h := by
  intro v4 h hw
  refine v_iload C dX3_raise_3 4 rfl ?_
  refine v_sipush (v := 256) C dX3_raise_5 (by decide) ?_
  refine v_icmp_ge (tgt := 35) C dX3_raise_8 (by decide) (fun c_8 => ?_) (fun c_8 => ?_)
  · have hw := hw.1 c_8
    refine v_sub [] rfl ?_
    exact hx35  _ hw
  · have hw := hw.2 c_8
    refine v_iload C dX3_raise_11 4 rfl ?_
    refine v_iload_n C dX3_raise_13 1 rfl rfl ?_
    refine v_iload_n C dX3_raise_14 2 rfl rfl ?_
    refine w_callSi (st := []) C cl_X3_38 st_X3_isInArea (s_X3_isInArea hw) rfl dX3_raise_15 rfl (by decide) (by decide) (by decide) (by decide) (by decide) (fun x1 h hw => ?_)
    refine v_if_eq (tgt := 29) C dX3_raise_18 (by decide) (fun c_18 => ?_) (fun c_18 => ?_)
    · have hw := hw.1 c_18
      exact s_X3_raise_29 C hr hx35 hk _ _ hw
    · have hw := hw.2 c_18
      refine v_aload_n C dX3_raise_21 0 rfl rfl ?_
      refine w_getN C fl_X3_9 dX3_raise_22 rfl hw (fun a2 hw => ?_)
      refine v_iload C dX3_raise_25 4 rfl ?_
      refine v_iload_n C dX3_raise_27 3 rfl rfl ?_
      refine w_iastore C dX3_raise_28 hw (fun h hw => ?_)
      exact s_X3_raise_29 C hr hx35 hk _ _ hw
set_option maxRecDepth 100000 in
set_option maxHeartbeats 4000000 in
theorem s_X3_raise {l : Launch}  {v0 : Nat} {v1 : Int32} {v2 : Int32} {v3 : Int32} {h : AH} {Q : AH → Prop}  (hw : w_X3_raise  v0 v1 v2 v3 h Q) : CT l yX3_raise cX3_raise 5 none 3 0 0 [.ref v0, .int v1, .int v2, .int v3] h (QV Q) := by
  refine CT.of (by decide) ⟨rfl, ⟨rfl, ⟨rfl, ⟨rfl, trivial⟩⟩⟩⟩ (Nat.le_of_ble_eq_true rfl) ?_
  intro p e s m args below meth c g C hr hin
  refine v_eq (pc' := 0) (ls' := [(0, .ref v0), (1, .int v1), (2, .int v2), (3, .int v3)]) rfl rfl rfl rfl ?_
  refine v_iconst (v := 0) C dX3_raise_0 (by decide) ?_
  refine v_istore (ls' := [(4, .int (0 : Int32)), (0, .ref v0), (1, .int v1), (2, .int v2), (3, .int v3)]) C dX3_raise_1 (by decide) rfl ?_
  refine v_sub [1, 2, 3, 4, 0] rfl ?_
  refine lp_walk (P := fun (s' : Int32 × AH) => V p l e s m args below meth c g 3 0 0 5 0 0 (MQ below (QCx g (QV Q)) args s 0 0 (gA g)) 3 [(0, .ref v0), (1, .int v1), (2, .int v2), (3, .int v3), (4, .int (s'.1))] [] s'.2) (fun k2 hk2 s' hw => ?_) ((0 : Int32), h) hw
  exact s_X3_raise_3 C hr (fun  h hw => s_X3_raise_35 C hr   h hw) (fun y4 h hw => hk2 (y4, h) hw) _ _ hw
