theorem iw_X2 : ∀ w ∈ u_ws RX2 TX2 5, w ∈ lw_tbl := (show ∀ w ∈ ([Cond.lays "GrassField$Guns" "GrassField$Guns" "size" "I", Cond.laysFinal "GrassField$Guns" "GrassField$Guns" "side" "[I", Cond.laysFinal "GrassField$Guns" "GrassField$Guns" "mark" "[I", Cond.laysFinal "GrassField$Guns" "GrassField$Guns" "year" "[I", Cond.laysFinal "GrassField$Guns" "GrassField$Guns" "rounds" "[I"] : List Cond), w ∈ lw_tbl from List.forall_mem_cons.mpr ⟨(tb1 (List.mem_of_getElem? (i := 113) rfl)), List.forall_mem_cons.mpr ⟨(tb1 (List.mem_of_getElem? (i := 115) rfl)), List.forall_mem_cons.mpr ⟨(tb1 (List.mem_of_getElem? (i := 117) rfl)), List.forall_mem_cons.mpr ⟨(tb1 (List.mem_of_getElem? (i := 119) rfl)), List.forall_mem_cons.mpr ⟨(tb1 (List.mem_of_getElem? (i := 121) rfl)), fun _ h => nomatch h⟩⟩⟩⟩⟩)
theorem fl_X2_9 : FLk RX2 9 2 1 (RX2, TX2, 5) := ⟨rfl, by decide, iw_X2, Or.inl (tb1 (List.mem_of_getElem? (i := 105) rfl))⟩
theorem fp_X2_9 : FPk RX2 9 2 1 (RX2, TX2, 5) tyX2 2 := ⟨fl_X2_9, nmX2, tyX2_ok, Or.inr (Or.inr ⟨rfl, Or.inr ⟨_, rfl⟩, rfl⟩)⟩
theorem fl_X2_15 : FLk RX2 15 2 2 (RX2, TX2, 5) := ⟨rfl, by decide, iw_X2, Or.inl (tb1 (List.mem_of_getElem? (i := 108) rfl))⟩
theorem fp_X2_15 : FPk RX2 15 2 2 (RX2, TX2, 5) tyX2 2 := ⟨fl_X2_15, nmX2, tyX2_ok, Or.inr (Or.inr ⟨rfl, Or.inr ⟨_, rfl⟩, rfl⟩)⟩
theorem fl_X2_18 : FLk RX2 18 2 3 (RX2, TX2, 5) := ⟨rfl, by decide, iw_X2, Or.inl (tb1 (List.mem_of_getElem? (i := 110) rfl))⟩
theorem fp_X2_18 : FPk RX2 18 2 3 (RX2, TX2, 5) tyX2 2 := ⟨fl_X2_18, nmX2, tyX2_ok, Or.inr (Or.inr ⟨rfl, Or.inr ⟨_, rfl⟩, rfl⟩)⟩
theorem fl_X2_21 : FLk RX2 21 2 4 (RX2, TX2, 5) := ⟨rfl, by decide, iw_X2, Or.inl (tb1 (List.mem_of_getElem? (i := 111) rfl))⟩
theorem fp_X2_21 : FPk RX2 21 2 4 (RX2, TX2, 5) tyX2 2 := ⟨fl_X2_21, nmX2, tyX2_ok, Or.inr (Or.inr ⟨rfl, Or.inr ⟨_, rfl⟩, rfl⟩)⟩
theorem fl_X2_24 : FLk RX2 24 2 0 (RX2, TX2, 5) := ⟨rfl, by decide, iw_X2, Or.inl (tb1 (List.mem_of_getElem? (i := 102) rfl))⟩
theorem fp_X2_24 : FPk RX2 24 2 0 (RX2, TX2, 5) tyX2 0 := ⟨fl_X2_24, nmX2, tyX2_ok, Or.inl ⟨rfl, rfl, rfl⟩⟩
theorem ac_X2_28 : Cond.methodLink RX2 28 arraycopyName ∈ lw_tbl := (tb3 (List.mem_of_getElem? (i := 49) rfl))
-- GrassField$Guns.<init>()V
theorem dX2_init_0 : decode cX2_init 0 = .ok (.aload_n 0, 1) := by decide +kernel
theorem dX2_init_1 : decode cX2_init 1 = .ok (.invokespecial 3, 3) := by decide +kernel
theorem dX2_init_4 : decode cX2_init 4 = .ok (.aload_n 0, 1) := by decide +kernel
theorem dX2_init_5 : decode cX2_init 5 = .ok (.bipush 8, 2) := by decide +kernel
theorem dX2_init_7 : decode cX2_init 7 = .ok (.newarray .int, 2) := by decide +kernel
theorem dX2_init_9 : decode cX2_init 9 = .ok (.putfield 9, 3) := by decide +kernel
theorem dX2_init_12 : decode cX2_init 12 = .ok (.aload_n 0, 1) := by decide +kernel
theorem dX2_init_13 : decode cX2_init 13 = .ok (.bipush 8, 2) := by decide +kernel
theorem dX2_init_15 : decode cX2_init 15 = .ok (.newarray .int, 2) := by decide +kernel
theorem dX2_init_17 : decode cX2_init 17 = .ok (.putfield 15, 3) := by decide +kernel
theorem dX2_init_20 : decode cX2_init 20 = .ok (.aload_n 0, 1) := by decide +kernel
theorem dX2_init_21 : decode cX2_init 21 = .ok (.bipush 8, 2) := by decide +kernel
theorem dX2_init_23 : decode cX2_init 23 = .ok (.newarray .int, 2) := by decide +kernel
theorem dX2_init_25 : decode cX2_init 25 = .ok (.putfield 18, 3) := by decide +kernel
theorem dX2_init_28 : decode cX2_init 28 = .ok (.aload_n 0, 1) := by decide +kernel
theorem dX2_init_29 : decode cX2_init 29 = .ok (.bipush 8, 2) := by decide +kernel
theorem dX2_init_31 : decode cX2_init 31 = .ok (.newarray .int, 2) := by decide +kernel
theorem dX2_init_33 : decode cX2_init 33 = .ok (.putfield 21, 3) := by decide +kernel
theorem dX2_init_36 : decode cX2_init 36 = .ok (.return_, 1) := by decide +kernel
def w_X2_init  (v0 : Nat) (h : AH) (Q : AH → Prop) : Prop :=
  wA h 0 8 fun a1 h =>
  uO h v0 2 1 (some a1) fun h =>
  wA h 0 8 fun a2 h =>
  uO h v0 2 2 (some a2) fun h =>
  wA h 0 8 fun a3 h =>
  uO h v0 2 3 (some a3) fun h =>
  wA h 0 8 fun a4 h =>
  uO h v0 2 4 (some a4) fun h =>
  Q h
set_option maxRecDepth 100000 in
set_option maxHeartbeats 4000000 in
theorem s_X2_init {l : Launch}  {v0 : Nat} {h : AH} {Q : AH → Prop}  (hw : w_X2_init  v0 h Q) : CT l yX2_init cX2_init 1 none 1 4 32 [.ref v0] h (QV Q) := by
  refine CT.of (by decide) ⟨rfl, trivial⟩ (Nat.le_of_ble_eq_true rfl) ?_
  intro p e s m args below meth c g C hr hin
  refine v_eq (pc' := 0) (ls' := [(0, .ref v0)]) rfl rfl rfl rfl ?_
  refine v_aload_n C dX2_init_0 0 rfl rfl ?_
  refine v_objInit C (tb1 (List.mem_of_getElem? (i := 101) rfl)) (tb1 (List.mem_of_getElem? (i := 36) rfl)) (tb1 (List.mem_of_getElem? (i := 37) rfl)) dX2_init_1 (by decide) (by decide) ?_
  refine v_aload_n C dX2_init_4 0 rfl rfl ?_
  refine v_bipush (v := 8) C dX2_init_5 (by decide) ?_
  refine v_newa (atype := .int) (j := 0) (N := 8) C rfl rfl (by decide) rfl rfl (tb1 (List.mem_of_getElem? (i := 77) rfl)) dX2_init_7 (by decide) (by decide) (by decide) (by decide) (by decide) (fun a1 hn => ?_)
  have hw := hw a1 hn
  generalize nA h a1 0 8 = h at hw ⊢
  refine w_putN C fp_X2_9 (Or.inr ⟨hin, rfl, rfl, (tb1 (List.mem_of_getElem? (i := 105) rfl))⟩) dX2_init_9 hw (fun h hw => ?_)
  refine v_aload_n C dX2_init_12 0 rfl rfl ?_
  refine v_bipush (v := 8) C dX2_init_13 (by decide) ?_
  refine v_newa (atype := .int) (j := 0) (N := 8) C rfl rfl (by decide) rfl rfl (tb1 (List.mem_of_getElem? (i := 77) rfl)) dX2_init_15 (by decide) (by decide) (by decide) (by decide) (by decide) (fun a2 hn => ?_)
  have hw := hw a2 hn
  generalize nA h a2 0 8 = h at hw ⊢
  refine w_putN C fp_X2_15 (Or.inr ⟨hin, rfl, rfl, (tb1 (List.mem_of_getElem? (i := 108) rfl))⟩) dX2_init_17 hw (fun h hw => ?_)
  refine v_aload_n C dX2_init_20 0 rfl rfl ?_
  refine v_bipush (v := 8) C dX2_init_21 (by decide) ?_
  refine v_newa (atype := .int) (j := 0) (N := 8) C rfl rfl (by decide) rfl rfl (tb1 (List.mem_of_getElem? (i := 77) rfl)) dX2_init_23 (by decide) (by decide) (by decide) (by decide) (by decide) (fun a3 hn => ?_)
  have hw := hw a3 hn
  generalize nA h a3 0 8 = h at hw ⊢
  refine w_putN C fp_X2_18 (Or.inr ⟨hin, rfl, rfl, (tb1 (List.mem_of_getElem? (i := 110) rfl))⟩) dX2_init_25 hw (fun h hw => ?_)
  refine v_aload_n C dX2_init_28 0 rfl rfl ?_
  refine v_bipush (v := 8) C dX2_init_29 (by decide) ?_
  refine v_newa (atype := .int) (j := 0) (N := 8) C rfl rfl (by decide) rfl rfl (tb1 (List.mem_of_getElem? (i := 77) rfl)) dX2_init_31 (by decide) (by decide) (by decide) (by decide) (by decide) (fun a4 hn => ?_)
  have hw := hw a4 hn
  generalize nA h a4 0 8 = h at hw ⊢
  refine w_putN C fp_X2_21 (Or.inr ⟨hin, rfl, rfl, (tb1 (List.mem_of_getElem? (i := 111) rfl))⟩) dX2_init_33 hw (fun h hw => ?_)
  exact (rt_MQ C _).2.2.1 _ _ _ _ _ hr dX2_init_36 (by decide) (by decide) ⟨rfl, hw⟩
-- GrassField$Guns.add(IIII)I
theorem dX2_add_0 : decode cX2_add 0 = .ok (.aload_n 0, 1) := by decide +kernel
theorem dX2_add_1 : decode cX2_add 1 = .ok (.getfield 9, 3) := by decide +kernel
theorem dX2_add_4 : decode cX2_add 4 = .ok (.aload_n 0, 1) := by decide +kernel
theorem dX2_add_5 : decode cX2_add 5 = .ok (.getfield 24, 3) := by decide +kernel
theorem dX2_add_8 : decode cX2_add 8 = .ok (.iload_n 1, 1) := by decide +kernel
theorem dX2_add_9 : decode cX2_add 9 = .ok (.iastore, 1) := by decide +kernel
theorem dX2_add_10 : decode cX2_add 10 = .ok (.aload_n 0, 1) := by decide +kernel
theorem dX2_add_11 : decode cX2_add 11 = .ok (.getfield 15, 3) := by decide +kernel
theorem dX2_add_14 : decode cX2_add 14 = .ok (.aload_n 0, 1) := by decide +kernel
theorem dX2_add_15 : decode cX2_add 15 = .ok (.getfield 24, 3) := by decide +kernel
theorem dX2_add_18 : decode cX2_add 18 = .ok (.iload_n 2, 1) := by decide +kernel
theorem dX2_add_19 : decode cX2_add 19 = .ok (.iastore, 1) := by decide +kernel
theorem dX2_add_20 : decode cX2_add 20 = .ok (.aload_n 0, 1) := by decide +kernel
theorem dX2_add_21 : decode cX2_add 21 = .ok (.getfield 18, 3) := by decide +kernel
theorem dX2_add_24 : decode cX2_add 24 = .ok (.aload_n 0, 1) := by decide +kernel
theorem dX2_add_25 : decode cX2_add 25 = .ok (.getfield 24, 3) := by decide +kernel
theorem dX2_add_28 : decode cX2_add 28 = .ok (.iload_n 3, 1) := by decide +kernel
theorem dX2_add_29 : decode cX2_add 29 = .ok (.iastore, 1) := by decide +kernel
theorem dX2_add_30 : decode cX2_add 30 = .ok (.aload_n 0, 1) := by decide +kernel
theorem dX2_add_31 : decode cX2_add 31 = .ok (.getfield 21, 3) := by decide +kernel
theorem dX2_add_34 : decode cX2_add 34 = .ok (.aload_n 0, 1) := by decide +kernel
theorem dX2_add_35 : decode cX2_add 35 = .ok (.getfield 24, 3) := by decide +kernel
theorem dX2_add_38 : decode cX2_add 38 = .ok (.iload 4, 2) := by decide +kernel
theorem dX2_add_40 : decode cX2_add 40 = .ok (.iastore, 1) := by decide +kernel
theorem dX2_add_41 : decode cX2_add 41 = .ok (.aload_n 0, 1) := by decide +kernel
theorem dX2_add_42 : decode cX2_add 42 = .ok (.dup, 1) := by decide +kernel
theorem dX2_add_43 : decode cX2_add 43 = .ok (.getfield 24, 3) := by decide +kernel
theorem dX2_add_46 : decode cX2_add 46 = .ok (.iconst 1, 1) := by decide +kernel
theorem dX2_add_47 : decode cX2_add 47 = .ok (.iadd, 1) := by decide +kernel
theorem dX2_add_48 : decode cX2_add 48 = .ok (.putfield 24, 3) := by decide +kernel
theorem dX2_add_51 : decode cX2_add 51 = .ok (.aload_n 0, 1) := by decide +kernel
theorem dX2_add_52 : decode cX2_add 52 = .ok (.getfield 24, 3) := by decide +kernel
theorem dX2_add_55 : decode cX2_add 55 = .ok (.iconst 1, 1) := by decide +kernel
theorem dX2_add_56 : decode cX2_add 56 = .ok (.isub, 1) := by decide +kernel
theorem dX2_add_57 : decode cX2_add 57 = .ok (.ireturn, 1) := by decide +kernel
def w_X2_add  (v0 : Nat) (v1 : Int32) (v2 : Int32) (v3 : Int32) (v4 : Int32) (h : AH) (Q : Int32 → AH → Prop) : Prop :=
  fN h v0 2 1 fun a1 =>
  fI h v0 2 0 fun x2 =>
  tI h a1 x2 v1 fun h =>
  fN h v0 2 2 fun a3 =>
  fI h v0 2 0 fun x4 =>
  tI h a3 x4 v2 fun h =>
  fN h v0 2 3 fun a5 =>
  fI h v0 2 0 fun x6 =>
  tI h a5 x6 v3 fun h =>
  fN h v0 2 4 fun a7 =>
  fI h v0 2 0 fun x8 =>
  tI h a7 x8 v4 fun h =>
  fI h v0 2 0 fun x9 =>
  uI h v0 2 0 (x9 + (1 : Int32)) fun h =>
  fI h v0 2 0 fun x10 =>
  Q (x10 - (1 : Int32)) h
set_option maxRecDepth 100000 in
set_option maxHeartbeats 4000000 in
theorem s_X2_add {l : Launch}  {v0 : Nat} {v1 : Int32} {v2 : Int32} {v3 : Int32} {v4 : Int32} {h : AH} {Q : Int32 → AH → Prop}  (hw : w_X2_add  v0 v1 v2 v3 v4 h Q) : CT l yX2_add cX2_add 5 (some .int) 0 0 0 [.ref v0, .int v1, .int v2, .int v3, .int v4] h (QI Q) := by
  refine CT.of (by decide) ⟨rfl, ⟨rfl, ⟨rfl, ⟨rfl, ⟨rfl, trivial⟩⟩⟩⟩⟩ (Nat.le_of_ble_eq_true rfl) ?_
  intro p e s m args below meth c g C hr hin
  refine v_eq (pc' := 0) (ls' := [(0, .ref v0), (1, .int v1), (2, .int v2), (3, .int v3), (4, .int v4)]) rfl rfl rfl rfl ?_
  refine v_aload_n C dX2_add_0 0 rfl rfl ?_
  refine w_getN C fl_X2_9 dX2_add_1 rfl hw (fun a1 hw => ?_)
  refine v_aload_n C dX2_add_4 0 rfl rfl ?_
  refine w_getI C fl_X2_24 dX2_add_5 rfl hw (fun x2 hw => ?_)
  refine v_iload_n C dX2_add_8 1 rfl rfl ?_
  refine w_iastore C dX2_add_9 hw (fun h hw => ?_)
  refine v_aload_n C dX2_add_10 0 rfl rfl ?_
  refine w_getN C fl_X2_15 dX2_add_11 rfl hw (fun a3 hw => ?_)
  refine v_aload_n C dX2_add_14 0 rfl rfl ?_
  refine w_getI C fl_X2_24 dX2_add_15 rfl hw (fun x4 hw => ?_)
  refine v_iload_n C dX2_add_18 2 rfl rfl ?_
  refine w_iastore C dX2_add_19 hw (fun h hw => ?_)
  refine v_aload_n C dX2_add_20 0 rfl rfl ?_
  refine w_getN C fl_X2_18 dX2_add_21 rfl hw (fun a5 hw => ?_)
  refine v_aload_n C dX2_add_24 0 rfl rfl ?_
  refine w_getI C fl_X2_24 dX2_add_25 rfl hw (fun x6 hw => ?_)
  refine v_iload_n C dX2_add_28 3 rfl rfl ?_
  refine w_iastore C dX2_add_29 hw (fun h hw => ?_)
  refine v_aload_n C dX2_add_30 0 rfl rfl ?_
  refine w_getN C fl_X2_21 dX2_add_31 rfl hw (fun a7 hw => ?_)
  refine v_aload_n C dX2_add_34 0 rfl rfl ?_
  refine w_getI C fl_X2_24 dX2_add_35 rfl hw (fun x8 hw => ?_)
  refine v_iload C dX2_add_38 4 rfl ?_
  refine w_iastore C dX2_add_40 hw (fun h hw => ?_)
  refine v_aload_n C dX2_add_41 0 rfl rfl ?_
  refine v_dup C dX2_add_42 rfl ?_
  refine w_getI C fl_X2_24 dX2_add_43 rfl hw (fun x9 hw => ?_)
  refine v_iconst (v := 1) C dX2_add_46 (by decide) ?_
  refine v_iadd C dX2_add_47 ?_
  refine w_putI C fp_X2_24 (Or.inl rfl) dX2_add_48 hw (fun h hw => ?_)
  refine v_aload_n C dX2_add_51 0 rfl rfl ?_
  refine w_getI C fl_X2_24 dX2_add_52 rfl hw (fun x10 hw => ?_)
  refine v_iconst (v := 1) C dX2_add_55 (by decide) ?_
  refine v_isub C dX2_add_56 ?_
  exact (rt_MQ C _).1 _ _ _ _ _ _ hr dX2_add_57 (by decide) (by decide) ⟨_, rfl, hw⟩
-- GrassField$Guns.allRounds()I
theorem dX2_allRounds_0 : decode cX2_allRounds 0 = .ok (.iconst 0, 1) := by decide +kernel
theorem dX2_allRounds_1 : decode cX2_allRounds 1 = .ok (.istore_n 1, 1) := by decide +kernel
theorem dX2_allRounds_2 : decode cX2_allRounds 2 = .ok (.iconst 0, 1) := by decide +kernel
theorem dX2_allRounds_3 : decode cX2_allRounds 3 = .ok (.istore_n 2, 1) := by decide +kernel
theorem dX2_allRounds_4 : decode cX2_allRounds 4 = .ok (.iload_n 2, 1) := by decide +kernel
theorem dX2_allRounds_5 : decode cX2_allRounds 5 = .ok (.aload_n 0, 1) := by decide +kernel
theorem dX2_allRounds_6 : decode cX2_allRounds 6 = .ok (.getfield 24, 3) := by decide +kernel
theorem dX2_allRounds_9 : decode cX2_allRounds 9 = .ok (.if_icmp .ge 18, 3) := by decide +kernel
theorem dX2_allRounds_12 : decode cX2_allRounds 12 = .ok (.iload_n 1, 1) := by decide +kernel
theorem dX2_allRounds_13 : decode cX2_allRounds 13 = .ok (.aload_n 0, 1) := by decide +kernel
theorem dX2_allRounds_14 : decode cX2_allRounds 14 = .ok (.getfield 21, 3) := by decide +kernel
theorem dX2_allRounds_17 : decode cX2_allRounds 17 = .ok (.iload_n 2, 1) := by decide +kernel
theorem dX2_allRounds_18 : decode cX2_allRounds 18 = .ok (.iaload, 1) := by decide +kernel
theorem dX2_allRounds_19 : decode cX2_allRounds 19 = .ok (.iadd, 1) := by decide +kernel
theorem dX2_allRounds_20 : decode cX2_allRounds 20 = .ok (.istore_n 1, 1) := by decide +kernel
theorem dX2_allRounds_21 : decode cX2_allRounds 21 = .ok (.iinc 2 1, 3) := by decide +kernel
theorem dX2_allRounds_24 : decode cX2_allRounds 24 = .ok (.goto (-20), 3) := by decide +kernel
theorem dX2_allRounds_27 : decode cX2_allRounds 27 = .ok (.iload_n 1, 1) := by decide +kernel
theorem dX2_allRounds_28 : decode cX2_allRounds 28 = .ok (.ireturn, 1) := by decide +kernel
def w_X2_allRounds_27  (v1 : Int32) (h : AH) (Q : Int32 → AH → Prop) : Prop :=
  Q v1 h
def w_X2_allRounds_4  (x27 : Int32 → AH → Prop) (k : Int32 → Int32 → AH → Prop) (v0 : Nat) (v1 : Int32) (v2 : Int32) (h : AH) (Q : Int32 → AH → Prop) : Prop :=
  fI h v0 2 0 fun x1 =>
  br (x1 ≤ v2) (
    x27 v1 h) (
    fN h v0 2 4 fun a2 =>
    aI h a2 v2 fun x3 =>
    bd (v1 + x3) fun x4 =>
    k x4 (v2 + 1) h)
def w_X2_allRounds  (v0 : Nat) (h : AH) (Q : Int32 → AH → Prop) : Prop :=
  lp (fun (k2 : Int32 × Int32 × AH → Prop) (s2 : Int32 × Int32 × AH) => w_X2_allRounds_4  (fun (y1 : Int32) h => w_X2_allRounds_27 y1 h Q) (fun (y1 : Int32) (y2 : Int32) h => k2 (y1, y2, h)) v0 s2.1 s2.2.1 s2.2.2 Q) ((0 : Int32), (0 : Int32), h)
set_option maxRecDepth 100000 in
set_option maxHeartbeats 4000000 in
theorem s_X2_allRounds_27 {p : Program} {l : Launch} {e : Env} {s : State} {m : MethodId} {args : Array Value} {below : List Frame} {meth : Method} {c : Code} {g : GG}  {Q : Int32 → AH → Prop}  (C : CXT p l s m args meth c RX2 cX2_allRounds 3 g) (hr : meth.sig.returnType = (some .int))  : ∀ (v1 : Int32) (h : AH), w_X2_allRounds_27  v1 h Q → V p l e s m args below meth c g 0 0 0 3 0 0 (MQ below (QCx g (QI Q)) args s 0 0 (gA g)) 27 [(1, .int v1)] [] h := by
  intro v1 h hw
  refine v_iload_n C dX2_allRounds_27 0 rfl rfl ?_
  exact (rt_MQ C _).1 _ _ _ _ _ _ hr dX2_allRounds_28 (by decide) (by decide) ⟨_, rfl, hw⟩
set_option maxRecDepth 100000 in
set_option maxHeartbeats 4000000 in
theorem s_X2_allRounds_4 {p : Program} {l : Launch} {e : Env} {s : State} {m : MethodId} {args : Array Value} {below : List Frame} {meth : Method} {c : Code} {g : GG} {v0 : Nat} {Q : Int32 → AH → Prop} {x27 : Int32 → AH → Prop} {k : Int32 → Int32 → AH → Prop} (C : CXT p l s m args meth c RX2 cX2_allRounds 3 g) (hr : meth.sig.returnType = (some .int)) (hx27 : ∀ (y1 : Int32) (h : AH), x27 y1 h → V p l e s m args below meth c g 0 0 0 3 0 0 (MQ below (QCx g (QI Q)) args s 0 0 (gA g)) 27 [(1, .int y1)] [] h) (hk : ∀ (y1 : Int32) (y2 : Int32) (h : AH), k y1 y2 h → V p l e s m args below meth c g 0 0 0 3 0 0 (MQ below (QCx g (QI Q)) args s 0 0 (gA g)) 4 [(0, .ref v0), (1, .int y1), (2, .int y2)] [] h) : ∀ (v1 : Int32) (v2 : Int32) (h : AH), w_X2_allRounds_4  x27 k v0 v1 v2 h Q → V p l e s m args below meth c g 0 0 0 3 0 0 (MQ below (QCx g (QI Q)) args s 0 0 (gA g)) 4 [(0, .ref v0), (1, .int v1), (2, .int v2)] [] h := by
  intro v1 v2 h hw
  refine v_iload_n C dX2_allRounds_4 2 rfl rfl ?_
  refine v_aload_n C dX2_allRounds_5 0 rfl rfl ?_
  refine w_getI C fl_X2_24 dX2_allRounds_6 rfl hw (fun x1 hw => ?_)
  refine v_icmp_ge (tgt := 27) C dX2_allRounds_9 (by decide) (fun c_9 => ?_) (fun c_9 => ?_)
  · have hw := hw.1 c_9
    refine v_sub [1] rfl ?_
    exact hx27 _ _ hw
  · have hw := hw.2 c_9
    refine v_iload_n C dX2_allRounds_12 1 rfl rfl ?_
    refine v_aload_n C dX2_allRounds_13 0 rfl rfl ?_
    refine w_getN C fl_X2_21 dX2_allRounds_14 rfl hw (fun a2 hw => ?_)
    refine v_iload_n C dX2_allRounds_17 2 rfl rfl ?_
    refine w_iaload C dX2_allRounds_18 hw (fun x3 hw => ?_)
    refine v_iadd C dX2_allRounds_19 ?_
    refine w_bd hw (fun x4 hw => ?_)
    refine v_istore_n (ls' := [(1, .int x4), (0, .ref v0), (2, .int v2)]) C dX2_allRounds_20 rfl (by decide) rfl ?_
    refine v_iinc (v := 1) (ls' := [(2, .int (v2 + 1)), (1, .int x4), (0, .ref v0)]) C dX2_allRounds_21 2 rfl (by decide) (by decide) rfl ?_
    refine v_goto (tgt := 4) C dX2_allRounds_24 (by decide) ?_
    refine v_sub [2, 1, 0] rfl ?_
    exact hk _ _ _ hw
set_option maxRecDepth 100000 in
set_option maxHeartbeats 4000000 in
theorem s_X2_allRounds {l : Launch}  {v0 : Nat} {h : AH} {Q : Int32 → AH → Prop}  (hw : w_X2_allRounds  v0 h Q) : CT l yX2_allRounds cX2_allRounds 3 (some .int) 0 0 0 [.ref v0] h (QI Q) := by
  refine CT.of (by decide) ⟨rfl, trivial⟩ (Nat.le_of_ble_eq_true rfl) ?_
  intro p e s m args below meth c g C hr hin
  refine v_eq (pc' := 0) (ls' := [(0, .ref v0)]) rfl rfl rfl rfl ?_
  refine v_iconst (v := 0) C dX2_allRounds_0 (by decide) ?_
  refine v_istore_n (ls' := [(1, .int (0 : Int32)), (0, .ref v0)]) C dX2_allRounds_1 rfl (by decide) rfl ?_
  refine v_iconst (v := 0) C dX2_allRounds_2 (by decide) ?_
  refine v_istore_n (ls' := [(2, .int (0 : Int32)), (1, .int (0 : Int32)), (0, .ref v0)]) C dX2_allRounds_3 rfl (by decide) rfl ?_
  refine v_sub [2, 1, 0] rfl ?_
  refine lp_walk (P := fun (s' : Int32 × Int32 × AH) => V p l e s m args below meth c g 0 0 0 3 0 0 (MQ below (QCx g (QI Q)) args s 0 0 (gA g)) 4 [(0, .ref v0), (1, .int (s'.1)), (2, .int (s'.2.1))] [] s'.2.2) (fun k2 hk2 s' hw => ?_) ((0 : Int32), (0 : Int32), h) hw
  exact s_X2_allRounds_4 C hr (fun y1 h hw => s_X2_allRounds_27 C hr  _ h hw) (fun y1 y2 h hw => hk2 (y1, y2, h) hw) _ _ _ hw
-- GrassField$Guns.become(LGrassField$Guns;)V
theorem dX2_become_0 : decode cX2_become 0 = .ok (.aload_n 0, 1) := by decide +kernel
theorem dX2_become_1 : decode cX2_become 1 = .ok (.aload_n 1, 1) := by decide +kernel
theorem dX2_become_2 : decode cX2_become 2 = .ok (.getfield 24, 3) := by decide +kernel
theorem dX2_become_5 : decode cX2_become 5 = .ok (.putfield 24, 3) := by decide +kernel
theorem dX2_become_8 : decode cX2_become 8 = .ok (.aload_n 1, 1) := by decide +kernel
theorem dX2_become_9 : decode cX2_become 9 = .ok (.getfield 9, 3) := by decide +kernel
theorem dX2_become_12 : decode cX2_become 12 = .ok (.iconst 0, 1) := by decide +kernel
theorem dX2_become_13 : decode cX2_become 13 = .ok (.aload_n 0, 1) := by decide +kernel
theorem dX2_become_14 : decode cX2_become 14 = .ok (.getfield 9, 3) := by decide +kernel
theorem dX2_become_17 : decode cX2_become 17 = .ok (.iconst 0, 1) := by decide +kernel
theorem dX2_become_18 : decode cX2_become 18 = .ok (.bipush 8, 2) := by decide +kernel
theorem dX2_become_20 : decode cX2_become 20 = .ok (.invokestatic 28, 3) := by decide +kernel
theorem dX2_become_23 : decode cX2_become 23 = .ok (.aload_n 1, 1) := by decide +kernel
theorem dX2_become_24 : decode cX2_become 24 = .ok (.getfield 15, 3) := by decide +kernel
theorem dX2_become_27 : decode cX2_become 27 = .ok (.iconst 0, 1) := by decide +kernel
theorem dX2_become_28 : decode cX2_become 28 = .ok (.aload_n 0, 1) := by decide +kernel
theorem dX2_become_29 : decode cX2_become 29 = .ok (.getfield 15, 3) := by decide +kernel
theorem dX2_become_32 : decode cX2_become 32 = .ok (.iconst 0, 1) := by decide +kernel
theorem dX2_become_33 : decode cX2_become 33 = .ok (.bipush 8, 2) := by decide +kernel
theorem dX2_become_35 : decode cX2_become 35 = .ok (.invokestatic 28, 3) := by decide +kernel
theorem dX2_become_38 : decode cX2_become 38 = .ok (.aload_n 1, 1) := by decide +kernel
theorem dX2_become_39 : decode cX2_become 39 = .ok (.getfield 18, 3) := by decide +kernel
theorem dX2_become_42 : decode cX2_become 42 = .ok (.iconst 0, 1) := by decide +kernel
theorem dX2_become_43 : decode cX2_become 43 = .ok (.aload_n 0, 1) := by decide +kernel
theorem dX2_become_44 : decode cX2_become 44 = .ok (.getfield 18, 3) := by decide +kernel
theorem dX2_become_47 : decode cX2_become 47 = .ok (.iconst 0, 1) := by decide +kernel
theorem dX2_become_48 : decode cX2_become 48 = .ok (.bipush 8, 2) := by decide +kernel
theorem dX2_become_50 : decode cX2_become 50 = .ok (.invokestatic 28, 3) := by decide +kernel
theorem dX2_become_53 : decode cX2_become 53 = .ok (.aload_n 1, 1) := by decide +kernel
theorem dX2_become_54 : decode cX2_become 54 = .ok (.getfield 21, 3) := by decide +kernel
theorem dX2_become_57 : decode cX2_become 57 = .ok (.iconst 0, 1) := by decide +kernel
theorem dX2_become_58 : decode cX2_become 58 = .ok (.aload_n 0, 1) := by decide +kernel
theorem dX2_become_59 : decode cX2_become 59 = .ok (.getfield 21, 3) := by decide +kernel
theorem dX2_become_62 : decode cX2_become 62 = .ok (.iconst 0, 1) := by decide +kernel
theorem dX2_become_63 : decode cX2_become 63 = .ok (.bipush 8, 2) := by decide +kernel
theorem dX2_become_65 : decode cX2_become 65 = .ok (.invokestatic 28, 3) := by decide +kernel
theorem dX2_become_68 : decode cX2_become 68 = .ok (.return_, 1) := by decide +kernel
def w_X2_become  (v0 : Nat) (v1 : Nat) (h : AH) (Q : AH → Prop) : Prop :=
  fI h v1 2 0 fun x1 =>
  uI h v0 2 0 x1 fun h =>
  fN h v1 2 1 fun a2 =>
  fN h v0 2 1 fun a3 =>
  cp h a2 (0 : Int32) a3 (0 : Int32) (8 : Int32) fun h =>
  fN h v1 2 2 fun a4 =>
  fN h v0 2 2 fun a5 =>
  cp h a4 (0 : Int32) a5 (0 : Int32) (8 : Int32) fun h =>
  fN h v1 2 3 fun a6 =>
  fN h v0 2 3 fun a7 =>
  cp h a6 (0 : Int32) a7 (0 : Int32) (8 : Int32) fun h =>
  fN h v1 2 4 fun a8 =>
  fN h v0 2 4 fun a9 =>
  cp h a8 (0 : Int32) a9 (0 : Int32) (8 : Int32) fun h =>
  Q h
set_option maxRecDepth 100000 in
set_option maxHeartbeats 4000000 in
theorem s_X2_become {l : Launch}  {v0 : Nat} {v1 : Nat} {h : AH} {Q : AH → Prop}  (hw : w_X2_become  v0 v1 h Q) : CT l yX2_become cX2_become 2 none 1 0 0 [.ref v0, .ref v1] h (QV Q) := by
  refine CT.of (by decide) ⟨rfl, ⟨rfl, trivial⟩⟩ (Nat.le_of_ble_eq_true rfl) ?_
  intro p e s m args below meth c g C hr hin
  refine v_eq (pc' := 0) (ls' := [(0, .ref v0), (1, .ref v1)]) rfl rfl rfl rfl ?_
  refine v_aload_n C dX2_become_0 0 rfl rfl ?_
  refine v_aload_n C dX2_become_1 1 rfl rfl ?_
  refine w_getI C fl_X2_24 dX2_become_2 rfl hw (fun x1 hw => ?_)
  refine w_putI C fp_X2_24 (Or.inl rfl) dX2_become_5 hw (fun h hw => ?_)
  refine v_aload_n C dX2_become_8 1 rfl rfl ?_
  refine w_getN C fl_X2_9 dX2_become_9 rfl hw (fun a2 hw => ?_)
  refine v_iconst (v := 0) C dX2_become_12 (by decide) ?_
  refine v_aload_n C dX2_become_13 0 rfl rfl ?_
  refine w_getN C fl_X2_9 dX2_become_14 rfl hw (fun a3 hw => ?_)
  refine v_iconst (v := 0) C dX2_become_17 (by decide) ?_
  refine v_bipush (v := 8) C dX2_become_18 (by decide) ?_
  refine w_acopy C ac_X2_28 ac_nat ac_st ac_in dX2_become_20 (by decide) (by decide) hw (fun h hw => ?_)
  refine v_aload_n C dX2_become_23 1 rfl rfl ?_
  refine w_getN C fl_X2_15 dX2_become_24 rfl hw (fun a4 hw => ?_)
  refine v_iconst (v := 0) C dX2_become_27 (by decide) ?_
  refine v_aload_n C dX2_become_28 0 rfl rfl ?_
  refine w_getN C fl_X2_15 dX2_become_29 rfl hw (fun a5 hw => ?_)
  refine v_iconst (v := 0) C dX2_become_32 (by decide) ?_
  refine v_bipush (v := 8) C dX2_become_33 (by decide) ?_
  refine w_acopy C ac_X2_28 ac_nat ac_st ac_in dX2_become_35 (by decide) (by decide) hw (fun h hw => ?_)
  refine v_aload_n C dX2_become_38 1 rfl rfl ?_
  refine w_getN C fl_X2_18 dX2_become_39 rfl hw (fun a6 hw => ?_)
  refine v_iconst (v := 0) C dX2_become_42 (by decide) ?_
  refine v_aload_n C dX2_become_43 0 rfl rfl ?_
  refine w_getN C fl_X2_18 dX2_become_44 rfl hw (fun a7 hw => ?_)
  refine v_iconst (v := 0) C dX2_become_47 (by decide) ?_
  refine v_bipush (v := 8) C dX2_become_48 (by decide) ?_
  refine w_acopy C ac_X2_28 ac_nat ac_st ac_in dX2_become_50 (by decide) (by decide) hw (fun h hw => ?_)
  refine v_aload_n C dX2_become_53 1 rfl rfl ?_
  refine w_getN C fl_X2_21 dX2_become_54 rfl hw (fun a8 hw => ?_)
  refine v_iconst (v := 0) C dX2_become_57 (by decide) ?_
  refine v_aload_n C dX2_become_58 0 rfl rfl ?_
  refine w_getN C fl_X2_21 dX2_become_59 rfl hw (fun a9 hw => ?_)
  refine v_iconst (v := 0) C dX2_become_62 (by decide) ?_
  refine v_bipush (v := 8) C dX2_become_63 (by decide) ?_
  refine w_acopy C ac_X2_28 ac_nat ac_st ac_in dX2_become_65 (by decide) (by decide) hw (fun h hw => ?_)
  exact (rt_MQ C _).2.2.1 _ _ _ _ _ hr dX2_become_68 (by decide) (by decide) ⟨rfl, hw⟩
-- GrassField$Guns.madeBehind(I)I
theorem dX2_madeBehind_0 : decode cX2_madeBehind 0 = .ok (.iconst 0, 1) := by decide +kernel
theorem dX2_madeBehind_1 : decode cX2_madeBehind 1 = .ok (.istore_n 2, 1) := by decide +kernel
theorem dX2_madeBehind_2 : decode cX2_madeBehind 2 = .ok (.iconst 0, 1) := by decide +kernel
theorem dX2_madeBehind_3 : decode cX2_madeBehind 3 = .ok (.istore_n 3, 1) := by decide +kernel
theorem dX2_madeBehind_4 : decode cX2_madeBehind 4 = .ok (.iload_n 3, 1) := by decide +kernel
theorem dX2_madeBehind_5 : decode cX2_madeBehind 5 = .ok (.aload_n 0, 1) := by decide +kernel
theorem dX2_madeBehind_6 : decode cX2_madeBehind 6 = .ok (.getfield 24, 3) := by decide +kernel
theorem dX2_madeBehind_9 : decode cX2_madeBehind 9 = .ok (.if_icmp .ge 25, 3) := by decide +kernel
theorem dX2_madeBehind_12 : decode cX2_madeBehind 12 = .ok (.aload_n 0, 1) := by decide +kernel
theorem dX2_madeBehind_13 : decode cX2_madeBehind 13 = .ok (.getfield 18, 3) := by decide +kernel
theorem dX2_madeBehind_16 : decode cX2_madeBehind 16 = .ok (.iload_n 3, 1) := by decide +kernel
theorem dX2_madeBehind_17 : decode cX2_madeBehind 17 = .ok (.iaload, 1) := by decide +kernel
theorem dX2_madeBehind_18 : decode cX2_madeBehind 18 = .ok (.iload_n 1, 1) := by decide +kernel
theorem dX2_madeBehind_19 : decode cX2_madeBehind 19 = .ok (.if_icmp .le 9, 3) := by decide +kernel
theorem dX2_madeBehind_22 : decode cX2_madeBehind 22 = .ok (.iload_n 2, 1) := by decide +kernel
theorem dX2_madeBehind_23 : decode cX2_madeBehind 23 = .ok (.iconst 1, 1) := by decide +kernel
theorem dX2_madeBehind_24 : decode cX2_madeBehind 24 = .ok (.iload_n 3, 1) := by decide +kernel
theorem dX2_madeBehind_25 : decode cX2_madeBehind 25 = .ok (.ishl, 1) := by decide +kernel
theorem dX2_madeBehind_26 : decode cX2_madeBehind 26 = .ok (.ior, 1) := by decide +kernel
theorem dX2_madeBehind_27 : decode cX2_madeBehind 27 = .ok (.istore_n 2, 1) := by decide +kernel
theorem dX2_madeBehind_28 : decode cX2_madeBehind 28 = .ok (.iinc 3 1, 3) := by decide +kernel
theorem dX2_madeBehind_31 : decode cX2_madeBehind 31 = .ok (.goto (-27), 3) := by decide +kernel
theorem dX2_madeBehind_34 : decode cX2_madeBehind 34 = .ok (.iload_n 2, 1) := by decide +kernel
theorem dX2_madeBehind_35 : decode cX2_madeBehind 35 = .ok (.ireturn, 1) := by decide +kernel
def w_X2_madeBehind_34  (v2 : Int32) (h : AH) (Q : Int32 → AH → Prop) : Prop :=
  Q v2 h
def w_X2_madeBehind_28  (x34 : Int32 → AH → Prop) (k : Int32 → Int32 → AH → Prop) (v0 : Nat) (v1 : Int32) (v2 : Int32) (v3 : Int32) (h : AH) (Q : Int32 → AH → Prop) : Prop :=
  k v2 (v3 + 1) h
def w_X2_madeBehind_4  (x34 : Int32 → AH → Prop) (k : Int32 → Int32 → AH → Prop) (v0 : Nat) (v1 : Int32) (v2 : Int32) (v3 : Int32) (h : AH) (Q : Int32 → AH → Prop) : Prop :=
  fI h v0 2 0 fun x1 =>
  br (x1 ≤ v3) (
    x34 v2 h) (
    fN h v0 2 3 fun a2 =>
    aI h a2 v3 fun x3 =>
    br (x3 ≤ v1) (
      w_X2_madeBehind_28 x34 k v0 v1 v2 v3 h Q) (
      bd (v2 ||| ((1 : Int32) <<< (v3 &&& 31))) fun x4 =>
      w_X2_madeBehind_28 x34 k v0 v1 x4 v3 h Q))
def w_X2_madeBehind  (v0 : Nat) (v1 : Int32) (h : AH) (Q : Int32 → AH → Prop) : Prop :=
  lp (fun (k2 : Int32 × Int32 × AH → Prop) (s2 : Int32 × Int32 × AH) => w_X2_madeBehind_4  (fun (y2 : Int32) h => w_X2_madeBehind_34 y2 h Q) (fun (y2 : Int32) (y3 : Int32) h => k2 (y2, y3, h)) v0 v1 s2.1 s2.2.1 s2.2.2 Q) ((0 : Int32), (0 : Int32), h)
set_option maxRecDepth 100000 in
set_option maxHeartbeats 4000000 in
theorem s_X2_madeBehind_34 {p : Program} {l : Launch} {e : Env} {s : State} {m : MethodId} {args : Array Value} {below : List Frame} {meth : Method} {c : Code} {g : GG}  {Q : Int32 → AH → Prop}  (C : CXT p l s m args meth c RX2 cX2_madeBehind 4 g) (hr : meth.sig.returnType = (some .int))  : ∀ (v2 : Int32) (h : AH), w_X2_madeBehind_34  v2 h Q → V p l e s m args below meth c g 0 0 0 4 0 0 (MQ below (QCx g (QI Q)) args s 0 0 (gA g)) 34 [(2, .int v2)] [] h := by
  intro v2 h hw
  refine v_iload_n C dX2_madeBehind_34 0 rfl rfl ?_
  exact (rt_MQ C _).1 _ _ _ _ _ _ hr dX2_madeBehind_35 (by decide) (by decide) ⟨_, rfl, hw⟩
set_option maxRecDepth 100000 in
set_option maxHeartbeats 4000000 in
theorem s_X2_madeBehind_28 {p : Program} {l : Launch} {e : Env} {s : State} {m : MethodId} {args : Array Value} {below : List Frame} {meth : Method} {c : Code} {g : GG} {v0 : Nat} {v1 : Int32} {Q : Int32 → AH → Prop} {x34 : Int32 → AH → Prop} {k : Int32 → Int32 → AH → Prop} (C : CXT p l s m args meth c RX2 cX2_madeBehind 4 g) (hr : meth.sig.returnType = (some .int)) (hx34 : ∀ (y2 : Int32) (h : AH), x34 y2 h → V p l e s m args below meth c g 0 0 0 4 0 0 (MQ below (QCx g (QI Q)) args s 0 0 (gA g)) 34 [(2, .int y2)] [] h) (hk : ∀ (y2 : Int32) (y3 : Int32) (h : AH), k y2 y3 h → V p l e s m args below meth c g 0 0 0 4 0 0 (MQ below (QCx g (QI Q)) args s 0 0 (gA g)) 4 [(0, .ref v0), (1, .int v1), (2, .int y2), (3, .int y3)] [] h) : ∀ (v2 : Int32) (v3 : Int32) (h : AH), w_X2_madeBehind_28  x34 k v0 v1 v2 v3 h Q → V p l e s m args below meth c g 0 0 0 4 0 0 (MQ below (QCx g (QI Q)) args s 0 0 (gA g)) 28 [(0, .ref v0), (1, .int v1), (2, .int v2), (3, .int v3)] [] h := by
  intro v2 v3 h hw
  refine v_iinc (v := 1) (ls' := [(3, .int (v3 + 1)), (0, .ref v0), (1, .int v1), (2, .int v2)]) C dX2_madeBehind_28 3 rfl (by decide) (by decide) rfl ?_
  refine v_goto (tgt := 4) C dX2_madeBehind_31 (by decide) ?_
  refine v_sub [1, 2, 3, 0] rfl ?_
  exact hk _ _ _ hw
set_option maxRecDepth 100000 in
set_option maxHeartbeats 4000000 in
theorem s_X2_madeBehind_4 {p : Program} {l : Launch} {e : Env} {s : State} {m : MethodId} {args : Array Value} {below : List Frame} {meth : Method} {c : Code} {g : GG} {v0 : Nat} {v1 : Int32} {Q : Int32 → AH → Prop} {x34 : Int32 → AH → Prop} {k : Int32 → Int32 → AH → Prop} (C : CXT p l s m args meth c RX2 cX2_madeBehind 4 g) (hr : meth.sig.returnType = (some .int)) (hx34 : ∀ (y2 : Int32) (h : AH), x34 y2 h → V p l e s m args below meth c g 0 0 0 4 0 0 (MQ below (QCx g (QI Q)) args s 0 0 (gA g)) 34 [(2, .int y2)] [] h) (hk : ∀ (y2 : Int32) (y3 : Int32) (h : AH), k y2 y3 h → V p l e s m args below meth c g 0 0 0 4 0 0 (MQ below (QCx g (QI Q)) args s 0 0 (gA g)) 4 [(0, .ref v0), (1, .int v1), (2, .int y2), (3, .int y3)] [] h) : ∀ (v2 : Int32) (v3 : Int32) (h : AH), w_X2_madeBehind_4  x34 k v0 v1 v2 v3 h Q → V p l e s m args below meth c g 0 0 0 4 0 0 (MQ below (QCx g (QI Q)) args s 0 0 (gA g)) 4 [(0, .ref v0), (1, .int v1), (2, .int v2), (3, .int v3)] [] h := by
  intro v2 v3 h hw
  refine v_iload_n C dX2_madeBehind_4 3 rfl rfl ?_
  refine v_aload_n C dX2_madeBehind_5 0 rfl rfl ?_
  refine w_getI C fl_X2_24 dX2_madeBehind_6 rfl hw (fun x1 hw => ?_)
  refine v_icmp_ge (tgt := 34) C dX2_madeBehind_9 (by decide) (fun c_9 => ?_) (fun c_9 => ?_)
  · have hw := hw.1 c_9
    refine v_sub [2] rfl ?_
    exact hx34 _ _ hw
  · have hw := hw.2 c_9
    refine v_aload_n C dX2_madeBehind_12 0 rfl rfl ?_
    refine w_getN C fl_X2_18 dX2_madeBehind_13 rfl hw (fun a2 hw => ?_)
    refine v_iload_n C dX2_madeBehind_16 3 rfl rfl ?_
    refine w_iaload C dX2_madeBehind_17 hw (fun x3 hw => ?_)
    refine v_iload_n C dX2_madeBehind_18 1 rfl rfl ?_
    refine v_icmp_le (tgt := 28) C dX2_madeBehind_19 (by decide) (fun c_19 => ?_) (fun c_19 => ?_)
    · have hw := hw.1 c_19
      exact s_X2_madeBehind_28 C hr hx34 hk _ _ _ hw
    · have hw := hw.2 c_19
      refine v_iload_n C dX2_madeBehind_22 2 rfl rfl ?_
      refine v_iconst (v := 1) C dX2_madeBehind_23 (by decide) ?_
      refine v_iload_n C dX2_madeBehind_24 3 rfl rfl ?_
      refine v_ishl C dX2_madeBehind_25 ?_
      refine v_ior C dX2_madeBehind_26 ?_
      refine w_bd hw (fun x4 hw => ?_)
      refine v_istore_n (ls' := [(2, .int x4), (0, .ref v0), (1, .int v1), (3, .int v3)]) C dX2_madeBehind_27 rfl (by decide) rfl ?_
      refine v_sub [1, 2, 0, 3] rfl ?_
      exact s_X2_madeBehind_28 C hr hx34 hk _ _ _ hw
set_option maxRecDepth 100000 in
set_option maxHeartbeats 4000000 in
theorem s_X2_madeBehind {l : Launch}  {v0 : Nat} {v1 : Int32} {h : AH} {Q : Int32 → AH → Prop}  (hw : w_X2_madeBehind  v0 v1 h Q) : CT l yX2_madeBehind cX2_madeBehind 4 (some .int) 0 0 0 [.ref v0, .int v1] h (QI Q) := by
  refine CT.of (by decide) ⟨rfl, ⟨rfl, trivial⟩⟩ (Nat.le_of_ble_eq_true rfl) ?_
  intro p e s m args below meth c g C hr hin
  refine v_eq (pc' := 0) (ls' := [(0, .ref v0), (1, .int v1)]) rfl rfl rfl rfl ?_
  refine v_iconst (v := 0) C dX2_madeBehind_0 (by decide) ?_
  refine v_istore_n (ls' := [(2, .int (0 : Int32)), (0, .ref v0), (1, .int v1)]) C dX2_madeBehind_1 rfl (by decide) rfl ?_
  refine v_iconst (v := 0) C dX2_madeBehind_2 (by decide) ?_
  refine v_istore_n (ls' := [(3, .int (0 : Int32)), (2, .int (0 : Int32)), (0, .ref v0), (1, .int v1)]) C dX2_madeBehind_3 rfl (by decide) rfl ?_
  refine v_sub [2, 3, 1, 0] rfl ?_
  refine lp_walk (P := fun (s' : Int32 × Int32 × AH) => V p l e s m args below meth c g 0 0 0 4 0 0 (MQ below (QCx g (QI Q)) args s 0 0 (gA g)) 4 [(0, .ref v0), (1, .int v1), (2, .int (s'.1)), (3, .int (s'.2.1))] [] s'.2.2) (fun k2 hk2 s' hw => ?_) ((0 : Int32), (0 : Int32), h) hw
  exact s_X2_madeBehind_4 C hr (fun y2 h hw => s_X2_madeBehind_34 C hr  _ h hw) (fun y2 y3 h hw => hk2 (y2, y3, h) hw) _ _ _ hw
-- GrassField$Guns.ofSide(I)I
theorem dX2_ofSide_0 : decode cX2_ofSide 0 = .ok (.iconst 0, 1) := by decide +kernel
theorem dX2_ofSide_1 : decode cX2_ofSide 1 = .ok (.istore_n 2, 1) := by decide +kernel
theorem dX2_ofSide_2 : decode cX2_ofSide 2 = .ok (.iconst 0, 1) := by decide +kernel
theorem dX2_ofSide_3 : decode cX2_ofSide 3 = .ok (.istore_n 3, 1) := by decide +kernel
theorem dX2_ofSide_4 : decode cX2_ofSide 4 = .ok (.iload_n 3, 1) := by decide +kernel
theorem dX2_ofSide_5 : decode cX2_ofSide 5 = .ok (.aload_n 0, 1) := by decide +kernel
theorem dX2_ofSide_6 : decode cX2_ofSide 6 = .ok (.getfield 24, 3) := by decide +kernel
theorem dX2_ofSide_9 : decode cX2_ofSide 9 = .ok (.if_icmp .ge 25, 3) := by decide +kernel
theorem dX2_ofSide_12 : decode cX2_ofSide 12 = .ok (.aload_n 0, 1) := by decide +kernel
theorem dX2_ofSide_13 : decode cX2_ofSide 13 = .ok (.getfield 9, 3) := by decide +kernel
theorem dX2_ofSide_16 : decode cX2_ofSide 16 = .ok (.iload_n 3, 1) := by decide +kernel
theorem dX2_ofSide_17 : decode cX2_ofSide 17 = .ok (.iaload, 1) := by decide +kernel
theorem dX2_ofSide_18 : decode cX2_ofSide 18 = .ok (.iload_n 1, 1) := by decide +kernel
theorem dX2_ofSide_19 : decode cX2_ofSide 19 = .ok (.if_icmp .ne 9, 3) := by decide +kernel
theorem dX2_ofSide_22 : decode cX2_ofSide 22 = .ok (.iload_n 2, 1) := by decide +kernel
theorem dX2_ofSide_23 : decode cX2_ofSide 23 = .ok (.iconst 1, 1) := by decide +kernel
theorem dX2_ofSide_24 : decode cX2_ofSide 24 = .ok (.iload_n 3, 1) := by decide +kernel
theorem dX2_ofSide_25 : decode cX2_ofSide 25 = .ok (.ishl, 1) := by decide +kernel
theorem dX2_ofSide_26 : decode cX2_ofSide 26 = .ok (.ior, 1) := by decide +kernel
theorem dX2_ofSide_27 : decode cX2_ofSide 27 = .ok (.istore_n 2, 1) := by decide +kernel
theorem dX2_ofSide_28 : decode cX2_ofSide 28 = .ok (.iinc 3 1, 3) := by decide +kernel
theorem dX2_ofSide_31 : decode cX2_ofSide 31 = .ok (.goto (-27), 3) := by decide +kernel
theorem dX2_ofSide_34 : decode cX2_ofSide 34 = .ok (.iload_n 2, 1) := by decide +kernel
theorem dX2_ofSide_35 : decode cX2_ofSide 35 = .ok (.ireturn, 1) := by decide +kernel
def w_X2_ofSide_34  (v2 : Int32) (h : AH) (Q : Int32 → AH → Prop) : Prop :=
  Q v2 h
def w_X2_ofSide_28  (x34 : Int32 → AH → Prop) (k : Int32 → Int32 → AH → Prop) (v0 : Nat) (v1 : Int32) (v2 : Int32) (v3 : Int32) (h : AH) (Q : Int32 → AH → Prop) : Prop :=
  k v2 (v3 + 1) h
def w_X2_ofSide_4  (x34 : Int32 → AH → Prop) (k : Int32 → Int32 → AH → Prop) (v0 : Nat) (v1 : Int32) (v2 : Int32) (v3 : Int32) (h : AH) (Q : Int32 → AH → Prop) : Prop :=
  fI h v0 2 0 fun x1 =>
  br (x1 ≤ v3) (
    x34 v2 h) (
    fN h v0 2 1 fun a2 =>
    aI h a2 v3 fun x3 =>
    br (x3 = v1) (
      bd (v2 ||| ((1 : Int32) <<< (v3 &&& 31))) fun x4 =>
      w_X2_ofSide_28 x34 k v0 v1 x4 v3 h Q) (
      w_X2_ofSide_28 x34 k v0 v1 v2 v3 h Q))
def w_X2_ofSide  (v0 : Nat) (v1 : Int32) (h : AH) (Q : Int32 → AH → Prop) : Prop :=
  lp (fun (k2 : Int32 × Int32 × AH → Prop) (s2 : Int32 × Int32 × AH) => w_X2_ofSide_4  (fun (y2 : Int32) h => w_X2_ofSide_34 y2 h Q) (fun (y2 : Int32) (y3 : Int32) h => k2 (y2, y3, h)) v0 v1 s2.1 s2.2.1 s2.2.2 Q) ((0 : Int32), (0 : Int32), h)
set_option maxRecDepth 100000 in
set_option maxHeartbeats 4000000 in
theorem s_X2_ofSide_34 {p : Program} {l : Launch} {e : Env} {s : State} {m : MethodId} {args : Array Value} {below : List Frame} {meth : Method} {c : Code} {g : GG}  {Q : Int32 → AH → Prop}  (C : CXT p l s m args meth c RX2 cX2_ofSide 4 g) (hr : meth.sig.returnType = (some .int))  : ∀ (v2 : Int32) (h : AH), w_X2_ofSide_34  v2 h Q → V p l e s m args below meth c g 0 0 0 4 0 0 (MQ below (QCx g (QI Q)) args s 0 0 (gA g)) 34 [(2, .int v2)] [] h := by
  intro v2 h hw
  refine v_iload_n C dX2_ofSide_34 0 rfl rfl ?_
  exact (rt_MQ C _).1 _ _ _ _ _ _ hr dX2_ofSide_35 (by decide) (by decide) ⟨_, rfl, hw⟩
set_option maxRecDepth 100000 in
set_option maxHeartbeats 4000000 in
theorem s_X2_ofSide_28 {p : Program} {l : Launch} {e : Env} {s : State} {m : MethodId} {args : Array Value} {below : List Frame} {meth : Method} {c : Code} {g : GG} {v0 : Nat} {v1 : Int32} {Q : Int32 → AH → Prop} {x34 : Int32 → AH → Prop} {k : Int32 → Int32 → AH → Prop} (C : CXT p l s m args meth c RX2 cX2_ofSide 4 g) (hr : meth.sig.returnType = (some .int)) (hx34 : ∀ (y2 : Int32) (h : AH), x34 y2 h → V p l e s m args below meth c g 0 0 0 4 0 0 (MQ below (QCx g (QI Q)) args s 0 0 (gA g)) 34 [(2, .int y2)] [] h) (hk : ∀ (y2 : Int32) (y3 : Int32) (h : AH), k y2 y3 h → V p l e s m args below meth c g 0 0 0 4 0 0 (MQ below (QCx g (QI Q)) args s 0 0 (gA g)) 4 [(0, .ref v0), (1, .int v1), (2, .int y2), (3, .int y3)] [] h) : ∀ (v2 : Int32) (v3 : Int32) (h : AH), w_X2_ofSide_28  x34 k v0 v1 v2 v3 h Q → V p l e s m args below meth c g 0 0 0 4 0 0 (MQ below (QCx g (QI Q)) args s 0 0 (gA g)) 28 [(0, .ref v0), (1, .int v1), (2, .int v2), (3, .int v3)] [] h := by
  intro v2 v3 h hw
  refine v_iinc (v := 1) (ls' := [(3, .int (v3 + 1)), (0, .ref v0), (1, .int v1), (2, .int v2)]) C dX2_ofSide_28 3 rfl (by decide) (by decide) rfl ?_
  refine v_goto (tgt := 4) C dX2_ofSide_31 (by decide) ?_
  refine v_sub [1, 2, 3, 0] rfl ?_
  exact hk _ _ _ hw
set_option maxRecDepth 100000 in
set_option maxHeartbeats 4000000 in
theorem s_X2_ofSide_4 {p : Program} {l : Launch} {e : Env} {s : State} {m : MethodId} {args : Array Value} {below : List Frame} {meth : Method} {c : Code} {g : GG} {v0 : Nat} {v1 : Int32} {Q : Int32 → AH → Prop} {x34 : Int32 → AH → Prop} {k : Int32 → Int32 → AH → Prop} (C : CXT p l s m args meth c RX2 cX2_ofSide 4 g) (hr : meth.sig.returnType = (some .int)) (hx34 : ∀ (y2 : Int32) (h : AH), x34 y2 h → V p l e s m args below meth c g 0 0 0 4 0 0 (MQ below (QCx g (QI Q)) args s 0 0 (gA g)) 34 [(2, .int y2)] [] h) (hk : ∀ (y2 : Int32) (y3 : Int32) (h : AH), k y2 y3 h → V p l e s m args below meth c g 0 0 0 4 0 0 (MQ below (QCx g (QI Q)) args s 0 0 (gA g)) 4 [(0, .ref v0), (1, .int v1), (2, .int y2), (3, .int y3)] [] h) : ∀ (v2 : Int32) (v3 : Int32) (h : AH), w_X2_ofSide_4  x34 k v0 v1 v2 v3 h Q → V p l e s m args below meth c g 0 0 0 4 0 0 (MQ below (QCx g (QI Q)) args s 0 0 (gA g)) 4 [(0, .ref v0), (1, .int v1), (2, .int v2), (3, .int v3)] [] h := by
  intro v2 v3 h hw
  refine v_iload_n C dX2_ofSide_4 3 rfl rfl ?_
  refine v_aload_n C dX2_ofSide_5 0 rfl rfl ?_
  refine w_getI C fl_X2_24 dX2_ofSide_6 rfl hw (fun x1 hw => ?_)
  refine v_icmp_ge (tgt := 34) C dX2_ofSide_9 (by decide) (fun c_9 => ?_) (fun c_9 => ?_)
  · have hw := hw.1 c_9
    refine v_sub [2] rfl ?_
    exact hx34 _ _ hw
  · have hw := hw.2 c_9
    refine v_aload_n C dX2_ofSide_12 0 rfl rfl ?_
    refine w_getN C fl_X2_9 dX2_ofSide_13 rfl hw (fun a2 hw => ?_)
    refine v_iload_n C dX2_ofSide_16 3 rfl rfl ?_
    refine w_iaload C dX2_ofSide_17 hw (fun x3 hw => ?_)
    refine v_iload_n C dX2_ofSide_18 1 rfl rfl ?_
    refine v_icmp_ne (tgt := 28) C dX2_ofSide_19 (by decide) (fun c_19 => ?_) (fun c_19 => ?_)
    · have hw := hw.2 c_19
      exact s_X2_ofSide_28 C hr hx34 hk _ _ _ hw
    · have hw := hw.1 c_19
      refine v_iload_n C dX2_ofSide_22 2 rfl rfl ?_
      refine v_iconst (v := 1) C dX2_ofSide_23 (by decide) ?_
      refine v_iload_n C dX2_ofSide_24 3 rfl rfl ?_
      refine v_ishl C dX2_ofSide_25 ?_
      refine v_ior C dX2_ofSide_26 ?_
      refine w_bd hw (fun x4 hw => ?_)
      refine v_istore_n (ls' := [(2, .int x4), (0, .ref v0), (1, .int v1), (3, .int v3)]) C dX2_ofSide_27 rfl (by decide) rfl ?_
      refine v_sub [1, 2, 0, 3] rfl ?_
      exact s_X2_ofSide_28 C hr hx34 hk _ _ _ hw
set_option maxRecDepth 100000 in
set_option maxHeartbeats 4000000 in
theorem s_X2_ofSide {l : Launch}  {v0 : Nat} {v1 : Int32} {h : AH} {Q : Int32 → AH → Prop}  (hw : w_X2_ofSide  v0 v1 h Q) : CT l yX2_ofSide cX2_ofSide 4 (some .int) 0 0 0 [.ref v0, .int v1] h (QI Q) := by
  refine CT.of (by decide) ⟨rfl, ⟨rfl, trivial⟩⟩ (Nat.le_of_ble_eq_true rfl) ?_
  intro p e s m args below meth c g C hr hin
  refine v_eq (pc' := 0) (ls' := [(0, .ref v0), (1, .int v1)]) rfl rfl rfl rfl ?_
  refine v_iconst (v := 0) C dX2_ofSide_0 (by decide) ?_
  refine v_istore_n (ls' := [(2, .int (0 : Int32)), (0, .ref v0), (1, .int v1)]) C dX2_ofSide_1 rfl (by decide) rfl ?_
  refine v_iconst (v := 0) C dX2_ofSide_2 (by decide) ?_
  refine v_istore_n (ls' := [(3, .int (0 : Int32)), (2, .int (0 : Int32)), (0, .ref v0), (1, .int v1)]) C dX2_ofSide_3 rfl (by decide) rfl ?_
  refine v_sub [2, 3, 1, 0] rfl ?_
  refine lp_walk (P := fun (s' : Int32 × Int32 × AH) => V p l e s m args below meth c g 0 0 0 4 0 0 (MQ below (QCx g (QI Q)) args s 0 0 (gA g)) 4 [(0, .ref v0), (1, .int v1), (2, .int (s'.1)), (3, .int (s'.2.1))] [] s'.2.2) (fun k2 hk2 s' hw => ?_) ((0 : Int32), (0 : Int32), h) hw
  exact s_X2_ofSide_4 C hr (fun y2 h hw => s_X2_ofSide_34 C hr  _ h hw) (fun y2 y3 h hw => hk2 (y2, y3, h) hw) _ _ _ hw
-- GrassField$Guns.withMarks(I)I
theorem dX2_withMarks_0 : decode cX2_withMarks 0 = .ok (.iconst 0, 1) := by decide +kernel
theorem dX2_withMarks_1 : decode cX2_withMarks 1 = .ok (.istore_n 2, 1) := by decide +kernel
theorem dX2_withMarks_2 : decode cX2_withMarks 2 = .ok (.iconst 0, 1) := by decide +kernel
theorem dX2_withMarks_3 : decode cX2_withMarks 3 = .ok (.istore_n 3, 1) := by decide +kernel
theorem dX2_withMarks_4 : decode cX2_withMarks 4 = .ok (.iload_n 3, 1) := by decide +kernel
theorem dX2_withMarks_5 : decode cX2_withMarks 5 = .ok (.aload_n 0, 1) := by decide +kernel
theorem dX2_withMarks_6 : decode cX2_withMarks 6 = .ok (.getfield 24, 3) := by decide +kernel
theorem dX2_withMarks_9 : decode cX2_withMarks 9 = .ok (.if_icmp .ge 29, 3) := by decide +kernel
theorem dX2_withMarks_12 : decode cX2_withMarks 12 = .ok (.iload_n 1, 1) := by decide +kernel
theorem dX2_withMarks_13 : decode cX2_withMarks 13 = .ok (.aload_n 0, 1) := by decide +kernel
theorem dX2_withMarks_14 : decode cX2_withMarks 14 = .ok (.getfield 15, 3) := by decide +kernel
theorem dX2_withMarks_17 : decode cX2_withMarks 17 = .ok (.iload_n 3, 1) := by decide +kernel
theorem dX2_withMarks_18 : decode cX2_withMarks 18 = .ok (.iaload, 1) := by decide +kernel
theorem dX2_withMarks_19 : decode cX2_withMarks 19 = .ok (.ishr, 1) := by decide +kernel
theorem dX2_withMarks_20 : decode cX2_withMarks 20 = .ok (.iconst 1, 1) := by decide +kernel
theorem dX2_withMarks_21 : decode cX2_withMarks 21 = .ok (.iand, 1) := by decide +kernel
theorem dX2_withMarks_22 : decode cX2_withMarks 22 = .ok (.iconst 1, 1) := by decide +kernel
theorem dX2_withMarks_23 : decode cX2_withMarks 23 = .ok (.if_icmp .ne 9, 3) := by decide +kernel
theorem dX2_withMarks_26 : decode cX2_withMarks 26 = .ok (.iload_n 2, 1) := by decide +kernel
theorem dX2_withMarks_27 : decode cX2_withMarks 27 = .ok (.iconst 1, 1) := by decide +kernel
theorem dX2_withMarks_28 : decode cX2_withMarks 28 = .ok (.iload_n 3, 1) := by decide +kernel
theorem dX2_withMarks_29 : decode cX2_withMarks 29 = .ok (.ishl, 1) := by decide +kernel
theorem dX2_withMarks_30 : decode cX2_withMarks 30 = .ok (.ior, 1) := by decide +kernel
theorem dX2_withMarks_31 : decode cX2_withMarks 31 = .ok (.istore_n 2, 1) := by decide +kernel
theorem dX2_withMarks_32 : decode cX2_withMarks 32 = .ok (.iinc 3 1, 3) := by decide +kernel
theorem dX2_withMarks_35 : decode cX2_withMarks 35 = .ok (.goto (-31), 3) := by decide +kernel
theorem dX2_withMarks_38 : decode cX2_withMarks 38 = .ok (.iload_n 2, 1) := by decide +kernel
theorem dX2_withMarks_39 : decode cX2_withMarks 39 = .ok (.ireturn, 1) := by decide +kernel
def w_X2_withMarks_38  (v2 : Int32) (h : AH) (Q : Int32 → AH → Prop) : Prop :=
  Q v2 h
def w_X2_withMarks_32  (x38 : Int32 → AH → Prop) (k : Int32 → Int32 → AH → Prop) (v0 : Nat) (v1 : Int32) (v2 : Int32) (v3 : Int32) (h : AH) (Q : Int32 → AH → Prop) : Prop :=
  k v2 (v3 + 1) h
def w_X2_withMarks_4  (x38 : Int32 → AH → Prop) (k : Int32 → Int32 → AH → Prop) (v0 : Nat) (v1 : Int32) (v2 : Int32) (v3 : Int32) (h : AH) (Q : Int32 → AH → Prop) : Prop :=
  fI h v0 2 0 fun x1 =>
  br (x1 ≤ v3) (
    x38 v2 h) (
    fN h v0 2 2 fun a2 =>
    aI h a2 v3 fun x3 =>
    br (((v1 >>> (x3 &&& 31)) &&& (1 : Int32)) = (1 : Int32)) (
      bd (v2 ||| ((1 : Int32) <<< (v3 &&& 31))) fun x4 =>
      w_X2_withMarks_32 x38 k v0 v1 x4 v3 h Q) (
      w_X2_withMarks_32 x38 k v0 v1 v2 v3 h Q))
def w_X2_withMarks  (v0 : Nat) (v1 : Int32) (h : AH) (Q : Int32 → AH → Prop) : Prop :=
  lp (fun (k2 : Int32 × Int32 × AH → Prop) (s2 : Int32 × Int32 × AH) => w_X2_withMarks_4  (fun (y2 : Int32) h => w_X2_withMarks_38 y2 h Q) (fun (y2 : Int32) (y3 : Int32) h => k2 (y2, y3, h)) v0 v1 s2.1 s2.2.1 s2.2.2 Q) ((0 : Int32), (0 : Int32), h)
set_option maxRecDepth 100000 in
set_option maxHeartbeats 4000000 in
theorem s_X2_withMarks_38 {p : Program} {l : Launch} {e : Env} {s : State} {m : MethodId} {args : Array Value} {below : List Frame} {meth : Method} {c : Code} {g : GG}  {Q : Int32 → AH → Prop}  (C : CXT p l s m args meth c RX2 cX2_withMarks 4 g) (hr : meth.sig.returnType = (some .int))  : ∀ (v2 : Int32) (h : AH), w_X2_withMarks_38  v2 h Q → V p l e s m args below meth c g 0 0 0 4 0 0 (MQ below (QCx g (QI Q)) args s 0 0 (gA g)) 38 [(2, .int v2)] [] h := by
  intro v2 h hw
  refine v_iload_n C dX2_withMarks_38 0 rfl rfl ?_
  exact (rt_MQ C _).1 _ _ _ _ _ _ hr dX2_withMarks_39 (by decide) (by decide) ⟨_, rfl, hw⟩
set_option maxRecDepth 100000 in
set_option maxHeartbeats 4000000 in
theorem s_X2_withMarks_32 {p : Program} {l : Launch} {e : Env} {s : State} {m : MethodId} {args : Array Value} {below : List Frame} {meth : Method} {c : Code} {g : GG} {v0 : Nat} {v1 : Int32} {Q : Int32 → AH → Prop} {x38 : Int32 → AH → Prop} {k : Int32 → Int32 → AH → Prop} (C : CXT p l s m args meth c RX2 cX2_withMarks 4 g) (hr : meth.sig.returnType = (some .int)) (hx38 : ∀ (y2 : Int32) (h : AH), x38 y2 h → V p l e s m args below meth c g 0 0 0 4 0 0 (MQ below (QCx g (QI Q)) args s 0 0 (gA g)) 38 [(2, .int y2)] [] h) (hk : ∀ (y2 : Int32) (y3 : Int32) (h : AH), k y2 y3 h → V p l e s m args below meth c g 0 0 0 4 0 0 (MQ below (QCx g (QI Q)) args s 0 0 (gA g)) 4 [(0, .ref v0), (1, .int v1), (2, .int y2), (3, .int y3)] [] h) : ∀ (v2 : Int32) (v3 : Int32) (h : AH), w_X2_withMarks_32  x38 k v0 v1 v2 v3 h Q → V p l e s m args below meth c g 0 0 0 4 0 0 (MQ below (QCx g (QI Q)) args s 0 0 (gA g)) 32 [(0, .ref v0), (1, .int v1), (2, .int v2), (3, .int v3)] [] h := by
  intro v2 v3 h hw
  refine v_iinc (v := 1) (ls' := [(3, .int (v3 + 1)), (0, .ref v0), (1, .int v1), (2, .int v2)]) C dX2_withMarks_32 3 rfl (by decide) (by decide) rfl ?_
  refine v_goto (tgt := 4) C dX2_withMarks_35 (by decide) ?_
  refine v_sub [1, 2, 3, 0] rfl ?_
  exact hk _ _ _ hw
set_option maxRecDepth 100000 in
set_option maxHeartbeats 4000000 in
theorem s_X2_withMarks_4 {p : Program} {l : Launch} {e : Env} {s : State} {m : MethodId} {args : Array Value} {below : List Frame} {meth : Method} {c : Code} {g : GG} {v0 : Nat} {v1 : Int32} {Q : Int32 → AH → Prop} {x38 : Int32 → AH → Prop} {k : Int32 → Int32 → AH → Prop} (C : CXT p l s m args meth c RX2 cX2_withMarks 4 g) (hr : meth.sig.returnType = (some .int)) (hx38 : ∀ (y2 : Int32) (h : AH), x38 y2 h → V p l e s m args below meth c g 0 0 0 4 0 0 (MQ below (QCx g (QI Q)) args s 0 0 (gA g)) 38 [(2, .int y2)] [] h) (hk : ∀ (y2 : Int32) (y3 : Int32) (h : AH), k y2 y3 h → V p l e s m args below meth c g 0 0 0 4 0 0 (MQ below (QCx g (QI Q)) args s 0 0 (gA g)) 4 [(0, .ref v0), (1, .int v1), (2, .int y2), (3, .int y3)] [] h) : ∀ (v2 : Int32) (v3 : Int32) (h : AH), w_X2_withMarks_4  x38 k v0 v1 v2 v3 h Q → V p l e s m args below meth c g 0 0 0 4 0 0 (MQ below (QCx g (QI Q)) args s 0 0 (gA g)) 4 [(0, .ref v0), (1, .int v1), (2, .int v2), (3, .int v3)] [] h := by
  intro v2 v3 h hw
  refine v_iload_n C dX2_withMarks_4 3 rfl rfl ?_
  refine v_aload_n C dX2_withMarks_5 0 rfl rfl ?_
  refine w_getI C fl_X2_24 dX2_withMarks_6 rfl hw (fun x1 hw => ?_)
  refine v_icmp_ge (tgt := 38) C dX2_withMarks_9 (by decide) (fun c_9 => ?_) (fun c_9 => ?_)
  · have hw := hw.1 c_9
    refine v_sub [2] rfl ?_
    exact hx38 _ _ hw
  · have hw := hw.2 c_9
    refine v_iload_n C dX2_withMarks_12 1 rfl rfl ?_
    refine v_aload_n C dX2_withMarks_13 0 rfl rfl ?_
    refine w_getN C fl_X2_15 dX2_withMarks_14 rfl hw (fun a2 hw => ?_)
    refine v_iload_n C dX2_withMarks_17 3 rfl rfl ?_
    refine w_iaload C dX2_withMarks_18 hw (fun x3 hw => ?_)
    refine v_ishr C dX2_withMarks_19 ?_
    refine v_iconst (v := 1) C dX2_withMarks_20 (by decide) ?_
    refine v_iand C dX2_withMarks_21 ?_
    refine v_iconst (v := 1) C dX2_withMarks_22 (by decide) ?_
    refine v_icmp_ne (tgt := 32) C dX2_withMarks_23 (by decide) (fun c_23 => ?_) (fun c_23 => ?_)
    · have hw := hw.2 c_23
      exact s_X2_withMarks_32 C hr hx38 hk _ _ _ hw
    · have hw := hw.1 c_23
      refine v_iload_n C dX2_withMarks_26 2 rfl rfl ?_
      refine v_iconst (v := 1) C dX2_withMarks_27 (by decide) ?_
      refine v_iload_n C dX2_withMarks_28 3 rfl rfl ?_
      refine v_ishl C dX2_withMarks_29 ?_
      refine v_ior C dX2_withMarks_30 ?_
      refine w_bd hw (fun x4 hw => ?_)
      refine v_istore_n (ls' := [(2, .int x4), (0, .ref v0), (1, .int v1), (3, .int v3)]) C dX2_withMarks_31 rfl (by decide) rfl ?_
      refine v_sub [1, 2, 0, 3] rfl ?_
      exact s_X2_withMarks_32 C hr hx38 hk _ _ _ hw
set_option maxRecDepth 100000 in
set_option maxHeartbeats 4000000 in
theorem s_X2_withMarks {l : Launch}  {v0 : Nat} {v1 : Int32} {h : AH} {Q : Int32 → AH → Prop}  (hw : w_X2_withMarks  v0 v1 h Q) : CT l yX2_withMarks cX2_withMarks 4 (some .int) 0 0 0 [.ref v0, .int v1] h (QI Q) := by
  refine CT.of (by decide) ⟨rfl, ⟨rfl, trivial⟩⟩ (Nat.le_of_ble_eq_true rfl) ?_
  intro p e s m args below meth c g C hr hin
  refine v_eq (pc' := 0) (ls' := [(0, .ref v0), (1, .int v1)]) rfl rfl rfl rfl ?_
  refine v_iconst (v := 0) C dX2_withMarks_0 (by decide) ?_
  refine v_istore_n (ls' := [(2, .int (0 : Int32)), (0, .ref v0), (1, .int v1)]) C dX2_withMarks_1 rfl (by decide) rfl ?_
  refine v_iconst (v := 0) C dX2_withMarks_2 (by decide) ?_
  refine v_istore_n (ls' := [(3, .int (0 : Int32)), (2, .int (0 : Int32)), (0, .ref v0), (1, .int v1)]) C dX2_withMarks_3 rfl (by decide) rfl ?_
  refine v_sub [2, 3, 1, 0] rfl ?_
  refine lp_walk (P := fun (s' : Int32 × Int32 × AH) => V p l e s m args below meth c g 0 0 0 4 0 0 (MQ below (QCx g (QI Q)) args s 0 0 (gA g)) 4 [(0, .ref v0), (1, .int v1), (2, .int (s'.1)), (3, .int (s'.2.1))] [] s'.2.2) (fun k2 hk2 s' hw => ?_) ((0 : Int32), (0 : Int32), h) hw
  exact s_X2_withMarks_4 C hr (fun y2 h hw => s_X2_withMarks_38 C hr  _ h hw) (fun y2 y3 h hw => hk2 (y2, y3, h) hw) _ _ _ hw
