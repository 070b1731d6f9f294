theorem iw_X5 : ∀ w ∈ u_ws RX5 TX5 3, w ∈ lw_tbl := (show ∀ w ∈ ([Cond.laysFinal "GrassField$Program" "GrassField$Program" "steps" "[I", Cond.laysFinal "GrassField$Program" "GrassField$Program" "pile" "[I", Cond.lays "GrassField$Program" "GrassField$Program" "top" "I"] : List Cond), w ∈ lw_tbl from List.forall_mem_cons.mpr ⟨(tb4 (List.mem_of_getElem? (i := 234) rfl)), List.forall_mem_cons.mpr ⟨(tb4 (List.mem_of_getElem? (i := 236) rfl)), List.forall_mem_cons.mpr ⟨(tb4 (List.mem_of_getElem? (i := 238) rfl)), fun _ h => nomatch h⟩⟩⟩)
theorem fl_X5_9 : FLk RX5 9 5 1 (RX5, TX5, 3) := ⟨rfl, by decide, iw_X5, Or.inl (tb4 (List.mem_of_getElem? (i := 232) rfl))⟩
theorem fp_X5_9 : FPk RX5 9 5 1 (RX5, TX5, 3) tyX5 2 := ⟨fl_X5_9, nmX5, tyX5_ok, Or.inr (Or.inr ⟨rfl, Or.inr ⟨_, rfl⟩, rfl⟩)⟩
theorem cl_X5_13 : CLk RX5 13 yJ7_copyOf_59c91 cJ7_copyOf_59c91 3 (some (.array .int)) 2 := ⟨Or.inl (tb4 (List.mem_of_getElem? (i := 219) rfl)), (tb4 (List.mem_of_getElem? (i := 221) rfl)), (tb1 (List.mem_of_getElem? (i := 25) rfl)), by decide +kernel, by decide +kernel, by decide +kernel⟩
theorem st_J7_copyOf_59c91 : Cond.static yJ7_copyOf_59c91 ∈ lw_tbl := (tb4 (List.mem_of_getElem? (i := 220) rfl))
theorem fl_X5_19 : FLk RX5 19 5 0 (RX5, TX5, 3) := ⟨rfl, by decide, iw_X5, Or.inl (tb4 (List.mem_of_getElem? (i := 231) rfl))⟩
theorem fp_X5_19 : FPk RX5 19 5 0 (RX5, TX5, 3) tyX5 2 := ⟨fl_X5_19, nmX5, tyX5_ok, Or.inr (Or.inr ⟨rfl, Or.inr ⟨_, rfl⟩, rfl⟩)⟩
theorem fl_X5_22 : FLk RX5 22 5 2 (RX5, TX5, 3) := ⟨rfl, by decide, iw_X5, Or.inl (tb4 (List.mem_of_getElem? (i := 233) rfl))⟩
theorem fp_X5_22 : FPk RX5 22 5 2 (RX5, TX5, 3) tyX5 0 := ⟨fl_X5_22, nmX5, tyX5_ok, Or.inl ⟨rfl, rfl, rfl⟩⟩
theorem cl_X5_30 : CLk RX5 30 yX5_put cX5_put 2 none 1 := ⟨Or.inl (tb5 (List.mem_of_getElem? (i := 101) rfl)), (tb5 (List.mem_of_getElem? (i := 104) rfl)), (tb1 (List.mem_of_getElem? (i := 24) rfl)), by decide +kernel, by decide +kernel, by decide +kernel⟩
theorem im_X5_put : Cond.instanceMethod yX5_put ∈ lw_tbl := (tb5 (List.mem_of_getElem? (i := 103) rfl))
theorem se_X5_put : Cond.selects RX5 yX5_put yX5_put ∈ lw_tbl := (tbp2 14 rfl)
theorem cl_X5_26 : CLk RX5 26 yX5_take cX5_take 1 (some .int) 0 := ⟨Or.inl (tb5 (List.mem_of_getElem? (i := 97) rfl)), (tb5 (List.mem_of_getElem? (i := 100) rfl)), (tb1 (List.mem_of_getElem? (i := 24) rfl)), by decide +kernel, by decide +kernel, by decide +kernel⟩
theorem im_X5_take : Cond.instanceMethod yX5_take ∈ lw_tbl := (tb5 (List.mem_of_getElem? (i := 99) rfl))
theorem se_X5_take : Cond.selects RX5 yX5_take yX5_take ∈ lw_tbl := (tbp2 13 rfl)
theorem cl_X5_34 : CLk RX5 34 yX5_joinTwo cX5_joinTwo 3 (some .int) 3 := ⟨Or.inl (tb5 (List.mem_of_getElem? (i := 105) rfl)), (tb5 (List.mem_of_getElem? (i := 107) rfl)), (tb1 (List.mem_of_getElem? (i := 24) rfl)), by decide +kernel, by decide +kernel, by decide +kernel⟩
theorem st_X5_joinTwo : Cond.static yX5_joinTwo ∈ lw_tbl := (tb5 (List.mem_of_getElem? (i := 106) rfl))
-- GrassField$Program.<init>([II)V
theorem dX5_init_0 : decode cX5_init 0 = .ok (.aload_n 0, 1) := by decide +kernel
theorem dX5_init_1 : decode cX5_init 1 = .ok (.invokespecial 1, 3) := by decide +kernel
theorem dX5_init_4 : decode cX5_init 4 = .ok (.aload_n 0, 1) := by decide +kernel
theorem dX5_init_5 : decode cX5_init 5 = .ok (.bipush 32, 2) := by decide +kernel
theorem dX5_init_7 : decode cX5_init 7 = .ok (.newarray .int, 2) := by decide +kernel
theorem dX5_init_9 : decode cX5_init 9 = .ok (.putfield 9, 3) := by decide +kernel
theorem dX5_init_12 : decode cX5_init 12 = .ok (.aload_n 0, 1) := by decide +kernel
theorem dX5_init_13 : decode cX5_init 13 = .ok (.aload_n 1, 1) := by decide +kernel
theorem dX5_init_14 : decode cX5_init 14 = .ok (.iload_n 2, 1) := by decide +kernel
theorem dX5_init_15 : decode cX5_init 15 = .ok (.invokestatic 13, 3) := by decide +kernel
theorem dX5_init_18 : decode cX5_init 18 = .ok (.putfield 19, 3) := by decide +kernel
theorem dX5_init_21 : decode cX5_init 21 = .ok (.return_, 1) := by decide +kernel
def w_X5_init  (v0 : Nat) (v1 : Nat) (v2 : Int32) (h : AH) (Q : AH → Prop) : Prop :=
  wA h 0 32 fun a1 h =>
  uO h v0 5 1 (some a1) fun h =>
  w_J7_copyOf_59c91 v1 v2 h (fun a2 h =>
  uO h v0 5 0 (some a2) fun h =>
  Q h)
set_option maxRecDepth 100000 in
set_option maxHeartbeats 4000000 in
theorem s_X5_init {l : Launch}  {v0 : Nat} {v1 : Nat} {v2 : Int32} {h : AH} {Q : AH → Prop}  (hw : w_X5_init  v0 v1 v2 h Q) : CT l yX5_init cX5_init 3 none 2 2 433 [.ref v0, .ref v1, .int v2] h (QV Q) := by
  refine CT.of (by decide) ⟨rfl, ⟨rfl, ⟨rfl, trivial⟩⟩⟩ (Nat.le_of_ble_eq_true rfl) ?_
  intro p e s m args below meth c g C hr hin
  refine v_eq (pc' := 0) (ls' := [(0, .ref v0), (1, .ref v1), (2, .int v2)]) rfl rfl rfl rfl ?_
  refine v_aload_n C dX5_init_0 0 rfl rfl ?_
  refine v_objInit C (tb4 (List.mem_of_getElem? (i := 218) rfl)) (tb1 (List.mem_of_getElem? (i := 36) rfl)) (tb1 (List.mem_of_getElem? (i := 37) rfl)) dX5_init_1 (by decide) (by decide) ?_
  refine v_aload_n C dX5_init_4 0 rfl rfl ?_
  refine v_bipush (v := 32) C dX5_init_5 (by decide) ?_
  refine v_newa (atype := .int) (j := 0) (N := 32) C rfl rfl (by decide) rfl rfl (tb1 (List.mem_of_getElem? (i := 77) rfl)) dX5_init_7 (by decide) (by decide) (by decide) (by decide) (by decide) (fun a1 hn => ?_)
  have hw := hw a1 hn
  generalize nA h a1 0 32 = h at hw ⊢
  refine w_putN C fp_X5_9 (Or.inr ⟨hin, rfl, rfl, (tb4 (List.mem_of_getElem? (i := 232) rfl))⟩) dX5_init_9 hw (fun h hw => ?_)
  refine v_aload_n C dX5_init_12 0 rfl rfl ?_
  refine v_aload_n C dX5_init_13 1 rfl rfl ?_
  refine v_iload_n C dX5_init_14 2 rfl rfl ?_
  refine w_callSr (st := [.ref v0]) C cl_X5_13 st_J7_copyOf_59c91 (s_J7_copyOf_59c91 hw) rfl dX5_init_15 rfl (Nat.le_of_ble_eq_true rfl) (by decide) (by decide) (by decide) (by decide) (fun a2 h hw => ?_)
  refine w_putN C fp_X5_19 (Or.inr ⟨hin, rfl, rfl, (tb4 (List.mem_of_getElem? (i := 231) rfl))⟩) dX5_init_18 hw (fun h hw => ?_)
  exact (rt_MQ C _).2.2.1 _ _ _ _ _ hr dX5_init_21 (by decide) (by decide) ⟨rfl, hw⟩
-- GrassField$Program.take()I
theorem dX5_take_0 : decode cX5_take 0 = .ok (.aload_n 0, 1) := by decide +kernel
theorem dX5_take_1 : decode cX5_take 1 = .ok (.getfield 22, 3) := by decide +kernel
theorem dX5_take_4 : decode cX5_take 4 = .ok (.ifCond .ne 5, 3) := by decide +kernel
theorem dX5_take_7 : decode cX5_take 7 = .ok (.iconst 0, 1) := by decide +kernel
theorem dX5_take_8 : decode cX5_take 8 = .ok (.ireturn, 1) := by decide +kernel
theorem dX5_take_9 : decode cX5_take 9 = .ok (.aload_n 0, 1) := by decide +kernel
theorem dX5_take_10 : decode cX5_take 10 = .ok (.dup, 1) := by decide +kernel
theorem dX5_take_11 : decode cX5_take 11 = .ok (.getfield 22, 3) := by decide +kernel
theorem dX5_take_14 : decode cX5_take 14 = .ok (.iconst 1, 1) := by decide +kernel
theorem dX5_take_15 : decode cX5_take 15 = .ok (.isub, 1) := by decide +kernel
theorem dX5_take_16 : decode cX5_take 16 = .ok (.putfield 22, 3) := by decide +kernel
theorem dX5_take_19 : decode cX5_take 19 = .ok (.aload_n 0, 1) := by decide +kernel
theorem dX5_take_20 : decode cX5_take 20 = .ok (.getfield 9, 3) := by decide +kernel
theorem dX5_take_23 : decode cX5_take 23 = .ok (.aload_n 0, 1) := by decide +kernel
theorem dX5_take_24 : decode cX5_take 24 = .ok (.getfield 22, 3) := by decide +kernel
theorem dX5_take_27 : decode cX5_take 27 = .ok (.iaload, 1) := by decide +kernel
theorem dX5_take_28 : decode cX5_take 28 = .ok (.ireturn, 1) := by decide +kernel
def w_X5_take  (v0 : Nat) (h : AH) (Q : Int32 → AH → Prop) : Prop :=
  fI h v0 5 2 fun x1 =>
  br (x1 = 0) (
    Q (0 : Int32) h) (
    fI h v0 5 2 fun x2 =>
    uI h v0 5 2 (x2 - (1 : Int32)) fun h =>
    fN h v0 5 1 fun a3 =>
    fI h v0 5 2 fun x4 =>
    aI h a3 x4 fun x5 =>
    Q x5 h)
set_option maxRecDepth 100000 in
set_option maxHeartbeats 4000000 in
theorem s_X5_take {l : Launch}  {v0 : Nat} {h : AH} {Q : Int32 → AH → Prop}  (hw : w_X5_take  v0 h Q) : CT l yX5_take cX5_take 1 (some .int) 0 0 0 [.ref v0] h (QI Q) := by
  refine CT.of (by decide) ⟨rfl, trivial⟩ (Nat.le_of_ble_eq_true rfl) ?_
  intro p e s m args below meth c g C hr hin
  refine v_eq (pc' := 0) (ls' := [(0, .ref v0)]) rfl rfl rfl rfl ?_
  refine v_aload_n C dX5_take_0 0 rfl rfl ?_
  refine w_getI C fl_X5_22 dX5_take_1 rfl hw (fun x1 hw => ?_)
  refine v_if_ne (tgt := 9) C dX5_take_4 (by decide) (fun c_4 => ?_) (fun c_4 => ?_)
  · have hw := hw.2 c_4
    refine v_aload_n C dX5_take_9 0 rfl rfl ?_
    refine v_dup C dX5_take_10 rfl ?_
    refine w_getI C fl_X5_22 dX5_take_11 rfl hw (fun x2 hw => ?_)
    refine v_iconst (v := 1) C dX5_take_14 (by decide) ?_
    refine v_isub C dX5_take_15 ?_
    refine w_putI C fp_X5_22 (Or.inl rfl) dX5_take_16 hw (fun h hw => ?_)
    refine v_aload_n C dX5_take_19 0 rfl rfl ?_
    refine w_getN C fl_X5_9 dX5_take_20 rfl hw (fun a3 hw => ?_)
    refine v_aload_n C dX5_take_23 0 rfl rfl ?_
    refine w_getI C fl_X5_22 dX5_take_24 rfl hw (fun x4 hw => ?_)
    refine w_iaload C dX5_take_27 hw (fun x5 hw => ?_)
    exact (rt_MQ C _).1 _ _ _ _ _ _ hr dX5_take_28 (by decide) (by decide) ⟨_, rfl, hw⟩
  · have hw := hw.1 c_4
    refine v_iconst (v := 0) C dX5_take_7 (by decide) ?_
    exact (rt_MQ C _).1 _ _ _ _ _ _ hr dX5_take_8 (by decide) (by decide) ⟨_, rfl, hw⟩
-- GrassField$Program.put(I)V
theorem dX5_put_0 : decode cX5_put 0 = .ok (.aload_n 0, 1) := by decide +kernel
theorem dX5_put_1 : decode cX5_put 1 = .ok (.getfield 22, 3) := by decide +kernel
theorem dX5_put_4 : decode cX5_put 4 = .ok (.bipush 32, 2) := by decide +kernel
theorem dX5_put_6 : decode cX5_put 6 = .ok (.if_icmp .ge 23, 3) := by decide +kernel
theorem dX5_put_9 : decode cX5_put 9 = .ok (.aload_n 0, 1) := by decide +kernel
theorem dX5_put_10 : decode cX5_put 10 = .ok (.getfield 9, 3) := by decide +kernel
theorem dX5_put_13 : decode cX5_put 13 = .ok (.aload_n 0, 1) := by decide +kernel
theorem dX5_put_14 : decode cX5_put 14 = .ok (.getfield 22, 3) := by decide +kernel
theorem dX5_put_17 : decode cX5_put 17 = .ok (.iload_n 1, 1) := by decide +kernel
theorem dX5_put_18 : decode cX5_put 18 = .ok (.iastore, 1) := by decide +kernel
theorem dX5_put_19 : decode cX5_put 19 = .ok (.aload_n 0, 1) := by decide +kernel
theorem dX5_put_20 : decode cX5_put 20 = .ok (.dup, 1) := by decide +kernel
theorem dX5_put_21 : decode cX5_put 21 = .ok (.getfield 22, 3) := by decide +kernel
theorem dX5_put_24 : decode cX5_put 24 = .ok (.iconst 1, 1) := by decide +kernel
theorem dX5_put_25 : decode cX5_put 25 = .ok (.iadd, 1) := by decide +kernel
theorem dX5_put_26 : decode cX5_put 26 = .ok (.putfield 22, 3) := by decide +kernel
theorem dX5_put_29 : decode cX5_put 29 = .ok (.return_, 1) := by decide +kernel
def w_X5_put_29  (h : AH) (Q : AH → Prop) : Prop :=
  Q h
def w_X5_put  (v0 : Nat) (v1 : Int32) (h : AH) (Q : AH → Prop) : Prop :=
  fI h v0 5 2 fun x1 =>
  br ((32 : Int32) ≤ x1) (
    w_X5_put_29  h Q) (
    fN h v0 5 1 fun a2 =>
    fI h v0 5 2 fun x3 =>
    tI h a2 x3 v1 fun h =>
    fI h v0 5 2 fun x4 =>
    uI h v0 5 2 (x4 + (1 : Int32)) fun h =>
    w_X5_put_29  h Q)
set_option maxRecDepth 100000 in
set_option maxHeartbeats 4000000 in
theorem s_X5_put_29 {p : Program} {l : Launch} {e : Env} {s : State} {m : MethodId} {args : Array Value} {below : List Frame} {meth : Method} {c : Code} {g : GG}  {Q : AH → Prop}  (C : CXT p l s m args meth c RX5 cX5_put 2 g) (hr : meth.sig.returnType = none)  : ∀  (h : AH), w_X5_put_29  h Q → V p l e s m args below meth c g 0 0 0 2 0 0 (MQ below (QCx g (QV Q)) args s 0 0 (gA g)) 29 [] [] h := by
  intro  h hw
  exact (rt_MQ C _).2.2.1 _ _ _ _ _ hr dX5_put_29 (by decide) (by decide) ⟨rfl, hw⟩
set_option maxRecDepth 100000 in
set_option maxHeartbeats 4000000 in
theorem s_X5_put {l : Launch}  {v0 : Nat} {v1 : Int32} {h : AH} {Q : AH → Prop}  (hw : w_X5_put  v0 v1 h Q) : CT l yX5_put cX5_put 2 none 0 0 0 [.ref v0, .int v1] h (QV Q) := by
  refine CT.of (by decide) ⟨rfl, ⟨rfl, trivial⟩⟩ (Nat.le_of_ble_eq_true rfl) ?_
  intro p e s m args below meth c g C hr hin
  refine v_eq (pc' := 0) (ls' := [(0, .ref v0), (1, .int v1)]) rfl rfl rfl rfl ?_
  refine v_aload_n C dX5_put_0 0 rfl rfl ?_
  refine w_getI C fl_X5_22 dX5_put_1 rfl hw (fun x1 hw => ?_)
  refine v_bipush (v := 32) C dX5_put_4 (by decide) ?_
  refine v_icmp_ge (tgt := 29) C dX5_put_6 (by decide) (fun c_6 => ?_) (fun c_6 => ?_)
  · have hw := hw.1 c_6
    refine v_sub [] rfl ?_
    exact s_X5_put_29 C hr   _ hw
  · have hw := hw.2 c_6
    refine v_aload_n C dX5_put_9 0 rfl rfl ?_
    refine w_getN C fl_X5_9 dX5_put_10 rfl hw (fun a2 hw => ?_)
    refine v_aload_n C dX5_put_13 0 rfl rfl ?_
    refine w_getI C fl_X5_22 dX5_put_14 rfl hw (fun x3 hw => ?_)
    refine v_iload_n C dX5_put_17 1 rfl rfl ?_
    refine w_iastore C dX5_put_18 hw (fun h hw => ?_)
    refine v_aload_n C dX5_put_19 0 rfl rfl ?_
    refine v_dup C dX5_put_20 rfl ?_
    refine w_getI C fl_X5_22 dX5_put_21 rfl hw (fun x4 hw => ?_)
    refine v_iconst (v := 1) C dX5_put_24 (by decide) ?_
    refine v_iadd C dX5_put_25 ?_
    refine w_putI C fp_X5_22 (Or.inl rfl) dX5_put_26 hw (fun h hw => ?_)
    refine v_sub [] rfl ?_
    exact s_X5_put_29 C hr   _ hw
-- GrassField$Program.joinTwo(III)I
theorem dX5_joinTwo_0 : decode cX5_joinTwo 0 = .ok (.iload_n 0, 1) := by decide +kernel
theorem dX5_joinTwo_1 : decode cX5_joinTwo 1 = .ok (.tableswitch 96 2 9 #[47, 51, 55, 66, 96, 77, 81, 85], 47) := by decide +kernel
theorem dX5_joinTwo_48 : decode cX5_joinTwo 48 = .ok (.iload_n 1, 1) := by decide +kernel
theorem dX5_joinTwo_49 : decode cX5_joinTwo 49 = .ok (.iload_n 2, 1) := by decide +kernel
theorem dX5_joinTwo_50 : decode cX5_joinTwo 50 = .ok (.imul, 1) := by decide +kernel
theorem dX5_joinTwo_51 : decode cX5_joinTwo 51 = .ok (.ireturn, 1) := by decide +kernel
theorem dX5_joinTwo_52 : decode cX5_joinTwo 52 = .ok (.iload_n 1, 1) := by decide +kernel
theorem dX5_joinTwo_53 : decode cX5_joinTwo 53 = .ok (.iload_n 2, 1) := by decide +kernel
theorem dX5_joinTwo_54 : decode cX5_joinTwo 54 = .ok (.iadd, 1) := by decide +kernel
theorem dX5_joinTwo_55 : decode cX5_joinTwo 55 = .ok (.ireturn, 1) := by decide +kernel
theorem dX5_joinTwo_56 : decode cX5_joinTwo 56 = .ok (.iload_n 1, 1) := by decide +kernel
theorem dX5_joinTwo_57 : decode cX5_joinTwo 57 = .ok (.iload_n 2, 1) := by decide +kernel
theorem dX5_joinTwo_58 : decode cX5_joinTwo 58 = .ok (.if_icmp .ge 7, 3) := by decide +kernel
theorem dX5_joinTwo_61 : decode cX5_joinTwo 61 = .ok (.iconst 1, 1) := by decide +kernel
theorem dX5_joinTwo_62 : decode cX5_joinTwo 62 = .ok (.goto 4, 3) := by decide +kernel
theorem dX5_joinTwo_65 : decode cX5_joinTwo 65 = .ok (.iconst 0, 1) := by decide +kernel
theorem dX5_joinTwo_66 : decode cX5_joinTwo 66 = .ok (.ireturn, 1) := by decide +kernel
theorem dX5_joinTwo_67 : decode cX5_joinTwo 67 = .ok (.iload_n 1, 1) := by decide +kernel
theorem dX5_joinTwo_68 : decode cX5_joinTwo 68 = .ok (.iload_n 2, 1) := by decide +kernel
theorem dX5_joinTwo_69 : decode cX5_joinTwo 69 = .ok (.if_icmp .le 7, 3) := by decide +kernel
theorem dX5_joinTwo_72 : decode cX5_joinTwo 72 = .ok (.iconst 1, 1) := by decide +kernel
theorem dX5_joinTwo_73 : decode cX5_joinTwo 73 = .ok (.goto 4, 3) := by decide +kernel
theorem dX5_joinTwo_76 : decode cX5_joinTwo 76 = .ok (.iconst 0, 1) := by decide +kernel
theorem dX5_joinTwo_77 : decode cX5_joinTwo 77 = .ok (.ireturn, 1) := by decide +kernel
theorem dX5_joinTwo_78 : decode cX5_joinTwo 78 = .ok (.iload_n 1, 1) := by decide +kernel
theorem dX5_joinTwo_79 : decode cX5_joinTwo 79 = .ok (.iload_n 2, 1) := by decide +kernel
theorem dX5_joinTwo_80 : decode cX5_joinTwo 80 = .ok (.iand, 1) := by decide +kernel
theorem dX5_joinTwo_81 : decode cX5_joinTwo 81 = .ok (.ireturn, 1) := by decide +kernel
theorem dX5_joinTwo_82 : decode cX5_joinTwo 82 = .ok (.iload_n 1, 1) := by decide +kernel
theorem dX5_joinTwo_83 : decode cX5_joinTwo 83 = .ok (.iload_n 2, 1) := by decide +kernel
theorem dX5_joinTwo_84 : decode cX5_joinTwo 84 = .ok (.ior, 1) := by decide +kernel
theorem dX5_joinTwo_85 : decode cX5_joinTwo 85 = .ok (.ireturn, 1) := by decide +kernel
theorem dX5_joinTwo_86 : decode cX5_joinTwo 86 = .ok (.iload_n 1, 1) := by decide +kernel
theorem dX5_joinTwo_87 : decode cX5_joinTwo 87 = .ok (.iload_n 2, 1) := by decide +kernel
theorem dX5_joinTwo_88 : decode cX5_joinTwo 88 = .ok (.if_icmp .lt 7, 3) := by decide +kernel
theorem dX5_joinTwo_91 : decode cX5_joinTwo 91 = .ok (.iconst 1, 1) := by decide +kernel
theorem dX5_joinTwo_92 : decode cX5_joinTwo 92 = .ok (.goto 4, 3) := by decide +kernel
theorem dX5_joinTwo_95 : decode cX5_joinTwo 95 = .ok (.iconst 0, 1) := by decide +kernel
theorem dX5_joinTwo_96 : decode cX5_joinTwo 96 = .ok (.ireturn, 1) := by decide +kernel
theorem dX5_joinTwo_97 : decode cX5_joinTwo 97 = .ok (.iconst 0, 1) := by decide +kernel
theorem dX5_joinTwo_98 : decode cX5_joinTwo 98 = .ok (.ireturn, 1) := by decide +kernel
def w_X5_joinTwo_96  (t0 : Int32) (h : AH) (Q : Int32 → AH → Prop) : Prop :=
  Q t0 h
def w_X5_joinTwo_77  (t0 : Int32) (h : AH) (Q : Int32 → AH → Prop) : Prop :=
  Q t0 h
def w_X5_joinTwo_66  (t0 : Int32) (h : AH) (Q : Int32 → AH → Prop) : Prop :=
  Q t0 h
def w_X5_joinTwo  (v0 : Int32) (v1 : Int32) (v2 : Int32) (h : AH) (Q : Int32 → AH → Prop) : Prop :=
  br (v0 = 2) (
      Q (v1 * v2) h) (
  br (v0 = 3) (
      Q (v1 + v2) h) (
  br (v0 = 4) (
      br (v2 ≤ v1) (
        w_X5_joinTwo_66 (0 : Int32) h Q) (
        w_X5_joinTwo_66 (1 : Int32) h Q)) (
  br (v0 = 5) (
      br (v1 ≤ v2) (
        w_X5_joinTwo_77 (0 : Int32) h Q) (
        w_X5_joinTwo_77 (1 : Int32) h Q)) (
  br (v0 = 6) (
      Q (0 : Int32) h) (
  br (v0 = 7) (
      Q (v1 &&& v2) h) (
  br (v0 = 8) (
      Q (v1 ||| v2) h) (
  br (v0 = 9) (
      br (v1 < v2) (
        w_X5_joinTwo_96 (0 : Int32) h Q) (
        w_X5_joinTwo_96 (1 : Int32) h Q)) (
    Q (0 : Int32) h))))))))
set_option maxRecDepth 100000 in
set_option maxHeartbeats 4000000 in
theorem s_X5_joinTwo_96 {p : Program} {l : Launch} {e : Env} {s : State} {m : MethodId} {args : Array Value} {below : List Frame} {meth : Method} {c : Code} {g : GG}  {Q : Int32 → AH → Prop}  (C : CXT p l s m args meth c RX5 cX5_joinTwo 3 g) (hr : meth.sig.returnType = (some .int))  : ∀ (t0 : Int32) (h : AH), w_X5_joinTwo_96  t0 h Q → V p l e s m args below meth c g 0 0 0 3 0 0 (MQ below (QCx g (QI Q)) args s 0 0 (gA g)) 96 [] [.int t0] h := by
  intro t0 h hw
  exact (rt_MQ C _).1 _ _ _ _ _ _ hr dX5_joinTwo_96 (by decide) (by decide) ⟨_, rfl, hw⟩
set_option maxRecDepth 100000 in
set_option maxHeartbeats 4000000 in
theorem s_X5_joinTwo_77 {p : Program} {l : Launch} {e : Env} {s : State} {m : MethodId} {args : Array Value} {below : List Frame} {meth : Method} {c : Code} {g : GG}  {Q : Int32 → AH → Prop}  (C : CXT p l s m args meth c RX5 cX5_joinTwo 3 g) (hr : meth.sig.returnType = (some .int))  : ∀ (t0 : Int32) (h : AH), w_X5_joinTwo_77  t0 h Q → V p l e s m args below meth c g 0 0 0 3 0 0 (MQ below (QCx g (QI Q)) args s 0 0 (gA g)) 77 [] [.int t0] h := by
  intro t0 h hw
  exact (rt_MQ C _).1 _ _ _ _ _ _ hr dX5_joinTwo_77 (by decide) (by decide) ⟨_, rfl, hw⟩
set_option maxRecDepth 100000 in
set_option maxHeartbeats 4000000 in
theorem s_X5_joinTwo_66 {p : Program} {l : Launch} {e : Env} {s : State} {m : MethodId} {args : Array Value} {below : List Frame} {meth : Method} {c : Code} {g : GG}  {Q : Int32 → AH → Prop}  (C : CXT p l s m args meth c RX5 cX5_joinTwo 3 g) (hr : meth.sig.returnType = (some .int))  : ∀ (t0 : Int32) (h : AH), w_X5_joinTwo_66  t0 h Q → V p l e s m args below meth c g 0 0 0 3 0 0 (MQ below (QCx g (QI Q)) args s 0 0 (gA g)) 66 [] [.int t0] h := by
  intro t0 h hw
  exact (rt_MQ C _).1 _ _ _ _ _ _ hr dX5_joinTwo_66 (by decide) (by decide) ⟨_, rfl, hw⟩
set_option maxRecDepth 100000 in
set_option maxHeartbeats 4000000 in
theorem s_X5_joinTwo {l : Launch}  {v0 : Int32} {v1 : Int32} {v2 : Int32} {h : AH} {Q : Int32 → AH → Prop}  (hw : w_X5_joinTwo  v0 v1 v2 h Q) : CT l yX5_joinTwo cX5_joinTwo 3 (some .int) 0 0 0 [.int v0, .int v1, .int v2] h (QI Q) := by
  refine CT.of (by decide) ⟨rfl, ⟨rfl, ⟨rfl, trivial⟩⟩⟩ (Nat.le_of_ble_eq_true rfl) ?_
  intro p e s m args below meth c g C hr hin
  refine v_eq (pc' := 0) (ls' := [(0, .int v0), (1, .int v1), (2, .int v2)]) rfl rfl rfl rfl ?_
  refine v_iload_n C dX5_joinTwo_0 0 rfl rfl ?_
  refine v_tsw C (td := 97) dX5_joinTwo_1 (by decide) ?_ (fun c_1 => ?_)
  · intro i hi hx
    rcases (show i = 0 ∨ i = 1 ∨ i = 2 ∨ i = 3 ∨ i = 4 ∨ i = 5 ∨ i = 6 ∨ i = 7 by omega) with rfl | rfl | rfl | rfl | rfl | rfl | rfl | rfl
    · refine ⟨_, 48, rfl, by decide, ?_⟩
      have hw := hw.1 (by rw [hx]; rfl)
      refine v_iload_n C dX5_joinTwo_48 1 rfl rfl ?_
      refine v_iload_n C dX5_joinTwo_49 2 rfl rfl ?_
      refine v_imul C dX5_joinTwo_50 ?_
      exact (rt_MQ C _).1 _ _ _ _ _ _ hr dX5_joinTwo_51 (by decide) (by decide) ⟨_, rfl, hw⟩
    · refine ⟨_, 52, rfl, by decide, ?_⟩
      have hw := hw.2 (by rw [hx]; decide)
      have hw := hw.1 (by rw [hx]; rfl)
      refine v_iload_n C dX5_joinTwo_52 1 rfl rfl ?_
      refine v_iload_n C dX5_joinTwo_53 2 rfl rfl ?_
      refine v_iadd C dX5_joinTwo_54 ?_
      exact (rt_MQ C _).1 _ _ _ _ _ _ hr dX5_joinTwo_55 (by decide) (by decide) ⟨_, rfl, hw⟩
    · refine ⟨_, 56, rfl, by decide, ?_⟩
      have hw := hw.2 (by rw [hx]; decide)
      have hw := hw.2 (by rw [hx]; decide)
      have hw := hw.1 (by rw [hx]; rfl)
      refine v_iload_n C dX5_joinTwo_56 1 rfl rfl ?_
      refine v_iload_n C dX5_joinTwo_57 2 rfl rfl ?_
      refine v_icmp_ge (tgt := 65) C dX5_joinTwo_58 (by decide) (fun c_58 => ?_) (fun c_58 => ?_)
      · have hw := hw.1 c_58
        refine v_iconst (v := 0) C dX5_joinTwo_65 (by decide) ?_
        refine v_sub [] rfl ?_
        exact s_X5_joinTwo_66 C hr  _ _ hw
      · have hw := hw.2 c_58
        refine v_iconst (v := 1) C dX5_joinTwo_61 (by decide) ?_
        refine v_goto (tgt := 66) C dX5_joinTwo_62 (by decide) ?_
        refine v_sub [] rfl ?_
        exact s_X5_joinTwo_66 C hr  _ _ hw
    · refine ⟨_, 67, rfl, by decide, ?_⟩
      have hw := hw.2 (by rw [hx]; decide)
      have hw := hw.2 (by rw [hx]; decide)
      have hw := hw.2 (by rw [hx]; decide)
      have hw := hw.1 (by rw [hx]; rfl)
      refine v_iload_n C dX5_joinTwo_67 1 rfl rfl ?_
      refine v_iload_n C dX5_joinTwo_68 2 rfl rfl ?_
      refine v_icmp_le (tgt := 76) C dX5_joinTwo_69 (by decide) (fun c_69 => ?_) (fun c_69 => ?_)
      · have hw := hw.1 c_69
        refine v_iconst (v := 0) C dX5_joinTwo_76 (by decide) ?_
        refine v_sub [] rfl ?_
        exact s_X5_joinTwo_77 C hr  _ _ hw
      · have hw := hw.2 c_69
        refine v_iconst (v := 1) C dX5_joinTwo_72 (by decide) ?_
        refine v_goto (tgt := 77) C dX5_joinTwo_73 (by decide) ?_
        refine v_sub [] rfl ?_
        exact s_X5_joinTwo_77 C hr  _ _ hw
    · refine ⟨_, 97, rfl, by decide, ?_⟩
      have hw := hw.2 (by rw [hx]; decide)
      have hw := hw.2 (by rw [hx]; decide)
      have hw := hw.2 (by rw [hx]; decide)
      have hw := hw.2 (by rw [hx]; decide)
      have hw := hw.1 (by rw [hx]; rfl)
      refine v_iconst (v := 0) C dX5_joinTwo_97 (by decide) ?_
      exact (rt_MQ C _).1 _ _ _ _ _ _ hr dX5_joinTwo_98 (by decide) (by decide) ⟨_, rfl, hw⟩
    · refine ⟨_, 78, rfl, by decide, ?_⟩
      have hw := hw.2 (by rw [hx]; decide)
      have hw := hw.2 (by rw [hx]; decide)
      have hw := hw.2 (by rw [hx]; decide)
      have hw := hw.2 (by rw [hx]; decide)
      have hw := hw.2 (by rw [hx]; decide)
      have hw := hw.1 (by rw [hx]; rfl)
      refine v_iload_n C dX5_joinTwo_78 1 rfl rfl ?_
      refine v_iload_n C dX5_joinTwo_79 2 rfl rfl ?_
      refine v_iand C dX5_joinTwo_80 ?_
      exact (rt_MQ C _).1 _ _ _ _ _ _ hr dX5_joinTwo_81 (by decide) (by decide) ⟨_, rfl, hw⟩
    · refine ⟨_, 82, rfl, by decide, ?_⟩
      have hw := hw.2 (by rw [hx]; decide)
      have hw := hw.2 (by rw [hx]; decide)
      have hw := hw.2 (by rw [hx]; decide)
      have hw := hw.2 (by rw [hx]; decide)
      have hw := hw.2 (by rw [hx]; decide)
      have hw := hw.2 (by rw [hx]; decide)
      have hw := hw.1 (by rw [hx]; rfl)
      refine v_iload_n C dX5_joinTwo_82 1 rfl rfl ?_
      refine v_iload_n C dX5_joinTwo_83 2 rfl rfl ?_
      refine v_ior C dX5_joinTwo_84 ?_
      exact (rt_MQ C _).1 _ _ _ _ _ _ hr dX5_joinTwo_85 (by decide) (by decide) ⟨_, rfl, hw⟩
    · refine ⟨_, 86, rfl, by decide, ?_⟩
      have hw := hw.2 (by rw [hx]; decide)
      have hw := hw.2 (by rw [hx]; decide)
      have hw := hw.2 (by rw [hx]; decide)
      have hw := hw.2 (by rw [hx]; decide)
      have hw := hw.2 (by rw [hx]; decide)
      have hw := hw.2 (by rw [hx]; decide)
      have hw := hw.2 (by rw [hx]; decide)
      have hw := hw.1 (by rw [hx]; rfl)
      refine v_iload_n C dX5_joinTwo_86 1 rfl rfl ?_
      refine v_iload_n C dX5_joinTwo_87 2 rfl rfl ?_
      refine v_icmp_lt (tgt := 95) C dX5_joinTwo_88 (by decide) (fun c_88 => ?_) (fun c_88 => ?_)
      · have hw := hw.1 c_88
        refine v_iconst (v := 0) C dX5_joinTwo_95 (by decide) ?_
        refine v_sub [] rfl ?_
        exact s_X5_joinTwo_96 C hr  _ _ hw
      · have hw := hw.2 c_88
        refine v_iconst (v := 1) C dX5_joinTwo_91 (by decide) ?_
        refine v_goto (tgt := 96) C dX5_joinTwo_92 (by decide) ?_
        refine v_sub [] rfl ?_
        exact s_X5_joinTwo_96 C hr  _ _ hw
  · have hw := hw.2 (fun z => c_1 0 (by decide) (z.trans (by decide)))
    have hw := hw.2 (fun z => c_1 1 (by decide) (z.trans (by decide)))
    have hw := hw.2 (fun z => c_1 2 (by decide) (z.trans (by decide)))
    have hw := hw.2 (fun z => c_1 3 (by decide) (z.trans (by decide)))
    have hw := hw.2 (fun z => c_1 4 (by decide) (z.trans (by decide)))
    have hw := hw.2 (fun z => c_1 5 (by decide) (z.trans (by decide)))
    have hw := hw.2 (fun z => c_1 6 (by decide) (z.trans (by decide)))
    have hw := hw.2 (fun z => c_1 7 (by decide) (z.trans (by decide)))
    refine v_iconst (v := 0) C dX5_joinTwo_97 (by decide) ?_
    exact (rt_MQ C _).1 _ _ _ _ _ _ hr dX5_joinTwo_98 (by decide) (by decide) ⟨_, rfl, hw⟩
-- GrassField$Program.answer([I)I
theorem dX5_answer_0 : decode cX5_answer 0 = .ok (.aload_n 0, 1) := by decide +kernel
theorem dX5_answer_1 : decode cX5_answer 1 = .ok (.iconst 0, 1) := by decide +kernel
theorem dX5_answer_2 : decode cX5_answer 2 = .ok (.putfield 22, 3) := by decide +kernel
theorem dX5_answer_5 : decode cX5_answer 5 = .ok (.iconst 0, 1) := by decide +kernel
theorem dX5_answer_6 : decode cX5_answer 6 = .ok (.istore_n 2, 1) := by decide +kernel
theorem dX5_answer_7 : decode cX5_answer 7 = .ok (.iload_n 2, 1) := by decide +kernel
theorem dX5_answer_8 : decode cX5_answer 8 = .ok (.aload_n 0, 1) := by decide +kernel
theorem dX5_answer_9 : decode cX5_answer 9 = .ok (.getfield 19, 3) := by decide +kernel
theorem dX5_answer_12 : decode cX5_answer 12 = .ok (.arraylength, 1) := by decide +kernel
theorem dX5_answer_13 : decode cX5_answer 13 = .ok (.if_icmp .ge 133, 3) := by decide +kernel
theorem dX5_answer_16 : decode cX5_answer 16 = .ok (.aload_n 0, 1) := by decide +kernel
theorem dX5_answer_17 : decode cX5_answer 17 = .ok (.getfield 19, 3) := by decide +kernel
theorem dX5_answer_20 : decode cX5_answer 20 = .ok (.iload_n 2, 1) := by decide +kernel
theorem dX5_answer_21 : decode cX5_answer 21 = .ok (.iaload, 1) := by decide +kernel
theorem dX5_answer_22 : decode cX5_answer 22 = .ok (.sipush 1000, 3) := by decide +kernel
theorem dX5_answer_25 : decode cX5_answer 25 = .ok (.idiv, 1) := by decide +kernel
theorem dX5_answer_26 : decode cX5_answer 26 = .ok (.istore_n 3, 1) := by decide +kernel
theorem dX5_answer_27 : decode cX5_answer 27 = .ok (.aload_n 0, 1) := by decide +kernel
theorem dX5_answer_28 : decode cX5_answer 28 = .ok (.getfield 19, 3) := by decide +kernel
theorem dX5_answer_31 : decode cX5_answer 31 = .ok (.iload_n 2, 1) := by decide +kernel
theorem dX5_answer_32 : decode cX5_answer 32 = .ok (.iaload, 1) := by decide +kernel
theorem dX5_answer_33 : decode cX5_answer 33 = .ok (.sipush 1000, 3) := by decide +kernel
theorem dX5_answer_36 : decode cX5_answer 36 = .ok (.irem, 1) := by decide +kernel
theorem dX5_answer_37 : decode cX5_answer 37 = .ok (.istore 4, 2) := by decide +kernel
theorem dX5_answer_39 : decode cX5_answer 39 = .ok (.iload_n 3, 1) := by decide +kernel
theorem dX5_answer_40 : decode cX5_answer 40 = .ok (.bipush 10, 2) := by decide +kernel
theorem dX5_answer_42 : decode cX5_answer 42 = .ok (.if_icmp .ne 13, 3) := by decide +kernel
theorem dX5_answer_45 : decode cX5_answer 45 = .ok (.aload_n 0, 1) := by decide +kernel
theorem dX5_answer_46 : decode cX5_answer 46 = .ok (.invokevirtual 26, 3) := by decide +kernel
theorem dX5_answer_49 : decode cX5_answer 49 = .ok (.ifCond .eq 91, 3) := by decide +kernel
theorem dX5_answer_52 : decode cX5_answer 52 = .ok (.iload 4, 2) := by decide +kernel
theorem dX5_answer_54 : decode cX5_answer 54 = .ok (.ireturn, 1) := by decide +kernel
theorem dX5_answer_55 : decode cX5_answer 55 = .ok (.iload_n 3, 1) := by decide +kernel
theorem dX5_answer_56 : decode cX5_answer 56 = .ok (.ifCond .ne 12, 3) := by decide +kernel
theorem dX5_answer_59 : decode cX5_answer 59 = .ok (.aload_n 0, 1) := by decide +kernel
theorem dX5_answer_60 : decode cX5_answer 60 = .ok (.iload 4, 2) := by decide +kernel
theorem dX5_answer_62 : decode cX5_answer 62 = .ok (.invokevirtual 30, 3) := by decide +kernel
theorem dX5_answer_65 : decode cX5_answer 65 = .ok (.goto 75, 3) := by decide +kernel
theorem dX5_answer_68 : decode cX5_answer 68 = .ok (.iload_n 3, 1) := by decide +kernel
theorem dX5_answer_69 : decode cX5_answer 69 = .ok (.iconst 1, 1) := by decide +kernel
theorem dX5_answer_70 : decode cX5_answer 70 = .ok (.if_icmp .ne 25, 3) := by decide +kernel
theorem dX5_answer_73 : decode cX5_answer 73 = .ok (.aload_n 0, 1) := by decide +kernel
theorem dX5_answer_74 : decode cX5_answer 74 = .ok (.iload 4, 2) := by decide +kernel
theorem dX5_answer_76 : decode cX5_answer 76 = .ok (.aload_n 1, 1) := by decide +kernel
theorem dX5_answer_77 : decode cX5_answer 77 = .ok (.arraylength, 1) := by decide +kernel
theorem dX5_answer_78 : decode cX5_answer 78 = .ok (.if_icmp .ge 10, 3) := by decide +kernel
theorem dX5_answer_81 : decode cX5_answer 81 = .ok (.aload_n 1, 1) := by decide +kernel
theorem dX5_answer_82 : decode cX5_answer 82 = .ok (.iload 4, 2) := by decide +kernel
theorem dX5_answer_84 : decode cX5_answer 84 = .ok (.iaload, 1) := by decide +kernel
theorem dX5_answer_85 : decode cX5_answer 85 = .ok (.goto 4, 3) := by decide +kernel
theorem dX5_answer_88 : decode cX5_answer 88 = .ok (.iconst 0, 1) := by decide +kernel
theorem dX5_answer_89 : decode cX5_answer 89 = .ok (.invokevirtual 30, 3) := by decide +kernel
theorem dX5_answer_92 : decode cX5_answer 92 = .ok (.goto 48, 3) := by decide +kernel
theorem dX5_answer_95 : decode cX5_answer 95 = .ok (.iload_n 3, 1) := by decide +kernel
theorem dX5_answer_96 : decode cX5_answer 96 = .ok (.bipush 6, 2) := by decide +kernel
theorem dX5_answer_98 : decode cX5_answer 98 = .ok (.if_icmp .ne 22, 3) := by decide +kernel
theorem dX5_answer_101 : decode cX5_answer 101 = .ok (.aload_n 0, 1) := by decide +kernel
theorem dX5_answer_102 : decode cX5_answer 102 = .ok (.aload_n 0, 1) := by decide +kernel
theorem dX5_answer_103 : decode cX5_answer 103 = .ok (.invokevirtual 26, 3) := by decide +kernel
theorem dX5_answer_106 : decode cX5_answer 106 = .ok (.ifCond .ne 7, 3) := by decide +kernel
theorem dX5_answer_109 : decode cX5_answer 109 = .ok (.iconst 1, 1) := by decide +kernel
theorem dX5_answer_110 : decode cX5_answer 110 = .ok (.goto 4, 3) := by decide +kernel
theorem dX5_answer_113 : decode cX5_answer 113 = .ok (.iconst 0, 1) := by decide +kernel
theorem dX5_answer_114 : decode cX5_answer 114 = .ok (.invokevirtual 30, 3) := by decide +kernel
theorem dX5_answer_117 : decode cX5_answer 117 = .ok (.goto 23, 3) := by decide +kernel
theorem dX5_answer_120 : decode cX5_answer 120 = .ok (.aload_n 0, 1) := by decide +kernel
theorem dX5_answer_121 : decode cX5_answer 121 = .ok (.invokevirtual 26, 3) := by decide +kernel
theorem dX5_answer_124 : decode cX5_answer 124 = .ok (.istore 5, 2) := by decide +kernel
theorem dX5_answer_126 : decode cX5_answer 126 = .ok (.aload_n 0, 1) := by decide +kernel
theorem dX5_answer_127 : decode cX5_answer 127 = .ok (.iload_n 3, 1) := by decide +kernel
theorem dX5_answer_128 : decode cX5_answer 128 = .ok (.aload_n 0, 1) := by decide +kernel
theorem dX5_answer_129 : decode cX5_answer 129 = .ok (.invokevirtual 26, 3) := by decide +kernel
theorem dX5_answer_132 : decode cX5_answer 132 = .ok (.iload 5, 2) := by decide +kernel
theorem dX5_answer_134 : decode cX5_answer 134 = .ok (.invokestatic 34, 3) := by decide +kernel
theorem dX5_answer_137 : decode cX5_answer 137 = .ok (.invokevirtual 30, 3) := by decide +kernel
theorem dX5_answer_140 : decode cX5_answer 140 = .ok (.iinc 2 1, 3) := by decide +kernel
theorem dX5_answer_143 : decode cX5_answer 143 = .ok (.goto (-136), 3) := by decide +kernel
theorem dX5_answer_146 : decode cX5_answer 146 = .ok (.iconst 0, 1) := by decide +kernel
theorem dX5_answer_147 : decode cX5_answer 147 = .ok (.ireturn, 1) := by decide +kernel
def w_X5_answer_146  (h : AH) (Q : Int32 → AH → Prop) : Prop :=
  Q (0 : Int32) h
def w_X5_answer_140  (x52 : Int32 → AH → Prop) (x146 : AH → Prop) (k : Int32 → AH → Prop) (v0 : Nat) (v1 : Nat) (v2 : Int32) (h : AH) (Q : Int32 → AH → Prop) : Prop :=
  k (v2 + 1) h
def w_X5_answer_114  (x52 : Int32 → AH → Prop) (x146 : AH → Prop) (k : Int32 → AH → Prop) (v0 : Nat) (v1 : Nat) (v2 : Int32) (t0 : Nat) (t1 : Int32) (h : AH) (Q : Int32 → AH → Prop) : Prop :=
  vr h t0 5 (
  w_X5_put t0 t1 h (fun h =>
  w_X5_answer_140 x52 x146 k v0 v1 v2 h Q))
def w_X5_answer_89  (x52 : Int32 → AH → Prop) (x146 : AH → Prop) (k : Int32 → AH → Prop) (v0 : Nat) (v1 : Nat) (v2 : Int32) (t0 : Nat) (t1 : Int32) (h : AH) (Q : Int32 → AH → Prop) : Prop :=
  vr h t0 5 (
  w_X5_put t0 t1 h (fun h =>
  w_X5_answer_140 x52 x146 k v0 v1 v2 h Q))
def w_X5_answer_52  (v4 : Int32) (h : AH) (Q : Int32 → AH → Prop) : Prop :=
  Q v4 h
def w_X5_answer_7  (x52 : Int32 → AH → Prop) (x146 : AH → Prop) (k : Int32 → AH → Prop) (v0 : Nat) (v1 : Nat) (v2 : Int32) (h : AH) (Q : Int32 → AH → Prop) : Prop :=
  fN h v0 5 0 fun a1 =>
  al h a1 0 fun x2 =>
  br (x2 ≤ v2) (
    x146  h) (
    fN h v0 5 0 fun a3 =>
    aI h a3 v2 fun x4 =>
    bd (x4 / (1000 : Int32)) fun x5 =>
    fN h v0 5 0 fun a6 =>
    aI h a6 v2 fun x7 =>
    bd (jrem x7 (1000 : Int32)) fun x8 =>
    br (x5 = (10 : Int32)) (
      vr h v0 5 (
      w_X5_take v0 h (fun x15 h =>
      br (x15 = 0) (
        w_X5_answer_140 x52 x146 k v0 v1 v2 h Q) (
        x52 x8 h)))) (
      br (x5 = 0) (
        vr h v0 5 (
        w_X5_put v0 x8 h (fun h =>
        w_X5_answer_140 x52 x146 k v0 v1 v2 h Q))) (
        br (x5 = (1 : Int32)) (
          al h v1 0 fun x13 =>
          br (x13 ≤ x8) (
            w_X5_answer_89 x52 x146 k v0 v1 v2 v0 (0 : Int32) h Q) (
            aI h v1 x8 fun x14 =>
            w_X5_answer_89 x52 x146 k v0 v1 v2 v0 x14 h Q)) (
          br (x5 = (6 : Int32)) (
            vr h v0 5 (
            w_X5_take v0 h (fun x12 h =>
            br (x12 = 0) (
              w_X5_answer_114 x52 x146 k v0 v1 v2 v0 (1 : Int32) h Q) (
              w_X5_answer_114 x52 x146 k v0 v1 v2 v0 (0 : Int32) h Q)))) (
            vr h v0 5 (
            w_X5_take v0 h (fun x9 h =>
            vr h v0 5 (
            w_X5_take v0 h (fun x10 h =>
            w_X5_joinTwo x5 x10 x9 h (fun x11 h =>
            vr h v0 5 (
            w_X5_put v0 x11 h (fun h =>
            w_X5_answer_140 x52 x146 k v0 v1 v2 h Q))))))))))))
def w_X5_answer  (v0 : Nat) (v1 : Nat) (h : AH) (Q : Int32 → AH → Prop) : Prop :=
  uI h v0 5 2 (0 : Int32) fun h =>
  lp (fun (k2 : Int32 × AH → Prop) (s2 : Int32 × AH) => w_X5_answer_7  (fun (y4 : Int32) h => w_X5_answer_52 y4 h Q) (fun  h => w_X5_answer_146  h Q) (fun (y2 : Int32) h => k2 (y2, h)) v0 v1 s2.1 s2.2 Q) ((0 : Int32), h)
set_option maxRecDepth 100000 in
set_option maxHeartbeats 4000000 in
theorem s_X5_answer_146 {p : Program} {l : Launch} {e : Env} {s : State} {m : MethodId} {args : Array Value} {below : List Frame} {meth : Method} {c : Code} {g : GG}  {Q : Int32 → AH → Prop}  (C : CXT p l s m args meth c RX5 cX5_answer 6 g) (hr : meth.sig.returnType = (some .int))  : ∀  (h : AH), w_X5_answer_146  h Q → V p l e s m args below meth c g 1 0 0 6 0 0 (MQ below (QCx g (QI Q)) args s 0 0 (gA g)) 146 [] [] h := by
  intro  h hw
  refine v_iconst (v := 0) C dX5_answer_146 (by decide) ?_
  exact (rt_MQ C _).1 _ _ _ _ _ _ hr dX5_answer_147 (by decide) (by decide) ⟨_, rfl, hw⟩
set_option maxRecDepth 100000 in
set_option maxHeartbeats 4000000 in
theorem s_X5_answer_140 {p : Program} {l : Launch} {e : Env} {s : State} {m : MethodId} {args : Array Value} {below : List Frame} {meth : Method} {c : Code} {g : GG} {v0 : Nat} {v1 : Nat} {Q : Int32 → AH → Prop} {x52 : Int32 → AH → Prop} {x146 : AH → Prop} {k : Int32 → AH → Prop} (C : CXT p l s m args meth c RX5 cX5_answer 6 g) (hr : meth.sig.returnType = (some .int)) (hx52 : ∀ (y4 : Int32) (h : AH), x52 y4 h → V p l e s m args below meth c g 1 0 0 6 0 0 (MQ below (QCx g (QI Q)) args s 0 0 (gA g)) 52 [(4, .int y4)] [] h) (hx146 : ∀  (h : AH), x146  h → V p l e s m args below meth c g 1 0 0 6 0 0 (MQ below (QCx g (QI Q)) args s 0 0 (gA g)) 146 [] [] h) (hk : ∀ (y2 : Int32) (h : AH), k y2 h → V p l e s m args below meth c g 1 0 0 6 0 0 (MQ below (QCx g (QI Q)) args s 0 0 (gA g)) 7 [(0, .ref v0), (1, .ref v1), (2, .int y2)] [] h) : ∀ (v2 : Int32) (h : AH), w_X5_answer_140  x52 x146 k v0 v1 v2 h Q → V p l e s m args below meth c g 1 0 0 6 0 0 (MQ below (QCx g (QI Q)) args s 0 0 (gA g)) 140 [(0, .ref v0), (1, .ref v1), (2, .int v2)] [] h := by
  intro v2 h hw
  refine v_iinc (v := 1) (ls' := [(2, .int (v2 + 1)), (0, .ref v0), (1, .ref v1)]) C dX5_answer_140 2 rfl (by decide) (by decide) rfl ?_
  refine v_goto (tgt := 7) C dX5_answer_143 (by decide) ?_
  refine v_sub [1, 2, 0] rfl ?_
  exact hk _ _ hw
set_option maxRecDepth 100000 in
set_option maxHeartbeats 4000000 in
theorem s_X5_answer_114 {p : Program} {l : Launch} {e : Env} {s : State} {m : MethodId} {args : Array Value} {below : List Frame} {meth : Method} {c : Code} {g : GG} {v0 : Nat} {v1 : Nat} {Q : Int32 → AH → Prop} {x52 : Int32 → AH → Prop} {x146 : AH → Prop} {k : Int32 → AH → Prop} (C : CXT p l s m args meth c RX5 cX5_answer 6 g) (hr : meth.sig.returnType = (some .int)) (hx52 : ∀ (y4 : Int32) (h : AH), x52 y4 h → V p l e s m args below meth c g 1 0 0 6 0 0 (MQ below (QCx g (QI Q)) args s 0 0 (gA g)) 52 [(4, .int y4)] [] h) (hx146 : ∀  (h : AH), x146  h → V p l e s m args below meth c g 1 0 0 6 0 0 (MQ below (QCx g (QI Q)) args s 0 0 (gA g)) 146 [] [] h) (hk : ∀ (y2 : Int32) (h : AH), k y2 h → V p l e s m args below meth c g 1 0 0 6 0 0 (MQ below (QCx g (QI Q)) args s 0 0 (gA g)) 7 [(0, .ref v0), (1, .ref v1), (2, .int y2)] [] h) : ∀ (v2 : Int32) (t0 : Nat) (t1 : Int32) (h : AH), w_X5_answer_114  x52 x146 k v0 v1 v2 t0 t1 h Q → V p l e s m args below meth c g 1 0 0 6 0 0 (MQ below (QCx g (QI Q)) args s 0 0 (gA g)) 114 [(0, .ref v0), (1, .ref v1), (2, .int v2)] [.int t1, .ref t0] h := by
  intro v2 t0 t1 h hw
  refine w_callVv (st := []) C cl_X5_30 im_X5_put se_X5_put rfl hw.1 (s_X5_put hw.2) rfl dX5_answer_114 rfl (by decide) (by decide) (by decide) (by decide) (by decide) (fun h hw => ?_)
  refine v_goto (tgt := 140) C dX5_answer_117 (by decide) ?_
  exact s_X5_answer_140 C hr hx52 hx146 hk _ _ hw
set_option maxRecDepth 100000 in
set_option maxHeartbeats 4000000 in
theorem s_X5_answer_89 {p : Program} {l : Launch} {e : Env} {s : State} {m : MethodId} {args : Array Value} {below : List Frame} {meth : Method} {c : Code} {g : GG} {v0 : Nat} {v1 : Nat} {Q : Int32 → AH → Prop} {x52 : Int32 → AH → Prop} {x146 : AH → Prop} {k : Int32 → AH → Prop} (C : CXT p l s m args meth c RX5 cX5_answer 6 g) (hr : meth.sig.returnType = (some .int)) (hx52 : ∀ (y4 : Int32) (h : AH), x52 y4 h → V p l e s m args below meth c g 1 0 0 6 0 0 (MQ below (QCx g (QI Q)) args s 0 0 (gA g)) 52 [(4, .int y4)] [] h) (hx146 : ∀  (h : AH), x146  h → V p l e s m args below meth c g 1 0 0 6 0 0 (MQ below (QCx g (QI Q)) args s 0 0 (gA g)) 146 [] [] h) (hk : ∀ (y2 : Int32) (h : AH), k y2 h → V p l e s m args below meth c g 1 0 0 6 0 0 (MQ below (QCx g (QI Q)) args s 0 0 (gA g)) 7 [(0, .ref v0), (1, .ref v1), (2, .int y2)] [] h) : ∀ (v2 : Int32) (t0 : Nat) (t1 : Int32) (h : AH), w_X5_answer_89  x52 x146 k v0 v1 v2 t0 t1 h Q → V p l e s m args below meth c g 1 0 0 6 0 0 (MQ below (QCx g (QI Q)) args s 0 0 (gA g)) 89 [(0, .ref v0), (1, .ref v1), (2, .int v2)] [.int t1, .ref t0] h := by
  intro v2 t0 t1 h hw
  refine w_callVv (st := []) C cl_X5_30 im_X5_put se_X5_put rfl hw.1 (s_X5_put hw.2) rfl dX5_answer_89 rfl (by decide) (by decide) (by decide) (by decide) (by decide) (fun h hw => ?_)
  refine v_goto (tgt := 140) C dX5_answer_92 (by decide) ?_
  exact s_X5_answer_140 C hr hx52 hx146 hk _ _ hw
set_option maxRecDepth 100000 in
set_option maxHeartbeats 4000000 in
theorem s_X5_answer_52 {p : Program} {l : Launch} {e : Env} {s : State} {m : MethodId} {args : Array Value} {below : List Frame} {meth : Method} {c : Code} {g : GG}  {Q : Int32 → AH → Prop}  (C : CXT p l s m args meth c RX5 cX5_answer 6 g) (hr : meth.sig.returnType = (some .int))  : ∀ (v4 : Int32) (h : AH), w_X5_answer_52  v4 h Q → V p l e s m args below meth c g 1 0 0 6 0 0 (MQ below (QCx g (QI Q)) args s 0 0 (gA g)) 52 [(4, .int v4)] [] h := by
  intro v4 h hw
  refine v_iload C dX5_answer_52 0 rfl ?_
  exact (rt_MQ C _).1 _ _ _ _ _ _ hr dX5_answer_54 (by decide) (by decide) ⟨_, rfl, hw⟩
set_option maxRecDepth 100000 in
set_option maxHeartbeats 4000000 in
theorem s_X5_answer_7 {p : Program} {l : Launch} {e : Env} {s : State} {m : MethodId} {args : Array Value} {below : List Frame} {meth : Method} {c : Code} {g : GG} {v0 : Nat} {v1 : Nat} {Q : Int32 → AH → Prop} {x52 : Int32 → AH → Prop} {x146 : AH → Prop} {k : Int32 → AH → Prop} (C : CXT p l s m args meth c RX5 cX5_answer 6 g) (hr : meth.sig.returnType = (some .int)) (hx52 : ∀ (y4 : Int32) (h : AH), x52 y4 h → V p l e s m args below meth c g 1 0 0 6 0 0 (MQ below (QCx g (QI Q)) args s 0 0 (gA g)) 52 [(4, .int y4)] [] h) (hx146 : ∀  (h : AH), x146  h → V p l e s m args below meth c g 1 0 0 6 0 0 (MQ below (QCx g (QI Q)) args s 0 0 (gA g)) 146 [] [] h) (hk : ∀ (y2 : Int32) (h : AH), k y2 h → V p l e s m args below meth c g 1 0 0 6 0 0 (MQ below (QCx g (QI Q)) args s 0 0 (gA g)) 7 [(0, .ref v0), (1, .ref v1), (2, .int y2)] [] h) : ∀ (v2 : Int32) (h : AH), w_X5_answer_7  x52 x146 k v0 v1 v2 h Q → V p l e s m args below meth c g 1 0 0 6 0 0 (MQ below (QCx g (QI Q)) args s 0 0 (gA g)) 7 [(0, .ref v0), (1, .ref v1), (2, .int v2)] [] h := by
  intro v2 h hw
  refine v_iload_n C dX5_answer_7 2 rfl rfl ?_
  refine v_aload_n C dX5_answer_8 0 rfl rfl ?_
  refine w_getN C fl_X5_19 dX5_answer_9 rfl hw (fun a1 hw => ?_)
  refine w_alen C 0 (by decide) dX5_answer_12 hw (fun x2 hw => ?_)
  refine v_icmp_ge (tgt := 146) C dX5_answer_13 (by decide) (fun c_13 => ?_) (fun c_13 => ?_)
  · have hw := hw.1 c_13
    refine v_sub [] rfl ?_
    exact hx146  _ hw
  · have hw := hw.2 c_13
    refine v_aload_n C dX5_answer_16 0 rfl rfl ?_
    refine w_getN C fl_X5_19 dX5_answer_17 rfl hw (fun a3 hw => ?_)
    refine v_iload_n C dX5_answer_20 2 rfl rfl ?_
    refine w_iaload C dX5_answer_21 hw (fun x4 hw => ?_)
    refine v_sipush (v := 1000) C dX5_answer_22 (by decide) ?_
    refine v_idiv C dX5_answer_25 (by decide) ?_
    refine w_bd hw (fun x5 hw => ?_)
    refine v_istore_n (ls' := [(3, .int x5), (0, .ref v0), (1, .ref v1), (2, .int v2)]) C dX5_answer_26 rfl (by decide) rfl ?_
    refine v_aload_n C dX5_answer_27 1 rfl rfl ?_
    refine w_getN C fl_X5_19 dX5_answer_28 rfl hw (fun a6 hw => ?_)
    refine v_iload_n C dX5_answer_31 3 rfl rfl ?_
    refine w_iaload C dX5_answer_32 hw (fun x7 hw => ?_)
    refine v_sipush (v := 1000) C dX5_answer_33 (by decide) ?_
    refine v_irem C dX5_answer_36 (by decide) ?_
    refine w_bd hw (fun x8 hw => ?_)
    refine v_istore (ls' := [(4, .int x8), (3, .int x5), (0, .ref v0), (1, .ref v1), (2, .int v2)]) C dX5_answer_37 (by decide) rfl ?_
    refine v_iload_n C dX5_answer_39 1 rfl rfl ?_
    refine v_bipush (v := 10) C dX5_answer_40 (by decide) ?_
    refine v_icmp_ne (tgt := 55) C dX5_answer_42 (by decide) (fun c_42 => ?_) (fun c_42 => ?_)
    · have hw := hw.2 c_42
      refine v_iload_n C dX5_answer_55 1 rfl rfl ?_
      refine v_if_ne (tgt := 68) C dX5_answer_56 (by decide) (fun c_56 => ?_) (fun c_56 => ?_)
      · have hw := hw.2 c_56
        refine v_iload_n C dX5_answer_68 1 rfl rfl ?_
        refine v_iconst (v := 1) C dX5_answer_69 (by decide) ?_
        refine v_icmp_ne (tgt := 95) C dX5_answer_70 (by decide) (fun c_70 => ?_) (fun c_70 => ?_)
        · have hw := hw.2 c_70
          refine v_iload_n C dX5_answer_95 1 rfl rfl ?_
          refine v_bipush (v := 6) C dX5_answer_96 (by decide) ?_
          refine v_icmp_ne (tgt := 120) C dX5_answer_98 (by decide) (fun c_98 => ?_) (fun c_98 => ?_)
          · have hw := hw.2 c_98
            refine v_aload_n C dX5_answer_120 2 rfl rfl ?_
            refine w_callVi (st := []) C cl_X5_26 im_X5_take se_X5_take rfl hw.1 (s_X5_take hw.2) rfl dX5_answer_121 rfl (by decide) (by decide) (by decide) (by decide) (by decide) (fun x9 h hw => ?_)
            refine v_istore (ls' := [(5, .int x9), (4, .int x8), (3, .int x5), (0, .ref v0), (1, .ref v1), (2, .int v2)]) C dX5_answer_124 (by decide) rfl ?_
            refine v_aload_n C dX5_answer_126 3 rfl rfl ?_
            refine v_iload_n C dX5_answer_127 2 rfl rfl ?_
            refine v_aload_n C dX5_answer_128 3 rfl rfl ?_
            refine w_callVi (st := [.int x5, .ref v0]) C cl_X5_26 im_X5_take se_X5_take rfl hw.1 (s_X5_take hw.2) rfl dX5_answer_129 rfl (Nat.le_of_ble_eq_true rfl) (by decide) (by decide) (by decide) (by decide) (fun x10 h hw => ?_)
            refine v_iload C dX5_answer_132 0 rfl ?_
            refine w_callSi (st := [.ref v0]) C cl_X5_34 st_X5_joinTwo (s_X5_joinTwo hw) rfl dX5_answer_134 rfl (Nat.le_of_ble_eq_true rfl) (by decide) (by decide) (by decide) (by decide) (fun x11 h hw => ?_)
            refine w_callVv (st := []) C cl_X5_30 im_X5_put se_X5_put rfl hw.1 (s_X5_put hw.2) rfl dX5_answer_137 rfl (by decide) (by decide) (by decide) (by decide) (by decide) (fun h hw => ?_)
            refine v_sub [3, 4, 5] rfl ?_
            exact s_X5_answer_140 C hr hx52 hx146 hk _ _ hw
          · have hw := hw.1 c_98
            refine v_aload_n C dX5_answer_101 2 rfl rfl ?_
            refine v_aload_n C dX5_answer_102 2 rfl rfl ?_
            refine w_callVi (st := [.ref v0]) C cl_X5_26 im_X5_take se_X5_take rfl hw.1 (s_X5_take hw.2) rfl dX5_answer_103 rfl (Nat.le_of_ble_eq_true rfl) (by decide) (by decide) (by decide) (by decide) (fun x12 h hw => ?_)
            refine v_if_ne (tgt := 113) C dX5_answer_106 (by decide) (fun c_106 => ?_) (fun c_106 => ?_)
            · have hw := hw.2 c_106
              refine v_iconst (v := 0) C dX5_answer_113 (by decide) ?_
              refine v_sub [2, 3, 4] rfl ?_
              exact s_X5_answer_114 C hr hx52 hx146 hk _ _ _ _ hw
            · have hw := hw.1 c_106
              refine v_iconst (v := 1) C dX5_answer_109 (by decide) ?_
              refine v_goto (tgt := 114) C dX5_answer_110 (by decide) ?_
              refine v_sub [2, 3, 4] rfl ?_
              exact s_X5_answer_114 C hr hx52 hx146 hk _ _ _ _ hw
        · have hw := hw.1 c_70
          refine v_aload_n C dX5_answer_73 2 rfl rfl ?_
          refine v_iload C dX5_answer_74 0 rfl ?_
          refine v_aload_n C dX5_answer_76 3 rfl rfl ?_
          refine w_alen C 0 (by decide) dX5_answer_77 hw (fun x13 hw => ?_)
          refine v_icmp_ge (tgt := 88) C dX5_answer_78 (by decide) (fun c_78 => ?_) (fun c_78 => ?_)
          · have hw := hw.1 c_78
            refine v_iconst (v := 0) C dX5_answer_88 (by decide) ?_
            refine v_sub [2, 3, 4] rfl ?_
            exact s_X5_answer_89 C hr hx52 hx146 hk _ _ _ _ hw
          · have hw := hw.2 c_78
            refine v_aload_n C dX5_answer_81 3 rfl rfl ?_
            refine v_iload C dX5_answer_82 0 rfl ?_
            refine w_iaload C dX5_answer_84 hw (fun x14 hw => ?_)
            refine v_goto (tgt := 89) C dX5_answer_85 (by decide) ?_
            refine v_sub [2, 3, 4] rfl ?_
            exact s_X5_answer_89 C hr hx52 hx146 hk _ _ _ _ hw
      · have hw := hw.1 c_56
        refine v_aload_n C dX5_answer_59 2 rfl rfl ?_
        refine v_iload C dX5_answer_60 0 rfl ?_
        refine w_callVv (st := []) C cl_X5_30 im_X5_put se_X5_put rfl hw.1 (s_X5_put hw.2) rfl dX5_answer_62 rfl (by decide) (by decide) (by decide) (by decide) (by decide) (fun h hw => ?_)
        refine v_goto (tgt := 140) C dX5_answer_65 (by decide) ?_
        refine v_sub [2, 3, 4] rfl ?_
        exact s_X5_answer_140 C hr hx52 hx146 hk _ _ hw
    · have hw := hw.1 c_42
      refine v_aload_n C dX5_answer_45 2 rfl rfl ?_
      refine w_callVi (st := []) C cl_X5_26 im_X5_take se_X5_take rfl hw.1 (s_X5_take hw.2) rfl dX5_answer_46 rfl (by decide) (by decide) (by decide) (by decide) (by decide) (fun x15 h hw => ?_)
      refine v_if_eq (tgt := 140) C dX5_answer_49 (by decide) (fun c_49 => ?_) (fun c_49 => ?_)
      · have hw := hw.1 c_49
        refine v_sub [2, 3, 4] rfl ?_
        exact s_X5_answer_140 C hr hx52 hx146 hk _ _ hw
      · have hw := hw.2 c_49
        refine v_sub [0] rfl ?_
        exact hx52 _ _ hw
set_option maxRecDepth 100000 in
set_option maxHeartbeats 4000000 in
theorem s_X5_answer {l : Launch}  {v0 : Nat} {v1 : Nat} {h : AH} {Q : Int32 → AH → Prop}  (hw : w_X5_answer  v0 v1 h Q) : CT l yX5_answer cX5_answer 6 (some .int) 1 0 0 [.ref v0, .ref v1] h (QI Q) := by
  refine CT.of (by decide) ⟨rfl, ⟨rfl, trivial⟩⟩ (Nat.le_of_ble_eq_true rfl) ?_
  intro p e s m args below meth c g C hr hin
  refine v_eq (pc' := 0) (ls' := [(0, .ref v0), (1, .ref v1)]) rfl rfl rfl rfl ?_
  refine v_aload_n C dX5_answer_0 0 rfl rfl ?_
  refine v_iconst (v := 0) C dX5_answer_1 (by decide) ?_
  refine w_putI C fp_X5_22 (Or.inl rfl) dX5_answer_2 hw (fun h hw => ?_)
  refine v_iconst (v := 0) C dX5_answer_5 (by decide) ?_
  refine v_istore_n (ls' := [(2, .int (0 : Int32)), (0, .ref v0), (1, .ref v1)]) C dX5_answer_6 rfl (by decide) rfl ?_
  refine v_sub [1, 2, 0] rfl ?_
  refine lp_walk (P := fun (s' : Int32 × AH) => V p l e s m args below meth c g 1 0 0 6 0 0 (MQ below (QCx g (QI Q)) args s 0 0 (gA g)) 7 [(0, .ref v0), (1, .ref v1), (2, .int (s'.1))] [] s'.2) (fun k2 hk2 s' hw => ?_) ((0 : Int32), h) hw
  exact s_X5_answer_7 C hr (fun y4 h hw => s_X5_answer_52 C hr  _ h hw) (fun  h hw => s_X5_answer_146 C hr   h hw) (fun y2 h hw => hk2 (y2, h) hw) _ _ hw
