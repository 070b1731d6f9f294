theorem cl_X12_244 : CLk RX12 244 yX12_readLine cX12_readLine 3 (some .boolean) 1 := ⟨Or.inl (tb8 (List.mem_of_getElem? (i := 130) rfl)), (tb8 (List.mem_of_getElem? (i := 133) rfl)), (tb1 (List.mem_of_getElem? (i := 11) rfl)), by decide +kernel, by decide +kernel, by decide +kernel⟩
theorem im_X12_readLine : Cond.instanceMethod yX12_readLine ∈ lw_tbl := (tb8 (List.mem_of_getElem? (i := 132) rfl))
theorem se_X12_readLine : Cond.selects RX12 yX12_readLine yX12_readLine ∈ lw_tbl := (tbp5 10 rfl)
theorem cl_X12_247 : CLk RX12 247 yX12_uses cX12_uses 1 none 0 := ⟨Or.inl (tb8 (List.mem_of_getElem? (i := 22) rfl)), (tb8 (List.mem_of_getElem? (i := 25) rfl)), (tb1 (List.mem_of_getElem? (i := 11) rfl)), by decide +kernel, by decide +kernel, by decide +kernel⟩
theorem im_X12_uses : Cond.instanceMethod yX12_uses ∈ lw_tbl := (tb8 (List.mem_of_getElem? (i := 24) rfl))
theorem se_X12_uses : Cond.selects RX12 yX12_uses yX12_uses ∈ lw_tbl := (tbp4 6 rfl)
theorem fp_X12_151 : FPk RX12 151 12 13 (RX12, TX12, 28) tyX12 1 := ⟨fl_X12_151, nmX12, tyX12_ok, Or.inr (Or.inl ⟨rfl, rfl, rfl⟩)⟩
theorem cl_X12_253 : CLk RX12 253 yX12_readAll cX12_readAll 2 (some .int) 0 := ⟨Or.inl (tb8 (List.mem_of_getElem? (i := 126) rfl)), (tb8 (List.mem_of_getElem? (i := 129) rfl)), (tb1 (List.mem_of_getElem? (i := 11) rfl)), by decide +kernel, by decide +kernel, by decide +kernel⟩
theorem im_X12_readAll : Cond.instanceMethod yX12_readAll ∈ lw_tbl := (tb8 (List.mem_of_getElem? (i := 128) rfl))
theorem se_X12_readAll : Cond.selects RX12 yX12_readAll yX12_readAll ∈ lw_tbl := (tbp5 9 rfl)
theorem cl_X12_250 : CLk RX12 250 yX12_readOne cX12_readOne 2 (some .int) 0 := ⟨Or.inl (tb8 (List.mem_of_getElem? (i := 26) rfl)), (tb8 (List.mem_of_getElem? (i := 29) rfl)), (tb1 (List.mem_of_getElem? (i := 11) rfl)), by decide +kernel, by decide +kernel, by decide +kernel⟩
theorem im_X12_readOne : Cond.instanceMethod yX12_readOne ∈ lw_tbl := (tb8 (List.mem_of_getElem? (i := 28) rfl))
theorem se_X12_readOne : Cond.selects RX12 yX12_readOne yX12_readOne ∈ lw_tbl := (tbp4 7 rfl)
theorem cl_X12_260 : CLk RX12 260 yX12_keeps cX12_keeps 3 none 1 := ⟨Or.inl (tb8 (List.mem_of_getElem? (i := 140) rfl)), (tb8 (List.mem_of_getElem? (i := 143) rfl)), (tb1 (List.mem_of_getElem? (i := 11) rfl)), by decide +kernel, by decide +kernel, by decide +kernel⟩
theorem im_X12_keeps : Cond.instanceMethod yX12_keeps ∈ lw_tbl := (tb8 (List.mem_of_getElem? (i := 142) rfl))
theorem se_X12_keeps : Cond.selects RX12 yX12_keeps yX12_keeps ∈ lw_tbl := (tbp5 11 rfl)
theorem cl_X12_256 : CLk RX12 256 yX12_reads cX12_reads 3 (some .boolean) 1 := ⟨Or.inl (tb8 (List.mem_of_getElem? (i := 18) rfl)), (tb8 (List.mem_of_getElem? (i := 21) rfl)), (tb1 (List.mem_of_getElem? (i := 11) rfl)), by decide +kernel, by decide +kernel, by decide +kernel⟩
theorem im_X12_reads : Cond.instanceMethod yX12_reads ∈ lw_tbl := (tb8 (List.mem_of_getElem? (i := 20) rfl))
theorem se_X12_reads : Cond.selects RX12 yX12_reads yX12_reads ∈ lw_tbl := (tbp4 5 rfl)
-- GrassFieldModel.readOne()I
theorem dX12_readOne_0 : decode cX12_readOne 0 = .ok (.bipush 9, 2) := by decide +kernel
theorem dX12_readOne_2 : decode cX12_readOne 2 = .ok (.iconst 0, 1) := by decide +kernel
theorem dX12_readOne_3 : decode cX12_readOne 3 = .ok (.invokestatic 229, 3) := by decide +kernel
theorem dX12_readOne_6 : decode cX12_readOne 6 = .ok (.istore_n 1, 1) := by decide +kernel
theorem dX12_readOne_7 : decode cX12_readOne 7 = .ok (.aload_n 0, 1) := by decide +kernel
theorem dX12_readOne_8 : decode cX12_readOne 8 = .ok (.getfield 13, 3) := by decide +kernel
theorem dX12_readOne_11 : decode cX12_readOne 11 = .ok (.iload_n 1, 1) := by decide +kernel
theorem dX12_readOne_12 : decode cX12_readOne 12 = .ok (.iconst 1, 1) := by decide +kernel
theorem dX12_readOne_13 : decode cX12_readOne 13 = .ok (.iadd, 1) := by decide +kernel
theorem dX12_readOne_14 : decode cX12_readOne 14 = .ok (.iconst 0, 1) := by decide +kernel
theorem dX12_readOne_15 : decode cX12_readOne 15 = .ok (.iastore, 1) := by decide +kernel
theorem dX12_readOne_16 : decode cX12_readOne 16 = .ok (.aload_n 0, 1) := by decide +kernel
theorem dX12_readOne_17 : decode cX12_readOne 17 = .ok (.invokevirtual 205, 3) := by decide +kernel
theorem dX12_readOne_20 : decode cX12_readOne 20 = .ok (.ifCond .ne 5, 3) := by decide +kernel
theorem dX12_readOne_23 : decode cX12_readOne 23 = .ok (.iconst (-1), 1) := by decide +kernel
theorem dX12_readOne_24 : decode cX12_readOne 24 = .ok (.ireturn, 1) := by decide +kernel
theorem dX12_readOne_25 : decode cX12_readOne 25 = .ok (.aload_n 0, 1) := by decide +kernel
theorem dX12_readOne_26 : decode cX12_readOne 26 = .ok (.getfield 13, 3) := by decide +kernel
theorem dX12_readOne_29 : decode cX12_readOne 29 = .ok (.iload_n 1, 1) := by decide +kernel
theorem dX12_readOne_30 : decode cX12_readOne 30 = .ok (.iconst 2, 1) := by decide +kernel
theorem dX12_readOne_31 : decode cX12_readOne 31 = .ok (.iadd, 1) := by decide +kernel
theorem dX12_readOne_32 : decode cX12_readOne 32 = .ok (.aload_n 0, 1) := by decide +kernel
theorem dX12_readOne_33 : decode cX12_readOne 33 = .ok (.getfield 112, 3) := by decide +kernel
theorem dX12_readOne_36 : decode cX12_readOne 36 = .ok (.iastore, 1) := by decide +kernel
theorem dX12_readOne_37 : decode cX12_readOne 37 = .ok (.aload_n 0, 1) := by decide +kernel
theorem dX12_readOne_38 : decode cX12_readOne 38 = .ok (.invokevirtual 124, 3) := by decide +kernel
theorem dX12_readOne_41 : decode cX12_readOne 41 = .ok (.aload_n 0, 1) := by decide +kernel
theorem dX12_readOne_42 : decode cX12_readOne 42 = .ok (.getfield 109, 3) := by decide +kernel
theorem dX12_readOne_45 : decode cX12_readOne 45 = .ok (.aload_n 0, 1) := by decide +kernel
theorem dX12_readOne_46 : decode cX12_readOne 46 = .ok (.getfield 106, 3) := by decide +kernel
theorem dX12_readOne_49 : decode cX12_readOne 49 = .ok (.if_icmp .ne 7, 3) := by decide +kernel
theorem dX12_readOne_52 : decode cX12_readOne 52 = .ok (.iconst 1, 1) := by decide +kernel
theorem dX12_readOne_53 : decode cX12_readOne 53 = .ok (.goto 4, 3) := by decide +kernel
theorem dX12_readOne_56 : decode cX12_readOne 56 = .ok (.iconst (-1), 1) := by decide +kernel
theorem dX12_readOne_57 : decode cX12_readOne 57 = .ok (.ireturn, 1) := by decide +kernel
def w_X12_readOne_57  (t0 : Int32) (h : AH) (Q : Int32 → AH → Prop) : Prop :=
  Q t0 h
def w_X12_readOne  (v0 : Nat) (h : AH) (Q : Int32 → AH → Prop) : Prop :=
  w_X12_lineAt (9 : Int32) (0 : Int32) h (fun x1 h =>
  fN h v0 12 1 fun a2 =>
  tI h a2 (x1 + (1 : Int32)) (0 : Int32) fun h =>
  vr h v0 12 (
  w_X12_readCond v0 h (fun x3 h =>
  br (x3 = 0) (
    Q (-1 : Int32) h) (
    fN h v0 12 1 fun a4 =>
    fI h v0 12 12 fun x5 =>
    tI h a4 (x1 + (2 : Int32)) x5 fun h =>
    vr h v0 12 (
    w_X12_blanks v0 h (fun h =>
    fI h v0 12 6 fun x6 =>
    fI h v0 12 7 fun x7 =>
    br (x6 = x7) (
      w_X12_readOne_57 (1 : Int32) h Q) (
      w_X12_readOne_57 (-1 : Int32) h Q)))))))
set_option maxRecDepth 100000 in
set_option maxHeartbeats 4000000 in
theorem s_X12_readOne_57 {p : Program} {l : Launch} {e : Env} {s : State} {m : MethodId} {args : Array Value} {below : List Frame} {meth : Method} {c : Code} {g : GG}  {Q : Int32 → AH → Prop}  (C : CXT p l s m args meth c RX12 cX12_readOne 2 g) (hr : meth.sig.returnType = (some .int))  : ∀ (t0 : Int32) (h : AH), w_X12_readOne_57  t0 h Q → V p l e s m args below meth c g 50 0 0 2 0 0 (MQ below (QCx g (QI Q)) args s 0 0 (gA g)) 57 [] [.int t0] h := by
  intro t0 h hw
  exact (rt_MQ C _).1 _ _ _ _ _ _ hr dX12_readOne_57 (by decide) (by decide) ⟨_, rfl, hw⟩
set_option maxRecDepth 100000 in
set_option maxHeartbeats 4000000 in
theorem s_X12_readOne {l : Launch}  {v0 : Nat} {h : AH} {Q : Int32 → AH → Prop}  (hw : w_X12_readOne  v0 h Q) : CT l yX12_readOne cX12_readOne 2 (some .int) 50 0 0 [.ref v0] h (QI Q) := by
  refine CT.of (by decide) ⟨rfl, trivial⟩ (Nat.le_of_ble_eq_true rfl) ?_
  intro p e s m args below meth c g C hr hin
  refine v_eq (pc' := 0) (ls' := [(0, .ref v0)]) rfl rfl rfl rfl ?_
  refine v_bipush (v := 9) C dX12_readOne_0 (by decide) ?_
  refine v_iconst (v := 0) C dX12_readOne_2 (by decide) ?_
  refine w_callSi (st := []) C cl_X12_229 st_X12_lineAt (s_X12_lineAt hw) rfl dX12_readOne_3 rfl (by decide) (by decide) (by decide) (by decide) (by decide) (fun x1 h hw => ?_)
  refine v_istore_n (ls' := [(1, .int x1), (0, .ref v0)]) C dX12_readOne_6 rfl (by decide) rfl ?_
  refine v_aload_n C dX12_readOne_7 1 rfl rfl ?_
  refine w_getN C fl_X12_13 dX12_readOne_8 rfl hw (fun a2 hw => ?_)
  refine v_iload_n C dX12_readOne_11 0 rfl rfl ?_
  refine v_iconst (v := 1) C dX12_readOne_12 (by decide) ?_
  refine v_iadd C dX12_readOne_13 ?_
  refine v_iconst (v := 0) C dX12_readOne_14 (by decide) ?_
  refine w_iastore C dX12_readOne_15 hw (fun h hw => ?_)
  refine v_aload_n C dX12_readOne_16 1 rfl rfl ?_
  refine w_callVi (st := []) C cl_X12_205 im_X12_readCond se_X12_readCond rfl hw.1 (s_X12_readCond hw.2) rfl dX12_readOne_17 rfl (by decide) (by decide) (by decide) (by decide) (by decide) (fun x3 h hw => ?_)
  refine v_if_ne (tgt := 25) C dX12_readOne_20 (by decide) (fun c_20 => ?_) (fun c_20 => ?_)
  · have hw := hw.2 c_20
    refine v_aload_n C dX12_readOne_25 1 rfl rfl ?_
    refine w_getN C fl_X12_13 dX12_readOne_26 rfl hw (fun a4 hw => ?_)
    refine v_iload_n C dX12_readOne_29 0 rfl rfl ?_
    refine v_iconst (v := 2) C dX12_readOne_30 (by decide) ?_
    refine v_iadd C dX12_readOne_31 ?_
    refine v_aload_n C dX12_readOne_32 1 rfl rfl ?_
    refine w_getI C fl_X12_112 dX12_readOne_33 rfl hw (fun x5 hw => ?_)
    refine w_iastore C dX12_readOne_36 hw (fun h hw => ?_)
    refine v_aload_n C dX12_readOne_37 1 rfl rfl ?_
    refine w_callVv (st := []) C cl_X12_124 im_X12_blanks se_X12_blanks rfl hw.1 (s_X12_blanks hw.2) rfl dX12_readOne_38 rfl (by decide) (by decide) (by decide) (by decide) (by decide) (fun h hw => ?_)
    refine v_aload_n C dX12_readOne_41 1 rfl rfl ?_
    refine w_getI C fl_X12_109 dX12_readOne_42 rfl hw (fun x6 hw => ?_)
    refine v_aload_n C dX12_readOne_45 1 rfl rfl ?_
    refine w_getI C fl_X12_106 dX12_readOne_46 rfl hw (fun x7 hw => ?_)
    refine v_icmp_ne (tgt := 56) C dX12_readOne_49 (by decide) (fun c_49 => ?_) (fun c_49 => ?_)
    · have hw := hw.2 c_49
      refine v_iconst (v := -1) C dX12_readOne_56 (by decide) ?_
      refine v_sub [] rfl ?_
      exact s_X12_readOne_57 C hr  _ _ hw
    · have hw := hw.1 c_49
      refine v_iconst (v := 1) C dX12_readOne_52 (by decide) ?_
      refine v_goto (tgt := 57) C dX12_readOne_53 (by decide) ?_
      refine v_sub [] rfl ?_
      exact s_X12_readOne_57 C hr  _ _ hw
  · have hw := hw.1 c_20
    refine v_iconst (v := -1) C dX12_readOne_23 (by decide) ?_
    exact (rt_MQ C _).1 _ _ _ _ _ _ hr dX12_readOne_24 (by decide) (by decide) ⟨_, rfl, hw⟩
-- GrassFieldModel.readLine(I)Z
theorem dX12_readLine_0 : decode cX12_readLine 0 = .ok (.aload_n 0, 1) := by decide +kernel
theorem dX12_readLine_1 : decode cX12_readLine 1 = .ok (.invokevirtual 137, 3) := by decide +kernel
theorem dX12_readLine_4 : decode cX12_readLine 4 = .ok (.iload_n 1, 1) := by decide +kernel
theorem dX12_readLine_5 : decode cX12_readLine 5 = .ok (.bipush 10, 2) := by decide +kernel
theorem dX12_readLine_7 : decode cX12_readLine 7 = .ok (.if_icmp .ne 5, 3) := by decide +kernel
theorem dX12_readLine_10 : decode cX12_readLine 10 = .ok (.iconst 0, 1) := by decide +kernel
theorem dX12_readLine_11 : decode cX12_readLine 11 = .ok (.ireturn, 1) := by decide +kernel
theorem dX12_readLine_12 : decode cX12_readLine 12 = .ok (.bipush 9, 2) := by decide +kernel
theorem dX12_readLine_14 : decode cX12_readLine 14 = .ok (.iload_n 1, 1) := by decide +kernel
theorem dX12_readLine_15 : decode cX12_readLine 15 = .ok (.invokestatic 229, 3) := by decide +kernel
theorem dX12_readLine_18 : decode cX12_readLine 18 = .ok (.istore_n 2, 1) := by decide +kernel
theorem dX12_readLine_19 : decode cX12_readLine 19 = .ok (.aload_n 0, 1) := by decide +kernel
theorem dX12_readLine_20 : decode cX12_readLine 20 = .ok (.getfield 13, 3) := by decide +kernel
theorem dX12_readLine_23 : decode cX12_readLine 23 = .ok (.iload_n 2, 1) := by decide +kernel
theorem dX12_readLine_24 : decode cX12_readLine 24 = .ok (.aload_n 0, 1) := by decide +kernel
theorem dX12_readLine_25 : decode cX12_readLine 25 = .ok (.ldc 232, 2) := by decide +kernel
theorem dX12_readLine_27 : decode cX12_readLine 27 = .ok (.invokevirtual 140, 3) := by decide +kernel
theorem dX12_readLine_30 : decode cX12_readLine 30 = .ok (.ifCond .eq 7, 3) := by decide +kernel
theorem dX12_readLine_33 : decode cX12_readLine 33 = .ok (.iconst 0, 1) := by decide +kernel
theorem dX12_readLine_34 : decode cX12_readLine 34 = .ok (.goto 56, 3) := by decide +kernel
theorem dX12_readLine_37 : decode cX12_readLine 37 = .ok (.aload_n 0, 1) := by decide +kernel
theorem dX12_readLine_38 : decode cX12_readLine 38 = .ok (.ldc 234, 2) := by decide +kernel
theorem dX12_readLine_40 : decode cX12_readLine 40 = .ok (.invokevirtual 140, 3) := by decide +kernel
theorem dX12_readLine_43 : decode cX12_readLine 43 = .ok (.ifCond .eq 7, 3) := by decide +kernel
theorem dX12_readLine_46 : decode cX12_readLine 46 = .ok (.iconst 1, 1) := by decide +kernel
theorem dX12_readLine_47 : decode cX12_readLine 47 = .ok (.goto 43, 3) := by decide +kernel
theorem dX12_readLine_50 : decode cX12_readLine 50 = .ok (.aload_n 0, 1) := by decide +kernel
theorem dX12_readLine_51 : decode cX12_readLine 51 = .ok (.ldc 236, 2) := by decide +kernel
theorem dX12_readLine_53 : decode cX12_readLine 53 = .ok (.invokevirtual 140, 3) := by decide +kernel
theorem dX12_readLine_56 : decode cX12_readLine 56 = .ok (.ifCond .eq 7, 3) := by decide +kernel
theorem dX12_readLine_59 : decode cX12_readLine 59 = .ok (.iconst 2, 1) := by decide +kernel
theorem dX12_readLine_60 : decode cX12_readLine 60 = .ok (.goto 30, 3) := by decide +kernel
theorem dX12_readLine_63 : decode cX12_readLine 63 = .ok (.aload_n 0, 1) := by decide +kernel
theorem dX12_readLine_64 : decode cX12_readLine 64 = .ok (.ldc 238, 2) := by decide +kernel
theorem dX12_readLine_66 : decode cX12_readLine 66 = .ok (.invokevirtual 140, 3) := by decide +kernel
theorem dX12_readLine_69 : decode cX12_readLine 69 = .ok (.ifCond .eq 7, 3) := by decide +kernel
theorem dX12_readLine_72 : decode cX12_readLine 72 = .ok (.iconst 3, 1) := by decide +kernel
theorem dX12_readLine_73 : decode cX12_readLine 73 = .ok (.goto 17, 3) := by decide +kernel
theorem dX12_readLine_76 : decode cX12_readLine 76 = .ok (.aload_n 0, 1) := by decide +kernel
theorem dX12_readLine_77 : decode cX12_readLine 77 = .ok (.ldc 240, 2) := by decide +kernel
theorem dX12_readLine_79 : decode cX12_readLine 79 = .ok (.invokevirtual 140, 3) := by decide +kernel
theorem dX12_readLine_82 : decode cX12_readLine 82 = .ok (.ifCond .eq 7, 3) := by decide +kernel
theorem dX12_readLine_85 : decode cX12_readLine 85 = .ok (.iconst 4, 1) := by decide +kernel
theorem dX12_readLine_86 : decode cX12_readLine 86 = .ok (.goto 4, 3) := by decide +kernel
theorem dX12_readLine_89 : decode cX12_readLine 89 = .ok (.iconst (-1), 1) := by decide +kernel
theorem dX12_readLine_90 : decode cX12_readLine 90 = .ok (.iastore, 1) := by decide +kernel
theorem dX12_readLine_91 : decode cX12_readLine 91 = .ok (.aload_n 0, 1) := by decide +kernel
theorem dX12_readLine_92 : decode cX12_readLine 92 = .ok (.getfield 13, 3) := by decide +kernel
theorem dX12_readLine_95 : decode cX12_readLine 95 = .ok (.iload_n 2, 1) := by decide +kernel
theorem dX12_readLine_96 : decode cX12_readLine 96 = .ok (.iaload, 1) := by decide +kernel
theorem dX12_readLine_97 : decode cX12_readLine 97 = .ok (.ifCond .ge 5, 3) := by decide +kernel
theorem dX12_readLine_100 : decode cX12_readLine 100 = .ok (.iconst 0, 1) := by decide +kernel
theorem dX12_readLine_101 : decode cX12_readLine 101 = .ok (.ireturn, 1) := by decide +kernel
theorem dX12_readLine_102 : decode cX12_readLine 102 = .ok (.aload_n 0, 1) := by decide +kernel
theorem dX12_readLine_103 : decode cX12_readLine 103 = .ok (.getfield 13, 3) := by decide +kernel
theorem dX12_readLine_106 : decode cX12_readLine 106 = .ok (.iload_n 2, 1) := by decide +kernel
theorem dX12_readLine_107 : decode cX12_readLine 107 = .ok (.iconst 1, 1) := by decide +kernel
theorem dX12_readLine_108 : decode cX12_readLine 108 = .ok (.iadd, 1) := by decide +kernel
theorem dX12_readLine_109 : decode cX12_readLine 109 = .ok (.aload_n 0, 1) := by decide +kernel
theorem dX12_readLine_110 : decode cX12_readLine 110 = .ok (.getfield 112, 3) := by decide +kernel
theorem dX12_readLine_113 : decode cX12_readLine 113 = .ok (.iastore, 1) := by decide +kernel
theorem dX12_readLine_114 : decode cX12_readLine 114 = .ok (.aload_n 0, 1) := by decide +kernel
theorem dX12_readLine_115 : decode cX12_readLine 115 = .ok (.iconst 0, 1) := by decide +kernel
theorem dX12_readLine_116 : decode cX12_readLine 116 = .ok (.putfield 115, 3) := by decide +kernel
theorem dX12_readLine_119 : decode cX12_readLine 119 = .ok (.aload_n 0, 1) := by decide +kernel
theorem dX12_readLine_120 : decode cX12_readLine 120 = .ok (.ldc 242, 2) := by decide +kernel
theorem dX12_readLine_122 : decode cX12_readLine 122 = .ok (.invokevirtual 210, 3) := by decide +kernel
theorem dX12_readLine_125 : decode cX12_readLine 125 = .ok (.ifCond .eq 12, 3) := by decide +kernel
theorem dX12_readLine_128 : decode cX12_readLine 128 = .ok (.aload_n 0, 1) := by decide +kernel
theorem dX12_readLine_129 : decode cX12_readLine 129 = .ok (.invokevirtual 205, 3) := by decide +kernel
theorem dX12_readLine_132 : decode cX12_readLine 132 = .ok (.ifCond .ne 5, 3) := by decide +kernel
theorem dX12_readLine_135 : decode cX12_readLine 135 = .ok (.iconst 0, 1) := by decide +kernel
theorem dX12_readLine_136 : decode cX12_readLine 136 = .ok (.ireturn, 1) := by decide +kernel
theorem dX12_readLine_137 : decode cX12_readLine 137 = .ok (.aload_n 0, 1) := by decide +kernel
theorem dX12_readLine_138 : decode cX12_readLine 138 = .ok (.getfield 13, 3) := by decide +kernel
theorem dX12_readLine_141 : decode cX12_readLine 141 = .ok (.iload_n 2, 1) := by decide +kernel
theorem dX12_readLine_142 : decode cX12_readLine 142 = .ok (.iconst 2, 1) := by decide +kernel
theorem dX12_readLine_143 : decode cX12_readLine 143 = .ok (.iadd, 1) := by decide +kernel
theorem dX12_readLine_144 : decode cX12_readLine 144 = .ok (.aload_n 0, 1) := by decide +kernel
theorem dX12_readLine_145 : decode cX12_readLine 145 = .ok (.getfield 112, 3) := by decide +kernel
theorem dX12_readLine_148 : decode cX12_readLine 148 = .ok (.iastore, 1) := by decide +kernel
theorem dX12_readLine_149 : decode cX12_readLine 149 = .ok (.iconst 1, 1) := by decide +kernel
theorem dX12_readLine_150 : decode cX12_readLine 150 = .ok (.ireturn, 1) := by decide +kernel
def w_X12_readLine_137  (v0 : Nat) (v2 : Int32) (h : AH) (Q : Int32 → AH → Prop) : Prop :=
  fN h v0 12 1 fun a1 =>
  fI h v0 12 12 fun x2 =>
  tI h a1 (v2 + (2 : Int32)) x2 fun h =>
  Q (1 : Int32) h
def w_X12_readLine_90  (v0 : Nat) (v2 : Int32) (t0 : Nat) (t1 : Int32) (t2 : Int32) (h : AH) (Q : Int32 → AH → Prop) : Prop :=
  tI h t0 t1 t2 fun h =>
  fN h v0 12 1 fun a1 =>
  aI h a1 v2 fun x2 =>
  br (0 ≤ x2) (
    fN h v0 12 1 fun a3 =>
    fI h v0 12 12 fun x4 =>
    tI h a3 (v2 + (1 : Int32)) x4 fun h =>
    uI h v0 12 9 (0 : Int32) fun h =>
    sc h 33 fun a5 =>
    vr h v0 12 (
    w_X12_passes v0 a5 h (fun x6 h =>
    br (x6 = 0) (
      w_X12_readLine_137 v0 v2 h Q) (
      vr h v0 12 (
      w_X12_readCond v0 h (fun x7 h =>
      br (x7 = 0) (
        Q (0 : Int32) h) (
        w_X12_readLine_137 v0 v2 h Q))))))) (
    Q (0 : Int32) h)
def w_X12_readLine  (v0 : Nat) (v1 : Int32) (h : AH) (Q : Int32 → AH → Prop) : Prop :=
  vr h v0 12 (
  w_X12_letters v0 h (fun h =>
  br (v1 = (10 : Int32)) (
    Q (0 : Int32) h) (
    w_X12_lineAt (9 : Int32) v1 h (fun x1 h =>
    fN h v0 12 1 fun a2 =>
    sc h 28 fun a3 =>
    vr h v0 12 (
    w_X12_isWord v0 a3 h (fun x4 h =>
    br (x4 = 0) (
      sc h 29 fun a5 =>
      vr h v0 12 (
      w_X12_isWord v0 a5 h (fun x6 h =>
      br (x6 = 0) (
        sc h 30 fun a7 =>
        vr h v0 12 (
        w_X12_isWord v0 a7 h (fun x8 h =>
        br (x8 = 0) (
          sc h 31 fun a9 =>
          vr h v0 12 (
          w_X12_isWord v0 a9 h (fun x10 h =>
          br (x10 = 0) (
            sc h 32 fun a11 =>
            vr h v0 12 (
            w_X12_isWord v0 a11 h (fun x12 h =>
            br (x12 = 0) (
              w_X12_readLine_90 v0 x1 a2 x1 (-1 : Int32) h Q) (
              w_X12_readLine_90 v0 x1 a2 x1 (4 : Int32) h Q)))) (
            w_X12_readLine_90 v0 x1 a2 x1 (3 : Int32) h Q)))) (
          w_X12_readLine_90 v0 x1 a2 x1 (2 : Int32) h Q)))) (
        w_X12_readLine_90 v0 x1 a2 x1 (1 : Int32) h Q)))) (
      w_X12_readLine_90 v0 x1 a2 x1 (0 : Int32) h Q)))))))
set_option maxRecDepth 100000 in
set_option maxHeartbeats 4000000 in
theorem s_X12_readLine_137 {p : Program} {l : Launch} {e : Env} {s : State} {m : MethodId} {args : Array Value} {below : List Frame} {meth : Method} {c : Code} {g : GG}  {Q : Int32 → AH → Prop}  (C : CXT p l s m args meth c RX12 cX12_readLine 3 g) (hr : meth.sig.returnType = (some .boolean))  : ∀ (v0 : Nat) (v2 : Int32) (h : AH), w_X12_readLine_137  v0 v2 h Q → V p l e s m args below meth c g 50 0 0 3 0 0 (MQ below (QCx g (QI Q)) args s 0 0 (gA g)) 137 [(0, .ref v0), (2, .int v2)] [] h := by
  intro v0 v2 h hw
  refine v_aload_n C dX12_readLine_137 0 rfl rfl ?_
  refine w_getN C fl_X12_13 dX12_readLine_138 rfl hw (fun a1 hw => ?_)
  refine v_iload_n C dX12_readLine_141 1 rfl rfl ?_
  refine v_iconst (v := 2) C dX12_readLine_142 (by decide) ?_
  refine v_iadd C dX12_readLine_143 ?_
  refine v_aload_n C dX12_readLine_144 0 rfl rfl ?_
  refine w_getI C fl_X12_112 dX12_readLine_145 rfl hw (fun x2 hw => ?_)
  refine w_iastore C dX12_readLine_148 hw (fun h hw => ?_)
  refine v_iconst (v := 1) C dX12_readLine_149 (by decide) ?_
  exact (rt_MQ C _).2.1 _ _ _ _ _ _ _ hr rfl dX12_readLine_150 (by decide) (by decide) ⟨_, rfl, hw⟩
set_option maxRecDepth 100000 in
set_option maxHeartbeats 4000000 in
theorem s_X12_readLine_90 {p : Program} {l : Launch} {e : Env} {s : State} {m : MethodId} {args : Array Value} {below : List Frame} {meth : Method} {c : Code} {g : GG}  {Q : Int32 → AH → Prop}  (C : CXT p l s m args meth c RX12 cX12_readLine 3 g) (hr : meth.sig.returnType = (some .boolean))  : ∀ (v0 : Nat) (v2 : Int32) (t0 : Nat) (t1 : Int32) (t2 : Int32) (h : AH), w_X12_readLine_90  v0 v2 t0 t1 t2 h Q → V p l e s m args below meth c g 50 0 0 3 0 0 (MQ below (QCx g (QI Q)) args s 0 0 (gA g)) 90 [(0, .ref v0), (2, .int v2)] [.int t2, .int t1, .ref t0] h := by
  intro v0 v2 t0 t1 t2 h hw
  refine w_iastore C dX12_readLine_90 hw (fun h hw => ?_)
  refine v_aload_n C dX12_readLine_91 0 rfl rfl ?_
  refine w_getN C fl_X12_13 dX12_readLine_92 rfl hw (fun a1 hw => ?_)
  refine v_iload_n C dX12_readLine_95 1 rfl rfl ?_
  refine w_iaload C dX12_readLine_96 hw (fun x2 hw => ?_)
  refine v_if_ge (tgt := 102) C dX12_readLine_97 (by decide) (fun c_97 => ?_) (fun c_97 => ?_)
  · have hw := hw.1 c_97
    refine v_aload_n C dX12_readLine_102 0 rfl rfl ?_
    refine w_getN C fl_X12_13 dX12_readLine_103 rfl hw (fun a3 hw => ?_)
    refine v_iload_n C dX12_readLine_106 1 rfl rfl ?_
    refine v_iconst (v := 1) C dX12_readLine_107 (by decide) ?_
    refine v_iadd C dX12_readLine_108 ?_
    refine v_aload_n C dX12_readLine_109 0 rfl rfl ?_
    refine w_getI C fl_X12_112 dX12_readLine_110 rfl hw (fun x4 hw => ?_)
    refine w_iastore C dX12_readLine_113 hw (fun h hw => ?_)
    refine v_aload_n C dX12_readLine_114 0 rfl rfl ?_
    refine v_iconst (v := 0) C dX12_readLine_115 (by decide) ?_
    refine w_putI C fp_X12_115 (Or.inl rfl) dX12_readLine_116 hw (fun h hw => ?_)
    refine v_aload_n C dX12_readLine_119 0 rfl rfl ?_
    refine w_ldcS (i := 33) (tx := "if") C (List.mem_of_getElem? (i := 33) rfl) (by decide) dX12_readLine_120 hw (fun a5 hw => ?_)
    refine w_callVi (st := []) C cl_X12_210 im_X12_passes se_X12_passes rfl hw.1 (s_X12_passes hw.2) rfl dX12_readLine_122 rfl (by decide) (by decide) (by decide) (by decide) (by decide) (fun x6 h hw => ?_)
    refine v_if_eq (tgt := 137) C dX12_readLine_125 (by decide) (fun c_125 => ?_) (fun c_125 => ?_)
    · have hw := hw.1 c_125
      exact s_X12_readLine_137 C hr  _ _ _ hw
    · have hw := hw.2 c_125
      refine v_aload_n C dX12_readLine_128 0 rfl rfl ?_
      refine w_callVi (st := []) C cl_X12_205 im_X12_readCond se_X12_readCond rfl hw.1 (s_X12_readCond hw.2) rfl dX12_readLine_129 rfl (by decide) (by decide) (by decide) (by decide) (by decide) (fun x7 h hw => ?_)
      refine v_if_ne (tgt := 137) C dX12_readLine_132 (by decide) (fun c_132 => ?_) (fun c_132 => ?_)
      · have hw := hw.2 c_132
        exact s_X12_readLine_137 C hr  _ _ _ hw
      · have hw := hw.1 c_132
        refine v_iconst (v := 0) C dX12_readLine_135 (by decide) ?_
        exact (rt_MQ C _).2.1 _ _ _ _ _ _ _ hr rfl dX12_readLine_136 (by decide) (by decide) ⟨_, rfl, hw⟩
  · have hw := hw.2 c_97
    refine v_iconst (v := 0) C dX12_readLine_100 (by decide) ?_
    exact (rt_MQ C _).2.1 _ _ _ _ _ _ _ hr rfl dX12_readLine_101 (by decide) (by decide) ⟨_, rfl, hw⟩
set_option maxRecDepth 100000 in
set_option maxHeartbeats 4000000 in
theorem s_X12_readLine {l : Launch}  {v0 : Nat} {v1 : Int32} {h : AH} {Q : Int32 → AH → Prop}  (hw : w_X12_readLine  v0 v1 h Q) : CT l yX12_readLine cX12_readLine 3 (some .boolean) 50 0 0 [.ref v0, .int v1] h (QI Q) := by
  refine CT.of (by decide) ⟨rfl, ⟨rfl, trivial⟩⟩ (Nat.le_of_ble_eq_true rfl) ?_
  intro p e s m args below meth c g C hr hin
  refine v_eq (pc' := 0) (ls' := [(0, .ref v0), (1, .int v1)]) rfl rfl rfl rfl ?_
  refine v_aload_n C dX12_readLine_0 0 rfl rfl ?_
  refine w_callVv (st := []) C cl_X12_137 im_X12_letters se_X12_letters rfl hw.1 (s_X12_letters hw.2) rfl dX12_readLine_1 rfl (by decide) (by decide) (by decide) (by decide) (by decide) (fun h hw => ?_)
  refine v_iload_n C dX12_readLine_4 1 rfl rfl ?_
  refine v_bipush (v := 10) C dX12_readLine_5 (by decide) ?_
  refine v_icmp_ne (tgt := 12) C dX12_readLine_7 (by decide) (fun c_7 => ?_) (fun c_7 => ?_)
  · have hw := hw.2 c_7
    refine v_bipush (v := 9) C dX12_readLine_12 (by decide) ?_
    refine v_iload_n C dX12_readLine_14 1 rfl rfl ?_
    refine w_callSi (st := []) C cl_X12_229 st_X12_lineAt (s_X12_lineAt hw) rfl dX12_readLine_15 rfl (by decide) (by decide) (by decide) (by decide) (by decide) (fun x1 h hw => ?_)
    refine v_istore_n (ls' := [(2, .int x1), (0, .ref v0), (1, .int v1)]) C dX12_readLine_18 rfl (by decide) rfl ?_
    refine v_aload_n C dX12_readLine_19 1 rfl rfl ?_
    refine w_getN C fl_X12_13 dX12_readLine_20 rfl hw (fun a2 hw => ?_)
    refine v_iload_n C dX12_readLine_23 0 rfl rfl ?_
    refine v_aload_n C dX12_readLine_24 1 rfl rfl ?_
    refine w_ldcS (i := 28) (tx := "shoot") C (List.mem_of_getElem? (i := 28) rfl) (by decide) dX12_readLine_25 hw (fun a3 hw => ?_)
    refine w_callVi (st := [.int x1, .ref a2]) C cl_X12_140 im_X12_isWord se_X12_isWord rfl hw.1 (s_X12_isWord hw.2) rfl dX12_readLine_27 rfl (Nat.le_of_ble_eq_true rfl) (by decide) (by decide) (by decide) (by decide) (fun x4 h hw => ?_)
    refine v_if_eq (tgt := 37) C dX12_readLine_30 (by decide) (fun c_30 => ?_) (fun c_30 => ?_)
    · have hw := hw.1 c_30
      refine v_aload_n C dX12_readLine_37 1 rfl rfl ?_
      refine w_ldcS (i := 29) (tx := "flee") C (List.mem_of_getElem? (i := 29) rfl) (by decide) dX12_readLine_38 hw (fun a5 hw => ?_)
      refine w_callVi (st := [.int x1, .ref a2]) C cl_X12_140 im_X12_isWord se_X12_isWord rfl hw.1 (s_X12_isWord hw.2) rfl dX12_readLine_40 rfl (Nat.le_of_ble_eq_true rfl) (by decide) (by decide) (by decide) (by decide) (fun x6 h hw => ?_)
      refine v_if_eq (tgt := 50) C dX12_readLine_43 (by decide) (fun c_43 => ?_) (fun c_43 => ?_)
      · have hw := hw.1 c_43
        refine v_aload_n C dX12_readLine_50 1 rfl rfl ?_
        refine w_ldcS (i := 30) (tx := "join") C (List.mem_of_getElem? (i := 30) rfl) (by decide) dX12_readLine_51 hw (fun a7 hw => ?_)
        refine w_callVi (st := [.int x1, .ref a2]) C cl_X12_140 im_X12_isWord se_X12_isWord rfl hw.1 (s_X12_isWord hw.2) rfl dX12_readLine_53 rfl (Nat.le_of_ble_eq_true rfl) (by decide) (by decide) (by decide) (by decide) (fun x8 h hw => ?_)
        refine v_if_eq (tgt := 63) C dX12_readLine_56 (by decide) (fun c_56 => ?_) (fun c_56 => ?_)
        · have hw := hw.1 c_56
          refine v_aload_n C dX12_readLine_63 1 rfl rfl ?_
          refine w_ldcS (i := 31) (tx := "hold") C (List.mem_of_getElem? (i := 31) rfl) (by decide) dX12_readLine_64 hw (fun a9 hw => ?_)
          refine w_callVi (st := [.int x1, .ref a2]) C cl_X12_140 im_X12_isWord se_X12_isWord rfl hw.1 (s_X12_isWord hw.2) rfl dX12_readLine_66 rfl (Nat.le_of_ble_eq_true rfl) (by decide) (by decide) (by decide) (by decide) (fun x10 h hw => ?_)
          refine v_if_eq (tgt := 76) C dX12_readLine_69 (by decide) (fun c_69 => ?_) (fun c_69 => ?_)
          · have hw := hw.1 c_69
            refine v_aload_n C dX12_readLine_76 1 rfl rfl ?_
            refine w_ldcS (i := 32) (tx := "drop") C (List.mem_of_getElem? (i := 32) rfl) (by decide) dX12_readLine_77 hw (fun a11 hw => ?_)
            refine w_callVi (st := [.int x1, .ref a2]) C cl_X12_140 im_X12_isWord se_X12_isWord rfl hw.1 (s_X12_isWord hw.2) rfl dX12_readLine_79 rfl (Nat.le_of_ble_eq_true rfl) (by decide) (by decide) (by decide) (by decide) (fun x12 h hw => ?_)
            refine v_if_eq (tgt := 89) C dX12_readLine_82 (by decide) (fun c_82 => ?_) (fun c_82 => ?_)
            · have hw := hw.1 c_82
              refine v_iconst (v := -1) C dX12_readLine_89 (by decide) ?_
              refine v_sub [1, 0] rfl ?_
              exact s_X12_readLine_90 C hr  _ _ _ _ _ _ hw
            · have hw := hw.2 c_82
              refine v_iconst (v := 4) C dX12_readLine_85 (by decide) ?_
              refine v_goto (tgt := 90) C dX12_readLine_86 (by decide) ?_
              refine v_sub [1, 0] rfl ?_
              exact s_X12_readLine_90 C hr  _ _ _ _ _ _ hw
          · have hw := hw.2 c_69
            refine v_iconst (v := 3) C dX12_readLine_72 (by decide) ?_
            refine v_goto (tgt := 90) C dX12_readLine_73 (by decide) ?_
            refine v_sub [1, 0] rfl ?_
            exact s_X12_readLine_90 C hr  _ _ _ _ _ _ hw
        · have hw := hw.2 c_56
          refine v_iconst (v := 2) C dX12_readLine_59 (by decide) ?_
          refine v_goto (tgt := 90) C dX12_readLine_60 (by decide) ?_
          refine v_sub [1, 0] rfl ?_
          exact s_X12_readLine_90 C hr  _ _ _ _ _ _ hw
      · have hw := hw.2 c_43
        refine v_iconst (v := 1) C dX12_readLine_46 (by decide) ?_
        refine v_goto (tgt := 90) C dX12_readLine_47 (by decide) ?_
        refine v_sub [1, 0] rfl ?_
        exact s_X12_readLine_90 C hr  _ _ _ _ _ _ hw
    · have hw := hw.2 c_30
      refine v_iconst (v := 0) C dX12_readLine_33 (by decide) ?_
      refine v_goto (tgt := 90) C dX12_readLine_34 (by decide) ?_
      refine v_sub [1, 0] rfl ?_
      exact s_X12_readLine_90 C hr  _ _ _ _ _ _ hw
  · have hw := hw.1 c_7
    refine v_iconst (v := 0) C dX12_readLine_10 (by decide) ?_
    exact (rt_MQ C _).2.1 _ _ _ _ _ _ _ hr rfl dX12_readLine_11 (by decide) (by decide) ⟨_, rfl, hw⟩
-- GrassFieldModel.readAll()I
theorem dX12_readAll_0 : decode cX12_readAll 0 = .ok (.aload_n 0, 1) := by decide +kernel
theorem dX12_readAll_1 : decode cX12_readAll 1 = .ok (.invokevirtual 124, 3) := by decide +kernel
theorem dX12_readAll_4 : decode cX12_readAll 4 = .ok (.aload_n 0, 1) := by decide +kernel
theorem dX12_readAll_5 : decode cX12_readAll 5 = .ok (.getfield 109, 3) := by decide +kernel
theorem dX12_readAll_8 : decode cX12_readAll 8 = .ok (.aload_n 0, 1) := by decide +kernel
theorem dX12_readAll_9 : decode cX12_readAll 9 = .ok (.getfield 106, 3) := by decide +kernel
theorem dX12_readAll_12 : decode cX12_readAll 12 = .ok (.if_icmp .ne 5, 3) := by decide +kernel
theorem dX12_readAll_15 : decode cX12_readAll 15 = .ok (.iconst 0, 1) := by decide +kernel
theorem dX12_readAll_16 : decode cX12_readAll 16 = .ok (.ireturn, 1) := by decide +kernel
theorem dX12_readAll_17 : decode cX12_readAll 17 = .ok (.iconst 0, 1) := by decide +kernel
theorem dX12_readAll_18 : decode cX12_readAll 18 = .ok (.istore_n 1, 1) := by decide +kernel
theorem dX12_readAll_19 : decode cX12_readAll 19 = .ok (.aload_n 0, 1) := by decide +kernel
theorem dX12_readAll_20 : decode cX12_readAll 20 = .ok (.iload_n 1, 1) := by decide +kernel
theorem dX12_readAll_21 : decode cX12_readAll 21 = .ok (.invokevirtual 244, 3) := by decide +kernel
theorem dX12_readAll_24 : decode cX12_readAll 24 = .ok (.ifCond .ne 5, 3) := by decide +kernel
theorem dX12_readAll_27 : decode cX12_readAll 27 = .ok (.iconst (-1), 1) := by decide +kernel
theorem dX12_readAll_28 : decode cX12_readAll 28 = .ok (.ireturn, 1) := by decide +kernel
theorem dX12_readAll_29 : decode cX12_readAll 29 = .ok (.aload_n 0, 1) := by decide +kernel
theorem dX12_readAll_30 : decode cX12_readAll 30 = .ok (.invokevirtual 124, 3) := by decide +kernel
theorem dX12_readAll_33 : decode cX12_readAll 33 = .ok (.aload_n 0, 1) := by decide +kernel
theorem dX12_readAll_34 : decode cX12_readAll 34 = .ok (.getfield 109, 3) := by decide +kernel
theorem dX12_readAll_37 : decode cX12_readAll 37 = .ok (.aload_n 0, 1) := by decide +kernel
theorem dX12_readAll_38 : decode cX12_readAll 38 = .ok (.getfield 106, 3) := by decide +kernel
theorem dX12_readAll_41 : decode cX12_readAll 41 = .ok (.if_icmp .ne 7, 3) := by decide +kernel
theorem dX12_readAll_44 : decode cX12_readAll 44 = .ok (.iload_n 1, 1) := by decide +kernel
theorem dX12_readAll_45 : decode cX12_readAll 45 = .ok (.iconst 1, 1) := by decide +kernel
theorem dX12_readAll_46 : decode cX12_readAll 46 = .ok (.iadd, 1) := by decide +kernel
theorem dX12_readAll_47 : decode cX12_readAll 47 = .ok (.ireturn, 1) := by decide +kernel
theorem dX12_readAll_48 : decode cX12_readAll 48 = .ok (.aload_n 0, 1) := by decide +kernel
theorem dX12_readAll_49 : decode cX12_readAll 49 = .ok (.bipush 59, 2) := by decide +kernel
theorem dX12_readAll_51 : decode cX12_readAll 51 = .ok (.bipush 59, 2) := by decide +kernel
theorem dX12_readAll_53 : decode cX12_readAll 53 = .ok (.invokevirtual 118, 3) := by decide +kernel
theorem dX12_readAll_56 : decode cX12_readAll 56 = .ok (.ifCond .ne 5, 3) := by decide +kernel
theorem dX12_readAll_59 : decode cX12_readAll 59 = .ok (.iconst (-1), 1) := by decide +kernel
theorem dX12_readAll_60 : decode cX12_readAll 60 = .ok (.ireturn, 1) := by decide +kernel
theorem dX12_readAll_61 : decode cX12_readAll 61 = .ok (.aload_n 0, 1) := by decide +kernel
theorem dX12_readAll_62 : decode cX12_readAll 62 = .ok (.dup, 1) := by decide +kernel
theorem dX12_readAll_63 : decode cX12_readAll 63 = .ok (.getfield 109, 3) := by decide +kernel
theorem dX12_readAll_66 : decode cX12_readAll 66 = .ok (.iconst 1, 1) := by decide +kernel
theorem dX12_readAll_67 : decode cX12_readAll 67 = .ok (.iadd, 1) := by decide +kernel
theorem dX12_readAll_68 : decode cX12_readAll 68 = .ok (.putfield 109, 3) := by decide +kernel
theorem dX12_readAll_71 : decode cX12_readAll 71 = .ok (.iinc 1 1, 3) := by decide +kernel
theorem dX12_readAll_74 : decode cX12_readAll 74 = .ok (.goto (-55), 3) := by decide +kernel
def w_X12_readAll_59  (h : AH) (Q : Int32 → AH → Prop) : Prop :=
  Q (-1 : Int32) h
def w_X12_readAll_44  (v1 : Int32) (h : AH) (Q : Int32 → AH → Prop) : Prop :=
  Q (v1 + (1 : Int32)) h
def w_X12_readAll_27  (h : AH) (Q : Int32 → AH → Prop) : Prop :=
  Q (-1 : Int32) h
def w_X12_readAll_19  (x27 : AH → Prop) (x44 : Int32 → AH → Prop) (x59 : AH → Prop) (k : Int32 → AH → Prop) (v0 : Nat) (v1 : Int32) (h : AH) (Q : Int32 → AH → Prop) : Prop :=
  vr h v0 12 (
  w_X12_readLine v0 v1 h (fun x1 h =>
  br (x1 = 0) (
    x27  h) (
    vr h v0 12 (
    w_X12_blanks v0 h (fun h =>
    fI h v0 12 6 fun x2 =>
    fI h v0 12 7 fun x3 =>
    br (x2 = x3) (
      x44 v1 h) (
      vr h v0 12 (
      w_X12_isAt v0 (59 : Int32) (59 : Int32) h (fun x4 h =>
      br (x4 = 0) (
        x59  h) (
        fI h v0 12 6 fun x5 =>
        uI h v0 12 6 (x5 + (1 : Int32)) fun h =>
        k (v1 + 1) h)))))))))
def w_X12_readAll  (v0 : Nat) (h : AH) (Q : Int32 → AH → Prop) : Prop :=
  vr h v0 12 (
  w_X12_blanks v0 h (fun h =>
  fI h v0 12 6 fun x1 =>
  fI h v0 12 7 fun x2 =>
  br (x1 = x2) (
    Q (0 : Int32) h) (
    lp (fun (k2 : Int32 × AH → Prop) (s2 : Int32 × AH) => w_X12_readAll_19  (fun  h => w_X12_readAll_27  h Q) (fun (y1 : Int32) h => w_X12_readAll_44 y1 h Q) (fun  h => w_X12_readAll_59  h Q) (fun (y1 : Int32) h => k2 (y1, h)) v0 s2.1 s2.2 Q) ((0 : Int32), h))))
set_option maxRecDepth 100000 in
set_option maxHeartbeats 4000000 in
theorem s_X12_readAll_59 {p : Program} {l : Launch} {e : Env} {s : State} {m : MethodId} {args : Array Value} {below : List Frame} {meth : Method} {c : Code} {g : GG}  {Q : Int32 → AH → Prop}  (C : CXT p l s m args meth c RX12 cX12_readAll 2 g) (hr : meth.sig.returnType = (some .int))  : ∀  (h : AH), w_X12_readAll_59  h Q → V p l e s m args below meth c g 51 0 0 2 0 0 (MQ below (QCx g (QI Q)) args s 0 0 (gA g)) 59 [] [] h := by
  intro  h hw
  refine v_iconst (v := -1) C dX12_readAll_59 (by decide) ?_
  exact (rt_MQ C _).1 _ _ _ _ _ _ hr dX12_readAll_60 (by decide) (by decide) ⟨_, rfl, hw⟩
set_option maxRecDepth 100000 in
set_option maxHeartbeats 4000000 in
theorem s_X12_readAll_44 {p : Program} {l : Launch} {e : Env} {s : State} {m : MethodId} {args : Array Value} {below : List Frame} {meth : Method} {c : Code} {g : GG}  {Q : Int32 → AH → Prop}  (C : CXT p l s m args meth c RX12 cX12_readAll 2 g) (hr : meth.sig.returnType = (some .int))  : ∀ (v1 : Int32) (h : AH), w_X12_readAll_44  v1 h Q → V p l e s m args below meth c g 51 0 0 2 0 0 (MQ below (QCx g (QI Q)) args s 0 0 (gA g)) 44 [(1, .int v1)] [] h := by
  intro v1 h hw
  refine v_iload_n C dX12_readAll_44 0 rfl rfl ?_
  refine v_iconst (v := 1) C dX12_readAll_45 (by decide) ?_
  refine v_iadd C dX12_readAll_46 ?_
  exact (rt_MQ C _).1 _ _ _ _ _ _ hr dX12_readAll_47 (by decide) (by decide) ⟨_, rfl, hw⟩
set_option maxRecDepth 100000 in
set_option maxHeartbeats 4000000 in
theorem s_X12_readAll_27 {p : Program} {l : Launch} {e : Env} {s : State} {m : MethodId} {args : Array Value} {below : List Frame} {meth : Method} {c : Code} {g : GG}  {Q : Int32 → AH → Prop}  (C : CXT p l s m args meth c RX12 cX12_readAll 2 g) (hr : meth.sig.returnType = (some .int))  : ∀  (h : AH), w_X12_readAll_27  h Q → V p l e s m args below meth c g 51 0 0 2 0 0 (MQ below (QCx g (QI Q)) args s 0 0 (gA g)) 27 [] [] h := by
  intro  h hw
  refine v_iconst (v := -1) C dX12_readAll_27 (by decide) ?_
  exact (rt_MQ C _).1 _ _ _ _ _ _ hr dX12_readAll_28 (by decide) (by decide) ⟨_, rfl, hw⟩
set_option maxRecDepth 100000 in
set_option maxHeartbeats 4000000 in
theorem s_X12_readAll_19 {p : Program} {l : Launch} {e : Env} {s : State} {m : MethodId} {args : Array Value} {below : List Frame} {meth : Method} {c : Code} {g : GG} {v0 : Nat} {Q : Int32 → AH → Prop} {x27 : AH → Prop} {x44 : Int32 → AH → Prop} {x59 : AH → Prop} {k : Int32 → AH → Prop} (C : CXT p l s m args meth c RX12 cX12_readAll 2 g) (hr : meth.sig.returnType = (some .int)) (hx27 : ∀  (h : AH), x27  h → V p l e s m args below meth c g 51 0 0 2 0 0 (MQ below (QCx g (QI Q)) args s 0 0 (gA g)) 27 [] [] h) (hx44 : ∀ (y1 : Int32) (h : AH), x44 y1 h → V p l e s m args below meth c g 51 0 0 2 0 0 (MQ below (QCx g (QI Q)) args s 0 0 (gA g)) 44 [(1, .int y1)] [] h) (hx59 : ∀  (h : AH), x59  h → V p l e s m args below meth c g 51 0 0 2 0 0 (MQ below (QCx g (QI Q)) args s 0 0 (gA g)) 59 [] [] h) (hk : ∀ (y1 : Int32) (h : AH), k y1 h → V p l e s m args below meth c g 51 0 0 2 0 0 (MQ below (QCx g (QI Q)) args s 0 0 (gA g)) 19 [(0, .ref v0), (1, .int y1)] [] h) : ∀ (v1 : Int32) (h : AH), w_X12_readAll_19  x27 x44 x59 k v0 v1 h Q → V p l e s m args below meth c g 51 0 0 2 0 0 (MQ below (QCx g (QI Q)) args s 0 0 (gA g)) 19 [(0, .ref v0), (1, .int v1)] [] h := by
  intro v1 h hw
  refine v_aload_n C dX12_readAll_19 0 rfl rfl ?_
  refine v_iload_n C dX12_readAll_20 1 rfl rfl ?_
  refine w_callVi (st := []) C cl_X12_244 im_X12_readLine se_X12_readLine rfl hw.1 (s_X12_readLine hw.2) rfl dX12_readAll_21 rfl (by decide) (by decide) (by decide) (by decide) (by decide) (fun x1 h hw => ?_)
  refine v_if_ne (tgt := 29) C dX12_readAll_24 (by decide) (fun c_24 => ?_) (fun c_24 => ?_)
  · have hw := hw.2 c_24
    refine v_aload_n C dX12_readAll_29 0 rfl rfl ?_
    refine w_callVv (st := []) C cl_X12_124 im_X12_blanks se_X12_blanks rfl hw.1 (s_X12_blanks hw.2) rfl dX12_readAll_30 rfl (by decide) (by decide) (by decide) (by decide) (by decide) (fun h hw => ?_)
    refine v_aload_n C dX12_readAll_33 0 rfl rfl ?_
    refine w_getI C fl_X12_109 dX12_readAll_34 rfl hw (fun x2 hw => ?_)
    refine v_aload_n C dX12_readAll_37 0 rfl rfl ?_
    refine w_getI C fl_X12_106 dX12_readAll_38 rfl hw (fun x3 hw => ?_)
    refine v_icmp_ne (tgt := 48) C dX12_readAll_41 (by decide) (fun c_41 => ?_) (fun c_41 => ?_)
    · have hw := hw.2 c_41
      refine v_aload_n C dX12_readAll_48 0 rfl rfl ?_
      refine v_bipush (v := 59) C dX12_readAll_49 (by decide) ?_
      refine v_bipush (v := 59) C dX12_readAll_51 (by decide) ?_
      refine w_callVi (st := []) C cl_X12_118 im_X12_isAt se_X12_isAt rfl hw.1 (s_X12_isAt hw.2) rfl dX12_readAll_53 rfl (by decide) (by decide) (by decide) (by decide) (by decide) (fun x4 h hw => ?_)
      refine v_if_ne (tgt := 61) C dX12_readAll_56 (by decide) (fun c_56 => ?_) (fun c_56 => ?_)
      · have hw := hw.2 c_56
        refine v_aload_n C dX12_readAll_61 0 rfl rfl ?_
        refine v_dup C dX12_readAll_62 rfl ?_
        refine w_getI C fl_X12_109 dX12_readAll_63 rfl hw (fun x5 hw => ?_)
        refine v_iconst (v := 1) C dX12_readAll_66 (by decide) ?_
        refine v_iadd C dX12_readAll_67 ?_
        refine w_putI C fp_X12_109 (Or.inl rfl) dX12_readAll_68 hw (fun h hw => ?_)
        refine v_iinc (v := 1) (ls' := [(1, .int (v1 + 1)), (0, .ref v0)]) C dX12_readAll_71 1 rfl (by decide) (by decide) rfl ?_
        refine v_goto (tgt := 19) C dX12_readAll_74 (by decide) ?_
        refine v_sub [1, 0] rfl ?_
        exact hk _ _ hw
      · have hw := hw.1 c_56
        refine v_sub [] rfl ?_
        exact hx59  _ hw
    · have hw := hw.1 c_41
      refine v_sub [1] rfl ?_
      exact hx44 _ _ hw
  · have hw := hw.1 c_24
    refine v_sub [] rfl ?_
    exact hx27  _ hw
set_option maxRecDepth 100000 in
set_option maxHeartbeats 4000000 in
theorem s_X12_readAll {l : Launch}  {v0 : Nat} {h : AH} {Q : Int32 → AH → Prop}  (hw : w_X12_readAll  v0 h Q) : CT l yX12_readAll cX12_readAll 2 (some .int) 51 0 0 [.ref v0] h (QI Q) := by
  refine CT.of (by decide) ⟨rfl, trivial⟩ (Nat.le_of_ble_eq_true rfl) ?_
  intro p e s m args below meth c g C hr hin
  refine v_eq (pc' := 0) (ls' := [(0, .ref v0)]) rfl rfl rfl rfl ?_
  refine v_aload_n C dX12_readAll_0 0 rfl rfl ?_
  refine w_callVv (st := []) C cl_X12_124 im_X12_blanks se_X12_blanks rfl hw.1 (s_X12_blanks hw.2) rfl dX12_readAll_1 rfl (by decide) (by decide) (by decide) (by decide) (by decide) (fun h hw => ?_)
  refine v_aload_n C dX12_readAll_4 0 rfl rfl ?_
  refine w_getI C fl_X12_109 dX12_readAll_5 rfl hw (fun x1 hw => ?_)
  refine v_aload_n C dX12_readAll_8 0 rfl rfl ?_
  refine w_getI C fl_X12_106 dX12_readAll_9 rfl hw (fun x2 hw => ?_)
  refine v_icmp_ne (tgt := 17) C dX12_readAll_12 (by decide) (fun c_12 => ?_) (fun c_12 => ?_)
  · have hw := hw.2 c_12
    refine v_iconst (v := 0) C dX12_readAll_17 (by decide) ?_
    refine v_istore_n (ls' := [(1, .int (0 : Int32)), (0, .ref v0)]) C dX12_readAll_18 rfl (by decide) rfl ?_
    refine v_sub [1, 0] rfl ?_
    refine lp_walk (P := fun (s' : Int32 × AH) => V p l e s m args below meth c g 51 0 0 2 0 0 (MQ below (QCx g (QI Q)) args s 0 0 (gA g)) 19 [(0, .ref v0), (1, .int (s'.1))] [] s'.2) (fun k2 hk2 s' hw => ?_) ((0 : Int32), h) hw
    exact s_X12_readAll_19 C hr (fun  h hw => s_X12_readAll_27 C hr   h hw) (fun y1 h hw => s_X12_readAll_44 C hr  _ h hw) (fun  h hw => s_X12_readAll_59 C hr   h hw) (fun y1 h hw => hk2 (y1, h) hw) _ _ hw
  · have hw := hw.1 c_12
    refine v_iconst (v := 0) C dX12_readAll_15 (by decide) ?_
    exact (rt_MQ C _).1 _ _ _ _ _ _ hr dX12_readAll_16 (by decide) (by decide) ⟨_, rfl, hw⟩
-- GrassFieldModel.reads(Z)Z
theorem dX12_reads_0 : decode cX12_reads 0 = .ok (.aload_n 0, 1) := by decide +kernel
theorem dX12_reads_1 : decode cX12_reads 1 = .ok (.invokevirtual 247, 3) := by decide +kernel
theorem dX12_reads_4 : decode cX12_reads 4 = .ok (.aload_n 0, 1) := by decide +kernel
theorem dX12_reads_5 : decode cX12_reads 5 = .ok (.iload_n 1, 1) := by decide +kernel
theorem dX12_reads_6 : decode cX12_reads 6 = .ok (.putfield 151, 3) := by decide +kernel
theorem dX12_reads_9 : decode cX12_reads 9 = .ok (.iload_n 1, 1) := by decide +kernel
theorem dX12_reads_10 : decode cX12_reads 10 = .ok (.ifCond .eq 10, 3) := by decide +kernel
theorem dX12_reads_13 : decode cX12_reads 13 = .ok (.aload_n 0, 1) := by decide +kernel
theorem dX12_reads_14 : decode cX12_reads 14 = .ok (.invokevirtual 250, 3) := by decide +kernel
theorem dX12_reads_17 : decode cX12_reads 17 = .ok (.goto 7, 3) := by decide +kernel
theorem dX12_reads_20 : decode cX12_reads 20 = .ok (.aload_n 0, 1) := by decide +kernel
theorem dX12_reads_21 : decode cX12_reads 21 = .ok (.invokevirtual 253, 3) := by decide +kernel
theorem dX12_reads_24 : decode cX12_reads 24 = .ok (.istore_n 2, 1) := by decide +kernel
theorem dX12_reads_25 : decode cX12_reads 25 = .ok (.aload_n 0, 1) := by decide +kernel
theorem dX12_reads_26 : decode cX12_reads 26 = .ok (.iload_n 2, 1) := by decide +kernel
theorem dX12_reads_27 : decode cX12_reads 27 = .ok (.ifCond .ge 10, 3) := by decide +kernel
theorem dX12_reads_30 : decode cX12_reads 30 = .ok (.aload_n 0, 1) := by decide +kernel
theorem dX12_reads_31 : decode cX12_reads 31 = .ok (.getfield 121, 3) := by decide +kernel
theorem dX12_reads_34 : decode cX12_reads 34 = .ok (.goto 4, 3) := by decide +kernel
theorem dX12_reads_37 : decode cX12_reads 37 = .ok (.iconst (-1), 1) := by decide +kernel
theorem dX12_reads_38 : decode cX12_reads 38 = .ok (.putfield 24, 3) := by decide +kernel
theorem dX12_reads_41 : decode cX12_reads 41 = .ok (.aload_n 0, 1) := by decide +kernel
theorem dX12_reads_42 : decode cX12_reads 42 = .ok (.getfield 13, 3) := by decide +kernel
theorem dX12_reads_45 : decode cX12_reads 45 = .ok (.bipush 9, 2) := by decide +kernel
theorem dX12_reads_47 : decode cX12_reads 47 = .ok (.invokestatic 144, 3) := by decide +kernel
theorem dX12_reads_50 : decode cX12_reads 50 = .ok (.iload_n 2, 1) := by decide +kernel
theorem dX12_reads_51 : decode cX12_reads 51 = .ok (.iastore, 1) := by decide +kernel
theorem dX12_reads_52 : decode cX12_reads 52 = .ok (.iload_n 2, 1) := by decide +kernel
theorem dX12_reads_53 : decode cX12_reads 53 = .ok (.ifCond .lt 7, 3) := by decide +kernel
theorem dX12_reads_56 : decode cX12_reads 56 = .ok (.iconst 1, 1) := by decide +kernel
theorem dX12_reads_57 : decode cX12_reads 57 = .ok (.goto 4, 3) := by decide +kernel
theorem dX12_reads_60 : decode cX12_reads 60 = .ok (.iconst 0, 1) := by decide +kernel
theorem dX12_reads_61 : decode cX12_reads 61 = .ok (.ireturn, 1) := by decide +kernel
def w_X12_reads_61  (t0 : Int32) (h : AH) (Q : Int32 → AH → Prop) : Prop :=
  z1 t0 (Q t0 h)
def w_X12_reads_38  (v0 : Nat) (v2 : Int32) (t0 : Nat) (t1 : Int32) (h : AH) (Q : Int32 → AH → Prop) : Prop :=
  uI h t0 12 10 t1 fun h =>
  fN h v0 12 1 fun a1 =>
  w_X12_textAt (9 : Int32) h (fun x2 h =>
  tI h a1 x2 v2 fun h =>
  br (v2 < 0) (
    w_X12_reads_61 (0 : Int32) h Q) (
    w_X12_reads_61 (1 : Int32) h Q))
def w_X12_reads_24  (v0 : Nat) (t0 : Int32) (h : AH) (Q : Int32 → AH → Prop) : Prop :=
  br (0 ≤ t0) (
    w_X12_reads_38 v0 t0 v0 (-1 : Int32) h Q) (
    fI h v0 12 8 fun x1 =>
    w_X12_reads_38 v0 t0 v0 x1 h Q)
def w_X12_reads  (v0 : Nat) (v1 : Int32) (h : AH) (Q : Int32 → AH → Prop) : Prop :=
  vr h v0 12 (
  w_X12_uses v0 h (fun h =>
  uZ h v0 12 13 v1 fun h =>
  br (v1 = 0) (
    vr h v0 12 (
    w_X12_readAll v0 h (fun x1 h =>
    w_X12_reads_24 v0 x1 h Q))) (
    vr h v0 12 (
    w_X12_readOne v0 h (fun x2 h =>
    w_X12_reads_24 v0 x2 h Q)))))
set_option maxRecDepth 100000 in
set_option maxHeartbeats 4000000 in
theorem s_X12_reads_61 {p : Program} {l : Launch} {e : Env} {s : State} {m : MethodId} {args : Array Value} {below : List Frame} {meth : Method} {c : Code} {g : GG}  {Q : Int32 → AH → Prop}  (C : CXT p l s m args meth c RX12 cX12_reads 3 g) (hr : meth.sig.returnType = (some .boolean))  : ∀ (t0 : Int32) (h : AH), w_X12_reads_61  t0 h Q → V p l e s m args below meth c g 52 0 0 3 0 0 (MQ below (QCx g (QI Q)) args s 0 0 (gA g)) 61 [] [.int t0] h := by
  intro t0 h hw
  exact (rt_MQ C _).2.1 _ _ _ _ _ _ _ hr (by rcases hw.1 with z | z <;> rw [z] <;> rfl) dX12_reads_61 (by decide) (by decide) ⟨_, rfl, hw.2⟩
set_option maxRecDepth 100000 in
set_option maxHeartbeats 4000000 in
theorem s_X12_reads_38 {p : Program} {l : Launch} {e : Env} {s : State} {m : MethodId} {args : Array Value} {below : List Frame} {meth : Method} {c : Code} {g : GG}  {Q : Int32 → AH → Prop}  (C : CXT p l s m args meth c RX12 cX12_reads 3 g) (hr : meth.sig.returnType = (some .boolean))  : ∀ (v0 : Nat) (v2 : Int32) (t0 : Nat) (t1 : Int32) (h : AH), w_X12_reads_38  v0 v2 t0 t1 h Q → V p l e s m args below meth c g 52 0 0 3 0 0 (MQ below (QCx g (QI Q)) args s 0 0 (gA g)) 38 [(0, .ref v0), (2, .int v2)] [.int t1, .ref t0] h := by
  intro v0 v2 t0 t1 h hw
  refine w_putI C fp_X12_24 (Or.inl rfl) dX12_reads_38 hw (fun h hw => ?_)
  refine v_aload_n C dX12_reads_41 0 rfl rfl ?_
  refine w_getN C fl_X12_13 dX12_reads_42 rfl hw (fun a1 hw => ?_)
  refine v_bipush (v := 9) C dX12_reads_45 (by decide) ?_
  refine w_callSi (st := [.ref a1]) C cl_X12_144 st_X12_textAt (s_X12_textAt hw) rfl dX12_reads_47 rfl (Nat.le_of_ble_eq_true rfl) (by decide) (by decide) (by decide) (by decide) (fun x2 h hw => ?_)
  refine v_iload_n C dX12_reads_50 1 rfl rfl ?_
  refine w_iastore C dX12_reads_51 hw (fun h hw => ?_)
  refine v_iload_n C dX12_reads_52 1 rfl rfl ?_
  refine v_if_lt (tgt := 60) C dX12_reads_53 (by decide) (fun c_53 => ?_) (fun c_53 => ?_)
  · have hw := hw.1 c_53
    refine v_iconst (v := 0) C dX12_reads_60 (by decide) ?_
    refine v_sub [] rfl ?_
    exact s_X12_reads_61 C hr  _ _ hw
  · have hw := hw.2 c_53
    refine v_iconst (v := 1) C dX12_reads_56 (by decide) ?_
    refine v_goto (tgt := 61) C dX12_reads_57 (by decide) ?_
    refine v_sub [] rfl ?_
    exact s_X12_reads_61 C hr  _ _ hw
set_option maxRecDepth 100000 in
set_option maxHeartbeats 4000000 in
theorem s_X12_reads_24 {p : Program} {l : Launch} {e : Env} {s : State} {m : MethodId} {args : Array Value} {below : List Frame} {meth : Method} {c : Code} {g : GG}  {Q : Int32 → AH → Prop}  (C : CXT p l s m args meth c RX12 cX12_reads 3 g) (hr : meth.sig.returnType = (some .boolean))  : ∀ (v0 : Nat) (t0 : Int32) (h : AH), w_X12_reads_24  v0 t0 h Q → V p l e s m args below meth c g 52 0 0 3 0 0 (MQ below (QCx g (QI Q)) args s 0 0 (gA g)) 24 [(0, .ref v0)] [.int t0] h := by
  intro v0 t0 h hw
  refine v_istore_n (ls' := [(2, .int t0), (0, .ref v0)]) C dX12_reads_24 rfl (by decide) rfl ?_
  refine v_aload_n C dX12_reads_25 1 rfl rfl ?_
  refine v_iload_n C dX12_reads_26 0 rfl rfl ?_
  refine v_if_ge (tgt := 37) C dX12_reads_27 (by decide) (fun c_27 => ?_) (fun c_27 => ?_)
  · have hw := hw.1 c_27
    refine v_iconst (v := -1) C dX12_reads_37 (by decide) ?_
    refine v_sub [1, 0] rfl ?_
    exact s_X12_reads_38 C hr  _ _ _ _ _ hw
  · have hw := hw.2 c_27
    refine v_aload_n C dX12_reads_30 1 rfl rfl ?_
    refine w_getI C fl_X12_121 dX12_reads_31 rfl hw (fun x1 hw => ?_)
    refine v_goto (tgt := 38) C dX12_reads_34 (by decide) ?_
    refine v_sub [1, 0] rfl ?_
    exact s_X12_reads_38 C hr  _ _ _ _ _ hw
set_option maxRecDepth 100000 in
set_option maxHeartbeats 4000000 in
theorem s_X12_reads {l : Launch}  {v0 : Nat} {v1 : Int32} {h : AH} {Q : Int32 → AH → Prop}  (hw : w_X12_reads  v0 v1 h Q) : CT l yX12_reads cX12_reads 3 (some .boolean) 52 0 0 [.ref v0, .int v1] h (QI Q) := by
  refine CT.of (by decide) ⟨rfl, ⟨rfl, trivial⟩⟩ (Nat.le_of_ble_eq_true rfl) ?_
  intro p e s m args below meth c g C hr hin
  refine v_eq (pc' := 0) (ls' := [(0, .ref v0), (1, .int v1)]) rfl rfl rfl rfl ?_
  refine v_aload_n C dX12_reads_0 0 rfl rfl ?_
  refine w_callVv (st := []) C cl_X12_247 im_X12_uses se_X12_uses rfl hw.1 (s_X12_uses hw.2) rfl dX12_reads_1 rfl (by decide) (by decide) (by decide) (by decide) (by decide) (fun h hw => ?_)
  refine v_aload_n C dX12_reads_4 0 rfl rfl ?_
  refine v_iload_n C dX12_reads_5 1 rfl rfl ?_
  refine w_putZ C fp_X12_151 (Or.inl rfl) dX12_reads_6 hw (fun h hw => ?_)
  refine v_iload_n C dX12_reads_9 1 rfl rfl ?_
  refine v_if_eq (tgt := 20) C dX12_reads_10 (by decide) (fun c_10 => ?_) (fun c_10 => ?_)
  · have hw := hw.1 c_10
    refine v_aload_n C dX12_reads_20 0 rfl rfl ?_
    refine w_callVi (st := []) C cl_X12_253 im_X12_readAll se_X12_readAll rfl hw.1 (s_X12_readAll hw.2) rfl dX12_reads_21 rfl (by decide) (by decide) (by decide) (by decide) (by decide) (fun x1 h hw => ?_)
    refine v_sub [0] rfl ?_
    exact s_X12_reads_24 C hr  _ _ _ hw
  · have hw := hw.2 c_10
    refine v_aload_n C dX12_reads_13 0 rfl rfl ?_
    refine w_callVi (st := []) C cl_X12_250 im_X12_readOne se_X12_readOne rfl hw.1 (s_X12_readOne hw.2) rfl dX12_reads_14 rfl (by decide) (by decide) (by decide) (by decide) (by decide) (fun x2 h hw => ?_)
    refine v_goto (tgt := 24) C dX12_reads_17 (by decide) ?_
    refine v_sub [0] rfl ?_
    exact s_X12_reads_24 C hr  _ _ _ hw
-- GrassFieldModel.law()I
theorem dX12_law_0 : decode cX12_law 0 = .ok (.aload_n 0, 1) := by decide +kernel
theorem dX12_law_1 : decode cX12_law 1 = .ok (.aload_n 0, 1) := by decide +kernel
theorem dX12_law_2 : decode cX12_law 2 = .ok (.iconst 0, 1) := by decide +kernel
theorem dX12_law_3 : decode cX12_law 3 = .ok (.invokevirtual 256, 3) := by decide +kernel
theorem dX12_law_6 : decode cX12_law 6 = .ok (.ifCond .ne 7, 3) := by decide +kernel
theorem dX12_law_9 : decode cX12_law 9 = .ok (.iconst 1, 1) := by decide +kernel
theorem dX12_law_10 : decode cX12_law 10 = .ok (.goto 4, 3) := by decide +kernel
theorem dX12_law_13 : decode cX12_law 13 = .ok (.iconst 0, 1) := by decide +kernel
theorem dX12_law_14 : decode cX12_law 14 = .ok (.iconst 1, 1) := by decide +kernel
theorem dX12_law_15 : decode cX12_law 15 = .ok (.invokevirtual 80, 3) := by decide +kernel
theorem dX12_law_18 : decode cX12_law 18 = .ok (.ifCond .ne 26, 3) := by decide +kernel
theorem dX12_law_21 : decode cX12_law 21 = .ok (.aload_n 0, 1) := by decide +kernel
theorem dX12_law_22 : decode cX12_law 22 = .ok (.aload_n 0, 1) := by decide +kernel
theorem dX12_law_23 : decode cX12_law 23 = .ok (.getfield 13, 3) := by decide +kernel
theorem dX12_law_26 : decode cX12_law 26 = .ok (.iconst 2, 1) := by decide +kernel
theorem dX12_law_27 : decode cX12_law 27 = .ok (.iaload, 1) := by decide +kernel
theorem dX12_law_28 : decode cX12_law 28 = .ok (.iconst 4, 1) := by decide +kernel
theorem dX12_law_29 : decode cX12_law 29 = .ok (.if_icmp .ne 7, 3) := by decide +kernel
theorem dX12_law_32 : decode cX12_law 32 = .ok (.iconst 1, 1) := by decide +kernel
theorem dX12_law_33 : decode cX12_law 33 = .ok (.goto 4, 3) := by decide +kernel
theorem dX12_law_36 : decode cX12_law 36 = .ok (.iconst 0, 1) := by decide +kernel
theorem dX12_law_37 : decode cX12_law 37 = .ok (.iconst 2, 1) := by decide +kernel
theorem dX12_law_38 : decode cX12_law 38 = .ok (.invokevirtual 80, 3) := by decide +kernel
theorem dX12_law_41 : decode cX12_law 41 = .ok (.ifCond .eq 5, 3) := by decide +kernel
theorem dX12_law_44 : decode cX12_law 44 = .ok (.iconst 0, 1) := by decide +kernel
theorem dX12_law_45 : decode cX12_law 45 = .ok (.ireturn, 1) := by decide +kernel
theorem dX12_law_46 : decode cX12_law 46 = .ok (.aload_n 0, 1) := by decide +kernel
theorem dX12_law_47 : decode cX12_law 47 = .ok (.aload_n 0, 1) := by decide +kernel
theorem dX12_law_48 : decode cX12_law 48 = .ok (.getfield 13, 3) := by decide +kernel
theorem dX12_law_51 : decode cX12_law 51 = .ok (.iconst 2, 1) := by decide +kernel
theorem dX12_law_52 : decode cX12_law 52 = .ok (.iaload, 1) := by decide +kernel
theorem dX12_law_53 : decode cX12_law 53 = .ok (.invokevirtual 260, 3) := by decide +kernel
theorem dX12_law_56 : decode cX12_law 56 = .ok (.aload_n 0, 1) := by decide +kernel
theorem dX12_law_57 : decode cX12_law 57 = .ok (.getfield 13, 3) := by decide +kernel
theorem dX12_law_60 : decode cX12_law 60 = .ok (.iconst 2, 1) := by decide +kernel
theorem dX12_law_61 : decode cX12_law 61 = .ok (.dup2, 1) := by decide +kernel
theorem dX12_law_62 : decode cX12_law 62 = .ok (.iaload, 1) := by decide +kernel
theorem dX12_law_63 : decode cX12_law 63 = .ok (.iconst 1, 1) := by decide +kernel
theorem dX12_law_64 : decode cX12_law 64 = .ok (.iadd, 1) := by decide +kernel
theorem dX12_law_65 : decode cX12_law 65 = .ok (.iastore, 1) := by decide +kernel
theorem dX12_law_66 : decode cX12_law 66 = .ok (.aload_n 0, 1) := by decide +kernel
theorem dX12_law_67 : decode cX12_law 67 = .ok (.getfield 13, 3) := by decide +kernel
theorem dX12_law_70 : decode cX12_law 70 = .ok (.iconst 2, 1) := by decide +kernel
theorem dX12_law_71 : decode cX12_law 71 = .ok (.iaload, 1) := by decide +kernel
theorem dX12_law_72 : decode cX12_law 72 = .ok (.iconst 1, 1) := by decide +kernel
theorem dX12_law_73 : decode cX12_law 73 = .ok (.isub, 1) := by decide +kernel
theorem dX12_law_74 : decode cX12_law 74 = .ok (.ireturn, 1) := by decide +kernel
def w_X12_law_44  (h : AH) (Q : Int32 → AH → Prop) : Prop :=
  Q (0 : Int32) h
def w_X12_law_37  (v0 : Nat) (t0 : Nat) (t1 : Int32) (h : AH) (Q : Int32 → AH → Prop) : Prop :=
  vr h t0 12 (
  w_X12_throwsIf t0 t1 (2 : Int32) h (fun x1 h =>
  br (x1 = 0) (
    fN h v0 12 1 fun a2 =>
    aI h a2 (2 : Int32) fun x3 =>
    vr h v0 12 (
    w_X12_keeps v0 x3 h (fun h =>
    fN h v0 12 1 fun a4 =>
    aI h a4 (2 : Int32) fun x5 =>
    tI h a4 (2 : Int32) (x5 + (1 : Int32)) fun h =>
    fN h v0 12 1 fun a6 =>
    aI h a6 (2 : Int32) fun x7 =>
    Q (x7 - (1 : Int32)) h))) (
    w_X12_law_44  h Q)))
def w_X12_law_14  (v0 : Nat) (t0 : Nat) (t1 : Int32) (h : AH) (Q : Int32 → AH → Prop) : Prop :=
  vr h t0 12 (
  w_X12_throwsIf t0 t1 (1 : Int32) h (fun x1 h =>
  br (x1 = 0) (
    fN h v0 12 1 fun a2 =>
    aI h a2 (2 : Int32) fun x3 =>
    br (x3 = (4 : Int32)) (
      w_X12_law_37 v0 v0 (1 : Int32) h Q) (
      w_X12_law_37 v0 v0 (0 : Int32) h Q)) (
    w_X12_law_44  h Q)))
def w_X12_law  (v0 : Nat) (h : AH) (Q : Int32 → AH → Prop) : Prop :=
  vr h v0 12 (
  w_X12_reads v0 (0 : Int32) h (fun x1 h =>
  br (x1 = 0) (
    w_X12_law_14 v0 v0 (1 : Int32) h Q) (
    w_X12_law_14 v0 v0 (0 : Int32) h Q)))
set_option maxRecDepth 100000 in
set_option maxHeartbeats 4000000 in
theorem s_X12_law_44 {p : Program} {l : Launch} {e : Env} {s : State} {m : MethodId} {args : Array Value} {below : List Frame} {meth : Method} {c : Code} {g : GG}  {Q : Int32 → AH → Prop}  (C : CXT p l s m args meth c RX12 cX12_law 1 g) (hr : meth.sig.returnType = (some .int))  : ∀  (h : AH), w_X12_law_44  h Q → V p l e s m args below meth c g 53 0 0 1 0 0 (MQ below (QCx g (QI Q)) args s 0 0 (gA g)) 44 [] [] h := by
  intro  h hw
  refine v_iconst (v := 0) C dX12_law_44 (by decide) ?_
  exact (rt_MQ C _).1 _ _ _ _ _ _ hr dX12_law_45 (by decide) (by decide) ⟨_, rfl, hw⟩
set_option maxRecDepth 100000 in
set_option maxHeartbeats 4000000 in
theorem s_X12_law_37 {p : Program} {l : Launch} {e : Env} {s : State} {m : MethodId} {args : Array Value} {below : List Frame} {meth : Method} {c : Code} {g : GG}  {Q : Int32 → AH → Prop}  (C : CXT p l s m args meth c RX12 cX12_law 1 g) (hr : meth.sig.returnType = (some .int))  : ∀ (v0 : Nat) (t0 : Nat) (t1 : Int32) (h : AH), w_X12_law_37  v0 t0 t1 h Q → V p l e s m args below meth c g 53 0 0 1 0 0 (MQ below (QCx g (QI Q)) args s 0 0 (gA g)) 37 [(0, .ref v0)] [.int t1, .ref t0] h := by
  intro v0 t0 t1 h hw
  refine v_iconst (v := 2) C dX12_law_37 (by decide) ?_
  refine w_callVi (st := []) C cl_X12_80 im_X12_throwsIf se_X12_throwsIf rfl hw.1 (s_X12_throwsIf hw.2) rfl dX12_law_38 rfl (by decide) (by decide) (by decide) (by decide) (by decide) (fun x1 h hw => ?_)
  refine v_if_eq (tgt := 46) C dX12_law_41 (by decide) (fun c_41 => ?_) (fun c_41 => ?_)
  · have hw := hw.1 c_41
    refine v_aload_n C dX12_law_46 0 rfl rfl ?_
    refine v_aload_n C dX12_law_47 0 rfl rfl ?_
    refine w_getN C fl_X12_13 dX12_law_48 rfl hw (fun a2 hw => ?_)
    refine v_iconst (v := 2) C dX12_law_51 (by decide) ?_
    refine w_iaload C dX12_law_52 hw (fun x3 hw => ?_)
    refine w_callVv (st := []) C cl_X12_260 im_X12_keeps se_X12_keeps rfl hw.1 (s_X12_keeps hw.2) rfl dX12_law_53 rfl (by decide) (by decide) (by decide) (by decide) (by decide) (fun h hw => ?_)
    refine v_aload_n C dX12_law_56 0 rfl rfl ?_
    refine w_getN C fl_X12_13 dX12_law_57 rfl hw (fun a4 hw => ?_)
    refine v_iconst (v := 2) C dX12_law_60 (by decide) ?_
    refine v_dup2 C dX12_law_61 rfl rfl ?_
    refine w_iaload C dX12_law_62 hw (fun x5 hw => ?_)
    refine v_iconst (v := 1) C dX12_law_63 (by decide) ?_
    refine v_iadd C dX12_law_64 ?_
    refine w_iastore C dX12_law_65 hw (fun h hw => ?_)
    refine v_aload_n C dX12_law_66 0 rfl rfl ?_
    refine w_getN C fl_X12_13 dX12_law_67 rfl hw (fun a6 hw => ?_)
    refine v_iconst (v := 2) C dX12_law_70 (by decide) ?_
    refine w_iaload C dX12_law_71 hw (fun x7 hw => ?_)
    refine v_iconst (v := 1) C dX12_law_72 (by decide) ?_
    refine v_isub C dX12_law_73 ?_
    exact (rt_MQ C _).1 _ _ _ _ _ _ hr dX12_law_74 (by decide) (by decide) ⟨_, rfl, hw⟩
  · have hw := hw.2 c_41
    refine v_sub [] rfl ?_
    exact s_X12_law_44 C hr   _ hw
set_option maxRecDepth 100000 in
set_option maxHeartbeats 4000000 in
theorem s_X12_law_14 {p : Program} {l : Launch} {e : Env} {s : State} {m : MethodId} {args : Array Value} {below : List Frame} {meth : Method} {c : Code} {g : GG}  {Q : Int32 → AH → Prop}  (C : CXT p l s m args meth c RX12 cX12_law 1 g) (hr : meth.sig.returnType = (some .int))  : ∀ (v0 : Nat) (t0 : Nat) (t1 : Int32) (h : AH), w_X12_law_14  v0 t0 t1 h Q → V p l e s m args below meth c g 53 0 0 1 0 0 (MQ below (QCx g (QI Q)) args s 0 0 (gA g)) 14 [(0, .ref v0)] [.int t1, .ref t0] h := by
  intro v0 t0 t1 h hw
  refine v_iconst (v := 1) C dX12_law_14 (by decide) ?_
  refine w_callVi (st := []) C cl_X12_80 im_X12_throwsIf se_X12_throwsIf rfl hw.1 (s_X12_throwsIf hw.2) rfl dX12_law_15 rfl (by decide) (by decide) (by decide) (by decide) (by decide) (fun x1 h hw => ?_)
  refine v_if_ne (tgt := 44) C dX12_law_18 (by decide) (fun c_18 => ?_) (fun c_18 => ?_)
  · have hw := hw.2 c_18
    refine v_sub [] rfl ?_
    exact s_X12_law_44 C hr   _ hw
  · have hw := hw.1 c_18
    refine v_aload_n C dX12_law_21 0 rfl rfl ?_
    refine v_aload_n C dX12_law_22 0 rfl rfl ?_
    refine w_getN C fl_X12_13 dX12_law_23 rfl hw (fun a2 hw => ?_)
    refine v_iconst (v := 2) C dX12_law_26 (by decide) ?_
    refine w_iaload C dX12_law_27 hw (fun x3 hw => ?_)
    refine v_iconst (v := 4) C dX12_law_28 (by decide) ?_
    refine v_icmp_ne (tgt := 36) C dX12_law_29 (by decide) (fun c_29 => ?_) (fun c_29 => ?_)
    · have hw := hw.2 c_29
      refine v_iconst (v := 0) C dX12_law_36 (by decide) ?_
      exact s_X12_law_37 C hr  _ _ _ _ hw
    · have hw := hw.1 c_29
      refine v_iconst (v := 1) C dX12_law_32 (by decide) ?_
      refine v_goto (tgt := 37) C dX12_law_33 (by decide) ?_
      exact s_X12_law_37 C hr  _ _ _ _ hw
set_option maxRecDepth 100000 in
set_option maxHeartbeats 4000000 in
theorem s_X12_law {l : Launch}  {v0 : Nat} {h : AH} {Q : Int32 → AH → Prop}  (hw : w_X12_law  v0 h Q) : CT l yX12_law cX12_law 1 (some .int) 53 0 0 [.ref v0] h (QI Q) := by
  refine CT.of (by decide) ⟨rfl, trivial⟩ (Nat.le_of_ble_eq_true rfl) ?_
  intro p e s m args below meth c g C hr hin
  refine v_eq (pc' := 0) (ls' := [(0, .ref v0)]) rfl rfl rfl rfl ?_
  refine v_aload_n C dX12_law_0 0 rfl rfl ?_
  refine v_aload_n C dX12_law_1 0 rfl rfl ?_
  refine v_iconst (v := 0) C dX12_law_2 (by decide) ?_
  refine w_callVi (st := [.ref v0]) C cl_X12_256 im_X12_reads se_X12_reads rfl hw.1 (s_X12_reads hw.2) rfl dX12_law_3 rfl (Nat.le_of_ble_eq_true rfl) (by decide) (by decide) (by decide) (by decide) (fun x1 h hw => ?_)
  refine v_if_ne (tgt := 13) C dX12_law_6 (by decide) (fun c_6 => ?_) (fun c_6 => ?_)
  · have hw := hw.2 c_6
    refine v_iconst (v := 0) C dX12_law_13 (by decide) ?_
    exact s_X12_law_14 C hr  _ _ _ _ hw
  · have hw := hw.1 c_6
    refine v_iconst (v := 1) C dX12_law_9 (by decide) ?_
    refine v_goto (tgt := 14) C dX12_law_10 (by decide) ?_
    exact s_X12_law_14 C hr  _ _ _ _ hw
-- GrassFieldModel.story(I)I
theorem dX12_story_0 : decode cX12_story 0 = .ok (.aload_n 0, 1) := by decide +kernel
theorem dX12_story_1 : decode cX12_story 1 = .ok (.aload_n 0, 1) := by decide +kernel
theorem dX12_story_2 : decode cX12_story 2 = .ok (.iconst 1, 1) := by decide +kernel
theorem dX12_story_3 : decode cX12_story 3 = .ok (.invokevirtual 256, 3) := by decide +kernel
theorem dX12_story_6 : decode cX12_story 6 = .ok (.ifCond .eq 13, 3) := by decide +kernel
theorem dX12_story_9 : decode cX12_story 9 = .ok (.iload_n 1, 1) := by decide +kernel
theorem dX12_story_10 : decode cX12_story 10 = .ok (.iconst 1, 1) := by decide +kernel
theorem dX12_story_11 : decode cX12_story 11 = .ok (.bipush 99, 2) := by decide +kernel
theorem dX12_story_13 : decode cX12_story 13 = .ok (.invokestatic 59, 3) := by decide +kernel
theorem dX12_story_16 : decode cX12_story 16 = .ok (.ifCond .ne 7, 3) := by decide +kernel
theorem dX12_story_19 : decode cX12_story 19 = .ok (.iconst 1, 1) := by decide +kernel
theorem dX12_story_20 : decode cX12_story 20 = .ok (.goto 4, 3) := by decide +kernel
theorem dX12_story_23 : decode cX12_story 23 = .ok (.iconst 0, 1) := by decide +kernel
theorem dX12_story_24 : decode cX12_story 24 = .ok (.iconst 1, 1) := by decide +kernel
theorem dX12_story_25 : decode cX12_story 25 = .ok (.invokevirtual 80, 3) := by decide +kernel
theorem dX12_story_28 : decode cX12_story 28 = .ok (.ifCond .ne 27, 3) := by decide +kernel
theorem dX12_story_31 : decode cX12_story 31 = .ok (.aload_n 0, 1) := by decide +kernel
theorem dX12_story_32 : decode cX12_story 32 = .ok (.aload_n 0, 1) := by decide +kernel
theorem dX12_story_33 : decode cX12_story 33 = .ok (.getfield 13, 3) := by decide +kernel
theorem dX12_story_36 : decode cX12_story 36 = .ok (.bipush 6, 2) := by decide +kernel
theorem dX12_story_38 : decode cX12_story 38 = .ok (.iaload, 1) := by decide +kernel
theorem dX12_story_39 : decode cX12_story 39 = .ok (.iconst 5, 1) := by decide +kernel
theorem dX12_story_40 : decode cX12_story 40 = .ok (.if_icmp .ne 7, 3) := by decide +kernel
theorem dX12_story_43 : decode cX12_story 43 = .ok (.iconst 1, 1) := by decide +kernel
theorem dX12_story_44 : decode cX12_story 44 = .ok (.goto 4, 3) := by decide +kernel
theorem dX12_story_47 : decode cX12_story 47 = .ok (.iconst 0, 1) := by decide +kernel
theorem dX12_story_48 : decode cX12_story 48 = .ok (.iconst 2, 1) := by decide +kernel
theorem dX12_story_49 : decode cX12_story 49 = .ok (.invokevirtual 80, 3) := by decide +kernel
theorem dX12_story_52 : decode cX12_story 52 = .ok (.ifCond .eq 5, 3) := by decide +kernel
theorem dX12_story_55 : decode cX12_story 55 = .ok (.iconst 0, 1) := by decide +kernel
theorem dX12_story_56 : decode cX12_story 56 = .ok (.ireturn, 1) := by decide +kernel
theorem dX12_story_57 : decode cX12_story 57 = .ok (.aload_n 0, 1) := by decide +kernel
theorem dX12_story_58 : decode cX12_story 58 = .ok (.getfield 13, 3) := by decide +kernel
theorem dX12_story_61 : decode cX12_story 61 = .ok (.bipush 6, 2) := by decide +kernel
theorem dX12_story_63 : decode cX12_story 63 = .ok (.iaload, 1) := by decide +kernel
theorem dX12_story_64 : decode cX12_story 64 = .ok (.istore_n 2, 1) := by decide +kernel
theorem dX12_story_65 : decode cX12_story 65 = .ok (.aload_n 0, 1) := by decide +kernel
theorem dX12_story_66 : decode cX12_story 66 = .ok (.iconst 4, 1) := by decide +kernel
theorem dX12_story_67 : decode cX12_story 67 = .ok (.iload_n 2, 1) := by decide +kernel
theorem dX12_story_68 : decode cX12_story 68 = .ok (.iadd, 1) := by decide +kernel
theorem dX12_story_69 : decode cX12_story 69 = .ok (.invokevirtual 260, 3) := by decide +kernel
theorem dX12_story_72 : decode cX12_story 72 = .ok (.aload_n 0, 1) := by decide +kernel
theorem dX12_story_73 : decode cX12_story 73 = .ok (.getfield 13, 3) := by decide +kernel
theorem dX12_story_76 : decode cX12_story 76 = .ok (.sipush 1161, 3) := by decide +kernel
theorem dX12_story_79 : decode cX12_story 79 = .ok (.iload_n 2, 1) := by decide +kernel
theorem dX12_story_80 : decode cX12_story 80 = .ok (.iadd, 1) := by decide +kernel
theorem dX12_story_81 : decode cX12_story 81 = .ok (.iload_n 1, 1) := by decide +kernel
theorem dX12_story_82 : decode cX12_story 82 = .ok (.iastore, 1) := by decide +kernel
theorem dX12_story_83 : decode cX12_story 83 = .ok (.aload_n 0, 1) := by decide +kernel
theorem dX12_story_84 : decode cX12_story 84 = .ok (.getfield 13, 3) := by decide +kernel
theorem dX12_story_87 : decode cX12_story 87 = .ok (.bipush 6, 2) := by decide +kernel
theorem dX12_story_89 : decode cX12_story 89 = .ok (.dup2, 1) := by decide +kernel
theorem dX12_story_90 : decode cX12_story 90 = .ok (.iaload, 1) := by decide +kernel
theorem dX12_story_91 : decode cX12_story 91 = .ok (.iconst 1, 1) := by decide +kernel
theorem dX12_story_92 : decode cX12_story 92 = .ok (.iadd, 1) := by decide +kernel
theorem dX12_story_93 : decode cX12_story 93 = .ok (.iastore, 1) := by decide +kernel
theorem dX12_story_94 : decode cX12_story 94 = .ok (.iload_n 2, 1) := by decide +kernel
theorem dX12_story_95 : decode cX12_story 95 = .ok (.ireturn, 1) := by decide +kernel
def w_X12_story_55  (h : AH) (Q : Int32 → AH → Prop) : Prop :=
  Q (0 : Int32) h
def w_X12_story_48  (v0 : Nat) (v1 : Int32) (t0 : Nat) (t1 : Int32) (h : AH) (Q : Int32 → AH → Prop) : Prop :=
  vr h t0 12 (
  w_X12_throwsIf t0 t1 (2 : Int32) h (fun x1 h =>
  br (x1 = 0) (
    fN h v0 12 1 fun a2 =>
    aI h a2 (6 : Int32) fun x3 =>
    vr h v0 12 (
    w_X12_keeps v0 ((4 : Int32) + x3) h (fun h =>
    fN h v0 12 1 fun a4 =>
    tI h a4 ((1161 : Int32) + x3) v1 fun h =>
    fN h v0 12 1 fun a5 =>
    aI h a5 (6 : Int32) fun x6 =>
    tI h a5 (6 : Int32) (x6 + (1 : Int32)) fun h =>
    Q x3 h))) (
    w_X12_story_55  h Q)))
def w_X12_story_24  (v0 : Nat) (v1 : Int32) (t0 : Nat) (t1 : Int32) (h : AH) (Q : Int32 → AH → Prop) : Prop :=
  vr h t0 12 (
  w_X12_throwsIf t0 t1 (1 : Int32) h (fun x1 h =>
  br (x1 = 0) (
    fN h v0 12 1 fun a2 =>
    aI h a2 (6 : Int32) fun x3 =>
    br (x3 = (5 : Int32)) (
      w_X12_story_48 v0 v1 v0 (1 : Int32) h Q) (
      w_X12_story_48 v0 v1 v0 (0 : Int32) h Q)) (
    w_X12_story_55  h Q)))
def w_X12_story_19  (v0 : Nat) (v1 : Int32) (t0 : Nat) (h : AH) (Q : Int32 → AH → Prop) : Prop :=
  w_X12_story_24 v0 v1 t0 (1 : Int32) h Q
def w_X12_story  (v0 : Nat) (v1 : Int32) (h : AH) (Q : Int32 → AH → Prop) : Prop :=
  vr h v0 12 (
  w_X12_reads v0 (1 : Int32) h (fun x1 h =>
  br (x1 = 0) (
    w_X12_story_19 v0 v1 v0 h Q) (
    w_X12_in v1 (1 : Int32) (99 : Int32) h (fun x2 h =>
    br (x2 = 0) (
      w_X12_story_19 v0 v1 v0 h Q) (
      w_X12_story_24 v0 v1 v0 (0 : Int32) h Q)))))
set_option maxRecDepth 100000 in
set_option maxHeartbeats 4000000 in
theorem s_X12_story_55 {p : Program} {l : Launch} {e : Env} {s : State} {m : MethodId} {args : Array Value} {below : List Frame} {meth : Method} {c : Code} {g : GG}  {Q : Int32 → AH → Prop}  (C : CXT p l s m args meth c RX12 cX12_story 3 g) (hr : meth.sig.returnType = (some .int))  : ∀  (h : AH), w_X12_story_55  h Q → V p l e s m args below meth c g 53 0 0 3 0 0 (MQ below (QCx g (QI Q)) args s 0 0 (gA g)) 55 [] [] h := by
  intro  h hw
  refine v_iconst (v := 0) C dX12_story_55 (by decide) ?_
  exact (rt_MQ C _).1 _ _ _ _ _ _ hr dX12_story_56 (by decide) (by decide) ⟨_, rfl, hw⟩
set_option maxRecDepth 100000 in
set_option maxHeartbeats 4000000 in
theorem s_X12_story_48 {p : Program} {l : Launch} {e : Env} {s : State} {m : MethodId} {args : Array Value} {below : List Frame} {meth : Method} {c : Code} {g : GG}  {Q : Int32 → AH → Prop}  (C : CXT p l s m args meth c RX12 cX12_story 3 g) (hr : meth.sig.returnType = (some .int))  : ∀ (v0 : Nat) (v1 : Int32) (t0 : Nat) (t1 : Int32) (h : AH), w_X12_story_48  v0 v1 t0 t1 h Q → V p l e s m args below meth c g 53 0 0 3 0 0 (MQ below (QCx g (QI Q)) args s 0 0 (gA g)) 48 [(0, .ref v0), (1, .int v1)] [.int t1, .ref t0] h := by
  intro v0 v1 t0 t1 h hw
  refine v_iconst (v := 2) C dX12_story_48 (by decide) ?_
  refine w_callVi (st := []) C cl_X12_80 im_X12_throwsIf se_X12_throwsIf rfl hw.1 (s_X12_throwsIf hw.2) rfl dX12_story_49 rfl (by decide) (by decide) (by decide) (by decide) (by decide) (fun x1 h hw => ?_)
  refine v_if_eq (tgt := 57) C dX12_story_52 (by decide) (fun c_52 => ?_) (fun c_52 => ?_)
  · have hw := hw.1 c_52
    refine v_aload_n C dX12_story_57 0 rfl rfl ?_
    refine w_getN C fl_X12_13 dX12_story_58 rfl hw (fun a2 hw => ?_)
    refine v_bipush (v := 6) C dX12_story_61 (by decide) ?_
    refine w_iaload C dX12_story_63 hw (fun x3 hw => ?_)
    refine v_istore_n (ls' := [(2, .int x3), (0, .ref v0), (1, .int v1)]) C dX12_story_64 rfl (by decide) rfl ?_
    refine v_aload_n C dX12_story_65 1 rfl rfl ?_
    refine v_iconst (v := 4) C dX12_story_66 (by decide) ?_
    refine v_iload_n C dX12_story_67 0 rfl rfl ?_
    refine v_iadd C dX12_story_68 ?_
    refine w_callVv (st := []) C cl_X12_260 im_X12_keeps se_X12_keeps rfl hw.1 (s_X12_keeps hw.2) rfl dX12_story_69 rfl (by decide) (by decide) (by decide) (by decide) (by decide) (fun h hw => ?_)
    refine v_aload_n C dX12_story_72 1 rfl rfl ?_
    refine w_getN C fl_X12_13 dX12_story_73 rfl hw (fun a4 hw => ?_)
    refine v_sipush (v := 1161) C dX12_story_76 (by decide) ?_
    refine v_iload_n C dX12_story_79 0 rfl rfl ?_
    refine v_iadd C dX12_story_80 ?_
    refine v_iload_n C dX12_story_81 2 rfl rfl ?_
    refine w_iastore C dX12_story_82 hw (fun h hw => ?_)
    refine v_aload_n C dX12_story_83 1 rfl rfl ?_
    refine w_getN C fl_X12_13 dX12_story_84 rfl hw (fun a5 hw => ?_)
    refine v_bipush (v := 6) C dX12_story_87 (by decide) ?_
    refine v_dup2 C dX12_story_89 rfl rfl ?_
    refine w_iaload C dX12_story_90 hw (fun x6 hw => ?_)
    refine v_iconst (v := 1) C dX12_story_91 (by decide) ?_
    refine v_iadd C dX12_story_92 ?_
    refine w_iastore C dX12_story_93 hw (fun h hw => ?_)
    refine v_iload_n C dX12_story_94 0 rfl rfl ?_
    exact (rt_MQ C _).1 _ _ _ _ _ _ hr dX12_story_95 (by decide) (by decide) ⟨_, rfl, hw⟩
  · have hw := hw.2 c_52
    refine v_sub [] rfl ?_
    exact s_X12_story_55 C hr   _ hw
set_option maxRecDepth 100000 in
set_option maxHeartbeats 4000000 in
theorem s_X12_story_24 {p : Program} {l : Launch} {e : Env} {s : State} {m : MethodId} {args : Array Value} {below : List Frame} {meth : Method} {c : Code} {g : GG}  {Q : Int32 → AH → Prop}  (C : CXT p l s m args meth c RX12 cX12_story 3 g) (hr : meth.sig.returnType = (some .int))  : ∀ (v0 : Nat) (v1 : Int32) (t0 : Nat) (t1 : Int32) (h : AH), w_X12_story_24  v0 v1 t0 t1 h Q → V p l e s m args below meth c g 53 0 0 3 0 0 (MQ below (QCx g (QI Q)) args s 0 0 (gA g)) 24 [(0, .ref v0), (1, .int v1)] [.int t1, .ref t0] h := by
  intro v0 v1 t0 t1 h hw
  refine v_iconst (v := 1) C dX12_story_24 (by decide) ?_
  refine w_callVi (st := []) C cl_X12_80 im_X12_throwsIf se_X12_throwsIf rfl hw.1 (s_X12_throwsIf hw.2) rfl dX12_story_25 rfl (by decide) (by decide) (by decide) (by decide) (by decide) (fun x1 h hw => ?_)
  refine v_if_ne (tgt := 55) C dX12_story_28 (by decide) (fun c_28 => ?_) (fun c_28 => ?_)
  · have hw := hw.2 c_28
    refine v_sub [] rfl ?_
    exact s_X12_story_55 C hr   _ hw
  · have hw := hw.1 c_28
    refine v_aload_n C dX12_story_31 0 rfl rfl ?_
    refine v_aload_n C dX12_story_32 0 rfl rfl ?_
    refine w_getN C fl_X12_13 dX12_story_33 rfl hw (fun a2 hw => ?_)
    refine v_bipush (v := 6) C dX12_story_36 (by decide) ?_
    refine w_iaload C dX12_story_38 hw (fun x3 hw => ?_)
    refine v_iconst (v := 5) C dX12_story_39 (by decide) ?_
    refine v_icmp_ne (tgt := 47) C dX12_story_40 (by decide) (fun c_40 => ?_) (fun c_40 => ?_)
    · have hw := hw.2 c_40
      refine v_iconst (v := 0) C dX12_story_47 (by decide) ?_
      exact s_X12_story_48 C hr  _ _ _ _ _ hw
    · have hw := hw.1 c_40
      refine v_iconst (v := 1) C dX12_story_43 (by decide) ?_
      refine v_goto (tgt := 48) C dX12_story_44 (by decide) ?_
      exact s_X12_story_48 C hr  _ _ _ _ _ hw
set_option maxRecDepth 100000 in
set_option maxHeartbeats 4000000 in
theorem s_X12_story_19 {p : Program} {l : Launch} {e : Env} {s : State} {m : MethodId} {args : Array Value} {below : List Frame} {meth : Method} {c : Code} {g : GG}  {Q : Int32 → AH → Prop}  (C : CXT p l s m args meth c RX12 cX12_story 3 g) (hr : meth.sig.returnType = (some .int))  : ∀ (v0 : Nat) (v1 : Int32) (t0 : Nat) (h : AH), w_X12_story_19  v0 v1 t0 h Q → V p l e s m args below meth c g 53 0 0 3 0 0 (MQ below (QCx g (QI Q)) args s 0 0 (gA g)) 19 [(0, .ref v0), (1, .int v1)] [.ref t0] h := by
  intro v0 v1 t0 h hw
  refine v_iconst (v := 1) C dX12_story_19 (by decide) ?_
  refine v_goto (tgt := 24) C dX12_story_20 (by decide) ?_
  exact s_X12_story_24 C hr  _ _ _ _ _ hw
set_option maxRecDepth 100000 in
set_option maxHeartbeats 4000000 in
theorem s_X12_story {l : Launch}  {v0 : Nat} {v1 : Int32} {h : AH} {Q : Int32 → AH → Prop}  (hw : w_X12_story  v0 v1 h Q) : CT l yX12_story cX12_story 3 (some .int) 53 0 0 [.ref v0, .int v1] h (QI Q) := by
  refine CT.of (by decide) ⟨rfl, ⟨rfl, trivial⟩⟩ (Nat.le_of_ble_eq_true rfl) ?_
  intro p e s m args below meth c g C hr hin
  refine v_eq (pc' := 0) (ls' := [(0, .ref v0), (1, .int v1)]) rfl rfl rfl rfl ?_
  refine v_aload_n C dX12_story_0 0 rfl rfl ?_
  refine v_aload_n C dX12_story_1 0 rfl rfl ?_
  refine v_iconst (v := 1) C dX12_story_2 (by decide) ?_
  refine w_callVi (st := [.ref v0]) C cl_X12_256 im_X12_reads se_X12_reads rfl hw.1 (s_X12_reads hw.2) rfl dX12_story_3 rfl (Nat.le_of_ble_eq_true rfl) (by decide) (by decide) (by decide) (by decide) (fun x1 h hw => ?_)
  refine v_if_eq (tgt := 19) C dX12_story_6 (by decide) (fun c_6 => ?_) (fun c_6 => ?_)
  · have hw := hw.1 c_6
    exact s_X12_story_19 C hr  _ _ _ _ hw
  · have hw := hw.2 c_6
    refine v_iload_n C dX12_story_9 1 rfl rfl ?_
    refine v_iconst (v := 1) C dX12_story_10 (by decide) ?_
    refine v_bipush (v := 99) C dX12_story_11 (by decide) ?_
    refine w_callSi (st := [.ref v0]) C cl_X12_59 st_X12_in (s_X12_in hw) rfl dX12_story_13 rfl (Nat.le_of_ble_eq_true rfl) (by decide) (by decide) (by decide) (by decide) (fun x2 h hw => ?_)
    refine v_if_ne (tgt := 23) C dX12_story_16 (by decide) (fun c_16 => ?_) (fun c_16 => ?_)
    · have hw := hw.2 c_16
      refine v_iconst (v := 0) C dX12_story_23 (by decide) ?_
      exact s_X12_story_24 C hr  _ _ _ _ _ hw
    · have hw := hw.1 c_16
      exact s_X12_story_19 C hr  _ _ _ _ hw
