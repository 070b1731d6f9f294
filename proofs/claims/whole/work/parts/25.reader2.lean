theorem cl_X6_46 : CLk RX6 46 yX6_readLine cX6_readLine 2 (some .boolean) 0 := ⟨Or.inl (tb4 (List.mem_of_getElem? (i := 161) rfl)), (tb4 (List.mem_of_getElem? (i := 164) rfl)), (tb1 (List.mem_of_getElem? (i := 2) rfl)), by decide +kernel, by decide +kernel, by decide +kernel⟩
theorem im_X6_readLine : Cond.instanceMethod yX6_readLine ∈ lw_tbl := (tb4 (List.mem_of_getElem? (i := 163) rfl))
theorem se_X6_readLine : Cond.selects RX6 yX6_readLine yX6_readLine ∈ lw_tbl := (tbp1 12 rfl)
theorem cl_X6_39 : CLk RX6 39 yX6_open cX6_open 2 none 1 := ⟨Or.inl (tb4 (List.mem_of_getElem? (i := 32) rfl)), (tb4 (List.mem_of_getElem? (i := 35) rfl)), (tb1 (List.mem_of_getElem? (i := 2) rfl)), by decide +kernel, by decide +kernel, by decide +kernel⟩
theorem im_X6_open : Cond.instanceMethod yX6_open ∈ lw_tbl := (tb4 (List.mem_of_getElem? (i := 34) rfl))
theorem se_X6_open : Cond.selects RX6 yX6_open yX6_open ∈ lw_tbl := (tbp1 6 rfl)
-- GrassField$Reader.readLine()Z
theorem dX6_readLine_0 : decode cX6_readLine 0 = .ok (.aload_n 0, 1) := by decide +kernel
theorem dX6_readLine_1 : decode cX6_readLine 1 = .ok (.getfield 43, 3) := by decide +kernel
theorem dX6_readLine_4 : decode cX6_readLine 4 = .ok (.sipush 1000, 3) := by decide +kernel
theorem dX6_readLine_7 : decode cX6_readLine 7 = .ok (.if_icmp .lt 13, 3) := by decide +kernel
theorem dX6_readLine_10 : decode cX6_readLine 10 = .ok (.aload_n 0, 1) := by decide +kernel
theorem dX6_readLine_11 : decode cX6_readLine 11 = .ok (.getfield 43, 3) := by decide +kernel
theorem dX6_readLine_14 : decode cX6_readLine 14 = .ok (.sipush 1004, 3) := by decide +kernel
theorem dX6_readLine_17 : decode cX6_readLine 17 = .ok (.if_icmp .le 8, 3) := by decide +kernel
theorem dX6_readLine_20 : decode cX6_readLine 20 = .ok (.aload_n 0, 1) := by decide +kernel
theorem dX6_readLine_21 : decode cX6_readLine 21 = .ok (.invokevirtual 50, 3) := by decide +kernel
theorem dX6_readLine_24 : decode cX6_readLine 24 = .ok (.ireturn, 1) := by decide +kernel
theorem dX6_readLine_25 : decode cX6_readLine 25 = .ok (.aload_n 0, 1) := by decide +kernel
theorem dX6_readLine_26 : decode cX6_readLine 26 = .ok (.getfield 43, 3) := by decide +kernel
theorem dX6_readLine_29 : decode cX6_readLine 29 = .ok (.sipush 1000, 3) := by decide +kernel
theorem dX6_readLine_32 : decode cX6_readLine 32 = .ok (.isub, 1) := by decide +kernel
theorem dX6_readLine_33 : decode cX6_readLine 33 = .ok (.iconst 1, 1) := by decide +kernel
theorem dX6_readLine_34 : decode cX6_readLine 34 = .ok (.iadd, 1) := by decide +kernel
theorem dX6_readLine_35 : decode cX6_readLine 35 = .ok (.istore_n 1, 1) := by decide +kernel
theorem dX6_readLine_36 : decode cX6_readLine 36 = .ok (.aload_n 0, 1) := by decide +kernel
theorem dX6_readLine_37 : decode cX6_readLine 37 = .ok (.invokevirtual 53, 3) := by decide +kernel
theorem dX6_readLine_40 : decode cX6_readLine 40 = .ok (.aload_n 0, 1) := by decide +kernel
theorem dX6_readLine_41 : decode cX6_readLine 41 = .ok (.getfield 43, 3) := by decide +kernel
theorem dX6_readLine_44 : decode cX6_readLine 44 = .ok (.sipush 1005, 3) := by decide +kernel
theorem dX6_readLine_47 : decode cX6_readLine 47 = .ok (.if_icmp .eq 12, 3) := by decide +kernel
theorem dX6_readLine_50 : decode cX6_readLine 50 = .ok (.aload_n 0, 1) := by decide +kernel
theorem dX6_readLine_51 : decode cX6_readLine 51 = .ok (.iconst 0, 1) := by decide +kernel
theorem dX6_readLine_52 : decode cX6_readLine 52 = .ok (.iconst 1, 1) := by decide +kernel
theorem dX6_readLine_53 : decode cX6_readLine 53 = .ok (.invokevirtual 60, 3) := by decide +kernel
theorem dX6_readLine_56 : decode cX6_readLine 56 = .ok (.goto 17, 3) := by decide +kernel
theorem dX6_readLine_59 : decode cX6_readLine 59 = .ok (.aload_n 0, 1) := by decide +kernel
theorem dX6_readLine_60 : decode cX6_readLine 60 = .ok (.invokevirtual 53, 3) := by decide +kernel
theorem dX6_readLine_63 : decode cX6_readLine 63 = .ok (.aload_n 0, 1) := by decide +kernel
theorem dX6_readLine_64 : decode cX6_readLine 64 = .ok (.iconst 0, 1) := by decide +kernel
theorem dX6_readLine_65 : decode cX6_readLine 65 = .ok (.invokevirtual 56, 3) := by decide +kernel
theorem dX6_readLine_68 : decode cX6_readLine 68 = .ok (.ifCond .ne 5, 3) := by decide +kernel
theorem dX6_readLine_71 : decode cX6_readLine 71 = .ok (.iconst 0, 1) := by decide +kernel
theorem dX6_readLine_72 : decode cX6_readLine 72 = .ok (.ireturn, 1) := by decide +kernel
theorem dX6_readLine_73 : decode cX6_readLine 73 = .ok (.aload_n 0, 1) := by decide +kernel
theorem dX6_readLine_74 : decode cX6_readLine 74 = .ok (.bipush 10, 2) := by decide +kernel
theorem dX6_readLine_76 : decode cX6_readLine 76 = .ok (.iload_n 1, 1) := by decide +kernel
theorem dX6_readLine_77 : decode cX6_readLine 77 = .ok (.invokevirtual 60, 3) := by decide +kernel
theorem dX6_readLine_80 : decode cX6_readLine 80 = .ok (.iconst 1, 1) := by decide +kernel
theorem dX6_readLine_81 : decode cX6_readLine 81 = .ok (.ireturn, 1) := by decide +kernel
def w_X6_readLine_73  (v0 : Nat) (v1 : Int32) (h : AH) (Q : Int32 → AH → Prop) : Prop :=
  vr h v0 6 (
  w_X6_addStep v0 (10 : Int32) v1 h (fun h =>
  Q (1 : Int32) h))
def w_X6_readLine_20  (v0 : Nat) (h : AH) (Q : Int32 → AH → Prop) : Prop :=
  vr h v0 6 (
  w_X6_refuse v0 h (fun x1 h =>
  z1 x1 (Q x1 h)))
def w_X6_readLine  (v0 : Nat) (h : AH) (Q : Int32 → AH → Prop) : Prop :=
  fI h v0 6 6 fun x1 =>
  br (x1 < (1000 : Int32)) (
    w_X6_readLine_20 v0 h Q) (
    fI h v0 6 6 fun x2 =>
    br (x2 ≤ (1004 : Int32)) (
      fI h v0 6 6 fun x3 =>
      bd ((x3 - (1000 : Int32)) + (1 : Int32)) fun x4 =>
      vr h v0 6 (
      w_X6_goOn v0 h (fun h =>
      fI h v0 6 6 fun x5 =>
      br (x5 = (1005 : Int32)) (
        vr h v0 6 (
        w_X6_goOn v0 h (fun h =>
        vr h v0 6 (
        w_X6_readAny v0 (0 : Int32) h (fun x6 h =>
        br (x6 = 0) (
          Q (0 : Int32) h) (
          w_X6_readLine_73 v0 x4 h Q)))))) (
        vr h v0 6 (
        w_X6_addStep v0 (0 : Int32) (1 : Int32) h (fun h =>
        w_X6_readLine_73 v0 x4 h Q)))))) (
      w_X6_readLine_20 v0 h Q))
set_option maxRecDepth 100000 in
set_option maxHeartbeats 4000000 in
theorem s_X6_readLine_73 {p : Program} {l : Launch} {e : Env} {s : State} {m : MethodId} {args : Array Value} {below : List Frame} {meth : Method} {c : Code} {g : GG}  {Q : Int32 → AH → Prop}  (C : CXT p l s m args meth c RX6 cX6_readLine 2 g) (hr : meth.sig.returnType = (some .boolean))  : ∀ (v0 : Nat) (v1 : Int32) (h : AH), w_X6_readLine_73  v0 v1 h Q → V p l e s m args below meth c g 45 0 0 2 0 0 (MQ below (QCx g (QI Q)) args s 0 0 (gA g)) 73 [(0, .ref v0), (1, .int v1)] [] h := by
  intro v0 v1 h hw
  refine v_aload_n C dX6_readLine_73 0 rfl rfl ?_
  refine v_bipush (v := 10) C dX6_readLine_74 (by decide) ?_
  refine v_iload_n C dX6_readLine_76 1 rfl rfl ?_
  refine w_callVv (st := []) C cl_X6_60 im_X6_addStep se_X6_addStep rfl hw.1 (s_X6_addStep hw.2) rfl dX6_readLine_77 rfl (by decide) (by decide) (by decide) (by decide) (by decide) (fun h hw => ?_)
  refine v_iconst (v := 1) C dX6_readLine_80 (by decide) ?_
  exact (rt_MQ C _).2.1 _ _ _ _ _ _ _ hr rfl dX6_readLine_81 (by decide) (by decide) ⟨_, rfl, hw⟩
set_option maxRecDepth 100000 in
set_option maxHeartbeats 4000000 in
theorem s_X6_readLine_20 {p : Program} {l : Launch} {e : Env} {s : State} {m : MethodId} {args : Array Value} {below : List Frame} {meth : Method} {c : Code} {g : GG}  {Q : Int32 → AH → Prop}  (C : CXT p l s m args meth c RX6 cX6_readLine 2 g) (hr : meth.sig.returnType = (some .boolean))  : ∀ (v0 : Nat) (h : AH), w_X6_readLine_20  v0 h Q → V p l e s m args below meth c g 45 0 0 2 0 0 (MQ below (QCx g (QI Q)) args s 0 0 (gA g)) 20 [(0, .ref v0)] [] h := by
  intro v0 h hw
  refine v_aload_n C dX6_readLine_20 0 rfl rfl ?_
  refine w_callVi (st := []) C cl_X6_50 im_X6_refuse se_X6_refuse rfl hw.1 (s_X6_refuse hw.2) rfl dX6_readLine_21 rfl (by decide) (by decide) (by decide) (by decide) (by decide) (fun x1 h hw => ?_)
  exact (rt_MQ C _).2.1 _ _ _ _ _ _ _ hr (by rcases hw.1 with z | z <;> rw [z] <;> rfl) dX6_readLine_24 (by decide) (by decide) ⟨_, rfl, hw.2⟩
set_option maxRecDepth 100000 in
set_option maxHeartbeats 4000000 in
theorem s_X6_readLine {l : Launch}  {v0 : Nat} {h : AH} {Q : Int32 → AH → Prop}  (hw : w_X6_readLine  v0 h Q) : CT l yX6_readLine cX6_readLine 2 (some .boolean) 45 0 0 [.ref v0] h (QI Q) := by
  refine CT.of (by decide) ⟨rfl, trivial⟩ (Nat.le_of_ble_eq_true rfl) ?_
  intro p e s m args below meth c g C hr hin
  refine v_eq (pc' := 0) (ls' := [(0, .ref v0)]) rfl rfl rfl rfl ?_
  refine v_aload_n C dX6_readLine_0 0 rfl rfl ?_
  refine w_getI C fl_X6_43 dX6_readLine_1 rfl hw (fun x1 hw => ?_)
  refine v_sipush (v := 1000) C dX6_readLine_4 (by decide) ?_
  refine v_icmp_lt (tgt := 20) C dX6_readLine_7 (by decide) (fun c_7 => ?_) (fun c_7 => ?_)
  · have hw := hw.1 c_7
    exact s_X6_readLine_20 C hr  _ _ hw
  · have hw := hw.2 c_7
    refine v_aload_n C dX6_readLine_10 0 rfl rfl ?_
    refine w_getI C fl_X6_43 dX6_readLine_11 rfl hw (fun x2 hw => ?_)
    refine v_sipush (v := 1004) C dX6_readLine_14 (by decide) ?_
    refine v_icmp_le (tgt := 25) C dX6_readLine_17 (by decide) (fun c_17 => ?_) (fun c_17 => ?_)
    · have hw := hw.1 c_17
      refine v_aload_n C dX6_readLine_25 0 rfl rfl ?_
      refine w_getI C fl_X6_43 dX6_readLine_26 rfl hw (fun x3 hw => ?_)
      refine v_sipush (v := 1000) C dX6_readLine_29 (by decide) ?_
      refine v_isub C dX6_readLine_32 ?_
      refine v_iconst (v := 1) C dX6_readLine_33 (by decide) ?_
      refine v_iadd C dX6_readLine_34 ?_
      refine w_bd hw (fun x4 hw => ?_)
      refine v_istore_n (ls' := [(1, .int x4), (0, .ref v0)]) C dX6_readLine_35 rfl (by decide) rfl ?_
      refine v_aload_n C dX6_readLine_36 1 rfl rfl ?_
      refine w_callVv (st := []) C cl_X6_53 im_X6_goOn se_X6_goOn rfl hw.1 (s_X6_goOn hw.2) rfl dX6_readLine_37 rfl (by decide) (by decide) (by decide) (by decide) (by decide) (fun h hw => ?_)
      refine v_aload_n C dX6_readLine_40 1 rfl rfl ?_
      refine w_getI C fl_X6_43 dX6_readLine_41 rfl hw (fun x5 hw => ?_)
      refine v_sipush (v := 1005) C dX6_readLine_44 (by decide) ?_
      refine v_icmp_eq (tgt := 59) C dX6_readLine_47 (by decide) (fun c_47 => ?_) (fun c_47 => ?_)
      · have hw := hw.1 c_47
        refine v_aload_n C dX6_readLine_59 1 rfl rfl ?_
        refine w_callVv (st := []) C cl_X6_53 im_X6_goOn se_X6_goOn rfl hw.1 (s_X6_goOn hw.2) rfl dX6_readLine_60 rfl (by decide) (by decide) (by decide) (by decide) (by decide) (fun h hw => ?_)
        refine v_aload_n C dX6_readLine_63 1 rfl rfl ?_
        refine v_iconst (v := 0) C dX6_readLine_64 (by decide) ?_
        refine w_callVi (st := []) C cl_X6_56 im_X6_readAny se_X6_readAny rfl hw.1 (s_X6_readAny hw.2) rfl dX6_readLine_65 rfl (by decide) (by decide) (by decide) (by decide) (by decide) (fun x6 h hw => ?_)
        refine v_if_ne (tgt := 73) C dX6_readLine_68 (by decide) (fun c_68 => ?_) (fun c_68 => ?_)
        · have hw := hw.2 c_68
          refine v_sub [1, 0] rfl ?_
          exact s_X6_readLine_73 C hr  _ _ _ hw
        · have hw := hw.1 c_68
          refine v_iconst (v := 0) C dX6_readLine_71 (by decide) ?_
          exact (rt_MQ C _).2.1 _ _ _ _ _ _ _ hr rfl dX6_readLine_72 (by decide) (by decide) ⟨_, rfl, hw⟩
      · have hw := hw.2 c_47
        refine v_aload_n C dX6_readLine_50 1 rfl rfl ?_
        refine v_iconst (v := 0) C dX6_readLine_51 (by decide) ?_
        refine v_iconst (v := 1) C dX6_readLine_52 (by decide) ?_
        refine w_callVv (st := []) C cl_X6_60 im_X6_addStep se_X6_addStep rfl hw.1 (s_X6_addStep hw.2) rfl dX6_readLine_53 rfl (by decide) (by decide) (by decide) (by decide) (by decide) (fun h hw => ?_)
        refine v_goto (tgt := 73) C dX6_readLine_56 (by decide) ?_
        refine v_sub [1, 0] rfl ?_
        exact s_X6_readLine_73 C hr  _ _ _ hw
    · have hw := hw.2 c_17
      exact s_X6_readLine_20 C hr  _ _ hw
-- GrassField$Reader.readsLaw()Z
theorem dX6_readsLaw_0 : decode cX6_readsLaw 0 = .ok (.aload_n 0, 1) := by decide +kernel
theorem dX6_readsLaw_1 : decode cX6_readsLaw 1 = .ok (.sipush 1009, 3) := by decide +kernel
theorem dX6_readsLaw_4 : decode cX6_readsLaw 4 = .ok (.invokevirtual 39, 3) := by decide +kernel
theorem dX6_readsLaw_7 : decode cX6_readsLaw 7 = .ok (.aload_n 0, 1) := by decide +kernel
theorem dX6_readsLaw_8 : decode cX6_readsLaw 8 = .ok (.getfield 43, 3) := by decide +kernel
theorem dX6_readsLaw_11 : decode cX6_readsLaw 11 = .ok (.ifCond .ne 5, 3) := by decide +kernel
theorem dX6_readsLaw_14 : decode cX6_readsLaw 14 = .ok (.iconst 1, 1) := by decide +kernel
theorem dX6_readsLaw_15 : decode cX6_readsLaw 15 = .ok (.ireturn, 1) := by decide +kernel
theorem dX6_readsLaw_16 : decode cX6_readsLaw 16 = .ok (.iconst 0, 1) := by decide +kernel
theorem dX6_readsLaw_17 : decode cX6_readsLaw 17 = .ok (.istore_n 1, 1) := by decide +kernel
theorem dX6_readsLaw_18 : decode cX6_readsLaw 18 = .ok (.iload_n 1, 1) := by decide +kernel
theorem dX6_readsLaw_19 : decode cX6_readsLaw 19 = .ok (.bipush 10, 2) := by decide +kernel
theorem dX6_readsLaw_21 : decode cX6_readsLaw 21 = .ok (.if_icmp .ge 45, 3) := by decide +kernel
theorem dX6_readsLaw_24 : decode cX6_readsLaw 24 = .ok (.aload_n 0, 1) := by decide +kernel
theorem dX6_readsLaw_25 : decode cX6_readsLaw 25 = .ok (.invokevirtual 46, 3) := by decide +kernel
theorem dX6_readsLaw_28 : decode cX6_readsLaw 28 = .ok (.ifCond .ne 5, 3) := by decide +kernel
theorem dX6_readsLaw_31 : decode cX6_readsLaw 31 = .ok (.iconst 0, 1) := by decide +kernel
theorem dX6_readsLaw_32 : decode cX6_readsLaw 32 = .ok (.ireturn, 1) := by decide +kernel
theorem dX6_readsLaw_33 : decode cX6_readsLaw 33 = .ok (.aload_n 0, 1) := by decide +kernel
theorem dX6_readsLaw_34 : decode cX6_readsLaw 34 = .ok (.getfield 43, 3) := by decide +kernel
theorem dX6_readsLaw_37 : decode cX6_readsLaw 37 = .ok (.ifCond .ne 5, 3) := by decide +kernel
theorem dX6_readsLaw_40 : decode cX6_readsLaw 40 = .ok (.iconst 1, 1) := by decide +kernel
theorem dX6_readsLaw_41 : decode cX6_readsLaw 41 = .ok (.ireturn, 1) := by decide +kernel
theorem dX6_readsLaw_42 : decode cX6_readsLaw 42 = .ok (.aload_n 0, 1) := by decide +kernel
theorem dX6_readsLaw_43 : decode cX6_readsLaw 43 = .ok (.getfield 43, 3) := by decide +kernel
theorem dX6_readsLaw_46 : decode cX6_readsLaw 46 = .ok (.bipush 59, 2) := by decide +kernel
theorem dX6_readsLaw_48 : decode cX6_readsLaw 48 = .ok (.if_icmp .eq 8, 3) := by decide +kernel
theorem dX6_readsLaw_51 : decode cX6_readsLaw 51 = .ok (.aload_n 0, 1) := by decide +kernel
theorem dX6_readsLaw_52 : decode cX6_readsLaw 52 = .ok (.invokevirtual 50, 3) := by decide +kernel
theorem dX6_readsLaw_55 : decode cX6_readsLaw 55 = .ok (.ireturn, 1) := by decide +kernel
theorem dX6_readsLaw_56 : decode cX6_readsLaw 56 = .ok (.aload_n 0, 1) := by decide +kernel
theorem dX6_readsLaw_57 : decode cX6_readsLaw 57 = .ok (.invokevirtual 53, 3) := by decide +kernel
theorem dX6_readsLaw_60 : decode cX6_readsLaw 60 = .ok (.iinc 1 1, 3) := by decide +kernel
theorem dX6_readsLaw_63 : decode cX6_readsLaw 63 = .ok (.goto (-45), 3) := by decide +kernel
theorem dX6_readsLaw_66 : decode cX6_readsLaw 66 = .ok (.aload_n 0, 1) := by decide +kernel
theorem dX6_readsLaw_67 : decode cX6_readsLaw 67 = .ok (.invokevirtual 50, 3) := by decide +kernel
theorem dX6_readsLaw_70 : decode cX6_readsLaw 70 = .ok (.ireturn, 1) := by decide +kernel
def w_X6_readsLaw_66  (v0 : Nat) (h : AH) (Q : Int32 → AH → Prop) : Prop :=
  vr h v0 6 (
  w_X6_refuse v0 h (fun x1 h =>
  z1 x1 (Q x1 h)))
def w_X6_readsLaw_51  (v0 : Nat) (h : AH) (Q : Int32 → AH → Prop) : Prop :=
  vr h v0 6 (
  w_X6_refuse v0 h (fun x1 h =>
  z1 x1 (Q x1 h)))
def w_X6_readsLaw_40  (h : AH) (Q : Int32 → AH → Prop) : Prop :=
  Q (1 : Int32) h
def w_X6_readsLaw_31  (h : AH) (Q : Int32 → AH → Prop) : Prop :=
  Q (0 : Int32) h
def w_X6_readsLaw_18  (x31 : AH → Prop) (x40 : AH → Prop) (x51 : AH → Prop) (x66 : AH → Prop) (k : Int32 → AH → Prop) (v0 : Nat) (v1 : Int32) (h : AH) (Q : Int32 → AH → Prop) : Prop :=
  br ((10 : Int32) ≤ v1) (
    x66  h) (
    vr h v0 6 (
    w_X6_readLine v0 h (fun x1 h =>
    br (x1 = 0) (
      x31  h) (
      fI h v0 6 6 fun x2 =>
      br (x2 = 0) (
        x40  h) (
        fI h v0 6 6 fun x3 =>
        br (x3 = (59 : Int32)) (
          vr h v0 6 (
          w_X6_goOn v0 h (fun h =>
          k (v1 + 1) h))) (
          x51  h))))))
def w_X6_readsLaw  (v0 : Nat) (h : AH) (Q : Int32 → AH → Prop) : Prop :=
  vr h v0 6 (
  w_X6_open v0 (1009 : Int32) h (fun h =>
  fI h v0 6 6 fun x1 =>
  br (x1 = 0) (
    Q (1 : Int32) h) (
    lp (fun (k2 : Int32 × AH → Prop) (s2 : Int32 × AH) => w_X6_readsLaw_18  (fun  h => w_X6_readsLaw_31  h Q) (fun  h => w_X6_readsLaw_40  h Q) (fun  h => w_X6_readsLaw_51 v0 h Q) (fun  h => w_X6_readsLaw_66 v0 h Q) (fun (y1 : Int32) h => k2 (y1, h)) v0 s2.1 s2.2 Q) ((0 : Int32), h))))
set_option maxRecDepth 100000 in
set_option maxHeartbeats 4000000 in
theorem s_X6_readsLaw_66 {p : Program} {l : Launch} {e : Env} {s : State} {m : MethodId} {args : Array Value} {below : List Frame} {meth : Method} {c : Code} {g : GG}  {Q : Int32 → AH → Prop}  (C : CXT p l s m args meth c RX6 cX6_readsLaw 2 g) (hr : meth.sig.returnType = (some .boolean))  : ∀ (v0 : Nat) (h : AH), w_X6_readsLaw_66  v0 h Q → V p l e s m args below meth c g 46 0 0 2 0 0 (MQ below (QCx g (QI Q)) args s 0 0 (gA g)) 66 [(0, .ref v0)] [] h := by
  intro v0 h hw
  refine v_aload_n C dX6_readsLaw_66 0 rfl rfl ?_
  refine w_callVi (st := []) C cl_X6_50 im_X6_refuse se_X6_refuse rfl hw.1 (s_X6_refuse hw.2) rfl dX6_readsLaw_67 rfl (by decide) (by decide) (by decide) (by decide) (by decide) (fun x1 h hw => ?_)
  exact (rt_MQ C _).2.1 _ _ _ _ _ _ _ hr (by rcases hw.1 with z | z <;> rw [z] <;> rfl) dX6_readsLaw_70 (by decide) (by decide) ⟨_, rfl, hw.2⟩
set_option maxRecDepth 100000 in
set_option maxHeartbeats 4000000 in
theorem s_X6_readsLaw_51 {p : Program} {l : Launch} {e : Env} {s : State} {m : MethodId} {args : Array Value} {below : List Frame} {meth : Method} {c : Code} {g : GG}  {Q : Int32 → AH → Prop}  (C : CXT p l s m args meth c RX6 cX6_readsLaw 2 g) (hr : meth.sig.returnType = (some .boolean))  : ∀ (v0 : Nat) (h : AH), w_X6_readsLaw_51  v0 h Q → V p l e s m args below meth c g 46 0 0 2 0 0 (MQ below (QCx g (QI Q)) args s 0 0 (gA g)) 51 [(0, .ref v0)] [] h := by
  intro v0 h hw
  refine v_aload_n C dX6_readsLaw_51 0 rfl rfl ?_
  refine w_callVi (st := []) C cl_X6_50 im_X6_refuse se_X6_refuse rfl hw.1 (s_X6_refuse hw.2) rfl dX6_readsLaw_52 rfl (by decide) (by decide) (by decide) (by decide) (by decide) (fun x1 h hw => ?_)
  exact (rt_MQ C _).2.1 _ _ _ _ _ _ _ hr (by rcases hw.1 with z | z <;> rw [z] <;> rfl) dX6_readsLaw_55 (by decide) (by decide) ⟨_, rfl, hw.2⟩
set_option maxRecDepth 100000 in
set_option maxHeartbeats 4000000 in
theorem s_X6_readsLaw_40 {p : Program} {l : Launch} {e : Env} {s : State} {m : MethodId} {args : Array Value} {below : List Frame} {meth : Method} {c : Code} {g : GG}  {Q : Int32 → AH → Prop}  (C : CXT p l s m args meth c RX6 cX6_readsLaw 2 g) (hr : meth.sig.returnType = (some .boolean))  : ∀  (h : AH), w_X6_readsLaw_40  h Q → V p l e s m args below meth c g 46 0 0 2 0 0 (MQ below (QCx g (QI Q)) args s 0 0 (gA g)) 40 [] [] h := by
  intro  h hw
  refine v_iconst (v := 1) C dX6_readsLaw_40 (by decide) ?_
  exact (rt_MQ C _).2.1 _ _ _ _ _ _ _ hr rfl dX6_readsLaw_41 (by decide) (by decide) ⟨_, rfl, hw⟩
set_option maxRecDepth 100000 in
set_option maxHeartbeats 4000000 in
theorem s_X6_readsLaw_31 {p : Program} {l : Launch} {e : Env} {s : State} {m : MethodId} {args : Array Value} {below : List Frame} {meth : Method} {c : Code} {g : GG}  {Q : Int32 → AH → Prop}  (C : CXT p l s m args meth c RX6 cX6_readsLaw 2 g) (hr : meth.sig.returnType = (some .boolean))  : ∀  (h : AH), w_X6_readsLaw_31  h Q → V p l e s m args below meth c g 46 0 0 2 0 0 (MQ below (QCx g (QI Q)) args s 0 0 (gA g)) 31 [] [] h := by
  intro  h hw
  refine v_iconst (v := 0) C dX6_readsLaw_31 (by decide) ?_
  exact (rt_MQ C _).2.1 _ _ _ _ _ _ _ hr rfl dX6_readsLaw_32 (by decide) (by decide) ⟨_, rfl, hw⟩
set_option maxRecDepth 100000 in
set_option maxHeartbeats 4000000 in
theorem s_X6_readsLaw_18 {p : Program} {l : Launch} {e : Env} {s : State} {m : MethodId} {args : Array Value} {below : List Frame} {meth : Method} {c : Code} {g : GG} {v0 : Nat} {Q : Int32 → AH → Prop} {x31 : AH → Prop} {x40 : AH → Prop} {x51 : AH → Prop} {x66 : AH → Prop} {k : Int32 → AH → Prop} (C : CXT p l s m args meth c RX6 cX6_readsLaw 2 g) (hr : meth.sig.returnType = (some .boolean)) (hx31 : ∀  (h : AH), x31  h → V p l e s m args below meth c g 46 0 0 2 0 0 (MQ below (QCx g (QI Q)) args s 0 0 (gA g)) 31 [] [] h) (hx40 : ∀  (h : AH), x40  h → V p l e s m args below meth c g 46 0 0 2 0 0 (MQ below (QCx g (QI Q)) args s 0 0 (gA g)) 40 [] [] h) (hx51 : ∀  (h : AH), x51  h → V p l e s m args below meth c g 46 0 0 2 0 0 (MQ below (QCx g (QI Q)) args s 0 0 (gA g)) 51 [(0, .ref v0)] [] h) (hx66 : ∀  (h : AH), x66  h → V p l e s m args below meth c g 46 0 0 2 0 0 (MQ below (QCx g (QI Q)) args s 0 0 (gA g)) 66 [(0, .ref v0)] [] h) (hk : ∀ (y1 : Int32) (h : AH), k y1 h → V p l e s m args below meth c g 46 0 0 2 0 0 (MQ below (QCx g (QI Q)) args s 0 0 (gA g)) 18 [(0, .ref v0), (1, .int y1)] [] h) : ∀ (v1 : Int32) (h : AH), w_X6_readsLaw_18  x31 x40 x51 x66 k v0 v1 h Q → V p l e s m args below meth c g 46 0 0 2 0 0 (MQ below (QCx g (QI Q)) args s 0 0 (gA g)) 18 [(0, .ref v0), (1, .int v1)] [] h := by
  intro v1 h hw
  refine v_iload_n C dX6_readsLaw_18 1 rfl rfl ?_
  refine v_bipush (v := 10) C dX6_readsLaw_19 (by decide) ?_
  refine v_icmp_ge (tgt := 66) C dX6_readsLaw_21 (by decide) (fun c_21 => ?_) (fun c_21 => ?_)
  · have hw := hw.1 c_21
    refine v_sub [0] rfl ?_
    exact hx66  _ hw
  · have hw := hw.2 c_21
    refine v_aload_n C dX6_readsLaw_24 0 rfl rfl ?_
    refine w_callVi (st := []) C cl_X6_46 im_X6_readLine se_X6_readLine rfl hw.1 (s_X6_readLine hw.2) rfl dX6_readsLaw_25 rfl (by decide) (by decide) (by decide) (by decide) (by decide) (fun x1 h hw => ?_)
    refine v_if_ne (tgt := 33) C dX6_readsLaw_28 (by decide) (fun c_28 => ?_) (fun c_28 => ?_)
    · have hw := hw.2 c_28
      refine v_aload_n C dX6_readsLaw_33 0 rfl rfl ?_
      refine w_getI C fl_X6_43 dX6_readsLaw_34 rfl hw (fun x2 hw => ?_)
      refine v_if_ne (tgt := 42) C dX6_readsLaw_37 (by decide) (fun c_37 => ?_) (fun c_37 => ?_)
      · have hw := hw.2 c_37
        refine v_aload_n C dX6_readsLaw_42 0 rfl rfl ?_
        refine w_getI C fl_X6_43 dX6_readsLaw_43 rfl hw (fun x3 hw => ?_)
        refine v_bipush (v := 59) C dX6_readsLaw_46 (by decide) ?_
        refine v_icmp_eq (tgt := 56) C dX6_readsLaw_48 (by decide) (fun c_48 => ?_) (fun c_48 => ?_)
        · have hw := hw.1 c_48
          refine v_aload_n C dX6_readsLaw_56 0 rfl rfl ?_
          refine w_callVv (st := []) C cl_X6_53 im_X6_goOn se_X6_goOn rfl hw.1 (s_X6_goOn hw.2) rfl dX6_readsLaw_57 rfl (by decide) (by decide) (by decide) (by decide) (by decide) (fun h hw => ?_)
          refine v_iinc (v := 1) (ls' := [(1, .int (v1 + 1)), (0, .ref v0)]) C dX6_readsLaw_60 1 rfl (by decide) (by decide) rfl ?_
          refine v_goto (tgt := 18) C dX6_readsLaw_63 (by decide) ?_
          refine v_sub [1, 0] rfl ?_
          exact hk _ _ hw
        · have hw := hw.2 c_48
          refine v_sub [0] rfl ?_
          exact hx51  _ hw
      · have hw := hw.1 c_37
        refine v_sub [] rfl ?_
        exact hx40  _ hw
    · have hw := hw.1 c_28
      refine v_sub [] rfl ?_
      exact hx31  _ hw
set_option maxRecDepth 100000 in
set_option maxHeartbeats 4000000 in
theorem s_X6_readsLaw {l : Launch}  {v0 : Nat} {h : AH} {Q : Int32 → AH → Prop}  (hw : w_X6_readsLaw  v0 h Q) : CT l yX6_readsLaw cX6_readsLaw 2 (some .boolean) 46 0 0 [.ref v0] h (QI Q) := by
  refine CT.of (by decide) ⟨rfl, trivial⟩ (Nat.le_of_ble_eq_true rfl) ?_
  intro p e s m args below meth c g C hr hin
  refine v_eq (pc' := 0) (ls' := [(0, .ref v0)]) rfl rfl rfl rfl ?_
  refine v_aload_n C dX6_readsLaw_0 0 rfl rfl ?_
  refine v_sipush (v := 1009) C dX6_readsLaw_1 (by decide) ?_
  refine w_callVv (st := []) C cl_X6_39 im_X6_open se_X6_open rfl hw.1 (s_X6_open hw.2) rfl dX6_readsLaw_4 rfl (by decide) (by decide) (by decide) (by decide) (by decide) (fun h hw => ?_)
  refine v_aload_n C dX6_readsLaw_7 0 rfl rfl ?_
  refine w_getI C fl_X6_43 dX6_readsLaw_8 rfl hw (fun x1 hw => ?_)
  refine v_if_ne (tgt := 16) C dX6_readsLaw_11 (by decide) (fun c_11 => ?_) (fun c_11 => ?_)
  · have hw := hw.2 c_11
    refine v_iconst (v := 0) C dX6_readsLaw_16 (by decide) ?_
    refine v_istore_n (ls' := [(1, .int (0 : Int32)), (0, .ref v0)]) C dX6_readsLaw_17 rfl (by decide) rfl ?_
    refine v_sub [1, 0] rfl ?_
    refine lp_walk (P := fun (s' : Int32 × AH) => V p l e s m args below meth c g 46 0 0 2 0 0 (MQ below (QCx g (QI Q)) args s 0 0 (gA g)) 18 [(0, .ref v0), (1, .int (s'.1))] [] s'.2) (fun k2 hk2 s' hw => ?_) ((0 : Int32), h) hw
    exact s_X6_readsLaw_18 C hr (fun  h hw => s_X6_readsLaw_31 C hr   h hw) (fun  h hw => s_X6_readsLaw_40 C hr   h hw) (fun  h hw => s_X6_readsLaw_51 C hr  _ h hw) (fun  h hw => s_X6_readsLaw_66 C hr  _ h hw) (fun y1 h hw => hk2 (y1, h) hw) _ _ hw
  · have hw := hw.1 c_11
    refine v_iconst (v := 1) C dX6_readsLaw_14 (by decide) ?_
    exact (rt_MQ C _).2.1 _ _ _ _ _ _ _ hr rfl dX6_readsLaw_15 (by decide) (by decide) ⟨_, rfl, hw⟩
-- GrassField$Reader.readsStory()Z
theorem dX6_readsStory_0 : decode cX6_readsStory 0 = .ok (.aload_n 0, 1) := by decide +kernel
theorem dX6_readsStory_1 : decode cX6_readsStory 1 = .ok (.sipush 1018, 3) := by decide +kernel
theorem dX6_readsStory_4 : decode cX6_readsStory 4 = .ok (.invokevirtual 39, 3) := by decide +kernel
theorem dX6_readsStory_7 : decode cX6_readsStory 7 = .ok (.aload_n 0, 1) := by decide +kernel
theorem dX6_readsStory_8 : decode cX6_readsStory 8 = .ok (.iconst 0, 1) := by decide +kernel
theorem dX6_readsStory_9 : decode cX6_readsStory 9 = .ok (.invokevirtual 56, 3) := by decide +kernel
theorem dX6_readsStory_12 : decode cX6_readsStory 12 = .ok (.ifCond .ne 5, 3) := by decide +kernel
theorem dX6_readsStory_15 : decode cX6_readsStory 15 = .ok (.iconst 0, 1) := by decide +kernel
theorem dX6_readsStory_16 : decode cX6_readsStory 16 = .ok (.ireturn, 1) := by decide +kernel
theorem dX6_readsStory_17 : decode cX6_readsStory 17 = .ok (.aload_n 0, 1) := by decide +kernel
theorem dX6_readsStory_18 : decode cX6_readsStory 18 = .ok (.bipush 10, 2) := by decide +kernel
theorem dX6_readsStory_20 : decode cX6_readsStory 20 = .ok (.iconst 1, 1) := by decide +kernel
theorem dX6_readsStory_21 : decode cX6_readsStory 21 = .ok (.invokevirtual 60, 3) := by decide +kernel
theorem dX6_readsStory_24 : decode cX6_readsStory 24 = .ok (.aload_n 0, 1) := by decide +kernel
theorem dX6_readsStory_25 : decode cX6_readsStory 25 = .ok (.getfield 43, 3) := by decide +kernel
theorem dX6_readsStory_28 : decode cX6_readsStory 28 = .ok (.ifCond .eq 10, 3) := by decide +kernel
theorem dX6_readsStory_31 : decode cX6_readsStory 31 = .ok (.aload_n 0, 1) := by decide +kernel
theorem dX6_readsStory_32 : decode cX6_readsStory 32 = .ok (.invokevirtual 50, 3) := by decide +kernel
theorem dX6_readsStory_35 : decode cX6_readsStory 35 = .ok (.ifCond .eq 7, 3) := by decide +kernel
theorem dX6_readsStory_38 : decode cX6_readsStory 38 = .ok (.iconst 1, 1) := by decide +kernel
theorem dX6_readsStory_39 : decode cX6_readsStory 39 = .ok (.goto 4, 3) := by decide +kernel
theorem dX6_readsStory_42 : decode cX6_readsStory 42 = .ok (.iconst 0, 1) := by decide +kernel
theorem dX6_readsStory_43 : decode cX6_readsStory 43 = .ok (.ireturn, 1) := by decide +kernel
def w_X6_readsStory_43  (t0 : Int32) (h : AH) (Q : Int32 → AH → Prop) : Prop :=
  z1 t0 (Q t0 h)
def w_X6_readsStory_38  (h : AH) (Q : Int32 → AH → Prop) : Prop :=
  w_X6_readsStory_43 (1 : Int32) h Q
def w_X6_readsStory  (v0 : Nat) (h : AH) (Q : Int32 → AH → Prop) : Prop :=
  vr h v0 6 (
  w_X6_open v0 (1018 : Int32) h (fun h =>
  vr h v0 6 (
  w_X6_readAny v0 (0 : Int32) h (fun x1 h =>
  br (x1 = 0) (
    Q (0 : Int32) h) (
    vr h v0 6 (
    w_X6_addStep v0 (10 : Int32) (1 : Int32) h (fun h =>
    fI h v0 6 6 fun x2 =>
    br (x2 = 0) (
      w_X6_readsStory_38  h Q) (
      vr h v0 6 (
      w_X6_refuse v0 h (fun x3 h =>
      br (x3 = 0) (
        w_X6_readsStory_43 (0 : Int32) h Q) (
        w_X6_readsStory_38  h Q)))))))))))
set_option maxRecDepth 100000 in
set_option maxHeartbeats 4000000 in
theorem s_X6_readsStory_43 {p : Program} {l : Launch} {e : Env} {s : State} {m : MethodId} {args : Array Value} {below : List Frame} {meth : Method} {c : Code} {g : GG}  {Q : Int32 → AH → Prop}  (C : CXT p l s m args meth c RX6 cX6_readsStory 1 g) (hr : meth.sig.returnType = (some .boolean))  : ∀ (t0 : Int32) (h : AH), w_X6_readsStory_43  t0 h Q → V p l e s m args below meth c g 45 0 0 1 0 0 (MQ below (QCx g (QI Q)) args s 0 0 (gA g)) 43 [] [.int t0] h := by
  intro t0 h hw
  exact (rt_MQ C _).2.1 _ _ _ _ _ _ _ hr (by rcases hw.1 with z | z <;> rw [z] <;> rfl) dX6_readsStory_43 (by decide) (by decide) ⟨_, rfl, hw.2⟩
set_option maxRecDepth 100000 in
set_option maxHeartbeats 4000000 in
theorem s_X6_readsStory_38 {p : Program} {l : Launch} {e : Env} {s : State} {m : MethodId} {args : Array Value} {below : List Frame} {meth : Method} {c : Code} {g : GG}  {Q : Int32 → AH → Prop}  (C : CXT p l s m args meth c RX6 cX6_readsStory 1 g) (hr : meth.sig.returnType = (some .boolean))  : ∀  (h : AH), w_X6_readsStory_38  h Q → V p l e s m args below meth c g 45 0 0 1 0 0 (MQ below (QCx g (QI Q)) args s 0 0 (gA g)) 38 [] [] h := by
  intro  h hw
  refine v_iconst (v := 1) C dX6_readsStory_38 (by decide) ?_
  refine v_goto (tgt := 43) C dX6_readsStory_39 (by decide) ?_
  exact s_X6_readsStory_43 C hr  _ _ hw
set_option maxRecDepth 100000 in
set_option maxHeartbeats 4000000 in
theorem s_X6_readsStory {l : Launch}  {v0 : Nat} {h : AH} {Q : Int32 → AH → Prop}  (hw : w_X6_readsStory  v0 h Q) : CT l yX6_readsStory cX6_readsStory 1 (some .boolean) 45 0 0 [.ref v0] h (QI Q) := by
  refine CT.of (by decide) ⟨rfl, trivial⟩ (Nat.le_of_ble_eq_true rfl) ?_
  intro p e s m args below meth c g C hr hin
  refine v_eq (pc' := 0) (ls' := [(0, .ref v0)]) rfl rfl rfl rfl ?_
  refine v_aload_n C dX6_readsStory_0 0 rfl rfl ?_
  refine v_sipush (v := 1018) C dX6_readsStory_1 (by decide) ?_
  refine w_callVv (st := []) C cl_X6_39 im_X6_open se_X6_open rfl hw.1 (s_X6_open hw.2) rfl dX6_readsStory_4 rfl (by decide) (by decide) (by decide) (by decide) (by decide) (fun h hw => ?_)
  refine v_aload_n C dX6_readsStory_7 0 rfl rfl ?_
  refine v_iconst (v := 0) C dX6_readsStory_8 (by decide) ?_
  refine w_callVi (st := []) C cl_X6_56 im_X6_readAny se_X6_readAny rfl hw.1 (s_X6_readAny hw.2) rfl dX6_readsStory_9 rfl (by decide) (by decide) (by decide) (by decide) (by decide) (fun x1 h hw => ?_)
  refine v_if_ne (tgt := 17) C dX6_readsStory_12 (by decide) (fun c_12 => ?_) (fun c_12 => ?_)
  · have hw := hw.2 c_12
    refine v_aload_n C dX6_readsStory_17 0 rfl rfl ?_
    refine v_bipush (v := 10) C dX6_readsStory_18 (by decide) ?_
    refine v_iconst (v := 1) C dX6_readsStory_20 (by decide) ?_
    refine w_callVv (st := []) C cl_X6_60 im_X6_addStep se_X6_addStep rfl hw.1 (s_X6_addStep hw.2) rfl dX6_readsStory_21 rfl (by decide) (by decide) (by decide) (by decide) (by decide) (fun h hw => ?_)
    refine v_aload_n C dX6_readsStory_24 0 rfl rfl ?_
    refine w_getI C fl_X6_43 dX6_readsStory_25 rfl hw (fun x2 hw => ?_)
    refine v_if_eq (tgt := 38) C dX6_readsStory_28 (by decide) (fun c_28 => ?_) (fun c_28 => ?_)
    · have hw := hw.1 c_28
      refine v_sub [] rfl ?_
      exact s_X6_readsStory_38 C hr   _ hw
    · have hw := hw.2 c_28
      refine v_aload_n C dX6_readsStory_31 0 rfl rfl ?_
      refine w_callVi (st := []) C cl_X6_50 im_X6_refuse se_X6_refuse rfl hw.1 (s_X6_refuse hw.2) rfl dX6_readsStory_32 rfl (by decide) (by decide) (by decide) (by decide) (by decide) (fun x3 h hw => ?_)
      refine v_if_eq (tgt := 42) C dX6_readsStory_35 (by decide) (fun c_35 => ?_) (fun c_35 => ?_)
      · have hw := hw.1 c_35
        refine v_iconst (v := 0) C dX6_readsStory_42 (by decide) ?_
        refine v_sub [] rfl ?_
        exact s_X6_readsStory_43 C hr  _ _ hw
      · have hw := hw.2 c_35
        refine v_sub [] rfl ?_
        exact s_X6_readsStory_38 C hr   _ hw
  · have hw := hw.1 c_12
    refine v_iconst (v := 0) C dX6_readsStory_15 (by decide) ?_
    exact (rt_MQ C _).2.1 _ _ _ _ _ _ _ hr rfl dX6_readsStory_16 (by decide) (by decide) ⟨_, rfl, hw⟩
