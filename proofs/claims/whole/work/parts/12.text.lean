theorem cl_J1_9 : CLk RJ1 9 yJ0_checkIndex_df160 cJ0_checkIndex_df160 2 none 2 := ⟨Or.inl (tb4 (List.mem_of_getElem? (i := 74) rfl)), (tb4 (List.mem_of_getElem? (i := 76) rfl)), (tb1 (List.mem_of_getElem? (i := 19) rfl)), by decide +kernel, by decide +kernel, by decide +kernel⟩
theorem st_J0_checkIndex_df160 : Cond.static yJ0_checkIndex_df160 ∈ lw_tbl := (tb4 (List.mem_of_getElem? (i := 75) rfl))
theorem cl_J0_492 : CLk RJ0 492 yJ0_isLatin1_aae02 cJ0_isLatin1_aae02 1 (some .boolean) 0 := ⟨Or.inl (tb4 (List.mem_of_getElem? (i := 67) rfl)), (tb4 (List.mem_of_getElem? (i := 70) rfl)), (tb1 (List.mem_of_getElem? (i := 19) rfl)), by decide +kernel, by decide +kernel, by decide +kernel⟩
theorem lk_J0_492 : Cond.methodLink RJ0 492 yJ0_isLatin1_aae02 ∈ lw_tbl := (tb4 (List.mem_of_getElem? (i := 67) rfl))
theorem im_J0_isLatin1_aae02 : Cond.instanceMethod yJ0_isLatin1_aae02 ∈ lw_tbl := (tb4 (List.mem_of_getElem? (i := 68) rfl))
theorem se_J0_isLatin1_aae02 : Cond.selects RJ0 yJ0_isLatin1_aae02 yJ0_isLatin1_aae02 ∈ lw_tbl := (tb4 (List.mem_of_getElem? (i := 69) rfl))
theorem cl_J0_495 : CLk RJ0 495 yJ1_charAt_3b067 cJ1_charAt_3b067 2 (some .char) 2 := ⟨Or.inl (tb4 (List.mem_of_getElem? (i := 71) rfl)), (tb4 (List.mem_of_getElem? (i := 73) rfl)), (tb1 (List.mem_of_getElem? (i := 20) rfl)), by decide +kernel, by decide +kernel, by decide +kernel⟩
theorem st_J1_charAt_3b067 : Cond.static yJ1_charAt_3b067 ∈ lw_tbl := (tb4 (List.mem_of_getElem? (i := 72) rfl))
theorem cl_J1_88 : CLk RJ1 88 yJ1_canEncode_9a6ad cJ1_canEncode_9a6ad 1 (some .boolean) 1 := ⟨Or.inl (tb4 (List.mem_of_getElem? (i := 118) rfl)), (tb4 (List.mem_of_getElem? (i := 120) rfl)), (tb1 (List.mem_of_getElem? (i := 20) rfl)), by decide +kernel, by decide +kernel, by decide +kernel⟩
theorem st_J1_canEncode_9a6ad : Cond.static yJ1_canEncode_9a6ad ∈ lw_tbl := (tb4 (List.mem_of_getElem? (i := 119) rfl))
theorem ml_J1_92 : Cond.methodLink RJ1 92 Lib.Math.max.name ∈ lw_tbl := (tb4 (List.mem_of_getElem? (i := 121) rfl))
theorem ms_max : Cond.static Lib.Math.max.name ∈ lw_tbl := (tb2 (List.mem_of_getElem? (i := 236) rfl))
theorem mc_max : Cond.code Lib.Math.max.name Lib.Math.max.code 2 (some .int) ∈ lw_tbl := (tb2 (List.mem_of_getElem? (i := 237) rfl))
theorem ml_J1_38 : Cond.methodLink RJ1 38 Lib.Math.min.name ∈ lw_tbl := (tb4 (List.mem_of_getElem? (i := 122) rfl))
theorem cl_J1_95 : CLk RJ1 95 yJ1_indexOfChar_4cfef cJ1_indexOfChar_4cfef 6 (some .int) 4 := ⟨Or.inl (tb4 (List.mem_of_getElem? (i := 123) rfl)), (tb4 (List.mem_of_getElem? (i := 125) rfl)), (tb1 (List.mem_of_getElem? (i := 20) rfl)), by decide +kernel, by decide +kernel, by decide +kernel⟩
theorem st_J1_indexOfChar_4cfef : Cond.static yJ1_indexOfChar_4cfef ∈ lw_tbl := (tb4 (List.mem_of_getElem? (i := 124) rfl))
theorem cl_J0_505 : CLk RJ0 505 yJ0_length_8abf5 cJ0_length_8abf5 1 (some .int) 0 := ⟨Or.inl (tb4 (List.mem_of_getElem? (i := 114) rfl)), (tb4 (List.mem_of_getElem? (i := 56) rfl)), (tb1 (List.mem_of_getElem? (i := 19) rfl)), by decide +kernel, by decide +kernel, by decide +kernel⟩
theorem lk_J0_505 : Cond.methodLink RJ0 505 yJ0_length_8abf5 ∈ lw_tbl := (tb4 (List.mem_of_getElem? (i := 114) rfl))
theorem im_J0_length_8abf5 : Cond.instanceMethod yJ0_length_8abf5 ∈ lw_tbl := (tb4 (List.mem_of_getElem? (i := 54) rfl))
theorem se_J0_length_8abf5 : Cond.selects RJ0 yJ0_length_8abf5 yJ0_length_8abf5 ∈ lw_tbl := (tb4 (List.mem_of_getElem? (i := 55) rfl))
theorem cl_J0_637 : CLk RJ0 637 yJ1_indexOf_4cfef cJ1_indexOf_4cfef 4 (some .int) 4 := ⟨Or.inl (tb4 (List.mem_of_getElem? (i := 115) rfl)), (tb4 (List.mem_of_getElem? (i := 117) rfl)), (tb1 (List.mem_of_getElem? (i := 20) rfl)), by decide +kernel, by decide +kernel, by decide +kernel⟩
theorem st_J1_indexOf_4cfef : Cond.static yJ1_indexOf_4cfef ∈ lw_tbl := (tb4 (List.mem_of_getElem? (i := 116) rfl))
theorem cl_J0_633 : CLk RJ0 633 yJ0_indexOf_7cf53 cJ0_indexOf_7cf53 3 (some .int) 2 := ⟨Or.inl (tb4 (List.mem_of_getElem? (i := 110) rfl)), (tb4 (List.mem_of_getElem? (i := 113) rfl)), (tb1 (List.mem_of_getElem? (i := 19) rfl)), by decide +kernel, by decide +kernel, by decide +kernel⟩
theorem lk_J0_633 : Cond.methodLink RJ0 633 yJ0_indexOf_7cf53 ∈ lw_tbl := (tb4 (List.mem_of_getElem? (i := 110) rfl))
theorem im_J0_indexOf_7cf53 : Cond.instanceMethod yJ0_indexOf_7cf53 ∈ lw_tbl := (tb4 (List.mem_of_getElem? (i := 111) rfl))
theorem se_J0_indexOf_7cf53 : Cond.selects RJ0 yJ0_indexOf_7cf53 yJ0_indexOf_7cf53 ∈ lw_tbl := (tb4 (List.mem_of_getElem? (i := 112) rfl))
-- java/lang/StringLatin1.charAt([BI)C
theorem dJ1_charAt_3b067_0 : decode cJ1_charAt_3b067 0 = .ok (.iload_n 1, 1) := by decide +kernel
theorem dJ1_charAt_3b067_1 : decode cJ1_charAt_3b067 1 = .ok (.aload_n 0, 1) := by decide +kernel
theorem dJ1_charAt_3b067_2 : decode cJ1_charAt_3b067 2 = .ok (.arraylength, 1) := by decide +kernel
theorem dJ1_charAt_3b067_3 : decode cJ1_charAt_3b067 3 = .ok (.invokestatic 9, 3) := by decide +kernel
theorem dJ1_charAt_3b067_6 : decode cJ1_charAt_3b067 6 = .ok (.aload_n 0, 1) := by decide +kernel
theorem dJ1_charAt_3b067_7 : decode cJ1_charAt_3b067 7 = .ok (.iload_n 1, 1) := by decide +kernel
theorem dJ1_charAt_3b067_8 : decode cJ1_charAt_3b067 8 = .ok (.baload, 1) := by decide +kernel
theorem dJ1_charAt_3b067_9 : decode cJ1_charAt_3b067 9 = .ok (.sipush 255, 3) := by decide +kernel
theorem dJ1_charAt_3b067_12 : decode cJ1_charAt_3b067 12 = .ok (.iand, 1) := by decide +kernel
theorem dJ1_charAt_3b067_13 : decode cJ1_charAt_3b067 13 = .ok (.i2c, 1) := by decide +kernel
theorem dJ1_charAt_3b067_14 : decode cJ1_charAt_3b067 14 = .ok (.ireturn, 1) := by decide +kernel
def w_J1_charAt_3b067  (v0 : Nat) (v1 : Int32) (h : AH) (Q : Int32 → AH → Prop) : Prop :=
  lS h v0 fun x1 =>
  w_J0_checkIndex_df160 v1 x1 h (fun h =>
  aS h v0 v1 fun x2 =>
  zn .char (((x2 &&& (255 : Int32)).toUInt32 % 65536).toInt32) (Q (((x2 &&& (255 : Int32)).toUInt32 % 65536).toInt32) h))
set_option maxRecDepth 100000 in
set_option maxHeartbeats 4000000 in
theorem s_J1_charAt_3b067 {l : Launch}  {v0 : Nat} {v1 : Int32} {h : AH} {Q : Int32 → AH → Prop}  (hw : w_J1_charAt_3b067  v0 v1 h Q) : CT l yJ1_charAt_3b067 cJ1_charAt_3b067 2 (some .char) 2 0 0 [.ref v0, .int v1] h (QI Q) := by
  refine CT.of (by decide) ⟨rfl, ⟨rfl, trivial⟩⟩ (Nat.le_of_ble_eq_true rfl) ?_
  intro p e s m args below meth c g C hr hin
  refine v_eq (pc' := 0) (ls' := [(0, .ref v0), (1, .int v1)]) rfl rfl rfl rfl ?_
  refine v_iload_n C dJ1_charAt_3b067_0 1 rfl rfl ?_
  refine v_aload_n C dJ1_charAt_3b067_1 0 rfl rfl ?_
  refine w_alenS C dJ1_charAt_3b067_2 hw (fun x1 hw => ?_)
  refine w_callSv (st := []) C cl_J1_9 st_J0_checkIndex_df160 (s_J0_checkIndex_df160 hw) rfl dJ1_charAt_3b067_3 rfl (by decide) (by decide) (by decide) (by decide) (by decide) (fun h hw => ?_)
  refine v_aload_n C dJ1_charAt_3b067_6 0 rfl rfl ?_
  refine v_iload_n C dJ1_charAt_3b067_7 1 rfl rfl ?_
  refine w_baloadS C dJ1_charAt_3b067_8 hw (fun x2 hw => ?_)
  refine v_sipush (v := 255) C dJ1_charAt_3b067_9 (by decide) ?_
  refine v_iand C dJ1_charAt_3b067_12 ?_
  refine v_i2c C dJ1_charAt_3b067_13 ?_
  exact (rt_MQ C _).2.1 _ _ _ _ _ _ _ hr hw.1 dJ1_charAt_3b067_14 (by decide) (by decide) ⟨_, rfl, hw.2⟩
-- java/lang/String.charAt(I)C
theorem dJ0_charAt_5068e_0 : decode cJ0_charAt_5068e 0 = .ok (.aload_n 0, 1) := by decide +kernel
theorem dJ0_charAt_5068e_1 : decode cJ0_charAt_5068e 1 = .ok (.invokevirtual 492, 3) := by decide +kernel
theorem dJ0_charAt_5068e_4 : decode cJ0_charAt_5068e 4 = .ok (.ifCond .eq 12, 3) := by decide +kernel
theorem dJ0_charAt_5068e_7 : decode cJ0_charAt_5068e 7 = .ok (.aload_n 0, 1) := by decide +kernel
theorem dJ0_charAt_5068e_8 : decode cJ0_charAt_5068e 8 = .ok (.getfield 9, 3) := by decide +kernel
theorem dJ0_charAt_5068e_11 : decode cJ0_charAt_5068e 11 = .ok (.iload_n 1, 1) := by decide +kernel
theorem dJ0_charAt_5068e_12 : decode cJ0_charAt_5068e 12 = .ok (.invokestatic 495, 3) := by decide +kernel
theorem dJ0_charAt_5068e_15 : decode cJ0_charAt_5068e 15 = .ok (.ireturn, 1) := by decide +kernel
theorem dJ0_charAt_5068e_16 : decode cJ0_charAt_5068e 16 = .ok (.aload_n 0, 1) := by decide +kernel
theorem dJ0_charAt_5068e_17 : decode cJ0_charAt_5068e 17 = .ok (.getfield 9, 3) := by decide +kernel
theorem dJ0_charAt_5068e_20 : decode cJ0_charAt_5068e 20 = .ok (.iload_n 1, 1) := by decide +kernel
theorem dJ0_charAt_5068e_21 : decode cJ0_charAt_5068e 21 = .ok (.invokestatic 498, 3) := by decide +kernel
theorem dJ0_charAt_5068e_24 : decode cJ0_charAt_5068e 24 = .ok (.ireturn, 1) := by decide +kernel
def w_J0_charAt_5068e  (v0 : Nat) (v1 : Int32) (h : AH) (Q : Int32 → AH → Prop) : Prop :=
  vS h v0 (
  w_J0_isLatin1_aae02 v0 h (fun x1 h =>
  br (x1 = 0) (
    fS h v0 fun a2 =>
    False) (
    fS h v0 fun a3 =>
    w_J1_charAt_3b067 a3 v1 h (fun x4 h =>
    zn .char x4 (Q x4 h)))))
set_option maxRecDepth 100000 in
set_option maxHeartbeats 4000000 in
theorem s_J0_charAt_5068e {l : Launch}  {v0 : Nat} {v1 : Int32} {h : AH} {Q : Int32 → AH → Prop}  (hw : w_J0_charAt_5068e  v0 v1 h Q) : CT l yJ0_charAt_5068e cJ0_charAt_5068e 2 (some .char) 3 0 0 [.ref v0, .int v1] h (QI Q) := by
  refine CT.of (by decide) ⟨rfl, ⟨rfl, trivial⟩⟩ (Nat.le_of_ble_eq_true rfl) ?_
  intro p e s m args below meth c g C hr hin
  refine v_eq (pc' := 0) (ls' := [(0, .ref v0), (1, .int v1)]) rfl rfl rfl rfl ?_
  refine v_aload_n C dJ0_charAt_5068e_0 0 rfl rfl ?_
  refine v_callVS (st := []) C cl_J0_492 lk_J0_492 im_J0_isLatin1_aae02 se_J0_isLatin1_aae02 hw.1 (s_J0_isLatin1_aae02 hw.2) rfl dJ0_charAt_5068e_1 rfl (by decide) (by decide) (by decide) (by decide) (by decide) (fun x1 h hw => ?_)
  refine v_if_eq (tgt := 16) C dJ0_charAt_5068e_4 (by decide) (fun c_4 => ?_) (fun c_4 => ?_)
  · have hw := hw.1 c_4
    refine v_aload_n C dJ0_charAt_5068e_16 0 rfl rfl ?_
    refine w_getSv C (tb9 (List.mem_of_getElem? (i := 231) rfl)) dJ0_charAt_5068e_17 hw (fun a2 hw => ?_)
    refine v_iload_n C dJ0_charAt_5068e_20 1 rfl rfl ?_
    exact hw.elim
  · have hw := hw.2 c_4
    refine v_aload_n C dJ0_charAt_5068e_7 0 rfl rfl ?_
    refine w_getSv C (tb9 (List.mem_of_getElem? (i := 231) rfl)) dJ0_charAt_5068e_8 hw (fun a3 hw => ?_)
    refine v_iload_n C dJ0_charAt_5068e_11 1 rfl rfl ?_
    refine w_callSi (st := []) C cl_J0_495 st_J1_charAt_3b067 (s_J1_charAt_3b067 hw) rfl dJ0_charAt_5068e_12 rfl (by decide) (by decide) (by decide) (by decide) (by decide) (fun x4 h hw => ?_)
    exact (rt_MQ C _).2.1 _ _ _ _ _ _ _ hr hw.1 dJ0_charAt_5068e_15 (by decide) (by decide) ⟨_, rfl, hw.2⟩
-- java/lang/StringLatin1.canEncode(I)Z
theorem dJ1_canEncode_9a6ad_0 : decode cJ1_canEncode_9a6ad 0 = .ok (.iload_n 0, 1) := by decide +kernel
theorem dJ1_canEncode_9a6ad_1 : decode cJ1_canEncode_9a6ad 1 = .ok (.ifCond .lt 14, 3) := by decide +kernel
theorem dJ1_canEncode_9a6ad_4 : decode cJ1_canEncode_9a6ad 4 = .ok (.iload_n 0, 1) := by decide +kernel
theorem dJ1_canEncode_9a6ad_5 : decode cJ1_canEncode_9a6ad 5 = .ok (.sipush 255, 3) := by decide +kernel
theorem dJ1_canEncode_9a6ad_8 : decode cJ1_canEncode_9a6ad 8 = .ok (.if_icmp .gt 7, 3) := by decide +kernel
theorem dJ1_canEncode_9a6ad_11 : decode cJ1_canEncode_9a6ad 11 = .ok (.iconst 1, 1) := by decide +kernel
theorem dJ1_canEncode_9a6ad_12 : decode cJ1_canEncode_9a6ad 12 = .ok (.goto 4, 3) := by decide +kernel
theorem dJ1_canEncode_9a6ad_15 : decode cJ1_canEncode_9a6ad 15 = .ok (.iconst 0, 1) := by decide +kernel
theorem dJ1_canEncode_9a6ad_16 : decode cJ1_canEncode_9a6ad 16 = .ok (.ireturn, 1) := by decide +kernel
def w_J1_canEncode_9a6ad_16  (t0 : Int32) (h : AH) (Q : Int32 → AH → Prop) : Prop :=
  z1 t0 (Q t0 h)
def w_J1_canEncode_9a6ad_15  (h : AH) (Q : Int32 → AH → Prop) : Prop :=
  w_J1_canEncode_9a6ad_16 (0 : Int32) h Q
def w_J1_canEncode_9a6ad  (v0 : Int32) (h : AH) (Q : Int32 → AH → Prop) : Prop :=
  br (v0 < 0) (
    w_J1_canEncode_9a6ad_15  h Q) (
    br ((255 : Int32) < v0) (
      w_J1_canEncode_9a6ad_15  h Q) (
      w_J1_canEncode_9a6ad_16 (1 : Int32) h Q))
set_option maxRecDepth 100000 in
set_option maxHeartbeats 4000000 in
theorem s_J1_canEncode_9a6ad_16 {p : Program} {l : Launch} {e : Env} {s : State} {m : MethodId} {args : Array Value} {below : List Frame} {meth : Method} {c : Code} {g : GG}  {Q : Int32 → AH → Prop}  (C : CXT p l s m args meth c RJ1 cJ1_canEncode_9a6ad 1 g) (hr : meth.sig.returnType = (some .boolean))  : ∀ (t0 : Int32) (h : AH), w_J1_canEncode_9a6ad_16  t0 h Q → V p l e s m args below meth c g 0 0 0 1 0 0 (MQ below (QCx g (QI Q)) args s 0 0 (gA g)) 16 [] [.int t0] h := by
  intro t0 h hw
  exact (rt_MQ C _).2.1 _ _ _ _ _ _ _ hr (by rcases hw.1 with z | z <;> rw [z] <;> rfl) dJ1_canEncode_9a6ad_16 (by decide) (by decide) ⟨_, rfl, hw.2⟩
set_option maxRecDepth 100000 in
set_option maxHeartbeats 4000000 in
theorem s_J1_canEncode_9a6ad_15 {p : Program} {l : Launch} {e : Env} {s : State} {m : MethodId} {args : Array Value} {below : List Frame} {meth : Method} {c : Code} {g : GG}  {Q : Int32 → AH → Prop}  (C : CXT p l s m args meth c RJ1 cJ1_canEncode_9a6ad 1 g) (hr : meth.sig.returnType = (some .boolean))  : ∀  (h : AH), w_J1_canEncode_9a6ad_15  h Q → V p l e s m args below meth c g 0 0 0 1 0 0 (MQ below (QCx g (QI Q)) args s 0 0 (gA g)) 15 [] [] h := by
  intro  h hw
  refine v_iconst (v := 0) C dJ1_canEncode_9a6ad_15 (by decide) ?_
  exact s_J1_canEncode_9a6ad_16 C hr  _ _ hw
set_option maxRecDepth 100000 in
set_option maxHeartbeats 4000000 in
theorem s_J1_canEncode_9a6ad {l : Launch}  {v0 : Int32} {h : AH} {Q : Int32 → AH → Prop}  (hw : w_J1_canEncode_9a6ad  v0 h Q) : CT l yJ1_canEncode_9a6ad cJ1_canEncode_9a6ad 1 (some .boolean) 0 0 0 [.int v0] h (QI Q) := by
  refine CT.of (by decide) ⟨rfl, trivial⟩ (Nat.le_of_ble_eq_true rfl) ?_
  intro p e s m args below meth c g C hr hin
  refine v_eq (pc' := 0) (ls' := [(0, .int v0)]) rfl rfl rfl rfl ?_
  refine v_iload_n C dJ1_canEncode_9a6ad_0 0 rfl rfl ?_
  refine v_if_lt (tgt := 15) C dJ1_canEncode_9a6ad_1 (by decide) (fun c_1 => ?_) (fun c_1 => ?_)
  · have hw := hw.1 c_1
    refine v_sub [] rfl ?_
    exact s_J1_canEncode_9a6ad_15 C hr   _ hw
  · have hw := hw.2 c_1
    refine v_iload_n C dJ1_canEncode_9a6ad_4 0 rfl rfl ?_
    refine v_sipush (v := 255) C dJ1_canEncode_9a6ad_5 (by decide) ?_
    refine v_icmp_gt (tgt := 15) C dJ1_canEncode_9a6ad_8 (by decide) (fun c_8 => ?_) (fun c_8 => ?_)
    · have hw := hw.1 c_8
      refine v_sub [] rfl ?_
      exact s_J1_canEncode_9a6ad_15 C hr   _ hw
    · have hw := hw.2 c_8
      refine v_iconst (v := 1) C dJ1_canEncode_9a6ad_11 (by decide) ?_
      refine v_goto (tgt := 16) C dJ1_canEncode_9a6ad_12 (by decide) ?_
      refine v_sub [] rfl ?_
      exact s_J1_canEncode_9a6ad_16 C hr  _ _ hw
-- java/lang/StringLatin1.indexOfChar([BIII)I
theorem dJ1_indexOfChar_4cfef_0 : decode cJ1_indexOfChar_4cfef 0 = .ok (.iload_n 1, 1) := by decide +kernel
theorem dJ1_indexOfChar_4cfef_1 : decode cJ1_indexOfChar_4cfef 1 = .ok (.i2b, 1) := by decide +kernel
theorem dJ1_indexOfChar_4cfef_2 : decode cJ1_indexOfChar_4cfef 2 = .ok (.istore 4, 2) := by decide +kernel
theorem dJ1_indexOfChar_4cfef_4 : decode cJ1_indexOfChar_4cfef 4 = .ok (.iload_n 2, 1) := by decide +kernel
theorem dJ1_indexOfChar_4cfef_5 : decode cJ1_indexOfChar_4cfef 5 = .ok (.istore 5, 2) := by decide +kernel
theorem dJ1_indexOfChar_4cfef_7 : decode cJ1_indexOfChar_4cfef 7 = .ok (.iload 5, 2) := by decide +kernel
theorem dJ1_indexOfChar_4cfef_9 : decode cJ1_indexOfChar_4cfef 9 = .ok (.iload_n 3, 1) := by decide +kernel
theorem dJ1_indexOfChar_4cfef_10 : decode cJ1_indexOfChar_4cfef 10 = .ok (.if_icmp .ge 21, 3) := by decide +kernel
theorem dJ1_indexOfChar_4cfef_13 : decode cJ1_indexOfChar_4cfef 13 = .ok (.aload_n 0, 1) := by decide +kernel
theorem dJ1_indexOfChar_4cfef_14 : decode cJ1_indexOfChar_4cfef 14 = .ok (.iload 5, 2) := by decide +kernel
theorem dJ1_indexOfChar_4cfef_16 : decode cJ1_indexOfChar_4cfef 16 = .ok (.baload, 1) := by decide +kernel
theorem dJ1_indexOfChar_4cfef_17 : decode cJ1_indexOfChar_4cfef 17 = .ok (.iload 4, 2) := by decide +kernel
theorem dJ1_indexOfChar_4cfef_19 : decode cJ1_indexOfChar_4cfef 19 = .ok (.if_icmp .ne 6, 3) := by decide +kernel
theorem dJ1_indexOfChar_4cfef_22 : decode cJ1_indexOfChar_4cfef 22 = .ok (.iload 5, 2) := by decide +kernel
theorem dJ1_indexOfChar_4cfef_24 : decode cJ1_indexOfChar_4cfef 24 = .ok (.ireturn, 1) := by decide +kernel
theorem dJ1_indexOfChar_4cfef_25 : decode cJ1_indexOfChar_4cfef 25 = .ok (.iinc 5 1, 3) := by decide +kernel
theorem dJ1_indexOfChar_4cfef_28 : decode cJ1_indexOfChar_4cfef 28 = .ok (.goto (-21), 3) := by decide +kernel
theorem dJ1_indexOfChar_4cfef_31 : decode cJ1_indexOfChar_4cfef 31 = .ok (.iconst (-1), 1) := by decide +kernel
theorem dJ1_indexOfChar_4cfef_32 : decode cJ1_indexOfChar_4cfef 32 = .ok (.ireturn, 1) := by decide +kernel
def w_J1_indexOfChar_4cfef_31  (h : AH) (Q : Int32 → AH → Prop) : Prop :=
  Q (-1 : Int32) h
def w_J1_indexOfChar_4cfef_22  (v5 : Int32) (h : AH) (Q : Int32 → AH → Prop) : Prop :=
  Q v5 h
def w_J1_indexOfChar_4cfef_7  (x22 : Int32 → AH → Prop) (x31 : AH → Prop) (k : Int32 → AH → Prop) (v0 : Nat) (v3 : Int32) (v4 : Int32) (v5 : Int32) (h : AH) (Q : Int32 → AH → Prop) : Prop :=
  br (v3 ≤ v5) (
    x31  h) (
    aS h v0 v5 fun x1 =>
    br (x1 = v4) (
      x22 v5 h) (
      k (v5 + 1) h))
def w_J1_indexOfChar_4cfef  (v0 : Nat) (v1 : Int32) (v2 : Int32) (v3 : Int32) (h : AH) (Q : Int32 → AH → Prop) : Prop :=
  bd (v1.toInt8.toInt32) fun x1 =>
  lp (fun (k2 : Int32 × AH → Prop) (s2 : Int32 × AH) => w_J1_indexOfChar_4cfef_7  (fun (y5 : Int32) h => w_J1_indexOfChar_4cfef_22 y5 h Q) (fun  h => w_J1_indexOfChar_4cfef_31  h Q) (fun (y5 : Int32) h => k2 (y5, h)) v0 v3 x1 s2.1 s2.2 Q) (v2, h)
set_option maxRecDepth 100000 in
set_option maxHeartbeats 4000000 in
theorem s_J1_indexOfChar_4cfef_31 {p : Program} {l : Launch} {e : Env} {s : State} {m : MethodId} {args : Array Value} {below : List Frame} {meth : Method} {c : Code} {g : GG}  {Q : Int32 → AH → Prop}  (C : CXT p l s m args meth c RJ1 cJ1_indexOfChar_4cfef 6 g) (hr : meth.sig.returnType = (some .int))  : ∀  (h : AH), w_J1_indexOfChar_4cfef_31  h Q → V p l e s m args below meth c g 0 0 0 6 0 0 (MQ below (QCx g (QI Q)) args s 0 0 (gA g)) 31 [] [] h := by
  intro  h hw
  refine v_iconst (v := -1) C dJ1_indexOfChar_4cfef_31 (by decide) ?_
  exact (rt_MQ C _).1 _ _ _ _ _ _ hr dJ1_indexOfChar_4cfef_32 (by decide) (by decide) ⟨_, rfl, hw⟩
set_option maxRecDepth 100000 in
set_option maxHeartbeats 4000000 in
theorem s_J1_indexOfChar_4cfef_22 {p : Program} {l : Launch} {e : Env} {s : State} {m : MethodId} {args : Array Value} {below : List Frame} {meth : Method} {c : Code} {g : GG}  {Q : Int32 → AH → Prop}  (C : CXT p l s m args meth c RJ1 cJ1_indexOfChar_4cfef 6 g) (hr : meth.sig.returnType = (some .int))  : ∀ (v5 : Int32) (h : AH), w_J1_indexOfChar_4cfef_22  v5 h Q → V p l e s m args below meth c g 0 0 0 6 0 0 (MQ below (QCx g (QI Q)) args s 0 0 (gA g)) 22 [(5, .int v5)] [] h := by
  intro v5 h hw
  refine v_iload C dJ1_indexOfChar_4cfef_22 0 rfl ?_
  exact (rt_MQ C _).1 _ _ _ _ _ _ hr dJ1_indexOfChar_4cfef_24 (by decide) (by decide) ⟨_, rfl, hw⟩
set_option maxRecDepth 100000 in
set_option maxHeartbeats 4000000 in
theorem s_J1_indexOfChar_4cfef_7 {p : Program} {l : Launch} {e : Env} {s : State} {m : MethodId} {args : Array Value} {below : List Frame} {meth : Method} {c : Code} {g : GG} {v0 : Nat} {v3 : Int32} {v4 : Int32} {Q : Int32 → AH → Prop} {x22 : Int32 → AH → Prop} {x31 : AH → Prop} {k : Int32 → AH → Prop} (C : CXT p l s m args meth c RJ1 cJ1_indexOfChar_4cfef 6 g) (hr : meth.sig.returnType = (some .int)) (hx22 : ∀ (y5 : Int32) (h : AH), x22 y5 h → V p l e s m args below meth c g 0 0 0 6 0 0 (MQ below (QCx g (QI Q)) args s 0 0 (gA g)) 22 [(5, .int y5)] [] h) (hx31 : ∀  (h : AH), x31  h → V p l e s m args below meth c g 0 0 0 6 0 0 (MQ below (QCx g (QI Q)) args s 0 0 (gA g)) 31 [] [] h) (hk : ∀ (y5 : Int32) (h : AH), k y5 h → V p l e s m args below meth c g 0 0 0 6 0 0 (MQ below (QCx g (QI Q)) args s 0 0 (gA g)) 7 [(0, .ref v0), (3, .int v3), (4, .int v4), (5, .int y5)] [] h) : ∀ (v5 : Int32) (h : AH), w_J1_indexOfChar_4cfef_7  x22 x31 k v0 v3 v4 v5 h Q → V p l e s m args below meth c g 0 0 0 6 0 0 (MQ below (QCx g (QI Q)) args s 0 0 (gA g)) 7 [(0, .ref v0), (3, .int v3), (4, .int v4), (5, .int v5)] [] h := by
  intro v5 h hw
  refine v_iload C dJ1_indexOfChar_4cfef_7 3 rfl ?_
  refine v_iload_n C dJ1_indexOfChar_4cfef_9 1 rfl rfl ?_
  refine v_icmp_ge (tgt := 31) C dJ1_indexOfChar_4cfef_10 (by decide) (fun c_10 => ?_) (fun c_10 => ?_)
  · have hw := hw.1 c_10
    refine v_sub [] rfl ?_
    exact hx31  _ hw
  · have hw := hw.2 c_10
    refine v_aload_n C dJ1_indexOfChar_4cfef_13 0 rfl rfl ?_
    refine v_iload C dJ1_indexOfChar_4cfef_14 3 rfl ?_
    refine w_baloadS C dJ1_indexOfChar_4cfef_16 hw (fun x1 hw => ?_)
    refine v_iload C dJ1_indexOfChar_4cfef_17 2 rfl ?_
    refine v_icmp_ne (tgt := 25) C dJ1_indexOfChar_4cfef_19 (by decide) (fun c_19 => ?_) (fun c_19 => ?_)
    · have hw := hw.2 c_19
      refine v_iinc (v := 1) (ls' := [(5, .int (v5 + 1)), (0, .ref v0), (3, .int v3), (4, .int v4)]) C dJ1_indexOfChar_4cfef_25 3 rfl (by decide) (by decide) rfl ?_
      refine v_goto (tgt := 7) C dJ1_indexOfChar_4cfef_28 (by decide) ?_
      refine v_sub [1, 2, 3, 0] rfl ?_
      exact hk _ _ hw
    · have hw := hw.1 c_19
      refine v_sub [3] rfl ?_
      exact hx22 _ _ hw
set_option maxRecDepth 100000 in
set_option maxHeartbeats 4000000 in
theorem s_J1_indexOfChar_4cfef {l : Launch}  {v0 : Nat} {v1 : Int32} {v2 : Int32} {v3 : Int32} {h : AH} {Q : Int32 → AH → Prop}  (hw : w_J1_indexOfChar_4cfef  v0 v1 v2 v3 h Q) : CT l yJ1_indexOfChar_4cfef cJ1_indexOfChar_4cfef 6 (some .int) 0 0 0 [.ref v0, .int v1, .int v2, .int v3] h (QI Q) := by
  refine CT.of (by decide) ⟨rfl, ⟨rfl, ⟨rfl, ⟨rfl, trivial⟩⟩⟩⟩ (Nat.le_of_ble_eq_true rfl) ?_
  intro p e s m args below meth c g C hr hin
  refine v_eq (pc' := 0) (ls' := [(0, .ref v0), (1, .int v1), (2, .int v2), (3, .int v3)]) rfl rfl rfl rfl ?_
  refine v_iload_n C dJ1_indexOfChar_4cfef_0 1 rfl rfl ?_
  refine v_i2b C dJ1_indexOfChar_4cfef_1 ?_
  refine w_bd hw (fun x1 hw => ?_)
  refine v_istore (ls' := [(4, .int x1), (0, .ref v0), (1, .int v1), (2, .int v2), (3, .int v3)]) C dJ1_indexOfChar_4cfef_2 (by decide) rfl ?_
  refine v_iload_n C dJ1_indexOfChar_4cfef_4 3 rfl rfl ?_
  refine v_istore (ls' := [(5, .int v2), (4, .int x1), (0, .ref v0), (1, .int v1), (2, .int v2), (3, .int v3)]) C dJ1_indexOfChar_4cfef_5 (by decide) rfl ?_
  refine v_sub [2, 5, 1, 0] rfl ?_
  refine lp_walk (P := fun (s' : Int32 × AH) => V p l e s m args below meth c g 0 0 0 6 0 0 (MQ below (QCx g (QI Q)) args s 0 0 (gA g)) 7 [(0, .ref v0), (3, .int v3), (4, .int x1), (5, .int (s'.1))] [] s'.2) (fun k2 hk2 s' hw => ?_) (v2, h) hw
  exact s_J1_indexOfChar_4cfef_7 C hr (fun y5 h hw => s_J1_indexOfChar_4cfef_22 C hr  _ h hw) (fun  h hw => s_J1_indexOfChar_4cfef_31 C hr   h hw) (fun y5 h hw => hk2 (y5, h) hw) _ _ hw
-- java/lang/StringLatin1.indexOf([BIII)I
theorem dJ1_indexOf_4cfef_0 : decode cJ1_indexOf_4cfef 0 = .ok (.iload_n 1, 1) := by decide +kernel
theorem dJ1_indexOf_4cfef_1 : decode cJ1_indexOf_4cfef 1 = .ok (.invokestatic 88, 3) := by decide +kernel
theorem dJ1_indexOf_4cfef_4 : decode cJ1_indexOf_4cfef 4 = .ok (.ifCond .ne 5, 3) := by decide +kernel
theorem dJ1_indexOf_4cfef_7 : decode cJ1_indexOf_4cfef 7 = .ok (.iconst (-1), 1) := by decide +kernel
theorem dJ1_indexOf_4cfef_8 : decode cJ1_indexOf_4cfef 8 = .ok (.ireturn, 1) := by decide +kernel
theorem dJ1_indexOf_4cfef_9 : decode cJ1_indexOf_4cfef 9 = .ok (.iload_n 2, 1) := by decide +kernel
theorem dJ1_indexOf_4cfef_10 : decode cJ1_indexOf_4cfef 10 = .ok (.iconst 0, 1) := by decide +kernel
theorem dJ1_indexOf_4cfef_11 : decode cJ1_indexOf_4cfef 11 = .ok (.invokestatic 92, 3) := by decide +kernel
theorem dJ1_indexOf_4cfef_14 : decode cJ1_indexOf_4cfef 14 = .ok (.istore_n 2, 1) := by decide +kernel
theorem dJ1_indexOf_4cfef_15 : decode cJ1_indexOf_4cfef 15 = .ok (.iload_n 3, 1) := by decide +kernel
theorem dJ1_indexOf_4cfef_16 : decode cJ1_indexOf_4cfef 16 = .ok (.aload_n 0, 1) := by decide +kernel
theorem dJ1_indexOf_4cfef_17 : decode cJ1_indexOf_4cfef 17 = .ok (.arraylength, 1) := by decide +kernel
theorem dJ1_indexOf_4cfef_18 : decode cJ1_indexOf_4cfef 18 = .ok (.invokestatic 38, 3) := by decide +kernel
theorem dJ1_indexOf_4cfef_21 : decode cJ1_indexOf_4cfef 21 = .ok (.istore_n 3, 1) := by decide +kernel
theorem dJ1_indexOf_4cfef_22 : decode cJ1_indexOf_4cfef 22 = .ok (.iload_n 2, 1) := by decide +kernel
theorem dJ1_indexOf_4cfef_23 : decode cJ1_indexOf_4cfef 23 = .ok (.iload_n 3, 1) := by decide +kernel
theorem dJ1_indexOf_4cfef_24 : decode cJ1_indexOf_4cfef 24 = .ok (.if_icmp .lt 5, 3) := by decide +kernel
theorem dJ1_indexOf_4cfef_27 : decode cJ1_indexOf_4cfef 27 = .ok (.iconst (-1), 1) := by decide +kernel
theorem dJ1_indexOf_4cfef_28 : decode cJ1_indexOf_4cfef 28 = .ok (.ireturn, 1) := by decide +kernel
theorem dJ1_indexOf_4cfef_29 : decode cJ1_indexOf_4cfef 29 = .ok (.aload_n 0, 1) := by decide +kernel
theorem dJ1_indexOf_4cfef_30 : decode cJ1_indexOf_4cfef 30 = .ok (.iload_n 1, 1) := by decide +kernel
theorem dJ1_indexOf_4cfef_31 : decode cJ1_indexOf_4cfef 31 = .ok (.iload_n 2, 1) := by decide +kernel
theorem dJ1_indexOf_4cfef_32 : decode cJ1_indexOf_4cfef 32 = .ok (.iload_n 3, 1) := by decide +kernel
theorem dJ1_indexOf_4cfef_33 : decode cJ1_indexOf_4cfef 33 = .ok (.invokestatic 95, 3) := by decide +kernel
theorem dJ1_indexOf_4cfef_36 : decode cJ1_indexOf_4cfef 36 = .ok (.ireturn, 1) := by decide +kernel
def w_J1_indexOf_4cfef  (v0 : Nat) (v1 : Int32) (v2 : Int32) (v3 : Int32) (h : AH) (Q : Int32 → AH → Prop) : Prop :=
  w_J1_canEncode_9a6ad v1 h (fun x1 h =>
  br (x1 = 0) (
    Q (-1 : Int32) h) (
    bd (jmax v2 (0 : Int32)) fun x2 =>
    lS h v0 fun x3 =>
    bd (jmin v3 x3) fun x4 =>
    br (x2 < x4) (
      w_J1_indexOfChar_4cfef v0 v1 x2 x4 h (fun x5 h =>
      Q x5 h)) (
      Q (-1 : Int32) h)))
set_option maxRecDepth 100000 in
set_option maxHeartbeats 4000000 in
theorem s_J1_indexOf_4cfef {l : Launch}  {v0 : Nat} {v1 : Int32} {v2 : Int32} {v3 : Int32} {h : AH} {Q : Int32 → AH → Prop}  (hw : w_J1_indexOf_4cfef  v0 v1 v2 v3 h Q) : CT l yJ1_indexOf_4cfef cJ1_indexOf_4cfef 4 (some .int) 1 0 0 [.ref v0, .int v1, .int v2, .int v3] h (QI Q) := by
  refine CT.of (by decide) ⟨rfl, ⟨rfl, ⟨rfl, ⟨rfl, trivial⟩⟩⟩⟩ (Nat.le_of_ble_eq_true rfl) ?_
  intro p e s m args below meth c g C hr hin
  refine v_eq (pc' := 0) (ls' := [(0, .ref v0), (1, .int v1), (2, .int v2), (3, .int v3)]) rfl rfl rfl rfl ?_
  refine v_iload_n C dJ1_indexOf_4cfef_0 1 rfl rfl ?_
  refine w_callSi (st := []) C cl_J1_88 st_J1_canEncode_9a6ad (s_J1_canEncode_9a6ad hw) rfl dJ1_indexOf_4cfef_1 rfl (by decide) (by decide) (by decide) (by decide) (by decide) (fun x1 h hw => ?_)
  refine v_if_ne (tgt := 9) C dJ1_indexOf_4cfef_4 (by decide) (fun c_4 => ?_) (fun c_4 => ?_)
  · have hw := hw.2 c_4
    refine v_iload_n C dJ1_indexOf_4cfef_9 2 rfl rfl ?_
    refine v_iconst (v := 0) C dJ1_indexOf_4cfef_10 (by decide) ?_
    refine v_max C ml_J1_92 ms_max mi_math mc_max dJ1_indexOf_4cfef_11 (by decide) (by decide) (by decide) (by decide) ?_
    refine w_bd hw (fun x2 hw => ?_)
    refine v_istore_n (ls' := [(2, .int x2), (0, .ref v0), (1, .int v1), (3, .int v3)]) C dJ1_indexOf_4cfef_14 rfl (by decide) rfl ?_
    refine v_iload_n C dJ1_indexOf_4cfef_15 3 rfl rfl ?_
    refine v_aload_n C dJ1_indexOf_4cfef_16 1 rfl rfl ?_
    refine w_alenS C dJ1_indexOf_4cfef_17 hw (fun x3 hw => ?_)
    refine v_min C ml_J1_38 ms_min mi_math mc_min dJ1_indexOf_4cfef_18 (by decide) (by decide) (by decide) (by decide) ?_
    refine w_bd hw (fun x4 hw => ?_)
    refine v_istore_n (ls' := [(3, .int x4), (2, .int x2), (0, .ref v0), (1, .int v1)]) C dJ1_indexOf_4cfef_21 rfl (by decide) rfl ?_
    refine v_iload_n C dJ1_indexOf_4cfef_22 1 rfl rfl ?_
    refine v_iload_n C dJ1_indexOf_4cfef_23 0 rfl rfl ?_
    refine v_icmp_lt (tgt := 29) C dJ1_indexOf_4cfef_24 (by decide) (fun c_24 => ?_) (fun c_24 => ?_)
    · have hw := hw.1 c_24
      refine v_aload_n C dJ1_indexOf_4cfef_29 2 rfl rfl ?_
      refine v_iload_n C dJ1_indexOf_4cfef_30 3 rfl rfl ?_
      refine v_iload_n C dJ1_indexOf_4cfef_31 1 rfl rfl ?_
      refine v_iload_n C dJ1_indexOf_4cfef_32 0 rfl rfl ?_
      refine w_callSi (st := []) C cl_J1_95 st_J1_indexOfChar_4cfef (s_J1_indexOfChar_4cfef hw) rfl dJ1_indexOf_4cfef_33 rfl (by decide) (by decide) (by decide) (by decide) (by decide) (fun x5 h hw => ?_)
      exact (rt_MQ C _).1 _ _ _ _ _ _ hr dJ1_indexOf_4cfef_36 (by decide) (by decide) ⟨_, rfl, hw⟩
    · have hw := hw.2 c_24
      refine v_iconst (v := -1) C dJ1_indexOf_4cfef_27 (by decide) ?_
      exact (rt_MQ C _).1 _ _ _ _ _ _ hr dJ1_indexOf_4cfef_28 (by decide) (by decide) ⟨_, rfl, hw⟩
  · have hw := hw.1 c_4
    refine v_iconst (v := -1) C dJ1_indexOf_4cfef_7 (by decide) ?_
    exact (rt_MQ C _).1 _ _ _ _ _ _ hr dJ1_indexOf_4cfef_8 (by decide) (by decide) ⟨_, rfl, hw⟩
-- java/lang/String.indexOf(II)I
theorem dJ0_indexOf_7cf53_0 : decode cJ0_indexOf_7cf53 0 = .ok (.aload_n 0, 1) := by decide +kernel
theorem dJ0_indexOf_7cf53_1 : decode cJ0_indexOf_7cf53 1 = .ok (.invokevirtual 492, 3) := by decide +kernel
theorem dJ0_indexOf_7cf53_4 : decode cJ0_indexOf_7cf53 4 = .ok (.ifCond .eq 19, 3) := by decide +kernel
theorem dJ0_indexOf_7cf53_7 : decode cJ0_indexOf_7cf53 7 = .ok (.aload_n 0, 1) := by decide +kernel
theorem dJ0_indexOf_7cf53_8 : decode cJ0_indexOf_7cf53 8 = .ok (.getfield 9, 3) := by decide +kernel
theorem dJ0_indexOf_7cf53_11 : decode cJ0_indexOf_7cf53 11 = .ok (.iload_n 1, 1) := by decide +kernel
theorem dJ0_indexOf_7cf53_12 : decode cJ0_indexOf_7cf53 12 = .ok (.iload_n 2, 1) := by decide +kernel
theorem dJ0_indexOf_7cf53_13 : decode cJ0_indexOf_7cf53 13 = .ok (.aload_n 0, 1) := by decide +kernel
theorem dJ0_indexOf_7cf53_14 : decode cJ0_indexOf_7cf53 14 = .ok (.invokevirtual 505, 3) := by decide +kernel
theorem dJ0_indexOf_7cf53_17 : decode cJ0_indexOf_7cf53 17 = .ok (.invokestatic 637, 3) := by decide +kernel
theorem dJ0_indexOf_7cf53_20 : decode cJ0_indexOf_7cf53 20 = .ok (.goto 16, 3) := by decide +kernel
theorem dJ0_indexOf_7cf53_23 : decode cJ0_indexOf_7cf53 23 = .ok (.aload_n 0, 1) := by decide +kernel
theorem dJ0_indexOf_7cf53_24 : decode cJ0_indexOf_7cf53 24 = .ok (.getfield 9, 3) := by decide +kernel
theorem dJ0_indexOf_7cf53_27 : decode cJ0_indexOf_7cf53 27 = .ok (.iload_n 1, 1) := by decide +kernel
theorem dJ0_indexOf_7cf53_28 : decode cJ0_indexOf_7cf53 28 = .ok (.iload_n 2, 1) := by decide +kernel
theorem dJ0_indexOf_7cf53_29 : decode cJ0_indexOf_7cf53 29 = .ok (.aload_n 0, 1) := by decide +kernel
theorem dJ0_indexOf_7cf53_30 : decode cJ0_indexOf_7cf53 30 = .ok (.invokevirtual 505, 3) := by decide +kernel
theorem dJ0_indexOf_7cf53_33 : decode cJ0_indexOf_7cf53 33 = .ok (.invokestatic 640, 3) := by decide +kernel
theorem dJ0_indexOf_7cf53_36 : decode cJ0_indexOf_7cf53 36 = .ok (.ireturn, 1) := by decide +kernel
def w_J0_indexOf_7cf53  (v0 : Nat) (v1 : Int32) (v2 : Int32) (h : AH) (Q : Int32 → AH → Prop) : Prop :=
  vS h v0 (
  w_J0_isLatin1_aae02 v0 h (fun x1 h =>
  br (x1 = 0) (
    fS h v0 fun a2 =>
    vS h v0 (
    w_J0_length_8abf5 v0 h (fun x3 h =>
    False))) (
    fS h v0 fun a4 =>
    vS h v0 (
    w_J0_length_8abf5 v0 h (fun x5 h =>
    w_J1_indexOf_4cfef a4 v1 v2 x5 h (fun x6 h =>
    Q x6 h))))))
set_option maxRecDepth 100000 in
set_option maxHeartbeats 4000000 in
theorem s_J0_indexOf_7cf53 {l : Launch}  {v0 : Nat} {v1 : Int32} {v2 : Int32} {h : AH} {Q : Int32 → AH → Prop}  (hw : w_J0_indexOf_7cf53  v0 v1 v2 h Q) : CT l yJ0_indexOf_7cf53 cJ0_indexOf_7cf53 3 (some .int) 2 0 0 [.ref v0, .int v1, .int v2] h (QI Q) := by
  refine CT.of (by decide) ⟨rfl, ⟨rfl, ⟨rfl, trivial⟩⟩⟩ (Nat.le_of_ble_eq_true rfl) ?_
  intro p e s m args below meth c g C hr hin
  refine v_eq (pc' := 0) (ls' := [(0, .ref v0), (1, .int v1), (2, .int v2)]) rfl rfl rfl rfl ?_
  refine v_aload_n C dJ0_indexOf_7cf53_0 0 rfl rfl ?_
  refine v_callVS (st := []) C cl_J0_492 lk_J0_492 im_J0_isLatin1_aae02 se_J0_isLatin1_aae02 hw.1 (s_J0_isLatin1_aae02 hw.2) rfl dJ0_indexOf_7cf53_1 rfl (by decide) (by decide) (by decide) (by decide) (by decide) (fun x1 h hw => ?_)
  refine v_if_eq (tgt := 23) C dJ0_indexOf_7cf53_4 (by decide) (fun c_4 => ?_) (fun c_4 => ?_)
  · have hw := hw.1 c_4
    refine v_aload_n C dJ0_indexOf_7cf53_23 0 rfl rfl ?_
    refine w_getSv C (tb9 (List.mem_of_getElem? (i := 231) rfl)) dJ0_indexOf_7cf53_24 hw (fun a2 hw => ?_)
    refine v_iload_n C dJ0_indexOf_7cf53_27 1 rfl rfl ?_
    refine v_iload_n C dJ0_indexOf_7cf53_28 2 rfl rfl ?_
    refine v_aload_n C dJ0_indexOf_7cf53_29 0 rfl rfl ?_
    refine v_callVS (st := [.int v2, .int v1, .ref a2]) C cl_J0_505 lk_J0_505 im_J0_length_8abf5 se_J0_length_8abf5 hw.1 (s_J0_length_8abf5 hw.2) rfl dJ0_indexOf_7cf53_30 rfl (Nat.le_of_ble_eq_true rfl) (by decide) (by decide) (by decide) (by decide) (fun x3 h hw => ?_)
    exact hw.elim
  · have hw := hw.2 c_4
    refine v_aload_n C dJ0_indexOf_7cf53_7 0 rfl rfl ?_
    refine w_getSv C (tb9 (List.mem_of_getElem? (i := 231) rfl)) dJ0_indexOf_7cf53_8 hw (fun a4 hw => ?_)
    refine v_iload_n C dJ0_indexOf_7cf53_11 1 rfl rfl ?_
    refine v_iload_n C dJ0_indexOf_7cf53_12 2 rfl rfl ?_
    refine v_aload_n C dJ0_indexOf_7cf53_13 0 rfl rfl ?_
    refine v_callVS (st := [.int v2, .int v1, .ref a4]) C cl_J0_505 lk_J0_505 im_J0_length_8abf5 se_J0_length_8abf5 hw.1 (s_J0_length_8abf5 hw.2) rfl dJ0_indexOf_7cf53_14 rfl (Nat.le_of_ble_eq_true rfl) (by decide) (by decide) (by decide) (by decide) (fun x5 h hw => ?_)
    refine w_callSi (st := []) C cl_J0_637 st_J1_indexOf_4cfef (s_J1_indexOf_4cfef hw) rfl dJ0_indexOf_7cf53_17 rfl (by decide) (by decide) (by decide) (by decide) (by decide) (fun x6 h hw => ?_)
    refine v_goto (tgt := 36) C dJ0_indexOf_7cf53_20 (by decide) ?_
    exact (rt_MQ C _).1 _ _ _ _ _ _ hr dJ0_indexOf_7cf53_36 (by decide) (by decide) ⟨_, rfl, hw⟩
-- java/lang/String.indexOf(I)I
theorem dJ0_indexOf_0f7a4_0 : decode cJ0_indexOf_0f7a4 0 = .ok (.aload_n 0, 1) := by decide +kernel
theorem dJ0_indexOf_0f7a4_1 : decode cJ0_indexOf_0f7a4 1 = .ok (.iload_n 1, 1) := by decide +kernel
theorem dJ0_indexOf_0f7a4_2 : decode cJ0_indexOf_0f7a4 2 = .ok (.iconst 0, 1) := by decide +kernel
theorem dJ0_indexOf_0f7a4_3 : decode cJ0_indexOf_0f7a4 3 = .ok (.invokevirtual 633, 3) := by decide +kernel
theorem dJ0_indexOf_0f7a4_6 : decode cJ0_indexOf_0f7a4 6 = .ok (.ireturn, 1) := by decide +kernel
def w_J0_indexOf_0f7a4  (v0 : Nat) (v1 : Int32) (h : AH) (Q : Int32 → AH → Prop) : Prop :=
  vS h v0 (
  w_J0_indexOf_7cf53 v0 v1 (0 : Int32) h (fun x1 h =>
  Q x1 h))
set_option maxRecDepth 100000 in
set_option maxHeartbeats 4000000 in
theorem s_J0_indexOf_0f7a4 {l : Launch}  {v0 : Nat} {v1 : Int32} {h : AH} {Q : Int32 → AH → Prop}  (hw : w_J0_indexOf_0f7a4  v0 v1 h Q) : CT l yJ0_indexOf_0f7a4 cJ0_indexOf_0f7a4 2 (some .int) 3 0 0 [.ref v0, .int v1] h (QI Q) := by
  refine CT.of (by decide) ⟨rfl, ⟨rfl, trivial⟩⟩ (Nat.le_of_ble_eq_true rfl) ?_
  intro p e s m args below meth c g C hr hin
  refine v_eq (pc' := 0) (ls' := [(0, .ref v0), (1, .int v1)]) rfl rfl rfl rfl ?_
  refine v_aload_n C dJ0_indexOf_0f7a4_0 0 rfl rfl ?_
  refine v_iload_n C dJ0_indexOf_0f7a4_1 1 rfl rfl ?_
  refine v_iconst (v := 0) C dJ0_indexOf_0f7a4_2 (by decide) ?_
  refine v_callVS (st := []) C cl_J0_633 lk_J0_633 im_J0_indexOf_7cf53 se_J0_indexOf_7cf53 hw.1 (s_J0_indexOf_7cf53 hw.2) rfl dJ0_indexOf_0f7a4_3 rfl (by decide) (by decide) (by decide) (by decide) (by decide) (fun x1 h hw => ?_)
  exact (rt_MQ C _).1 _ _ _ _ _ _ hr dJ0_indexOf_0f7a4_6 (by decide) (by decide) ⟨_, rfl, hw⟩
