theorem tb1 {w : Cond} (h : w ∈ tables_1_1) : w ∈ lw_tbl := List.mem_append_right _ (List.mem_append_left _ h)
theorem tb2 {w : Cond} (h : w ∈ tables_1_2) : w ∈ lw_tbl := List.mem_append_right _ (List.mem_append_right _ (List.mem_append_left _ h))
theorem tb3 {w : Cond} (h : w ∈ tables_1_3) : w ∈ lw_tbl := List.mem_append_right _ (List.mem_append_right _ (List.mem_append_right _ (List.mem_append_left _ h)))
theorem tb4 {w : Cond} (h : w ∈ tables_1_4) : w ∈ lw_tbl := List.mem_append_right _ (List.mem_append_right _ (List.mem_append_right _ (List.mem_append_right _ (List.mem_append_left _ h))))
theorem tb5 {w : Cond} (h : w ∈ tables_1_5) : w ∈ lw_tbl := List.mem_append_right _ (List.mem_append_right _ (List.mem_append_right _ (List.mem_append_right _ (List.mem_append_right _ (List.mem_append_left _ h)))))
theorem tb6 {w : Cond} (h : w ∈ tables_1_6) : w ∈ lw_tbl := List.mem_append_right _ (List.mem_append_right _ (List.mem_append_right _ (List.mem_append_right _ (List.mem_append_right _ (List.mem_append_right _ (List.mem_append_left _ h))))))
theorem tb7 {w : Cond} (h : w ∈ tables_1_7) : w ∈ lw_tbl := List.mem_append_right _ (List.mem_append_right _ (List.mem_append_right _ (List.mem_append_right _ (List.mem_append_right _ (List.mem_append_right _ (List.mem_append_right _ (List.mem_append_left _ h)))))))
theorem tb8 {w : Cond} (h : w ∈ tables_1_8) : w ∈ lw_tbl := List.mem_append_right _ (List.mem_append_right _ (List.mem_append_right _ (List.mem_append_right _ (List.mem_append_right _ (List.mem_append_right _ (List.mem_append_right _ (List.mem_append_right _ (List.mem_append_left _ h))))))))
theorem tb9 {w : Cond} (h : w ∈ tables_1_9) : w ∈ lw_tbl := List.mem_append_right _ (List.mem_append_right _ (List.mem_append_right _ (List.mem_append_right _ (List.mem_append_right _ (List.mem_append_right _ (List.mem_append_right _ (List.mem_append_right _ (List.mem_append_right _ (h)))))))))
theorem tbp1 {q : MethodName × Nat} (n : Nat) (h : lw_privs_1[n]? = some q) : Cond.selects q.1.cls q.1 q.1 ∈ lw_tbl := List.mem_append_left _ (List.mem_map.mpr ⟨q, (List.mem_append_left _ (List.mem_of_getElem? h)), rfl⟩)
theorem tbp2 {q : MethodName × Nat} (n : Nat) (h : lw_privs_2[n]? = some q) : Cond.selects q.1.cls q.1 q.1 ∈ lw_tbl := List.mem_append_left _ (List.mem_map.mpr ⟨q, (List.mem_append_right _ (List.mem_append_left _ (List.mem_of_getElem? h))), rfl⟩)
theorem tbp3 {q : MethodName × Nat} (n : Nat) (h : lw_privs_3[n]? = some q) : Cond.selects q.1.cls q.1 q.1 ∈ lw_tbl := List.mem_append_left _ (List.mem_map.mpr ⟨q, (List.mem_append_right _ (List.mem_append_right _ (List.mem_append_left _ (List.mem_of_getElem? h)))), rfl⟩)
theorem tbp4 {q : MethodName × Nat} (n : Nat) (h : lw_privs_4[n]? = some q) : Cond.selects q.1.cls q.1 q.1 ∈ lw_tbl := List.mem_append_left _ (List.mem_map.mpr ⟨q, (List.mem_append_right _ (List.mem_append_right _ (List.mem_append_right _ (List.mem_append_left _ (List.mem_of_getElem? h))))), rfl⟩)
theorem tbp5 {q : MethodName × Nat} (n : Nat) (h : lw_privs_5[n]? = some q) : Cond.selects q.1.cls q.1 q.1 ∈ lw_tbl := List.mem_append_left _ (List.mem_map.mpr ⟨q, (List.mem_append_right _ (List.mem_append_right _ (List.mem_append_right _ (List.mem_append_right _ (List.mem_append_left _ (List.mem_of_getElem? h)))))), rfl⟩)
theorem tbp6 {q : MethodName × Nat} (n : Nat) (h : lw_privs_6[n]? = some q) : Cond.selects q.1.cls q.1 q.1 ∈ lw_tbl := List.mem_append_left _ (List.mem_map.mpr ⟨q, (List.mem_append_right _ (List.mem_append_right _ (List.mem_append_right _ (List.mem_append_right _ (List.mem_append_right _ (List.mem_append_left _ (List.mem_of_getElem? h))))))), rfl⟩)
theorem tbp7 {q : MethodName × Nat} (n : Nat) (h : lw_privs_7[n]? = some q) : Cond.selects q.1.cls q.1 q.1 ∈ lw_tbl := List.mem_append_left _ (List.mem_map.mpr ⟨q, (List.mem_append_right _ (List.mem_append_right _ (List.mem_append_right _ (List.mem_append_right _ (List.mem_append_right _ (List.mem_append_right _ (List.mem_append_left _ (List.mem_of_getElem? h)))))))), rfl⟩)
theorem tbp8 {q : MethodName × Nat} (n : Nat) (h : lw_privs_8[n]? = some q) : Cond.selects q.1.cls q.1 q.1 ∈ lw_tbl := List.mem_append_left _ (List.mem_map.mpr ⟨q, (List.mem_append_right _ (List.mem_append_right _ (List.mem_append_right _ (List.mem_append_right _ (List.mem_append_right _ (List.mem_append_right _ (List.mem_append_right _ (List.mem_of_getElem? h)))))))), rfl⟩)
theorem ct_J6_265 : Cond.constant RJ6 265 (1431655765) ∈ lw_tbl := (tb3 (List.mem_of_getElem? (i := 11) rfl))
theorem ct_J6_266 : Cond.constant RJ6 266 (858993459) ∈ lw_tbl := (tb3 (List.mem_of_getElem? (i := 12) rfl))
theorem ct_J6_267 : Cond.constant RJ6 267 (252645135) ∈ lw_tbl := (tb3 (List.mem_of_getElem? (i := 13) rfl))
theorem ct_J6_264 : Cond.constant RJ6 264 (65536) ∈ lw_tbl := (tb9 (List.mem_of_getElem? (i := 85) rfl))
theorem cl_J0_335 : CLk RJ0 335 yJ0_coder_7d493 cJ0_coder_7d493 1 (some .byte) 0 := ⟨Or.inl (tb4 (List.mem_of_getElem? (i := 57) rfl)), (tb4 (List.mem_of_getElem? (i := 60) rfl)), (tb1 (List.mem_of_getElem? (i := 19) rfl)), by decide +kernel, by decide +kernel, by decide +kernel⟩
theorem lk_J0_335 : Cond.methodLink RJ0 335 yJ0_coder_7d493 ∈ lw_tbl := (tb4 (List.mem_of_getElem? (i := 57) rfl))
theorem im_J0_coder_7d493 : Cond.instanceMethod yJ0_coder_7d493 ∈ lw_tbl := (tb4 (List.mem_of_getElem? (i := 58) rfl))
theorem se_J0_coder_7d493 : Cond.selects RJ0 yJ0_coder_7d493 yJ0_coder_7d493 ∈ lw_tbl := (tb4 (List.mem_of_getElem? (i := 59) rfl))
theorem ml_J7_304 : Cond.methodLink RJ7 304 Lib.Math.min.name ∈ lw_tbl := (tb4 (List.mem_of_getElem? (i := 229) rfl))
theorem ms_min : Cond.static Lib.Math.min.name ∈ lw_tbl := (tb3 (List.mem_of_getElem? (i := 203) rfl))
theorem mi_math : Cond.initialized "java/lang/Math" ∈ lw_tbl := (tb1 (List.mem_of_getElem? (i := 17) rfl))
theorem mc_min : Cond.code Lib.Math.min.name Lib.Math.min.code 2 (some .int) ∈ lw_tbl := (tb3 (List.mem_of_getElem? (i := 204) rfl))
theorem ac_J7_150 : Cond.methodLink RJ7 150 arraycopyName ∈ lw_tbl := (tb4 (List.mem_of_getElem? (i := 230) rfl))
theorem ac_nat : Cond.native arraycopyName ∈ lw_tbl := (tb3 (List.mem_of_getElem? (i := 44) rfl))
theorem ac_st : Cond.static arraycopyName ∈ lw_tbl := (tb3 (List.mem_of_getElem? (i := 43) rfl))
theorem ac_in : Cond.initialized "java/lang/System" ∈ lw_tbl := (tb1 (List.mem_of_getElem? (i := 26) rfl))
-- java/lang/Integer.bitCount(I)I
theorem dJ6_bitCount_0f7a4_0 : decode cJ6_bitCount_0f7a4 0 = .ok (.iload_n 0, 1) := by decide +kernel
theorem dJ6_bitCount_0f7a4_1 : decode cJ6_bitCount_0f7a4 1 = .ok (.iload_n 0, 1) := by decide +kernel
theorem dJ6_bitCount_0f7a4_2 : decode cJ6_bitCount_0f7a4 2 = .ok (.iconst 1, 1) := by decide +kernel
theorem dJ6_bitCount_0f7a4_3 : decode cJ6_bitCount_0f7a4 3 = .ok (.iushr, 1) := by decide +kernel
theorem dJ6_bitCount_0f7a4_4 : decode cJ6_bitCount_0f7a4 4 = .ok (.ldc_w 265, 3) := by decide +kernel
theorem dJ6_bitCount_0f7a4_7 : decode cJ6_bitCount_0f7a4 7 = .ok (.iand, 1) := by decide +kernel
theorem dJ6_bitCount_0f7a4_8 : decode cJ6_bitCount_0f7a4 8 = .ok (.isub, 1) := by decide +kernel
theorem dJ6_bitCount_0f7a4_9 : decode cJ6_bitCount_0f7a4 9 = .ok (.istore_n 0, 1) := by decide +kernel
theorem dJ6_bitCount_0f7a4_10 : decode cJ6_bitCount_0f7a4 10 = .ok (.iload_n 0, 1) := by decide +kernel
theorem dJ6_bitCount_0f7a4_11 : decode cJ6_bitCount_0f7a4 11 = .ok (.ldc_w 266, 3) := by decide +kernel
theorem dJ6_bitCount_0f7a4_14 : decode cJ6_bitCount_0f7a4 14 = .ok (.iand, 1) := by decide +kernel
theorem dJ6_bitCount_0f7a4_15 : decode cJ6_bitCount_0f7a4 15 = .ok (.iload_n 0, 1) := by decide +kernel
theorem dJ6_bitCount_0f7a4_16 : decode cJ6_bitCount_0f7a4 16 = .ok (.iconst 2, 1) := by decide +kernel
theorem dJ6_bitCount_0f7a4_17 : decode cJ6_bitCount_0f7a4 17 = .ok (.iushr, 1) := by decide +kernel
theorem dJ6_bitCount_0f7a4_18 : decode cJ6_bitCount_0f7a4 18 = .ok (.ldc_w 266, 3) := by decide +kernel
theorem dJ6_bitCount_0f7a4_21 : decode cJ6_bitCount_0f7a4 21 = .ok (.iand, 1) := by decide +kernel
theorem dJ6_bitCount_0f7a4_22 : decode cJ6_bitCount_0f7a4 22 = .ok (.iadd, 1) := by decide +kernel
theorem dJ6_bitCount_0f7a4_23 : decode cJ6_bitCount_0f7a4 23 = .ok (.istore_n 0, 1) := by decide +kernel
theorem dJ6_bitCount_0f7a4_24 : decode cJ6_bitCount_0f7a4 24 = .ok (.iload_n 0, 1) := by decide +kernel
theorem dJ6_bitCount_0f7a4_25 : decode cJ6_bitCount_0f7a4 25 = .ok (.iload_n 0, 1) := by decide +kernel
theorem dJ6_bitCount_0f7a4_26 : decode cJ6_bitCount_0f7a4 26 = .ok (.iconst 4, 1) := by decide +kernel
theorem dJ6_bitCount_0f7a4_27 : decode cJ6_bitCount_0f7a4 27 = .ok (.iushr, 1) := by decide +kernel
theorem dJ6_bitCount_0f7a4_28 : decode cJ6_bitCount_0f7a4 28 = .ok (.iadd, 1) := by decide +kernel
theorem dJ6_bitCount_0f7a4_29 : decode cJ6_bitCount_0f7a4 29 = .ok (.ldc_w 267, 3) := by decide +kernel
theorem dJ6_bitCount_0f7a4_32 : decode cJ6_bitCount_0f7a4 32 = .ok (.iand, 1) := by decide +kernel
theorem dJ6_bitCount_0f7a4_33 : decode cJ6_bitCount_0f7a4 33 = .ok (.istore_n 0, 1) := by decide +kernel
theorem dJ6_bitCount_0f7a4_34 : decode cJ6_bitCount_0f7a4 34 = .ok (.iload_n 0, 1) := by decide +kernel
theorem dJ6_bitCount_0f7a4_35 : decode cJ6_bitCount_0f7a4 35 = .ok (.iload_n 0, 1) := by decide +kernel
theorem dJ6_bitCount_0f7a4_36 : decode cJ6_bitCount_0f7a4 36 = .ok (.bipush 8, 2) := by decide +kernel
theorem dJ6_bitCount_0f7a4_38 : decode cJ6_bitCount_0f7a4 38 = .ok (.iushr, 1) := by decide +kernel
theorem dJ6_bitCount_0f7a4_39 : decode cJ6_bitCount_0f7a4 39 = .ok (.iadd, 1) := by decide +kernel
theorem dJ6_bitCount_0f7a4_40 : decode cJ6_bitCount_0f7a4 40 = .ok (.istore_n 0, 1) := by decide +kernel
theorem dJ6_bitCount_0f7a4_41 : decode cJ6_bitCount_0f7a4 41 = .ok (.iload_n 0, 1) := by decide +kernel
theorem dJ6_bitCount_0f7a4_42 : decode cJ6_bitCount_0f7a4 42 = .ok (.iload_n 0, 1) := by decide +kernel
theorem dJ6_bitCount_0f7a4_43 : decode cJ6_bitCount_0f7a4 43 = .ok (.bipush 16, 2) := by decide +kernel
theorem dJ6_bitCount_0f7a4_45 : decode cJ6_bitCount_0f7a4 45 = .ok (.iushr, 1) := by decide +kernel
theorem dJ6_bitCount_0f7a4_46 : decode cJ6_bitCount_0f7a4 46 = .ok (.iadd, 1) := by decide +kernel
theorem dJ6_bitCount_0f7a4_47 : decode cJ6_bitCount_0f7a4 47 = .ok (.istore_n 0, 1) := by decide +kernel
theorem dJ6_bitCount_0f7a4_48 : decode cJ6_bitCount_0f7a4 48 = .ok (.iload_n 0, 1) := by decide +kernel
theorem dJ6_bitCount_0f7a4_49 : decode cJ6_bitCount_0f7a4 49 = .ok (.bipush 63, 2) := by decide +kernel
theorem dJ6_bitCount_0f7a4_51 : decode cJ6_bitCount_0f7a4 51 = .ok (.iand, 1) := by decide +kernel
theorem dJ6_bitCount_0f7a4_52 : decode cJ6_bitCount_0f7a4 52 = .ok (.ireturn, 1) := by decide +kernel
def w_J6_bitCount_0f7a4  (v0 : Int32) (h : AH) (Q : Int32 → AH → Prop) : Prop :=
  bd (v0 - ((jushr v0 (1 : Int32)) &&& (1431655765 : Int32))) fun x1 =>
  bd ((x1 &&& (858993459 : Int32)) + ((jushr x1 (2 : Int32)) &&& (858993459 : Int32))) fun x2 =>
  bd ((x2 + (jushr x2 (4 : Int32))) &&& (252645135 : Int32)) fun x3 =>
  bd (x3 + (jushr x3 (8 : Int32))) fun x4 =>
  bd (x4 + (jushr x4 (16 : Int32))) fun x5 =>
  Q (x5 &&& (63 : Int32)) h
set_option maxRecDepth 100000 in
set_option maxHeartbeats 4000000 in
theorem s_J6_bitCount_0f7a4 {l : Launch}  {v0 : Int32} {h : AH} {Q : Int32 → AH → Prop}  (hw : w_J6_bitCount_0f7a4  v0 h Q) : CT l yJ6_bitCount_0f7a4 cJ6_bitCount_0f7a4 1 (some .int) 0 0 0 [.int v0] h (QI Q) := by
  refine CT.of (by decide) ⟨rfl, trivial⟩ (Nat.le_of_ble_eq_true rfl) ?_
  intro p e s m args below meth c g C hr hin
  refine v_eq (pc' := 0) (ls' := [(0, .int v0)]) rfl rfl rfl rfl ?_
  refine v_iload_n C dJ6_bitCount_0f7a4_0 0 rfl rfl ?_
  refine v_iload_n C dJ6_bitCount_0f7a4_1 0 rfl rfl ?_
  refine v_iconst (v := 1) C dJ6_bitCount_0f7a4_2 (by decide) ?_
  refine v_iushr C dJ6_bitCount_0f7a4_3 ?_
  refine v_ldcw C dJ6_bitCount_0f7a4_4 ct_J6_265 ?_
  refine v_iand C dJ6_bitCount_0f7a4_7 ?_
  refine v_isub C dJ6_bitCount_0f7a4_8 ?_
  refine w_bd hw (fun x1 hw => ?_)
  refine v_istore_n (ls' := [(0, .int x1)]) C dJ6_bitCount_0f7a4_9 rfl (by decide) rfl ?_
  refine v_iload_n C dJ6_bitCount_0f7a4_10 0 rfl rfl ?_
  refine v_ldcw C dJ6_bitCount_0f7a4_11 ct_J6_266 ?_
  refine v_iand C dJ6_bitCount_0f7a4_14 ?_
  refine v_iload_n C dJ6_bitCount_0f7a4_15 0 rfl rfl ?_
  refine v_iconst (v := 2) C dJ6_bitCount_0f7a4_16 (by decide) ?_
  refine v_iushr C dJ6_bitCount_0f7a4_17 ?_
  refine v_ldcw C dJ6_bitCount_0f7a4_18 ct_J6_266 ?_
  refine v_iand C dJ6_bitCount_0f7a4_21 ?_
  refine v_iadd C dJ6_bitCount_0f7a4_22 ?_
  refine w_bd hw (fun x2 hw => ?_)
  refine v_istore_n (ls' := [(0, .int x2)]) C dJ6_bitCount_0f7a4_23 rfl (by decide) rfl ?_
  refine v_iload_n C dJ6_bitCount_0f7a4_24 0 rfl rfl ?_
  refine v_iload_n C dJ6_bitCount_0f7a4_25 0 rfl rfl ?_
  refine v_iconst (v := 4) C dJ6_bitCount_0f7a4_26 (by decide) ?_
  refine v_iushr C dJ6_bitCount_0f7a4_27 ?_
  refine v_iadd C dJ6_bitCount_0f7a4_28 ?_
  refine v_ldcw C dJ6_bitCount_0f7a4_29 ct_J6_267 ?_
  refine v_iand C dJ6_bitCount_0f7a4_32 ?_
  refine w_bd hw (fun x3 hw => ?_)
  refine v_istore_n (ls' := [(0, .int x3)]) C dJ6_bitCount_0f7a4_33 rfl (by decide) rfl ?_
  refine v_iload_n C dJ6_bitCount_0f7a4_34 0 rfl rfl ?_
  refine v_iload_n C dJ6_bitCount_0f7a4_35 0 rfl rfl ?_
  refine v_bipush (v := 8) C dJ6_bitCount_0f7a4_36 (by decide) ?_
  refine v_iushr C dJ6_bitCount_0f7a4_38 ?_
  refine v_iadd C dJ6_bitCount_0f7a4_39 ?_
  refine w_bd hw (fun x4 hw => ?_)
  refine v_istore_n (ls' := [(0, .int x4)]) C dJ6_bitCount_0f7a4_40 rfl (by decide) rfl ?_
  refine v_iload_n C dJ6_bitCount_0f7a4_41 0 rfl rfl ?_
  refine v_iload_n C dJ6_bitCount_0f7a4_42 0 rfl rfl ?_
  refine v_bipush (v := 16) C dJ6_bitCount_0f7a4_43 (by decide) ?_
  refine v_iushr C dJ6_bitCount_0f7a4_45 ?_
  refine v_iadd C dJ6_bitCount_0f7a4_46 ?_
  refine w_bd hw (fun x5 hw => ?_)
  refine v_istore_n (ls' := [(0, .int x5)]) C dJ6_bitCount_0f7a4_47 rfl (by decide) rfl ?_
  refine v_iload_n C dJ6_bitCount_0f7a4_48 0 rfl rfl ?_
  refine v_bipush (v := 63) C dJ6_bitCount_0f7a4_49 (by decide) ?_
  refine v_iand C dJ6_bitCount_0f7a4_51 ?_
  exact (rt_MQ C _).1 _ _ _ _ _ _ hr dJ6_bitCount_0f7a4_52 (by decide) (by decide) ⟨_, rfl, hw⟩
-- java/lang/Integer.numberOfTrailingZeros(I)I
theorem dJ6_numberOfTrailingZeros_0f7a4_0 : decode cJ6_numberOfTrailingZeros_0f7a4 0 = .ok (.iload_n 0, 1) := by decide +kernel
theorem dJ6_numberOfTrailingZeros_0f7a4_1 : decode cJ6_numberOfTrailingZeros_0f7a4 1 = .ok (.iconst (-1), 1) := by decide +kernel
theorem dJ6_numberOfTrailingZeros_0f7a4_2 : decode cJ6_numberOfTrailingZeros_0f7a4 2 = .ok (.ixor, 1) := by decide +kernel
theorem dJ6_numberOfTrailingZeros_0f7a4_3 : decode cJ6_numberOfTrailingZeros_0f7a4 3 = .ok (.iload_n 0, 1) := by decide +kernel
theorem dJ6_numberOfTrailingZeros_0f7a4_4 : decode cJ6_numberOfTrailingZeros_0f7a4 4 = .ok (.iconst 1, 1) := by decide +kernel
theorem dJ6_numberOfTrailingZeros_0f7a4_5 : decode cJ6_numberOfTrailingZeros_0f7a4 5 = .ok (.isub, 1) := by decide +kernel
theorem dJ6_numberOfTrailingZeros_0f7a4_6 : decode cJ6_numberOfTrailingZeros_0f7a4 6 = .ok (.iand, 1) := by decide +kernel
theorem dJ6_numberOfTrailingZeros_0f7a4_7 : decode cJ6_numberOfTrailingZeros_0f7a4 7 = .ok (.istore_n 0, 1) := by decide +kernel
theorem dJ6_numberOfTrailingZeros_0f7a4_8 : decode cJ6_numberOfTrailingZeros_0f7a4 8 = .ok (.iload_n 0, 1) := by decide +kernel
theorem dJ6_numberOfTrailingZeros_0f7a4_9 : decode cJ6_numberOfTrailingZeros_0f7a4 9 = .ok (.ifCond .gt 8, 3) := by decide +kernel
theorem dJ6_numberOfTrailingZeros_0f7a4_12 : decode cJ6_numberOfTrailingZeros_0f7a4 12 = .ok (.iload_n 0, 1) := by decide +kernel
theorem dJ6_numberOfTrailingZeros_0f7a4_13 : decode cJ6_numberOfTrailingZeros_0f7a4 13 = .ok (.bipush 32, 2) := by decide +kernel
theorem dJ6_numberOfTrailingZeros_0f7a4_15 : decode cJ6_numberOfTrailingZeros_0f7a4 15 = .ok (.iand, 1) := by decide +kernel
theorem dJ6_numberOfTrailingZeros_0f7a4_16 : decode cJ6_numberOfTrailingZeros_0f7a4 16 = .ok (.ireturn, 1) := by decide +kernel
theorem dJ6_numberOfTrailingZeros_0f7a4_17 : decode cJ6_numberOfTrailingZeros_0f7a4 17 = .ok (.iconst 1, 1) := by decide +kernel
theorem dJ6_numberOfTrailingZeros_0f7a4_18 : decode cJ6_numberOfTrailingZeros_0f7a4 18 = .ok (.istore_n 1, 1) := by decide +kernel
theorem dJ6_numberOfTrailingZeros_0f7a4_19 : decode cJ6_numberOfTrailingZeros_0f7a4 19 = .ok (.iload_n 0, 1) := by decide +kernel
theorem dJ6_numberOfTrailingZeros_0f7a4_20 : decode cJ6_numberOfTrailingZeros_0f7a4 20 = .ok (.ldc_w 264, 3) := by decide +kernel
theorem dJ6_numberOfTrailingZeros_0f7a4_23 : decode cJ6_numberOfTrailingZeros_0f7a4 23 = .ok (.if_icmp .le 11, 3) := by decide +kernel
theorem dJ6_numberOfTrailingZeros_0f7a4_26 : decode cJ6_numberOfTrailingZeros_0f7a4 26 = .ok (.iinc 1 16, 3) := by decide +kernel
theorem dJ6_numberOfTrailingZeros_0f7a4_29 : decode cJ6_numberOfTrailingZeros_0f7a4 29 = .ok (.iload_n 0, 1) := by decide +kernel
theorem dJ6_numberOfTrailingZeros_0f7a4_30 : decode cJ6_numberOfTrailingZeros_0f7a4 30 = .ok (.bipush 16, 2) := by decide +kernel
theorem dJ6_numberOfTrailingZeros_0f7a4_32 : decode cJ6_numberOfTrailingZeros_0f7a4 32 = .ok (.iushr, 1) := by decide +kernel
theorem dJ6_numberOfTrailingZeros_0f7a4_33 : decode cJ6_numberOfTrailingZeros_0f7a4 33 = .ok (.istore_n 0, 1) := by decide +kernel
theorem dJ6_numberOfTrailingZeros_0f7a4_34 : decode cJ6_numberOfTrailingZeros_0f7a4 34 = .ok (.iload_n 0, 1) := by decide +kernel
theorem dJ6_numberOfTrailingZeros_0f7a4_35 : decode cJ6_numberOfTrailingZeros_0f7a4 35 = .ok (.sipush 256, 3) := by decide +kernel
theorem dJ6_numberOfTrailingZeros_0f7a4_38 : decode cJ6_numberOfTrailingZeros_0f7a4 38 = .ok (.if_icmp .le 11, 3) := by decide +kernel
theorem dJ6_numberOfTrailingZeros_0f7a4_41 : decode cJ6_numberOfTrailingZeros_0f7a4 41 = .ok (.iinc 1 8, 3) := by decide +kernel
theorem dJ6_numberOfTrailingZeros_0f7a4_44 : decode cJ6_numberOfTrailingZeros_0f7a4 44 = .ok (.iload_n 0, 1) := by decide +kernel
theorem dJ6_numberOfTrailingZeros_0f7a4_45 : decode cJ6_numberOfTrailingZeros_0f7a4 45 = .ok (.bipush 8, 2) := by decide +kernel
theorem dJ6_numberOfTrailingZeros_0f7a4_47 : decode cJ6_numberOfTrailingZeros_0f7a4 47 = .ok (.iushr, 1) := by decide +kernel
theorem dJ6_numberOfTrailingZeros_0f7a4_48 : decode cJ6_numberOfTrailingZeros_0f7a4 48 = .ok (.istore_n 0, 1) := by decide +kernel
theorem dJ6_numberOfTrailingZeros_0f7a4_49 : decode cJ6_numberOfTrailingZeros_0f7a4 49 = .ok (.iload_n 0, 1) := by decide +kernel
theorem dJ6_numberOfTrailingZeros_0f7a4_50 : decode cJ6_numberOfTrailingZeros_0f7a4 50 = .ok (.bipush 16, 2) := by decide +kernel
theorem dJ6_numberOfTrailingZeros_0f7a4_52 : decode cJ6_numberOfTrailingZeros_0f7a4 52 = .ok (.if_icmp .le 10, 3) := by decide +kernel
theorem dJ6_numberOfTrailingZeros_0f7a4_55 : decode cJ6_numberOfTrailingZeros_0f7a4 55 = .ok (.iinc 1 4, 3) := by decide +kernel
theorem dJ6_numberOfTrailingZeros_0f7a4_58 : decode cJ6_numberOfTrailingZeros_0f7a4 58 = .ok (.iload_n 0, 1) := by decide +kernel
theorem dJ6_numberOfTrailingZeros_0f7a4_59 : decode cJ6_numberOfTrailingZeros_0f7a4 59 = .ok (.iconst 4, 1) := by decide +kernel
theorem dJ6_numberOfTrailingZeros_0f7a4_60 : decode cJ6_numberOfTrailingZeros_0f7a4 60 = .ok (.iushr, 1) := by decide +kernel
theorem dJ6_numberOfTrailingZeros_0f7a4_61 : decode cJ6_numberOfTrailingZeros_0f7a4 61 = .ok (.istore_n 0, 1) := by decide +kernel
theorem dJ6_numberOfTrailingZeros_0f7a4_62 : decode cJ6_numberOfTrailingZeros_0f7a4 62 = .ok (.iload_n 0, 1) := by decide +kernel
theorem dJ6_numberOfTrailingZeros_0f7a4_63 : decode cJ6_numberOfTrailingZeros_0f7a4 63 = .ok (.iconst 4, 1) := by decide +kernel
theorem dJ6_numberOfTrailingZeros_0f7a4_64 : decode cJ6_numberOfTrailingZeros_0f7a4 64 = .ok (.if_icmp .le 10, 3) := by decide +kernel
theorem dJ6_numberOfTrailingZeros_0f7a4_67 : decode cJ6_numberOfTrailingZeros_0f7a4 67 = .ok (.iinc 1 2, 3) := by decide +kernel
theorem dJ6_numberOfTrailingZeros_0f7a4_70 : decode cJ6_numberOfTrailingZeros_0f7a4 70 = .ok (.iload_n 0, 1) := by decide +kernel
theorem dJ6_numberOfTrailingZeros_0f7a4_71 : decode cJ6_numberOfTrailingZeros_0f7a4 71 = .ok (.iconst 2, 1) := by decide +kernel
theorem dJ6_numberOfTrailingZeros_0f7a4_72 : decode cJ6_numberOfTrailingZeros_0f7a4 72 = .ok (.iushr, 1) := by decide +kernel
theorem dJ6_numberOfTrailingZeros_0f7a4_73 : decode cJ6_numberOfTrailingZeros_0f7a4 73 = .ok (.istore_n 0, 1) := by decide +kernel
theorem dJ6_numberOfTrailingZeros_0f7a4_74 : decode cJ6_numberOfTrailingZeros_0f7a4 74 = .ok (.iload_n 1, 1) := by decide +kernel
theorem dJ6_numberOfTrailingZeros_0f7a4_75 : decode cJ6_numberOfTrailingZeros_0f7a4 75 = .ok (.iload_n 0, 1) := by decide +kernel
theorem dJ6_numberOfTrailingZeros_0f7a4_76 : decode cJ6_numberOfTrailingZeros_0f7a4 76 = .ok (.iconst 1, 1) := by decide +kernel
theorem dJ6_numberOfTrailingZeros_0f7a4_77 : decode cJ6_numberOfTrailingZeros_0f7a4 77 = .ok (.iushr, 1) := by decide +kernel
theorem dJ6_numberOfTrailingZeros_0f7a4_78 : decode cJ6_numberOfTrailingZeros_0f7a4 78 = .ok (.iadd, 1) := by decide +kernel
theorem dJ6_numberOfTrailingZeros_0f7a4_79 : decode cJ6_numberOfTrailingZeros_0f7a4 79 = .ok (.ireturn, 1) := by decide +kernel
def w_J6_numberOfTrailingZeros_0f7a4_74  (v0 : Int32) (v1 : Int32) (h : AH) (Q : Int32 → AH → Prop) : Prop :=
  Q (v1 + (jushr v0 (1 : Int32))) h
def w_J6_numberOfTrailingZeros_0f7a4_62  (v0 : Int32) (v1 : Int32) (h : AH) (Q : Int32 → AH → Prop) : Prop :=
  br (v0 ≤ (4 : Int32)) (
    w_J6_numberOfTrailingZeros_0f7a4_74 v0 v1 h Q) (
    bd (jushr v0 (2 : Int32)) fun x1 =>
    w_J6_numberOfTrailingZeros_0f7a4_74 x1 (v1 + 2) h Q)
def w_J6_numberOfTrailingZeros_0f7a4_49  (v0 : Int32) (v1 : Int32) (h : AH) (Q : Int32 → AH → Prop) : Prop :=
  br (v0 ≤ (16 : Int32)) (
    w_J6_numberOfTrailingZeros_0f7a4_62 v0 v1 h Q) (
    bd (jushr v0 (4 : Int32)) fun x1 =>
    w_J6_numberOfTrailingZeros_0f7a4_62 x1 (v1 + 4) h Q)
def w_J6_numberOfTrailingZeros_0f7a4_34  (v0 : Int32) (v1 : Int32) (h : AH) (Q : Int32 → AH → Prop) : Prop :=
  br (v0 ≤ (256 : Int32)) (
    w_J6_numberOfTrailingZeros_0f7a4_49 v0 v1 h Q) (
    bd (jushr v0 (8 : Int32)) fun x1 =>
    w_J6_numberOfTrailingZeros_0f7a4_49 x1 (v1 + 8) h Q)
def w_J6_numberOfTrailingZeros_0f7a4  (v0 : Int32) (h : AH) (Q : Int32 → AH → Prop) : Prop :=
  bd ((v0 ^^^ (-1 : Int32)) &&& (v0 - (1 : Int32))) fun x1 =>
  br (0 < x1) (
    br (x1 ≤ (65536 : Int32)) (
      w_J6_numberOfTrailingZeros_0f7a4_34 x1 (1 : Int32) h Q) (
      bd (jushr x1 (16 : Int32)) fun x2 =>
      w_J6_numberOfTrailingZeros_0f7a4_34 x2 ((1 : Int32) + 16) h Q)) (
    Q (x1 &&& (32 : Int32)) h)
set_option maxRecDepth 100000 in
set_option maxHeartbeats 4000000 in
theorem s_J6_numberOfTrailingZeros_0f7a4_74 {p : Program} {l : Launch} {e : Env} {s : State} {m : MethodId} {args : Array Value} {below : List Frame} {meth : Method} {c : Code} {g : GG}  {Q : Int32 → AH → Prop}  (C : CXT p l s m args meth c RJ6 cJ6_numberOfTrailingZeros_0f7a4 2 g) (hr : meth.sig.returnType = (some .int))  : ∀ (v0 : Int32) (v1 : Int32) (h : AH), w_J6_numberOfTrailingZeros_0f7a4_74  v0 v1 h Q → V p l e s m args below meth c g 0 0 0 2 0 0 (MQ below (QCx g (QI Q)) args s 0 0 (gA g)) 74 [(0, .int v0), (1, .int v1)] [] h := by
  intro v0 v1 h hw
  refine v_iload_n C dJ6_numberOfTrailingZeros_0f7a4_74 1 rfl rfl ?_
  refine v_iload_n C dJ6_numberOfTrailingZeros_0f7a4_75 0 rfl rfl ?_
  refine v_iconst (v := 1) C dJ6_numberOfTrailingZeros_0f7a4_76 (by decide) ?_
  refine v_iushr C dJ6_numberOfTrailingZeros_0f7a4_77 ?_
  refine v_iadd C dJ6_numberOfTrailingZeros_0f7a4_78 ?_
  exact (rt_MQ C _).1 _ _ _ _ _ _ hr dJ6_numberOfTrailingZeros_0f7a4_79 (by decide) (by decide) ⟨_, rfl, hw⟩
set_option maxRecDepth 100000 in
set_option maxHeartbeats 4000000 in
theorem s_J6_numberOfTrailingZeros_0f7a4_62 {p : Program} {l : Launch} {e : Env} {s : State} {m : MethodId} {args : Array Value} {below : List Frame} {meth : Method} {c : Code} {g : GG}  {Q : Int32 → AH → Prop}  (C : CXT p l s m args meth c RJ6 cJ6_numberOfTrailingZeros_0f7a4 2 g) (hr : meth.sig.returnType = (some .int))  : ∀ (v0 : Int32) (v1 : Int32) (h : AH), w_J6_numberOfTrailingZeros_0f7a4_62  v0 v1 h Q → V p l e s m args below meth c g 0 0 0 2 0 0 (MQ below (QCx g (QI Q)) args s 0 0 (gA g)) 62 [(0, .int v0), (1, .int v1)] [] h := by
  intro v0 v1 h hw
  refine v_iload_n C dJ6_numberOfTrailingZeros_0f7a4_62 0 rfl rfl ?_
  refine v_iconst (v := 4) C dJ6_numberOfTrailingZeros_0f7a4_63 (by decide) ?_
  refine v_icmp_le (tgt := 74) C dJ6_numberOfTrailingZeros_0f7a4_64 (by decide) (fun c_64 => ?_) (fun c_64 => ?_)
  · have hw := hw.1 c_64
    exact s_J6_numberOfTrailingZeros_0f7a4_74 C hr  _ _ _ hw
  · have hw := hw.2 c_64
    refine v_iinc (v := 2) (ls' := [(1, .int (v1 + 2)), (0, .int v0)]) C dJ6_numberOfTrailingZeros_0f7a4_67 1 rfl (by decide) (by decide) rfl ?_
    refine v_iload_n C dJ6_numberOfTrailingZeros_0f7a4_70 1 rfl rfl ?_
    refine v_iconst (v := 2) C dJ6_numberOfTrailingZeros_0f7a4_71 (by decide) ?_
    refine v_iushr C dJ6_numberOfTrailingZeros_0f7a4_72 ?_
    refine w_bd hw (fun x1 hw => ?_)
    refine v_istore_n (ls' := [(0, .int x1), (1, .int (v1 + 2))]) C dJ6_numberOfTrailingZeros_0f7a4_73 rfl (by decide) rfl ?_
    exact s_J6_numberOfTrailingZeros_0f7a4_74 C hr  _ _ _ hw
set_option maxRecDepth 100000 in
set_option maxHeartbeats 4000000 in
theorem s_J6_numberOfTrailingZeros_0f7a4_49 {p : Program} {l : Launch} {e : Env} {s : State} {m : MethodId} {args : Array Value} {below : List Frame} {meth : Method} {c : Code} {g : GG}  {Q : Int32 → AH → Prop}  (C : CXT p l s m args meth c RJ6 cJ6_numberOfTrailingZeros_0f7a4 2 g) (hr : meth.sig.returnType = (some .int))  : ∀ (v0 : Int32) (v1 : Int32) (h : AH), w_J6_numberOfTrailingZeros_0f7a4_49  v0 v1 h Q → V p l e s m args below meth c g 0 0 0 2 0 0 (MQ below (QCx g (QI Q)) args s 0 0 (gA g)) 49 [(0, .int v0), (1, .int v1)] [] h := by
  intro v0 v1 h hw
  refine v_iload_n C dJ6_numberOfTrailingZeros_0f7a4_49 0 rfl rfl ?_
  refine v_bipush (v := 16) C dJ6_numberOfTrailingZeros_0f7a4_50 (by decide) ?_
  refine v_icmp_le (tgt := 62) C dJ6_numberOfTrailingZeros_0f7a4_52 (by decide) (fun c_52 => ?_) (fun c_52 => ?_)
  · have hw := hw.1 c_52
    exact s_J6_numberOfTrailingZeros_0f7a4_62 C hr  _ _ _ hw
  · have hw := hw.2 c_52
    refine v_iinc (v := 4) (ls' := [(1, .int (v1 + 4)), (0, .int v0)]) C dJ6_numberOfTrailingZeros_0f7a4_55 1 rfl (by decide) (by decide) rfl ?_
    refine v_iload_n C dJ6_numberOfTrailingZeros_0f7a4_58 1 rfl rfl ?_
    refine v_iconst (v := 4) C dJ6_numberOfTrailingZeros_0f7a4_59 (by decide) ?_
    refine v_iushr C dJ6_numberOfTrailingZeros_0f7a4_60 ?_
    refine w_bd hw (fun x1 hw => ?_)
    refine v_istore_n (ls' := [(0, .int x1), (1, .int (v1 + 4))]) C dJ6_numberOfTrailingZeros_0f7a4_61 rfl (by decide) rfl ?_
    exact s_J6_numberOfTrailingZeros_0f7a4_62 C hr  _ _ _ hw
set_option maxRecDepth 100000 in
set_option maxHeartbeats 4000000 in
theorem s_J6_numberOfTrailingZeros_0f7a4_34 {p : Program} {l : Launch} {e : Env} {s : State} {m : MethodId} {args : Array Value} {below : List Frame} {meth : Method} {c : Code} {g : GG}  {Q : Int32 → AH → Prop}  (C : CXT p l s m args meth c RJ6 cJ6_numberOfTrailingZeros_0f7a4 2 g) (hr : meth.sig.returnType = (some .int))  : ∀ (v0 : Int32) (v1 : Int32) (h : AH), w_J6_numberOfTrailingZeros_0f7a4_34  v0 v1 h Q → V p l e s m args below meth c g 0 0 0 2 0 0 (MQ below (QCx g (QI Q)) args s 0 0 (gA g)) 34 [(0, .int v0), (1, .int v1)] [] h := by
  intro v0 v1 h hw
  refine v_iload_n C dJ6_numberOfTrailingZeros_0f7a4_34 0 rfl rfl ?_
  refine v_sipush (v := 256) C dJ6_numberOfTrailingZeros_0f7a4_35 (by decide) ?_
  refine v_icmp_le (tgt := 49) C dJ6_numberOfTrailingZeros_0f7a4_38 (by decide) (fun c_38 => ?_) (fun c_38 => ?_)
  · have hw := hw.1 c_38
    exact s_J6_numberOfTrailingZeros_0f7a4_49 C hr  _ _ _ hw
  · have hw := hw.2 c_38
    refine v_iinc (v := 8) (ls' := [(1, .int (v1 + 8)), (0, .int v0)]) C dJ6_numberOfTrailingZeros_0f7a4_41 1 rfl (by decide) (by decide) rfl ?_
    refine v_iload_n C dJ6_numberOfTrailingZeros_0f7a4_44 1 rfl rfl ?_
    refine v_bipush (v := 8) C dJ6_numberOfTrailingZeros_0f7a4_45 (by decide) ?_
    refine v_iushr C dJ6_numberOfTrailingZeros_0f7a4_47 ?_
    refine w_bd hw (fun x1 hw => ?_)
    refine v_istore_n (ls' := [(0, .int x1), (1, .int (v1 + 8))]) C dJ6_numberOfTrailingZeros_0f7a4_48 rfl (by decide) rfl ?_
    exact s_J6_numberOfTrailingZeros_0f7a4_49 C hr  _ _ _ hw
set_option maxRecDepth 100000 in
set_option maxHeartbeats 4000000 in
theorem s_J6_numberOfTrailingZeros_0f7a4 {l : Launch}  {v0 : Int32} {h : AH} {Q : Int32 → AH → Prop}  (hw : w_J6_numberOfTrailingZeros_0f7a4  v0 h Q) : CT l yJ6_numberOfTrailingZeros_0f7a4 cJ6_numberOfTrailingZeros_0f7a4 2 (some .int) 0 0 0 [.int v0] h (QI Q) := by
  refine CT.of (by decide) ⟨rfl, trivial⟩ (Nat.le_of_ble_eq_true rfl) ?_
  intro p e s m args below meth c g C hr hin
  refine v_eq (pc' := 0) (ls' := [(0, .int v0)]) rfl rfl rfl rfl ?_
  refine v_iload_n C dJ6_numberOfTrailingZeros_0f7a4_0 0 rfl rfl ?_
  refine v_iconst (v := -1) C dJ6_numberOfTrailingZeros_0f7a4_1 (by decide) ?_
  refine v_ixor C dJ6_numberOfTrailingZeros_0f7a4_2 ?_
  refine v_iload_n C dJ6_numberOfTrailingZeros_0f7a4_3 0 rfl rfl ?_
  refine v_iconst (v := 1) C dJ6_numberOfTrailingZeros_0f7a4_4 (by decide) ?_
  refine v_isub C dJ6_numberOfTrailingZeros_0f7a4_5 ?_
  refine v_iand C dJ6_numberOfTrailingZeros_0f7a4_6 ?_
  refine w_bd hw (fun x1 hw => ?_)
  refine v_istore_n (ls' := [(0, .int x1)]) C dJ6_numberOfTrailingZeros_0f7a4_7 rfl (by decide) rfl ?_
  refine v_iload_n C dJ6_numberOfTrailingZeros_0f7a4_8 0 rfl rfl ?_
  refine v_if_gt (tgt := 17) C dJ6_numberOfTrailingZeros_0f7a4_9 (by decide) (fun c_9 => ?_) (fun c_9 => ?_)
  · have hw := hw.1 c_9
    refine v_iconst (v := 1) C dJ6_numberOfTrailingZeros_0f7a4_17 (by decide) ?_
    refine v_istore_n (ls' := [(1, .int (1 : Int32)), (0, .int x1)]) C dJ6_numberOfTrailingZeros_0f7a4_18 rfl (by decide) rfl ?_
    refine v_iload_n C dJ6_numberOfTrailingZeros_0f7a4_19 1 rfl rfl ?_
    refine v_ldcw C dJ6_numberOfTrailingZeros_0f7a4_20 ct_J6_264 ?_
    refine v_icmp_le (tgt := 34) C dJ6_numberOfTrailingZeros_0f7a4_23 (by decide) (fun c_23 => ?_) (fun c_23 => ?_)
    · have hw := hw.1 c_23
      refine v_sub [1, 0] rfl ?_
      exact s_J6_numberOfTrailingZeros_0f7a4_34 C hr  _ _ _ hw
    · have hw := hw.2 c_23
      refine v_iinc (v := 16) (ls' := [(1, .int ((1 : Int32) + 16)), (0, .int x1)]) C dJ6_numberOfTrailingZeros_0f7a4_26 0 rfl (by decide) (by decide) rfl ?_
      refine v_iload_n C dJ6_numberOfTrailingZeros_0f7a4_29 1 rfl rfl ?_
      refine v_bipush (v := 16) C dJ6_numberOfTrailingZeros_0f7a4_30 (by decide) ?_
      refine v_iushr C dJ6_numberOfTrailingZeros_0f7a4_32 ?_
      refine w_bd hw (fun x2 hw => ?_)
      refine v_istore_n (ls' := [(0, .int x2), (1, .int ((1 : Int32) + 16))]) C dJ6_numberOfTrailingZeros_0f7a4_33 rfl (by decide) rfl ?_
      exact s_J6_numberOfTrailingZeros_0f7a4_34 C hr  _ _ _ hw
  · have hw := hw.2 c_9
    refine v_iload_n C dJ6_numberOfTrailingZeros_0f7a4_12 0 rfl rfl ?_
    refine v_bipush (v := 32) C dJ6_numberOfTrailingZeros_0f7a4_13 (by decide) ?_
    refine v_iand C dJ6_numberOfTrailingZeros_0f7a4_15 ?_
    exact (rt_MQ C _).1 _ _ _ _ _ _ hr dJ6_numberOfTrailingZeros_0f7a4_16 (by decide) (by decide) ⟨_, rfl, hw⟩
-- java/lang/Math.floorDiv(II)I
theorem dJ9_floorDiv_7cf53_0 : decode cJ9_floorDiv_7cf53 0 = .ok (.iload_n 0, 1) := by decide +kernel
theorem dJ9_floorDiv_7cf53_1 : decode cJ9_floorDiv_7cf53 1 = .ok (.iload_n 1, 1) := by decide +kernel
theorem dJ9_floorDiv_7cf53_2 : decode cJ9_floorDiv_7cf53 2 = .ok (.idiv, 1) := by decide +kernel
theorem dJ9_floorDiv_7cf53_3 : decode cJ9_floorDiv_7cf53 3 = .ok (.istore_n 2, 1) := by decide +kernel
theorem dJ9_floorDiv_7cf53_4 : decode cJ9_floorDiv_7cf53 4 = .ok (.iload_n 0, 1) := by decide +kernel
theorem dJ9_floorDiv_7cf53_5 : decode cJ9_floorDiv_7cf53 5 = .ok (.iload_n 1, 1) := by decide +kernel
theorem dJ9_floorDiv_7cf53_6 : decode cJ9_floorDiv_7cf53 6 = .ok (.ixor, 1) := by decide +kernel
theorem dJ9_floorDiv_7cf53_7 : decode cJ9_floorDiv_7cf53 7 = .ok (.ifCond .ge 14, 3) := by decide +kernel
theorem dJ9_floorDiv_7cf53_10 : decode cJ9_floorDiv_7cf53 10 = .ok (.iload_n 2, 1) := by decide +kernel
theorem dJ9_floorDiv_7cf53_11 : decode cJ9_floorDiv_7cf53 11 = .ok (.iload_n 1, 1) := by decide +kernel
theorem dJ9_floorDiv_7cf53_12 : decode cJ9_floorDiv_7cf53 12 = .ok (.imul, 1) := by decide +kernel
theorem dJ9_floorDiv_7cf53_13 : decode cJ9_floorDiv_7cf53 13 = .ok (.iload_n 0, 1) := by decide +kernel
theorem dJ9_floorDiv_7cf53_14 : decode cJ9_floorDiv_7cf53 14 = .ok (.if_icmp .eq 7, 3) := by decide +kernel
theorem dJ9_floorDiv_7cf53_17 : decode cJ9_floorDiv_7cf53 17 = .ok (.iload_n 2, 1) := by decide +kernel
theorem dJ9_floorDiv_7cf53_18 : decode cJ9_floorDiv_7cf53 18 = .ok (.iconst 1, 1) := by decide +kernel
theorem dJ9_floorDiv_7cf53_19 : decode cJ9_floorDiv_7cf53 19 = .ok (.isub, 1) := by decide +kernel
theorem dJ9_floorDiv_7cf53_20 : decode cJ9_floorDiv_7cf53 20 = .ok (.ireturn, 1) := by decide +kernel
theorem dJ9_floorDiv_7cf53_21 : decode cJ9_floorDiv_7cf53 21 = .ok (.iload_n 2, 1) := by decide +kernel
theorem dJ9_floorDiv_7cf53_22 : decode cJ9_floorDiv_7cf53 22 = .ok (.ireturn, 1) := by decide +kernel
def w_J9_floorDiv_7cf53_21  (v2 : Int32) (h : AH) (Q : Int32 → AH → Prop) : Prop :=
  Q v2 h
def w_J9_floorDiv_7cf53  (v0 : Int32) (v1 : Int32) (h : AH) (Q : Int32 → AH → Prop) : Prop :=
  dv v1 (
  bd (v0 / v1) fun x1 =>
  br (0 ≤ (v0 ^^^ v1)) (
    w_J9_floorDiv_7cf53_21 x1 h Q) (
    br ((x1 * v1) = v0) (
      w_J9_floorDiv_7cf53_21 x1 h Q) (
      Q (x1 - (1 : Int32)) h)))
set_option maxRecDepth 100000 in
set_option maxHeartbeats 4000000 in
theorem s_J9_floorDiv_7cf53_21 {p : Program} {l : Launch} {e : Env} {s : State} {m : MethodId} {args : Array Value} {below : List Frame} {meth : Method} {c : Code} {g : GG}  {Q : Int32 → AH → Prop}  (C : CXT p l s m args meth c RJ9 cJ9_floorDiv_7cf53 3 g) (hr : meth.sig.returnType = (some .int))  : ∀ (v2 : Int32) (h : AH), w_J9_floorDiv_7cf53_21  v2 h Q → V p l e s m args below meth c g 0 0 0 3 0 0 (MQ below (QCx g (QI Q)) args s 0 0 (gA g)) 21 [(2, .int v2)] [] h := by
  intro v2 h hw
  refine v_iload_n C dJ9_floorDiv_7cf53_21 0 rfl rfl ?_
  exact (rt_MQ C _).1 _ _ _ _ _ _ hr dJ9_floorDiv_7cf53_22 (by decide) (by decide) ⟨_, rfl, hw⟩
set_option maxRecDepth 100000 in
set_option maxHeartbeats 4000000 in
theorem s_J9_floorDiv_7cf53 {l : Launch}  {v0 : Int32} {v1 : Int32} {h : AH} {Q : Int32 → AH → Prop}  (hw : w_J9_floorDiv_7cf53  v0 v1 h Q) : CT l yJ9_floorDiv_7cf53 cJ9_floorDiv_7cf53 3 (some .int) 0 0 0 [.int v0, .int v1] h (QI Q) := by
  refine CT.ofF (by decide +kernel) ⟨rfl, ⟨rfl, trivial⟩⟩ (Nat.le_of_ble_eq_true rfl) ?_
  intro p e s m args below meth c g C hr hin
  refine v_eq (pc' := 0) (ls' := [(0, .int v0), (1, .int v1)]) rfl rfl rfl rfl ?_
  refine v_iload_n C dJ9_floorDiv_7cf53_0 0 rfl rfl ?_
  refine v_iload_n C dJ9_floorDiv_7cf53_1 1 rfl rfl ?_
  refine w_idiv C dJ9_floorDiv_7cf53_2 hw (fun hw => ?_)
  refine w_bd hw (fun x1 hw => ?_)
  refine v_istore_n (ls' := [(2, .int x1), (0, .int v0), (1, .int v1)]) C dJ9_floorDiv_7cf53_3 rfl (by decide) rfl ?_
  refine v_iload_n C dJ9_floorDiv_7cf53_4 1 rfl rfl ?_
  refine v_iload_n C dJ9_floorDiv_7cf53_5 2 rfl rfl ?_
  refine v_ixor C dJ9_floorDiv_7cf53_6 ?_
  refine v_if_ge (tgt := 21) C dJ9_floorDiv_7cf53_7 (by decide) (fun c_7 => ?_) (fun c_7 => ?_)
  · have hw := hw.1 c_7
    refine v_sub [0] rfl ?_
    exact s_J9_floorDiv_7cf53_21 C hr  _ _ hw
  · have hw := hw.2 c_7
    refine v_iload_n C dJ9_floorDiv_7cf53_10 0 rfl rfl ?_
    refine v_iload_n C dJ9_floorDiv_7cf53_11 2 rfl rfl ?_
    refine v_imul C dJ9_floorDiv_7cf53_12 ?_
    refine v_iload_n C dJ9_floorDiv_7cf53_13 1 rfl rfl ?_
    refine v_icmp_eq (tgt := 21) C dJ9_floorDiv_7cf53_14 (by decide) (fun c_14 => ?_) (fun c_14 => ?_)
    · have hw := hw.1 c_14
      refine v_sub [0] rfl ?_
      exact s_J9_floorDiv_7cf53_21 C hr  _ _ hw
    · have hw := hw.2 c_14
      refine v_iload_n C dJ9_floorDiv_7cf53_17 0 rfl rfl ?_
      refine v_iconst (v := 1) C dJ9_floorDiv_7cf53_18 (by decide) ?_
      refine v_isub C dJ9_floorDiv_7cf53_19 ?_
      exact (rt_MQ C _).1 _ _ _ _ _ _ hr dJ9_floorDiv_7cf53_20 (by decide) (by decide) ⟨_, rfl, hw⟩
-- java/lang/String.coder()B
theorem dJ0_coder_7d493_0 : decode cJ0_coder_7d493 0 = .ok (.getstatic 38, 3) := by decide +kernel
theorem dJ0_coder_7d493_3 : decode cJ0_coder_7d493 3 = .ok (.ifCond .eq 10, 3) := by decide +kernel
theorem dJ0_coder_7d493_6 : decode cJ0_coder_7d493 6 = .ok (.aload_n 0, 1) := by decide +kernel
theorem dJ0_coder_7d493_7 : decode cJ0_coder_7d493 7 = .ok (.getfield 15, 3) := by decide +kernel
theorem dJ0_coder_7d493_10 : decode cJ0_coder_7d493 10 = .ok (.goto 4, 3) := by decide +kernel
theorem dJ0_coder_7d493_13 : decode cJ0_coder_7d493 13 = .ok (.iconst 1, 1) := by decide +kernel
theorem dJ0_coder_7d493_14 : decode cJ0_coder_7d493 14 = .ok (.ireturn, 1) := by decide +kernel
def w_J0_coder_7d493_14  (t0 : Int32) (h : AH) (Q : Int32 → AH → Prop) : Prop :=
  zn .byte t0 (Q t0 h)
def w_J0_coder_7d493  (v0 : Nat) (h : AH) (Q : Int32 → AH → Prop) : Prop :=
  br ((1 : Int32) = 0) (
    w_J0_coder_7d493_14 (1 : Int32) h Q) (
    fC h v0 fun x1 =>
    w_J0_coder_7d493_14 x1 h Q)
set_option maxRecDepth 100000 in
set_option maxHeartbeats 4000000 in
theorem s_J0_coder_7d493_14 {p : Program} {l : Launch} {e : Env} {s : State} {m : MethodId} {args : Array Value} {below : List Frame} {meth : Method} {c : Code} {g : GG}  {Q : Int32 → AH → Prop}  (C : CXT p l s m args meth c RJ0 cJ0_coder_7d493 1 g) (hr : meth.sig.returnType = (some .byte))  : ∀ (t0 : Int32) (h : AH), w_J0_coder_7d493_14  t0 h Q → V p l e s m args below meth c g 0 0 0 1 0 0 (MQ below (QCx g (QI Q)) args s 0 0 (gA g)) 14 [] [.int t0] h := by
  intro t0 h hw
  exact (rt_MQ C _).2.1 _ _ _ _ _ _ _ hr hw.1 dJ0_coder_7d493_14 (by decide) (by decide) ⟨_, rfl, hw.2⟩
set_option maxRecDepth 100000 in
set_option maxHeartbeats 4000000 in
theorem s_J0_coder_7d493 {l : Launch}  {v0 : Nat} {h : AH} {Q : Int32 → AH → Prop}  (hw : w_J0_coder_7d493  v0 h Q) : CT l yJ0_coder_7d493 cJ0_coder_7d493 1 (some .byte) 0 0 0 [.ref v0] h (QI Q) := by
  refine CT.of (by decide) ⟨rfl, trivial⟩ (Nat.le_of_ble_eq_true rfl) ?_
  intro p e s m args below meth c g C hr hin
  refine v_eq (pc' := 0) (ls' := [(0, .ref v0)]) rfl rfl rfl rfl ?_
  refine v_compact C (tb4 (List.mem_of_getElem? (i := 61) rfl)) dJ0_coder_7d493_0 ?_
  refine v_if_eq (tgt := 13) C dJ0_coder_7d493_3 (by decide) (fun c_3 => ?_) (fun c_3 => ?_)
  · have hw := hw.1 c_3
    refine v_iconst (v := 1) C dJ0_coder_7d493_13 (by decide) ?_
    refine v_sub [] rfl ?_
    exact s_J0_coder_7d493_14 C hr  _ _ hw
  · have hw := hw.2 c_3
    refine v_aload_n C dJ0_coder_7d493_6 0 rfl rfl ?_
    refine w_getSc C (tb9 (List.mem_of_getElem? (i := 232) rfl)) dJ0_coder_7d493_7 hw (fun x1 hw => ?_)
    refine v_goto (tgt := 14) C dJ0_coder_7d493_10 (by decide) ?_
    refine v_sub [] rfl ?_
    exact s_J0_coder_7d493_14 C hr  _ _ hw
-- java/lang/String.isLatin1()Z
theorem dJ0_isLatin1_aae02_0 : decode cJ0_isLatin1_aae02 0 = .ok (.getstatic 38, 3) := by decide +kernel
theorem dJ0_isLatin1_aae02_3 : decode cJ0_isLatin1_aae02 3 = .ok (.ifCond .eq 14, 3) := by decide +kernel
theorem dJ0_isLatin1_aae02_6 : decode cJ0_isLatin1_aae02 6 = .ok (.aload_n 0, 1) := by decide +kernel
theorem dJ0_isLatin1_aae02_7 : decode cJ0_isLatin1_aae02 7 = .ok (.getfield 15, 3) := by decide +kernel
theorem dJ0_isLatin1_aae02_10 : decode cJ0_isLatin1_aae02 10 = .ok (.ifCond .ne 7, 3) := by decide +kernel
theorem dJ0_isLatin1_aae02_13 : decode cJ0_isLatin1_aae02 13 = .ok (.iconst 1, 1) := by decide +kernel
theorem dJ0_isLatin1_aae02_14 : decode cJ0_isLatin1_aae02 14 = .ok (.goto 4, 3) := by decide +kernel
theorem dJ0_isLatin1_aae02_17 : decode cJ0_isLatin1_aae02 17 = .ok (.iconst 0, 1) := by decide +kernel
theorem dJ0_isLatin1_aae02_18 : decode cJ0_isLatin1_aae02 18 = .ok (.ireturn, 1) := by decide +kernel
def w_J0_isLatin1_aae02_18  (t0 : Int32) (h : AH) (Q : Int32 → AH → Prop) : Prop :=
  z1 t0 (Q t0 h)
def w_J0_isLatin1_aae02_17  (h : AH) (Q : Int32 → AH → Prop) : Prop :=
  w_J0_isLatin1_aae02_18 (0 : Int32) h Q
def w_J0_isLatin1_aae02  (v0 : Nat) (h : AH) (Q : Int32 → AH → Prop) : Prop :=
  br ((1 : Int32) = 0) (
    w_J0_isLatin1_aae02_17  h Q) (
    fC h v0 fun x1 =>
    br (x1 = 0) (
      w_J0_isLatin1_aae02_18 (1 : Int32) h Q) (
      w_J0_isLatin1_aae02_17  h Q))
set_option maxRecDepth 100000 in
set_option maxHeartbeats 4000000 in
theorem s_J0_isLatin1_aae02_18 {p : Program} {l : Launch} {e : Env} {s : State} {m : MethodId} {args : Array Value} {below : List Frame} {meth : Method} {c : Code} {g : GG}  {Q : Int32 → AH → Prop}  (C : CXT p l s m args meth c RJ0 cJ0_isLatin1_aae02 1 g) (hr : meth.sig.returnType = (some .boolean))  : ∀ (t0 : Int32) (h : AH), w_J0_isLatin1_aae02_18  t0 h Q → V p l e s m args below meth c g 0 0 0 1 0 0 (MQ below (QCx g (QI Q)) args s 0 0 (gA g)) 18 [] [.int t0] h := by
  intro t0 h hw
  exact (rt_MQ C _).2.1 _ _ _ _ _ _ _ hr (by rcases hw.1 with z | z <;> rw [z] <;> rfl) dJ0_isLatin1_aae02_18 (by decide) (by decide) ⟨_, rfl, hw.2⟩
set_option maxRecDepth 100000 in
set_option maxHeartbeats 4000000 in
theorem s_J0_isLatin1_aae02_17 {p : Program} {l : Launch} {e : Env} {s : State} {m : MethodId} {args : Array Value} {below : List Frame} {meth : Method} {c : Code} {g : GG}  {Q : Int32 → AH → Prop}  (C : CXT p l s m args meth c RJ0 cJ0_isLatin1_aae02 1 g) (hr : meth.sig.returnType = (some .boolean))  : ∀  (h : AH), w_J0_isLatin1_aae02_17  h Q → V p l e s m args below meth c g 0 0 0 1 0 0 (MQ below (QCx g (QI Q)) args s 0 0 (gA g)) 17 [] [] h := by
  intro  h hw
  refine v_iconst (v := 0) C dJ0_isLatin1_aae02_17 (by decide) ?_
  exact s_J0_isLatin1_aae02_18 C hr  _ _ hw
set_option maxRecDepth 100000 in
set_option maxHeartbeats 4000000 in
theorem s_J0_isLatin1_aae02 {l : Launch}  {v0 : Nat} {h : AH} {Q : Int32 → AH → Prop}  (hw : w_J0_isLatin1_aae02  v0 h Q) : CT l yJ0_isLatin1_aae02 cJ0_isLatin1_aae02 1 (some .boolean) 0 0 0 [.ref v0] h (QI Q) := by
  refine CT.of (by decide) ⟨rfl, trivial⟩ (Nat.le_of_ble_eq_true rfl) ?_
  intro p e s m args below meth c g C hr hin
  refine v_eq (pc' := 0) (ls' := [(0, .ref v0)]) rfl rfl rfl rfl ?_
  refine v_compact C (tb4 (List.mem_of_getElem? (i := 61) rfl)) dJ0_isLatin1_aae02_0 ?_
  refine v_if_eq (tgt := 17) C dJ0_isLatin1_aae02_3 (by decide) (fun c_3 => ?_) (fun c_3 => ?_)
  · have hw := hw.1 c_3
    refine v_sub [] rfl ?_
    exact s_J0_isLatin1_aae02_17 C hr   _ hw
  · have hw := hw.2 c_3
    refine v_aload_n C dJ0_isLatin1_aae02_6 0 rfl rfl ?_
    refine w_getSc C (tb9 (List.mem_of_getElem? (i := 232) rfl)) dJ0_isLatin1_aae02_7 hw (fun x1 hw => ?_)
    refine v_if_ne (tgt := 17) C dJ0_isLatin1_aae02_10 (by decide) (fun c_10 => ?_) (fun c_10 => ?_)
    · have hw := hw.2 c_10
      refine v_sub [] rfl ?_
      exact s_J0_isLatin1_aae02_17 C hr   _ hw
    · have hw := hw.1 c_10
      refine v_iconst (v := 1) C dJ0_isLatin1_aae02_13 (by decide) ?_
      refine v_goto (tgt := 18) C dJ0_isLatin1_aae02_14 (by decide) ?_
      refine v_sub [] rfl ?_
      exact s_J0_isLatin1_aae02_18 C hr  _ _ hw
-- java/lang/String.length()I
theorem dJ0_length_8abf5_0 : decode cJ0_length_8abf5 0 = .ok (.aload_n 0, 1) := by decide +kernel
theorem dJ0_length_8abf5_1 : decode cJ0_length_8abf5 1 = .ok (.getfield 9, 3) := by decide +kernel
theorem dJ0_length_8abf5_4 : decode cJ0_length_8abf5 4 = .ok (.arraylength, 1) := by decide +kernel
theorem dJ0_length_8abf5_5 : decode cJ0_length_8abf5 5 = .ok (.aload_n 0, 1) := by decide +kernel
theorem dJ0_length_8abf5_6 : decode cJ0_length_8abf5 6 = .ok (.invokevirtual 335, 3) := by decide +kernel
theorem dJ0_length_8abf5_9 : decode cJ0_length_8abf5 9 = .ok (.ishr, 1) := by decide +kernel
theorem dJ0_length_8abf5_10 : decode cJ0_length_8abf5 10 = .ok (.ireturn, 1) := by decide +kernel
def w_J0_length_8abf5  (v0 : Nat) (h : AH) (Q : Int32 → AH → Prop) : Prop :=
  fS h v0 fun a1 =>
  lS h a1 fun x2 =>
  vS h v0 (
  w_J0_coder_7d493 v0 h (fun x3 h =>
  Q (x2 >>> (x3 &&& 31)) h))
set_option maxRecDepth 100000 in
set_option maxHeartbeats 4000000 in
theorem s_J0_length_8abf5 {l : Launch}  {v0 : Nat} {h : AH} {Q : Int32 → AH → Prop}  (hw : w_J0_length_8abf5  v0 h Q) : CT l yJ0_length_8abf5 cJ0_length_8abf5 1 (some .int) 1 0 0 [.ref v0] h (QI Q) := by
  refine CT.of (by decide) ⟨rfl, trivial⟩ (Nat.le_of_ble_eq_true rfl) ?_
  intro p e s m args below meth c g C hr hin
  refine v_eq (pc' := 0) (ls' := [(0, .ref v0)]) rfl rfl rfl rfl ?_
  refine v_aload_n C dJ0_length_8abf5_0 0 rfl rfl ?_
  refine w_getSv C (tb9 (List.mem_of_getElem? (i := 231) rfl)) dJ0_length_8abf5_1 hw (fun a1 hw => ?_)
  refine w_alenS C dJ0_length_8abf5_4 hw (fun x2 hw => ?_)
  refine v_aload_n C dJ0_length_8abf5_5 0 rfl rfl ?_
  refine v_callVS (st := [.int x2]) C cl_J0_335 lk_J0_335 im_J0_coder_7d493 se_J0_coder_7d493 hw.1 (s_J0_coder_7d493 hw.2) rfl dJ0_length_8abf5_6 rfl (Nat.le_of_ble_eq_true rfl) (by decide) (by decide) (by decide) (by decide) (fun x3 h hw => ?_)
  refine v_ishr C dJ0_length_8abf5_9 ?_
  exact (rt_MQ C _).1 _ _ _ _ _ _ hr dJ0_length_8abf5_10 (by decide) (by decide) ⟨_, rfl, hw⟩
-- java/util/Arrays.copyOf([II)[I
theorem dJ7_copyOf_59c91_0 : decode cJ7_copyOf_59c91 0 = .ok (.iload_n 1, 1) := by decide +kernel
theorem dJ7_copyOf_59c91_1 : decode cJ7_copyOf_59c91 1 = .ok (.aload_n 0, 1) := by decide +kernel
theorem dJ7_copyOf_59c91_2 : decode cJ7_copyOf_59c91 2 = .ok (.arraylength, 1) := by decide +kernel
theorem dJ7_copyOf_59c91_3 : decode cJ7_copyOf_59c91 3 = .ok (.if_icmp .ne 11, 3) := by decide +kernel
theorem dJ7_copyOf_59c91_6 : decode cJ7_copyOf_59c91 6 = .ok (.aload_n 0, 1) := by decide +kernel
theorem dJ7_copyOf_59c91_7 : decode cJ7_copyOf_59c91 7 = .ok (.invokevirtual 316, 3) := by decide +kernel
theorem dJ7_copyOf_59c91_10 : decode cJ7_copyOf_59c91 10 = .ok (.checkcast 317, 3) := by decide +kernel
theorem dJ7_copyOf_59c91_13 : decode cJ7_copyOf_59c91 13 = .ok (.areturn, 1) := by decide +kernel
theorem dJ7_copyOf_59c91_14 : decode cJ7_copyOf_59c91 14 = .ok (.iload_n 1, 1) := by decide +kernel
theorem dJ7_copyOf_59c91_15 : decode cJ7_copyOf_59c91 15 = .ok (.newarray .int, 2) := by decide +kernel
theorem dJ7_copyOf_59c91_17 : decode cJ7_copyOf_59c91 17 = .ok (.astore_n 2, 1) := by decide +kernel
theorem dJ7_copyOf_59c91_18 : decode cJ7_copyOf_59c91 18 = .ok (.aload_n 0, 1) := by decide +kernel
theorem dJ7_copyOf_59c91_19 : decode cJ7_copyOf_59c91 19 = .ok (.iconst 0, 1) := by decide +kernel
theorem dJ7_copyOf_59c91_20 : decode cJ7_copyOf_59c91 20 = .ok (.aload_n 2, 1) := by decide +kernel
theorem dJ7_copyOf_59c91_21 : decode cJ7_copyOf_59c91 21 = .ok (.iconst 0, 1) := by decide +kernel
theorem dJ7_copyOf_59c91_22 : decode cJ7_copyOf_59c91 22 = .ok (.aload_n 0, 1) := by decide +kernel
theorem dJ7_copyOf_59c91_23 : decode cJ7_copyOf_59c91 23 = .ok (.arraylength, 1) := by decide +kernel
theorem dJ7_copyOf_59c91_24 : decode cJ7_copyOf_59c91 24 = .ok (.iload_n 1, 1) := by decide +kernel
theorem dJ7_copyOf_59c91_25 : decode cJ7_copyOf_59c91 25 = .ok (.invokestatic 304, 3) := by decide +kernel
theorem dJ7_copyOf_59c91_28 : decode cJ7_copyOf_59c91 28 = .ok (.invokestatic 150, 3) := by decide +kernel
theorem dJ7_copyOf_59c91_31 : decode cJ7_copyOf_59c91 31 = .ok (.aload_n 2, 1) := by decide +kernel
theorem dJ7_copyOf_59c91_32 : decode cJ7_copyOf_59c91 32 = .ok (.areturn, 1) := by decide +kernel
def w_J7_copyOf_59c91  (v0 : Nat) (v1 : Int32) (h : AH) (Q : Nat → AH → Prop) : Prop :=
  al h v0 0 fun x1 =>
  br (v1 = x1) (
    wC h v0 401 fun a4 h =>
    (gK h a4 = 20 ∧
    Q a4 h)) (
    wV h v1 401 fun a2 h =>
    al h v0 0 fun x3 =>
    cp h v0 (0 : Int32) a2 (0 : Int32) (jmin x3 v1) fun h =>
    Q a2 h)
set_option maxRecDepth 100000 in
set_option maxHeartbeats 4000000 in
theorem s_J7_copyOf_59c91 {l : Launch}  {v0 : Nat} {v1 : Int32} {h : AH} {Q : Nat → AH → Prop}  (hw : w_J7_copyOf_59c91  v0 v1 h Q) : CT l yJ7_copyOf_59c91 cJ7_copyOf_59c91 3 (some (.array .int)) 1 1 401 [.ref v0, .int v1] h (QR Q) := by
  refine CT.of (by decide) ⟨rfl, ⟨rfl, trivial⟩⟩ (Nat.le_of_ble_eq_true rfl) ?_
  intro p e s m args below meth c g C hr hin
  refine v_eq (pc' := 0) (ls' := [(0, .ref v0), (1, .int v1)]) rfl rfl rfl rfl ?_
  refine v_iload_n C dJ7_copyOf_59c91_0 1 rfl rfl ?_
  refine v_aload_n C dJ7_copyOf_59c91_1 0 rfl rfl ?_
  refine w_alen C 0 (by decide) dJ7_copyOf_59c91_2 hw (fun x1 hw => ?_)
  refine v_icmp_ne (tgt := 14) C dJ7_copyOf_59c91_3 (by decide) (fun c_3 => ?_) (fun c_3 => ?_)
  · have hw := hw.2 c_3
    refine v_iload_n C dJ7_copyOf_59c91_14 1 rfl rfl ?_
    refine w_newaV (N := 401) C (tb1 (List.mem_of_getElem? (i := 77) rfl)) dJ7_copyOf_59c91_15 (by decide) (by decide) (by decide) hw (fun a2 h hw => ?_)
    refine v_astore_n (ls' := [(2, .ref a2), (0, .ref v0), (1, .int v1)]) C dJ7_copyOf_59c91_17 rfl (by decide) rfl ?_
    refine v_aload_n C dJ7_copyOf_59c91_18 1 rfl rfl ?_
    refine v_iconst (v := 0) C dJ7_copyOf_59c91_19 (by decide) ?_
    refine v_aload_n C dJ7_copyOf_59c91_20 0 rfl rfl ?_
    refine v_iconst (v := 0) C dJ7_copyOf_59c91_21 (by decide) ?_
    refine v_aload_n C dJ7_copyOf_59c91_22 1 rfl rfl ?_
    refine w_alen C 0 (by decide) dJ7_copyOf_59c91_23 hw (fun x3 hw => ?_)
    refine v_iload_n C dJ7_copyOf_59c91_24 2 rfl rfl ?_
    refine v_min C ml_J7_304 ms_min mi_math mc_min dJ7_copyOf_59c91_25 (by decide) (Nat.le_of_ble_eq_true rfl) (by decide) (by decide) ?_
    refine w_acopy C ac_J7_150 ac_nat ac_st ac_in dJ7_copyOf_59c91_28 (by decide) (by decide) hw (fun h hw => ?_)
    refine v_aload_n C dJ7_copyOf_59c91_31 0 rfl rfl ?_
    exact (rt_MQ C _).2.2.2 _ _ _ _ _ _ _ hr (Or.inr ⟨_, rfl⟩) dJ7_copyOf_59c91_32 (by decide) (by decide) ⟨_, rfl, hw⟩
  · have hw := hw.1 c_3
    refine v_aload_n C dJ7_copyOf_59c91_6 0 rfl rfl ?_
    refine w_clone (N := 401) C (tb4 (List.mem_of_getElem? (i := 222) rfl)) (tb4 (List.mem_of_getElem? (i := 223) rfl)) (tb4 (List.mem_of_getElem? (i := 224) rfl)) (tb4 (List.mem_of_getElem? (i := 225) rfl)) (tb4 (List.mem_of_getElem? (i := 226) rfl)) (tb4 (List.mem_of_getElem? (i := 227) rfl)) dJ7_copyOf_59c91_7 (by decide) (by decide) (by decide) (by decide) hw (fun a4 h hw => ?_)
    refine v_castA C (tb4 (List.mem_of_getElem? (i := 228) rfl)) dJ7_copyOf_59c91_10 hw.1 ?_
    have hw := hw.2
    exact (rt_MQ C _).2.2.2 _ _ _ _ _ _ _ hr (Or.inr ⟨_, rfl⟩) dJ7_copyOf_59c91_13 (by decide) (by decide) ⟨_, rfl, hw⟩
-- java/util/Arrays.fill([II)V
theorem dJ7_fill_53178_0 : decode cJ7_fill_53178 0 = .ok (.iconst 0, 1) := by decide +kernel
theorem dJ7_fill_53178_1 : decode cJ7_fill_53178 1 = .ok (.istore_n 2, 1) := by decide +kernel
theorem dJ7_fill_53178_2 : decode cJ7_fill_53178 2 = .ok (.aload_n 0, 1) := by decide +kernel
theorem dJ7_fill_53178_3 : decode cJ7_fill_53178 3 = .ok (.arraylength, 1) := by decide +kernel
theorem dJ7_fill_53178_4 : decode cJ7_fill_53178 4 = .ok (.istore_n 3, 1) := by decide +kernel
theorem dJ7_fill_53178_5 : decode cJ7_fill_53178 5 = .ok (.iload_n 2, 1) := by decide +kernel
theorem dJ7_fill_53178_6 : decode cJ7_fill_53178 6 = .ok (.iload_n 3, 1) := by decide +kernel
theorem dJ7_fill_53178_7 : decode cJ7_fill_53178 7 = .ok (.if_icmp .ge 13, 3) := by decide +kernel
theorem dJ7_fill_53178_10 : decode cJ7_fill_53178 10 = .ok (.aload_n 0, 1) := by decide +kernel
theorem dJ7_fill_53178_11 : decode cJ7_fill_53178 11 = .ok (.iload_n 2, 1) := by decide +kernel
theorem dJ7_fill_53178_12 : decode cJ7_fill_53178 12 = .ok (.iload_n 1, 1) := by decide +kernel
theorem dJ7_fill_53178_13 : decode cJ7_fill_53178 13 = .ok (.iastore, 1) := by decide +kernel
theorem dJ7_fill_53178_14 : decode cJ7_fill_53178 14 = .ok (.iinc 2 1, 3) := by decide +kernel
theorem dJ7_fill_53178_17 : decode cJ7_fill_53178 17 = .ok (.goto (-12), 3) := by decide +kernel
theorem dJ7_fill_53178_20 : decode cJ7_fill_53178 20 = .ok (.return_, 1) := by decide +kernel
def w_J7_fill_53178_20  (h : AH) (Q : AH → Prop) : Prop :=
  Q h
def w_J7_fill_53178_5  (x20 : AH → Prop) (k : Int32 → AH → Prop) (v0 : Nat) (v1 : Int32) (v3 : Int32) (v2 : Int32) (h : AH) (Q : AH → Prop) : Prop :=
  br (v3 ≤ v2) (
    x20  h) (
    tI h v0 v2 v1 fun h =>
    k (v2 + 1) h)
def w_J7_fill_53178  (v0 : Nat) (v1 : Int32) (h : AH) (Q : AH → Prop) : Prop :=
  al h v0 0 fun x1 =>
  lp (fun (k2 : Int32 × AH → Prop) (s2 : Int32 × AH) => w_J7_fill_53178_5  (fun  h => w_J7_fill_53178_20  h Q) (fun (y2 : Int32) h => k2 (y2, h)) v0 v1 x1 s2.1 s2.2 Q) ((0 : Int32), h)
set_option maxRecDepth 100000 in
set_option maxHeartbeats 4000000 in
theorem s_J7_fill_53178_20 {p : Program} {l : Launch} {e : Env} {s : State} {m : MethodId} {args : Array Value} {below : List Frame} {meth : Method} {c : Code} {g : GG}  {Q : AH → Prop}  (C : CXT p l s m args meth c RJ7 cJ7_fill_53178 4 g) (hr : meth.sig.returnType = none)  : ∀  (h : AH), w_J7_fill_53178_20  h Q → V p l e s m args below meth c g 0 0 0 4 0 0 (MQ below (QCx g (QV Q)) args s 0 0 (gA g)) 20 [] [] h := by
  intro  h hw
  exact (rt_MQ C _).2.2.1 _ _ _ _ _ hr dJ7_fill_53178_20 (by decide) (by decide) ⟨rfl, hw⟩
set_option maxRecDepth 100000 in
set_option maxHeartbeats 4000000 in
theorem s_J7_fill_53178_5 {p : Program} {l : Launch} {e : Env} {s : State} {m : MethodId} {args : Array Value} {below : List Frame} {meth : Method} {c : Code} {g : GG} {v0 : Nat} {v1 : Int32} {v3 : Int32} {Q : AH → Prop} {x20 : AH → Prop} {k : Int32 → AH → Prop} (C : CXT p l s m args meth c RJ7 cJ7_fill_53178 4 g) (hr : meth.sig.returnType = none) (hx20 : ∀  (h : AH), x20  h → V p l e s m args below meth c g 0 0 0 4 0 0 (MQ below (QCx g (QV Q)) args s 0 0 (gA g)) 20 [] [] h) (hk : ∀ (y2 : Int32) (h : AH), k y2 h → V p l e s m args below meth c g 0 0 0 4 0 0 (MQ below (QCx g (QV Q)) args s 0 0 (gA g)) 5 [(0, .ref v0), (1, .int v1), (2, .int y2), (3, .int v3)] [] h) : ∀ (v2 : Int32) (h : AH), w_J7_fill_53178_5  x20 k v0 v1 v3 v2 h Q → V p l e s m args below meth c g 0 0 0 4 0 0 (MQ below (QCx g (QV Q)) args s 0 0 (gA g)) 5 [(0, .ref v0), (1, .int v1), (2, .int v2), (3, .int v3)] [] h := by
  intro v2 h hw
  refine v_iload_n C dJ7_fill_53178_5 2 rfl rfl ?_
  refine v_iload_n C dJ7_fill_53178_6 3 rfl rfl ?_
  refine v_icmp_ge (tgt := 20) C dJ7_fill_53178_7 (by decide) (fun c_7 => ?_) (fun c_7 => ?_)
  · have hw := hw.1 c_7
    refine v_sub [] rfl ?_
    exact hx20  _ hw
  · have hw := hw.2 c_7
    refine v_aload_n C dJ7_fill_53178_10 0 rfl rfl ?_
    refine v_iload_n C dJ7_fill_53178_11 2 rfl rfl ?_
    refine v_iload_n C dJ7_fill_53178_12 1 rfl rfl ?_
    refine w_iastore C dJ7_fill_53178_13 hw (fun h hw => ?_)
    refine v_iinc (v := 1) (ls' := [(2, .int (v2 + 1)), (0, .ref v0), (1, .int v1), (3, .int v3)]) C dJ7_fill_53178_14 2 rfl (by decide) (by decide) rfl ?_
    refine v_goto (tgt := 5) C dJ7_fill_53178_17 (by decide) ?_
    refine v_sub [1, 2, 0, 3] rfl ?_
    exact hk _ _ hw
set_option maxRecDepth 100000 in
set_option maxHeartbeats 4000000 in
theorem s_J7_fill_53178 {l : Launch}  {v0 : Nat} {v1 : Int32} {h : AH} {Q : AH → Prop}  (hw : w_J7_fill_53178  v0 v1 h Q) : CT l yJ7_fill_53178 cJ7_fill_53178 4 none 0 0 0 [.ref v0, .int v1] h (QV Q) := by
  refine CT.of (by decide) ⟨rfl, ⟨rfl, trivial⟩⟩ (Nat.le_of_ble_eq_true rfl) ?_
  intro p e s m args below meth c g C hr hin
  refine v_eq (pc' := 0) (ls' := [(0, .ref v0), (1, .int v1)]) rfl rfl rfl rfl ?_
  refine v_iconst (v := 0) C dJ7_fill_53178_0 (by decide) ?_
  refine v_istore_n (ls' := [(2, .int (0 : Int32)), (0, .ref v0), (1, .int v1)]) C dJ7_fill_53178_1 rfl (by decide) rfl ?_
  refine v_aload_n C dJ7_fill_53178_2 1 rfl rfl ?_
  refine w_alen C 0 (by decide) dJ7_fill_53178_3 hw (fun x1 hw => ?_)
  refine v_istore_n (ls' := [(3, .int x1), (2, .int (0 : Int32)), (0, .ref v0), (1, .int v1)]) C dJ7_fill_53178_4 rfl (by decide) rfl ?_
  refine v_sub [2, 3, 1, 0] rfl ?_
  refine lp_walk (P := fun (s' : Int32 × AH) => V p l e s m args below meth c g 0 0 0 4 0 0 (MQ below (QCx g (QV Q)) args s 0 0 (gA g)) 5 [(0, .ref v0), (1, .int v1), (2, .int (s'.1)), (3, .int x1)] [] s'.2) (fun k2 hk2 s' hw => ?_) ((0 : Int32), h) hw
  exact s_J7_fill_53178_5 C hr (fun  h hw => s_J7_fill_53178_20 C hr   h hw) (fun y2 h hw => hk2 (y2, h) hw) _ _ hw
