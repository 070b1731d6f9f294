theorem cl_J0_1059 : CLk RJ0 1059 yJ3_checkIndex_8e157 cJ3_checkIndex_8e157 3 (some .int) 3 := ⟨Or.inl (tb4 (List.mem_of_getElem? (i := 79) rfl)), (tb4 (List.mem_of_getElem? (i := 81) rfl)), (tb1 (List.mem_of_getElem? (i := 21) rfl)), by decide +kernel, by decide +kernel, by decide +kernel⟩
theorem st_J3_checkIndex_8e157 : Cond.static yJ3_checkIndex_8e157 ∈ lw_tbl := (tb4 (List.mem_of_getElem? (i := 80) rfl))
theorem dJ3_checkIndex_8e157_0 : decode cJ3_checkIndex_8e157 0 = .ok (.iload_n 0, 1) := by decide +kernel
theorem dJ3_checkIndex_8e157_1 : decode cJ3_checkIndex_8e157 1 = .ok (.ifCond .lt 8, 3) := by decide +kernel
theorem dJ3_checkIndex_8e157_4 : decode cJ3_checkIndex_8e157 4 = .ok (.iload_n 0, 1) := by decide +kernel
theorem dJ3_checkIndex_8e157_5 : decode cJ3_checkIndex_8e157 5 = .ok (.iload_n 1, 1) := by decide +kernel
theorem dJ3_checkIndex_8e157_6 : decode cJ3_checkIndex_8e157 6 = .ok (.if_icmp .lt 10, 3) := by decide +kernel
theorem dJ3_checkIndex_8e157_9 : decode cJ3_checkIndex_8e157 9 = .ok (.aload_n 2, 1) := by decide +kernel
theorem dJ3_checkIndex_8e157_10 : decode cJ3_checkIndex_8e157 10 = .ok (.iload_n 0, 1) := by decide +kernel
theorem dJ3_checkIndex_8e157_11 : decode cJ3_checkIndex_8e157 11 = .ok (.iload_n 1, 1) := by decide +kernel
theorem dJ3_checkIndex_8e157_12 : decode cJ3_checkIndex_8e157 12 = .ok (.invokestatic 95, 3) := by decide +kernel
theorem dJ3_checkIndex_8e157_15 : decode cJ3_checkIndex_8e157 15 = .ok (.athrow, 1) := by decide +kernel
theorem dJ3_checkIndex_8e157_16 : decode cJ3_checkIndex_8e157 16 = .ok (.iload_n 0, 1) := by decide +kernel
theorem dJ3_checkIndex_8e157_17 : decode cJ3_checkIndex_8e157 17 = .ok (.ireturn, 1) := by decide +kernel
theorem dJ0_checkIndex_df160_0 : decode cJ0_checkIndex_df160 0 = .ok (.iload_n 0, 1) := by decide +kernel
theorem dJ0_checkIndex_df160_1 : decode cJ0_checkIndex_df160 1 = .ok (.iload_n 1, 1) := by decide +kernel
theorem dJ0_checkIndex_df160_2 : decode cJ0_checkIndex_df160 2 = .ok (.getstatic 1053, 3) := by decide +kernel
theorem dJ0_checkIndex_df160_5 : decode cJ0_checkIndex_df160 5 = .ok (.invokestatic 1059, 3) := by decide +kernel
theorem dJ0_checkIndex_df160_8 : decode cJ0_checkIndex_df160 8 = .ok (.pop, 1) := by decide +kernel
theorem dJ0_checkIndex_df160_9 : decode cJ0_checkIndex_df160 9 = .ok (.return_, 1) := by decide +kernel
def w_J3_checkIndex_8e157 (v0 v1 : Int32) (h : AH) (Q : Int32 → AH → Prop) : Prop := ¬ v0 < 0 ∧ v0 < v1 ∧ Q v0 h
set_option maxRecDepth 100000 in
theorem s_J3_checkIndex_8e157 {l : Launch} {v0 v1 : Int32} {r : Option Nat} {h : AH} {Q : Int32 → AH → Prop} (hw : w_J3_checkIndex_8e157 v0 v1 h Q) : CT l yJ3_checkIndex_8e157 cJ3_checkIndex_8e157 3 (some .int) 0 0 0 [.int v0, .int v1, va_rf r] h (QI Q) := by
  obtain ⟨h1, h2, hw⟩ := hw
  have key : ∀ v : Value, v.category = 1 → (lg_sl [.int v0, .int v1, v]).length ≤ 3 → lv_args 0 [.int v0, .int v1, v] = [(0, .int v0), (1, .int v1), (2, v)] → CT l yJ3_checkIndex_8e157 cJ3_checkIndex_8e157 3 (some .int) 0 0 0 [.int v0, .int v1, v] h (QI Q) := by
    intro v hv hl ha
    refine CT.of (by decide) ⟨rfl, rfl, hv, trivial⟩ hl ?_
    intro p e s m args below meth c g C hr hin
    refine v_eq (pc' := 0) (ls' := [(0, .int v0), (1, .int v1), (2, v)]) rfl ha rfl rfl ?_
    refine v_iload_n C dJ3_checkIndex_8e157_0 0 rfl rfl ?_
    refine v_if_lt (tgt := 9) C dJ3_checkIndex_8e157_1 (by decide) (fun q => absurd q h1) (fun _ => ?_)
    refine v_iload_n C dJ3_checkIndex_8e157_4 0 rfl rfl ?_
    refine v_iload_n C dJ3_checkIndex_8e157_5 1 rfl rfl ?_
    refine v_icmp_lt (tgt := 16) C dJ3_checkIndex_8e157_6 (by decide) (fun _ => ?_) (fun q => absurd h2 q)
    refine v_iload_n C dJ3_checkIndex_8e157_16 0 rfl rfl ?_
    exact (rt_MQ C _).1 _ _ _ _ _ _ hr dJ3_checkIndex_8e157_17 (by decide) (by decide) ⟨_, rfl, hw⟩
  cases r with
  | none => exact key .null rfl (Nat.le_of_ble_eq_true rfl) rfl
  | some t => exact key (.ref t) rfl (Nat.le_of_ble_eq_true rfl) rfl
def w_J0_checkIndex_df160 (v0 v1 : Int32) (h : AH) (Q : AH → Prop) : Prop := ¬ v0 < 0 ∧ v0 < v1 ∧ Q h
set_option maxRecDepth 100000 in
theorem s_J0_checkIndex_df160 {l : Launch} {v0 v1 : Int32} {h : AH} {Q : AH → Prop} (hw : w_J0_checkIndex_df160 v0 v1 h Q) : CT l yJ0_checkIndex_df160 cJ0_checkIndex_df160 2 none 1 0 0 [.int v0, .int v1] h (QV Q) := by
  obtain ⟨h1, h2, hw⟩ := hw
  refine CT.of (by decide) ⟨rfl, rfl, trivial⟩ (Nat.le_of_ble_eq_true rfl) ?_
  intro p e s m args below meth c g C hr hin
  refine v_eq (pc' := 0) (ls' := [(0, .int v0), (1, .int v1)]) rfl rfl rfl rfl ?_
  refine v_iload_n C dJ0_checkIndex_df160_0 0 rfl rfl ?_
  refine v_iload_n C dJ0_checkIndex_df160_1 1 rfl rfl ?_
  refine v_siob C (tb4 (List.mem_of_getElem? (i := 77) rfl)) dJ0_checkIndex_df160_2 (fun r => ?_)
  refine w_callSi (st := []) (K := fun _ h => Q h) C cl_J0_1059 st_J3_checkIndex_8e157 (s_J3_checkIndex_8e157 (r := r) ⟨h1, h2, hw⟩) rfl dJ0_checkIndex_df160_5 rfl (by decide) (by decide) (by decide) (by decide) (by decide) (fun x h hw => ?_)
  refine v_pop C dJ0_checkIndex_df160_8 rfl ?_
  exact (rt_MQ C _).2.2.1 _ _ _ _ _ hr dJ0_checkIndex_df160_9 (by decide) (by decide) ⟨rfl, hw⟩
