theorem iw_X0 : ∀ w ∈ u_ws RX0 TX0 2, w ∈ lw_tbl := (show ∀ w ∈ ([Cond.laysFinal "GrassField$Fight" "GrassField$Fight" "state" "LGrassField$State;", Cond.laysFinal "GrassField$Fight" "GrassField$Fight" "facts" "[I"] : List Cond), w ∈ lw_tbl from List.forall_mem_cons.mpr ⟨(tb2 (List.mem_of_getElem? (i := 98) rfl)), List.forall_mem_cons.mpr ⟨(tb2 (List.mem_of_getElem? (i := 100) rfl)), fun _ h => nomatch h⟩⟩)
theorem fl_X0_9 : FLk RX0 9 0 1 (RX0, TX0, 2) := ⟨rfl, by decide, iw_X0, Or.inl (tb2 (List.mem_of_getElem? (i := 97) rfl))⟩
theorem fp_X0_9 : FPk RX0 9 0 1 (RX0, TX0, 2) tyX0 2 := ⟨fl_X0_9, nmX0, tyX0_ok, Or.inr (Or.inr ⟨rfl, Or.inr ⟨_, rfl⟩, rfl⟩)⟩
theorem fl_X0_15 : FLk RX0 15 0 0 (RX0, TX0, 2) := ⟨rfl, by decide, iw_X0, Or.inl (tb2 (List.mem_of_getElem? (i := 96) rfl))⟩
theorem fp_X0_15 : FPk RX0 15 0 0 (RX0, TX0, 2) tyX0 2 := ⟨fl_X0_15, nmX0, tyX0_ok, Or.inr (Or.inr ⟨rfl, Or.inl ⟨_, rfl⟩, rfl⟩)⟩
theorem cl_X0_152 : CLk RX0 152 yX3_column cX3_column 1 (some .int) 1 := ⟨Or.inl (tb5 (List.mem_of_getElem? (i := 132) rfl)), (tb3 (List.mem_of_getElem? (i := 0) rfl)), (tb1 (List.mem_of_getElem? (i := 4) rfl)), by decide +kernel, by decide +kernel, by decide +kernel⟩
theorem cl_X0_155 : CLk RX0 155 yX3_row cX3_row 1 (some .int) 1 := ⟨Or.inl (tb5 (List.mem_of_getElem? (i := 133) rfl)), (tb2 (List.mem_of_getElem? (i := 208) rfl)), (tb1 (List.mem_of_getElem? (i := 4) rfl)), by decide +kernel, by decide +kernel, by decide +kernel⟩
theorem cl_X0_158 : CLk RX0 158 yX11_isWithin cX11_isWithin 3 (some .boolean) 3 := ⟨Or.inr ⟨"GrassField", (tb5 (List.mem_of_getElem? (i := 134) rfl))⟩, (tb3 (List.mem_of_getElem? (i := 172) rfl)), (tb1 (List.mem_of_getElem? (i := 1) rfl)), by decide +kernel, by decide +kernel, by decide +kernel⟩
theorem st_X11_isWithin : Cond.static yX11_isWithin ∈ lw_tbl := (tb3 (List.mem_of_getElem? (i := 171) rfl))
theorem fl_X0_25 : FLk RX0 25 7 2 (RX7, TX7, 13) := ⟨rfl, by decide, iw_X7, Or.inr ⟨"GrassField", (tb2 (List.mem_of_getElem? (i := 33) rfl))⟩⟩
theorem fl_X0_58 : FLk RX0 58 4 4 (RX4, TX4, 7) := ⟨rfl, by decide, iw_X4, Or.inr ⟨"GrassField", (tb1 (List.mem_of_getElem? (i := 143) rfl))⟩⟩
theorem ml_X0_67 : Cond.methodLink RX0 67 Lib.Math.max.name ∈ lw_tbl := (tb5 (List.mem_of_getElem? (i := 83) rfl))
theorem fl_X0_109 : FLk RX0 109 4 5 (RX4, TX4, 7) := ⟨rfl, by decide, iw_X4, Or.inr ⟨"GrassField", (tb1 (List.mem_of_getElem? (i := 146) rfl))⟩⟩
theorem fl_X0_112 : FLk RX0 112 7 6 (RX7, TX7, 13) := ⟨rfl, by decide, iw_X7, Or.inr ⟨"GrassField", (tb2 (List.mem_of_getElem? (i := 45) rfl))⟩⟩
theorem fl_X0_115 : FLk RX0 115 7 5 (RX7, TX7, 13) := ⟨rfl, by decide, iw_X7, Or.inr ⟨"GrassField", (tb2 (List.mem_of_getElem? (i := 43) rfl))⟩⟩
theorem cl_X0_119 : CLk RX0 119 yX5_answer cX5_answer 6 (some .int) 1 := ⟨Or.inl (tb5 (List.mem_of_getElem? (i := 93) rfl)), (tb5 (List.mem_of_getElem? (i := 96) rfl)), (tb1 (List.mem_of_getElem? (i := 24) rfl)), by decide +kernel, by decide +kernel, by decide +kernel⟩
theorem ct_X0_145 : Cond.constant RX0 145 (1103515245) ∈ lw_tbl := (tb5 (List.mem_of_getElem? (i := 124) rfl))
theorem fl_X0_146 : FLk RX0 146 7 11 (RX7, TX7, 13) := ⟨rfl, by decide, iw_X7, Or.inr ⟨"GrassField", (tb2 (List.mem_of_getElem? (i := 58) rfl))⟩⟩
theorem fp_X0_146 : FPk RX0 146 7 11 (RX7, TX7, 13) tyX7 0 := ⟨fl_X0_146, nmX7, tyX7_ok, Or.inl ⟨rfl, rfl, rfl⟩⟩
theorem fl_X0_44 : FLk RX0 44 4 3 (RX4, TX4, 7) := ⟨rfl, by decide, iw_X4, Or.inr ⟨"GrassField", (tb1 (List.mem_of_getElem? (i := 140) rfl))⟩⟩
theorem cl_X0_91 : CLk RX0 91 yX3_far cX3_far 4 (some .int) 2 := ⟨Or.inl (tb5 (List.mem_of_getElem? (i := 84) rfl)), (tb2 (List.mem_of_getElem? (i := 231) rfl)), (tb1 (List.mem_of_getElem? (i := 4) rfl)), by decide +kernel, by decide +kernel, by decide +kernel⟩
theorem cl_X0_149 : CLk RX0 149 yX0_besideOf cX0_besideOf 5 (some .int) 2 := ⟨Or.inl (tb5 (List.mem_of_getElem? (i := 129) rfl)), (tb5 (List.mem_of_getElem? (i := 131) rfl)), (tb1 (List.mem_of_getElem? (i := 9) rfl)), by decide +kernel, by decide +kernel, by decide +kernel⟩
theorem st_X0_besideOf : Cond.static yX0_besideOf ∈ lw_tbl := (tb5 (List.mem_of_getElem? (i := 130) rfl))
theorem cl_X0_47 : CLk RX0 47 yX4_nearest cX4_nearest 6 (some .int) 3 := ⟨Or.inl (tb5 (List.mem_of_getElem? (i := 76) rfl)), (tb5 (List.mem_of_getElem? (i := 79) rfl)), (tb1 (List.mem_of_getElem? (i := 6) rfl)), by decide +kernel, by decide +kernel, by decide +kernel⟩
theorem im_X4_nearest : Cond.instanceMethod yX4_nearest ∈ lw_tbl := (tb5 (List.mem_of_getElem? (i := 77) rfl))
theorem se_X4_nearest : Cond.selects RX4 yX4_nearest yX4_nearest ∈ lw_tbl := (tb5 (List.mem_of_getElem? (i := 78) rfl))
theorem cl_X0_51 : CLk RX0 51 yX4_foesNear cX4_foesNear 2 (some .int) 1 := ⟨Or.inl (tb5 (List.mem_of_getElem? (i := 80) rfl)), (tb5 (List.mem_of_getElem? (i := 31) rfl)), (tb1 (List.mem_of_getElem? (i := 6) rfl)), by decide +kernel, by decide +kernel, by decide +kernel⟩
theorem im_X4_foesNear : Cond.instanceMethod yX4_foesNear ∈ lw_tbl := (tb5 (List.mem_of_getElem? (i := 29) rfl))
theorem se_X4_foesNear : Cond.selects RX4 yX4_foesNear yX4_foesNear ∈ lw_tbl := (tb5 (List.mem_of_getElem? (i := 30) rfl))
theorem cl_X0_55 : CLk RX0 55 yX4_friendsNear cX4_friendsNear 2 (some .int) 1 := ⟨Or.inl (tb5 (List.mem_of_getElem? (i := 81) rfl)), (tb5 (List.mem_of_getElem? (i := 44) rfl)), (tb1 (List.mem_of_getElem? (i := 6) rfl)), by decide +kernel, by decide +kernel, by decide +kernel⟩
theorem im_X4_friendsNear : Cond.instanceMethod yX4_friendsNear ∈ lw_tbl := (tb5 (List.mem_of_getElem? (i := 42) rfl))
theorem se_X4_friendsNear : Cond.selects RX4 yX4_friendsNear yX4_friendsNear ∈ lw_tbl := (tb5 (List.mem_of_getElem? (i := 43) rfl))
theorem ml_X0_61 : Cond.methodLink RX0 61 Lib.Math.min.name ∈ lw_tbl := (tb5 (List.mem_of_getElem? (i := 82) rfl))
theorem fl_X0_19 : FLk RX0 19 7 12 (RX7, TX7, 13) := ⟨rfl, by decide, iw_X7, Or.inr ⟨"GrassField", (tb2 (List.mem_of_getElem? (i := 60) rfl))⟩⟩
theorem fl_X0_70 : FLk RX0 70 7 0 (RX7, TX7, 13) := ⟨rfl, by decide, iw_X7, Or.inr ⟨"GrassField", (tb2 (List.mem_of_getElem? (i := 25) rfl))⟩⟩
theorem fl_X0_74 : FLk RX0 74 3 0 (RX3, TX3, 1) := ⟨rfl, by decide, iw_X3, Or.inr ⟨"GrassField", (tb1 (List.mem_of_getElem? (i := 91) rfl))⟩⟩
theorem fl_X0_79 : FLk RX0 79 4 1 (RX4, TX4, 7) := ⟨rfl, by decide, iw_X4, Or.inr ⟨"GrassField", (tb1 (List.mem_of_getElem? (i := 134) rfl))⟩⟩
theorem fl_X0_82 : FLk RX0 82 7 1 (RX7, TX7, 13) := ⟨rfl, by decide, iw_X7, Or.inr ⟨"GrassField", (tb2 (List.mem_of_getElem? (i := 29) rfl))⟩⟩
theorem fl_X0_86 : FLk RX0 86 2 4 (RX2, TX2, 5) := ⟨rfl, by decide, iw_X2, Or.inr ⟨"GrassField", (tb1 (List.mem_of_getElem? (i := 112) rfl))⟩⟩
theorem cl_X0_106 : CLk RX0 106 yX0_calmDown cX0_calmDown 2 none 1 := ⟨Or.inl (tb5 (List.mem_of_getElem? (i := 112) rfl)), (tb5 (List.mem_of_getElem? (i := 115) rfl)), (tb1 (List.mem_of_getElem? (i := 9) rfl)), by decide +kernel, by decide +kernel, by decide +kernel⟩
theorem im_X0_calmDown : Cond.instanceMethod yX0_calmDown ∈ lw_tbl := (tb5 (List.mem_of_getElem? (i := 114) rfl))
theorem se_X0_calmDown : Cond.selects RX0 yX0_calmDown yX0_calmDown ∈ lw_tbl := (tbp3 0 rfl)
theorem fl_X0_125 : FLk RX0 125 7 3 (RX7, TX7, 13) := ⟨rfl, by decide, iw_X7, Or.inr ⟨"GrassField", (tb2 (List.mem_of_getElem? (i := 37) rfl))⟩⟩
theorem fl_X0_129 : FLk RX0 129 2 2 (RX2, TX2, 5) := ⟨rfl, by decide, iw_X2, Or.inr ⟨"GrassField", (tb1 (List.mem_of_getElem? (i := 109) rfl))⟩⟩
theorem cl_X0_132 : CLk RX0 132 yX1_add cX1_add 5 (some .int) 4 := ⟨Or.inl (tb5 (List.mem_of_getElem? (i := 116) rfl)), (tb5 (List.mem_of_getElem? (i := 119) rfl)), (tb1 (List.mem_of_getElem? (i := 7) rfl)), by decide +kernel, by decide +kernel, by decide +kernel⟩
theorem im_X1_add : Cond.instanceMethod yX1_add ∈ lw_tbl := (tb5 (List.mem_of_getElem? (i := 117) rfl))
theorem se_X1_add : Cond.selects RX1 yX1_add yX1_add ∈ lw_tbl := (tb5 (List.mem_of_getElem? (i := 118) rfl))
theorem fl_X0_138 : FLk RX0 138 4 2 (RX4, TX4, 7) := ⟨rfl, by decide, iw_X4, Or.inr ⟨"GrassField", (tb1 (List.mem_of_getElem? (i := 137) rfl))⟩⟩
theorem cl_X0_141 : CLk RX0 141 yX0_draw cX0_draw 1 (some .int) 0 := ⟨Or.inl (tb5 (List.mem_of_getElem? (i := 120) rfl)), (tb5 (List.mem_of_getElem? (i := 123) rfl)), (tb1 (List.mem_of_getElem? (i := 9) rfl)), by decide +kernel, by decide +kernel, by decide +kernel⟩
theorem im_X0_draw : Cond.instanceMethod yX0_draw ∈ lw_tbl := (tb5 (List.mem_of_getElem? (i := 122) rfl))
theorem se_X0_draw : Cond.selects RX0 yX0_draw yX0_draw ∈ lw_tbl := (tbp3 1 rfl)
theorem fl_X0_34 : FLk RX0 34 4 6 (RX4, TX4, 7) := ⟨rfl, by decide, iw_X4, Or.inr ⟨"GrassField", (tb1 (List.mem_of_getElem? (i := 149) rfl))⟩⟩
theorem cl_X0_94 : CLk RX0 94 yX0_choiceOf cX0_choiceOf 3 (some .int) 1 := ⟨Or.inl (tb5 (List.mem_of_getElem? (i := 89) rfl)), (tb5 (List.mem_of_getElem? (i := 92) rfl)), (tb1 (List.mem_of_getElem? (i := 9) rfl)), by decide +kernel, by decide +kernel, by decide +kernel⟩
theorem im_X0_choiceOf : Cond.instanceMethod yX0_choiceOf ∈ lw_tbl := (tb5 (List.mem_of_getElem? (i := 91) rfl))
theorem se_X0_choiceOf : Cond.selects RX0 yX0_choiceOf yX0_choiceOf ∈ lw_tbl := (tbp2 12 rfl)
theorem cl_X0_97 : CLk RX0 97 yX0_shoot cX0_shoot 7 none 1 := ⟨Or.inl (tb5 (List.mem_of_getElem? (i := 108) rfl)), (tb5 (List.mem_of_getElem? (i := 111) rfl)), (tb1 (List.mem_of_getElem? (i := 9) rfl)), by decide +kernel, by decide +kernel, by decide +kernel⟩
theorem im_X0_shoot : Cond.instanceMethod yX0_shoot ∈ lw_tbl := (tb5 (List.mem_of_getElem? (i := 110) rfl))
theorem se_X0_shoot : Cond.selects RX0 yX0_shoot yX0_shoot ∈ lw_tbl := (tbp2 15 rfl)
theorem cl_X0_100 : CLk RX0 100 yX0_flee cX0_flee 7 none 1 := ⟨Or.inl (tb5 (List.mem_of_getElem? (i := 125) rfl)), (tb5 (List.mem_of_getElem? (i := 128) rfl)), (tb1 (List.mem_of_getElem? (i := 9) rfl)), by decide +kernel, by decide +kernel, by decide +kernel⟩
theorem im_X0_flee : Cond.instanceMethod yX0_flee ∈ lw_tbl := (tb5 (List.mem_of_getElem? (i := 127) rfl))
theorem se_X0_flee : Cond.selects RX0 yX0_flee yX0_flee ∈ lw_tbl := (tbp3 2 rfl)
theorem cl_X0_103 : CLk RX0 103 yX0_join cX0_join 8 none 1 := ⟨Or.inl (tb5 (List.mem_of_getElem? (i := 135) rfl)), (tb5 (List.mem_of_getElem? (i := 138) rfl)), (tb1 (List.mem_of_getElem? (i := 9) rfl)), by decide +kernel, by decide +kernel, by decide +kernel⟩
theorem im_X0_join : Cond.instanceMethod yX0_join ∈ lw_tbl := (tb5 (List.mem_of_getElem? (i := 137) rfl))
theorem se_X0_join : Cond.selects RX0 yX0_join yX0_join ∈ lw_tbl := (tbp3 3 rfl)
theorem fl_X0_29 : FLk RX0 29 4 0 (RX4, TX4, 7) := ⟨rfl, by decide, iw_X4, Or.inr ⟨"GrassField", (tb1 (List.mem_of_getElem? (i := 131) rfl))⟩⟩
theorem cl_X0_37 : CLk RX0 37 yX0_gatherFacts cX0_gatherFacts 5 none 1 := ⟨Or.inl (tb5 (List.mem_of_getElem? (i := 72) rfl)), (tb5 (List.mem_of_getElem? (i := 75) rfl)), (tb1 (List.mem_of_getElem? (i := 9) rfl)), by decide +kernel, by decide +kernel, by decide +kernel⟩
theorem im_X0_gatherFacts : Cond.instanceMethod yX0_gatherFacts ∈ lw_tbl := (tb5 (List.mem_of_getElem? (i := 74) rfl))
theorem se_X0_gatherFacts : Cond.selects RX0 yX0_gatherFacts yX0_gatherFacts ∈ lw_tbl := (tbp2 10 rfl)
theorem cl_X0_41 : CLk RX0 41 yX0_takeTurn cX0_takeTurn 2 none 1 := ⟨Or.inl (tb5 (List.mem_of_getElem? (i := 85) rfl)), (tb5 (List.mem_of_getElem? (i := 88) rfl)), (tb1 (List.mem_of_getElem? (i := 9) rfl)), by decide +kernel, by decide +kernel, by decide +kernel⟩
theorem im_X0_takeTurn : Cond.instanceMethod yX0_takeTurn ∈ lw_tbl := (tb5 (List.mem_of_getElem? (i := 87) rfl))
theorem se_X0_takeTurn : Cond.selects RX0 yX0_takeTurn yX0_takeTurn ∈ lw_tbl := (tbp2 11 rfl)
theorem fp_X0_19 : FPk RX0 19 7 12 (RX7, TX7, 13) tyX7 0 := ⟨fl_X0_19, nmX7, tyX7_ok, Or.inl ⟨rfl, rfl, rfl⟩⟩
-- GrassField.isWithin(III)Z
theorem dX11_isWithin_0 : decode cX11_isWithin 0 = .ok (.iload_n 1, 1) := by decide +kernel
theorem dX11_isWithin_1 : decode cX11_isWithin 1 = .ok (.iload_n 0, 1) := by decide +kernel
theorem dX11_isWithin_2 : decode cX11_isWithin 2 = .ok (.if_icmp .gt 12, 3) := by decide +kernel
theorem dX11_isWithin_5 : decode cX11_isWithin 5 = .ok (.iload_n 0, 1) := by decide +kernel
theorem dX11_isWithin_6 : decode cX11_isWithin 6 = .ok (.iload_n 2, 1) := by decide +kernel
theorem dX11_isWithin_7 : decode cX11_isWithin 7 = .ok (.if_icmp .gt 7, 3) := by decide +kernel
theorem dX11_isWithin_10 : decode cX11_isWithin 10 = .ok (.iconst 1, 1) := by decide +kernel
theorem dX11_isWithin_11 : decode cX11_isWithin 11 = .ok (.goto 4, 3) := by decide +kernel
theorem dX11_isWithin_14 : decode cX11_isWithin 14 = .ok (.iconst 0, 1) := by decide +kernel
theorem dX11_isWithin_15 : decode cX11_isWithin 15 = .ok (.ireturn, 1) := by decide +kernel
def w_X11_isWithin_15  (t0 : Int32) (h : AH) (Q : Int32 → AH → Prop) : Prop :=
  z1 t0 (Q t0 h)
def w_X11_isWithin_14  (h : AH) (Q : Int32 → AH → Prop) : Prop :=
  w_X11_isWithin_15 (0 : Int32) h Q
def w_X11_isWithin  (v0 : Int32) (v1 : Int32) (v2 : Int32) (h : AH) (Q : Int32 → AH → Prop) : Prop :=
  br (v0 < v1) (
    w_X11_isWithin_14  h Q) (
    br (v2 < v0) (
      w_X11_isWithin_14  h Q) (
      w_X11_isWithin_15 (1 : Int32) h Q))
set_option maxRecDepth 100000 in
set_option maxHeartbeats 4000000 in
theorem s_X11_isWithin_15 {p : Program} {l : Launch} {e : Env} {s : State} {m : MethodId} {args : Array Value} {below : List Frame} {meth : Method} {c : Code} {g : GG}  {Q : Int32 → AH → Prop}  (C : CXT p l s m args meth c RX11 cX11_isWithin 3 g) (hr : meth.sig.returnType = (some .boolean))  : ∀ (t0 : Int32) (h : AH), w_X11_isWithin_15  t0 h Q → V p l e s m args below meth c g 0 0 0 3 0 0 (MQ below (QCx g (QI Q)) args s 0 0 (gA g)) 15 [] [.int t0] h := by
  intro t0 h hw
  exact (rt_MQ C _).2.1 _ _ _ _ _ _ _ hr (by rcases hw.1 with z | z <;> rw [z] <;> rfl) dX11_isWithin_15 (by decide) (by decide) ⟨_, rfl, hw.2⟩
set_option maxRecDepth 100000 in
set_option maxHeartbeats 4000000 in
theorem s_X11_isWithin_14 {p : Program} {l : Launch} {e : Env} {s : State} {m : MethodId} {args : Array Value} {below : List Frame} {meth : Method} {c : Code} {g : GG}  {Q : Int32 → AH → Prop}  (C : CXT p l s m args meth c RX11 cX11_isWithin 3 g) (hr : meth.sig.returnType = (some .boolean))  : ∀  (h : AH), w_X11_isWithin_14  h Q → V p l e s m args below meth c g 0 0 0 3 0 0 (MQ below (QCx g (QI Q)) args s 0 0 (gA g)) 14 [] [] h := by
  intro  h hw
  refine v_iconst (v := 0) C dX11_isWithin_14 (by decide) ?_
  exact s_X11_isWithin_15 C hr  _ _ hw
set_option maxRecDepth 100000 in
set_option maxHeartbeats 4000000 in
theorem s_X11_isWithin {l : Launch}  {v0 : Int32} {v1 : Int32} {v2 : Int32} {h : AH} {Q : Int32 → AH → Prop}  (hw : w_X11_isWithin  v0 v1 v2 h Q) : CT l yX11_isWithin cX11_isWithin 3 (some .boolean) 0 0 0 [.int v0, .int v1, .int v2] h (QI Q) := by
  refine CT.of (by decide) ⟨rfl, ⟨rfl, ⟨rfl, trivial⟩⟩⟩ (Nat.le_of_ble_eq_true rfl) ?_
  intro p e s m args below meth c g C hr hin
  refine v_eq (pc' := 0) (ls' := [(0, .int v0), (1, .int v1), (2, .int v2)]) rfl rfl rfl rfl ?_
  refine v_iload_n C dX11_isWithin_0 1 rfl rfl ?_
  refine v_iload_n C dX11_isWithin_1 0 rfl rfl ?_
  refine v_icmp_gt (tgt := 14) C dX11_isWithin_2 (by decide) (fun c_2 => ?_) (fun c_2 => ?_)
  · have hw := hw.1 c_2
    refine v_sub [] rfl ?_
    exact s_X11_isWithin_14 C hr   _ hw
  · have hw := hw.2 c_2
    refine v_iload_n C dX11_isWithin_5 0 rfl rfl ?_
    refine v_iload_n C dX11_isWithin_6 2 rfl rfl ?_
    refine v_icmp_gt (tgt := 14) C dX11_isWithin_7 (by decide) (fun c_7 => ?_) (fun c_7 => ?_)
    · have hw := hw.1 c_7
      refine v_sub [] rfl ?_
      exact s_X11_isWithin_14 C hr   _ hw
    · have hw := hw.2 c_7
      refine v_iconst (v := 1) C dX11_isWithin_10 (by decide) ?_
      refine v_goto (tgt := 15) C dX11_isWithin_11 (by decide) ?_
      refine v_sub [] rfl ?_
      exact s_X11_isWithin_15 C hr  _ _ hw
-- GrassField$Fight.<init>(LGrassField$State;)V
theorem dX0_init_0 : decode cX0_init 0 = .ok (.aload_n 0, 1) := by decide +kernel
theorem dX0_init_1 : decode cX0_init 1 = .ok (.invokespecial 3, 3) := by decide +kernel
theorem dX0_init_4 : decode cX0_init 4 = .ok (.aload_n 0, 1) := by decide +kernel
theorem dX0_init_5 : decode cX0_init 5 = .ok (.bipush 9, 2) := by decide +kernel
theorem dX0_init_7 : decode cX0_init 7 = .ok (.newarray .int, 2) := by decide +kernel
theorem dX0_init_9 : decode cX0_init 9 = .ok (.putfield 9, 3) := by decide +kernel
theorem dX0_init_12 : decode cX0_init 12 = .ok (.aload_n 0, 1) := by decide +kernel
theorem dX0_init_13 : decode cX0_init 13 = .ok (.aload_n 1, 1) := by decide +kernel
theorem dX0_init_14 : decode cX0_init 14 = .ok (.putfield 15, 3) := by decide +kernel
theorem dX0_init_17 : decode cX0_init 17 = .ok (.return_, 1) := by decide +kernel
def w_X0_init  (v0 : Nat) (v1 : Nat) (h : AH) (Q : AH → Prop) : Prop :=
  wA h 0 9 fun a1 h =>
  uO h v0 0 1 (some a1) fun h =>
  uO h v0 0 0 (some v1) fun h =>
  Q h
set_option maxRecDepth 100000 in
set_option maxHeartbeats 4000000 in
theorem s_X0_init {l : Launch}  {v0 : Nat} {v1 : Nat} {h : AH} {Q : AH → Prop}  (hw : w_X0_init  v0 v1 h Q) : CT l yX0_init cX0_init 2 none 1 1 9 [.ref v0, .ref v1] h (QV Q) := by
  refine CT.of (by decide) ⟨rfl, ⟨rfl, trivial⟩⟩ (Nat.le_of_ble_eq_true rfl) ?_
  intro p e s m args below meth c g C hr hin
  refine v_eq (pc' := 0) (ls' := [(0, .ref v0), (1, .ref v1)]) rfl rfl rfl rfl ?_
  refine v_aload_n C dX0_init_0 0 rfl rfl ?_
  refine v_objInit C (tb2 (List.mem_of_getElem? (i := 95) rfl)) (tb1 (List.mem_of_getElem? (i := 36) rfl)) (tb1 (List.mem_of_getElem? (i := 37) rfl)) dX0_init_1 (by decide) (by decide) ?_
  refine v_aload_n C dX0_init_4 0 rfl rfl ?_
  refine v_bipush (v := 9) C dX0_init_5 (by decide) ?_
  refine v_newa (atype := .int) (j := 0) (N := 9) C rfl rfl (by decide) rfl rfl (tb1 (List.mem_of_getElem? (i := 77) rfl)) dX0_init_7 (by decide) (by decide) (by decide) (by decide) (by decide) (fun a1 hn => ?_)
  have hw := hw a1 hn
  generalize nA h a1 0 9 = h at hw ⊢
  refine w_putN C fp_X0_9 (Or.inr ⟨hin, rfl, rfl, (tb2 (List.mem_of_getElem? (i := 97) rfl))⟩) dX0_init_9 hw (fun h hw => ?_)
  refine v_aload_n C dX0_init_12 0 rfl rfl ?_
  refine v_aload_n C dX0_init_13 1 rfl rfl ?_
  refine w_putN C fp_X0_15 (Or.inr ⟨hin, rfl, rfl, (tb2 (List.mem_of_getElem? (i := 96) rfl))⟩) dX0_init_14 hw (fun h hw => ?_)
  exact (rt_MQ C _).2.2.1 _ _ _ _ _ hr dX0_init_17 (by decide) (by decide) ⟨rfl, hw⟩
-- GrassField$Fight.besideOf(II)I
theorem dX0_besideOf_0 : decode cX0_besideOf 0 = .ok (.iload_n 0, 1) := by decide +kernel
theorem dX0_besideOf_1 : decode cX0_besideOf 1 = .ok (.invokestatic 152, 3) := by decide +kernel
theorem dX0_besideOf_4 : decode cX0_besideOf 4 = .ok (.iload_n 1, 1) := by decide +kernel
theorem dX0_besideOf_5 : decode cX0_besideOf 5 = .ok (.iconst 3, 1) := by decide +kernel
theorem dX0_besideOf_6 : decode cX0_besideOf 6 = .ok (.irem, 1) := by decide +kernel
theorem dX0_besideOf_7 : decode cX0_besideOf 7 = .ok (.iadd, 1) := by decide +kernel
theorem dX0_besideOf_8 : decode cX0_besideOf 8 = .ok (.iconst 1, 1) := by decide +kernel
theorem dX0_besideOf_9 : decode cX0_besideOf 9 = .ok (.isub, 1) := by decide +kernel
theorem dX0_besideOf_10 : decode cX0_besideOf 10 = .ok (.istore_n 2, 1) := by decide +kernel
theorem dX0_besideOf_11 : decode cX0_besideOf 11 = .ok (.iload_n 0, 1) := by decide +kernel
theorem dX0_besideOf_12 : decode cX0_besideOf 12 = .ok (.invokestatic 155, 3) := by decide +kernel
theorem dX0_besideOf_15 : decode cX0_besideOf 15 = .ok (.iload_n 1, 1) := by decide +kernel
theorem dX0_besideOf_16 : decode cX0_besideOf 16 = .ok (.iconst 3, 1) := by decide +kernel
theorem dX0_besideOf_17 : decode cX0_besideOf 17 = .ok (.idiv, 1) := by decide +kernel
theorem dX0_besideOf_18 : decode cX0_besideOf 18 = .ok (.iadd, 1) := by decide +kernel
theorem dX0_besideOf_19 : decode cX0_besideOf 19 = .ok (.iconst 1, 1) := by decide +kernel
theorem dX0_besideOf_20 : decode cX0_besideOf 20 = .ok (.isub, 1) := by decide +kernel
theorem dX0_besideOf_21 : decode cX0_besideOf 21 = .ok (.istore_n 3, 1) := by decide +kernel
theorem dX0_besideOf_22 : decode cX0_besideOf 22 = .ok (.iload_n 2, 1) := by decide +kernel
theorem dX0_besideOf_23 : decode cX0_besideOf 23 = .ok (.iconst 0, 1) := by decide +kernel
theorem dX0_besideOf_24 : decode cX0_besideOf 24 = .ok (.bipush 15, 2) := by decide +kernel
theorem dX0_besideOf_26 : decode cX0_besideOf 26 = .ok (.invokestatic 158, 3) := by decide +kernel
theorem dX0_besideOf_29 : decode cX0_besideOf 29 = .ok (.ifCond .eq 17, 3) := by decide +kernel
theorem dX0_besideOf_32 : decode cX0_besideOf 32 = .ok (.iload_n 3, 1) := by decide +kernel
theorem dX0_besideOf_33 : decode cX0_besideOf 33 = .ok (.iconst 0, 1) := by decide +kernel
theorem dX0_besideOf_34 : decode cX0_besideOf 34 = .ok (.bipush 15, 2) := by decide +kernel
theorem dX0_besideOf_36 : decode cX0_besideOf 36 = .ok (.invokestatic 158, 3) := by decide +kernel
theorem dX0_besideOf_39 : decode cX0_besideOf 39 = .ok (.ifCond .eq 7, 3) := by decide +kernel
theorem dX0_besideOf_42 : decode cX0_besideOf 42 = .ok (.iconst 1, 1) := by decide +kernel
theorem dX0_besideOf_43 : decode cX0_besideOf 43 = .ok (.goto 4, 3) := by decide +kernel
theorem dX0_besideOf_46 : decode cX0_besideOf 46 = .ok (.iconst 0, 1) := by decide +kernel
theorem dX0_besideOf_47 : decode cX0_besideOf 47 = .ok (.istore 4, 2) := by decide +kernel
theorem dX0_besideOf_49 : decode cX0_besideOf 49 = .ok (.iload 4, 2) := by decide +kernel
theorem dX0_besideOf_51 : decode cX0_besideOf 51 = .ok (.ifCond .eq 12, 3) := by decide +kernel
theorem dX0_besideOf_54 : decode cX0_besideOf 54 = .ok (.bipush 16, 2) := by decide +kernel
theorem dX0_besideOf_56 : decode cX0_besideOf 56 = .ok (.iload_n 3, 1) := by decide +kernel
theorem dX0_besideOf_57 : decode cX0_besideOf 57 = .ok (.imul, 1) := by decide +kernel
theorem dX0_besideOf_58 : decode cX0_besideOf 58 = .ok (.iload_n 2, 1) := by decide +kernel
theorem dX0_besideOf_59 : decode cX0_besideOf 59 = .ok (.iadd, 1) := by decide +kernel
theorem dX0_besideOf_60 : decode cX0_besideOf 60 = .ok (.goto 4, 3) := by decide +kernel
theorem dX0_besideOf_63 : decode cX0_besideOf 63 = .ok (.iconst (-1), 1) := by decide +kernel
theorem dX0_besideOf_64 : decode cX0_besideOf 64 = .ok (.ireturn, 1) := by decide +kernel
def w_X0_besideOf_64  (t0 : Int32) (h : AH) (Q : Int32 → AH → Prop) : Prop :=
  Q t0 h
def w_X0_besideOf_47  (v2 : Int32) (v3 : Int32) (t0 : Int32) (h : AH) (Q : Int32 → AH → Prop) : Prop :=
  br (t0 = 0) (
    w_X0_besideOf_64 (-1 : Int32) h Q) (
    w_X0_besideOf_64 (((16 : Int32) * v3) + v2) h Q)
def w_X0_besideOf_46  (v2 : Int32) (v3 : Int32) (h : AH) (Q : Int32 → AH → Prop) : Prop :=
  w_X0_besideOf_47 v2 v3 (0 : Int32) h Q
def w_X0_besideOf  (v0 : Int32) (v1 : Int32) (h : AH) (Q : Int32 → AH → Prop) : Prop :=
  w_X3_column v0 h (fun x1 h =>
  bd ((x1 + (jrem v1 (3 : Int32))) - (1 : Int32)) fun x2 =>
  w_X3_row v0 h (fun x3 h =>
  bd ((x3 + (v1 / (3 : Int32))) - (1 : Int32)) fun x4 =>
  w_X11_isWithin x2 (0 : Int32) (15 : Int32) h (fun x5 h =>
  br (x5 = 0) (
    w_X0_besideOf_46 x2 x4 h Q) (
    w_X11_isWithin x4 (0 : Int32) (15 : Int32) h (fun x6 h =>
    br (x6 = 0) (
      w_X0_besideOf_46 x2 x4 h Q) (
      w_X0_besideOf_47 x2 x4 (1 : Int32) h Q))))))
set_option maxRecDepth 100000 in
set_option maxHeartbeats 4000000 in
theorem s_X0_besideOf_64 {p : Program} {l : Launch} {e : Env} {s : State} {m : MethodId} {args : Array Value} {below : List Frame} {meth : Method} {c : Code} {g : GG}  {Q : Int32 → AH → Prop}  (C : CXT p l s m args meth c RX0 cX0_besideOf 5 g) (hr : meth.sig.returnType = (some .int))  : ∀ (t0 : Int32) (h : AH), w_X0_besideOf_64  t0 h Q → V p l e s m args below meth c g 1 0 0 5 0 0 (MQ below (QCx g (QI Q)) args s 0 0 (gA g)) 64 [] [.int t0] h := by
  intro t0 h hw
  exact (rt_MQ C _).1 _ _ _ _ _ _ hr dX0_besideOf_64 (by decide) (by decide) ⟨_, rfl, hw⟩
set_option maxRecDepth 100000 in
set_option maxHeartbeats 4000000 in
theorem s_X0_besideOf_47 {p : Program} {l : Launch} {e : Env} {s : State} {m : MethodId} {args : Array Value} {below : List Frame} {meth : Method} {c : Code} {g : GG}  {Q : Int32 → AH → Prop}  (C : CXT p l s m args meth c RX0 cX0_besideOf 5 g) (hr : meth.sig.returnType = (some .int))  : ∀ (v2 : Int32) (v3 : Int32) (t0 : Int32) (h : AH), w_X0_besideOf_47  v2 v3 t0 h Q → V p l e s m args below meth c g 1 0 0 5 0 0 (MQ below (QCx g (QI Q)) args s 0 0 (gA g)) 47 [(2, .int v2), (3, .int v3)] [.int t0] h := by
  intro v2 v3 t0 h hw
  refine v_istore (ls' := [(4, .int t0), (2, .int v2), (3, .int v3)]) C dX0_besideOf_47 (by decide) rfl ?_
  refine v_iload C dX0_besideOf_49 0 rfl ?_
  refine v_if_eq (tgt := 63) C dX0_besideOf_51 (by decide) (fun c_51 => ?_) (fun c_51 => ?_)
  · have hw := hw.1 c_51
    refine v_iconst (v := -1) C dX0_besideOf_63 (by decide) ?_
    refine v_sub [] rfl ?_
    exact s_X0_besideOf_64 C hr  _ _ hw
  · have hw := hw.2 c_51
    refine v_bipush (v := 16) C dX0_besideOf_54 (by decide) ?_
    refine v_iload_n C dX0_besideOf_56 2 rfl rfl ?_
    refine v_imul C dX0_besideOf_57 ?_
    refine v_iload_n C dX0_besideOf_58 1 rfl rfl ?_
    refine v_iadd C dX0_besideOf_59 ?_
    refine v_goto (tgt := 64) C dX0_besideOf_60 (by decide) ?_
    refine v_sub [] rfl ?_
    exact s_X0_besideOf_64 C hr  _ _ hw
set_option maxRecDepth 100000 in
set_option maxHeartbeats 4000000 in
theorem s_X0_besideOf_46 {p : Program} {l : Launch} {e : Env} {s : State} {m : MethodId} {args : Array Value} {below : List Frame} {meth : Method} {c : Code} {g : GG}  {Q : Int32 → AH → Prop}  (C : CXT p l s m args meth c RX0 cX0_besideOf 5 g) (hr : meth.sig.returnType = (some .int))  : ∀ (v2 : Int32) (v3 : Int32) (h : AH), w_X0_besideOf_46  v2 v3 h Q → V p l e s m args below meth c g 1 0 0 5 0 0 (MQ below (QCx g (QI Q)) args s 0 0 (gA g)) 46 [(2, .int v2), (3, .int v3)] [] h := by
  intro v2 v3 h hw
  refine v_iconst (v := 0) C dX0_besideOf_46 (by decide) ?_
  exact s_X0_besideOf_47 C hr  _ _ _ _ hw
set_option maxRecDepth 100000 in
set_option maxHeartbeats 4000000 in
theorem s_X0_besideOf {l : Launch}  {v0 : Int32} {v1 : Int32} {h : AH} {Q : Int32 → AH → Prop}  (hw : w_X0_besideOf  v0 v1 h Q) : CT l yX0_besideOf cX0_besideOf 5 (some .int) 1 0 0 [.int v0, .int v1] h (QI Q) := by
  refine CT.of (by decide) ⟨rfl, ⟨rfl, trivial⟩⟩ (Nat.le_of_ble_eq_true rfl) ?_
  intro p e s m args below meth c g C hr hin
  refine v_eq (pc' := 0) (ls' := [(0, .int v0), (1, .int v1)]) rfl rfl rfl rfl ?_
  refine v_iload_n C dX0_besideOf_0 0 rfl rfl ?_
  refine w_callSi (st := []) C cl_X0_152 st_X3_column (s_X3_column hw) rfl dX0_besideOf_1 rfl (by decide) (by decide) (by decide) (by decide) (by decide) (fun x1 h hw => ?_)
  refine v_iload_n C dX0_besideOf_4 1 rfl rfl ?_
  refine v_iconst (v := 3) C dX0_besideOf_5 (by decide) ?_
  refine v_irem C dX0_besideOf_6 (by decide) ?_
  refine v_iadd C dX0_besideOf_7 ?_
  refine v_iconst (v := 1) C dX0_besideOf_8 (by decide) ?_
  refine v_isub C dX0_besideOf_9 ?_
  refine w_bd hw (fun x2 hw => ?_)
  refine v_istore_n (ls' := [(2, .int x2), (0, .int v0), (1, .int v1)]) C dX0_besideOf_10 rfl (by decide) rfl ?_
  refine v_iload_n C dX0_besideOf_11 1 rfl rfl ?_
  refine w_callSi (st := []) C cl_X0_155 st_X3_row (s_X3_row hw) rfl dX0_besideOf_12 rfl (by decide) (by decide) (by decide) (by decide) (by decide) (fun x3 h hw => ?_)
  refine v_iload_n C dX0_besideOf_15 2 rfl rfl ?_
  refine v_iconst (v := 3) C dX0_besideOf_16 (by decide) ?_
  refine v_idiv C dX0_besideOf_17 (by decide) ?_
  refine v_iadd C dX0_besideOf_18 ?_
  refine v_iconst (v := 1) C dX0_besideOf_19 (by decide) ?_
  refine v_isub C dX0_besideOf_20 ?_
  refine w_bd hw (fun x4 hw => ?_)
  refine v_istore_n (ls' := [(3, .int x4), (2, .int x2), (0, .int v0), (1, .int v1)]) C dX0_besideOf_21 rfl (by decide) rfl ?_
  refine v_iload_n C dX0_besideOf_22 1 rfl rfl ?_
  refine v_iconst (v := 0) C dX0_besideOf_23 (by decide) ?_
  refine v_bipush (v := 15) C dX0_besideOf_24 (by decide) ?_
  refine w_callSi (st := []) C cl_X0_158 st_X11_isWithin (s_X11_isWithin hw) rfl dX0_besideOf_26 rfl (by decide) (by decide) (by decide) (by decide) (by decide) (fun x5 h hw => ?_)
  refine v_if_eq (tgt := 46) C dX0_besideOf_29 (by decide) (fun c_29 => ?_) (fun c_29 => ?_)
  · have hw := hw.1 c_29
    refine v_sub [1, 0] rfl ?_
    exact s_X0_besideOf_46 C hr  _ _ _ hw
  · have hw := hw.2 c_29
    refine v_iload_n C dX0_besideOf_32 0 rfl rfl ?_
    refine v_iconst (v := 0) C dX0_besideOf_33 (by decide) ?_
    refine v_bipush (v := 15) C dX0_besideOf_34 (by decide) ?_
    refine w_callSi (st := []) C cl_X0_158 st_X11_isWithin (s_X11_isWithin hw) rfl dX0_besideOf_36 rfl (by decide) (by decide) (by decide) (by decide) (by decide) (fun x6 h hw => ?_)
    refine v_if_eq (tgt := 46) C dX0_besideOf_39 (by decide) (fun c_39 => ?_) (fun c_39 => ?_)
    · have hw := hw.1 c_39
      refine v_sub [1, 0] rfl ?_
      exact s_X0_besideOf_46 C hr  _ _ _ hw
    · have hw := hw.2 c_39
      refine v_iconst (v := 1) C dX0_besideOf_42 (by decide) ?_
      refine v_goto (tgt := 47) C dX0_besideOf_43 (by decide) ?_
      refine v_sub [1, 0] rfl ?_
      exact s_X0_besideOf_47 C hr  _ _ _ _ hw
-- GrassField$Fight.calmDown(I)V
theorem dX0_calmDown_0 : decode cX0_calmDown 0 = .ok (.aload_n 0, 1) := by decide +kernel
theorem dX0_calmDown_1 : decode cX0_calmDown 1 = .ok (.getfield 15, 3) := by decide +kernel
theorem dX0_calmDown_4 : decode cX0_calmDown 4 = .ok (.getfield 25, 3) := by decide +kernel
theorem dX0_calmDown_7 : decode cX0_calmDown 7 = .ok (.getfield 58, 3) := by decide +kernel
theorem dX0_calmDown_10 : decode cX0_calmDown 10 = .ok (.iload_n 1, 1) := by decide +kernel
theorem dX0_calmDown_11 : decode cX0_calmDown 11 = .ok (.iconst 0, 1) := by decide +kernel
theorem dX0_calmDown_12 : decode cX0_calmDown 12 = .ok (.aload_n 0, 1) := by decide +kernel
theorem dX0_calmDown_13 : decode cX0_calmDown 13 = .ok (.getfield 15, 3) := by decide +kernel
theorem dX0_calmDown_16 : decode cX0_calmDown 16 = .ok (.getfield 25, 3) := by decide +kernel
theorem dX0_calmDown_19 : decode cX0_calmDown 19 = .ok (.getfield 58, 3) := by decide +kernel
theorem dX0_calmDown_22 : decode cX0_calmDown 22 = .ok (.iload_n 1, 1) := by decide +kernel
theorem dX0_calmDown_23 : decode cX0_calmDown 23 = .ok (.iaload, 1) := by decide +kernel
theorem dX0_calmDown_24 : decode cX0_calmDown 24 = .ok (.iconst 1, 1) := by decide +kernel
theorem dX0_calmDown_25 : decode cX0_calmDown 25 = .ok (.isub, 1) := by decide +kernel
theorem dX0_calmDown_26 : decode cX0_calmDown 26 = .ok (.invokestatic 67, 3) := by decide +kernel
theorem dX0_calmDown_29 : decode cX0_calmDown 29 = .ok (.iastore, 1) := by decide +kernel
theorem dX0_calmDown_30 : decode cX0_calmDown 30 = .ok (.return_, 1) := by decide +kernel
def w_X0_calmDown  (v0 : Nat) (v1 : Int32) (h : AH) (Q : AH → Prop) : Prop :=
  fN h v0 0 0 fun a1 =>
  fN h a1 7 2 fun a2 =>
  fN h a2 4 4 fun a3 =>
  fN h v0 0 0 fun a4 =>
  fN h a4 7 2 fun a5 =>
  fN h a5 4 4 fun a6 =>
  aI h a6 v1 fun x7 =>
  tI h a3 v1 (jmax (0 : Int32) (x7 - (1 : Int32))) fun h =>
  Q h
set_option maxRecDepth 100000 in
set_option maxHeartbeats 4000000 in
theorem s_X0_calmDown {l : Launch}  {v0 : Nat} {v1 : Int32} {h : AH} {Q : AH → Prop}  (hw : w_X0_calmDown  v0 v1 h Q) : CT l yX0_calmDown cX0_calmDown 2 none 1 0 0 [.ref v0, .int v1] h (QV Q) := by
  refine CT.of (by decide) ⟨rfl, ⟨rfl, trivial⟩⟩ (Nat.le_of_ble_eq_true rfl) ?_
  intro p e s m args below meth c g C hr hin
  refine v_eq (pc' := 0) (ls' := [(0, .ref v0), (1, .int v1)]) rfl rfl rfl rfl ?_
  refine v_aload_n C dX0_calmDown_0 0 rfl rfl ?_
  refine w_getN C fl_X0_15 dX0_calmDown_1 rfl hw (fun a1 hw => ?_)
  refine w_getN C fl_X0_25 dX0_calmDown_4 rfl hw (fun a2 hw => ?_)
  refine w_getN C fl_X0_58 dX0_calmDown_7 rfl hw (fun a3 hw => ?_)
  refine v_iload_n C dX0_calmDown_10 1 rfl rfl ?_
  refine v_iconst (v := 0) C dX0_calmDown_11 (by decide) ?_
  refine v_aload_n C dX0_calmDown_12 0 rfl rfl ?_
  refine w_getN C fl_X0_15 dX0_calmDown_13 rfl hw (fun a4 hw => ?_)
  refine w_getN C fl_X0_25 dX0_calmDown_16 rfl hw (fun a5 hw => ?_)
  refine w_getN C fl_X0_58 dX0_calmDown_19 rfl hw (fun a6 hw => ?_)
  refine v_iload_n C dX0_calmDown_22 1 rfl rfl ?_
  refine w_iaload C dX0_calmDown_23 hw (fun x7 hw => ?_)
  refine v_iconst (v := 1) C dX0_calmDown_24 (by decide) ?_
  refine v_isub C dX0_calmDown_25 ?_
  refine v_max C ml_X0_67 ms_max mi_math mc_max dX0_calmDown_26 (by decide) (Nat.le_of_ble_eq_true rfl) (by decide) (by decide) ?_
  refine w_iastore C dX0_calmDown_29 hw (fun h hw => ?_)
  exact (rt_MQ C _).2.2.1 _ _ _ _ _ hr dX0_calmDown_30 (by decide) (by decide) ⟨rfl, hw⟩
-- GrassField$Fight.choiceOf(I)I
theorem dX0_choiceOf_0 : decode cX0_choiceOf 0 = .ok (.aload_n 0, 1) := by decide +kernel
theorem dX0_choiceOf_1 : decode cX0_choiceOf 1 = .ok (.getfield 15, 3) := by decide +kernel
theorem dX0_choiceOf_4 : decode cX0_choiceOf 4 = .ok (.getfield 25, 3) := by decide +kernel
theorem dX0_choiceOf_7 : decode cX0_choiceOf 7 = .ok (.getfield 109, 3) := by decide +kernel
theorem dX0_choiceOf_10 : decode cX0_choiceOf 10 = .ok (.iload_n 1, 1) := by decide +kernel
theorem dX0_choiceOf_11 : decode cX0_choiceOf 11 = .ok (.iaload, 1) := by decide +kernel
theorem dX0_choiceOf_12 : decode cX0_choiceOf 12 = .ok (.istore_n 2, 1) := by decide +kernel
theorem dX0_choiceOf_13 : decode cX0_choiceOf 13 = .ok (.iload_n 2, 1) := by decide +kernel
theorem dX0_choiceOf_14 : decode cX0_choiceOf 14 = .ok (.ifCond .lt 26, 3) := by decide +kernel
theorem dX0_choiceOf_17 : decode cX0_choiceOf 17 = .ok (.iload_n 2, 1) := by decide +kernel
theorem dX0_choiceOf_18 : decode cX0_choiceOf 18 = .ok (.aload_n 0, 1) := by decide +kernel
theorem dX0_choiceOf_19 : decode cX0_choiceOf 19 = .ok (.getfield 15, 3) := by decide +kernel
theorem dX0_choiceOf_22 : decode cX0_choiceOf 22 = .ok (.getfield 112, 3) := by decide +kernel
theorem dX0_choiceOf_25 : decode cX0_choiceOf 25 = .ok (.if_icmp .ge 15, 3) := by decide +kernel
theorem dX0_choiceOf_28 : decode cX0_choiceOf 28 = .ok (.aload_n 0, 1) := by decide +kernel
theorem dX0_choiceOf_29 : decode cX0_choiceOf 29 = .ok (.getfield 15, 3) := by decide +kernel
theorem dX0_choiceOf_32 : decode cX0_choiceOf 32 = .ok (.getfield 115, 3) := by decide +kernel
theorem dX0_choiceOf_35 : decode cX0_choiceOf 35 = .ok (.iload_n 2, 1) := by decide +kernel
theorem dX0_choiceOf_36 : decode cX0_choiceOf 36 = .ok (.aaload, 1) := by decide +kernel
theorem dX0_choiceOf_37 : decode cX0_choiceOf 37 = .ok (.ifnonnull 5, 3) := by decide +kernel
theorem dX0_choiceOf_40 : decode cX0_choiceOf 40 = .ok (.iconst 4, 1) := by decide +kernel
theorem dX0_choiceOf_41 : decode cX0_choiceOf 41 = .ok (.ireturn, 1) := by decide +kernel
theorem dX0_choiceOf_42 : decode cX0_choiceOf 42 = .ok (.aload_n 0, 1) := by decide +kernel
theorem dX0_choiceOf_43 : decode cX0_choiceOf 43 = .ok (.getfield 15, 3) := by decide +kernel
theorem dX0_choiceOf_46 : decode cX0_choiceOf 46 = .ok (.getfield 115, 3) := by decide +kernel
theorem dX0_choiceOf_49 : decode cX0_choiceOf 49 = .ok (.iload_n 2, 1) := by decide +kernel
theorem dX0_choiceOf_50 : decode cX0_choiceOf 50 = .ok (.aaload, 1) := by decide +kernel
theorem dX0_choiceOf_51 : decode cX0_choiceOf 51 = .ok (.aload_n 0, 1) := by decide +kernel
theorem dX0_choiceOf_52 : decode cX0_choiceOf 52 = .ok (.getfield 9, 3) := by decide +kernel
theorem dX0_choiceOf_55 : decode cX0_choiceOf 55 = .ok (.invokevirtual 119, 3) := by decide +kernel
theorem dX0_choiceOf_58 : decode cX0_choiceOf 58 = .ok (.ireturn, 1) := by decide +kernel
def w_X0_choiceOf_40  (h : AH) (Q : Int32 → AH → Prop) : Prop :=
  Q (4 : Int32) h
def w_X0_choiceOf  (v0 : Nat) (v1 : Int32) (h : AH) (Q : Int32 → AH → Prop) : Prop :=
  fN h v0 0 0 fun a1 =>
  fN h a1 7 2 fun a2 =>
  fN h a2 4 5 fun a3 =>
  aI h a3 v1 fun x4 =>
  br (x4 < 0) (
    w_X0_choiceOf_40  h Q) (
    fN h v0 0 0 fun a5 =>
    fI h a5 7 6 fun x6 =>
    br (x6 ≤ x4) (
      w_X0_choiceOf_40  h Q) (
      fN h v0 0 0 fun a7 =>
      fN h a7 7 5 fun a8 =>
      aO h a8 x4 fun r9 =>
      br (r9 = none) (
        w_X0_choiceOf_40  h Q) (
        fN h v0 0 0 fun a10 =>
        fN h a10 7 5 fun a11 =>
        aO h a11 x4 fun r12 =>
        nn r12 fun a13 =>
        fN h v0 0 1 fun a14 =>
        vr h a13 5 (
        w_X5_answer a13 a14 h (fun x15 h =>
        Q x15 h)))))
set_option maxRecDepth 100000 in
set_option maxHeartbeats 4000000 in
theorem s_X0_choiceOf_40 {p : Program} {l : Launch} {e : Env} {s : State} {m : MethodId} {args : Array Value} {below : List Frame} {meth : Method} {c : Code} {g : GG}  {Q : Int32 → AH → Prop}  (C : CXT p l s m args meth c RX0 cX0_choiceOf 3 g) (hr : meth.sig.returnType = (some .int))  : ∀  (h : AH), w_X0_choiceOf_40  h Q → V p l e s m args below meth c g 2 0 0 3 0 0 (MQ below (QCx g (QI Q)) args s 0 0 (gA g)) 40 [] [] h := by
  intro  h hw
  refine v_iconst (v := 4) C dX0_choiceOf_40 (by decide) ?_
  exact (rt_MQ C _).1 _ _ _ _ _ _ hr dX0_choiceOf_41 (by decide) (by decide) ⟨_, rfl, hw⟩
set_option maxRecDepth 100000 in
set_option maxHeartbeats 4000000 in
theorem s_X0_choiceOf {l : Launch}  {v0 : Nat} {v1 : Int32} {h : AH} {Q : Int32 → AH → Prop}  (hw : w_X0_choiceOf  v0 v1 h Q) : CT l yX0_choiceOf cX0_choiceOf 3 (some .int) 2 0 0 [.ref v0, .int v1] h (QI Q) := by
  refine CT.of (by decide) ⟨rfl, ⟨rfl, trivial⟩⟩ (Nat.le_of_ble_eq_true rfl) ?_
  intro p e s m args below meth c g C hr hin
  refine v_eq (pc' := 0) (ls' := [(0, .ref v0), (1, .int v1)]) rfl rfl rfl rfl ?_
  refine v_aload_n C dX0_choiceOf_0 0 rfl rfl ?_
  refine w_getN C fl_X0_15 dX0_choiceOf_1 rfl hw (fun a1 hw => ?_)
  refine w_getN C fl_X0_25 dX0_choiceOf_4 rfl hw (fun a2 hw => ?_)
  refine w_getN C fl_X0_109 dX0_choiceOf_7 rfl hw (fun a3 hw => ?_)
  refine v_iload_n C dX0_choiceOf_10 1 rfl rfl ?_
  refine w_iaload C dX0_choiceOf_11 hw (fun x4 hw => ?_)
  refine v_istore_n (ls' := [(2, .int x4), (0, .ref v0), (1, .int v1)]) C dX0_choiceOf_12 rfl (by decide) rfl ?_
  refine v_iload_n C dX0_choiceOf_13 0 rfl rfl ?_
  refine v_if_lt (tgt := 40) C dX0_choiceOf_14 (by decide) (fun c_14 => ?_) (fun c_14 => ?_)
  · have hw := hw.1 c_14
    refine v_sub [] rfl ?_
    exact s_X0_choiceOf_40 C hr   _ hw
  · have hw := hw.2 c_14
    refine v_iload_n C dX0_choiceOf_17 0 rfl rfl ?_
    refine v_aload_n C dX0_choiceOf_18 1 rfl rfl ?_
    refine w_getN C fl_X0_15 dX0_choiceOf_19 rfl hw (fun a5 hw => ?_)
    refine w_getI C fl_X0_112 dX0_choiceOf_22 rfl hw (fun x6 hw => ?_)
    refine v_icmp_ge (tgt := 40) C dX0_choiceOf_25 (by decide) (fun c_25 => ?_) (fun c_25 => ?_)
    · have hw := hw.1 c_25
      refine v_sub [] rfl ?_
      exact s_X0_choiceOf_40 C hr   _ hw
    · have hw := hw.2 c_25
      refine v_aload_n C dX0_choiceOf_28 1 rfl rfl ?_
      refine w_getN C fl_X0_15 dX0_choiceOf_29 rfl hw (fun a7 hw => ?_)
      refine w_getN C fl_X0_115 dX0_choiceOf_32 rfl hw (fun a8 hw => ?_)
      refine v_iload_n C dX0_choiceOf_35 0 rfl rfl ?_
      refine w_aaload C dX0_choiceOf_36 hw (fun r9 hw => ?_)
      refine v_ifnonnull (tgt := 42) C dX0_choiceOf_37 (by decide) (fun a_37 c_37 => ?_) (fun c_37 => ?_)
      · have hw := hw.2 (by rw [c_37]; exact fun z => nomatch z)
        refine v_aload_n C dX0_choiceOf_42 1 rfl rfl ?_
        refine w_getN C fl_X0_15 dX0_choiceOf_43 rfl hw (fun a10 hw => ?_)
        refine w_getN C fl_X0_115 dX0_choiceOf_46 rfl hw (fun a11 hw => ?_)
        refine v_iload_n C dX0_choiceOf_49 0 rfl rfl ?_
        refine w_aaload C dX0_choiceOf_50 hw (fun r12 hw => ?_)
        refine w_nn hw (fun a13 hw => ?_)
        refine v_aload_n C dX0_choiceOf_51 1 rfl rfl ?_
        refine w_getN C fl_X0_9 dX0_choiceOf_52 rfl hw (fun a14 hw => ?_)
        refine w_callVi (st := []) C cl_X0_119 im_X5_answer se_X5_answer rfl hw.1 (s_X5_answer hw.2) rfl dX0_choiceOf_55 rfl (by decide) (by decide) (by decide) (by decide) (by decide) (fun x15 h hw => ?_)
        exact (rt_MQ C _).1 _ _ _ _ _ _ hr dX0_choiceOf_58 (by decide) (by decide) ⟨_, rfl, hw⟩
      · have hw := hw.1 c_37
        refine v_sub [] rfl ?_
        exact s_X0_choiceOf_40 C hr   _ hw
-- GrassField$Fight.draw()I
theorem dX0_draw_0 : decode cX0_draw 0 = .ok (.aload_n 0, 1) := by decide +kernel
theorem dX0_draw_1 : decode cX0_draw 1 = .ok (.getfield 15, 3) := by decide +kernel
theorem dX0_draw_4 : decode cX0_draw 4 = .ok (.ldc 145, 2) := by decide +kernel
theorem dX0_draw_6 : decode cX0_draw 6 = .ok (.aload_n 0, 1) := by decide +kernel
theorem dX0_draw_7 : decode cX0_draw 7 = .ok (.getfield 15, 3) := by decide +kernel
theorem dX0_draw_10 : decode cX0_draw 10 = .ok (.getfield 146, 3) := by decide +kernel
theorem dX0_draw_13 : decode cX0_draw 13 = .ok (.imul, 1) := by decide +kernel
theorem dX0_draw_14 : decode cX0_draw 14 = .ok (.sipush 12345, 3) := by decide +kernel
theorem dX0_draw_17 : decode cX0_draw 17 = .ok (.iadd, 1) := by decide +kernel
theorem dX0_draw_18 : decode cX0_draw 18 = .ok (.putfield 146, 3) := by decide +kernel
theorem dX0_draw_21 : decode cX0_draw 21 = .ok (.aload_n 0, 1) := by decide +kernel
theorem dX0_draw_22 : decode cX0_draw 22 = .ok (.getfield 15, 3) := by decide +kernel
theorem dX0_draw_25 : decode cX0_draw 25 = .ok (.getfield 146, 3) := by decide +kernel
theorem dX0_draw_28 : decode cX0_draw 28 = .ok (.bipush 16, 2) := by decide +kernel
theorem dX0_draw_30 : decode cX0_draw 30 = .ok (.ishr, 1) := by decide +kernel
theorem dX0_draw_31 : decode cX0_draw 31 = .ok (.sipush 32767, 3) := by decide +kernel
theorem dX0_draw_34 : decode cX0_draw 34 = .ok (.iand, 1) := by decide +kernel
theorem dX0_draw_35 : decode cX0_draw 35 = .ok (.ireturn, 1) := by decide +kernel
def w_X0_draw  (v0 : Nat) (h : AH) (Q : Int32 → AH → Prop) : Prop :=
  fN h v0 0 0 fun a1 =>
  fN h v0 0 0 fun a2 =>
  fI h a2 7 11 fun x3 =>
  uI h a1 7 11 (((1103515245 : Int32) * x3) + (12345 : Int32)) fun h =>
  fN h v0 0 0 fun a4 =>
  fI h a4 7 11 fun x5 =>
  Q ((x5 >>> ((16 : Int32) &&& 31)) &&& (32767 : Int32)) h
set_option maxRecDepth 100000 in
set_option maxHeartbeats 4000000 in
theorem s_X0_draw {l : Launch}  {v0 : Nat} {h : AH} {Q : Int32 → AH → Prop}  (hw : w_X0_draw  v0 h Q) : CT l yX0_draw cX0_draw 1 (some .int) 0 0 0 [.ref v0] h (QI Q) := by
  refine CT.of (by decide) ⟨rfl, trivial⟩ (Nat.le_of_ble_eq_true rfl) ?_
  intro p e s m args below meth c g C hr hin
  refine v_eq (pc' := 0) (ls' := [(0, .ref v0)]) rfl rfl rfl rfl ?_
  refine v_aload_n C dX0_draw_0 0 rfl rfl ?_
  refine w_getN C fl_X0_15 dX0_draw_1 rfl hw (fun a1 hw => ?_)
  refine v_ldc C dX0_draw_4 ct_X0_145 ?_
  refine v_aload_n C dX0_draw_6 0 rfl rfl ?_
  refine w_getN C fl_X0_15 dX0_draw_7 rfl hw (fun a2 hw => ?_)
  refine w_getI C fl_X0_146 dX0_draw_10 rfl hw (fun x3 hw => ?_)
  refine v_imul C dX0_draw_13 ?_
  refine v_sipush (v := 12345) C dX0_draw_14 (by decide) ?_
  refine v_iadd C dX0_draw_17 ?_
  refine w_putI C fp_X0_146 (Or.inl rfl) dX0_draw_18 hw (fun h hw => ?_)
  refine v_aload_n C dX0_draw_21 0 rfl rfl ?_
  refine w_getN C fl_X0_15 dX0_draw_22 rfl hw (fun a4 hw => ?_)
  refine w_getI C fl_X0_146 dX0_draw_25 rfl hw (fun x5 hw => ?_)
  refine v_bipush (v := 16) C dX0_draw_28 (by decide) ?_
  refine v_ishr C dX0_draw_30 ?_
  refine v_sipush (v := 32767) C dX0_draw_31 (by decide) ?_
  refine v_iand C dX0_draw_34 ?_
  exact (rt_MQ C _).1 _ _ _ _ _ _ hr dX0_draw_35 (by decide) (by decide) ⟨_, rfl, hw⟩
-- GrassField$Fight.flee(I)V
theorem dX0_flee_0 : decode cX0_flee 0 = .ok (.iconst (-1), 1) := by decide +kernel
theorem dX0_flee_1 : decode cX0_flee 1 = .ok (.istore_n 2, 1) := by decide +kernel
theorem dX0_flee_2 : decode cX0_flee 2 = .ok (.iconst (-1), 1) := by decide +kernel
theorem dX0_flee_3 : decode cX0_flee 3 = .ok (.istore_n 3, 1) := by decide +kernel
theorem dX0_flee_4 : decode cX0_flee 4 = .ok (.iconst 0, 1) := by decide +kernel
theorem dX0_flee_5 : decode cX0_flee 5 = .ok (.istore 4, 2) := by decide +kernel
theorem dX0_flee_7 : decode cX0_flee 7 = .ok (.iload 4, 2) := by decide +kernel
theorem dX0_flee_9 : decode cX0_flee 9 = .ok (.bipush 9, 2) := by decide +kernel
theorem dX0_flee_11 : decode cX0_flee 11 = .ok (.if_icmp .ge 104, 3) := by decide +kernel
theorem dX0_flee_14 : decode cX0_flee 14 = .ok (.aload_n 0, 1) := by decide +kernel
theorem dX0_flee_15 : decode cX0_flee 15 = .ok (.getfield 15, 3) := by decide +kernel
theorem dX0_flee_18 : decode cX0_flee 18 = .ok (.getfield 25, 3) := by decide +kernel
theorem dX0_flee_21 : decode cX0_flee 21 = .ok (.getfield 44, 3) := by decide +kernel
theorem dX0_flee_24 : decode cX0_flee 24 = .ok (.iload_n 1, 1) := by decide +kernel
theorem dX0_flee_25 : decode cX0_flee 25 = .ok (.iaload, 1) := by decide +kernel
theorem dX0_flee_26 : decode cX0_flee 26 = .ok (.iload 4, 2) := by decide +kernel
theorem dX0_flee_28 : decode cX0_flee 28 = .ok (.invokestatic 149, 3) := by decide +kernel
theorem dX0_flee_31 : decode cX0_flee 31 = .ok (.istore 5, 2) := by decide +kernel
theorem dX0_flee_33 : decode cX0_flee 33 = .ok (.iload 5, 2) := by decide +kernel
theorem dX0_flee_35 : decode cX0_flee 35 = .ok (.iconst (-1), 1) := by decide +kernel
theorem dX0_flee_36 : decode cX0_flee 36 = .ok (.if_icmp .ne 7, 3) := by decide +kernel
theorem dX0_flee_39 : decode cX0_flee 39 = .ok (.iconst (-1), 1) := by decide +kernel
theorem dX0_flee_40 : decode cX0_flee 40 = .ok (.goto 17, 3) := by decide +kernel
theorem dX0_flee_43 : decode cX0_flee 43 = .ok (.aload_n 0, 1) := by decide +kernel
theorem dX0_flee_44 : decode cX0_flee 44 = .ok (.getfield 15, 3) := by decide +kernel
theorem dX0_flee_47 : decode cX0_flee 47 = .ok (.getfield 25, 3) := by decide +kernel
theorem dX0_flee_50 : decode cX0_flee 50 = .ok (.iload_n 1, 1) := by decide +kernel
theorem dX0_flee_51 : decode cX0_flee 51 = .ok (.iload 5, 2) := by decide +kernel
theorem dX0_flee_53 : decode cX0_flee 53 = .ok (.iconst 1, 1) := by decide +kernel
theorem dX0_flee_54 : decode cX0_flee 54 = .ok (.invokevirtual 47, 3) := by decide +kernel
theorem dX0_flee_57 : decode cX0_flee 57 = .ok (.istore 6, 2) := by decide +kernel
theorem dX0_flee_59 : decode cX0_flee 59 = .ok (.iload 6, 2) := by decide +kernel
theorem dX0_flee_61 : decode cX0_flee 61 = .ok (.iconst (-1), 1) := by decide +kernel
theorem dX0_flee_62 : decode cX0_flee 62 = .ok (.if_icmp .eq 47, 3) := by decide +kernel
theorem dX0_flee_65 : decode cX0_flee 65 = .ok (.iload 5, 2) := by decide +kernel
theorem dX0_flee_67 : decode cX0_flee 67 = .ok (.aload_n 0, 1) := by decide +kernel
theorem dX0_flee_68 : decode cX0_flee 68 = .ok (.getfield 15, 3) := by decide +kernel
theorem dX0_flee_71 : decode cX0_flee 71 = .ok (.getfield 25, 3) := by decide +kernel
theorem dX0_flee_74 : decode cX0_flee 74 = .ok (.getfield 44, 3) := by decide +kernel
theorem dX0_flee_77 : decode cX0_flee 77 = .ok (.iload 6, 2) := by decide +kernel
theorem dX0_flee_79 : decode cX0_flee 79 = .ok (.iaload, 1) := by decide +kernel
theorem dX0_flee_80 : decode cX0_flee 80 = .ok (.invokestatic 91, 3) := by decide +kernel
theorem dX0_flee_83 : decode cX0_flee 83 = .ok (.iload_n 3, 1) := by decide +kernel
theorem dX0_flee_84 : decode cX0_flee 84 = .ok (.if_icmp .le 25, 3) := by decide +kernel
theorem dX0_flee_87 : decode cX0_flee 87 = .ok (.iload 5, 2) := by decide +kernel
theorem dX0_flee_89 : decode cX0_flee 89 = .ok (.aload_n 0, 1) := by decide +kernel
theorem dX0_flee_90 : decode cX0_flee 90 = .ok (.getfield 15, 3) := by decide +kernel
theorem dX0_flee_93 : decode cX0_flee 93 = .ok (.getfield 25, 3) := by decide +kernel
theorem dX0_flee_96 : decode cX0_flee 96 = .ok (.getfield 44, 3) := by decide +kernel
theorem dX0_flee_99 : decode cX0_flee 99 = .ok (.iload 6, 2) := by decide +kernel
theorem dX0_flee_101 : decode cX0_flee 101 = .ok (.iaload, 1) := by decide +kernel
theorem dX0_flee_102 : decode cX0_flee 102 = .ok (.invokestatic 91, 3) := by decide +kernel
theorem dX0_flee_105 : decode cX0_flee 105 = .ok (.istore_n 3, 1) := by decide +kernel
theorem dX0_flee_106 : decode cX0_flee 106 = .ok (.iload 5, 2) := by decide +kernel
theorem dX0_flee_108 : decode cX0_flee 108 = .ok (.istore_n 2, 1) := by decide +kernel
theorem dX0_flee_109 : decode cX0_flee 109 = .ok (.iinc 4 1, 3) := by decide +kernel
theorem dX0_flee_112 : decode cX0_flee 112 = .ok (.goto (-105), 3) := by decide +kernel
theorem dX0_flee_115 : decode cX0_flee 115 = .ok (.iload_n 2, 1) := by decide +kernel
theorem dX0_flee_116 : decode cX0_flee 116 = .ok (.iconst (-1), 1) := by decide +kernel
theorem dX0_flee_117 : decode cX0_flee 117 = .ok (.if_icmp .eq 16, 3) := by decide +kernel
theorem dX0_flee_120 : decode cX0_flee 120 = .ok (.aload_n 0, 1) := by decide +kernel
theorem dX0_flee_121 : decode cX0_flee 121 = .ok (.getfield 15, 3) := by decide +kernel
theorem dX0_flee_124 : decode cX0_flee 124 = .ok (.getfield 25, 3) := by decide +kernel
theorem dX0_flee_127 : decode cX0_flee 127 = .ok (.getfield 44, 3) := by decide +kernel
theorem dX0_flee_130 : decode cX0_flee 130 = .ok (.iload_n 1, 1) := by decide +kernel
theorem dX0_flee_131 : decode cX0_flee 131 = .ok (.iload_n 2, 1) := by decide +kernel
theorem dX0_flee_132 : decode cX0_flee 132 = .ok (.iastore, 1) := by decide +kernel
theorem dX0_flee_133 : decode cX0_flee 133 = .ok (.return_, 1) := by decide +kernel
def w_X0_flee_133  (h : AH) (Q : AH → Prop) : Prop :=
  Q h
def w_X0_flee_115  (v0 : Nat) (v1 : Int32) (v2 : Int32) (h : AH) (Q : AH → Prop) : Prop :=
  br (v2 = (-1 : Int32)) (
    w_X0_flee_133  h Q) (
    fN h v0 0 0 fun a1 =>
    fN h a1 7 2 fun a2 =>
    fN h a2 4 3 fun a3 =>
    tI h a3 v1 v2 fun h =>
    w_X0_flee_133  h Q)
def w_X0_flee_109  (x115 : Int32 → AH → Prop) (k : Int32 → Int32 → Int32 → AH → Prop) (v0 : Nat) (v1 : Int32) (v2 : Int32) (v3 : Int32) (v4 : Int32) (h : AH) (Q : AH → Prop) : Prop :=
  k v2 v3 (v4 + 1) h
def w_X0_flee_57  (x115 : Int32 → AH → Prop) (k : Int32 → Int32 → Int32 → AH → Prop) (v0 : Nat) (v1 : Int32) (v2 : Int32) (v3 : Int32) (v4 : Int32) (v5 : Int32) (t0 : Int32) (h : AH) (Q : AH → Prop) : Prop :=
  br (t0 = (-1 : Int32)) (
    w_X0_flee_109 x115 k v0 v1 v2 v3 v4 h Q) (
    fN h v0 0 0 fun a1 =>
    fN h a1 7 2 fun a2 =>
    fN h a2 4 3 fun a3 =>
    aI h a3 t0 fun x4 =>
    w_X3_far v5 x4 h (fun x5 h =>
    br (x5 ≤ v3) (
      w_X0_flee_109 x115 k v0 v1 v2 v3 v4 h Q) (
      fN h v0 0 0 fun a6 =>
      fN h a6 7 2 fun a7 =>
      fN h a7 4 3 fun a8 =>
      aI h a8 t0 fun x9 =>
      w_X3_far v5 x9 h (fun x10 h =>
      w_X0_flee_109 x115 k v0 v1 v5 x10 v4 h Q))))
def w_X0_flee_7  (x115 : Int32 → AH → Prop) (k : Int32 → Int32 → Int32 → AH → Prop) (v0 : Nat) (v1 : Int32) (v2 : Int32) (v3 : Int32) (v4 : Int32) (h : AH) (Q : AH → Prop) : Prop :=
  br ((9 : Int32) ≤ v4) (
    x115 v2 h) (
    fN h v0 0 0 fun a1 =>
    fN h a1 7 2 fun a2 =>
    fN h a2 4 3 fun a3 =>
    aI h a3 v1 fun x4 =>
    w_X0_besideOf x4 v4 h (fun x5 h =>
    br (x5 = (-1 : Int32)) (
      w_X0_flee_57 x115 k v0 v1 v2 v3 v4 x5 (-1 : Int32) h Q) (
      fN h v0 0 0 fun a6 =>
      fN h a6 7 2 fun a7 =>
      vr h a7 4 (
      w_X4_nearest a7 v1 x5 (1 : Int32) h (fun x8 h =>
      w_X0_flee_57 x115 k v0 v1 v2 v3 v4 x5 x8 h Q)))))
def w_X0_flee  (v0 : Nat) (v1 : Int32) (h : AH) (Q : AH → Prop) : Prop :=
  lp (fun (k2 : Int32 × Int32 × Int32 × AH → Prop) (s2 : Int32 × Int32 × Int32 × AH) => w_X0_flee_7  (fun (y2 : Int32) h => w_X0_flee_115 v0 v1 y2 h Q) (fun (y2 : Int32) (y3 : Int32) (y4 : Int32) h => k2 (y2, y3, y4, h)) v0 v1 s2.1 s2.2.1 s2.2.2.1 s2.2.2.2 Q) ((-1 : Int32), (-1 : Int32), (0 : Int32), h)
set_option maxRecDepth 100000 in
set_option maxHeartbeats 4000000 in
theorem s_X0_flee_133 {p : Program} {l : Launch} {e : Env} {s : State} {m : MethodId} {args : Array Value} {below : List Frame} {meth : Method} {c : Code} {g : GG}  {Q : AH → Prop}  (C : CXT p l s m args meth c RX0 cX0_flee 7 g) (hr : meth.sig.returnType = none)  : ∀  (h : AH), w_X0_flee_133  h Q → V p l e s m args below meth c g 3 0 0 7 0 0 (MQ below (QCx g (QV Q)) args s 0 0 (gA g)) 133 [] [] h := by
  intro  h hw
  exact (rt_MQ C _).2.2.1 _ _ _ _ _ hr dX0_flee_133 (by decide) (by decide) ⟨rfl, hw⟩
set_option maxRecDepth 100000 in
set_option maxHeartbeats 4000000 in
theorem s_X0_flee_115 {p : Program} {l : Launch} {e : Env} {s : State} {m : MethodId} {args : Array Value} {below : List Frame} {meth : Method} {c : Code} {g : GG}  {Q : AH → Prop}  (C : CXT p l s m args meth c RX0 cX0_flee 7 g) (hr : meth.sig.returnType = none)  : ∀ (v0 : Nat) (v1 : Int32) (v2 : Int32) (h : AH), w_X0_flee_115  v0 v1 v2 h Q → V p l e s m args below meth c g 3 0 0 7 0 0 (MQ below (QCx g (QV Q)) args s 0 0 (gA g)) 115 [(0, .ref v0), (1, .int v1), (2, .int v2)] [] h := by
  intro v0 v1 v2 h hw
  refine v_iload_n C dX0_flee_115 2 rfl rfl ?_
  refine v_iconst (v := -1) C dX0_flee_116 (by decide) ?_
  refine v_icmp_eq (tgt := 133) C dX0_flee_117 (by decide) (fun c_117 => ?_) (fun c_117 => ?_)
  · have hw := hw.1 c_117
    refine v_sub [] rfl ?_
    exact s_X0_flee_133 C hr   _ hw
  · have hw := hw.2 c_117
    refine v_aload_n C dX0_flee_120 0 rfl rfl ?_
    refine w_getN C fl_X0_15 dX0_flee_121 rfl hw (fun a1 hw => ?_)
    refine w_getN C fl_X0_25 dX0_flee_124 rfl hw (fun a2 hw => ?_)
    refine w_getN C fl_X0_44 dX0_flee_127 rfl hw (fun a3 hw => ?_)
    refine v_iload_n C dX0_flee_130 1 rfl rfl ?_
    refine v_iload_n C dX0_flee_131 2 rfl rfl ?_
    refine w_iastore C dX0_flee_132 hw (fun h hw => ?_)
    refine v_sub [] rfl ?_
    exact s_X0_flee_133 C hr   _ hw
set_option maxRecDepth 100000 in
set_option maxHeartbeats 4000000 in
theorem s_X0_flee_109 {p : Program} {l : Launch} {e : Env} {s : State} {m : MethodId} {args : Array Value} {below : List Frame} {meth : Method} {c : Code} {g : GG} {v0 : Nat} {v1 : Int32} {Q : AH → Prop} {x115 : Int32 → AH → Prop} {k : Int32 → Int32 → Int32 → AH → Prop} (C : CXT p l s m args meth c RX0 cX0_flee 7 g) (hr : meth.sig.returnType = none) (hx115 : ∀ (y2 : Int32) (h : AH), x115 y2 h → V p l e s m args below meth c g 3 0 0 7 0 0 (MQ below (QCx g (QV Q)) args s 0 0 (gA g)) 115 [(0, .ref v0), (1, .int v1), (2, .int y2)] [] h) (hk : ∀ (y2 : Int32) (y3 : Int32) (y4 : Int32) (h : AH), k y2 y3 y4 h → V p l e s m args below meth c g 3 0 0 7 0 0 (MQ below (QCx g (QV Q)) args s 0 0 (gA g)) 7 [(0, .ref v0), (1, .int v1), (2, .int y2), (3, .int y3), (4, .int y4)] [] h) : ∀ (v2 : Int32) (v3 : Int32) (v4 : Int32) (h : AH), w_X0_flee_109  x115 k v0 v1 v2 v3 v4 h Q → V p l e s m args below meth c g 3 0 0 7 0 0 (MQ below (QCx g (QV Q)) args s 0 0 (gA g)) 109 [(0, .ref v0), (1, .int v1), (2, .int v2), (3, .int v3), (4, .int v4)] [] h := by
  intro v2 v3 v4 h hw
  refine v_iinc (v := 1) (ls' := [(4, .int (v4 + 1)), (0, .ref v0), (1, .int v1), (2, .int v2), (3, .int v3)]) C dX0_flee_109 4 rfl (by decide) (by decide) rfl ?_
  refine v_goto (tgt := 7) C dX0_flee_112 (by decide) ?_
  refine v_sub [1, 2, 3, 4, 0] rfl ?_
  exact hk _ _ _ _ hw
set_option maxRecDepth 100000 in
set_option maxHeartbeats 4000000 in
theorem s_X0_flee_57 {p : Program} {l : Launch} {e : Env} {s : State} {m : MethodId} {args : Array Value} {below : List Frame} {meth : Method} {c : Code} {g : GG} {v0 : Nat} {v1 : Int32} {Q : AH → Prop} {x115 : Int32 → AH → Prop} {k : Int32 → Int32 → Int32 → AH → Prop} (C : CXT p l s m args meth c RX0 cX0_flee 7 g) (hr : meth.sig.returnType = none) (hx115 : ∀ (y2 : Int32) (h : AH), x115 y2 h → V p l e s m args below meth c g 3 0 0 7 0 0 (MQ below (QCx g (QV Q)) args s 0 0 (gA g)) 115 [(0, .ref v0), (1, .int v1), (2, .int y2)] [] h) (hk : ∀ (y2 : Int32) (y3 : Int32) (y4 : Int32) (h : AH), k y2 y3 y4 h → V p l e s m args below meth c g 3 0 0 7 0 0 (MQ below (QCx g (QV Q)) args s 0 0 (gA g)) 7 [(0, .ref v0), (1, .int v1), (2, .int y2), (3, .int y3), (4, .int y4)] [] h) : ∀ (v2 : Int32) (v3 : Int32) (v4 : Int32) (v5 : Int32) (t0 : Int32) (h : AH), w_X0_flee_57  x115 k v0 v1 v2 v3 v4 v5 t0 h Q → V p l e s m args below meth c g 3 0 0 7 0 0 (MQ below (QCx g (QV Q)) args s 0 0 (gA g)) 57 [(0, .ref v0), (1, .int v1), (2, .int v2), (3, .int v3), (4, .int v4), (5, .int v5)] [.int t0] h := by
  intro v2 v3 v4 v5 t0 h hw
  refine v_istore (ls' := [(6, .int t0), (0, .ref v0), (1, .int v1), (2, .int v2), (3, .int v3), (4, .int v4), (5, .int v5)]) C dX0_flee_57 (by decide) rfl ?_
  refine v_iload C dX0_flee_59 0 rfl ?_
  refine v_iconst (v := -1) C dX0_flee_61 (by decide) ?_
  refine v_icmp_eq (tgt := 109) C dX0_flee_62 (by decide) (fun c_62 => ?_) (fun c_62 => ?_)
  · have hw := hw.1 c_62
    refine v_sub [1, 2, 3, 4, 5] rfl ?_
    exact s_X0_flee_109 C hr hx115 hk _ _ _ _ hw
  · have hw := hw.2 c_62
    refine v_iload C dX0_flee_65 6 rfl ?_
    refine v_aload_n C dX0_flee_67 1 rfl rfl ?_
    refine w_getN C fl_X0_15 dX0_flee_68 rfl hw (fun a1 hw => ?_)
    refine w_getN C fl_X0_25 dX0_flee_71 rfl hw (fun a2 hw => ?_)
    refine w_getN C fl_X0_44 dX0_flee_74 rfl hw (fun a3 hw => ?_)
    refine v_iload C dX0_flee_77 0 rfl ?_
    refine w_iaload C dX0_flee_79 hw (fun x4 hw => ?_)
    refine w_callSi (st := []) C cl_X0_91 st_X3_far (s_X3_far hw) rfl dX0_flee_80 rfl (by decide) (by decide) (by decide) (by decide) (by decide) (fun x5 h hw => ?_)
    refine v_iload_n C dX0_flee_83 4 rfl rfl ?_
    refine v_icmp_le (tgt := 109) C dX0_flee_84 (by decide) (fun c_84 => ?_) (fun c_84 => ?_)
    · have hw := hw.1 c_84
      refine v_sub [1, 2, 3, 4, 5] rfl ?_
      exact s_X0_flee_109 C hr hx115 hk _ _ _ _ hw
    · have hw := hw.2 c_84
      refine v_iload C dX0_flee_87 6 rfl ?_
      refine v_aload_n C dX0_flee_89 1 rfl rfl ?_
      refine w_getN C fl_X0_15 dX0_flee_90 rfl hw (fun a6 hw => ?_)
      refine w_getN C fl_X0_25 dX0_flee_93 rfl hw (fun a7 hw => ?_)
      refine w_getN C fl_X0_44 dX0_flee_96 rfl hw (fun a8 hw => ?_)
      refine v_iload C dX0_flee_99 0 rfl ?_
      refine w_iaload C dX0_flee_101 hw (fun x9 hw => ?_)
      refine w_callSi (st := []) C cl_X0_91 st_X3_far (s_X3_far hw) rfl dX0_flee_102 rfl (by decide) (by decide) (by decide) (by decide) (by decide) (fun x10 h hw => ?_)
      refine v_istore_n (ls' := [(3, .int x10), (6, .int t0), (0, .ref v0), (1, .int v1), (2, .int v2), (4, .int v4), (5, .int v5)]) C dX0_flee_105 rfl (by decide) rfl ?_
      refine v_iload C dX0_flee_106 6 rfl ?_
      refine v_istore_n (ls' := [(2, .int v5), (3, .int x10), (6, .int t0), (0, .ref v0), (1, .int v1), (4, .int v4), (5, .int v5)]) C dX0_flee_108 rfl (by decide) rfl ?_
      refine v_sub [3, 4, 0, 1, 5] rfl ?_
      exact s_X0_flee_109 C hr hx115 hk _ _ _ _ hw
set_option maxRecDepth 100000 in
set_option maxHeartbeats 4000000 in
theorem s_X0_flee_7 {p : Program} {l : Launch} {e : Env} {s : State} {m : MethodId} {args : Array Value} {below : List Frame} {meth : Method} {c : Code} {g : GG} {v0 : Nat} {v1 : Int32} {Q : AH → Prop} {x115 : Int32 → AH → Prop} {k : Int32 → Int32 → Int32 → AH → Prop} (C : CXT p l s m args meth c RX0 cX0_flee 7 g) (hr : meth.sig.returnType = none) (hx115 : ∀ (y2 : Int32) (h : AH), x115 y2 h → V p l e s m args below meth c g 3 0 0 7 0 0 (MQ below (QCx g (QV Q)) args s 0 0 (gA g)) 115 [(0, .ref v0), (1, .int v1), (2, .int y2)] [] h) (hk : ∀ (y2 : Int32) (y3 : Int32) (y4 : Int32) (h : AH), k y2 y3 y4 h → V p l e s m args below meth c g 3 0 0 7 0 0 (MQ below (QCx g (QV Q)) args s 0 0 (gA g)) 7 [(0, .ref v0), (1, .int v1), (2, .int y2), (3, .int y3), (4, .int y4)] [] h) : ∀ (v2 : Int32) (v3 : Int32) (v4 : Int32) (h : AH), w_X0_flee_7  x115 k v0 v1 v2 v3 v4 h Q → V p l e s m args below meth c g 3 0 0 7 0 0 (MQ below (QCx g (QV Q)) args s 0 0 (gA g)) 7 [(0, .ref v0), (1, .int v1), (2, .int v2), (3, .int v3), (4, .int v4)] [] h := by
  intro v2 v3 v4 h hw
  refine v_iload C dX0_flee_7 4 rfl ?_
  refine v_bipush (v := 9) C dX0_flee_9 (by decide) ?_
  refine v_icmp_ge (tgt := 115) C dX0_flee_11 (by decide) (fun c_11 => ?_) (fun c_11 => ?_)
  · have hw := hw.1 c_11
    refine v_sub [0, 1, 2] rfl ?_
    exact hx115 _ _ hw
  · have hw := hw.2 c_11
    refine v_aload_n C dX0_flee_14 0 rfl rfl ?_
    refine w_getN C fl_X0_15 dX0_flee_15 rfl hw (fun a1 hw => ?_)
    refine w_getN C fl_X0_25 dX0_flee_18 rfl hw (fun a2 hw => ?_)
    refine w_getN C fl_X0_44 dX0_flee_21 rfl hw (fun a3 hw => ?_)
    refine v_iload_n C dX0_flee_24 1 rfl rfl ?_
    refine w_iaload C dX0_flee_25 hw (fun x4 hw => ?_)
    refine v_iload C dX0_flee_26 4 rfl ?_
    refine w_callSi (st := []) C cl_X0_149 st_X0_besideOf (s_X0_besideOf hw) rfl dX0_flee_28 rfl (by decide) (by decide) (by decide) (by decide) (by decide) (fun x5 h hw => ?_)
    refine v_istore (ls' := [(5, .int x5), (0, .ref v0), (1, .int v1), (2, .int v2), (3, .int v3), (4, .int v4)]) C dX0_flee_31 (by decide) rfl ?_
    refine v_iload C dX0_flee_33 0 rfl ?_
    refine v_iconst (v := -1) C dX0_flee_35 (by decide) ?_
    refine v_icmp_ne (tgt := 43) C dX0_flee_36 (by decide) (fun c_36 => ?_) (fun c_36 => ?_)
    · have hw := hw.2 c_36
      refine v_aload_n C dX0_flee_43 1 rfl rfl ?_
      refine w_getN C fl_X0_15 dX0_flee_44 rfl hw (fun a6 hw => ?_)
      refine w_getN C fl_X0_25 dX0_flee_47 rfl hw (fun a7 hw => ?_)
      refine v_iload_n C dX0_flee_50 2 rfl rfl ?_
      refine v_iload C dX0_flee_51 0 rfl ?_
      refine v_iconst (v := 1) C dX0_flee_53 (by decide) ?_
      refine w_callVi (st := []) C cl_X0_47 im_X4_nearest se_X4_nearest rfl hw.1 (s_X4_nearest hw.2) rfl dX0_flee_54 rfl (by decide) (by decide) (by decide) (by decide) (by decide) (fun x8 h hw => ?_)
      refine v_sub [1, 2, 3, 4, 5, 0] rfl ?_
      exact s_X0_flee_57 C hr hx115 hk _ _ _ _ _ _ hw
    · have hw := hw.1 c_36
      refine v_iconst (v := -1) C dX0_flee_39 (by decide) ?_
      refine v_goto (tgt := 57) C dX0_flee_40 (by decide) ?_
      refine v_sub [1, 2, 3, 4, 5, 0] rfl ?_
      exact s_X0_flee_57 C hr hx115 hk _ _ _ _ _ _ hw
set_option maxRecDepth 100000 in
set_option maxHeartbeats 4000000 in
theorem s_X0_flee {l : Launch}  {v0 : Nat} {v1 : Int32} {h : AH} {Q : AH → Prop}  (hw : w_X0_flee  v0 v1 h Q) : CT l yX0_flee cX0_flee 7 none 3 0 0 [.ref v0, .int v1] h (QV Q) := by
  refine CT.of (by decide) ⟨rfl, ⟨rfl, trivial⟩⟩ (Nat.le_of_ble_eq_true rfl) ?_
  intro p e s m args below meth c g C hr hin
  refine v_eq (pc' := 0) (ls' := [(0, .ref v0), (1, .int v1)]) rfl rfl rfl rfl ?_
  refine v_iconst (v := -1) C dX0_flee_0 (by decide) ?_
  refine v_istore_n (ls' := [(2, .int (-1 : Int32)), (0, .ref v0), (1, .int v1)]) C dX0_flee_1 rfl (by decide) rfl ?_
  refine v_iconst (v := -1) C dX0_flee_2 (by decide) ?_
  refine v_istore_n (ls' := [(3, .int (-1 : Int32)), (2, .int (-1 : Int32)), (0, .ref v0), (1, .int v1)]) C dX0_flee_3 rfl (by decide) rfl ?_
  refine v_iconst (v := 0) C dX0_flee_4 (by decide) ?_
  refine v_istore (ls' := [(4, .int (0 : Int32)), (3, .int (-1 : Int32)), (2, .int (-1 : Int32)), (0, .ref v0), (1, .int v1)]) C dX0_flee_5 (by decide) rfl ?_
  refine v_sub [3, 4, 2, 1, 0] rfl ?_
  refine lp_walk (P := fun (s' : Int32 × Int32 × Int32 × AH) => V p l e s m args below meth c g 3 0 0 7 0 0 (MQ below (QCx g (QV Q)) args s 0 0 (gA g)) 7 [(0, .ref v0), (1, .int v1), (2, .int (s'.1)), (3, .int (s'.2.1)), (4, .int (s'.2.2.1))] [] s'.2.2.2) (fun k2 hk2 s' hw => ?_) ((-1 : Int32), (-1 : Int32), (0 : Int32), h) hw
  exact s_X0_flee_7 C hr (fun y2 h hw => s_X0_flee_115 C hr  _ _ _ h hw) (fun y2 y3 y4 h hw => hk2 (y2, y3, y4, h) hw) _ _ _ _ hw
-- GrassField$Fight.gatherFacts(I)V
theorem dX0_gatherFacts_0 : decode cX0_gatherFacts 0 = .ok (.aload_n 0, 1) := by decide +kernel
theorem dX0_gatherFacts_1 : decode cX0_gatherFacts 1 = .ok (.getfield 15, 3) := by decide +kernel
theorem dX0_gatherFacts_4 : decode cX0_gatherFacts 4 = .ok (.getfield 25, 3) := by decide +kernel
theorem dX0_gatherFacts_7 : decode cX0_gatherFacts 7 = .ok (.astore_n 2, 1) := by decide +kernel
theorem dX0_gatherFacts_8 : decode cX0_gatherFacts 8 = .ok (.aload_n 2, 1) := by decide +kernel
theorem dX0_gatherFacts_9 : decode cX0_gatherFacts 9 = .ok (.getfield 44, 3) := by decide +kernel
theorem dX0_gatherFacts_12 : decode cX0_gatherFacts 12 = .ok (.iload_n 1, 1) := by decide +kernel
theorem dX0_gatherFacts_13 : decode cX0_gatherFacts 13 = .ok (.iaload, 1) := by decide +kernel
theorem dX0_gatherFacts_14 : decode cX0_gatherFacts 14 = .ok (.istore_n 3, 1) := by decide +kernel
theorem dX0_gatherFacts_15 : decode cX0_gatherFacts 15 = .ok (.aload_n 2, 1) := by decide +kernel
theorem dX0_gatherFacts_16 : decode cX0_gatherFacts 16 = .ok (.iload_n 1, 1) := by decide +kernel
theorem dX0_gatherFacts_17 : decode cX0_gatherFacts 17 = .ok (.iload_n 3, 1) := by decide +kernel
theorem dX0_gatherFacts_18 : decode cX0_gatherFacts 18 = .ok (.iconst 1, 1) := by decide +kernel
theorem dX0_gatherFacts_19 : decode cX0_gatherFacts 19 = .ok (.invokevirtual 47, 3) := by decide +kernel
theorem dX0_gatherFacts_22 : decode cX0_gatherFacts 22 = .ok (.istore 4, 2) := by decide +kernel
theorem dX0_gatherFacts_24 : decode cX0_gatherFacts 24 = .ok (.aload_n 0, 1) := by decide +kernel
theorem dX0_gatherFacts_25 : decode cX0_gatherFacts 25 = .ok (.getfield 9, 3) := by decide +kernel
theorem dX0_gatherFacts_28 : decode cX0_gatherFacts 28 = .ok (.iconst 0, 1) := by decide +kernel
theorem dX0_gatherFacts_29 : decode cX0_gatherFacts 29 = .ok (.aload_n 2, 1) := by decide +kernel
theorem dX0_gatherFacts_30 : decode cX0_gatherFacts 30 = .ok (.iload_n 1, 1) := by decide +kernel
theorem dX0_gatherFacts_31 : decode cX0_gatherFacts 31 = .ok (.invokevirtual 51, 3) := by decide +kernel
theorem dX0_gatherFacts_34 : decode cX0_gatherFacts 34 = .ok (.iastore, 1) := by decide +kernel
theorem dX0_gatherFacts_35 : decode cX0_gatherFacts 35 = .ok (.aload_n 0, 1) := by decide +kernel
theorem dX0_gatherFacts_36 : decode cX0_gatherFacts 36 = .ok (.getfield 9, 3) := by decide +kernel
theorem dX0_gatherFacts_39 : decode cX0_gatherFacts 39 = .ok (.iconst 1, 1) := by decide +kernel
theorem dX0_gatherFacts_40 : decode cX0_gatherFacts 40 = .ok (.aload_n 2, 1) := by decide +kernel
theorem dX0_gatherFacts_41 : decode cX0_gatherFacts 41 = .ok (.iload_n 1, 1) := by decide +kernel
theorem dX0_gatherFacts_42 : decode cX0_gatherFacts 42 = .ok (.invokevirtual 55, 3) := by decide +kernel
theorem dX0_gatherFacts_45 : decode cX0_gatherFacts 45 = .ok (.iastore, 1) := by decide +kernel
theorem dX0_gatherFacts_46 : decode cX0_gatherFacts 46 = .ok (.aload_n 2, 1) := by decide +kernel
theorem dX0_gatherFacts_47 : decode cX0_gatherFacts 47 = .ok (.getfield 58, 3) := by decide +kernel
theorem dX0_gatherFacts_50 : decode cX0_gatherFacts 50 = .ok (.iload_n 1, 1) := by decide +kernel
theorem dX0_gatherFacts_51 : decode cX0_gatherFacts 51 = .ok (.iconst 0, 1) := by decide +kernel
theorem dX0_gatherFacts_52 : decode cX0_gatherFacts 52 = .ok (.bipush 9, 2) := by decide +kernel
theorem dX0_gatherFacts_54 : decode cX0_gatherFacts 54 = .ok (.aload_n 2, 1) := by decide +kernel
theorem dX0_gatherFacts_55 : decode cX0_gatherFacts 55 = .ok (.getfield 58, 3) := by decide +kernel
theorem dX0_gatherFacts_58 : decode cX0_gatherFacts 58 = .ok (.iload_n 1, 1) := by decide +kernel
theorem dX0_gatherFacts_59 : decode cX0_gatherFacts 59 = .ok (.iaload, 1) := by decide +kernel
theorem dX0_gatherFacts_60 : decode cX0_gatherFacts 60 = .ok (.aload_n 0, 1) := by decide +kernel
theorem dX0_gatherFacts_61 : decode cX0_gatherFacts 61 = .ok (.getfield 9, 3) := by decide +kernel
theorem dX0_gatherFacts_64 : decode cX0_gatherFacts 64 = .ok (.iconst 0, 1) := by decide +kernel
theorem dX0_gatherFacts_65 : decode cX0_gatherFacts 65 = .ok (.iaload, 1) := by decide +kernel
theorem dX0_gatherFacts_66 : decode cX0_gatherFacts 66 = .ok (.iadd, 1) := by decide +kernel
theorem dX0_gatherFacts_67 : decode cX0_gatherFacts 67 = .ok (.aload_n 0, 1) := by decide +kernel
theorem dX0_gatherFacts_68 : decode cX0_gatherFacts 68 = .ok (.getfield 9, 3) := by decide +kernel
theorem dX0_gatherFacts_71 : decode cX0_gatherFacts 71 = .ok (.iconst 1, 1) := by decide +kernel
theorem dX0_gatherFacts_72 : decode cX0_gatherFacts 72 = .ok (.iaload, 1) := by decide +kernel
theorem dX0_gatherFacts_73 : decode cX0_gatherFacts 73 = .ok (.isub, 1) := by decide +kernel
theorem dX0_gatherFacts_74 : decode cX0_gatherFacts 74 = .ok (.invokestatic 61, 3) := by decide +kernel
theorem dX0_gatherFacts_77 : decode cX0_gatherFacts 77 = .ok (.invokestatic 67, 3) := by decide +kernel
theorem dX0_gatherFacts_80 : decode cX0_gatherFacts 80 = .ok (.iastore, 1) := by decide +kernel
theorem dX0_gatherFacts_81 : decode cX0_gatherFacts 81 = .ok (.aload_n 0, 1) := by decide +kernel
theorem dX0_gatherFacts_82 : decode cX0_gatherFacts 82 = .ok (.getfield 9, 3) := by decide +kernel
theorem dX0_gatherFacts_85 : decode cX0_gatherFacts 85 = .ok (.iconst 2, 1) := by decide +kernel
theorem dX0_gatherFacts_86 : decode cX0_gatherFacts 86 = .ok (.aload_n 2, 1) := by decide +kernel
theorem dX0_gatherFacts_87 : decode cX0_gatherFacts 87 = .ok (.getfield 58, 3) := by decide +kernel
theorem dX0_gatherFacts_90 : decode cX0_gatherFacts 90 = .ok (.iload_n 1, 1) := by decide +kernel
theorem dX0_gatherFacts_91 : decode cX0_gatherFacts 91 = .ok (.iaload, 1) := by decide +kernel
theorem dX0_gatherFacts_92 : decode cX0_gatherFacts 92 = .ok (.iastore, 1) := by decide +kernel
theorem dX0_gatherFacts_93 : decode cX0_gatherFacts 93 = .ok (.aload_n 0, 1) := by decide +kernel
theorem dX0_gatherFacts_94 : decode cX0_gatherFacts 94 = .ok (.getfield 9, 3) := by decide +kernel
theorem dX0_gatherFacts_97 : decode cX0_gatherFacts 97 = .ok (.iconst 3, 1) := by decide +kernel
theorem dX0_gatherFacts_98 : decode cX0_gatherFacts 98 = .ok (.aload_n 0, 1) := by decide +kernel
theorem dX0_gatherFacts_99 : decode cX0_gatherFacts 99 = .ok (.getfield 15, 3) := by decide +kernel
theorem dX0_gatherFacts_102 : decode cX0_gatherFacts 102 = .ok (.getfield 19, 3) := by decide +kernel
theorem dX0_gatherFacts_105 : decode cX0_gatherFacts 105 = .ok (.iastore, 1) := by decide +kernel
theorem dX0_gatherFacts_106 : decode cX0_gatherFacts 106 = .ok (.aload_n 0, 1) := by decide +kernel
theorem dX0_gatherFacts_107 : decode cX0_gatherFacts 107 = .ok (.getfield 9, 3) := by decide +kernel
theorem dX0_gatherFacts_110 : decode cX0_gatherFacts 110 = .ok (.iconst 4, 1) := by decide +kernel
theorem dX0_gatherFacts_111 : decode cX0_gatherFacts 111 = .ok (.aload_n 0, 1) := by decide +kernel
theorem dX0_gatherFacts_112 : decode cX0_gatherFacts 112 = .ok (.getfield 15, 3) := by decide +kernel
theorem dX0_gatherFacts_115 : decode cX0_gatherFacts 115 = .ok (.getfield 70, 3) := by decide +kernel
theorem dX0_gatherFacts_118 : decode cX0_gatherFacts 118 = .ok (.getfield 74, 3) := by decide +kernel
theorem dX0_gatherFacts_121 : decode cX0_gatherFacts 121 = .ok (.iload_n 3, 1) := by decide +kernel
theorem dX0_gatherFacts_122 : decode cX0_gatherFacts 122 = .ok (.iaload, 1) := by decide +kernel
theorem dX0_gatherFacts_123 : decode cX0_gatherFacts 123 = .ok (.iastore, 1) := by decide +kernel
theorem dX0_gatherFacts_124 : decode cX0_gatherFacts 124 = .ok (.aload_n 0, 1) := by decide +kernel
theorem dX0_gatherFacts_125 : decode cX0_gatherFacts 125 = .ok (.getfield 9, 3) := by decide +kernel
theorem dX0_gatherFacts_128 : decode cX0_gatherFacts 128 = .ok (.iconst 5, 1) := by decide +kernel
theorem dX0_gatherFacts_129 : decode cX0_gatherFacts 129 = .ok (.aload_n 2, 1) := by decide +kernel
theorem dX0_gatherFacts_130 : decode cX0_gatherFacts 130 = .ok (.getfield 79, 3) := by decide +kernel
theorem dX0_gatherFacts_133 : decode cX0_gatherFacts 133 = .ok (.iload_n 1, 1) := by decide +kernel
theorem dX0_gatherFacts_134 : decode cX0_gatherFacts 134 = .ok (.iaload, 1) := by decide +kernel
theorem dX0_gatherFacts_135 : decode cX0_gatherFacts 135 = .ok (.iconst (-1), 1) := by decide +kernel
theorem dX0_gatherFacts_136 : decode cX0_gatherFacts 136 = .ok (.if_icmp .ne 7, 3) := by decide +kernel
theorem dX0_gatherFacts_139 : decode cX0_gatherFacts 139 = .ok (.iconst 0, 1) := by decide +kernel
theorem dX0_gatherFacts_140 : decode cX0_gatherFacts 140 = .ok (.goto 20, 3) := by decide +kernel
theorem dX0_gatherFacts_143 : decode cX0_gatherFacts 143 = .ok (.aload_n 0, 1) := by decide +kernel
theorem dX0_gatherFacts_144 : decode cX0_gatherFacts 144 = .ok (.getfield 15, 3) := by decide +kernel
theorem dX0_gatherFacts_147 : decode cX0_gatherFacts 147 = .ok (.getfield 82, 3) := by decide +kernel
theorem dX0_gatherFacts_150 : decode cX0_gatherFacts 150 = .ok (.getfield 86, 3) := by decide +kernel
theorem dX0_gatherFacts_153 : decode cX0_gatherFacts 153 = .ok (.aload_n 2, 1) := by decide +kernel
theorem dX0_gatherFacts_154 : decode cX0_gatherFacts 154 = .ok (.getfield 79, 3) := by decide +kernel
theorem dX0_gatherFacts_157 : decode cX0_gatherFacts 157 = .ok (.iload_n 1, 1) := by decide +kernel
theorem dX0_gatherFacts_158 : decode cX0_gatherFacts 158 = .ok (.iaload, 1) := by decide +kernel
theorem dX0_gatherFacts_159 : decode cX0_gatherFacts 159 = .ok (.iaload, 1) := by decide +kernel
theorem dX0_gatherFacts_160 : decode cX0_gatherFacts 160 = .ok (.iastore, 1) := by decide +kernel
theorem dX0_gatherFacts_161 : decode cX0_gatherFacts 161 = .ok (.aload_n 0, 1) := by decide +kernel
theorem dX0_gatherFacts_162 : decode cX0_gatherFacts 162 = .ok (.getfield 9, 3) := by decide +kernel
theorem dX0_gatherFacts_165 : decode cX0_gatherFacts 165 = .ok (.bipush 6, 2) := by decide +kernel
theorem dX0_gatherFacts_167 : decode cX0_gatherFacts 167 = .ok (.iload 4, 2) := by decide +kernel
theorem dX0_gatherFacts_169 : decode cX0_gatherFacts 169 = .ok (.iconst (-1), 1) := by decide +kernel
theorem dX0_gatherFacts_170 : decode cX0_gatherFacts 170 = .ok (.if_icmp .ne 8, 3) := by decide +kernel
theorem dX0_gatherFacts_173 : decode cX0_gatherFacts 173 = .ok (.bipush 99, 2) := by decide +kernel
theorem dX0_gatherFacts_175 : decode cX0_gatherFacts 175 = .ok (.goto 14, 3) := by decide +kernel
theorem dX0_gatherFacts_178 : decode cX0_gatherFacts 178 = .ok (.iload_n 3, 1) := by decide +kernel
theorem dX0_gatherFacts_179 : decode cX0_gatherFacts 179 = .ok (.aload_n 2, 1) := by decide +kernel
theorem dX0_gatherFacts_180 : decode cX0_gatherFacts 180 = .ok (.getfield 44, 3) := by decide +kernel
theorem dX0_gatherFacts_183 : decode cX0_gatherFacts 183 = .ok (.iload 4, 2) := by decide +kernel
theorem dX0_gatherFacts_185 : decode cX0_gatherFacts 185 = .ok (.iaload, 1) := by decide +kernel
theorem dX0_gatherFacts_186 : decode cX0_gatherFacts 186 = .ok (.invokestatic 91, 3) := by decide +kernel
theorem dX0_gatherFacts_189 : decode cX0_gatherFacts 189 = .ok (.iastore, 1) := by decide +kernel
theorem dX0_gatherFacts_190 : decode cX0_gatherFacts 190 = .ok (.aload_n 0, 1) := by decide +kernel
theorem dX0_gatherFacts_191 : decode cX0_gatherFacts 191 = .ok (.getfield 9, 3) := by decide +kernel
theorem dX0_gatherFacts_194 : decode cX0_gatherFacts 194 = .ok (.bipush 7, 2) := by decide +kernel
theorem dX0_gatherFacts_196 : decode cX0_gatherFacts 196 = .ok (.aload_n 0, 1) := by decide +kernel
theorem dX0_gatherFacts_197 : decode cX0_gatherFacts 197 = .ok (.getfield 9, 3) := by decide +kernel
theorem dX0_gatherFacts_200 : decode cX0_gatherFacts 200 = .ok (.iconst 5, 1) := by decide +kernel
theorem dX0_gatherFacts_201 : decode cX0_gatherFacts 201 = .ok (.iaload, 1) := by decide +kernel
theorem dX0_gatherFacts_202 : decode cX0_gatherFacts 202 = .ok (.ifCond .le 7, 3) := by decide +kernel
theorem dX0_gatherFacts_205 : decode cX0_gatherFacts 205 = .ok (.iconst 1, 1) := by decide +kernel
theorem dX0_gatherFacts_206 : decode cX0_gatherFacts 206 = .ok (.goto 4, 3) := by decide +kernel
theorem dX0_gatherFacts_209 : decode cX0_gatherFacts 209 = .ok (.iconst 0, 1) := by decide +kernel
theorem dX0_gatherFacts_210 : decode cX0_gatherFacts 210 = .ok (.iastore, 1) := by decide +kernel
theorem dX0_gatherFacts_211 : decode cX0_gatherFacts 211 = .ok (.aload_n 0, 1) := by decide +kernel
theorem dX0_gatherFacts_212 : decode cX0_gatherFacts 212 = .ok (.getfield 9, 3) := by decide +kernel
theorem dX0_gatherFacts_215 : decode cX0_gatherFacts 215 = .ok (.bipush 8, 2) := by decide +kernel
theorem dX0_gatherFacts_217 : decode cX0_gatherFacts 217 = .ok (.aload_n 0, 1) := by decide +kernel
theorem dX0_gatherFacts_218 : decode cX0_gatherFacts 218 = .ok (.getfield 9, 3) := by decide +kernel
theorem dX0_gatherFacts_221 : decode cX0_gatherFacts 221 = .ok (.iconst 1, 1) := by decide +kernel
theorem dX0_gatherFacts_222 : decode cX0_gatherFacts 222 = .ok (.iaload, 1) := by decide +kernel
theorem dX0_gatherFacts_223 : decode cX0_gatherFacts 223 = .ok (.ifCond .ne 7, 3) := by decide +kernel
theorem dX0_gatherFacts_226 : decode cX0_gatherFacts 226 = .ok (.iconst 1, 1) := by decide +kernel
theorem dX0_gatherFacts_227 : decode cX0_gatherFacts 227 = .ok (.goto 4, 3) := by decide +kernel
theorem dX0_gatherFacts_230 : decode cX0_gatherFacts 230 = .ok (.iconst 0, 1) := by decide +kernel
theorem dX0_gatherFacts_231 : decode cX0_gatherFacts 231 = .ok (.iastore, 1) := by decide +kernel
theorem dX0_gatherFacts_232 : decode cX0_gatherFacts 232 = .ok (.return_, 1) := by decide +kernel
def w_X0_gatherFacts_231  (t0 : Nat) (t1 : Int32) (t2 : Int32) (h : AH) (Q : AH → Prop) : Prop :=
  tI h t0 t1 t2 fun h =>
  Q h
def w_X0_gatherFacts_210  (v0 : Nat) (t0 : Nat) (t1 : Int32) (t2 : Int32) (h : AH) (Q : AH → Prop) : Prop :=
  tI h t0 t1 t2 fun h =>
  fN h v0 0 1 fun a1 =>
  fN h v0 0 1 fun a2 =>
  aI h a2 (1 : Int32) fun x3 =>
  br (x3 = 0) (
    w_X0_gatherFacts_231 a1 (8 : Int32) (1 : Int32) h Q) (
    w_X0_gatherFacts_231 a1 (8 : Int32) (0 : Int32) h Q)
def w_X0_gatherFacts_189  (v0 : Nat) (t0 : Nat) (t1 : Int32) (t2 : Int32) (h : AH) (Q : AH → Prop) : Prop :=
  tI h t0 t1 t2 fun h =>
  fN h v0 0 1 fun a1 =>
  fN h v0 0 1 fun a2 =>
  aI h a2 (5 : Int32) fun x3 =>
  br (x3 ≤ 0) (
    w_X0_gatherFacts_210 v0 a1 (7 : Int32) (0 : Int32) h Q) (
    w_X0_gatherFacts_210 v0 a1 (7 : Int32) (1 : Int32) h Q)
def w_X0_gatherFacts_160  (v0 : Nat) (v2 : Nat) (v3 : Int32) (v4 : Int32) (t0 : Nat) (t1 : Int32) (t2 : Int32) (h : AH) (Q : AH → Prop) : Prop :=
  tI h t0 t1 t2 fun h =>
  fN h v0 0 1 fun a1 =>
  br (v4 = (-1 : Int32)) (
    w_X0_gatherFacts_189 v0 a1 (6 : Int32) (99 : Int32) h Q) (
    fN h v2 4 3 fun a2 =>
    aI h a2 v4 fun x3 =>
    w_X3_far v3 x3 h (fun x4 h =>
    w_X0_gatherFacts_189 v0 a1 (6 : Int32) x4 h Q))
def w_X0_gatherFacts  (v0 : Nat) (v1 : Int32) (h : AH) (Q : AH → Prop) : Prop :=
  fN h v0 0 0 fun a1 =>
  fN h a1 7 2 fun a2 =>
  fN h a2 4 3 fun a3 =>
  aI h a3 v1 fun x4 =>
  vr h a2 4 (
  w_X4_nearest a2 v1 x4 (1 : Int32) h (fun x5 h =>
  fN h v0 0 1 fun a6 =>
  vr h a2 4 (
  w_X4_foesNear a2 v1 h (fun x7 h =>
  tI h a6 (0 : Int32) x7 fun h =>
  fN h v0 0 1 fun a8 =>
  vr h a2 4 (
  w_X4_friendsNear a2 v1 h (fun x9 h =>
  tI h a8 (1 : Int32) x9 fun h =>
  fN h a2 4 4 fun a10 =>
  fN h a2 4 4 fun a11 =>
  aI h a11 v1 fun x12 =>
  fN h v0 0 1 fun a13 =>
  aI h a13 (0 : Int32) fun x14 =>
  fN h v0 0 1 fun a15 =>
  aI h a15 (1 : Int32) fun x16 =>
  tI h a10 v1 (jmax (0 : Int32) (jmin (9 : Int32) ((x12 + x14) - x16))) fun h =>
  fN h v0 0 1 fun a17 =>
  fN h a2 4 4 fun a18 =>
  aI h a18 v1 fun x19 =>
  tI h a17 (2 : Int32) x19 fun h =>
  fN h v0 0 1 fun a20 =>
  fN h v0 0 0 fun a21 =>
  fI h a21 7 12 fun x22 =>
  tI h a20 (3 : Int32) x22 fun h =>
  fN h v0 0 1 fun a23 =>
  fN h v0 0 0 fun a24 =>
  fN h a24 7 0 fun a25 =>
  fN h a25 3 0 fun a26 =>
  aI h a26 x4 fun x27 =>
  tI h a23 (4 : Int32) x27 fun h =>
  fN h v0 0 1 fun a28 =>
  fN h a2 4 1 fun a29 =>
  aI h a29 v1 fun x30 =>
  br (x30 = (-1 : Int32)) (
    w_X0_gatherFacts_160 v0 a2 x4 x5 a28 (5 : Int32) (0 : Int32) h Q) (
    fN h v0 0 0 fun a31 =>
    fN h a31 7 1 fun a32 =>
    fN h a32 2 4 fun a33 =>
    fN h a2 4 1 fun a34 =>
    aI h a34 v1 fun x35 =>
    aI h a33 x35 fun x36 =>
    w_X0_gatherFacts_160 v0 a2 x4 x5 a28 (5 : Int32) x36 h Q)))))))
set_option maxRecDepth 100000 in
set_option maxHeartbeats 4000000 in
theorem s_X0_gatherFacts_231 {p : Program} {l : Launch} {e : Env} {s : State} {m : MethodId} {args : Array Value} {below : List Frame} {meth : Method} {c : Code} {g : GG}  {Q : AH → Prop}  (C : CXT p l s m args meth c RX0 cX0_gatherFacts 5 g) (hr : meth.sig.returnType = none)  : ∀ (t0 : Nat) (t1 : Int32) (t2 : Int32) (h : AH), w_X0_gatherFacts_231  t0 t1 t2 h Q → V p l e s m args below meth c g 4 0 0 5 0 0 (MQ below (QCx g (QV Q)) args s 0 0 (gA g)) 231 [] [.int t2, .int t1, .ref t0] h := by
  intro t0 t1 t2 h hw
  refine w_iastore C dX0_gatherFacts_231 hw (fun h hw => ?_)
  exact (rt_MQ C _).2.2.1 _ _ _ _ _ hr dX0_gatherFacts_232 (by decide) (by decide) ⟨rfl, hw⟩
set_option maxRecDepth 100000 in
set_option maxHeartbeats 4000000 in
theorem s_X0_gatherFacts_210 {p : Program} {l : Launch} {e : Env} {s : State} {m : MethodId} {args : Array Value} {below : List Frame} {meth : Method} {c : Code} {g : GG}  {Q : AH → Prop}  (C : CXT p l s m args meth c RX0 cX0_gatherFacts 5 g) (hr : meth.sig.returnType = none)  : ∀ (v0 : Nat) (t0 : Nat) (t1 : Int32) (t2 : Int32) (h : AH), w_X0_gatherFacts_210  v0 t0 t1 t2 h Q → V p l e s m args below meth c g 4 0 0 5 0 0 (MQ below (QCx g (QV Q)) args s 0 0 (gA g)) 210 [(0, .ref v0)] [.int t2, .int t1, .ref t0] h := by
  intro v0 t0 t1 t2 h hw
  refine w_iastore C dX0_gatherFacts_210 hw (fun h hw => ?_)
  refine v_aload_n C dX0_gatherFacts_211 0 rfl rfl ?_
  refine w_getN C fl_X0_9 dX0_gatherFacts_212 rfl hw (fun a1 hw => ?_)
  refine v_bipush (v := 8) C dX0_gatherFacts_215 (by decide) ?_
  refine v_aload_n C dX0_gatherFacts_217 0 rfl rfl ?_
  refine w_getN C fl_X0_9 dX0_gatherFacts_218 rfl hw (fun a2 hw => ?_)
  refine v_iconst (v := 1) C dX0_gatherFacts_221 (by decide) ?_
  refine w_iaload C dX0_gatherFacts_222 hw (fun x3 hw => ?_)
  refine v_if_ne (tgt := 230) C dX0_gatherFacts_223 (by decide) (fun c_223 => ?_) (fun c_223 => ?_)
  · have hw := hw.2 c_223
    refine v_iconst (v := 0) C dX0_gatherFacts_230 (by decide) ?_
    refine v_sub [] rfl ?_
    exact s_X0_gatherFacts_231 C hr  _ _ _ _ hw
  · have hw := hw.1 c_223
    refine v_iconst (v := 1) C dX0_gatherFacts_226 (by decide) ?_
    refine v_goto (tgt := 231) C dX0_gatherFacts_227 (by decide) ?_
    refine v_sub [] rfl ?_
    exact s_X0_gatherFacts_231 C hr  _ _ _ _ hw
set_option maxRecDepth 100000 in
set_option maxHeartbeats 4000000 in
theorem s_X0_gatherFacts_189 {p : Program} {l : Launch} {e : Env} {s : State} {m : MethodId} {args : Array Value} {below : List Frame} {meth : Method} {c : Code} {g : GG}  {Q : AH → Prop}  (C : CXT p l s m args meth c RX0 cX0_gatherFacts 5 g) (hr : meth.sig.returnType = none)  : ∀ (v0 : Nat) (t0 : Nat) (t1 : Int32) (t2 : Int32) (h : AH), w_X0_gatherFacts_189  v0 t0 t1 t2 h Q → V p l e s m args below meth c g 4 0 0 5 0 0 (MQ below (QCx g (QV Q)) args s 0 0 (gA g)) 189 [(0, .ref v0)] [.int t2, .int t1, .ref t0] h := by
  intro v0 t0 t1 t2 h hw
  refine w_iastore C dX0_gatherFacts_189 hw (fun h hw => ?_)
  refine v_aload_n C dX0_gatherFacts_190 0 rfl rfl ?_
  refine w_getN C fl_X0_9 dX0_gatherFacts_191 rfl hw (fun a1 hw => ?_)
  refine v_bipush (v := 7) C dX0_gatherFacts_194 (by decide) ?_
  refine v_aload_n C dX0_gatherFacts_196 0 rfl rfl ?_
  refine w_getN C fl_X0_9 dX0_gatherFacts_197 rfl hw (fun a2 hw => ?_)
  refine v_iconst (v := 5) C dX0_gatherFacts_200 (by decide) ?_
  refine w_iaload C dX0_gatherFacts_201 hw (fun x3 hw => ?_)
  refine v_if_le (tgt := 209) C dX0_gatherFacts_202 (by decide) (fun c_202 => ?_) (fun c_202 => ?_)
  · have hw := hw.1 c_202
    refine v_iconst (v := 0) C dX0_gatherFacts_209 (by decide) ?_
    exact s_X0_gatherFacts_210 C hr  _ _ _ _ _ hw
  · have hw := hw.2 c_202
    refine v_iconst (v := 1) C dX0_gatherFacts_205 (by decide) ?_
    refine v_goto (tgt := 210) C dX0_gatherFacts_206 (by decide) ?_
    exact s_X0_gatherFacts_210 C hr  _ _ _ _ _ hw
set_option maxRecDepth 100000 in
set_option maxHeartbeats 4000000 in
theorem s_X0_gatherFacts_160 {p : Program} {l : Launch} {e : Env} {s : State} {m : MethodId} {args : Array Value} {below : List Frame} {meth : Method} {c : Code} {g : GG}  {Q : AH → Prop}  (C : CXT p l s m args meth c RX0 cX0_gatherFacts 5 g) (hr : meth.sig.returnType = none)  : ∀ (v0 : Nat) (v2 : Nat) (v3 : Int32) (v4 : Int32) (t0 : Nat) (t1 : Int32) (t2 : Int32) (h : AH), w_X0_gatherFacts_160  v0 v2 v3 v4 t0 t1 t2 h Q → V p l e s m args below meth c g 4 0 0 5 0 0 (MQ below (QCx g (QV Q)) args s 0 0 (gA g)) 160 [(0, .ref v0), (2, .ref v2), (3, .int v3), (4, .int v4)] [.int t2, .int t1, .ref t0] h := by
  intro v0 v2 v3 v4 t0 t1 t2 h hw
  refine w_iastore C dX0_gatherFacts_160 hw (fun h hw => ?_)
  refine v_aload_n C dX0_gatherFacts_161 0 rfl rfl ?_
  refine w_getN C fl_X0_9 dX0_gatherFacts_162 rfl hw (fun a1 hw => ?_)
  refine v_bipush (v := 6) C dX0_gatherFacts_165 (by decide) ?_
  refine v_iload C dX0_gatherFacts_167 3 rfl ?_
  refine v_iconst (v := -1) C dX0_gatherFacts_169 (by decide) ?_
  refine v_icmp_ne (tgt := 178) C dX0_gatherFacts_170 (by decide) (fun c_170 => ?_) (fun c_170 => ?_)
  · have hw := hw.2 c_170
    refine v_iload_n C dX0_gatherFacts_178 2 rfl rfl ?_
    refine v_aload_n C dX0_gatherFacts_179 1 rfl rfl ?_
    refine w_getN C fl_X0_44 dX0_gatherFacts_180 rfl hw (fun a2 hw => ?_)
    refine v_iload C dX0_gatherFacts_183 3 rfl ?_
    refine w_iaload C dX0_gatherFacts_185 hw (fun x3 hw => ?_)
    refine w_callSi (st := [.int (6 : Int32), .ref a1]) C cl_X0_91 st_X3_far (s_X3_far hw) rfl dX0_gatherFacts_186 rfl (Nat.le_of_ble_eq_true rfl) (by decide) (by decide) (by decide) (by decide) (fun x4 h hw => ?_)
    refine v_sub [0] rfl ?_
    exact s_X0_gatherFacts_189 C hr  _ _ _ _ _ hw
  · have hw := hw.1 c_170
    refine v_bipush (v := 99) C dX0_gatherFacts_173 (by decide) ?_
    refine v_goto (tgt := 189) C dX0_gatherFacts_175 (by decide) ?_
    refine v_sub [0] rfl ?_
    exact s_X0_gatherFacts_189 C hr  _ _ _ _ _ hw
set_option maxRecDepth 100000 in
set_option maxHeartbeats 4000000 in
theorem s_X0_gatherFacts {l : Launch}  {v0 : Nat} {v1 : Int32} {h : AH} {Q : AH → Prop}  (hw : w_X0_gatherFacts  v0 v1 h Q) : CT l yX0_gatherFacts cX0_gatherFacts 5 none 4 0 0 [.ref v0, .int v1] h (QV Q) := by
  refine CT.of (by decide) ⟨rfl, ⟨rfl, trivial⟩⟩ (Nat.le_of_ble_eq_true rfl) ?_
  intro p e s m args below meth c g C hr hin
  refine v_eq (pc' := 0) (ls' := [(0, .ref v0), (1, .int v1)]) rfl rfl rfl rfl ?_
  refine v_aload_n C dX0_gatherFacts_0 0 rfl rfl ?_
  refine w_getN C fl_X0_15 dX0_gatherFacts_1 rfl hw (fun a1 hw => ?_)
  refine w_getN C fl_X0_25 dX0_gatherFacts_4 rfl hw (fun a2 hw => ?_)
  refine v_astore_n (ls' := [(2, .ref a2), (0, .ref v0), (1, .int v1)]) C dX0_gatherFacts_7 rfl (by decide) rfl ?_
  refine v_aload_n C dX0_gatherFacts_8 0 rfl rfl ?_
  refine w_getN C fl_X0_44 dX0_gatherFacts_9 rfl hw (fun a3 hw => ?_)
  refine v_iload_n C dX0_gatherFacts_12 2 rfl rfl ?_
  refine w_iaload C dX0_gatherFacts_13 hw (fun x4 hw => ?_)
  refine v_istore_n (ls' := [(3, .int x4), (2, .ref a2), (0, .ref v0), (1, .int v1)]) C dX0_gatherFacts_14 rfl (by decide) rfl ?_
  refine v_aload_n C dX0_gatherFacts_15 1 rfl rfl ?_
  refine v_iload_n C dX0_gatherFacts_16 3 rfl rfl ?_
  refine v_iload_n C dX0_gatherFacts_17 0 rfl rfl ?_
  refine v_iconst (v := 1) C dX0_gatherFacts_18 (by decide) ?_
  refine w_callVi (st := []) C cl_X0_47 im_X4_nearest se_X4_nearest rfl hw.1 (s_X4_nearest hw.2) rfl dX0_gatherFacts_19 rfl (by decide) (by decide) (by decide) (by decide) (by decide) (fun x5 h hw => ?_)
  refine v_istore (ls' := [(4, .int x5), (3, .int x4), (2, .ref a2), (0, .ref v0), (1, .int v1)]) C dX0_gatherFacts_22 (by decide) rfl ?_
  refine v_aload_n C dX0_gatherFacts_24 3 rfl rfl ?_
  refine w_getN C fl_X0_9 dX0_gatherFacts_25 rfl hw (fun a6 hw => ?_)
  refine v_iconst (v := 0) C dX0_gatherFacts_28 (by decide) ?_
  refine v_aload_n C dX0_gatherFacts_29 2 rfl rfl ?_
  refine v_iload_n C dX0_gatherFacts_30 4 rfl rfl ?_
  refine w_callVi (st := [.int (0 : Int32), .ref a6]) C cl_X0_51 im_X4_foesNear se_X4_foesNear rfl hw.1 (s_X4_foesNear hw.2) rfl dX0_gatherFacts_31 rfl (Nat.le_of_ble_eq_true rfl) (by decide) (by decide) (by decide) (by decide) (fun x7 h hw => ?_)
  refine w_iastore C dX0_gatherFacts_34 hw (fun h hw => ?_)
  refine v_aload_n C dX0_gatherFacts_35 3 rfl rfl ?_
  refine w_getN C fl_X0_9 dX0_gatherFacts_36 rfl hw (fun a8 hw => ?_)
  refine v_iconst (v := 1) C dX0_gatherFacts_39 (by decide) ?_
  refine v_aload_n C dX0_gatherFacts_40 2 rfl rfl ?_
  refine v_iload_n C dX0_gatherFacts_41 4 rfl rfl ?_
  refine w_callVi (st := [.int (1 : Int32), .ref a8]) C cl_X0_55 im_X4_friendsNear se_X4_friendsNear rfl hw.1 (s_X4_friendsNear hw.2) rfl dX0_gatherFacts_42 rfl (Nat.le_of_ble_eq_true rfl) (by decide) (by decide) (by decide) (by decide) (fun x9 h hw => ?_)
  refine w_iastore C dX0_gatherFacts_45 hw (fun h hw => ?_)
  refine v_aload_n C dX0_gatherFacts_46 2 rfl rfl ?_
  refine w_getN C fl_X0_58 dX0_gatherFacts_47 rfl hw (fun a10 hw => ?_)
  refine v_iload_n C dX0_gatherFacts_50 4 rfl rfl ?_
  refine v_iconst (v := 0) C dX0_gatherFacts_51 (by decide) ?_
  refine v_bipush (v := 9) C dX0_gatherFacts_52 (by decide) ?_
  refine v_aload_n C dX0_gatherFacts_54 2 rfl rfl ?_
  refine w_getN C fl_X0_58 dX0_gatherFacts_55 rfl hw (fun a11 hw => ?_)
  refine v_iload_n C dX0_gatherFacts_58 4 rfl rfl ?_
  refine w_iaload C dX0_gatherFacts_59 hw (fun x12 hw => ?_)
  refine v_aload_n C dX0_gatherFacts_60 3 rfl rfl ?_
  refine w_getN C fl_X0_9 dX0_gatherFacts_61 rfl hw (fun a13 hw => ?_)
  refine v_iconst (v := 0) C dX0_gatherFacts_64 (by decide) ?_
  refine w_iaload C dX0_gatherFacts_65 hw (fun x14 hw => ?_)
  refine v_iadd C dX0_gatherFacts_66 ?_
  refine v_aload_n C dX0_gatherFacts_67 3 rfl rfl ?_
  refine w_getN C fl_X0_9 dX0_gatherFacts_68 rfl hw (fun a15 hw => ?_)
  refine v_iconst (v := 1) C dX0_gatherFacts_71 (by decide) ?_
  refine w_iaload C dX0_gatherFacts_72 hw (fun x16 hw => ?_)
  refine v_isub C dX0_gatherFacts_73 ?_
  refine v_min C ml_X0_61 ms_min mi_math mc_min dX0_gatherFacts_74 (by decide) (Nat.le_of_ble_eq_true rfl) (by decide) (by decide) ?_
  refine v_max C ml_X0_67 ms_max mi_math mc_max dX0_gatherFacts_77 (by decide) (Nat.le_of_ble_eq_true rfl) (by decide) (by decide) ?_
  refine w_iastore C dX0_gatherFacts_80 hw (fun h hw => ?_)
  refine v_aload_n C dX0_gatherFacts_81 3 rfl rfl ?_
  refine w_getN C fl_X0_9 dX0_gatherFacts_82 rfl hw (fun a17 hw => ?_)
  refine v_iconst (v := 2) C dX0_gatherFacts_85 (by decide) ?_
  refine v_aload_n C dX0_gatherFacts_86 2 rfl rfl ?_
  refine w_getN C fl_X0_58 dX0_gatherFacts_87 rfl hw (fun a18 hw => ?_)
  refine v_iload_n C dX0_gatherFacts_90 4 rfl rfl ?_
  refine w_iaload C dX0_gatherFacts_91 hw (fun x19 hw => ?_)
  refine w_iastore C dX0_gatherFacts_92 hw (fun h hw => ?_)
  refine v_aload_n C dX0_gatherFacts_93 3 rfl rfl ?_
  refine w_getN C fl_X0_9 dX0_gatherFacts_94 rfl hw (fun a20 hw => ?_)
  refine v_iconst (v := 3) C dX0_gatherFacts_97 (by decide) ?_
  refine v_aload_n C dX0_gatherFacts_98 3 rfl rfl ?_
  refine w_getN C fl_X0_15 dX0_gatherFacts_99 rfl hw (fun a21 hw => ?_)
  refine w_getI C fl_X0_19 dX0_gatherFacts_102 rfl hw (fun x22 hw => ?_)
  refine w_iastore C dX0_gatherFacts_105 hw (fun h hw => ?_)
  refine v_aload_n C dX0_gatherFacts_106 3 rfl rfl ?_
  refine w_getN C fl_X0_9 dX0_gatherFacts_107 rfl hw (fun a23 hw => ?_)
  refine v_iconst (v := 4) C dX0_gatherFacts_110 (by decide) ?_
  refine v_aload_n C dX0_gatherFacts_111 3 rfl rfl ?_
  refine w_getN C fl_X0_15 dX0_gatherFacts_112 rfl hw (fun a24 hw => ?_)
  refine w_getN C fl_X0_70 dX0_gatherFacts_115 rfl hw (fun a25 hw => ?_)
  refine w_getN C fl_X0_74 dX0_gatherFacts_118 rfl hw (fun a26 hw => ?_)
  refine v_iload_n C dX0_gatherFacts_121 1 rfl rfl ?_
  refine w_iaload C dX0_gatherFacts_122 hw (fun x27 hw => ?_)
  refine w_iastore C dX0_gatherFacts_123 hw (fun h hw => ?_)
  refine v_aload_n C dX0_gatherFacts_124 3 rfl rfl ?_
  refine w_getN C fl_X0_9 dX0_gatherFacts_125 rfl hw (fun a28 hw => ?_)
  refine v_iconst (v := 5) C dX0_gatherFacts_128 (by decide) ?_
  refine v_aload_n C dX0_gatherFacts_129 2 rfl rfl ?_
  refine w_getN C fl_X0_79 dX0_gatherFacts_130 rfl hw (fun a29 hw => ?_)
  refine v_iload_n C dX0_gatherFacts_133 4 rfl rfl ?_
  refine w_iaload C dX0_gatherFacts_134 hw (fun x30 hw => ?_)
  refine v_iconst (v := -1) C dX0_gatherFacts_135 (by decide) ?_
  refine v_icmp_ne (tgt := 143) C dX0_gatherFacts_136 (by decide) (fun c_136 => ?_) (fun c_136 => ?_)
  · have hw := hw.2 c_136
    refine v_aload_n C dX0_gatherFacts_143 3 rfl rfl ?_
    refine w_getN C fl_X0_15 dX0_gatherFacts_144 rfl hw (fun a31 hw => ?_)
    refine w_getN C fl_X0_82 dX0_gatherFacts_147 rfl hw (fun a32 hw => ?_)
    refine w_getN C fl_X0_86 dX0_gatherFacts_150 rfl hw (fun a33 hw => ?_)
    refine v_aload_n C dX0_gatherFacts_153 2 rfl rfl ?_
    refine w_getN C fl_X0_79 dX0_gatherFacts_154 rfl hw (fun a34 hw => ?_)
    refine v_iload_n C dX0_gatherFacts_157 4 rfl rfl ?_
    refine w_iaload C dX0_gatherFacts_158 hw (fun x35 hw => ?_)
    refine w_iaload C dX0_gatherFacts_159 hw (fun x36 hw => ?_)
    refine v_sub [3, 2, 1, 0] rfl ?_
    exact s_X0_gatherFacts_160 C hr  _ _ _ _ _ _ _ _ hw
  · have hw := hw.1 c_136
    refine v_iconst (v := 0) C dX0_gatherFacts_139 (by decide) ?_
    refine v_goto (tgt := 160) C dX0_gatherFacts_140 (by decide) ?_
    refine v_sub [3, 2, 1, 0] rfl ?_
    exact s_X0_gatherFacts_160 C hr  _ _ _ _ _ _ _ _ hw
-- GrassField$Fight.shoot(I)V
theorem dX0_shoot_0 : decode cX0_shoot 0 = .ok (.aload_n 0, 1) := by decide +kernel
theorem dX0_shoot_1 : decode cX0_shoot 1 = .ok (.getfield 15, 3) := by decide +kernel
theorem dX0_shoot_4 : decode cX0_shoot 4 = .ok (.getfield 25, 3) := by decide +kernel
theorem dX0_shoot_7 : decode cX0_shoot 7 = .ok (.astore_n 2, 1) := by decide +kernel
theorem dX0_shoot_8 : decode cX0_shoot 8 = .ok (.aload_n 2, 1) := by decide +kernel
theorem dX0_shoot_9 : decode cX0_shoot 9 = .ok (.iload_n 1, 1) := by decide +kernel
theorem dX0_shoot_10 : decode cX0_shoot 10 = .ok (.aload_n 2, 1) := by decide +kernel
theorem dX0_shoot_11 : decode cX0_shoot 11 = .ok (.getfield 44, 3) := by decide +kernel
theorem dX0_shoot_14 : decode cX0_shoot 14 = .ok (.iload_n 1, 1) := by decide +kernel
theorem dX0_shoot_15 : decode cX0_shoot 15 = .ok (.iaload, 1) := by decide +kernel
theorem dX0_shoot_16 : decode cX0_shoot 16 = .ok (.iconst 1, 1) := by decide +kernel
theorem dX0_shoot_17 : decode cX0_shoot 17 = .ok (.invokevirtual 47, 3) := by decide +kernel
theorem dX0_shoot_20 : decode cX0_shoot 20 = .ok (.istore_n 3, 1) := by decide +kernel
theorem dX0_shoot_21 : decode cX0_shoot 21 = .ok (.aload_n 2, 1) := by decide +kernel
theorem dX0_shoot_22 : decode cX0_shoot 22 = .ok (.getfield 79, 3) := by decide +kernel
theorem dX0_shoot_25 : decode cX0_shoot 25 = .ok (.iload_n 1, 1) := by decide +kernel
theorem dX0_shoot_26 : decode cX0_shoot 26 = .ok (.iaload, 1) := by decide +kernel
theorem dX0_shoot_27 : decode cX0_shoot 27 = .ok (.istore 4, 2) := by decide +kernel
theorem dX0_shoot_29 : decode cX0_shoot 29 = .ok (.iload_n 3, 1) := by decide +kernel
theorem dX0_shoot_30 : decode cX0_shoot 30 = .ok (.iconst (-1), 1) := by decide +kernel
theorem dX0_shoot_31 : decode cX0_shoot 31 = .ok (.if_icmp .eq 25, 3) := by decide +kernel
theorem dX0_shoot_34 : decode cX0_shoot 34 = .ok (.iload 4, 2) := by decide +kernel
theorem dX0_shoot_36 : decode cX0_shoot 36 = .ok (.iconst (-1), 1) := by decide +kernel
theorem dX0_shoot_37 : decode cX0_shoot 37 = .ok (.if_icmp .eq 19, 3) := by decide +kernel
theorem dX0_shoot_40 : decode cX0_shoot 40 = .ok (.aload_n 0, 1) := by decide +kernel
theorem dX0_shoot_41 : decode cX0_shoot 41 = .ok (.getfield 15, 3) := by decide +kernel
theorem dX0_shoot_44 : decode cX0_shoot 44 = .ok (.getfield 82, 3) := by decide +kernel
theorem dX0_shoot_47 : decode cX0_shoot 47 = .ok (.getfield 86, 3) := by decide +kernel
theorem dX0_shoot_50 : decode cX0_shoot 50 = .ok (.iload 4, 2) := by decide +kernel
theorem dX0_shoot_52 : decode cX0_shoot 52 = .ok (.iaload, 1) := by decide +kernel
theorem dX0_shoot_53 : decode cX0_shoot 53 = .ok (.ifCond .ne 9, 3) := by decide +kernel
theorem dX0_shoot_56 : decode cX0_shoot 56 = .ok (.aload_n 0, 1) := by decide +kernel
theorem dX0_shoot_57 : decode cX0_shoot 57 = .ok (.iload_n 1, 1) := by decide +kernel
theorem dX0_shoot_58 : decode cX0_shoot 58 = .ok (.invokevirtual 106, 3) := by decide +kernel
theorem dX0_shoot_61 : decode cX0_shoot 61 = .ok (.return_, 1) := by decide +kernel
theorem dX0_shoot_62 : decode cX0_shoot 62 = .ok (.aload_n 0, 1) := by decide +kernel
theorem dX0_shoot_63 : decode cX0_shoot 63 = .ok (.getfield 15, 3) := by decide +kernel
theorem dX0_shoot_66 : decode cX0_shoot 66 = .ok (.getfield 19, 3) := by decide +kernel
theorem dX0_shoot_69 : decode cX0_shoot 69 = .ok (.bipush 10, 2) := by decide +kernel
theorem dX0_shoot_71 : decode cX0_shoot 71 = .ok (.irem, 1) := by decide +kernel
theorem dX0_shoot_72 : decode cX0_shoot 72 = .ok (.istore 5, 2) := by decide +kernel
theorem dX0_shoot_74 : decode cX0_shoot 74 = .ok (.aload_n 2, 1) := by decide +kernel
theorem dX0_shoot_75 : decode cX0_shoot 75 = .ok (.getfield 44, 3) := by decide +kernel
theorem dX0_shoot_78 : decode cX0_shoot 78 = .ok (.iload_n 3, 1) := by decide +kernel
theorem dX0_shoot_79 : decode cX0_shoot 79 = .ok (.iaload, 1) := by decide +kernel
theorem dX0_shoot_80 : decode cX0_shoot 80 = .ok (.istore 6, 2) := by decide +kernel
theorem dX0_shoot_82 : decode cX0_shoot 82 = .ok (.aload_n 0, 1) := by decide +kernel
theorem dX0_shoot_83 : decode cX0_shoot 83 = .ok (.getfield 15, 3) := by decide +kernel
theorem dX0_shoot_86 : decode cX0_shoot 86 = .ok (.getfield 82, 3) := by decide +kernel
theorem dX0_shoot_89 : decode cX0_shoot 89 = .ok (.getfield 86, 3) := by decide +kernel
theorem dX0_shoot_92 : decode cX0_shoot 92 = .ok (.iload 4, 2) := by decide +kernel
theorem dX0_shoot_94 : decode cX0_shoot 94 = .ok (.dup2, 1) := by decide +kernel
theorem dX0_shoot_95 : decode cX0_shoot 95 = .ok (.iaload, 1) := by decide +kernel
theorem dX0_shoot_96 : decode cX0_shoot 96 = .ok (.iconst 1, 1) := by decide +kernel
theorem dX0_shoot_97 : decode cX0_shoot 97 = .ok (.isub, 1) := by decide +kernel
theorem dX0_shoot_98 : decode cX0_shoot 98 = .ok (.iastore, 1) := by decide +kernel
theorem dX0_shoot_99 : decode cX0_shoot 99 = .ok (.aload_n 0, 1) := by decide +kernel
theorem dX0_shoot_100 : decode cX0_shoot 100 = .ok (.getfield 15, 3) := by decide +kernel
theorem dX0_shoot_103 : decode cX0_shoot 103 = .ok (.getfield 125, 3) := by decide +kernel
theorem dX0_shoot_106 : decode cX0_shoot 106 = .ok (.iconst 0, 1) := by decide +kernel
theorem dX0_shoot_107 : decode cX0_shoot 107 = .ok (.aload_n 2, 1) := by decide +kernel
theorem dX0_shoot_108 : decode cX0_shoot 108 = .ok (.getfield 44, 3) := by decide +kernel
theorem dX0_shoot_111 : decode cX0_shoot 111 = .ok (.iload_n 1, 1) := by decide +kernel
theorem dX0_shoot_112 : decode cX0_shoot 112 = .ok (.iaload, 1) := by decide +kernel
theorem dX0_shoot_113 : decode cX0_shoot 113 = .ok (.iload 5, 2) := by decide +kernel
theorem dX0_shoot_115 : decode cX0_shoot 115 = .ok (.iconst 1, 1) := by decide +kernel
theorem dX0_shoot_116 : decode cX0_shoot 116 = .ok (.aload_n 0, 1) := by decide +kernel
theorem dX0_shoot_117 : decode cX0_shoot 117 = .ok (.getfield 15, 3) := by decide +kernel
theorem dX0_shoot_120 : decode cX0_shoot 120 = .ok (.getfield 82, 3) := by decide +kernel
theorem dX0_shoot_123 : decode cX0_shoot 123 = .ok (.getfield 129, 3) := by decide +kernel
theorem dX0_shoot_126 : decode cX0_shoot 126 = .ok (.iload 4, 2) := by decide +kernel
theorem dX0_shoot_128 : decode cX0_shoot 128 = .ok (.iaload, 1) := by decide +kernel
theorem dX0_shoot_129 : decode cX0_shoot 129 = .ok (.ishl, 1) := by decide +kernel
theorem dX0_shoot_130 : decode cX0_shoot 130 = .ok (.invokevirtual 132, 3) := by decide +kernel
theorem dX0_shoot_133 : decode cX0_shoot 133 = .ok (.pop, 1) := by decide +kernel
theorem dX0_shoot_134 : decode cX0_shoot 134 = .ok (.aload_n 0, 1) := by decide +kernel
theorem dX0_shoot_135 : decode cX0_shoot 135 = .ok (.getfield 15, 3) := by decide +kernel
theorem dX0_shoot_138 : decode cX0_shoot 138 = .ok (.getfield 125, 3) := by decide +kernel
theorem dX0_shoot_141 : decode cX0_shoot 141 = .ok (.iconst 1, 1) := by decide +kernel
theorem dX0_shoot_142 : decode cX0_shoot 142 = .ok (.iload 6, 2) := by decide +kernel
theorem dX0_shoot_144 : decode cX0_shoot 144 = .ok (.iload 5, 2) := by decide +kernel
theorem dX0_shoot_146 : decode cX0_shoot 146 = .ok (.aload_n 2, 1) := by decide +kernel
theorem dX0_shoot_147 : decode cX0_shoot 147 = .ok (.getfield 138, 3) := by decide +kernel
theorem dX0_shoot_150 : decode cX0_shoot 150 = .ok (.iload_n 1, 1) := by decide +kernel
theorem dX0_shoot_151 : decode cX0_shoot 151 = .ok (.iaload, 1) := by decide +kernel
theorem dX0_shoot_152 : decode cX0_shoot 152 = .ok (.invokevirtual 132, 3) := by decide +kernel
theorem dX0_shoot_155 : decode cX0_shoot 155 = .ok (.pop, 1) := by decide +kernel
theorem dX0_shoot_156 : decode cX0_shoot 156 = .ok (.aload_n 0, 1) := by decide +kernel
theorem dX0_shoot_157 : decode cX0_shoot 157 = .ok (.invokevirtual 141, 3) := by decide +kernel
theorem dX0_shoot_160 : decode cX0_shoot 160 = .ok (.bipush 12, 2) := by decide +kernel
theorem dX0_shoot_162 : decode cX0_shoot 162 = .ok (.irem, 1) := by decide +kernel
theorem dX0_shoot_163 : decode cX0_shoot 163 = .ok (.bipush 10, 2) := by decide +kernel
theorem dX0_shoot_165 : decode cX0_shoot 165 = .ok (.aload_n 2, 1) := by decide +kernel
theorem dX0_shoot_166 : decode cX0_shoot 166 = .ok (.getfield 44, 3) := by decide +kernel
theorem dX0_shoot_169 : decode cX0_shoot 169 = .ok (.iload_n 1, 1) := by decide +kernel
theorem dX0_shoot_170 : decode cX0_shoot 170 = .ok (.iaload, 1) := by decide +kernel
theorem dX0_shoot_171 : decode cX0_shoot 171 = .ok (.iload 6, 2) := by decide +kernel
theorem dX0_shoot_173 : decode cX0_shoot 173 = .ok (.invokestatic 91, 3) := by decide +kernel
theorem dX0_shoot_176 : decode cX0_shoot 176 = .ok (.isub, 1) := by decide +kernel
theorem dX0_shoot_177 : decode cX0_shoot 177 = .ok (.if_icmp .ge 29, 3) := by decide +kernel
theorem dX0_shoot_180 : decode cX0_shoot 180 = .ok (.aload_n 0, 1) := by decide +kernel
theorem dX0_shoot_181 : decode cX0_shoot 181 = .ok (.getfield 15, 3) := by decide +kernel
theorem dX0_shoot_184 : decode cX0_shoot 184 = .ok (.getfield 125, 3) := by decide +kernel
theorem dX0_shoot_187 : decode cX0_shoot 187 = .ok (.iconst 2, 1) := by decide +kernel
theorem dX0_shoot_188 : decode cX0_shoot 188 = .ok (.iload 6, 2) := by decide +kernel
theorem dX0_shoot_190 : decode cX0_shoot 190 = .ok (.iload 5, 2) := by decide +kernel
theorem dX0_shoot_192 : decode cX0_shoot 192 = .ok (.iconst 1, 1) := by decide +kernel
theorem dX0_shoot_193 : decode cX0_shoot 193 = .ok (.iload_n 3, 1) := by decide +kernel
theorem dX0_shoot_194 : decode cX0_shoot 194 = .ok (.ishl, 1) := by decide +kernel
theorem dX0_shoot_195 : decode cX0_shoot 195 = .ok (.invokevirtual 132, 3) := by decide +kernel
theorem dX0_shoot_198 : decode cX0_shoot 198 = .ok (.pop, 1) := by decide +kernel
theorem dX0_shoot_199 : decode cX0_shoot 199 = .ok (.aload_n 2, 1) := by decide +kernel
theorem dX0_shoot_200 : decode cX0_shoot 200 = .ok (.getfield 34, 3) := by decide +kernel
theorem dX0_shoot_203 : decode cX0_shoot 203 = .ok (.iload_n 3, 1) := by decide +kernel
theorem dX0_shoot_204 : decode cX0_shoot 204 = .ok (.iconst 0, 1) := by decide +kernel
theorem dX0_shoot_205 : decode cX0_shoot 205 = .ok (.iastore, 1) := by decide +kernel
theorem dX0_shoot_206 : decode cX0_shoot 206 = .ok (.return_, 1) := by decide +kernel
def w_X0_shoot_206  (h : AH) (Q : AH → Prop) : Prop :=
  Q h
def w_X0_shoot_56  (v0 : Nat) (v1 : Int32) (h : AH) (Q : AH → Prop) : Prop :=
  vr h v0 0 (
  w_X0_calmDown v0 v1 h (fun h =>
  Q h))
def w_X0_shoot  (v0 : Nat) (v1 : Int32) (h : AH) (Q : AH → Prop) : Prop :=
  fN h v0 0 0 fun a1 =>
  fN h a1 7 2 fun a2 =>
  fN h a2 4 3 fun a3 =>
  aI h a3 v1 fun x4 =>
  vr h a2 4 (
  w_X4_nearest a2 v1 x4 (1 : Int32) h (fun x5 h =>
  fN h a2 4 1 fun a6 =>
  aI h a6 v1 fun x7 =>
  br (x5 = (-1 : Int32)) (
    w_X0_shoot_56 v0 v1 h Q) (
    br (x7 = (-1 : Int32)) (
      w_X0_shoot_56 v0 v1 h Q) (
      fN h v0 0 0 fun a8 =>
      fN h a8 7 1 fun a9 =>
      fN h a9 2 4 fun a10 =>
      aI h a10 x7 fun x11 =>
      br (x11 = 0) (
        w_X0_shoot_56 v0 v1 h Q) (
        fN h v0 0 0 fun a12 =>
        fI h a12 7 12 fun x13 =>
        bd (jrem x13 (10 : Int32)) fun x14 =>
        fN h a2 4 3 fun a15 =>
        aI h a15 x5 fun x16 =>
        fN h v0 0 0 fun a17 =>
        fN h a17 7 1 fun a18 =>
        fN h a18 2 4 fun a19 =>
        aI h a19 x7 fun x20 =>
        tI h a19 x7 (x20 - (1 : Int32)) fun h =>
        fN h v0 0 0 fun a21 =>
        fN h a21 7 3 fun a22 =>
        fN h a2 4 3 fun a23 =>
        aI h a23 v1 fun x24 =>
        fN h v0 0 0 fun a25 =>
        fN h a25 7 1 fun a26 =>
        fN h a26 2 2 fun a27 =>
        aI h a27 x7 fun x28 =>
        vr h a22 1 (
        w_X1_add a22 (0 : Int32) x24 x14 ((1 : Int32) <<< (x28 &&& 31)) h (fun x29 h =>
        fN h v0 0 0 fun a30 =>
        fN h a30 7 3 fun a31 =>
        fN h a2 4 2 fun a32 =>
        aI h a32 v1 fun x33 =>
        vr h a31 1 (
        w_X1_add a31 (1 : Int32) x16 x14 x33 h (fun x34 h =>
        vr h v0 0 (
        w_X0_draw v0 h (fun x35 h =>
        fN h a2 4 3 fun a36 =>
        aI h a36 v1 fun x37 =>
        w_X3_far x37 x16 h (fun x38 h =>
        br (((10 : Int32) - x38) ≤ (jrem x35 (12 : Int32))) (
          w_X0_shoot_206  h Q) (
          fN h v0 0 0 fun a39 =>
          fN h a39 7 3 fun a40 =>
          vr h a40 1 (
          w_X1_add a40 (2 : Int32) x16 x14 ((1 : Int32) <<< (x5 &&& 31)) h (fun x41 h =>
          fN h a2 4 6 fun a42 =>
          tI h a42 x5 (0 : Int32) fun h =>
          w_X0_shoot_206  h Q)))))))))))))))
set_option maxRecDepth 100000 in
set_option maxHeartbeats 4000000 in
theorem s_X0_shoot_206 {p : Program} {l : Launch} {e : Env} {s : State} {m : MethodId} {args : Array Value} {below : List Frame} {meth : Method} {c : Code} {g : GG}  {Q : AH → Prop}  (C : CXT p l s m args meth c RX0 cX0_shoot 7 g) (hr : meth.sig.returnType = none)  : ∀  (h : AH), w_X0_shoot_206  h Q → V p l e s m args below meth c g 3 0 0 7 0 0 (MQ below (QCx g (QV Q)) args s 0 0 (gA g)) 206 [] [] h := by
  intro  h hw
  exact (rt_MQ C _).2.2.1 _ _ _ _ _ hr dX0_shoot_206 (by decide) (by decide) ⟨rfl, hw⟩
set_option maxRecDepth 100000 in
set_option maxHeartbeats 4000000 in
theorem s_X0_shoot_56 {p : Program} {l : Launch} {e : Env} {s : State} {m : MethodId} {args : Array Value} {below : List Frame} {meth : Method} {c : Code} {g : GG}  {Q : AH → Prop}  (C : CXT p l s m args meth c RX0 cX0_shoot 7 g) (hr : meth.sig.returnType = none)  : ∀ (v0 : Nat) (v1 : Int32) (h : AH), w_X0_shoot_56  v0 v1 h Q → V p l e s m args below meth c g 3 0 0 7 0 0 (MQ below (QCx g (QV Q)) args s 0 0 (gA g)) 56 [(0, .ref v0), (1, .int v1)] [] h := by
  intro v0 v1 h hw
  refine v_aload_n C dX0_shoot_56 0 rfl rfl ?_
  refine v_iload_n C dX0_shoot_57 1 rfl rfl ?_
  refine w_callVv (st := []) C cl_X0_106 im_X0_calmDown se_X0_calmDown rfl hw.1 (s_X0_calmDown hw.2) rfl dX0_shoot_58 rfl (by decide) (by decide) (by decide) (by decide) (by decide) (fun h hw => ?_)
  exact (rt_MQ C _).2.2.1 _ _ _ _ _ hr dX0_shoot_61 (by decide) (by decide) ⟨rfl, hw⟩
set_option maxRecDepth 100000 in
set_option maxHeartbeats 4000000 in
theorem s_X0_shoot {l : Launch}  {v0 : Nat} {v1 : Int32} {h : AH} {Q : AH → Prop}  (hw : w_X0_shoot  v0 v1 h Q) : CT l yX0_shoot cX0_shoot 7 none 3 0 0 [.ref v0, .int v1] h (QV Q) := by
  refine CT.of (by decide) ⟨rfl, ⟨rfl, trivial⟩⟩ (Nat.le_of_ble_eq_true rfl) ?_
  intro p e s m args below meth c g C hr hin
  refine v_eq (pc' := 0) (ls' := [(0, .ref v0), (1, .int v1)]) rfl rfl rfl rfl ?_
  refine v_aload_n C dX0_shoot_0 0 rfl rfl ?_
  refine w_getN C fl_X0_15 dX0_shoot_1 rfl hw (fun a1 hw => ?_)
  refine w_getN C fl_X0_25 dX0_shoot_4 rfl hw (fun a2 hw => ?_)
  refine v_astore_n (ls' := [(2, .ref a2), (0, .ref v0), (1, .int v1)]) C dX0_shoot_7 rfl (by decide) rfl ?_
  refine v_aload_n C dX0_shoot_8 0 rfl rfl ?_
  refine v_iload_n C dX0_shoot_9 2 rfl rfl ?_
  refine v_aload_n C dX0_shoot_10 0 rfl rfl ?_
  refine w_getN C fl_X0_44 dX0_shoot_11 rfl hw (fun a3 hw => ?_)
  refine v_iload_n C dX0_shoot_14 2 rfl rfl ?_
  refine w_iaload C dX0_shoot_15 hw (fun x4 hw => ?_)
  refine v_iconst (v := 1) C dX0_shoot_16 (by decide) ?_
  refine w_callVi (st := []) C cl_X0_47 im_X4_nearest se_X4_nearest rfl hw.1 (s_X4_nearest hw.2) rfl dX0_shoot_17 rfl (by decide) (by decide) (by decide) (by decide) (by decide) (fun x5 h hw => ?_)
  refine v_istore_n (ls' := [(3, .int x5), (2, .ref a2), (0, .ref v0), (1, .int v1)]) C dX0_shoot_20 rfl (by decide) rfl ?_
  refine v_aload_n C dX0_shoot_21 1 rfl rfl ?_
  refine w_getN C fl_X0_79 dX0_shoot_22 rfl hw (fun a6 hw => ?_)
  refine v_iload_n C dX0_shoot_25 3 rfl rfl ?_
  refine w_iaload C dX0_shoot_26 hw (fun x7 hw => ?_)
  refine v_istore (ls' := [(4, .int x7), (3, .int x5), (2, .ref a2), (0, .ref v0), (1, .int v1)]) C dX0_shoot_27 (by decide) rfl ?_
  refine v_iload_n C dX0_shoot_29 1 rfl rfl ?_
  refine v_iconst (v := -1) C dX0_shoot_30 (by decide) ?_
  refine v_icmp_eq (tgt := 56) C dX0_shoot_31 (by decide) (fun c_31 => ?_) (fun c_31 => ?_)
  · have hw := hw.1 c_31
    refine v_sub [3, 4] rfl ?_
    exact s_X0_shoot_56 C hr  _ _ _ hw
  · have hw := hw.2 c_31
    refine v_iload C dX0_shoot_34 0 rfl ?_
    refine v_iconst (v := -1) C dX0_shoot_36 (by decide) ?_
    refine v_icmp_eq (tgt := 56) C dX0_shoot_37 (by decide) (fun c_37 => ?_) (fun c_37 => ?_)
    · have hw := hw.1 c_37
      refine v_sub [3, 4] rfl ?_
      exact s_X0_shoot_56 C hr  _ _ _ hw
    · have hw := hw.2 c_37
      refine v_aload_n C dX0_shoot_40 3 rfl rfl ?_
      refine w_getN C fl_X0_15 dX0_shoot_41 rfl hw (fun a8 hw => ?_)
      refine w_getN C fl_X0_82 dX0_shoot_44 rfl hw (fun a9 hw => ?_)
      refine w_getN C fl_X0_86 dX0_shoot_47 rfl hw (fun a10 hw => ?_)
      refine v_iload C dX0_shoot_50 0 rfl ?_
      refine w_iaload C dX0_shoot_52 hw (fun x11 hw => ?_)
      refine v_if_ne (tgt := 62) C dX0_shoot_53 (by decide) (fun c_53 => ?_) (fun c_53 => ?_)
      · have hw := hw.2 c_53
        refine v_aload_n C dX0_shoot_62 3 rfl rfl ?_
        refine w_getN C fl_X0_15 dX0_shoot_63 rfl hw (fun a12 hw => ?_)
        refine w_getI C fl_X0_19 dX0_shoot_66 rfl hw (fun x13 hw => ?_)
        refine v_bipush (v := 10) C dX0_shoot_69 (by decide) ?_
        refine v_irem C dX0_shoot_71 (by decide) ?_
        refine w_bd hw (fun x14 hw => ?_)
        refine v_istore (ls' := [(5, .int x14), (4, .int x7), (3, .int x5), (2, .ref a2), (0, .ref v0), (1, .int v1)]) C dX0_shoot_72 (by decide) rfl ?_
        refine v_aload_n C dX0_shoot_74 3 rfl rfl ?_
        refine w_getN C fl_X0_44 dX0_shoot_75 rfl hw (fun a15 hw => ?_)
        refine v_iload_n C dX0_shoot_78 2 rfl rfl ?_
        refine w_iaload C dX0_shoot_79 hw (fun x16 hw => ?_)
        refine v_istore (ls' := [(6, .int x16), (5, .int x14), (4, .int x7), (3, .int x5), (2, .ref a2), (0, .ref v0), (1, .int v1)]) C dX0_shoot_80 (by decide) rfl ?_
        refine v_aload_n C dX0_shoot_82 5 rfl rfl ?_
        refine w_getN C fl_X0_15 dX0_shoot_83 rfl hw (fun a17 hw => ?_)
        refine w_getN C fl_X0_82 dX0_shoot_86 rfl hw (fun a18 hw => ?_)
        refine w_getN C fl_X0_86 dX0_shoot_89 rfl hw (fun a19 hw => ?_)
        refine v_iload C dX0_shoot_92 2 rfl ?_
        refine v_dup2 C dX0_shoot_94 rfl rfl ?_
        refine w_iaload C dX0_shoot_95 hw (fun x20 hw => ?_)
        refine v_iconst (v := 1) C dX0_shoot_96 (by decide) ?_
        refine v_isub C dX0_shoot_97 ?_
        refine w_iastore C dX0_shoot_98 hw (fun h hw => ?_)
        refine v_aload_n C dX0_shoot_99 5 rfl rfl ?_
        refine w_getN C fl_X0_15 dX0_shoot_100 rfl hw (fun a21 hw => ?_)
        refine w_getN C fl_X0_125 dX0_shoot_103 rfl hw (fun a22 hw => ?_)
        refine v_iconst (v := 0) C dX0_shoot_106 (by decide) ?_
        refine v_aload_n C dX0_shoot_107 4 rfl rfl ?_
        refine w_getN C fl_X0_44 dX0_shoot_108 rfl hw (fun a23 hw => ?_)
        refine v_iload_n C dX0_shoot_111 6 rfl rfl ?_
        refine w_iaload C dX0_shoot_112 hw (fun x24 hw => ?_)
        refine v_iload C dX0_shoot_113 1 rfl ?_
        refine v_iconst (v := 1) C dX0_shoot_115 (by decide) ?_
        refine v_aload_n C dX0_shoot_116 5 rfl rfl ?_
        refine w_getN C fl_X0_15 dX0_shoot_117 rfl hw (fun a25 hw => ?_)
        refine w_getN C fl_X0_82 dX0_shoot_120 rfl hw (fun a26 hw => ?_)
        refine w_getN C fl_X0_129 dX0_shoot_123 rfl hw (fun a27 hw => ?_)
        refine v_iload C dX0_shoot_126 2 rfl ?_
        refine w_iaload C dX0_shoot_128 hw (fun x28 hw => ?_)
        refine v_ishl C dX0_shoot_129 ?_
        refine w_callVi (st := []) C cl_X0_132 im_X1_add se_X1_add rfl hw.1 (s_X1_add hw.2) rfl dX0_shoot_130 rfl (by decide) (by decide) (by decide) (by decide) (by decide) (fun x29 h hw => ?_)
        refine v_pop C dX0_shoot_133 rfl ?_
        refine v_aload_n C dX0_shoot_134 5 rfl rfl ?_
        refine w_getN C fl_X0_15 dX0_shoot_135 rfl hw (fun a30 hw => ?_)
        refine w_getN C fl_X0_125 dX0_shoot_138 rfl hw (fun a31 hw => ?_)
        refine v_iconst (v := 1) C dX0_shoot_141 (by decide) ?_
        refine v_iload C dX0_shoot_142 0 rfl ?_
        refine v_iload C dX0_shoot_144 1 rfl ?_
        refine v_aload_n C dX0_shoot_146 4 rfl rfl ?_
        refine w_getN C fl_X0_138 dX0_shoot_147 rfl hw (fun a32 hw => ?_)
        refine v_iload_n C dX0_shoot_150 6 rfl rfl ?_
        refine w_iaload C dX0_shoot_151 hw (fun x33 hw => ?_)
        refine w_callVi (st := []) C cl_X0_132 im_X1_add se_X1_add rfl hw.1 (s_X1_add hw.2) rfl dX0_shoot_152 rfl (by decide) (by decide) (by decide) (by decide) (by decide) (fun x34 h hw => ?_)
        refine v_pop C dX0_shoot_155 rfl ?_
        refine v_aload_n C dX0_shoot_156 5 rfl rfl ?_
        refine w_callVi (st := []) C cl_X0_141 im_X0_draw se_X0_draw rfl hw.1 (s_X0_draw hw.2) rfl dX0_shoot_157 rfl (by decide) (by decide) (by decide) (by decide) (by decide) (fun x35 h hw => ?_)
        refine v_bipush (v := 12) C dX0_shoot_160 (by decide) ?_
        refine v_irem C dX0_shoot_162 (by decide) ?_
        refine v_bipush (v := 10) C dX0_shoot_163 (by decide) ?_
        refine v_aload_n C dX0_shoot_165 4 rfl rfl ?_
        refine w_getN C fl_X0_44 dX0_shoot_166 rfl hw (fun a36 hw => ?_)
        refine v_iload_n C dX0_shoot_169 6 rfl rfl ?_
        refine w_iaload C dX0_shoot_170 hw (fun x37 hw => ?_)
        refine v_iload C dX0_shoot_171 0 rfl ?_
        refine w_callSi (st := [.int (10 : Int32), .int (jrem x35 (12 : Int32))]) C cl_X0_91 st_X3_far (s_X3_far hw) rfl dX0_shoot_173 rfl (Nat.le_of_ble_eq_true rfl) (by decide) (by decide) (by decide) (by decide) (fun x38 h hw => ?_)
        refine v_isub C dX0_shoot_176 ?_
        refine v_icmp_ge (tgt := 206) C dX0_shoot_177 (by decide) (fun c_177 => ?_) (fun c_177 => ?_)
        · have hw := hw.1 c_177
          refine v_sub [] rfl ?_
          exact s_X0_shoot_206 C hr   _ hw
        · have hw := hw.2 c_177
          refine v_aload_n C dX0_shoot_180 5 rfl rfl ?_
          refine w_getN C fl_X0_15 dX0_shoot_181 rfl hw (fun a39 hw => ?_)
          refine w_getN C fl_X0_125 dX0_shoot_184 rfl hw (fun a40 hw => ?_)
          refine v_iconst (v := 2) C dX0_shoot_187 (by decide) ?_
          refine v_iload C dX0_shoot_188 0 rfl ?_
          refine v_iload C dX0_shoot_190 1 rfl ?_
          refine v_iconst (v := 1) C dX0_shoot_192 (by decide) ?_
          refine v_iload_n C dX0_shoot_193 3 rfl rfl ?_
          refine v_ishl C dX0_shoot_194 ?_
          refine w_callVi (st := []) C cl_X0_132 im_X1_add se_X1_add rfl hw.1 (s_X1_add hw.2) rfl dX0_shoot_195 rfl (by decide) (by decide) (by decide) (by decide) (by decide) (fun x41 h hw => ?_)
          refine v_pop C dX0_shoot_198 rfl ?_
          refine v_aload_n C dX0_shoot_199 4 rfl rfl ?_
          refine w_getN C fl_X0_34 dX0_shoot_200 rfl hw (fun a42 hw => ?_)
          refine v_iload_n C dX0_shoot_203 3 rfl rfl ?_
          refine v_iconst (v := 0) C dX0_shoot_204 (by decide) ?_
          refine w_iastore C dX0_shoot_205 hw (fun h hw => ?_)
          refine v_sub [] rfl ?_
          exact s_X0_shoot_206 C hr   _ hw
      · have hw := hw.1 c_53
        refine v_sub [3, 4] rfl ?_
        exact s_X0_shoot_56 C hr  _ _ _ hw
-- GrassField$Fight.join(I)V
theorem dX0_join_0 : decode cX0_join 0 = .ok (.aload_n 0, 1) := by decide +kernel
theorem dX0_join_1 : decode cX0_join 1 = .ok (.getfield 15, 3) := by decide +kernel
theorem dX0_join_4 : decode cX0_join 4 = .ok (.getfield 25, 3) := by decide +kernel
theorem dX0_join_7 : decode cX0_join 7 = .ok (.iload_n 1, 1) := by decide +kernel
theorem dX0_join_8 : decode cX0_join 8 = .ok (.aload_n 0, 1) := by decide +kernel
theorem dX0_join_9 : decode cX0_join 9 = .ok (.getfield 15, 3) := by decide +kernel
theorem dX0_join_12 : decode cX0_join 12 = .ok (.getfield 25, 3) := by decide +kernel
theorem dX0_join_15 : decode cX0_join 15 = .ok (.getfield 44, 3) := by decide +kernel
theorem dX0_join_18 : decode cX0_join 18 = .ok (.iload_n 1, 1) := by decide +kernel
theorem dX0_join_19 : decode cX0_join 19 = .ok (.iaload, 1) := by decide +kernel
theorem dX0_join_20 : decode cX0_join 20 = .ok (.iconst 0, 1) := by decide +kernel
theorem dX0_join_21 : decode cX0_join 21 = .ok (.invokevirtual 47, 3) := by decide +kernel
theorem dX0_join_24 : decode cX0_join 24 = .ok (.istore_n 2, 1) := by decide +kernel
theorem dX0_join_25 : decode cX0_join 25 = .ok (.iload_n 2, 1) := by decide +kernel
theorem dX0_join_26 : decode cX0_join 26 = .ok (.iconst (-1), 1) := by decide +kernel
theorem dX0_join_27 : decode cX0_join 27 = .ok (.if_icmp .ne 4, 3) := by decide +kernel
theorem dX0_join_30 : decode cX0_join 30 = .ok (.return_, 1) := by decide +kernel
theorem dX0_join_31 : decode cX0_join 31 = .ok (.aload_n 0, 1) := by decide +kernel
theorem dX0_join_32 : decode cX0_join 32 = .ok (.getfield 15, 3) := by decide +kernel
theorem dX0_join_35 : decode cX0_join 35 = .ok (.getfield 25, 3) := by decide +kernel
theorem dX0_join_38 : decode cX0_join 38 = .ok (.getfield 44, 3) := by decide +kernel
theorem dX0_join_41 : decode cX0_join 41 = .ok (.iload_n 2, 1) := by decide +kernel
theorem dX0_join_42 : decode cX0_join 42 = .ok (.iaload, 1) := by decide +kernel
theorem dX0_join_43 : decode cX0_join 43 = .ok (.istore_n 3, 1) := by decide +kernel
theorem dX0_join_44 : decode cX0_join 44 = .ok (.aload_n 0, 1) := by decide +kernel
theorem dX0_join_45 : decode cX0_join 45 = .ok (.getfield 15, 3) := by decide +kernel
theorem dX0_join_48 : decode cX0_join 48 = .ok (.getfield 25, 3) := by decide +kernel
theorem dX0_join_51 : decode cX0_join 51 = .ok (.getfield 44, 3) := by decide +kernel
theorem dX0_join_54 : decode cX0_join 54 = .ok (.iload_n 1, 1) := by decide +kernel
theorem dX0_join_55 : decode cX0_join 55 = .ok (.iaload, 1) := by decide +kernel
theorem dX0_join_56 : decode cX0_join 56 = .ok (.istore 4, 2) := by decide +kernel
theorem dX0_join_58 : decode cX0_join 58 = .ok (.sipush 256, 3) := by decide +kernel
theorem dX0_join_61 : decode cX0_join 61 = .ok (.istore 5, 2) := by decide +kernel
theorem dX0_join_63 : decode cX0_join 63 = .ok (.iconst 0, 1) := by decide +kernel
theorem dX0_join_64 : decode cX0_join 64 = .ok (.istore 6, 2) := by decide +kernel
theorem dX0_join_66 : decode cX0_join 66 = .ok (.iload 6, 2) := by decide +kernel
theorem dX0_join_68 : decode cX0_join 68 = .ok (.bipush 9, 2) := by decide +kernel
theorem dX0_join_70 : decode cX0_join 70 = .ok (.if_icmp .ge 57, 3) := by decide +kernel
theorem dX0_join_73 : decode cX0_join 73 = .ok (.aload_n 0, 1) := by decide +kernel
theorem dX0_join_74 : decode cX0_join 74 = .ok (.getfield 15, 3) := by decide +kernel
theorem dX0_join_77 : decode cX0_join 77 = .ok (.getfield 25, 3) := by decide +kernel
theorem dX0_join_80 : decode cX0_join 80 = .ok (.getfield 44, 3) := by decide +kernel
theorem dX0_join_83 : decode cX0_join 83 = .ok (.iload_n 1, 1) := by decide +kernel
theorem dX0_join_84 : decode cX0_join 84 = .ok (.iaload, 1) := by decide +kernel
theorem dX0_join_85 : decode cX0_join 85 = .ok (.iload 6, 2) := by decide +kernel
theorem dX0_join_87 : decode cX0_join 87 = .ok (.invokestatic 149, 3) := by decide +kernel
theorem dX0_join_90 : decode cX0_join 90 = .ok (.istore 7, 2) := by decide +kernel
theorem dX0_join_92 : decode cX0_join 92 = .ok (.iload 7, 2) := by decide +kernel
theorem dX0_join_94 : decode cX0_join 94 = .ok (.iconst (-1), 1) := by decide +kernel
theorem dX0_join_95 : decode cX0_join 95 = .ok (.if_icmp .eq 26, 3) := by decide +kernel
theorem dX0_join_98 : decode cX0_join 98 = .ok (.iload 7, 2) := by decide +kernel
theorem dX0_join_100 : decode cX0_join 100 = .ok (.iload_n 3, 1) := by decide +kernel
theorem dX0_join_101 : decode cX0_join 101 = .ok (.invokestatic 91, 3) := by decide +kernel
theorem dX0_join_104 : decode cX0_join 104 = .ok (.iload 5, 2) := by decide +kernel
theorem dX0_join_106 : decode cX0_join 106 = .ok (.if_icmp .ge 15, 3) := by decide +kernel
theorem dX0_join_109 : decode cX0_join 109 = .ok (.iload 7, 2) := by decide +kernel
theorem dX0_join_111 : decode cX0_join 111 = .ok (.iload_n 3, 1) := by decide +kernel
theorem dX0_join_112 : decode cX0_join 112 = .ok (.invokestatic 91, 3) := by decide +kernel
theorem dX0_join_115 : decode cX0_join 115 = .ok (.istore 5, 2) := by decide +kernel
theorem dX0_join_117 : decode cX0_join 117 = .ok (.iload 7, 2) := by decide +kernel
theorem dX0_join_119 : decode cX0_join 119 = .ok (.istore 4, 2) := by decide +kernel
theorem dX0_join_121 : decode cX0_join 121 = .ok (.iinc 6 1, 3) := by decide +kernel
theorem dX0_join_124 : decode cX0_join 124 = .ok (.goto (-58), 3) := by decide +kernel
theorem dX0_join_127 : decode cX0_join 127 = .ok (.aload_n 0, 1) := by decide +kernel
theorem dX0_join_128 : decode cX0_join 128 = .ok (.getfield 15, 3) := by decide +kernel
theorem dX0_join_131 : decode cX0_join 131 = .ok (.getfield 25, 3) := by decide +kernel
theorem dX0_join_134 : decode cX0_join 134 = .ok (.getfield 44, 3) := by decide +kernel
theorem dX0_join_137 : decode cX0_join 137 = .ok (.iload_n 1, 1) := by decide +kernel
theorem dX0_join_138 : decode cX0_join 138 = .ok (.iload 4, 2) := by decide +kernel
theorem dX0_join_140 : decode cX0_join 140 = .ok (.iastore, 1) := by decide +kernel
theorem dX0_join_141 : decode cX0_join 141 = .ok (.return_, 1) := by decide +kernel
def w_X0_join_127  (v0 : Nat) (v1 : Int32) (v4 : Int32) (h : AH) (Q : AH → Prop) : Prop :=
  fN h v0 0 0 fun a1 =>
  fN h a1 7 2 fun a2 =>
  fN h a2 4 3 fun a3 =>
  tI h a3 v1 v4 fun h =>
  Q h
def w_X0_join_121  (x127 : Int32 → AH → Prop) (k : Int32 → Int32 → Int32 → AH → Prop) (v0 : Nat) (v1 : Int32) (v3 : Int32) (v4 : Int32) (v5 : Int32) (v6 : Int32) (h : AH) (Q : AH → Prop) : Prop :=
  k v4 v5 (v6 + 1) h
def w_X0_join_66  (x127 : Int32 → AH → Prop) (k : Int32 → Int32 → Int32 → AH → Prop) (v0 : Nat) (v1 : Int32) (v3 : Int32) (v4 : Int32) (v5 : Int32) (v6 : Int32) (h : AH) (Q : AH → Prop) : Prop :=
  br ((9 : Int32) ≤ v6) (
    x127 v4 h) (
    fN h v0 0 0 fun a1 =>
    fN h a1 7 2 fun a2 =>
    fN h a2 4 3 fun a3 =>
    aI h a3 v1 fun x4 =>
    w_X0_besideOf x4 v6 h (fun x5 h =>
    br (x5 = (-1 : Int32)) (
      w_X0_join_121 x127 k v0 v1 v3 v4 v5 v6 h Q) (
      w_X3_far x5 v3 h (fun x6 h =>
      br (v5 ≤ x6) (
        w_X0_join_121 x127 k v0 v1 v3 v4 v5 v6 h Q) (
        w_X3_far x5 v3 h (fun x7 h =>
        w_X0_join_121 x127 k v0 v1 v3 x5 x7 v6 h Q))))))
def w_X0_join  (v0 : Nat) (v1 : Int32) (h : AH) (Q : AH → Prop) : Prop :=
  fN h v0 0 0 fun a1 =>
  fN h a1 7 2 fun a2 =>
  fN h v0 0 0 fun a3 =>
  fN h a3 7 2 fun a4 =>
  fN h a4 4 3 fun a5 =>
  aI h a5 v1 fun x6 =>
  vr h a2 4 (
  w_X4_nearest a2 v1 x6 (0 : Int32) h (fun x7 h =>
  br (x7 = (-1 : Int32)) (
    Q h) (
    fN h v0 0 0 fun a8 =>
    fN h a8 7 2 fun a9 =>
    fN h a9 4 3 fun a10 =>
    aI h a10 x7 fun x11 =>
    fN h v0 0 0 fun a12 =>
    fN h a12 7 2 fun a13 =>
    fN h a13 4 3 fun a14 =>
    aI h a14 v1 fun x15 =>
    lp (fun (k2 : Int32 × Int32 × Int32 × AH → Prop) (s2 : Int32 × Int32 × Int32 × AH) => w_X0_join_66  (fun (y4 : Int32) h => w_X0_join_127 v0 v1 y4 h Q) (fun (y4 : Int32) (y5 : Int32) (y6 : Int32) h => k2 (y4, y5, y6, h)) v0 v1 x11 s2.1 s2.2.1 s2.2.2.1 s2.2.2.2 Q) (x15, (256 : Int32), (0 : Int32), h))))
set_option maxRecDepth 100000 in
set_option maxHeartbeats 4000000 in
theorem s_X0_join_127 {p : Program} {l : Launch} {e : Env} {s : State} {m : MethodId} {args : Array Value} {below : List Frame} {meth : Method} {c : Code} {g : GG}  {Q : AH → Prop}  (C : CXT p l s m args meth c RX0 cX0_join 8 g) (hr : meth.sig.returnType = none)  : ∀ (v0 : Nat) (v1 : Int32) (v4 : Int32) (h : AH), w_X0_join_127  v0 v1 v4 h Q → V p l e s m args below meth c g 3 0 0 8 0 0 (MQ below (QCx g (QV Q)) args s 0 0 (gA g)) 127 [(0, .ref v0), (1, .int v1), (4, .int v4)] [] h := by
  intro v0 v1 v4 h hw
  refine v_aload_n C dX0_join_127 0 rfl rfl ?_
  refine w_getN C fl_X0_15 dX0_join_128 rfl hw (fun a1 hw => ?_)
  refine w_getN C fl_X0_25 dX0_join_131 rfl hw (fun a2 hw => ?_)
  refine w_getN C fl_X0_44 dX0_join_134 rfl hw (fun a3 hw => ?_)
  refine v_iload_n C dX0_join_137 1 rfl rfl ?_
  refine v_iload C dX0_join_138 2 rfl ?_
  refine w_iastore C dX0_join_140 hw (fun h hw => ?_)
  exact (rt_MQ C _).2.2.1 _ _ _ _ _ hr dX0_join_141 (by decide) (by decide) ⟨rfl, hw⟩
set_option maxRecDepth 100000 in
set_option maxHeartbeats 4000000 in
theorem s_X0_join_121 {p : Program} {l : Launch} {e : Env} {s : State} {m : MethodId} {args : Array Value} {below : List Frame} {meth : Method} {c : Code} {g : GG} {v0 : Nat} {v1 : Int32} {v3 : Int32} {Q : AH → Prop} {x127 : Int32 → AH → Prop} {k : Int32 → Int32 → Int32 → AH → Prop} (C : CXT p l s m args meth c RX0 cX0_join 8 g) (hr : meth.sig.returnType = none) (hx127 : ∀ (y4 : Int32) (h : AH), x127 y4 h → V p l e s m args below meth c g 3 0 0 8 0 0 (MQ below (QCx g (QV Q)) args s 0 0 (gA g)) 127 [(0, .ref v0), (1, .int v1), (4, .int y4)] [] h) (hk : ∀ (y4 : Int32) (y5 : Int32) (y6 : Int32) (h : AH), k y4 y5 y6 h → V p l e s m args below meth c g 3 0 0 8 0 0 (MQ below (QCx g (QV Q)) args s 0 0 (gA g)) 66 [(0, .ref v0), (1, .int v1), (3, .int v3), (4, .int y4), (5, .int y5), (6, .int y6)] [] h) : ∀ (v4 : Int32) (v5 : Int32) (v6 : Int32) (h : AH), w_X0_join_121  x127 k v0 v1 v3 v4 v5 v6 h Q → V p l e s m args below meth c g 3 0 0 8 0 0 (MQ below (QCx g (QV Q)) args s 0 0 (gA g)) 121 [(0, .ref v0), (1, .int v1), (3, .int v3), (4, .int v4), (5, .int v5), (6, .int v6)] [] h := by
  intro v4 v5 v6 h hw
  refine v_iinc (v := 1) (ls' := [(6, .int (v6 + 1)), (0, .ref v0), (1, .int v1), (3, .int v3), (4, .int v4), (5, .int v5)]) C dX0_join_121 5 rfl (by decide) (by decide) rfl ?_
  refine v_goto (tgt := 66) C dX0_join_124 (by decide) ?_
  refine v_sub [1, 2, 3, 4, 5, 0] rfl ?_
  exact hk _ _ _ _ hw
set_option maxRecDepth 100000 in
set_option maxHeartbeats 4000000 in
theorem s_X0_join_66 {p : Program} {l : Launch} {e : Env} {s : State} {m : MethodId} {args : Array Value} {below : List Frame} {meth : Method} {c : Code} {g : GG} {v0 : Nat} {v1 : Int32} {v3 : Int32} {Q : AH → Prop} {x127 : Int32 → AH → Prop} {k : Int32 → Int32 → Int32 → AH → Prop} (C : CXT p l s m args meth c RX0 cX0_join 8 g) (hr : meth.sig.returnType = none) (hx127 : ∀ (y4 : Int32) (h : AH), x127 y4 h → V p l e s m args below meth c g 3 0 0 8 0 0 (MQ below (QCx g (QV Q)) args s 0 0 (gA g)) 127 [(0, .ref v0), (1, .int v1), (4, .int y4)] [] h) (hk : ∀ (y4 : Int32) (y5 : Int32) (y6 : Int32) (h : AH), k y4 y5 y6 h → V p l e s m args below meth c g 3 0 0 8 0 0 (MQ below (QCx g (QV Q)) args s 0 0 (gA g)) 66 [(0, .ref v0), (1, .int v1), (3, .int v3), (4, .int y4), (5, .int y5), (6, .int y6)] [] h) : ∀ (v4 : Int32) (v5 : Int32) (v6 : Int32) (h : AH), w_X0_join_66  x127 k v0 v1 v3 v4 v5 v6 h Q → V p l e s m args below meth c g 3 0 0 8 0 0 (MQ below (QCx g (QV Q)) args s 0 0 (gA g)) 66 [(0, .ref v0), (1, .int v1), (3, .int v3), (4, .int v4), (5, .int v5), (6, .int v6)] [] h := by
  intro v4 v5 v6 h hw
  refine v_iload C dX0_join_66 5 rfl ?_
  refine v_bipush (v := 9) C dX0_join_68 (by decide) ?_
  refine v_icmp_ge (tgt := 127) C dX0_join_70 (by decide) (fun c_70 => ?_) (fun c_70 => ?_)
  · have hw := hw.1 c_70
    refine v_sub [0, 1, 3] rfl ?_
    exact hx127 _ _ hw
  · have hw := hw.2 c_70
    refine v_aload_n C dX0_join_73 0 rfl rfl ?_
    refine w_getN C fl_X0_15 dX0_join_74 rfl hw (fun a1 hw => ?_)
    refine w_getN C fl_X0_25 dX0_join_77 rfl hw (fun a2 hw => ?_)
    refine w_getN C fl_X0_44 dX0_join_80 rfl hw (fun a3 hw => ?_)
    refine v_iload_n C dX0_join_83 1 rfl rfl ?_
    refine w_iaload C dX0_join_84 hw (fun x4 hw => ?_)
    refine v_iload C dX0_join_85 5 rfl ?_
    refine w_callSi (st := []) C cl_X0_149 st_X0_besideOf (s_X0_besideOf hw) rfl dX0_join_87 rfl (by decide) (by decide) (by decide) (by decide) (by decide) (fun x5 h hw => ?_)
    refine v_istore (ls' := [(7, .int x5), (0, .ref v0), (1, .int v1), (3, .int v3), (4, .int v4), (5, .int v5), (6, .int v6)]) C dX0_join_90 (by decide) rfl ?_
    refine v_iload C dX0_join_92 0 rfl ?_
    refine v_iconst (v := -1) C dX0_join_94 (by decide) ?_
    refine v_icmp_eq (tgt := 121) C dX0_join_95 (by decide) (fun c_95 => ?_) (fun c_95 => ?_)
    · have hw := hw.1 c_95
      refine v_sub [1, 2, 3, 4, 5, 6] rfl ?_
      exact s_X0_join_121 C hr hx127 hk _ _ _ _ hw
    · have hw := hw.2 c_95
      refine v_iload C dX0_join_98 0 rfl ?_
      refine v_iload_n C dX0_join_100 3 rfl rfl ?_
      refine w_callSi (st := []) C cl_X0_91 st_X3_far (s_X3_far hw) rfl dX0_join_101 rfl (by decide) (by decide) (by decide) (by decide) (by decide) (fun x6 h hw => ?_)
      refine v_iload C dX0_join_104 5 rfl ?_
      refine v_icmp_ge (tgt := 121) C dX0_join_106 (by decide) (fun c_106 => ?_) (fun c_106 => ?_)
      · have hw := hw.1 c_106
        refine v_sub [1, 2, 3, 4, 5, 6] rfl ?_
        exact s_X0_join_121 C hr hx127 hk _ _ _ _ hw
      · have hw := hw.2 c_106
        refine v_iload C dX0_join_109 0 rfl ?_
        refine v_iload_n C dX0_join_111 3 rfl rfl ?_
        refine w_callSi (st := []) C cl_X0_91 st_X3_far (s_X3_far hw) rfl dX0_join_112 rfl (by decide) (by decide) (by decide) (by decide) (by decide) (fun x7 h hw => ?_)
        refine v_istore (ls' := [(5, .int x7), (7, .int x5), (0, .ref v0), (1, .int v1), (3, .int v3), (4, .int v4), (6, .int v6)]) C dX0_join_115 (by decide) rfl ?_
        refine v_iload C dX0_join_117 1 rfl ?_
        refine v_istore (ls' := [(4, .int x5), (5, .int x7), (7, .int x5), (0, .ref v0), (1, .int v1), (3, .int v3), (6, .int v6)]) C dX0_join_119 (by decide) rfl ?_
        refine v_sub [3, 4, 5, 0, 1, 6] rfl ?_
        exact s_X0_join_121 C hr hx127 hk _ _ _ _ hw
set_option maxRecDepth 100000 in
set_option maxHeartbeats 4000000 in
theorem s_X0_join {l : Launch}  {v0 : Nat} {v1 : Int32} {h : AH} {Q : AH → Prop}  (hw : w_X0_join  v0 v1 h Q) : CT l yX0_join cX0_join 8 none 3 0 0 [.ref v0, .int v1] h (QV Q) := by
  refine CT.of (by decide) ⟨rfl, ⟨rfl, trivial⟩⟩ (Nat.le_of_ble_eq_true rfl) ?_
  intro p e s m args below meth c g C hr hin
  refine v_eq (pc' := 0) (ls' := [(0, .ref v0), (1, .int v1)]) rfl rfl rfl rfl ?_
  refine v_aload_n C dX0_join_0 0 rfl rfl ?_
  refine w_getN C fl_X0_15 dX0_join_1 rfl hw (fun a1 hw => ?_)
  refine w_getN C fl_X0_25 dX0_join_4 rfl hw (fun a2 hw => ?_)
  refine v_iload_n C dX0_join_7 1 rfl rfl ?_
  refine v_aload_n C dX0_join_8 0 rfl rfl ?_
  refine w_getN C fl_X0_15 dX0_join_9 rfl hw (fun a3 hw => ?_)
  refine w_getN C fl_X0_25 dX0_join_12 rfl hw (fun a4 hw => ?_)
  refine w_getN C fl_X0_44 dX0_join_15 rfl hw (fun a5 hw => ?_)
  refine v_iload_n C dX0_join_18 1 rfl rfl ?_
  refine w_iaload C dX0_join_19 hw (fun x6 hw => ?_)
  refine v_iconst (v := 0) C dX0_join_20 (by decide) ?_
  refine w_callVi (st := []) C cl_X0_47 im_X4_nearest se_X4_nearest rfl hw.1 (s_X4_nearest hw.2) rfl dX0_join_21 rfl (by decide) (by decide) (by decide) (by decide) (by decide) (fun x7 h hw => ?_)
  refine v_istore_n (ls' := [(2, .int x7), (0, .ref v0), (1, .int v1)]) C dX0_join_24 rfl (by decide) rfl ?_
  refine v_iload_n C dX0_join_25 0 rfl rfl ?_
  refine v_iconst (v := -1) C dX0_join_26 (by decide) ?_
  refine v_icmp_ne (tgt := 31) C dX0_join_27 (by decide) (fun c_27 => ?_) (fun c_27 => ?_)
  · have hw := hw.2 c_27
    refine v_aload_n C dX0_join_31 1 rfl rfl ?_
    refine w_getN C fl_X0_15 dX0_join_32 rfl hw (fun a8 hw => ?_)
    refine w_getN C fl_X0_25 dX0_join_35 rfl hw (fun a9 hw => ?_)
    refine w_getN C fl_X0_44 dX0_join_38 rfl hw (fun a10 hw => ?_)
    refine v_iload_n C dX0_join_41 0 rfl rfl ?_
    refine w_iaload C dX0_join_42 hw (fun x11 hw => ?_)
    refine v_istore_n (ls' := [(3, .int x11), (2, .int x7), (0, .ref v0), (1, .int v1)]) C dX0_join_43 rfl (by decide) rfl ?_
    refine v_aload_n C dX0_join_44 2 rfl rfl ?_
    refine w_getN C fl_X0_15 dX0_join_45 rfl hw (fun a12 hw => ?_)
    refine w_getN C fl_X0_25 dX0_join_48 rfl hw (fun a13 hw => ?_)
    refine w_getN C fl_X0_44 dX0_join_51 rfl hw (fun a14 hw => ?_)
    refine v_iload_n C dX0_join_54 3 rfl rfl ?_
    refine w_iaload C dX0_join_55 hw (fun x15 hw => ?_)
    refine v_istore (ls' := [(4, .int x15), (3, .int x11), (2, .int x7), (0, .ref v0), (1, .int v1)]) C dX0_join_56 (by decide) rfl ?_
    refine v_sipush (v := 256) C dX0_join_58 (by decide) ?_
    refine v_istore (ls' := [(5, .int (256 : Int32)), (4, .int x15), (3, .int x11), (2, .int x7), (0, .ref v0), (1, .int v1)]) C dX0_join_61 (by decide) rfl ?_
    refine v_iconst (v := 0) C dX0_join_63 (by decide) ?_
    refine v_istore (ls' := [(6, .int (0 : Int32)), (5, .int (256 : Int32)), (4, .int x15), (3, .int x11), (2, .int x7), (0, .ref v0), (1, .int v1)]) C dX0_join_64 (by decide) rfl ?_
    refine v_sub [5, 6, 3, 2, 1, 0] rfl ?_
    refine lp_walk (P := fun (s' : Int32 × Int32 × Int32 × AH) => V p l e s m args below meth c g 3 0 0 8 0 0 (MQ below (QCx g (QV Q)) args s 0 0 (gA g)) 66 [(0, .ref v0), (1, .int v1), (3, .int x11), (4, .int (s'.1)), (5, .int (s'.2.1)), (6, .int (s'.2.2.1))] [] s'.2.2.2) (fun k2 hk2 s' hw => ?_) (x15, (256 : Int32), (0 : Int32), h) hw
    exact s_X0_join_66 C hr (fun y4 h hw => s_X0_join_127 C hr  _ _ _ h hw) (fun y4 y5 y6 h hw => hk2 (y4, y5, y6, h) hw) _ _ _ _ hw
  · have hw := hw.1 c_27
    exact (rt_MQ C _).2.2.1 _ _ _ _ _ hr dX0_join_30 (by decide) (by decide) ⟨rfl, hw⟩
-- GrassField$Fight.takeTurn(I)V
theorem dX0_takeTurn_0 : decode cX0_takeTurn 0 = .ok (.aload_n 0, 1) := by decide +kernel
theorem dX0_takeTurn_1 : decode cX0_takeTurn 1 = .ok (.iload_n 1, 1) := by decide +kernel
theorem dX0_takeTurn_2 : decode cX0_takeTurn 2 = .ok (.invokevirtual 94, 3) := by decide +kernel
theorem dX0_takeTurn_5 : decode cX0_takeTurn 5 = .ok (.tableswitch 75 1 5 #[35, 43, 51, 75, 59], 35) := by decide +kernel
theorem dX0_takeTurn_40 : decode cX0_takeTurn 40 = .ok (.aload_n 0, 1) := by decide +kernel
theorem dX0_takeTurn_41 : decode cX0_takeTurn 41 = .ok (.iload_n 1, 1) := by decide +kernel
theorem dX0_takeTurn_42 : decode cX0_takeTurn 42 = .ok (.invokevirtual 97, 3) := by decide +kernel
theorem dX0_takeTurn_45 : decode cX0_takeTurn 45 = .ok (.goto 40, 3) := by decide +kernel
theorem dX0_takeTurn_48 : decode cX0_takeTurn 48 = .ok (.aload_n 0, 1) := by decide +kernel
theorem dX0_takeTurn_49 : decode cX0_takeTurn 49 = .ok (.iload_n 1, 1) := by decide +kernel
theorem dX0_takeTurn_50 : decode cX0_takeTurn 50 = .ok (.invokevirtual 100, 3) := by decide +kernel
theorem dX0_takeTurn_53 : decode cX0_takeTurn 53 = .ok (.goto 32, 3) := by decide +kernel
theorem dX0_takeTurn_56 : decode cX0_takeTurn 56 = .ok (.aload_n 0, 1) := by decide +kernel
theorem dX0_takeTurn_57 : decode cX0_takeTurn 57 = .ok (.iload_n 1, 1) := by decide +kernel
theorem dX0_takeTurn_58 : decode cX0_takeTurn 58 = .ok (.invokevirtual 103, 3) := by decide +kernel
theorem dX0_takeTurn_61 : decode cX0_takeTurn 61 = .ok (.goto 24, 3) := by decide +kernel
theorem dX0_takeTurn_64 : decode cX0_takeTurn 64 = .ok (.aload_n 0, 1) := by decide +kernel
theorem dX0_takeTurn_65 : decode cX0_takeTurn 65 = .ok (.getfield 15, 3) := by decide +kernel
theorem dX0_takeTurn_68 : decode cX0_takeTurn 68 = .ok (.getfield 25, 3) := by decide +kernel
theorem dX0_takeTurn_71 : decode cX0_takeTurn 71 = .ok (.getfield 79, 3) := by decide +kernel
theorem dX0_takeTurn_74 : decode cX0_takeTurn 74 = .ok (.iload_n 1, 1) := by decide +kernel
theorem dX0_takeTurn_75 : decode cX0_takeTurn 75 = .ok (.iconst (-1), 1) := by decide +kernel
theorem dX0_takeTurn_76 : decode cX0_takeTurn 76 = .ok (.iastore, 1) := by decide +kernel
theorem dX0_takeTurn_77 : decode cX0_takeTurn 77 = .ok (.goto 8, 3) := by decide +kernel
theorem dX0_takeTurn_80 : decode cX0_takeTurn 80 = .ok (.aload_n 0, 1) := by decide +kernel
theorem dX0_takeTurn_81 : decode cX0_takeTurn 81 = .ok (.iload_n 1, 1) := by decide +kernel
theorem dX0_takeTurn_82 : decode cX0_takeTurn 82 = .ok (.invokevirtual 106, 3) := by decide +kernel
theorem dX0_takeTurn_85 : decode cX0_takeTurn 85 = .ok (.return_, 1) := by decide +kernel
def w_X0_takeTurn_85  (h : AH) (Q : AH → Prop) : Prop :=
  Q h
def w_X0_takeTurn  (v0 : Nat) (v1 : Int32) (h : AH) (Q : AH → Prop) : Prop :=
  vr h v0 0 (
  w_X0_choiceOf v0 v1 h (fun x1 h =>
  br (x1 = 1) (
      vr h v0 0 (
      w_X0_shoot v0 v1 h (fun h =>
      w_X0_takeTurn_85  h Q))) (
  br (x1 = 2) (
      vr h v0 0 (
      w_X0_flee v0 v1 h (fun h =>
      w_X0_takeTurn_85  h Q))) (
  br (x1 = 3) (
      vr h v0 0 (
      w_X0_join v0 v1 h (fun h =>
      w_X0_takeTurn_85  h Q))) (
  br (x1 = 4) (
      vr h v0 0 (
      w_X0_calmDown v0 v1 h (fun h =>
      w_X0_takeTurn_85  h Q))) (
  br (x1 = 5) (
      fN h v0 0 0 fun a2 =>
      fN h a2 7 2 fun a3 =>
      fN h a3 4 1 fun a4 =>
      tI h a4 v1 (-1 : Int32) fun h =>
      w_X0_takeTurn_85  h Q) (
    vr h v0 0 (
    w_X0_calmDown v0 v1 h (fun h =>
    w_X0_takeTurn_85  h Q)))))))))
set_option maxRecDepth 100000 in
set_option maxHeartbeats 4000000 in
theorem s_X0_takeTurn_85 {p : Program} {l : Launch} {e : Env} {s : State} {m : MethodId} {args : Array Value} {below : List Frame} {meth : Method} {c : Code} {g : GG}  {Q : AH → Prop}  (C : CXT p l s m args meth c RX0 cX0_takeTurn 2 g) (hr : meth.sig.returnType = none)  : ∀  (h : AH), w_X0_takeTurn_85  h Q → V p l e s m args below meth c g 4 0 0 2 0 0 (MQ below (QCx g (QV Q)) args s 0 0 (gA g)) 85 [] [] h := by
  intro  h hw
  exact (rt_MQ C _).2.2.1 _ _ _ _ _ hr dX0_takeTurn_85 (by decide) (by decide) ⟨rfl, hw⟩
set_option maxRecDepth 100000 in
set_option maxHeartbeats 4000000 in
theorem s_X0_takeTurn {l : Launch}  {v0 : Nat} {v1 : Int32} {h : AH} {Q : AH → Prop}  (hw : w_X0_takeTurn  v0 v1 h Q) : CT l yX0_takeTurn cX0_takeTurn 2 none 4 0 0 [.ref v0, .int v1] h (QV Q) := by
  refine CT.of (by decide) ⟨rfl, ⟨rfl, trivial⟩⟩ (Nat.le_of_ble_eq_true rfl) ?_
  intro p e s m args below meth c g C hr hin
  refine v_eq (pc' := 0) (ls' := [(0, .ref v0), (1, .int v1)]) rfl rfl rfl rfl ?_
  refine v_aload_n C dX0_takeTurn_0 0 rfl rfl ?_
  refine v_iload_n C dX0_takeTurn_1 1 rfl rfl ?_
  refine w_callVi (st := []) C cl_X0_94 im_X0_choiceOf se_X0_choiceOf rfl hw.1 (s_X0_choiceOf hw.2) rfl dX0_takeTurn_2 rfl (by decide) (by decide) (by decide) (by decide) (by decide) (fun x1 h hw => ?_)
  refine v_tsw C (td := 80) dX0_takeTurn_5 (by decide) ?_ (fun c_5 => ?_)
  · intro i hi hx
    rcases (show i = 0 ∨ i = 1 ∨ i = 2 ∨ i = 3 ∨ i = 4 by omega) with rfl | rfl | rfl | rfl | rfl
    · refine ⟨_, 40, rfl, by decide, ?_⟩
      have hw := hw.1 (by rw [hx]; rfl)
      refine v_aload_n C dX0_takeTurn_40 0 rfl rfl ?_
      refine v_iload_n C dX0_takeTurn_41 1 rfl rfl ?_
      refine w_callVv (st := []) C cl_X0_97 im_X0_shoot se_X0_shoot rfl hw.1 (s_X0_shoot hw.2) rfl dX0_takeTurn_42 rfl (by decide) (by decide) (by decide) (by decide) (by decide) (fun h hw => ?_)
      refine v_goto (tgt := 85) C dX0_takeTurn_45 (by decide) ?_
      refine v_sub [] rfl ?_
      exact s_X0_takeTurn_85 C hr   _ hw
    · refine ⟨_, 48, rfl, by decide, ?_⟩
      have hw := hw.2 (by rw [hx]; decide)
      have hw := hw.1 (by rw [hx]; rfl)
      refine v_aload_n C dX0_takeTurn_48 0 rfl rfl ?_
      refine v_iload_n C dX0_takeTurn_49 1 rfl rfl ?_
      refine w_callVv (st := []) C cl_X0_100 im_X0_flee se_X0_flee rfl hw.1 (s_X0_flee hw.2) rfl dX0_takeTurn_50 rfl (by decide) (by decide) (by decide) (by decide) (by decide) (fun h hw => ?_)
      refine v_goto (tgt := 85) C dX0_takeTurn_53 (by decide) ?_
      refine v_sub [] rfl ?_
      exact s_X0_takeTurn_85 C hr   _ hw
    · refine ⟨_, 56, rfl, by decide, ?_⟩
      have hw := hw.2 (by rw [hx]; decide)
      have hw := hw.2 (by rw [hx]; decide)
      have hw := hw.1 (by rw [hx]; rfl)
      refine v_aload_n C dX0_takeTurn_56 0 rfl rfl ?_
      refine v_iload_n C dX0_takeTurn_57 1 rfl rfl ?_
      refine w_callVv (st := []) C cl_X0_103 im_X0_join se_X0_join rfl hw.1 (s_X0_join hw.2) rfl dX0_takeTurn_58 rfl (by decide) (by decide) (by decide) (by decide) (by decide) (fun h hw => ?_)
      refine v_goto (tgt := 85) C dX0_takeTurn_61 (by decide) ?_
      refine v_sub [] rfl ?_
      exact s_X0_takeTurn_85 C hr   _ hw
    · refine ⟨_, 80, rfl, by decide, ?_⟩
      have hw := hw.2 (by rw [hx]; decide)
      have hw := hw.2 (by rw [hx]; decide)
      have hw := hw.2 (by rw [hx]; decide)
      have hw := hw.1 (by rw [hx]; rfl)
      refine v_aload_n C dX0_takeTurn_80 0 rfl rfl ?_
      refine v_iload_n C dX0_takeTurn_81 1 rfl rfl ?_
      refine w_callVv (st := []) C cl_X0_106 im_X0_calmDown se_X0_calmDown rfl hw.1 (s_X0_calmDown hw.2) rfl dX0_takeTurn_82 rfl (by decide) (by decide) (by decide) (by decide) (by decide) (fun h hw => ?_)
      refine v_sub [] rfl ?_
      exact s_X0_takeTurn_85 C hr   _ hw
    · refine ⟨_, 64, rfl, by decide, ?_⟩
      have hw := hw.2 (by rw [hx]; decide)
      have hw := hw.2 (by rw [hx]; decide)
      have hw := hw.2 (by rw [hx]; decide)
      have hw := hw.2 (by rw [hx]; decide)
      have hw := hw.1 (by rw [hx]; rfl)
      refine v_aload_n C dX0_takeTurn_64 0 rfl rfl ?_
      refine w_getN C fl_X0_15 dX0_takeTurn_65 rfl hw (fun a2 hw => ?_)
      refine w_getN C fl_X0_25 dX0_takeTurn_68 rfl hw (fun a3 hw => ?_)
      refine w_getN C fl_X0_79 dX0_takeTurn_71 rfl hw (fun a4 hw => ?_)
      refine v_iload_n C dX0_takeTurn_74 1 rfl rfl ?_
      refine v_iconst (v := -1) C dX0_takeTurn_75 (by decide) ?_
      refine w_iastore C dX0_takeTurn_76 hw (fun h hw => ?_)
      refine v_goto (tgt := 85) C dX0_takeTurn_77 (by decide) ?_
      refine v_sub [] rfl ?_
      exact s_X0_takeTurn_85 C hr   _ hw
  · have hw := hw.2 (fun z => c_5 0 (by decide) (z.trans (by decide)))
    have hw := hw.2 (fun z => c_5 1 (by decide) (z.trans (by decide)))
    have hw := hw.2 (fun z => c_5 2 (by decide) (z.trans (by decide)))
    have hw := hw.2 (fun z => c_5 3 (by decide) (z.trans (by decide)))
    have hw := hw.2 (fun z => c_5 4 (by decide) (z.trans (by decide)))
    refine v_aload_n C dX0_takeTurn_80 0 rfl rfl ?_
    refine v_iload_n C dX0_takeTurn_81 1 rfl rfl ?_
    refine w_callVv (st := []) C cl_X0_106 im_X0_calmDown se_X0_calmDown rfl hw.1 (s_X0_calmDown hw.2) rfl dX0_takeTurn_82 rfl (by decide) (by decide) (by decide) (by decide) (by decide) (fun h hw => ?_)
    refine v_sub [] rfl ?_
    exact s_X0_takeTurn_85 C hr   _ hw
-- GrassField$Fight.goMinute()V
theorem dX0_goMinute_0 : decode cX0_goMinute 0 = .ok (.aload_n 0, 1) := by decide +kernel
theorem dX0_goMinute_1 : decode cX0_goMinute 1 = .ok (.getfield 15, 3) := by decide +kernel
theorem dX0_goMinute_4 : decode cX0_goMinute 4 = .ok (.dup, 1) := by decide +kernel
theorem dX0_goMinute_5 : decode cX0_goMinute 5 = .ok (.getfield 19, 3) := by decide +kernel
theorem dX0_goMinute_8 : decode cX0_goMinute 8 = .ok (.iconst 1, 1) := by decide +kernel
theorem dX0_goMinute_9 : decode cX0_goMinute 9 = .ok (.iadd, 1) := by decide +kernel
theorem dX0_goMinute_10 : decode cX0_goMinute 10 = .ok (.putfield 19, 3) := by decide +kernel
theorem dX0_goMinute_13 : decode cX0_goMinute 13 = .ok (.iconst 0, 1) := by decide +kernel
theorem dX0_goMinute_14 : decode cX0_goMinute 14 = .ok (.istore_n 1, 1) := by decide +kernel
theorem dX0_goMinute_15 : decode cX0_goMinute 15 = .ok (.iload_n 1, 1) := by decide +kernel
theorem dX0_goMinute_16 : decode cX0_goMinute 16 = .ok (.aload_n 0, 1) := by decide +kernel
theorem dX0_goMinute_17 : decode cX0_goMinute 17 = .ok (.getfield 15, 3) := by decide +kernel
theorem dX0_goMinute_20 : decode cX0_goMinute 20 = .ok (.getfield 25, 3) := by decide +kernel
theorem dX0_goMinute_23 : decode cX0_goMinute 23 = .ok (.getfield 29, 3) := by decide +kernel
theorem dX0_goMinute_26 : decode cX0_goMinute 26 = .ok (.if_icmp .ge 35, 3) := by decide +kernel
theorem dX0_goMinute_29 : decode cX0_goMinute 29 = .ok (.aload_n 0, 1) := by decide +kernel
theorem dX0_goMinute_30 : decode cX0_goMinute 30 = .ok (.getfield 15, 3) := by decide +kernel
theorem dX0_goMinute_33 : decode cX0_goMinute 33 = .ok (.getfield 25, 3) := by decide +kernel
theorem dX0_goMinute_36 : decode cX0_goMinute 36 = .ok (.getfield 34, 3) := by decide +kernel
theorem dX0_goMinute_39 : decode cX0_goMinute 39 = .ok (.iload_n 1, 1) := by decide +kernel
theorem dX0_goMinute_40 : decode cX0_goMinute 40 = .ok (.iaload, 1) := by decide +kernel
theorem dX0_goMinute_41 : decode cX0_goMinute 41 = .ok (.iconst 1, 1) := by decide +kernel
theorem dX0_goMinute_42 : decode cX0_goMinute 42 = .ok (.if_icmp .ne 13, 3) := by decide +kernel
theorem dX0_goMinute_45 : decode cX0_goMinute 45 = .ok (.aload_n 0, 1) := by decide +kernel
theorem dX0_goMinute_46 : decode cX0_goMinute 46 = .ok (.iload_n 1, 1) := by decide +kernel
theorem dX0_goMinute_47 : decode cX0_goMinute 47 = .ok (.invokevirtual 37, 3) := by decide +kernel
theorem dX0_goMinute_50 : decode cX0_goMinute 50 = .ok (.aload_n 0, 1) := by decide +kernel
theorem dX0_goMinute_51 : decode cX0_goMinute 51 = .ok (.iload_n 1, 1) := by decide +kernel
theorem dX0_goMinute_52 : decode cX0_goMinute 52 = .ok (.invokevirtual 41, 3) := by decide +kernel
theorem dX0_goMinute_55 : decode cX0_goMinute 55 = .ok (.iinc 1 1, 3) := by decide +kernel
theorem dX0_goMinute_58 : decode cX0_goMinute 58 = .ok (.goto (-43), 3) := by decide +kernel
theorem dX0_goMinute_61 : decode cX0_goMinute 61 = .ok (.return_, 1) := by decide +kernel
def w_X0_goMinute_61  (h : AH) (Q : AH → Prop) : Prop :=
  Q h
def w_X0_goMinute_55  (x61 : AH → Prop) (k : Int32 → AH → Prop) (v0 : Nat) (v1 : Int32) (h : AH) (Q : AH → Prop) : Prop :=
  k (v1 + 1) h
def w_X0_goMinute_15  (x61 : AH → Prop) (k : Int32 → AH → Prop) (v0 : Nat) (v1 : Int32) (h : AH) (Q : AH → Prop) : Prop :=
  fN h v0 0 0 fun a1 =>
  fN h a1 7 2 fun a2 =>
  fI h a2 4 0 fun x3 =>
  br (x3 ≤ v1) (
    x61  h) (
    fN h v0 0 0 fun a4 =>
    fN h a4 7 2 fun a5 =>
    fN h a5 4 6 fun a6 =>
    aI h a6 v1 fun x7 =>
    br (x7 = (1 : Int32)) (
      vr h v0 0 (
      w_X0_gatherFacts v0 v1 h (fun h =>
      vr h v0 0 (
      w_X0_takeTurn v0 v1 h (fun h =>
      w_X0_goMinute_55 x61 k v0 v1 h Q))))) (
      w_X0_goMinute_55 x61 k v0 v1 h Q))
def w_X0_goMinute  (v0 : Nat) (h : AH) (Q : AH → Prop) : Prop :=
  fN h v0 0 0 fun a1 =>
  fI h a1 7 12 fun x2 =>
  uI h a1 7 12 (x2 + (1 : Int32)) fun h =>
  lp (fun (k2 : Int32 × AH → Prop) (s2 : Int32 × AH) => w_X0_goMinute_15  (fun  h => w_X0_goMinute_61  h Q) (fun (y1 : Int32) h => k2 (y1, h)) v0 s2.1 s2.2 Q) ((0 : Int32), h)
set_option maxRecDepth 100000 in
set_option maxHeartbeats 4000000 in
theorem s_X0_goMinute_61 {p : Program} {l : Launch} {e : Env} {s : State} {m : MethodId} {args : Array Value} {below : List Frame} {meth : Method} {c : Code} {g : GG}  {Q : AH → Prop}  (C : CXT p l s m args meth c RX0 cX0_goMinute 2 g) (hr : meth.sig.returnType = none)  : ∀  (h : AH), w_X0_goMinute_61  h Q → V p l e s m args below meth c g 5 0 0 2 0 0 (MQ below (QCx g (QV Q)) args s 0 0 (gA g)) 61 [] [] h := by
  intro  h hw
  exact (rt_MQ C _).2.2.1 _ _ _ _ _ hr dX0_goMinute_61 (by decide) (by decide) ⟨rfl, hw⟩
set_option maxRecDepth 100000 in
set_option maxHeartbeats 4000000 in
theorem s_X0_goMinute_55 {p : Program} {l : Launch} {e : Env} {s : State} {m : MethodId} {args : Array Value} {below : List Frame} {meth : Method} {c : Code} {g : GG} {v0 : Nat} {Q : AH → Prop} {x61 : AH → Prop} {k : Int32 → AH → Prop} (C : CXT p l s m args meth c RX0 cX0_goMinute 2 g) (hr : meth.sig.returnType = none) (hx61 : ∀  (h : AH), x61  h → V p l e s m args below meth c g 5 0 0 2 0 0 (MQ below (QCx g (QV Q)) args s 0 0 (gA g)) 61 [] [] h) (hk : ∀ (y1 : Int32) (h : AH), k y1 h → V p l e s m args below meth c g 5 0 0 2 0 0 (MQ below (QCx g (QV Q)) args s 0 0 (gA g)) 15 [(0, .ref v0), (1, .int y1)] [] h) : ∀ (v1 : Int32) (h : AH), w_X0_goMinute_55  x61 k v0 v1 h Q → V p l e s m args below meth c g 5 0 0 2 0 0 (MQ below (QCx g (QV Q)) args s 0 0 (gA g)) 55 [(0, .ref v0), (1, .int v1)] [] h := by
  intro v1 h hw
  refine v_iinc (v := 1) (ls' := [(1, .int (v1 + 1)), (0, .ref v0)]) C dX0_goMinute_55 1 rfl (by decide) (by decide) rfl ?_
  refine v_goto (tgt := 15) C dX0_goMinute_58 (by decide) ?_
  refine v_sub [1, 0] rfl ?_
  exact hk _ _ hw
set_option maxRecDepth 100000 in
set_option maxHeartbeats 4000000 in
theorem s_X0_goMinute_15 {p : Program} {l : Launch} {e : Env} {s : State} {m : MethodId} {args : Array Value} {below : List Frame} {meth : Method} {c : Code} {g : GG} {v0 : Nat} {Q : AH → Prop} {x61 : AH → Prop} {k : Int32 → AH → Prop} (C : CXT p l s m args meth c RX0 cX0_goMinute 2 g) (hr : meth.sig.returnType = none) (hx61 : ∀  (h : AH), x61  h → V p l e s m args below meth c g 5 0 0 2 0 0 (MQ below (QCx g (QV Q)) args s 0 0 (gA g)) 61 [] [] h) (hk : ∀ (y1 : Int32) (h : AH), k y1 h → V p l e s m args below meth c g 5 0 0 2 0 0 (MQ below (QCx g (QV Q)) args s 0 0 (gA g)) 15 [(0, .ref v0), (1, .int y1)] [] h) : ∀ (v1 : Int32) (h : AH), w_X0_goMinute_15  x61 k v0 v1 h Q → V p l e s m args below meth c g 5 0 0 2 0 0 (MQ below (QCx g (QV Q)) args s 0 0 (gA g)) 15 [(0, .ref v0), (1, .int v1)] [] h := by
  intro v1 h hw
  refine v_iload_n C dX0_goMinute_15 1 rfl rfl ?_
  refine v_aload_n C dX0_goMinute_16 0 rfl rfl ?_
  refine w_getN C fl_X0_15 dX0_goMinute_17 rfl hw (fun a1 hw => ?_)
  refine w_getN C fl_X0_25 dX0_goMinute_20 rfl hw (fun a2 hw => ?_)
  refine w_getI C fl_X0_29 dX0_goMinute_23 rfl hw (fun x3 hw => ?_)
  refine v_icmp_ge (tgt := 61) C dX0_goMinute_26 (by decide) (fun c_26 => ?_) (fun c_26 => ?_)
  · have hw := hw.1 c_26
    refine v_sub [] rfl ?_
    exact hx61  _ hw
  · have hw := hw.2 c_26
    refine v_aload_n C dX0_goMinute_29 0 rfl rfl ?_
    refine w_getN C fl_X0_15 dX0_goMinute_30 rfl hw (fun a4 hw => ?_)
    refine w_getN C fl_X0_25 dX0_goMinute_33 rfl hw (fun a5 hw => ?_)
    refine w_getN C fl_X0_34 dX0_goMinute_36 rfl hw (fun a6 hw => ?_)
    refine v_iload_n C dX0_goMinute_39 1 rfl rfl ?_
    refine w_iaload C dX0_goMinute_40 hw (fun x7 hw => ?_)
    refine v_iconst (v := 1) C dX0_goMinute_41 (by decide) ?_
    refine v_icmp_ne (tgt := 55) C dX0_goMinute_42 (by decide) (fun c_42 => ?_) (fun c_42 => ?_)
    · have hw := hw.2 c_42
      exact s_X0_goMinute_55 C hr hx61 hk _ _ hw
    · have hw := hw.1 c_42
      refine v_aload_n C dX0_goMinute_45 0 rfl rfl ?_
      refine v_iload_n C dX0_goMinute_46 1 rfl rfl ?_
      refine w_callVv (st := []) C cl_X0_37 im_X0_gatherFacts se_X0_gatherFacts rfl hw.1 (s_X0_gatherFacts hw.2) rfl dX0_goMinute_47 rfl (by decide) (by decide) (by decide) (by decide) (by decide) (fun h hw => ?_)
      refine v_aload_n C dX0_goMinute_50 0 rfl rfl ?_
      refine v_iload_n C dX0_goMinute_51 1 rfl rfl ?_
      refine w_callVv (st := []) C cl_X0_41 im_X0_takeTurn se_X0_takeTurn rfl hw.1 (s_X0_takeTurn hw.2) rfl dX0_goMinute_52 rfl (by decide) (by decide) (by decide) (by decide) (by decide) (fun h hw => ?_)
      exact s_X0_goMinute_55 C hr hx61 hk _ _ hw
set_option maxRecDepth 100000 in
set_option maxHeartbeats 4000000 in
theorem s_X0_goMinute {l : Launch}  {v0 : Nat} {h : AH} {Q : AH → Prop}  (hw : w_X0_goMinute  v0 h Q) : CT l yX0_goMinute cX0_goMinute 2 none 5 0 0 [.ref v0] h (QV Q) := by
  refine CT.of (by decide) ⟨rfl, trivial⟩ (Nat.le_of_ble_eq_true rfl) ?_
  intro p e s m args below meth c g C hr hin
  refine v_eq (pc' := 0) (ls' := [(0, .ref v0)]) rfl rfl rfl rfl ?_
  refine v_aload_n C dX0_goMinute_0 0 rfl rfl ?_
  refine w_getN C fl_X0_15 dX0_goMinute_1 rfl hw (fun a1 hw => ?_)
  refine v_dup C dX0_goMinute_4 rfl ?_
  refine w_getI C fl_X0_19 dX0_goMinute_5 rfl hw (fun x2 hw => ?_)
  refine v_iconst (v := 1) C dX0_goMinute_8 (by decide) ?_
  refine v_iadd C dX0_goMinute_9 ?_
  refine w_putI C fp_X0_19 (Or.inl rfl) dX0_goMinute_10 hw (fun h hw => ?_)
  refine v_iconst (v := 0) C dX0_goMinute_13 (by decide) ?_
  refine v_istore_n (ls' := [(1, .int (0 : Int32)), (0, .ref v0)]) C dX0_goMinute_14 rfl (by decide) rfl ?_
  refine v_sub [1, 0] rfl ?_
  refine lp_walk (P := fun (s' : Int32 × AH) => V p l e s m args below meth c g 5 0 0 2 0 0 (MQ below (QCx g (QV Q)) args s 0 0 (gA g)) 15 [(0, .ref v0), (1, .int (s'.1))] [] s'.2) (fun k2 hk2 s' hw => ?_) ((0 : Int32), h) hw
  exact s_X0_goMinute_15 C hr (fun  h hw => s_X0_goMinute_61 C hr   h hw) (fun y1 h hw => hk2 (y1, h) hw) _ _ hw
