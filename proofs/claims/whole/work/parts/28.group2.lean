theorem cl_X12_210 : CLk RX12 210 yX12_passes cX12_passes 2 (some .boolean) 1 := ⟨Or.inl (tb8 (List.mem_of_getElem? (i := 61) rfl)), (tb8 (List.mem_of_getElem? (i := 64) rfl)), (tb1 (List.mem_of_getElem? (i := 11) rfl)), by decide +kernel, by decide +kernel, by decide +kernel⟩
theorem im_X12_passes : Cond.instanceMethod yX12_passes ∈ lw_tbl := (tb8 (List.mem_of_getElem? (i := 63) rfl))
theorem se_X12_passes : Cond.selects RX12 yX12_passes yX12_passes ∈ lw_tbl := (tbp4 14 rfl)
theorem cl_X12_213 : CLk RX12 213 yX12_readAtom cX12_readAtom 2 (some .boolean) 0 := ⟨Or.inl (tb8 (List.mem_of_getElem? (i := 44) rfl)), (tb8 (List.mem_of_getElem? (i := 47) rfl)), (tb1 (List.mem_of_getElem? (i := 11) rfl)), by decide +kernel, by decide +kernel, by decide +kernel⟩
theorem im_X12_readAtom : Cond.instanceMethod yX12_readAtom ∈ lw_tbl := (tb8 (List.mem_of_getElem? (i := 46) rfl))
theorem se_X12_readAtom : Cond.selects RX12 yX12_readAtom yX12_readAtom ∈ lw_tbl := (tbp4 10 rfl)
theorem cl_X12_219 : CLk RX12 219 yX12_readSum cX12_readSum 1 (some .boolean) 0 := ⟨Or.inl (tb8 (List.mem_of_getElem? (i := 90) rfl)), (tb8 (List.mem_of_getElem? (i := 93) rfl)), (tb1 (List.mem_of_getElem? (i := 11) rfl)), by decide +kernel, by decide +kernel, by decide +kernel⟩
theorem im_X12_readSum : Cond.instanceMethod yX12_readSum ∈ lw_tbl := (tb8 (List.mem_of_getElem? (i := 92) rfl))
theorem se_X12_readSum : Cond.selects RX12 yX12_readSum yX12_readSum ∈ lw_tbl := (tbp5 4 rfl)
theorem cl_X12_216 : CLk RX12 216 yX12_readTag cX12_readTag 2 (some .boolean) 0 := ⟨Or.inl (tb8 (List.mem_of_getElem? (i := 79) rfl)), (tb8 (List.mem_of_getElem? (i := 82) rfl)), (tb1 (List.mem_of_getElem? (i := 11) rfl)), by decide +kernel, by decide +kernel, by decide +kernel⟩
theorem im_X12_readTag : Cond.instanceMethod yX12_readTag ∈ lw_tbl := (tb8 (List.mem_of_getElem? (i := 81) rfl))
theorem se_X12_readTag : Cond.selects RX12 yX12_readTag yX12_readTag ∈ lw_tbl := (tbp5 2 rfl)
theorem cl_X12_205 : CLk RX12 205 yX12_readCond cX12_readCond 1 (some .boolean) 0 := ⟨Or.inl (tb8 (List.mem_of_getElem? (i := 36) rfl)), (tb8 (List.mem_of_getElem? (i := 39) rfl)), (tb1 (List.mem_of_getElem? (i := 11) rfl)), by decide +kernel, by decide +kernel, by decide +kernel⟩
theorem im_X12_readCond : Cond.instanceMethod yX12_readCond ∈ lw_tbl := (tb8 (List.mem_of_getElem? (i := 38) rfl))
theorem se_X12_readCond : Cond.selects RX12 yX12_readCond yX12_readCond ∈ lw_tbl := (tbp4 8 rfl)
theorem cl_X12_224 : CLk RX12 224 yX12_readAllOf cX12_readAllOf 1 (some .boolean) 0 := ⟨Or.inl (tb8 (List.mem_of_getElem? (i := 40) rfl)), (tb8 (List.mem_of_getElem? (i := 43) rfl)), (tb1 (List.mem_of_getElem? (i := 11) rfl)), by decide +kernel, by decide +kernel, by decide +kernel⟩
theorem im_X12_readAllOf : Cond.instanceMethod yX12_readAllOf ∈ lw_tbl := (tb8 (List.mem_of_getElem? (i := 42) rfl))
theorem se_X12_readAllOf : Cond.selects RX12 yX12_readAllOf yX12_readAllOf ∈ lw_tbl := (tbp4 9 rfl)
-- GrassFieldModel.readAllOf()Z
theorem dX12_readAllOf_0 : decode cX12_readAllOf 0 = .ok (.aload_n 0, 1) := by decide +kernel
theorem dX12_readAllOf_1 : decode cX12_readAllOf 1 = .ok (.invokevirtual 213, 3) := by decide +kernel
theorem dX12_readAllOf_4 : decode cX12_readAllOf 4 = .ok (.ifCond .ne 5, 3) := by decide +kernel
theorem dX12_readAllOf_7 : decode cX12_readAllOf 7 = .ok (.iconst 0, 1) := by decide +kernel
theorem dX12_readAllOf_8 : decode cX12_readAllOf 8 = .ok (.ireturn, 1) := by decide +kernel
theorem dX12_readAllOf_9 : decode cX12_readAllOf 9 = .ok (.aload_n 0, 1) := by decide +kernel
theorem dX12_readAllOf_10 : decode cX12_readAllOf 10 = .ok (.ldc 222, 2) := by decide +kernel
theorem dX12_readAllOf_12 : decode cX12_readAllOf 12 = .ok (.invokevirtual 210, 3) := by decide +kernel
theorem dX12_readAllOf_15 : decode cX12_readAllOf 15 = .ok (.ifCond .eq 22, 3) := by decide +kernel
theorem dX12_readAllOf_18 : decode cX12_readAllOf 18 = .ok (.aload_n 0, 1) := by decide +kernel
theorem dX12_readAllOf_19 : decode cX12_readAllOf 19 = .ok (.invokevirtual 213, 3) := by decide +kernel
theorem dX12_readAllOf_22 : decode cX12_readAllOf 22 = .ok (.ifCond .ne 5, 3) := by decide +kernel
theorem dX12_readAllOf_25 : decode cX12_readAllOf 25 = .ok (.iconst 0, 1) := by decide +kernel
theorem dX12_readAllOf_26 : decode cX12_readAllOf 26 = .ok (.ireturn, 1) := by decide +kernel
theorem dX12_readAllOf_27 : decode cX12_readAllOf 27 = .ok (.aload_n 0, 1) := by decide +kernel
theorem dX12_readAllOf_28 : decode cX12_readAllOf 28 = .ok (.bipush 16, 2) := by decide +kernel
theorem dX12_readAllOf_30 : decode cX12_readAllOf 30 = .ok (.iconst 0, 1) := by decide +kernel
theorem dX12_readAllOf_31 : decode cX12_readAllOf 31 = .ok (.invokevirtual 147, 3) := by decide +kernel
theorem dX12_readAllOf_34 : decode cX12_readAllOf 34 = .ok (.goto (-25), 3) := by decide +kernel
theorem dX12_readAllOf_37 : decode cX12_readAllOf 37 = .ok (.iconst 1, 1) := by decide +kernel
theorem dX12_readAllOf_38 : decode cX12_readAllOf 38 = .ok (.ireturn, 1) := by decide +kernel
def w_X12_readAllOf_37 (r_X12_readAllOf : Nat → AH → (Int32 → AH → Prop) → Prop) (r_X12_readAtom : Nat → AH → (Int32 → AH → Prop) → Prop) (r_X12_readCond : Nat → AH → (Int32 → AH → Prop) → Prop) (h : AH) (Q : Int32 → AH → Prop) : Prop :=
  Q (1 : Int32) h
def w_X12_readAllOf_25 (r_X12_readAllOf : Nat → AH → (Int32 → AH → Prop) → Prop) (r_X12_readAtom : Nat → AH → (Int32 → AH → Prop) → Prop) (r_X12_readCond : Nat → AH → (Int32 → AH → Prop) → Prop) (h : AH) (Q : Int32 → AH → Prop) : Prop :=
  Q (0 : Int32) h
def w_X12_readAllOf_9 (r_X12_readAllOf : Nat → AH → (Int32 → AH → Prop) → Prop) (r_X12_readAtom : Nat → AH → (Int32 → AH → Prop) → Prop) (r_X12_readCond : Nat → AH → (Int32 → AH → Prop) → Prop) (x25 : AH → Prop) (x37 : AH → Prop) (k : AH → Prop) (v0 : Nat) (h : AH) (Q : Int32 → AH → Prop) : Prop :=
  sc h 26 fun a1 =>
  vr h v0 12 (
  w_X12_passes v0 a1 h (fun x2 h =>
  br (x2 = 0) (
    x37  h) (
    vr h v0 12 (
    r_X12_readAtom v0 h (fun x3 h =>
    br (x3 = 0) (
      x25  h) (
      vr h v0 12 (
      w_X12_emits v0 (16 : Int32) (0 : Int32) h (fun h =>
      k  h))))))))
def g_X12_readAllOf (r_X12_readAllOf : Nat → AH → (Int32 → AH → Prop) → Prop) (r_X12_readAtom : Nat → AH → (Int32 → AH → Prop) → Prop) (r_X12_readCond : Nat → AH → (Int32 → AH → Prop) → Prop) (v0 : Nat) (h : AH) (Q : Int32 → AH → Prop) : Prop :=
  vr h v0 12 (
  r_X12_readAtom v0 h (fun x1 h =>
  br (x1 = 0) (
    Q (0 : Int32) h) (
    lp (fun (k2 : AH → Prop) (s2 : AH) => w_X12_readAllOf_9 r_X12_readAllOf r_X12_readAtom r_X12_readCond (fun  h => w_X12_readAllOf_25 r_X12_readAllOf r_X12_readAtom r_X12_readCond h Q) (fun  h => w_X12_readAllOf_37 r_X12_readAllOf r_X12_readAtom r_X12_readCond h Q) (fun  h => k2 (h)) v0 s2 Q) (h))))
set_option maxRecDepth 100000 in
set_option maxHeartbeats 4000000 in
theorem s_X12_readAllOf_37 {p : Program} {l : Launch} {e : Env} {s : State} {m : MethodId} {args : Array Value} {below : List Frame} {meth : Method} {c : Code} {g : GG} {d9 dr : Nat} {r_X12_readAllOf : Nat → AH → (Int32 → AH → Prop) → Prop} {r_X12_readAtom : Nat → AH → (Int32 → AH → Prop) → Prop} {r_X12_readCond : Nat → AH → (Int32 → AH → Prop) → Prop}  {Q : Int32 → AH → Prop}  (C : CXT p l s m args meth c RX12 cX12_readAllOf 1 g) (hr : meth.sig.returnType = (some .boolean)) (hdr : dr + 1 ≤ d9) (hdc : 9 ≤ d9) (h_X12_readAllOf : ∀ (a0 : Nat) (h : AH) (Q : Int32 → AH → Prop), r_X12_readAllOf a0 h Q → CT l yX12_readAllOf cX12_readAllOf 1 (some .boolean) dr 0 0 [.ref a0] h (QI Q)) (h_X12_readAtom : ∀ (a0 : Nat) (h : AH) (Q : Int32 → AH → Prop), r_X12_readAtom a0 h Q → CT l yX12_readAtom cX12_readAtom 2 (some .boolean) dr 0 0 [.ref a0] h (QI Q)) (h_X12_readCond : ∀ (a0 : Nat) (h : AH) (Q : Int32 → AH → Prop), r_X12_readCond a0 h Q → CT l yX12_readCond cX12_readCond 1 (some .boolean) dr 0 0 [.ref a0] h (QI Q))  : ∀  (h : AH), w_X12_readAllOf_37 r_X12_readAllOf r_X12_readAtom r_X12_readCond h Q → V p l e s m args below meth c g d9 0 0 1 0 0 (MQ below (QCx g (QI Q)) args s 0 0 (gA g)) 37 [] [] h := by
  intro  h hw
  refine v_iconst (v := 1) C dX12_readAllOf_37 (by decide) ?_
  exact (rt_MQ C _).2.1 _ _ _ _ _ _ _ hr rfl dX12_readAllOf_38 (by decide) (by decide) ⟨_, rfl, hw⟩
set_option maxRecDepth 100000 in
set_option maxHeartbeats 4000000 in
theorem s_X12_readAllOf_25 {p : Program} {l : Launch} {e : Env} {s : State} {m : MethodId} {args : Array Value} {below : List Frame} {meth : Method} {c : Code} {g : GG} {d9 dr : Nat} {r_X12_readAllOf : Nat → AH → (Int32 → AH → Prop) → Prop} {r_X12_readAtom : Nat → AH → (Int32 → AH → Prop) → Prop} {r_X12_readCond : Nat → AH → (Int32 → AH → Prop) → Prop}  {Q : Int32 → AH → Prop}  (C : CXT p l s m args meth c RX12 cX12_readAllOf 1 g) (hr : meth.sig.returnType = (some .boolean)) (hdr : dr + 1 ≤ d9) (hdc : 9 ≤ d9) (h_X12_readAllOf : ∀ (a0 : Nat) (h : AH) (Q : Int32 → AH → Prop), r_X12_readAllOf a0 h Q → CT l yX12_readAllOf cX12_readAllOf 1 (some .boolean) dr 0 0 [.ref a0] h (QI Q)) (h_X12_readAtom : ∀ (a0 : Nat) (h : AH) (Q : Int32 → AH → Prop), r_X12_readAtom a0 h Q → CT l yX12_readAtom cX12_readAtom 2 (some .boolean) dr 0 0 [.ref a0] h (QI Q)) (h_X12_readCond : ∀ (a0 : Nat) (h : AH) (Q : Int32 → AH → Prop), r_X12_readCond a0 h Q → CT l yX12_readCond cX12_readCond 1 (some .boolean) dr 0 0 [.ref a0] h (QI Q))  : ∀  (h : AH), w_X12_readAllOf_25 r_X12_readAllOf r_X12_readAtom r_X12_readCond h Q → V p l e s m args below meth c g d9 0 0 1 0 0 (MQ below (QCx g (QI Q)) args s 0 0 (gA g)) 25 [] [] h := by
  intro  h hw
  refine v_iconst (v := 0) C dX12_readAllOf_25 (by decide) ?_
  exact (rt_MQ C _).2.1 _ _ _ _ _ _ _ hr rfl dX12_readAllOf_26 (by decide) (by decide) ⟨_, rfl, hw⟩
set_option maxRecDepth 100000 in
set_option maxHeartbeats 4000000 in
theorem s_X12_readAllOf_9 {p : Program} {l : Launch} {e : Env} {s : State} {m : MethodId} {args : Array Value} {below : List Frame} {meth : Method} {c : Code} {g : GG} {d9 dr : Nat} {r_X12_readAllOf : Nat → AH → (Int32 → AH → Prop) → Prop} {r_X12_readAtom : Nat → AH → (Int32 → AH → Prop) → Prop} {r_X12_readCond : Nat → AH → (Int32 → AH → Prop) → Prop} {v0 : Nat} {Q : Int32 → AH → Prop} {x25 : AH → Prop} {x37 : AH → Prop} {k : AH → Prop} (C : CXT p l s m args meth c RX12 cX12_readAllOf 1 g) (hr : meth.sig.returnType = (some .boolean)) (hdr : dr + 1 ≤ d9) (hdc : 9 ≤ d9) (h_X12_readAllOf : ∀ (a0 : Nat) (h : AH) (Q : Int32 → AH → Prop), r_X12_readAllOf a0 h Q → CT l yX12_readAllOf cX12_readAllOf 1 (some .boolean) dr 0 0 [.ref a0] h (QI Q)) (h_X12_readAtom : ∀ (a0 : Nat) (h : AH) (Q : Int32 → AH → Prop), r_X12_readAtom a0 h Q → CT l yX12_readAtom cX12_readAtom 2 (some .boolean) dr 0 0 [.ref a0] h (QI Q)) (h_X12_readCond : ∀ (a0 : Nat) (h : AH) (Q : Int32 → AH → Prop), r_X12_readCond a0 h Q → CT l yX12_readCond cX12_readCond 1 (some .boolean) dr 0 0 [.ref a0] h (QI Q)) (hx25 : ∀  (h : AH), x25  h → V p l e s m args below meth c g d9 0 0 1 0 0 (MQ below (QCx g (QI Q)) args s 0 0 (gA g)) 25 [] [] h) (hx37 : ∀  (h : AH), x37  h → V p l e s m args below meth c g d9 0 0 1 0 0 (MQ below (QCx g (QI Q)) args s 0 0 (gA g)) 37 [] [] h) (hk : ∀  (h : AH), k  h → V p l e s m args below meth c g d9 0 0 1 0 0 (MQ below (QCx g (QI Q)) args s 0 0 (gA g)) 9 [(0, .ref v0)] [] h) : ∀  (h : AH), w_X12_readAllOf_9 r_X12_readAllOf r_X12_readAtom r_X12_readCond x25 x37 k v0 h Q → V p l e s m args below meth c g d9 0 0 1 0 0 (MQ below (QCx g (QI Q)) args s 0 0 (gA g)) 9 [(0, .ref v0)] [] h := by
  intro  h hw
  refine v_aload_n C dX12_readAllOf_9 0 rfl rfl ?_
  refine w_ldcS (i := 26) (tx := "and") C (List.mem_of_getElem? (i := 26) rfl) (by decide) dX12_readAllOf_10 hw (fun a1 hw => ?_)
  refine w_callVi (st := []) C cl_X12_210 im_X12_passes se_X12_passes rfl hw.1 (s_X12_passes hw.2) rfl dX12_readAllOf_12 rfl (by decide) (by omega) (by decide) (by decide) (by decide) (fun x2 h hw => ?_)
  refine v_if_eq (tgt := 37) C dX12_readAllOf_15 (by decide) (fun c_15 => ?_) (fun c_15 => ?_)
  · have hw := hw.1 c_15
    refine v_sub [] rfl ?_
    exact hx37  _ hw
  · have hw := hw.2 c_15
    refine v_aload_n C dX12_readAllOf_18 0 rfl rfl ?_
    refine w_callVi (st := []) C cl_X12_213 im_X12_readAtom se_X12_readAtom rfl hw.1 (h_X12_readAtom _ _ _ hw.2) rfl dX12_readAllOf_19 rfl (by decide) (by omega) (by decide) (by decide) (by decide) (fun x3 h hw => ?_)
    refine v_if_ne (tgt := 27) C dX12_readAllOf_22 (by decide) (fun c_22 => ?_) (fun c_22 => ?_)
    · have hw := hw.2 c_22
      refine v_aload_n C dX12_readAllOf_27 0 rfl rfl ?_
      refine v_bipush (v := 16) C dX12_readAllOf_28 (by decide) ?_
      refine v_iconst (v := 0) C dX12_readAllOf_30 (by decide) ?_
      refine w_callVv (st := []) C cl_X12_147 im_X12_emits se_X12_emits rfl hw.1 (s_X12_emits hw.2) rfl dX12_readAllOf_31 rfl (by decide) (by omega) (by decide) (by decide) (by decide) (fun h hw => ?_)
      refine v_goto (tgt := 9) C dX12_readAllOf_34 (by decide) ?_
      exact hk  _ hw
    · have hw := hw.1 c_22
      refine v_sub [] rfl ?_
      exact hx25  _ hw
set_option maxRecDepth 100000 in
set_option maxHeartbeats 4000000 in
theorem t_X12_readAllOf {l : Launch} {d9 dr : Nat} {r_X12_readAllOf : Nat → AH → (Int32 → AH → Prop) → Prop} {r_X12_readAtom : Nat → AH → (Int32 → AH → Prop) → Prop} {r_X12_readCond : Nat → AH → (Int32 → AH → Prop) → Prop} {v0 : Nat} {h : AH} {Q : Int32 → AH → Prop} (hdr : dr + 1 ≤ d9) (hdc : 9 ≤ d9) (h_X12_readAllOf : ∀ (a0 : Nat) (h : AH) (Q : Int32 → AH → Prop), r_X12_readAllOf a0 h Q → CT l yX12_readAllOf cX12_readAllOf 1 (some .boolean) dr 0 0 [.ref a0] h (QI Q)) (h_X12_readAtom : ∀ (a0 : Nat) (h : AH) (Q : Int32 → AH → Prop), r_X12_readAtom a0 h Q → CT l yX12_readAtom cX12_readAtom 2 (some .boolean) dr 0 0 [.ref a0] h (QI Q)) (h_X12_readCond : ∀ (a0 : Nat) (h : AH) (Q : Int32 → AH → Prop), r_X12_readCond a0 h Q → CT l yX12_readCond cX12_readCond 1 (some .boolean) dr 0 0 [.ref a0] h (QI Q)) (hw : g_X12_readAllOf r_X12_readAllOf r_X12_readAtom r_X12_readCond v0 h Q) : CT l yX12_readAllOf cX12_readAllOf 1 (some .boolean) d9 0 0 [.ref v0] h (QI Q) := by
  refine CT.of (by decide) ⟨rfl, trivial⟩ (Nat.le_of_ble_eq_true rfl) ?_
  intro p e s m args below meth c g C hr hin
  refine v_eq (pc' := 0) (ls' := [(0, .ref v0)]) rfl rfl rfl rfl ?_
  refine v_aload_n C dX12_readAllOf_0 0 rfl rfl ?_
  refine w_callVi (st := []) C cl_X12_213 im_X12_readAtom se_X12_readAtom rfl hw.1 (h_X12_readAtom _ _ _ hw.2) rfl dX12_readAllOf_1 rfl (by decide) (by omega) (by decide) (by decide) (by decide) (fun x1 h hw => ?_)
  refine v_if_ne (tgt := 9) C dX12_readAllOf_4 (by decide) (fun c_4 => ?_) (fun c_4 => ?_)
  · have hw := hw.2 c_4
    refine lp_walk (P := fun (s' : AH) => V p l e s m args below meth c g d9 0 0 1 0 0 (MQ below (QCx g (QI Q)) args s 0 0 (gA g)) 9 [(0, .ref v0)] [] s') (fun k2 hk2 s' hw => ?_) (h) hw
    exact s_X12_readAllOf_9 C hr hdr hdc h_X12_readAllOf h_X12_readAtom h_X12_readCond (fun  h hw => s_X12_readAllOf_25 C hr hdr hdc h_X12_readAllOf h_X12_readAtom h_X12_readCond   h hw) (fun  h hw => s_X12_readAllOf_37 C hr hdr hdc h_X12_readAllOf h_X12_readAtom h_X12_readCond   h hw) (fun  h hw => hk2 (h) hw)  _ hw
  · have hw := hw.1 c_4
    refine v_iconst (v := 0) C dX12_readAllOf_7 (by decide) ?_
    exact (rt_MQ C _).2.1 _ _ _ _ _ _ _ hr rfl dX12_readAllOf_8 (by decide) (by decide) ⟨_, rfl, hw⟩
-- GrassFieldModel.readAtom()Z
theorem dX12_readAtom_0 : decode cX12_readAtom 0 = .ok (.aload_n 0, 1) := by decide +kernel
theorem dX12_readAtom_1 : decode cX12_readAtom 1 = .ok (.bipush 40, 2) := by decide +kernel
theorem dX12_readAtom_3 : decode cX12_readAtom 3 = .ok (.invokevirtual 193, 3) := by decide +kernel
theorem dX12_readAtom_6 : decode cX12_readAtom 6 = .ok (.ifCond .eq 50, 3) := by decide +kernel
theorem dX12_readAtom_9 : decode cX12_readAtom 9 = .ok (.aload_n 0, 1) := by decide +kernel
theorem dX12_readAtom_10 : decode cX12_readAtom 10 = .ok (.getfield 115, 3) := by decide +kernel
theorem dX12_readAtom_13 : decode cX12_readAtom 13 = .ok (.bipush 6, 2) := by decide +kernel
theorem dX12_readAtom_15 : decode cX12_readAtom 15 = .ok (.if_icmp .ne 5, 3) := by decide +kernel
theorem dX12_readAtom_18 : decode cX12_readAtom 18 = .ok (.iconst 0, 1) := by decide +kernel
theorem dX12_readAtom_19 : decode cX12_readAtom 19 = .ok (.ireturn, 1) := by decide +kernel
theorem dX12_readAtom_20 : decode cX12_readAtom 20 = .ok (.aload_n 0, 1) := by decide +kernel
theorem dX12_readAtom_21 : decode cX12_readAtom 21 = .ok (.dup, 1) := by decide +kernel
theorem dX12_readAtom_22 : decode cX12_readAtom 22 = .ok (.getfield 115, 3) := by decide +kernel
theorem dX12_readAtom_25 : decode cX12_readAtom 25 = .ok (.iconst 1, 1) := by decide +kernel
theorem dX12_readAtom_26 : decode cX12_readAtom 26 = .ok (.iadd, 1) := by decide +kernel
theorem dX12_readAtom_27 : decode cX12_readAtom 27 = .ok (.putfield 115, 3) := by decide +kernel
theorem dX12_readAtom_30 : decode cX12_readAtom 30 = .ok (.aload_n 0, 1) := by decide +kernel
theorem dX12_readAtom_31 : decode cX12_readAtom 31 = .ok (.invokevirtual 205, 3) := by decide +kernel
theorem dX12_readAtom_34 : decode cX12_readAtom 34 = .ok (.ifCond .ne 5, 3) := by decide +kernel
theorem dX12_readAtom_37 : decode cX12_readAtom 37 = .ok (.iconst 0, 1) := by decide +kernel
theorem dX12_readAtom_38 : decode cX12_readAtom 38 = .ok (.ireturn, 1) := by decide +kernel
theorem dX12_readAtom_39 : decode cX12_readAtom 39 = .ok (.aload_n 0, 1) := by decide +kernel
theorem dX12_readAtom_40 : decode cX12_readAtom 40 = .ok (.dup, 1) := by decide +kernel
theorem dX12_readAtom_41 : decode cX12_readAtom 41 = .ok (.getfield 115, 3) := by decide +kernel
theorem dX12_readAtom_44 : decode cX12_readAtom 44 = .ok (.iconst 1, 1) := by decide +kernel
theorem dX12_readAtom_45 : decode cX12_readAtom 45 = .ok (.isub, 1) := by decide +kernel
theorem dX12_readAtom_46 : decode cX12_readAtom 46 = .ok (.putfield 115, 3) := by decide +kernel
theorem dX12_readAtom_49 : decode cX12_readAtom 49 = .ok (.aload_n 0, 1) := by decide +kernel
theorem dX12_readAtom_50 : decode cX12_readAtom 50 = .ok (.bipush 41, 2) := by decide +kernel
theorem dX12_readAtom_52 : decode cX12_readAtom 52 = .ok (.invokevirtual 193, 3) := by decide +kernel
theorem dX12_readAtom_55 : decode cX12_readAtom 55 = .ok (.ireturn, 1) := by decide +kernel
theorem dX12_readAtom_56 : decode cX12_readAtom 56 = .ok (.aload_n 0, 1) := by decide +kernel
theorem dX12_readAtom_57 : decode cX12_readAtom 57 = .ok (.ldc 208, 2) := by decide +kernel
theorem dX12_readAtom_59 : decode cX12_readAtom 59 = .ok (.invokevirtual 210, 3) := by decide +kernel
theorem dX12_readAtom_62 : decode cX12_readAtom 62 = .ok (.ifCond .eq 52, 3) := by decide +kernel
theorem dX12_readAtom_65 : decode cX12_readAtom 65 = .ok (.aload_n 0, 1) := by decide +kernel
theorem dX12_readAtom_66 : decode cX12_readAtom 66 = .ok (.getfield 115, 3) := by decide +kernel
theorem dX12_readAtom_69 : decode cX12_readAtom 69 = .ok (.bipush 6, 2) := by decide +kernel
theorem dX12_readAtom_71 : decode cX12_readAtom 71 = .ok (.if_icmp .ne 5, 3) := by decide +kernel
theorem dX12_readAtom_74 : decode cX12_readAtom 74 = .ok (.iconst 0, 1) := by decide +kernel
theorem dX12_readAtom_75 : decode cX12_readAtom 75 = .ok (.ireturn, 1) := by decide +kernel
theorem dX12_readAtom_76 : decode cX12_readAtom 76 = .ok (.aload_n 0, 1) := by decide +kernel
theorem dX12_readAtom_77 : decode cX12_readAtom 77 = .ok (.dup, 1) := by decide +kernel
theorem dX12_readAtom_78 : decode cX12_readAtom 78 = .ok (.getfield 115, 3) := by decide +kernel
theorem dX12_readAtom_81 : decode cX12_readAtom 81 = .ok (.iconst 1, 1) := by decide +kernel
theorem dX12_readAtom_82 : decode cX12_readAtom 82 = .ok (.iadd, 1) := by decide +kernel
theorem dX12_readAtom_83 : decode cX12_readAtom 83 = .ok (.putfield 115, 3) := by decide +kernel
theorem dX12_readAtom_86 : decode cX12_readAtom 86 = .ok (.aload_n 0, 1) := by decide +kernel
theorem dX12_readAtom_87 : decode cX12_readAtom 87 = .ok (.invokevirtual 213, 3) := by decide +kernel
theorem dX12_readAtom_90 : decode cX12_readAtom 90 = .ok (.ifCond .ne 5, 3) := by decide +kernel
theorem dX12_readAtom_93 : decode cX12_readAtom 93 = .ok (.iconst 0, 1) := by decide +kernel
theorem dX12_readAtom_94 : decode cX12_readAtom 94 = .ok (.ireturn, 1) := by decide +kernel
theorem dX12_readAtom_95 : decode cX12_readAtom 95 = .ok (.aload_n 0, 1) := by decide +kernel
theorem dX12_readAtom_96 : decode cX12_readAtom 96 = .ok (.dup, 1) := by decide +kernel
theorem dX12_readAtom_97 : decode cX12_readAtom 97 = .ok (.getfield 115, 3) := by decide +kernel
theorem dX12_readAtom_100 : decode cX12_readAtom 100 = .ok (.iconst 1, 1) := by decide +kernel
theorem dX12_readAtom_101 : decode cX12_readAtom 101 = .ok (.isub, 1) := by decide +kernel
theorem dX12_readAtom_102 : decode cX12_readAtom 102 = .ok (.putfield 115, 3) := by decide +kernel
theorem dX12_readAtom_105 : decode cX12_readAtom 105 = .ok (.aload_n 0, 1) := by decide +kernel
theorem dX12_readAtom_106 : decode cX12_readAtom 106 = .ok (.bipush 15, 2) := by decide +kernel
theorem dX12_readAtom_108 : decode cX12_readAtom 108 = .ok (.iconst 0, 1) := by decide +kernel
theorem dX12_readAtom_109 : decode cX12_readAtom 109 = .ok (.invokevirtual 147, 3) := by decide +kernel
theorem dX12_readAtom_112 : decode cX12_readAtom 112 = .ok (.iconst 1, 1) := by decide +kernel
theorem dX12_readAtom_113 : decode cX12_readAtom 113 = .ok (.ireturn, 1) := by decide +kernel
theorem dX12_readAtom_114 : decode cX12_readAtom 114 = .ok (.aload_n 0, 1) := by decide +kernel
theorem dX12_readAtom_115 : decode cX12_readAtom 115 = .ok (.invokevirtual 216, 3) := by decide +kernel
theorem dX12_readAtom_118 : decode cX12_readAtom 118 = .ok (.ifCond .eq 34, 3) := by decide +kernel
theorem dX12_readAtom_121 : decode cX12_readAtom 121 = .ok (.aload_n 0, 1) := by decide +kernel
theorem dX12_readAtom_122 : decode cX12_readAtom 122 = .ok (.getfield 13, 3) := by decide +kernel
theorem dX12_readAtom_125 : decode cX12_readAtom 125 = .ok (.bipush 9, 2) := by decide +kernel
theorem dX12_readAtom_127 : decode cX12_readAtom 127 = .ok (.invokestatic 144, 3) := by decide +kernel
theorem dX12_readAtom_130 : decode cX12_readAtom 130 = .ok (.bipush 31, 2) := by decide +kernel
theorem dX12_readAtom_132 : decode cX12_readAtom 132 = .ok (.iadd, 1) := by decide +kernel
theorem dX12_readAtom_133 : decode cX12_readAtom 133 = .ok (.iconst 2, 1) := by decide +kernel
theorem dX12_readAtom_134 : decode cX12_readAtom 134 = .ok (.aload_n 0, 1) := by decide +kernel
theorem dX12_readAtom_135 : decode cX12_readAtom 135 = .ok (.getfield 112, 3) := by decide +kernel
theorem dX12_readAtom_138 : decode cX12_readAtom 138 = .ok (.imul, 1) := by decide +kernel
theorem dX12_readAtom_139 : decode cX12_readAtom 139 = .ok (.iadd, 1) := by decide +kernel
theorem dX12_readAtom_140 : decode cX12_readAtom 140 = .ok (.iconst 1, 1) := by decide +kernel
theorem dX12_readAtom_141 : decode cX12_readAtom 141 = .ok (.isub, 1) := by decide +kernel
theorem dX12_readAtom_142 : decode cX12_readAtom 142 = .ok (.iaload, 1) := by decide +kernel
theorem dX12_readAtom_143 : decode cX12_readAtom 143 = .ok (.ifCond .lt 7, 3) := by decide +kernel
theorem dX12_readAtom_146 : decode cX12_readAtom 146 = .ok (.iconst 1, 1) := by decide +kernel
theorem dX12_readAtom_147 : decode cX12_readAtom 147 = .ok (.goto 4, 3) := by decide +kernel
theorem dX12_readAtom_150 : decode cX12_readAtom 150 = .ok (.iconst 0, 1) := by decide +kernel
theorem dX12_readAtom_151 : decode cX12_readAtom 151 = .ok (.ireturn, 1) := by decide +kernel
theorem dX12_readAtom_152 : decode cX12_readAtom 152 = .ok (.aload_n 0, 1) := by decide +kernel
theorem dX12_readAtom_153 : decode cX12_readAtom 153 = .ok (.invokevirtual 219, 3) := by decide +kernel
theorem dX12_readAtom_156 : decode cX12_readAtom 156 = .ok (.ifCond .ne 5, 3) := by decide +kernel
theorem dX12_readAtom_159 : decode cX12_readAtom 159 = .ok (.iconst 0, 1) := by decide +kernel
theorem dX12_readAtom_160 : decode cX12_readAtom 160 = .ok (.ireturn, 1) := by decide +kernel
theorem dX12_readAtom_161 : decode cX12_readAtom 161 = .ok (.aload_n 0, 1) := by decide +kernel
theorem dX12_readAtom_162 : decode cX12_readAtom 162 = .ok (.bipush 60, 2) := by decide +kernel
theorem dX12_readAtom_164 : decode cX12_readAtom 164 = .ok (.invokevirtual 193, 3) := by decide +kernel
theorem dX12_readAtom_167 : decode cX12_readAtom 167 = .ok (.istore_n 1, 1) := by decide +kernel
theorem dX12_readAtom_168 : decode cX12_readAtom 168 = .ok (.iload_n 1, 1) := by decide +kernel
theorem dX12_readAtom_169 : decode cX12_readAtom 169 = .ok (.ifCond .ne 12, 3) := by decide +kernel
theorem dX12_readAtom_172 : decode cX12_readAtom 172 = .ok (.aload_n 0, 1) := by decide +kernel
theorem dX12_readAtom_173 : decode cX12_readAtom 173 = .ok (.bipush 62, 2) := by decide +kernel
theorem dX12_readAtom_175 : decode cX12_readAtom 175 = .ok (.invokevirtual 193, 3) := by decide +kernel
theorem dX12_readAtom_178 : decode cX12_readAtom 178 = .ok (.ifCond .eq 10, 3) := by decide +kernel
theorem dX12_readAtom_181 : decode cX12_readAtom 181 = .ok (.aload_n 0, 1) := by decide +kernel
theorem dX12_readAtom_182 : decode cX12_readAtom 182 = .ok (.invokevirtual 219, 3) := by decide +kernel
theorem dX12_readAtom_185 : decode cX12_readAtom 185 = .ok (.ifCond .ne 5, 3) := by decide +kernel
theorem dX12_readAtom_188 : decode cX12_readAtom 188 = .ok (.iconst 0, 1) := by decide +kernel
theorem dX12_readAtom_189 : decode cX12_readAtom 189 = .ok (.ireturn, 1) := by decide +kernel
theorem dX12_readAtom_190 : decode cX12_readAtom 190 = .ok (.aload_n 0, 1) := by decide +kernel
theorem dX12_readAtom_191 : decode cX12_readAtom 191 = .ok (.iload_n 1, 1) := by decide +kernel
theorem dX12_readAtom_192 : decode cX12_readAtom 192 = .ok (.ifCond .eq 8, 3) := by decide +kernel
theorem dX12_readAtom_195 : decode cX12_readAtom 195 = .ok (.bipush 13, 2) := by decide +kernel
theorem dX12_readAtom_197 : decode cX12_readAtom 197 = .ok (.goto 5, 3) := by decide +kernel
theorem dX12_readAtom_200 : decode cX12_readAtom 200 = .ok (.bipush 14, 2) := by decide +kernel
theorem dX12_readAtom_202 : decode cX12_readAtom 202 = .ok (.iconst 0, 1) := by decide +kernel
theorem dX12_readAtom_203 : decode cX12_readAtom 203 = .ok (.invokevirtual 147, 3) := by decide +kernel
theorem dX12_readAtom_206 : decode cX12_readAtom 206 = .ok (.iconst 1, 1) := by decide +kernel
theorem dX12_readAtom_207 : decode cX12_readAtom 207 = .ok (.ireturn, 1) := by decide +kernel
def w_X12_readAtom_202 (r_X12_readAllOf : Nat → AH → (Int32 → AH → Prop) → Prop) (r_X12_readAtom : Nat → AH → (Int32 → AH → Prop) → Prop) (r_X12_readCond : Nat → AH → (Int32 → AH → Prop) → Prop) (t0 : Nat) (t1 : Int32) (h : AH) (Q : Int32 → AH → Prop) : Prop :=
  vr h t0 12 (
  w_X12_emits t0 t1 (0 : Int32) h (fun h =>
  Q (1 : Int32) h))
def w_X12_readAtom_188 (r_X12_readAllOf : Nat → AH → (Int32 → AH → Prop) → Prop) (r_X12_readAtom : Nat → AH → (Int32 → AH → Prop) → Prop) (r_X12_readCond : Nat → AH → (Int32 → AH → Prop) → Prop) (h : AH) (Q : Int32 → AH → Prop) : Prop :=
  Q (0 : Int32) h
def w_X12_readAtom_181 (r_X12_readAllOf : Nat → AH → (Int32 → AH → Prop) → Prop) (r_X12_readAtom : Nat → AH → (Int32 → AH → Prop) → Prop) (r_X12_readCond : Nat → AH → (Int32 → AH → Prop) → Prop) (v0 : Nat) (v1 : Int32) (h : AH) (Q : Int32 → AH → Prop) : Prop :=
  vr h v0 12 (
  w_X12_readSum v0 h (fun x1 h =>
  br (x1 = 0) (
    w_X12_readAtom_188 r_X12_readAllOf r_X12_readAtom r_X12_readCond h Q) (
    br (v1 = 0) (
      w_X12_readAtom_202 r_X12_readAllOf r_X12_readAtom r_X12_readCond v0 (14 : Int32) h Q) (
      w_X12_readAtom_202 r_X12_readAllOf r_X12_readAtom r_X12_readCond v0 (13 : Int32) h Q))))
def w_X12_readAtom_151 (r_X12_readAllOf : Nat → AH → (Int32 → AH → Prop) → Prop) (r_X12_readAtom : Nat → AH → (Int32 → AH → Prop) → Prop) (r_X12_readCond : Nat → AH → (Int32 → AH → Prop) → Prop) (t0 : Int32) (h : AH) (Q : Int32 → AH → Prop) : Prop :=
  z1 t0 (Q t0 h)
def g_X12_readAtom (r_X12_readAllOf : Nat → AH → (Int32 → AH → Prop) → Prop) (r_X12_readAtom : Nat → AH → (Int32 → AH → Prop) → Prop) (r_X12_readCond : Nat → AH → (Int32 → AH → Prop) → Prop) (v0 : Nat) (h : AH) (Q : Int32 → AH → Prop) : Prop :=
  vr h v0 12 (
  w_X12_sign v0 (40 : Int32) h (fun x1 h =>
  br (x1 = 0) (
    sc h 8 fun a2 =>
    vr h v0 12 (
    w_X12_passes v0 a2 h (fun x3 h =>
    br (x3 = 0) (
      vr h v0 12 (
      w_X12_readTag v0 h (fun x4 h =>
      br (x4 = 0) (
        vr h v0 12 (
        w_X12_readSum v0 h (fun x5 h =>
        br (x5 = 0) (
          Q (0 : Int32) h) (
          vr h v0 12 (
          w_X12_sign v0 (60 : Int32) h (fun x6 h =>
          br (x6 = 0) (
            vr h v0 12 (
            w_X12_sign v0 (62 : Int32) h (fun x7 h =>
            br (x7 = 0) (
              w_X12_readAtom_188 r_X12_readAllOf r_X12_readAtom r_X12_readCond h Q) (
              w_X12_readAtom_181 r_X12_readAllOf r_X12_readAtom r_X12_readCond v0 x6 h Q)))) (
            w_X12_readAtom_181 r_X12_readAllOf r_X12_readAtom r_X12_readCond v0 x6 h Q))))))) (
        fN h v0 12 1 fun a8 =>
        w_X12_textAt (9 : Int32) h (fun x9 h =>
        fI h v0 12 12 fun x10 =>
        aI h a8 (((x9 + (31 : Int32)) + ((2 : Int32) * x10)) - (1 : Int32)) fun x11 =>
        br (x11 < 0) (
          w_X12_readAtom_151 r_X12_readAllOf r_X12_readAtom r_X12_readCond (0 : Int32) h Q) (
          w_X12_readAtom_151 r_X12_readAllOf r_X12_readAtom r_X12_readCond (1 : Int32) h Q)))))) (
      fI h v0 12 9 fun x12 =>
      br (x12 = (6 : Int32)) (
        Q (0 : Int32) h) (
        fI h v0 12 9 fun x13 =>
        uI h v0 12 9 (x13 + (1 : Int32)) fun h =>
        vr h v0 12 (
        r_X12_readAtom v0 h (fun x14 h =>
        br (x14 = 0) (
          Q (0 : Int32) h) (
          fI h v0 12 9 fun x15 =>
          uI h v0 12 9 (x15 - (1 : Int32)) fun h =>
          vr h v0 12 (
          w_X12_emits v0 (15 : Int32) (0 : Int32) h (fun h =>
          Q (1 : Int32) h)))))))))) (
    fI h v0 12 9 fun x16 =>
    br (x16 = (6 : Int32)) (
      Q (0 : Int32) h) (
      fI h v0 12 9 fun x17 =>
      uI h v0 12 9 (x17 + (1 : Int32)) fun h =>
      vr h v0 12 (
      r_X12_readCond v0 h (fun x18 h =>
      br (x18 = 0) (
        Q (0 : Int32) h) (
        fI h v0 12 9 fun x19 =>
        uI h v0 12 9 (x19 - (1 : Int32)) fun h =>
        vr h v0 12 (
        w_X12_sign v0 (41 : Int32) h (fun x20 h =>
        z1 x20 (Q x20 h))))))))))
set_option maxRecDepth 100000 in
set_option maxHeartbeats 4000000 in
theorem s_X12_readAtom_202 {p : Program} {l : Launch} {e : Env} {s : State} {m : MethodId} {args : Array Value} {below : List Frame} {meth : Method} {c : Code} {g : GG} {d9 dr : Nat} {r_X12_readAllOf : Nat → AH → (Int32 → AH → Prop) → Prop} {r_X12_readAtom : Nat → AH → (Int32 → AH → Prop) → Prop} {r_X12_readCond : Nat → AH → (Int32 → AH → Prop) → Prop}  {Q : Int32 → AH → Prop}  (C : CXT p l s m args meth c RX12 cX12_readAtom 2 g) (hr : meth.sig.returnType = (some .boolean)) (hdr : dr + 1 ≤ d9) (hdc : 9 ≤ d9) (h_X12_readAllOf : ∀ (a0 : Nat) (h : AH) (Q : Int32 → AH → Prop), r_X12_readAllOf a0 h Q → CT l yX12_readAllOf cX12_readAllOf 1 (some .boolean) dr 0 0 [.ref a0] h (QI Q)) (h_X12_readAtom : ∀ (a0 : Nat) (h : AH) (Q : Int32 → AH → Prop), r_X12_readAtom a0 h Q → CT l yX12_readAtom cX12_readAtom 2 (some .boolean) dr 0 0 [.ref a0] h (QI Q)) (h_X12_readCond : ∀ (a0 : Nat) (h : AH) (Q : Int32 → AH → Prop), r_X12_readCond a0 h Q → CT l yX12_readCond cX12_readCond 1 (some .boolean) dr 0 0 [.ref a0] h (QI Q))  : ∀ (t0 : Nat) (t1 : Int32) (h : AH), w_X12_readAtom_202 r_X12_readAllOf r_X12_readAtom r_X12_readCond t0 t1 h Q → V p l e s m args below meth c g d9 0 0 2 0 0 (MQ below (QCx g (QI Q)) args s 0 0 (gA g)) 202 [] [.int t1, .ref t0] h := by
  intro t0 t1 h hw
  refine v_iconst (v := 0) C dX12_readAtom_202 (by decide) ?_
  refine w_callVv (st := []) C cl_X12_147 im_X12_emits se_X12_emits rfl hw.1 (s_X12_emits hw.2) rfl dX12_readAtom_203 rfl (by decide) (by omega) (by decide) (by decide) (by decide) (fun h hw => ?_)
  refine v_iconst (v := 1) C dX12_readAtom_206 (by decide) ?_
  exact (rt_MQ C _).2.1 _ _ _ _ _ _ _ hr rfl dX12_readAtom_207 (by decide) (by decide) ⟨_, rfl, hw⟩
set_option maxRecDepth 100000 in
set_option maxHeartbeats 4000000 in
theorem s_X12_readAtom_188 {p : Program} {l : Launch} {e : Env} {s : State} {m : MethodId} {args : Array Value} {below : List Frame} {meth : Method} {c : Code} {g : GG} {d9 dr : Nat} {r_X12_readAllOf : Nat → AH → (Int32 → AH → Prop) → Prop} {r_X12_readAtom : Nat → AH → (Int32 → AH → Prop) → Prop} {r_X12_readCond : Nat → AH → (Int32 → AH → Prop) → Prop}  {Q : Int32 → AH → Prop}  (C : CXT p l s m args meth c RX12 cX12_readAtom 2 g) (hr : meth.sig.returnType = (some .boolean)) (hdr : dr + 1 ≤ d9) (hdc : 9 ≤ d9) (h_X12_readAllOf : ∀ (a0 : Nat) (h : AH) (Q : Int32 → AH → Prop), r_X12_readAllOf a0 h Q → CT l yX12_readAllOf cX12_readAllOf 1 (some .boolean) dr 0 0 [.ref a0] h (QI Q)) (h_X12_readAtom : ∀ (a0 : Nat) (h : AH) (Q : Int32 → AH → Prop), r_X12_readAtom a0 h Q → CT l yX12_readAtom cX12_readAtom 2 (some .boolean) dr 0 0 [.ref a0] h (QI Q)) (h_X12_readCond : ∀ (a0 : Nat) (h : AH) (Q : Int32 → AH → Prop), r_X12_readCond a0 h Q → CT l yX12_readCond cX12_readCond 1 (some .boolean) dr 0 0 [.ref a0] h (QI Q))  : ∀  (h : AH), w_X12_readAtom_188 r_X12_readAllOf r_X12_readAtom r_X12_readCond h Q → V p l e s m args below meth c g d9 0 0 2 0 0 (MQ below (QCx g (QI Q)) args s 0 0 (gA g)) 188 [] [] h := by
  intro  h hw
  refine v_iconst (v := 0) C dX12_readAtom_188 (by decide) ?_
  exact (rt_MQ C _).2.1 _ _ _ _ _ _ _ hr rfl dX12_readAtom_189 (by decide) (by decide) ⟨_, rfl, hw⟩
set_option maxRecDepth 100000 in
set_option maxHeartbeats 4000000 in
theorem s_X12_readAtom_181 {p : Program} {l : Launch} {e : Env} {s : State} {m : MethodId} {args : Array Value} {below : List Frame} {meth : Method} {c : Code} {g : GG} {d9 dr : Nat} {r_X12_readAllOf : Nat → AH → (Int32 → AH → Prop) → Prop} {r_X12_readAtom : Nat → AH → (Int32 → AH → Prop) → Prop} {r_X12_readCond : Nat → AH → (Int32 → AH → Prop) → Prop}  {Q : Int32 → AH → Prop}  (C : CXT p l s m args meth c RX12 cX12_readAtom 2 g) (hr : meth.sig.returnType = (some .boolean)) (hdr : dr + 1 ≤ d9) (hdc : 9 ≤ d9) (h_X12_readAllOf : ∀ (a0 : Nat) (h : AH) (Q : Int32 → AH → Prop), r_X12_readAllOf a0 h Q → CT l yX12_readAllOf cX12_readAllOf 1 (some .boolean) dr 0 0 [.ref a0] h (QI Q)) (h_X12_readAtom : ∀ (a0 : Nat) (h : AH) (Q : Int32 → AH → Prop), r_X12_readAtom a0 h Q → CT l yX12_readAtom cX12_readAtom 2 (some .boolean) dr 0 0 [.ref a0] h (QI Q)) (h_X12_readCond : ∀ (a0 : Nat) (h : AH) (Q : Int32 → AH → Prop), r_X12_readCond a0 h Q → CT l yX12_readCond cX12_readCond 1 (some .boolean) dr 0 0 [.ref a0] h (QI Q))  : ∀ (v0 : Nat) (v1 : Int32) (h : AH), w_X12_readAtom_181 r_X12_readAllOf r_X12_readAtom r_X12_readCond v0 v1 h Q → V p l e s m args below meth c g d9 0 0 2 0 0 (MQ below (QCx g (QI Q)) args s 0 0 (gA g)) 181 [(0, .ref v0), (1, .int v1)] [] h := by
  intro v0 v1 h hw
  refine v_aload_n C dX12_readAtom_181 0 rfl rfl ?_
  refine w_callVi (st := []) C cl_X12_219 im_X12_readSum se_X12_readSum rfl hw.1 (s_X12_readSum hw.2) rfl dX12_readAtom_182 rfl (by decide) (by omega) (by decide) (by decide) (by decide) (fun x1 h hw => ?_)
  refine v_if_ne (tgt := 190) C dX12_readAtom_185 (by decide) (fun c_185 => ?_) (fun c_185 => ?_)
  · have hw := hw.2 c_185
    refine v_aload_n C dX12_readAtom_190 0 rfl rfl ?_
    refine v_iload_n C dX12_readAtom_191 1 rfl rfl ?_
    refine v_if_eq (tgt := 200) C dX12_readAtom_192 (by decide) (fun c_192 => ?_) (fun c_192 => ?_)
    · have hw := hw.1 c_192
      refine v_bipush (v := 14) C dX12_readAtom_200 (by decide) ?_
      refine v_sub [] rfl ?_
      exact s_X12_readAtom_202 C hr hdr hdc h_X12_readAllOf h_X12_readAtom h_X12_readCond  _ _ _ hw
    · have hw := hw.2 c_192
      refine v_bipush (v := 13) C dX12_readAtom_195 (by decide) ?_
      refine v_goto (tgt := 202) C dX12_readAtom_197 (by decide) ?_
      refine v_sub [] rfl ?_
      exact s_X12_readAtom_202 C hr hdr hdc h_X12_readAllOf h_X12_readAtom h_X12_readCond  _ _ _ hw
  · have hw := hw.1 c_185
    refine v_sub [] rfl ?_
    exact s_X12_readAtom_188 C hr hdr hdc h_X12_readAllOf h_X12_readAtom h_X12_readCond   _ hw
set_option maxRecDepth 100000 in
set_option maxHeartbeats 4000000 in
theorem s_X12_readAtom_151 {p : Program} {l : Launch} {e : Env} {s : State} {m : MethodId} {args : Array Value} {below : List Frame} {meth : Method} {c : Code} {g : GG} {d9 dr : Nat} {r_X12_readAllOf : Nat → AH → (Int32 → AH → Prop) → Prop} {r_X12_readAtom : Nat → AH → (Int32 → AH → Prop) → Prop} {r_X12_readCond : Nat → AH → (Int32 → AH → Prop) → Prop}  {Q : Int32 → AH → Prop}  (C : CXT p l s m args meth c RX12 cX12_readAtom 2 g) (hr : meth.sig.returnType = (some .boolean)) (hdr : dr + 1 ≤ d9) (hdc : 9 ≤ d9) (h_X12_readAllOf : ∀ (a0 : Nat) (h : AH) (Q : Int32 → AH → Prop), r_X12_readAllOf a0 h Q → CT l yX12_readAllOf cX12_readAllOf 1 (some .boolean) dr 0 0 [.ref a0] h (QI Q)) (h_X12_readAtom : ∀ (a0 : Nat) (h : AH) (Q : Int32 → AH → Prop), r_X12_readAtom a0 h Q → CT l yX12_readAtom cX12_readAtom 2 (some .boolean) dr 0 0 [.ref a0] h (QI Q)) (h_X12_readCond : ∀ (a0 : Nat) (h : AH) (Q : Int32 → AH → Prop), r_X12_readCond a0 h Q → CT l yX12_readCond cX12_readCond 1 (some .boolean) dr 0 0 [.ref a0] h (QI Q))  : ∀ (t0 : Int32) (h : AH), w_X12_readAtom_151 r_X12_readAllOf r_X12_readAtom r_X12_readCond t0 h Q → V p l e s m args below meth c g d9 0 0 2 0 0 (MQ below (QCx g (QI Q)) args s 0 0 (gA g)) 151 [] [.int t0] h := by
  intro t0 h hw
  exact (rt_MQ C _).2.1 _ _ _ _ _ _ _ hr (by rcases hw.1 with z | z <;> rw [z] <;> rfl) dX12_readAtom_151 (by decide) (by decide) ⟨_, rfl, hw.2⟩
set_option maxRecDepth 100000 in
set_option maxHeartbeats 4000000 in
theorem t_X12_readAtom {l : Launch} {d9 dr : Nat} {r_X12_readAllOf : Nat → AH → (Int32 → AH → Prop) → Prop} {r_X12_readAtom : Nat → AH → (Int32 → AH → Prop) → Prop} {r_X12_readCond : Nat → AH → (Int32 → AH → Prop) → Prop} {v0 : Nat} {h : AH} {Q : Int32 → AH → Prop} (hdr : dr + 1 ≤ d9) (hdc : 9 ≤ d9) (h_X12_readAllOf : ∀ (a0 : Nat) (h : AH) (Q : Int32 → AH → Prop), r_X12_readAllOf a0 h Q → CT l yX12_readAllOf cX12_readAllOf 1 (some .boolean) dr 0 0 [.ref a0] h (QI Q)) (h_X12_readAtom : ∀ (a0 : Nat) (h : AH) (Q : Int32 → AH → Prop), r_X12_readAtom a0 h Q → CT l yX12_readAtom cX12_readAtom 2 (some .boolean) dr 0 0 [.ref a0] h (QI Q)) (h_X12_readCond : ∀ (a0 : Nat) (h : AH) (Q : Int32 → AH → Prop), r_X12_readCond a0 h Q → CT l yX12_readCond cX12_readCond 1 (some .boolean) dr 0 0 [.ref a0] h (QI Q)) (hw : g_X12_readAtom r_X12_readAllOf r_X12_readAtom r_X12_readCond v0 h Q) : CT l yX12_readAtom cX12_readAtom 2 (some .boolean) d9 0 0 [.ref v0] h (QI Q) := by
  refine CT.of (by decide) ⟨rfl, trivial⟩ (Nat.le_of_ble_eq_true rfl) ?_
  intro p e s m args below meth c g C hr hin
  refine v_eq (pc' := 0) (ls' := [(0, .ref v0)]) rfl rfl rfl rfl ?_
  refine v_aload_n C dX12_readAtom_0 0 rfl rfl ?_
  refine v_bipush (v := 40) C dX12_readAtom_1 (by decide) ?_
  refine w_callVi (st := []) C cl_X12_193 im_X12_sign se_X12_sign rfl hw.1 (s_X12_sign hw.2) rfl dX12_readAtom_3 rfl (by decide) (by omega) (by decide) (by decide) (by decide) (fun x1 h hw => ?_)
  refine v_if_eq (tgt := 56) C dX12_readAtom_6 (by decide) (fun c_6 => ?_) (fun c_6 => ?_)
  · have hw := hw.1 c_6
    refine v_aload_n C dX12_readAtom_56 0 rfl rfl ?_
    refine w_ldcS (i := 8) (tx := "not") C (List.mem_of_getElem? (i := 8) rfl) (by decide) dX12_readAtom_57 hw (fun a2 hw => ?_)
    refine w_callVi (st := []) C cl_X12_210 im_X12_passes se_X12_passes rfl hw.1 (s_X12_passes hw.2) rfl dX12_readAtom_59 rfl (by decide) (by omega) (by decide) (by decide) (by decide) (fun x3 h hw => ?_)
    refine v_if_eq (tgt := 114) C dX12_readAtom_62 (by decide) (fun c_62 => ?_) (fun c_62 => ?_)
    · have hw := hw.1 c_62
      refine v_aload_n C dX12_readAtom_114 0 rfl rfl ?_
      refine w_callVi (st := []) C cl_X12_216 im_X12_readTag se_X12_readTag rfl hw.1 (s_X12_readTag hw.2) rfl dX12_readAtom_115 rfl (by decide) (by omega) (by decide) (by decide) (by decide) (fun x4 h hw => ?_)
      refine v_if_eq (tgt := 152) C dX12_readAtom_118 (by decide) (fun c_118 => ?_) (fun c_118 => ?_)
      · have hw := hw.1 c_118
        refine v_aload_n C dX12_readAtom_152 0 rfl rfl ?_
        refine w_callVi (st := []) C cl_X12_219 im_X12_readSum se_X12_readSum rfl hw.1 (s_X12_readSum hw.2) rfl dX12_readAtom_153 rfl (by decide) (by omega) (by decide) (by decide) (by decide) (fun x5 h hw => ?_)
        refine v_if_ne (tgt := 161) C dX12_readAtom_156 (by decide) (fun c_156 => ?_) (fun c_156 => ?_)
        · have hw := hw.2 c_156
          refine v_aload_n C dX12_readAtom_161 0 rfl rfl ?_
          refine v_bipush (v := 60) C dX12_readAtom_162 (by decide) ?_
          refine w_callVi (st := []) C cl_X12_193 im_X12_sign se_X12_sign rfl hw.1 (s_X12_sign hw.2) rfl dX12_readAtom_164 rfl (by decide) (by omega) (by decide) (by decide) (by decide) (fun x6 h hw => ?_)
          refine v_istore_n (ls' := [(1, .int x6), (0, .ref v0)]) C dX12_readAtom_167 rfl (by decide) rfl ?_
          refine v_iload_n C dX12_readAtom_168 0 rfl rfl ?_
          refine v_if_ne (tgt := 181) C dX12_readAtom_169 (by decide) (fun c_169 => ?_) (fun c_169 => ?_)
          · have hw := hw.2 c_169
            refine v_sub [1, 0] rfl ?_
            exact s_X12_readAtom_181 C hr hdr hdc h_X12_readAllOf h_X12_readAtom h_X12_readCond  _ _ _ hw
          · have hw := hw.1 c_169
            refine v_aload_n C dX12_readAtom_172 1 rfl rfl ?_
            refine v_bipush (v := 62) C dX12_readAtom_173 (by decide) ?_
            refine w_callVi (st := []) C cl_X12_193 im_X12_sign se_X12_sign rfl hw.1 (s_X12_sign hw.2) rfl dX12_readAtom_175 rfl (by decide) (by omega) (by decide) (by decide) (by decide) (fun x7 h hw => ?_)
            refine v_if_eq (tgt := 188) C dX12_readAtom_178 (by decide) (fun c_178 => ?_) (fun c_178 => ?_)
            · have hw := hw.1 c_178
              refine v_sub [] rfl ?_
              exact s_X12_readAtom_188 C hr hdr hdc h_X12_readAllOf h_X12_readAtom h_X12_readCond   _ hw
            · have hw := hw.2 c_178
              refine v_sub [1, 0] rfl ?_
              exact s_X12_readAtom_181 C hr hdr hdc h_X12_readAllOf h_X12_readAtom h_X12_readCond  _ _ _ hw
        · have hw := hw.1 c_156
          refine v_iconst (v := 0) C dX12_readAtom_159 (by decide) ?_
          exact (rt_MQ C _).2.1 _ _ _ _ _ _ _ hr rfl dX12_readAtom_160 (by decide) (by decide) ⟨_, rfl, hw⟩
      · have hw := hw.2 c_118
        refine v_aload_n C dX12_readAtom_121 0 rfl rfl ?_
        refine w_getN C fl_X12_13 dX12_readAtom_122 rfl hw (fun a8 hw => ?_)
        refine v_bipush (v := 9) C dX12_readAtom_125 (by decide) ?_
        refine w_callSi (st := [.ref a8]) C cl_X12_144 st_X12_textAt (s_X12_textAt hw) rfl dX12_readAtom_127 rfl (Nat.le_of_ble_eq_true rfl) (by omega) (by decide) (by decide) (by decide) (fun x9 h hw => ?_)
        refine v_bipush (v := 31) C dX12_readAtom_130 (by decide) ?_
        refine v_iadd C dX12_readAtom_132 ?_
        refine v_iconst (v := 2) C dX12_readAtom_133 (by decide) ?_
        refine v_aload_n C dX12_readAtom_134 0 rfl rfl ?_
        refine w_getI C fl_X12_112 dX12_readAtom_135 rfl hw (fun x10 hw => ?_)
        refine v_imul C dX12_readAtom_138 ?_
        refine v_iadd C dX12_readAtom_139 ?_
        refine v_iconst (v := 1) C dX12_readAtom_140 (by decide) ?_
        refine v_isub C dX12_readAtom_141 ?_
        refine w_iaload C dX12_readAtom_142 hw (fun x11 hw => ?_)
        refine v_if_lt (tgt := 150) C dX12_readAtom_143 (by decide) (fun c_143 => ?_) (fun c_143 => ?_)
        · have hw := hw.1 c_143
          refine v_iconst (v := 0) C dX12_readAtom_150 (by decide) ?_
          refine v_sub [] rfl ?_
          exact s_X12_readAtom_151 C hr hdr hdc h_X12_readAllOf h_X12_readAtom h_X12_readCond  _ _ hw
        · have hw := hw.2 c_143
          refine v_iconst (v := 1) C dX12_readAtom_146 (by decide) ?_
          refine v_goto (tgt := 151) C dX12_readAtom_147 (by decide) ?_
          refine v_sub [] rfl ?_
          exact s_X12_readAtom_151 C hr hdr hdc h_X12_readAllOf h_X12_readAtom h_X12_readCond  _ _ hw
    · have hw := hw.2 c_62
      refine v_aload_n C dX12_readAtom_65 0 rfl rfl ?_
      refine w_getI C fl_X12_115 dX12_readAtom_66 rfl hw (fun x12 hw => ?_)
      refine v_bipush (v := 6) C dX12_readAtom_69 (by decide) ?_
      refine v_icmp_ne (tgt := 76) C dX12_readAtom_71 (by decide) (fun c_71 => ?_) (fun c_71 => ?_)
      · have hw := hw.2 c_71
        refine v_aload_n C dX12_readAtom_76 0 rfl rfl ?_
        refine v_dup C dX12_readAtom_77 rfl ?_
        refine w_getI C fl_X12_115 dX12_readAtom_78 rfl hw (fun x13 hw => ?_)
        refine v_iconst (v := 1) C dX12_readAtom_81 (by decide) ?_
        refine v_iadd C dX12_readAtom_82 ?_
        refine w_putI C fp_X12_115 (Or.inl rfl) dX12_readAtom_83 hw (fun h hw => ?_)
        refine v_aload_n C dX12_readAtom_86 0 rfl rfl ?_
        refine w_callVi (st := []) C cl_X12_213 im_X12_readAtom se_X12_readAtom rfl hw.1 (h_X12_readAtom _ _ _ hw.2) rfl dX12_readAtom_87 rfl (by decide) (by omega) (by decide) (by decide) (by decide) (fun x14 h hw => ?_)
        refine v_if_ne (tgt := 95) C dX12_readAtom_90 (by decide) (fun c_90 => ?_) (fun c_90 => ?_)
        · have hw := hw.2 c_90
          refine v_aload_n C dX12_readAtom_95 0 rfl rfl ?_
          refine v_dup C dX12_readAtom_96 rfl ?_
          refine w_getI C fl_X12_115 dX12_readAtom_97 rfl hw (fun x15 hw => ?_)
          refine v_iconst (v := 1) C dX12_readAtom_100 (by decide) ?_
          refine v_isub C dX12_readAtom_101 ?_
          refine w_putI C fp_X12_115 (Or.inl rfl) dX12_readAtom_102 hw (fun h hw => ?_)
          refine v_aload_n C dX12_readAtom_105 0 rfl rfl ?_
          refine v_bipush (v := 15) C dX12_readAtom_106 (by decide) ?_
          refine v_iconst (v := 0) C dX12_readAtom_108 (by decide) ?_
          refine w_callVv (st := []) C cl_X12_147 im_X12_emits se_X12_emits rfl hw.1 (s_X12_emits hw.2) rfl dX12_readAtom_109 rfl (by decide) (by omega) (by decide) (by decide) (by decide) (fun h hw => ?_)
          refine v_iconst (v := 1) C dX12_readAtom_112 (by decide) ?_
          exact (rt_MQ C _).2.1 _ _ _ _ _ _ _ hr rfl dX12_readAtom_113 (by decide) (by decide) ⟨_, rfl, hw⟩
        · have hw := hw.1 c_90
          refine v_iconst (v := 0) C dX12_readAtom_93 (by decide) ?_
          exact (rt_MQ C _).2.1 _ _ _ _ _ _ _ hr rfl dX12_readAtom_94 (by decide) (by decide) ⟨_, rfl, hw⟩
      · have hw := hw.1 c_71
        refine v_iconst (v := 0) C dX12_readAtom_74 (by decide) ?_
        exact (rt_MQ C _).2.1 _ _ _ _ _ _ _ hr rfl dX12_readAtom_75 (by decide) (by decide) ⟨_, rfl, hw⟩
  · have hw := hw.2 c_6
    refine v_aload_n C dX12_readAtom_9 0 rfl rfl ?_
    refine w_getI C fl_X12_115 dX12_readAtom_10 rfl hw (fun x16 hw => ?_)
    refine v_bipush (v := 6) C dX12_readAtom_13 (by decide) ?_
    refine v_icmp_ne (tgt := 20) C dX12_readAtom_15 (by decide) (fun c_15 => ?_) (fun c_15 => ?_)
    · have hw := hw.2 c_15
      refine v_aload_n C dX12_readAtom_20 0 rfl rfl ?_
      refine v_dup C dX12_readAtom_21 rfl ?_
      refine w_getI C fl_X12_115 dX12_readAtom_22 rfl hw (fun x17 hw => ?_)
      refine v_iconst (v := 1) C dX12_readAtom_25 (by decide) ?_
      refine v_iadd C dX12_readAtom_26 ?_
      refine w_putI C fp_X12_115 (Or.inl rfl) dX12_readAtom_27 hw (fun h hw => ?_)
      refine v_aload_n C dX12_readAtom_30 0 rfl rfl ?_
      refine w_callVi (st := []) C cl_X12_205 im_X12_readCond se_X12_readCond rfl hw.1 (h_X12_readCond _ _ _ hw.2) rfl dX12_readAtom_31 rfl (by decide) (by omega) (by decide) (by decide) (by decide) (fun x18 h hw => ?_)
      refine v_if_ne (tgt := 39) C dX12_readAtom_34 (by decide) (fun c_34 => ?_) (fun c_34 => ?_)
      · have hw := hw.2 c_34
        refine v_aload_n C dX12_readAtom_39 0 rfl rfl ?_
        refine v_dup C dX12_readAtom_40 rfl ?_
        refine w_getI C fl_X12_115 dX12_readAtom_41 rfl hw (fun x19 hw => ?_)
        refine v_iconst (v := 1) C dX12_readAtom_44 (by decide) ?_
        refine v_isub C dX12_readAtom_45 ?_
        refine w_putI C fp_X12_115 (Or.inl rfl) dX12_readAtom_46 hw (fun h hw => ?_)
        refine v_aload_n C dX12_readAtom_49 0 rfl rfl ?_
        refine v_bipush (v := 41) C dX12_readAtom_50 (by decide) ?_
        refine w_callVi (st := []) C cl_X12_193 im_X12_sign se_X12_sign rfl hw.1 (s_X12_sign hw.2) rfl dX12_readAtom_52 rfl (by decide) (by omega) (by decide) (by decide) (by decide) (fun x20 h hw => ?_)
        exact (rt_MQ C _).2.1 _ _ _ _ _ _ _ hr (by rcases hw.1 with z | z <;> rw [z] <;> rfl) dX12_readAtom_55 (by decide) (by decide) ⟨_, rfl, hw.2⟩
      · have hw := hw.1 c_34
        refine v_iconst (v := 0) C dX12_readAtom_37 (by decide) ?_
        exact (rt_MQ C _).2.1 _ _ _ _ _ _ _ hr rfl dX12_readAtom_38 (by decide) (by decide) ⟨_, rfl, hw⟩
    · have hw := hw.1 c_15
      refine v_iconst (v := 0) C dX12_readAtom_18 (by decide) ?_
      exact (rt_MQ C _).2.1 _ _ _ _ _ _ _ hr rfl dX12_readAtom_19 (by decide) (by decide) ⟨_, rfl, hw⟩
-- GrassFieldModel.readCond()Z
theorem dX12_readCond_0 : decode cX12_readCond 0 = .ok (.aload_n 0, 1) := by decide +kernel
theorem dX12_readCond_1 : decode cX12_readCond 1 = .ok (.invokevirtual 224, 3) := by decide +kernel
theorem dX12_readCond_4 : decode cX12_readCond 4 = .ok (.ifCond .ne 5, 3) := by decide +kernel
theorem dX12_readCond_7 : decode cX12_readCond 7 = .ok (.iconst 0, 1) := by decide +kernel
theorem dX12_readCond_8 : decode cX12_readCond 8 = .ok (.ireturn, 1) := by decide +kernel
theorem dX12_readCond_9 : decode cX12_readCond 9 = .ok (.aload_n 0, 1) := by decide +kernel
theorem dX12_readCond_10 : decode cX12_readCond 10 = .ok (.ldc 227, 2) := by decide +kernel
theorem dX12_readCond_12 : decode cX12_readCond 12 = .ok (.invokevirtual 210, 3) := by decide +kernel
theorem dX12_readCond_15 : decode cX12_readCond 15 = .ok (.ifCond .eq 22, 3) := by decide +kernel
theorem dX12_readCond_18 : decode cX12_readCond 18 = .ok (.aload_n 0, 1) := by decide +kernel
theorem dX12_readCond_19 : decode cX12_readCond 19 = .ok (.invokevirtual 224, 3) := by decide +kernel
theorem dX12_readCond_22 : decode cX12_readCond 22 = .ok (.ifCond .ne 5, 3) := by decide +kernel
theorem dX12_readCond_25 : decode cX12_readCond 25 = .ok (.iconst 0, 1) := by decide +kernel
theorem dX12_readCond_26 : decode cX12_readCond 26 = .ok (.ireturn, 1) := by decide +kernel
theorem dX12_readCond_27 : decode cX12_readCond 27 = .ok (.aload_n 0, 1) := by decide +kernel
theorem dX12_readCond_28 : decode cX12_readCond 28 = .ok (.bipush 17, 2) := by decide +kernel
theorem dX12_readCond_30 : decode cX12_readCond 30 = .ok (.iconst 0, 1) := by decide +kernel
theorem dX12_readCond_31 : decode cX12_readCond 31 = .ok (.invokevirtual 147, 3) := by decide +kernel
theorem dX12_readCond_34 : decode cX12_readCond 34 = .ok (.goto (-25), 3) := by decide +kernel
theorem dX12_readCond_37 : decode cX12_readCond 37 = .ok (.iconst 1, 1) := by decide +kernel
theorem dX12_readCond_38 : decode cX12_readCond 38 = .ok (.ireturn, 1) := by decide +kernel
def w_X12_readCond_37 (r_X12_readAllOf : Nat → AH → (Int32 → AH → Prop) → Prop) (r_X12_readAtom : Nat → AH → (Int32 → AH → Prop) → Prop) (r_X12_readCond : Nat → AH → (Int32 → AH → Prop) → Prop) (h : AH) (Q : Int32 → AH → Prop) : Prop :=
  Q (1 : Int32) h
def w_X12_readCond_25 (r_X12_readAllOf : Nat → AH → (Int32 → AH → Prop) → Prop) (r_X12_readAtom : Nat → AH → (Int32 → AH → Prop) → Prop) (r_X12_readCond : Nat → AH → (Int32 → AH → Prop) → Prop) (h : AH) (Q : Int32 → AH → Prop) : Prop :=
  Q (0 : Int32) h
def w_X12_readCond_9 (r_X12_readAllOf : Nat → AH → (Int32 → AH → Prop) → Prop) (r_X12_readAtom : Nat → AH → (Int32 → AH → Prop) → Prop) (r_X12_readCond : Nat → AH → (Int32 → AH → Prop) → Prop) (x25 : AH → Prop) (x37 : AH → Prop) (k : AH → Prop) (v0 : Nat) (h : AH) (Q : Int32 → AH → Prop) : Prop :=
  sc h 27 fun a1 =>
  vr h v0 12 (
  w_X12_passes v0 a1 h (fun x2 h =>
  br (x2 = 0) (
    x37  h) (
    vr h v0 12 (
    r_X12_readAllOf v0 h (fun x3 h =>
    br (x3 = 0) (
      x25  h) (
      vr h v0 12 (
      w_X12_emits v0 (17 : Int32) (0 : Int32) h (fun h =>
      k  h))))))))
def g_X12_readCond (r_X12_readAllOf : Nat → AH → (Int32 → AH → Prop) → Prop) (r_X12_readAtom : Nat → AH → (Int32 → AH → Prop) → Prop) (r_X12_readCond : Nat → AH → (Int32 → AH → Prop) → Prop) (v0 : Nat) (h : AH) (Q : Int32 → AH → Prop) : Prop :=
  vr h v0 12 (
  r_X12_readAllOf v0 h (fun x1 h =>
  br (x1 = 0) (
    Q (0 : Int32) h) (
    lp (fun (k2 : AH → Prop) (s2 : AH) => w_X12_readCond_9 r_X12_readAllOf r_X12_readAtom r_X12_readCond (fun  h => w_X12_readCond_25 r_X12_readAllOf r_X12_readAtom r_X12_readCond h Q) (fun  h => w_X12_readCond_37 r_X12_readAllOf r_X12_readAtom r_X12_readCond h Q) (fun  h => k2 (h)) v0 s2 Q) (h))))
set_option maxRecDepth 100000 in
set_option maxHeartbeats 4000000 in
theorem s_X12_readCond_37 {p : Program} {l : Launch} {e : Env} {s : State} {m : MethodId} {args : Array Value} {below : List Frame} {meth : Method} {c : Code} {g : GG} {d9 dr : Nat} {r_X12_readAllOf : Nat → AH → (Int32 → AH → Prop) → Prop} {r_X12_readAtom : Nat → AH → (Int32 → AH → Prop) → Prop} {r_X12_readCond : Nat → AH → (Int32 → AH → Prop) → Prop}  {Q : Int32 → AH → Prop}  (C : CXT p l s m args meth c RX12 cX12_readCond 1 g) (hr : meth.sig.returnType = (some .boolean)) (hdr : dr + 1 ≤ d9) (hdc : 9 ≤ d9) (h_X12_readAllOf : ∀ (a0 : Nat) (h : AH) (Q : Int32 → AH → Prop), r_X12_readAllOf a0 h Q → CT l yX12_readAllOf cX12_readAllOf 1 (some .boolean) dr 0 0 [.ref a0] h (QI Q)) (h_X12_readAtom : ∀ (a0 : Nat) (h : AH) (Q : Int32 → AH → Prop), r_X12_readAtom a0 h Q → CT l yX12_readAtom cX12_readAtom 2 (some .boolean) dr 0 0 [.ref a0] h (QI Q)) (h_X12_readCond : ∀ (a0 : Nat) (h : AH) (Q : Int32 → AH → Prop), r_X12_readCond a0 h Q → CT l yX12_readCond cX12_readCond 1 (some .boolean) dr 0 0 [.ref a0] h (QI Q))  : ∀  (h : AH), w_X12_readCond_37 r_X12_readAllOf r_X12_readAtom r_X12_readCond h Q → V p l e s m args below meth c g d9 0 0 1 0 0 (MQ below (QCx g (QI Q)) args s 0 0 (gA g)) 37 [] [] h := by
  intro  h hw
  refine v_iconst (v := 1) C dX12_readCond_37 (by decide) ?_
  exact (rt_MQ C _).2.1 _ _ _ _ _ _ _ hr rfl dX12_readCond_38 (by decide) (by decide) ⟨_, rfl, hw⟩
set_option maxRecDepth 100000 in
set_option maxHeartbeats 4000000 in
theorem s_X12_readCond_25 {p : Program} {l : Launch} {e : Env} {s : State} {m : MethodId} {args : Array Value} {below : List Frame} {meth : Method} {c : Code} {g : GG} {d9 dr : Nat} {r_X12_readAllOf : Nat → AH → (Int32 → AH → Prop) → Prop} {r_X12_readAtom : Nat → AH → (Int32 → AH → Prop) → Prop} {r_X12_readCond : Nat → AH → (Int32 → AH → Prop) → Prop}  {Q : Int32 → AH → Prop}  (C : CXT p l s m args meth c RX12 cX12_readCond 1 g) (hr : meth.sig.returnType = (some .boolean)) (hdr : dr + 1 ≤ d9) (hdc : 9 ≤ d9) (h_X12_readAllOf : ∀ (a0 : Nat) (h : AH) (Q : Int32 → AH → Prop), r_X12_readAllOf a0 h Q → CT l yX12_readAllOf cX12_readAllOf 1 (some .boolean) dr 0 0 [.ref a0] h (QI Q)) (h_X12_readAtom : ∀ (a0 : Nat) (h : AH) (Q : Int32 → AH → Prop), r_X12_readAtom a0 h Q → CT l yX12_readAtom cX12_readAtom 2 (some .boolean) dr 0 0 [.ref a0] h (QI Q)) (h_X12_readCond : ∀ (a0 : Nat) (h : AH) (Q : Int32 → AH → Prop), r_X12_readCond a0 h Q → CT l yX12_readCond cX12_readCond 1 (some .boolean) dr 0 0 [.ref a0] h (QI Q))  : ∀  (h : AH), w_X12_readCond_25 r_X12_readAllOf r_X12_readAtom r_X12_readCond h Q → V p l e s m args below meth c g d9 0 0 1 0 0 (MQ below (QCx g (QI Q)) args s 0 0 (gA g)) 25 [] [] h := by
  intro  h hw
  refine v_iconst (v := 0) C dX12_readCond_25 (by decide) ?_
  exact (rt_MQ C _).2.1 _ _ _ _ _ _ _ hr rfl dX12_readCond_26 (by decide) (by decide) ⟨_, rfl, hw⟩
set_option maxRecDepth 100000 in
set_option maxHeartbeats 4000000 in
theorem s_X12_readCond_9 {p : Program} {l : Launch} {e : Env} {s : State} {m : MethodId} {args : Array Value} {below : List Frame} {meth : Method} {c : Code} {g : GG} {d9 dr : Nat} {r_X12_readAllOf : Nat → AH → (Int32 → AH → Prop) → Prop} {r_X12_readAtom : Nat → AH → (Int32 → AH → Prop) → Prop} {r_X12_readCond : Nat → AH → (Int32 → AH → Prop) → Prop} {v0 : Nat} {Q : Int32 → AH → Prop} {x25 : AH → Prop} {x37 : AH → Prop} {k : AH → Prop} (C : CXT p l s m args meth c RX12 cX12_readCond 1 g) (hr : meth.sig.returnType = (some .boolean)) (hdr : dr + 1 ≤ d9) (hdc : 9 ≤ d9) (h_X12_readAllOf : ∀ (a0 : Nat) (h : AH) (Q : Int32 → AH → Prop), r_X12_readAllOf a0 h Q → CT l yX12_readAllOf cX12_readAllOf 1 (some .boolean) dr 0 0 [.ref a0] h (QI Q)) (h_X12_readAtom : ∀ (a0 : Nat) (h : AH) (Q : Int32 → AH → Prop), r_X12_readAtom a0 h Q → CT l yX12_readAtom cX12_readAtom 2 (some .boolean) dr 0 0 [.ref a0] h (QI Q)) (h_X12_readCond : ∀ (a0 : Nat) (h : AH) (Q : Int32 → AH → Prop), r_X12_readCond a0 h Q → CT l yX12_readCond cX12_readCond 1 (some .boolean) dr 0 0 [.ref a0] h (QI Q)) (hx25 : ∀  (h : AH), x25  h → V p l e s m args below meth c g d9 0 0 1 0 0 (MQ below (QCx g (QI Q)) args s 0 0 (gA g)) 25 [] [] h) (hx37 : ∀  (h : AH), x37  h → V p l e s m args below meth c g d9 0 0 1 0 0 (MQ below (QCx g (QI Q)) args s 0 0 (gA g)) 37 [] [] h) (hk : ∀  (h : AH), k  h → V p l e s m args below meth c g d9 0 0 1 0 0 (MQ below (QCx g (QI Q)) args s 0 0 (gA g)) 9 [(0, .ref v0)] [] h) : ∀  (h : AH), w_X12_readCond_9 r_X12_readAllOf r_X12_readAtom r_X12_readCond x25 x37 k v0 h Q → V p l e s m args below meth c g d9 0 0 1 0 0 (MQ below (QCx g (QI Q)) args s 0 0 (gA g)) 9 [(0, .ref v0)] [] h := by
  intro  h hw
  refine v_aload_n C dX12_readCond_9 0 rfl rfl ?_
  refine w_ldcS (i := 27) (tx := "or") C (List.mem_of_getElem? (i := 27) rfl) (by decide) dX12_readCond_10 hw (fun a1 hw => ?_)
  refine w_callVi (st := []) C cl_X12_210 im_X12_passes se_X12_passes rfl hw.1 (s_X12_passes hw.2) rfl dX12_readCond_12 rfl (by decide) (by omega) (by decide) (by decide) (by decide) (fun x2 h hw => ?_)
  refine v_if_eq (tgt := 37) C dX12_readCond_15 (by decide) (fun c_15 => ?_) (fun c_15 => ?_)
  · have hw := hw.1 c_15
    refine v_sub [] rfl ?_
    exact hx37  _ hw
  · have hw := hw.2 c_15
    refine v_aload_n C dX12_readCond_18 0 rfl rfl ?_
    refine w_callVi (st := []) C cl_X12_224 im_X12_readAllOf se_X12_readAllOf rfl hw.1 (h_X12_readAllOf _ _ _ hw.2) rfl dX12_readCond_19 rfl (by decide) (by omega) (by decide) (by decide) (by decide) (fun x3 h hw => ?_)
    refine v_if_ne (tgt := 27) C dX12_readCond_22 (by decide) (fun c_22 => ?_) (fun c_22 => ?_)
    · have hw := hw.2 c_22
      refine v_aload_n C dX12_readCond_27 0 rfl rfl ?_
      refine v_bipush (v := 17) C dX12_readCond_28 (by decide) ?_
      refine v_iconst (v := 0) C dX12_readCond_30 (by decide) ?_
      refine w_callVv (st := []) C cl_X12_147 im_X12_emits se_X12_emits rfl hw.1 (s_X12_emits hw.2) rfl dX12_readCond_31 rfl (by decide) (by omega) (by decide) (by decide) (by decide) (fun h hw => ?_)
      refine v_goto (tgt := 9) C dX12_readCond_34 (by decide) ?_
      exact hk  _ hw
    · have hw := hw.1 c_22
      refine v_sub [] rfl ?_
      exact hx25  _ hw
set_option maxRecDepth 100000 in
set_option maxHeartbeats 4000000 in
theorem t_X12_readCond {l : Launch} {d9 dr : Nat} {r_X12_readAllOf : Nat → AH → (Int32 → AH → Prop) → Prop} {r_X12_readAtom : Nat → AH → (Int32 → AH → Prop) → Prop} {r_X12_readCond : Nat → AH → (Int32 → AH → Prop) → Prop} {v0 : Nat} {h : AH} {Q : Int32 → AH → Prop} (hdr : dr + 1 ≤ d9) (hdc : 9 ≤ d9) (h_X12_readAllOf : ∀ (a0 : Nat) (h : AH) (Q : Int32 → AH → Prop), r_X12_readAllOf a0 h Q → CT l yX12_readAllOf cX12_readAllOf 1 (some .boolean) dr 0 0 [.ref a0] h (QI Q)) (h_X12_readAtom : ∀ (a0 : Nat) (h : AH) (Q : Int32 → AH → Prop), r_X12_readAtom a0 h Q → CT l yX12_readAtom cX12_readAtom 2 (some .boolean) dr 0 0 [.ref a0] h (QI Q)) (h_X12_readCond : ∀ (a0 : Nat) (h : AH) (Q : Int32 → AH → Prop), r_X12_readCond a0 h Q → CT l yX12_readCond cX12_readCond 1 (some .boolean) dr 0 0 [.ref a0] h (QI Q)) (hw : g_X12_readCond r_X12_readAllOf r_X12_readAtom r_X12_readCond v0 h Q) : CT l yX12_readCond cX12_readCond 1 (some .boolean) d9 0 0 [.ref v0] h (QI Q) := by
  refine CT.of (by decide) ⟨rfl, trivial⟩ (Nat.le_of_ble_eq_true rfl) ?_
  intro p e s m args below meth c g C hr hin
  refine v_eq (pc' := 0) (ls' := [(0, .ref v0)]) rfl rfl rfl rfl ?_
  refine v_aload_n C dX12_readCond_0 0 rfl rfl ?_
  refine w_callVi (st := []) C cl_X12_224 im_X12_readAllOf se_X12_readAllOf rfl hw.1 (h_X12_readAllOf _ _ _ hw.2) rfl dX12_readCond_1 rfl (by decide) (by omega) (by decide) (by decide) (by decide) (fun x1 h hw => ?_)
  refine v_if_ne (tgt := 9) C dX12_readCond_4 (by decide) (fun c_4 => ?_) (fun c_4 => ?_)
  · have hw := hw.2 c_4
    refine lp_walk (P := fun (s' : AH) => V p l e s m args below meth c g d9 0 0 1 0 0 (MQ below (QCx g (QI Q)) args s 0 0 (gA g)) 9 [(0, .ref v0)] [] s') (fun k2 hk2 s' hw => ?_) (h) hw
    exact s_X12_readCond_9 C hr hdr hdc h_X12_readAllOf h_X12_readAtom h_X12_readCond (fun  h hw => s_X12_readCond_25 C hr hdr hdc h_X12_readAllOf h_X12_readAtom h_X12_readCond   h hw) (fun  h hw => s_X12_readCond_37 C hr hdr hdc h_X12_readAllOf h_X12_readAtom h_X12_readCond   h hw) (fun  h hw => hk2 (h) hw)  _ hw
  · have hw := hw.1 c_4
    refine v_iconst (v := 0) C dX12_readCond_7 (by decide) ?_
    exact (rt_MQ C _).2.1 _ _ _ _ _ _ _ hr rfl dX12_readCond_8 (by decide) (by decide) ⟨_, rfl, hw⟩
def GR_X12 : Nat → (Nat → AH → (Int32 → AH → Prop) → Prop) × (Nat → AH → (Int32 → AH → Prop) → Prop) × (Nat → AH → (Int32 → AH → Prop) → Prop)
  | 0 => (fun _ _ _ => False, fun _ _ _ => False, fun _ _ _ => False)
  | n + 1 => (g_X12_readAllOf (GR_X12 n).1 (GR_X12 n).2.1 (GR_X12 n).2.2, g_X12_readAtom (GR_X12 n).1 (GR_X12 n).2.1 (GR_X12 n).2.2, g_X12_readCond (GR_X12 n).1 (GR_X12 n).2.1 (GR_X12 n).2.2)
theorem GS_X12 (l : Launch) : ∀ n : Nat, (∀ (a0 : Nat) (h : AH) (Q : Int32 → AH → Prop), (GR_X12 n).1 a0 h Q → CT l yX12_readAllOf cX12_readAllOf 1 (some .boolean) (9 + n) 0 0 [.ref a0] h (QI Q)) ∧ (∀ (a0 : Nat) (h : AH) (Q : Int32 → AH → Prop), (GR_X12 n).2.1 a0 h Q → CT l yX12_readAtom cX12_readAtom 2 (some .boolean) (9 + n) 0 0 [.ref a0] h (QI Q)) ∧ (∀ (a0 : Nat) (h : AH) (Q : Int32 → AH → Prop), (GR_X12 n).2.2 a0 h Q → CT l yX12_readCond cX12_readCond 1 (some .boolean) (9 + n) 0 0 [.ref a0] h (QI Q)) := by
  intro n
  induction n with
  | zero => exact ⟨fun _ _ _ hw => hw.elim, fun _ _ _ hw => hw.elim, fun _ _ _ hw => hw.elim⟩
  | succ n ih =>
    obtain ⟨i0, i1, i2⟩ := ih
    refine ⟨?_, ?_, ?_⟩
    · intro a0 h Q hw
      exact t_X12_readAllOf (d9 := 9 + (n + 1)) (dr := 9 + n) (by omega) (by omega) i0 i1 i2 hw
    · intro a0 h Q hw
      exact t_X12_readAtom (d9 := 9 + (n + 1)) (dr := 9 + n) (by omega) (by omega) i0 i1 i2 hw
    · intro a0 h Q hw
      exact t_X12_readCond (d9 := 9 + (n + 1)) (dr := 9 + n) (by omega) (by omega) i0 i1 i2 hw
def w_X12_readAllOf (v0 : Nat) (h : AH) (Q : Int32 → AH → Prop) : Prop := (GR_X12 40).1 v0 h Q
theorem s_X12_readAllOf {l : Launch} {v0 : Nat} {h : AH} {Q : Int32 → AH → Prop} (hw : w_X12_readAllOf v0 h Q) : CT l yX12_readAllOf cX12_readAllOf 1 (some .boolean) 49 0 0 [.ref v0] h (QI Q) := (GS_X12 l 40).1 v0 h Q hw
def w_X12_readAtom (v0 : Nat) (h : AH) (Q : Int32 → AH → Prop) : Prop := (GR_X12 40).2.1 v0 h Q
theorem s_X12_readAtom {l : Launch} {v0 : Nat} {h : AH} {Q : Int32 → AH → Prop} (hw : w_X12_readAtom v0 h Q) : CT l yX12_readAtom cX12_readAtom 2 (some .boolean) 49 0 0 [.ref v0] h (QI Q) := (GS_X12 l 40).2.1 v0 h Q hw
def w_X12_readCond (v0 : Nat) (h : AH) (Q : Int32 → AH → Prop) : Prop := (GR_X12 40).2.2 v0 h Q
theorem s_X12_readCond {l : Launch} {v0 : Nat} {h : AH} {Q : Int32 → AH → Prop} (hw : w_X12_readCond v0 h Q) : CT l yX12_readCond cX12_readCond 1 (some .boolean) 49 0 0 [.ref v0] h (QI Q) := (GS_X12 l 40).2.2 v0 h Q hw
