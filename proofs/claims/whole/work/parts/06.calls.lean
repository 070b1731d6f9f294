section CALLS
variable {p : Program} {l : Launch} {e : Env} {s : State} {m : MethodId} {args : Array Value} {below : List Frame} {meth : Method} {c : Code} {g : GG} {dl mc ms nL kc ks : Nat} {Z : State → Prop} {own : String} {cc : ByteArray} {pc : Nat} {ls : List (Nat × Value)} {st stk : List Value} {h : AH}
def catL : List Value → Prop
  | [] => True
  | v :: vs => v.category = 1 ∧ catL vs
theorem catL_mem {As : List Value} (hA : catL As) : ∀ v ∈ As, v.category = 1 := by
  induction As with
  | nil => intro v hv; cases hv
  | cons a As ih =>
    intro v hv
    rcases List.mem_cons.mp hv with rfl | hv
    · exact hA.1
    · exact ih hA.2 v hv
theorem lv_args_cat {As : List Value} (hA : catL As) : ∀ (i : Nat), ∀ q ∈ lv_args i As, q.2.category = 1 := by
  induction As with
  | nil => intro i q hq; cases hq
  | cons a As ih =>
    intro i q hq
    rcases List.mem_cons.mp hq with rfl | hq
    · exact hA.1
    · exact ih hA.2 _ q hq
abbrev PCx (g : GG) (As : List Value) (h : AH) : Array Value → State → Prop := va_Pc As (fun U => KV g U U.heap ∧ HC g h U.heap)
abbrev QCx (g : GG) (Q : Option Value → AH → Prop) : Array Value → State → Outcome → State → Prop := fun _ _ o t => ∃ (v : Option Value) (h' : AH), o = .returned v ∧ Q v h' ∧ HC g h' t.heap
abbrev XCx (g : GG) (X : String → AH → Prop) : String → State → State → Prop := fun E _ t => ∃ h' : AH, X E h' ∧ HC g h' t.heap
theorem pcx_blind {As : List Value} : FrameBlind (PCx g As h) := by
  intro a U gf mk hp
  obtain ⟨h1, h2, h3⟩ := hp
  exact ⟨h1, KV.moved (s := U) (U := U.calling gf mk a) (State.WarmedH.refl U) (fun _ _ _ => rfl) h2, h3⟩
theorem kv_at (C : CXT p l s m args meth c own cc nL g) {H : Heap} (hc : HC g h H) {U : State} (hU : U.heap = H) (hW : s.WarmedH U.vm) : KV g U U.heap := by
  refine KV.moved hW (fun q h1 h2 => ?_) C.2.2.2.2.1
  have h3 : q < g.2.2.1.size := Nat.not_le.mp h2
  rw [hU, hc.2.1 q h3, C.2.2.2.2.2.2.2.2 q h3]
/-- the tables know the method y by the entry 'index' of the class own -/
def CLk (own : String) (index : Nat) (y : MethodName) (cc' : ByteArray) (nL' : Nat) (ret : Option FieldType) (n : Nat) : Prop :=
  (Cond.methodLink own index y ∈ lw_tbl ∨ ∃ host, Cond.methodLinkNest own index y host ∈ lw_tbl) ∧ Cond.code y cc' nL' ret ∈ lw_tbl ∧ Cond.initialized y.cls ∈ lw_tbl ∧ y.cls ≠ "java/lang/invoke/MethodHandle" ∧ y.cls ≠ "java/lang/invoke/VarHandle" ∧ (parseMethodDescriptor y.desc).map (fun d => d.parameters.length) = some n
theorem clk_n {y : MethodName} {n : Nat} (h : (parseMethodDescriptor y.desc).map (fun d => d.parameters.length) = some n) : ∀ sig, parseMethodDescriptor y.desc = some sig → n = sig.parameters.length := by
  intro sig hs
  rw [hs] at h
  exact (Option.some.inj h).symm
theorem ws_ok (C : CXT p l s m args meth c own cc nL g) {y : MethodName} {cc' : ByteArray} {nL' : Nat} {ret : Option FieldType} (hc : Cond.code y cc' nL' ret ∈ lw_tbl) : ∀ w ∈ ([.code y cc' nL' ret] : List Cond), ∀ (a' : Array Value) (U : State), s.WarmedH U.vm → w.before a' U = true := by
  intro w hw a' U hW
  rw [List.mem_singleton.mp hw]
  exact okW_at hW rfl (C.2.2.2.2.1.2.1 _ hc rfl)
theorem v_run {H : Heap} {locs : List Loc} {lsA : Array Slot} {mc' ms' : Nat} {Q : Option Value → AH → Prop} {free : Addr → Prop} (hf : ∀ q, free q → gA g q) (hlc : ∀ q ∈ locs, gA g q.base)
    (hr : va_Run p l e (rmD dl mc ms) s m args below meth c H locs kc ks mc' ms' (F0 m pc lsA stk) st (fun st0 o t => ∃ (v : Option Value) (h' : AH), o = .returned v ∧ Q v h' ∧ HC g h' t.heap) free)
    (kk : ∀ (v : Option Value) (h' : AH) (H' : Heap) (locs' : List Loc), Q v h' → HC g h' H' → (∀ q ∈ locs', gA g q.base) → W p l e (rmD dl mc ms) s m args below meth c H' locs' (kc + mc') (ks + ms') Z (F0 m (pc + 3) lsA (v.toList ++ st))) : W p l e (rmD dl mc ms) s m args below meth c H locs kc ks Z (F0 m pc lsA stk) := by
  intro T hT X
  obtain ⟨v, st₀, t, T', L, h0, X', hL, e1, e2, ⟨v', h', hv, hq, hh⟩, go⟩ := hr T hT X
  cases hv
  obtain ⟨t2, a1, b1⟩ := kk v h' T'.heap (locs ++ L) hq (by rw [e1]; exact hh) (fun q hq => by
    rcases List.mem_append.mp hq with z | z
    · exact hlc q z
    · exact hf _ (hL q z)) T' rfl X'
  exact ⟨t2, go t2 a1, b1⟩
theorem rm_loc {nL' dl' : Nat} (hd : dl' + 1 ≤ dl) (hn : nL' ≤ 61) : 8 + (nL' + 11) + (rmD dl' 0 0).locals ≤ (rmD dl 0 0).locals := by
  show 8 + (nL' + 11) + 80 * dl' ≤ 80 * dl
  omega
theorem cat8 (hcat : (st.map fun v => v.category).sum ≤ 8) {m : MethodId} {pc : Nat} {lsA : Array Slot} {stk : List Value} : 2 * (F0 m pc lsA stk).monitorRoom + (st.map fun v => v.category).sum ≤ 8 := by
  rw [show (F0 m pc lsA stk).monitorRoom = 0 from rfl]
  omega
theorem v_callS (C : CXT p l s m args meth c own cc nL g) {index : Nat} {y : MethodName} {cc' : ByteArray} {nL' n dl' mc' ms' : Nat} {ret : Option FieldType} {As : List Value} {Q : Option Value → AH → Prop} (F : CLk own index y cc' nL' ret n) (hs0 : Cond.static y ∈ lw_tbl) (hM : CT l y cc' nL' ret dl' mc' ms' As h Q) (hs : stk = As.reverse ++ st) (d : decode cc pc = .ok (.invokestatic index, 3)) (hlen : As.length = n) (hcat : (st.map fun v => v.category).sum ≤ 8) (hd : dl' + 1 ≤ dl) (hn : nL' ≤ 61) (hkc : kc + mc' ≤ mc) (hks : ks + ms' ≤ ms)
    (kk : ∀ (v : Option Value) (h' : AH), Q v h' → V p l e s m args below meth c g dl mc ms nL (kc + mc') (ks + ms') Z (pc + 3) ls (v.toList ++ st) h') : V p l e s m args below meth c g dl mc ms nL kc ks Z pc ls stk h := by
  intro H locs lsA hc hv hlc
  obtain ⟨hl, hcd, hini, y1, y2, y3⟩ := F
  have hp : PreS s H (PCx g As h) As := ⟨pcx_blind, fun U hU hW => ⟨rfl, kv_at C hc hU hW, by rw [hU]; exact hc⟩⟩
  rcases hl with hl | ⟨host, hl⟩
  · refine v_run (fun q hq => hq) hlc (va_runS (Ts := []) (n := n) ⟨C.1, C.2.1, C.2.2.1, C.2.2.2.1, fun _ h => by cases h⟩ (hM g C.2.2.2.2.2.2.1) ⟨⟨rfl, rfl, hd, rm_loc hd hn, ws_ok C hcd, List.mem_singleton.mpr rfl, cx_w C hcd rfl, cx_w C hini rfl, ⟨y1, y2⟩, clk_n y3, cx_w C hl rfl⟩, cx_w C hs0 rfl⟩ hp rfl hlen hv.1.1 hs (cat8 hcat) d ⟨hkc, hks⟩) (fun v h' H' locs' hq hh hlc' => kk v h' hq H' locs' lsA hh hv hlc')
  · refine v_run (fun q hq => hq) hlc (va_runSN (Ts := []) (n := n) ⟨C.1, C.2.1, C.2.2.1, C.2.2.2.1, fun _ h => by cases h⟩ (hM g C.2.2.2.2.2.2.1) ⟨⟨⟨rfl, rfl, hd, rm_loc hd hn, ws_ok C hcd, List.mem_singleton.mpr rfl⟩, cx_w C hcd rfl, cx_w C hini rfl, ⟨y1, y2⟩, clk_n y3, cx_w C hl rfl⟩, cx_w C hs0 rfl, trivial⟩ hp rfl hlen hv.1.1 hs (cat8 hcat) d ⟨hkc, hks⟩) (fun v h' H' locs' hq hh hlc' => kk v h' hq H' locs' lsA hh hv hlc')
theorem hc_recv (C : CXT p l s m args meth c own cc nL g) {H : Heap} (hc : HC g h H) {ci b : Nat} {r : vw_C} (hr : vwCl[ci]? = some r) (hK : gK h b = ci + 1) : ∃ cellB : Cell, H[b]? = some cellB ∧ cellB.vm.isStatics = false ∧ s.vm.findClass r.1 = some cellB.cls := by
  obtain ⟨cell, q1, q2, q3, q4⟩ := (hc.2.2.1 b (by omega)).2.2.1 ci r hr hK
  exact ⟨cell, q1, by rw [q3]; rfl, by rw [q2]; exact (C.2.2.2.2.1.1.1 ci _ hr).2.1⟩
theorem v_callV (C : CXT p l s m args meth c own cc nL g) {index ci b : Nat} {r : vw_C} {y : MethodName} {cc' : ByteArray} {nL' n dl' mc' ms' : Nat} {ret : Option FieldType} {As : List Value} {Q : Option Value → AH → Prop} (F : CLk own index y cc' nL' ret n) (hi0 : Cond.instanceMethod y ∈ lw_tbl) (hsel : Cond.selects r.1 y y ∈ lw_tbl) (hr : vwCl[ci]? = some r) (hK : gK h b = ci + 1) (hM : CT l y cc' nL' ret dl' mc' ms' (.ref b :: As) h Q) (hs : stk = As.reverse ++ .ref b :: st) (d : decode cc pc = .ok (.invokevirtual index, 3)) (hlen : As.length = n) (hcat : (st.map fun v => v.category).sum ≤ 8) (hd : dl' + 1 ≤ dl) (hn : nL' ≤ 61) (hkc : kc + mc' ≤ mc) (hks : ks + ms' ≤ ms)
    (kk : ∀ (v : Option Value) (h' : AH), Q v h' → V p l e s m args below meth c g dl mc ms nL (kc + mc') (ks + ms') Z (pc + 3) ls (v.toList ++ st) h') : V p l e s m args below meth c g dl mc ms nL kc ks Z pc ls stk h := by
  intro H locs lsA hc hv hlc
  obtain ⟨hl, hcd, hini, y1, y2, y3⟩ := F
  have hp : PreV s H r.1 b (PCx g (.ref b :: As) h) As := ⟨pcx_blind, hc_recv C hc hr hK, fun U hU hW => ⟨rfl, kv_at C hc hU hW, by rw [hU]; exact hc⟩⟩
  rcases hl with hl | ⟨host, hl⟩
  · refine v_run (fun q hq => hq) hlc (va_runV (Ts := []) (n := n) ⟨C.1, C.2.1, C.2.2.1, C.2.2.2.1, fun _ h => by cases h⟩ (hM g C.2.2.2.2.2.2.1) ⟨⟨rfl, rfl, hd, rm_loc hd hn, ws_ok C hcd, List.mem_singleton.mpr rfl, cx_w C hcd rfl, cx_w C hini rfl, ⟨y1, y2⟩, clk_n y3, cx_w C hl rfl⟩, cx_w C hi0 rfl, cx_w C hsel rfl⟩ hp rfl hlen hv.1.1 hs (cat8 hcat) d ⟨hkc, hks⟩) (fun v h' H' locs' hq hh hlc' => kk v h' hq H' locs' lsA hh hv hlc')
  · refine v_run (fun q hq => hq) hlc (va_runVN (Ts := []) (n := n) ⟨C.1, C.2.1, C.2.2.1, C.2.2.2.1, fun _ h => by cases h⟩ (hM g C.2.2.2.2.2.2.1) ⟨⟨⟨rfl, rfl, hd, rm_loc hd hn, ws_ok C hcd, List.mem_singleton.mpr rfl⟩, cx_w C hcd rfl, cx_w C hini rfl, ⟨y1, y2⟩, clk_n y3, cx_w C hl rfl⟩, cx_w C hi0 rfl, cx_w C hsel rfl⟩ hp rfl hlen hv.1.1 hs (cat8 hcat) d ⟨hkc, hks⟩) (fun v h' H' locs' hq hh hlc' => kk v h' hq H' locs' lsA hh hv hlc')
theorem v_callI (C : CXT p l s m args meth c own cc nL g) {index b : Nat} {y : MethodName} {cc' : ByteArray} {nL' n dl' mc' ms' : Nat} {As : List Value} {Q : Option Value → AH → Prop} (F : CLk own index y cc' nL' none n) (hi0 : Cond.instanceMethod y ∈ lw_tbl) (hy : y.name = "<init>") (hM : CT l y cc' nL' none dl' mc' ms' (.ref b :: As) h Q) (hs : stk = As.reverse ++ .ref b :: st) (d : decode cc pc = .ok (.invokespecial index, 3)) (hlen : As.length = n) (hcat : (st.map fun v => v.category).sum ≤ 8) (hd : dl' + 1 ≤ dl) (hn : nL' ≤ 61) (hkc : kc + mc' ≤ mc) (hks : ks + ms' ≤ ms)
    (kk : ∀ (v : Option Value) (h' : AH), Q v h' → V p l e s m args below meth c g dl mc ms nL (kc + mc') (ks + ms') Z (pc + 3) ls (v.toList ++ st) h') : V p l e s m args below meth c g dl mc ms nL kc ks Z pc ls stk h := by
  intro H locs lsA hc hv hlc
  obtain ⟨hl, hcd, hini, y1, y2, y3⟩ := F
  have hp : PreS s H (PCx g (.ref b :: As) h) (.ref b :: As) := ⟨pcx_blind, fun U hU hW => ⟨rfl, kv_at C hc hU hW, by rw [hU]; exact hc⟩⟩
  rcases hl with hl | ⟨host, hl⟩
  · refine v_run (fun q hq => hq) hlc (va_runI (Ts := []) (n := n) ⟨C.1, C.2.1, C.2.2.1, C.2.2.2.1, fun _ h => by cases h⟩ (hM g C.2.2.2.2.2.2.1) ⟨⟨rfl, rfl, hd, rm_loc hd hn, ws_ok C hcd, List.mem_singleton.mpr rfl, cx_w C hcd rfl, cx_w C hini rfl, ⟨y1, y2⟩, clk_n y3, cx_w C hl rfl⟩, hy, cx_w C hi0 rfl⟩ hp rfl hlen hv.1.1 hs (cat8 hcat) d ⟨hkc, hks⟩) (fun v h' H' locs' hq hh hlc' => kk v h' hq H' locs' lsA hh hv hlc')
  · refine v_run (fun q hq => hq) hlc (va_runIN (Ts := []) (n := n) ⟨C.1, C.2.1, C.2.2.1, C.2.2.2.1, fun _ h => by cases h⟩ (hM g C.2.2.2.2.2.2.1) ⟨⟨⟨rfl, rfl, hd, rm_loc hd hn, ws_ok C hcd, List.mem_singleton.mpr rfl⟩, cx_w C hcd rfl, cx_w C hini rfl, ⟨y1, y2⟩, clk_n y3, cx_w C hl rfl⟩, hy, cx_w C hi0 rfl⟩ hp rfl hlen hv.1.1 hs (cat8 hcat) d ⟨hkc, hks⟩) (fun v h' H' locs' hq hh hlc' => kk v h' hq H' locs' lsA hh hv hlc')
theorem v_objInit (C : CXT p l s m args meth c own cc nL g) {idx a : Nat} (hlink : Cond.methodLink own idx objectInit ∈ lw_tbl) (hinst : Cond.instanceMethod objectInit ∈ lw_tbl) (hcode : Cond.code objectInit ⟨#[0xb1]⟩ 1 none ∈ lw_tbl) (d : decode cc pc = .ok (.invokespecial idx, 3)) (hd : 1 ≤ dl) (hcat : (st.map fun v => v.category).sum ≤ 8) (kk : V p l e s m args below meth c g dl mc ms nL kc ks Z (pc + 3) ls st h) : V p l e s m args below meth c g dl mc ms nL kc ks Z pc ls (.ref a :: st) h := by
  intro H locs lsA hc hv hlc
  exact W.objInit C.1 C.2.1 C.2.2.2.1 (cx_w C hlink rfl) (cx_w C hinst rfl) (cx_w C hcode rfl) rfl (by rw [C.2.2.1]; exact hv.1.1) rfl d hd (by
    rw [show (F0 m pc lsA (.ref a :: st)).monitorRoom = 0 from rfl]
    show 2 * 0 + (st.map fun v => v.category).sum + 12 ≤ 80 * dl
    omega) (kk H locs lsA hc hv hlc)
-- ends
def RTn (p : Program) (l : Launch) (e : Env) (s : State) (m : MethodId) (args : Array Value) (below : List Frame) (meth : Method) (c : Code) (g : GG) (dl mc ms nL : Nat) (Z : State → Prop) (cc : ByteArray) (Q : Option Value → AH → Prop) : Prop :=
  (∀ (kc ks pc : Nat) (ls : List (Nat × Value)) (x : Int32) (h : AH), meth.sig.returnType = some .int → decode cc pc = .ok (.ireturn, 1) → kc ≤ mc → ks ≤ ms → Q (some (.int x)) h → V p l e s m args below meth c g dl mc ms nL kc ks Z pc ls [.int x] h) ∧
  (∀ (kc ks pc : Nat) (ls : List (Nat × Value)) (x : Int32) (h : AH) (ty : FieldType), meth.sig.returnType = some ty → narrow ty (.int x) = .int x → decode cc pc = .ok (.ireturn, 1) → kc ≤ mc → ks ≤ ms → Q (some (.int x)) h → V p l e s m args below meth c g dl mc ms nL kc ks Z pc ls [.int x] h) ∧
  (∀ (kc ks pc : Nat) (ls : List (Nat × Value)) (h : AH), meth.sig.returnType = none → decode cc pc = .ok (.return_, 1) → kc ≤ mc → ks ≤ ms → Q none h → V p l e s m args below meth c g dl mc ms nL kc ks Z pc ls [] h) ∧
  (∀ (kc ks pc : Nat) (ls : List (Nat × Value)) (a : Nat) (h : AH) (rt : FieldType), meth.sig.returnType = some rt → ((∃ n, rt = .object n) ∨ ∃ t, rt = .array t) → decode cc pc = .ok (.areturn, 1) → kc ≤ mc → ks ≤ ms → Q (some (.ref a)) h → V p l e s m args below meth c g dl mc ms nL kc ks Z pc ls [.ref a] h)
theorem rt_MQ (C : CXT p l s m args meth c own cc nL g) (Q : Option Value → AH → Prop) : RTn p l e s m args below meth c g dl mc ms nL (MQ below (QCx g Q) args s mc ms (gA g)) cc Q := by
  have hlk := C.2.2.2.2.2.1
  refine ⟨?_, ?_, ?_, ?_⟩
  · intro kc ks pc ls x h hr d h1 h2 hq H locs lsA hc hv hlc
    exact W.widen h1 h2 (W.iret C.1 C.2.1 hr (fun t ht _ => ⟨_, h, rfl, hq, by rw [ht]; exact hc⟩) hlc d hlk)
  · intro kc ks pc ls x h ty hr hn d h1 h2 hq H locs lsA hc hv hlc
    exact W.widen h1 h2 (W.zret C.1 C.2.1 hr hn (fun t ht _ => ⟨_, h, rfl, hq, by rw [ht]; exact hc⟩) hlc d hlk)
  · intro kc ks pc ls h hr d h1 h2 hq H locs lsA hc hv hlc
    exact W.widen h1 h2 (W.vret C.1 C.2.1 hr (fun t ht _ => ⟨_, h, rfl, hq, by rw [ht]; exact hc⟩) hlc d hlk)
  · intro kc ks pc ls a h rt hr ho d h1 h2 hq H locs lsA hc hv hlc
    exact W.widen h1 h2 (W.aret C.1 C.2.1 hr ho (Or.inr ⟨a, rfl⟩) (fun t ht _ => ⟨_, h, rfl, hq, by rw [ht]; exact hc⟩) hlc d hlk)
theorem rt_VX (C : CXT p l s m args meth c own cc nL g) (Q : Option Value → AH → Prop) (X : String → AH → Prop) : RTn p l e s m args below meth c g dl mc ms nL (vx_MQ below (QCx g Q) (XCx g X) args s mc ms (gA g)) cc Q := by
  obtain ⟨r1, r2, r3, r4⟩ := rt_MQ (e := e) (below := below) (dl := dl) (mc := mc) (ms := ms) C Q
  refine ⟨?_, ?_, ?_, ?_⟩
  · intro kc ks pc ls x h hr d h1 h2 hq H locs lsA hc hv hlc
    exact vx_ret (r1 kc ks pc ls x h hr d h1 h2 hq H locs lsA hc hv hlc)
  · intro kc ks pc ls x h ty hr hn d h1 h2 hq H locs lsA hc hv hlc
    exact vx_ret (r2 kc ks pc ls x h ty hr hn d h1 h2 hq H locs lsA hc hv hlc)
  · intro kc ks pc ls h hr d h1 h2 hq H locs lsA hc hv hlc
    exact vx_ret (r3 kc ks pc ls h hr d h1 h2 hq H locs lsA hc hv hlc)
  · intro kc ks pc ls a h rt hr ho d h1 h2 hq H locs lsA hc hv hlc
    exact vx_ret (r4 kc ks pc ls a h rt hr ho d h1 h2 hq H locs lsA hc hv hlc)
/-- a contract out of a walk -/
theorem CT.of {y : MethodName} {ret : Option FieldType} {As : List Value} {Q : Option Value → AH → Prop} (hy : plainName y.cls = true) (hA : catL As) (hlen : (lg_sl As).length ≤ nL)
    (body : ∀ (p : Program) (e : Env) (s : State) (m : MethodId) (args : Array Value) (below : List Frame) (meth : Method) (c : Code) (g : GG), CXT p l s m args meth c y.cls cc nL g → meth.sig.returnType = ret → meth.name = y.name → V p l e s m args below meth c g dl mc ms nL 0 0 (MQ below (QCx g Q) args s mc ms (gA g)) 0 (lv_args 0 As) [] h) : CT l y cc nL ret dl mc ms As h Q := by
  intro g hl
  refine Met.ofW (cc := cc) (maxL := nL) (ret := ret) hy rfl ?_
  intro p e s m args below meth c s₁ B hml hv
  obtain ⟨hargs, hkv, hhc⟩ := hv
  have C : CXT p l s m args meth c y.cls cc nL g := ⟨B.exec, B.bytes, hml, findClass_of_methodNamed B.named, hkv, B.notSynchronized, hl, hhc.1, hhc.2.1⟩
  have hb := body p e s m args below meth c g C B.returns (name_of_methodNamed B.named B.method).1
  have hl0 := lv_entry As (n := nL) hlen
  have hw := hb s.heap [] _ hhc ⟨hl0, lv_args_cat hA 0⟩ (fun q hq => by cases hq)
  have he := lg_entry_eq m As nL
  rw [← hargs] at he
  rw [he]
  exact hw
theorem CX.of {y : MethodName} {ret : Option FieldType} {As : List Value} {Q : Option Value → AH → Prop} {X : String → AH → Prop} (hy : plainName y.cls = true) (hA : catL As) (hlen : (lg_sl As).length ≤ nL)
    (body : ∀ (p : Program) (e : Env) (s : State) (m : MethodId) (args : Array Value) (below : List Frame) (meth : Method) (c : Code) (g : GG), CXT p l s m args meth c y.cls cc nL g → meth.sig.returnType = ret → (∀ x ∈ c.exceptionTable.toList, False) → V p l e s m args below meth c g dl mc ms nL 0 0 (vx_MQ below (QCx g Q) (XCx g X) args s mc ms (gA g)) 0 (lv_args 0 As) [] h) : CX l y cc nL ret dl mc ms As h Q X := by
  intro g hl
  refine vx_ofW (cc := cc) (maxL := nL) (ret := ret) hy rfl ?_
  intro p e s m args below meth c s₁ B hml htb hv
  obtain ⟨hargs, hkv, hhc⟩ := hv
  have C : CXT p l s m args meth c y.cls cc nL g := ⟨B.exec, B.bytes, hml, findClass_of_methodNamed B.named, hkv, B.notSynchronized, hl, hhc.1, hhc.2.1⟩
  have hb := body p e s m args below meth c g C B.returns htb
  have hl0 := lv_entry As (n := nL) hlen
  have hw := hb s.heap [] _ hhc ⟨hl0, lv_args_cat hA 0⟩ (fun q hq => by cases hq)
  have he := lg_entry_eq m As nL
  rw [← hargs] at he
  rw [he]
  exact hw
-- thrown
/-- the method's frame at pc with an exception of class E over it -/
def VT (p : Program) (l : Launch) (e : Env) (s : State) (m : MethodId) (args : Array Value) (below : List Frame) (meth : Method) (c : Code) (g : GG) (dl mc ms nL kc ks : Nat) (Z : State → Prop) (pc : Nat) (ls : List (Nat × Value)) (st : List Value) (h : AH) (E : String) : Prop :=
  ∀ (H : Heap) (locs : List Loc) (lsA : Array Slot) (q : Addr) (ce : Cell), HC g h H → LV lsA nL ls → (∀ q ∈ locs, gA g q.base) → H[q]? = some ce → ce.vm = .none → s.vm.findClass E = some ce.cls → vx_W p l e (rmD dl mc ms) s m args below meth c H locs kc ks Z (F0 m pc lsA st) q
def TXn (p : Program) (l : Launch) (e : Env) (s : State) (m : MethodId) (args : Array Value) (below : List Frame) (meth : Method) (c : Code) (g : GG) (dl mc ms nL : Nat) (Z : State → Prop) (X : String → AH → Prop) : Prop :=
  ∀ (kc ks pc : Nat) (ls : List (Nat × Value)) (st : List Value) (h : AH) (E : String), kc ≤ mc → ks ≤ ms → X E h → VT p l e s m args below meth c g dl mc ms nL kc ks Z pc ls st h E
theorem tx_out (C : CXT p l s m args meth c own cc nL g) (htb : ∀ x ∈ c.exceptionTable.toList, False) (Q : Option Value → AH → Prop) (X : String → AH → Prop) : TXn p l e s m args below meth c g dl mc ms nL (vx_MQ below (QCx g Q) (XCx g X) args s mc ms (gA g)) X := by
  intro kc ks pc ls st h E h1 h2 hX H locs lsA q ce hc hv hlc c1 c2 c3
  exact vx_out (fun x hx => (htb x hx).elim) C.2.2.2.2.2.1 c1 c2 c3 (fun t ht _ => ⟨h, hX, by rw [ht]; exact hc⟩) hlc h1 h2
theorem v_runX {H : Heap} {locs : List Loc} {lsA : Array Slot} {mc' ms' : Nat} {Q : Option Value → AH → Prop} {X : String → AH → Prop} {free : Addr → Prop} (hf : ∀ q, free q → gA g q) (hlc : ∀ q ∈ locs, gA g q.base)
    (hr : vx_Run p l e (rmD dl mc ms) s m args below meth c H locs kc ks mc' ms' (F0 m pc lsA stk) st (fun st0 o t => ∃ (v : Option Value) (h' : AH), o = .returned v ∧ Q v h' ∧ HC g h' t.heap) (XCx g X) free)
    (kx : ∀ (E : String) (h' : AH) (H' : Heap) (locs' : List Loc) (q : Addr) (ce : Cell), X E h' → HC g h' H' → (∀ q ∈ locs', gA g q.base) → H'[q]? = some ce → ce.vm = .none → s.vm.findClass E = some ce.cls → vx_W p l e (rmD dl mc ms) s m args below meth c H' locs' (kc + mc') (ks + ms') Z (F0 m pc lsA st) q)
    (kk : ∀ (v : Option Value) (h' : AH) (H' : Heap) (locs' : List Loc), Q v h' → HC g h' H' → (∀ q ∈ locs', gA g q.base) → W p l e (rmD dl mc ms) s m args below meth c H' locs' (kc + mc') (ks + ms') Z (F0 m (pc + 3) lsA (v.toList ++ st))) : W p l e (rmD dl mc ms) s m args below meth c H locs kc ks Z (F0 m pc lsA stk) := by
  intro T hT X
  have hL2 : ∀ (L : List Loc), (∀ q ∈ L, free q.base) → ∀ q ∈ locs ++ L, gA g q.base := fun L hL q hq => by
    rcases List.mem_append.mp hq with z | z
    · exact hlc q z
    · exact hf _ (hL q z)
  rcases hr T hT X with ⟨v, st₀, t, T', L, h0, X', hL, e1, e2, ⟨v', h', hv, hq, hh⟩, go⟩ | ⟨q, st₀, t, T', L, E, ce, h0, X', hL, e1, e2, ⟨h', hx, hh⟩, hce, hcv, hcl, go⟩
  · cases hv
    obtain ⟨t2, a1, b1⟩ := kk v h' T'.heap (locs ++ L) hq (by rw [e1]; exact hh) (hL2 L hL) T' rfl X'
    exact ⟨t2, go t2 a1, b1⟩
  · obtain ⟨t2, a1, b1⟩ := kx E h' T'.heap (locs ++ L) q ce hx (by rw [e1]; exact hh) (hL2 L hL) (by rw [e1]; exact hce) hcv hcl T' rfl X'
    exact ⟨t2, go.trans a1, b1⟩
theorem v_callXS (C : CXT p l s m args meth c own cc nL g) {index : Nat} {y : MethodName} {cc' : ByteArray} {nL' n dl' mc' ms' : Nat} {ret : Option FieldType} {As : List Value} {Q : Option Value → AH → Prop} {X : String → AH → Prop} (F : CLk own index y cc' nL' ret n) (hlk : Cond.methodLink own index y ∈ lw_tbl) (hs0 : Cond.static y ∈ lw_tbl) (hM : CX l y cc' nL' ret dl' mc' ms' As h Q X) (hs : stk = As.reverse ++ st) (d : decode cc pc = .ok (.invokestatic index, 3)) (hlen : As.length = n) (hcat : (st.map fun v => v.category).sum ≤ 8) (hd : dl' + 1 ≤ dl) (hn : nL' ≤ 61) (hkc : kc + mc' ≤ mc) (hks : ks + ms' ≤ ms)
    (kx : ∀ (E : String) (h' : AH), X E h' → VT p l e s m args below meth c g dl mc ms nL (kc + mc') (ks + ms') Z pc ls st h' E)
    (kk : ∀ (v : Option Value) (h' : AH), Q v h' → V p l e s m args below meth c g dl mc ms nL (kc + mc') (ks + ms') Z (pc + 3) ls (v.toList ++ st) h') : V p l e s m args below meth c g dl mc ms nL kc ks Z pc ls stk h := by
  intro H locs lsA hc hv hlc
  obtain ⟨-, hcd, hini, y1, y2, y3⟩ := F
  have hp : PreS s H (PCx g As h) As := ⟨pcx_blind, fun U hU hW => ⟨rfl, kv_at C hc hU hW, by rw [hU]; exact hc⟩⟩
  exact v_runX (fun q hq => hq) hlc (vx_runS (Ts := []) (n := n) ⟨C.1, C.2.1, C.2.2.1, C.2.2.2.1, fun _ h => by cases h⟩ (hM g C.2.2.2.2.2.2.1) ⟨⟨rfl, rfl, hd, rm_loc hd hn, ws_ok C hcd, List.mem_singleton.mpr rfl, cx_w C hcd rfl, cx_w C hini rfl, ⟨y1, y2⟩, clk_n y3, cx_w C hlk rfl⟩, cx_w C hs0 rfl⟩ hp rfl hlen hv.1.1 hs (cat8 hcat) d ⟨hkc, hks⟩) (fun E h' H' locs' q ce hx hh hlc' c1 c2 c3 => kx E h' hx H' locs' lsA q ce hh hv hlc' c1 c2 c3) (fun v h' H' locs' hq hh hlc' => kk v h' hq H' locs' lsA hh hv hlc')
theorem v_callXV (C : CXT p l s m args meth c own cc nL g) {index ci b : Nat} {r : vw_C} {y : MethodName} {cc' : ByteArray} {nL' n dl' mc' ms' : Nat} {ret : Option FieldType} {As : List Value} {Q : Option Value → AH → Prop} {X : String → AH → Prop} (F : CLk own index y cc' nL' ret n) (hlk : Cond.methodLink own index y ∈ lw_tbl) (hi0 : Cond.instanceMethod y ∈ lw_tbl) (hsel : Cond.selects r.1 y y ∈ lw_tbl) (hr : vwCl[ci]? = some r) (hK : gK h b = ci + 1) (hM : CX l y cc' nL' ret dl' mc' ms' (.ref b :: As) h Q X) (hs : stk = As.reverse ++ .ref b :: st) (d : decode cc pc = .ok (.invokevirtual index, 3)) (hlen : As.length = n) (hcat : (st.map fun v => v.category).sum ≤ 8) (hd : dl' + 1 ≤ dl) (hn : nL' ≤ 61) (hkc : kc + mc' ≤ mc) (hks : ks + ms' ≤ ms)
    (kx : ∀ (E : String) (h' : AH), X E h' → VT p l e s m args below meth c g dl mc ms nL (kc + mc') (ks + ms') Z pc ls st h' E)
    (kk : ∀ (v : Option Value) (h' : AH), Q v h' → V p l e s m args below meth c g dl mc ms nL (kc + mc') (ks + ms') Z (pc + 3) ls (v.toList ++ st) h') : V p l e s m args below meth c g dl mc ms nL kc ks Z pc ls stk h := by
  intro H locs lsA hc hv hlc
  obtain ⟨-, hcd, hini, y1, y2, y3⟩ := F
  have hp : PreV s H r.1 b (PCx g (.ref b :: As) h) As := ⟨pcx_blind, hc_recv C hc hr hK, fun U hU hW => ⟨rfl, kv_at C hc hU hW, by rw [hU]; exact hc⟩⟩
  exact v_runX (fun q hq => hq) hlc (vx_runV (Ts := []) (n := n) ⟨C.1, C.2.1, C.2.2.1, C.2.2.2.1, fun _ h => by cases h⟩ (hM g C.2.2.2.2.2.2.1) ⟨⟨rfl, rfl, hd, rm_loc hd hn, ws_ok C hcd, List.mem_singleton.mpr rfl, cx_w C hcd rfl, cx_w C hini rfl, ⟨y1, y2⟩, clk_n y3, cx_w C hlk rfl⟩, cx_w C hi0 rfl, cx_w C hsel rfl⟩ hp rfl hlen hv.1.1 hs (cat8 hcat) d ⟨hkc, hks⟩) (fun E h' H' locs' q ce hx hh hlc' c1 c2 c3 => kx E h' hx H' locs' lsA q ce hh hv hlc' c1 c2 c3) (fun v h' H' locs' hq hh hlc' => kk v h' hq H' locs' lsA hh hv hlc')
/-- throw new X("text") -/
theorem v_throwS (C : CXT p l s m args meth c own cc nL g) (htb : ∀ x ∈ c.exceptionTable.toList, False) {Q : Option Value → AH → Prop} {X : String → AH → Prop} {cls text : String} {names : List String} {ik is ic ti : Nat} (hcls : Bundle.fit cls = true) (hnames : ∀ n ∈ names, Bundle.fit n = true) (hk : Cond.classLink own ik cls ∈ lw_tbl) (hini : Cond.initialized cls ∈ lw_tbl) (hstr : (own, is, text, ti) ∈ strT) (hat : ∀ w ∈ vx_atS own ic cls names, w.before args s = true) (hgood : ∀ w ∈ Cond.classLink own ik cls :: Cond.initialized cls :: vx_atS own ic cls names, vx_ot w = true)
    (d0 : decode cc pc = .ok (.new ik, 3)) (d3 : decode cc (pc + 3) = .ok (.dup, 1)) (d4 : decode cc (pc + 4) = .ok (.ldc is, 2)) (d6 : decode cc (pc + 6) = .ok (.invokespecial ic, 3)) (d9 : decode cc (pc + 9) = .ok (.athrow, 1))
    (h1 : names.length + 3 < dl) (h2 : (st.map fun v => v.category).sum ≤ 8) (h3 : names.length ≤ 5) (hkc : kc + 1 ≤ mc) (hks : ks + 6 ≤ ms) (hX : X cls h) : V p l e s m args below meth c g dl mc ms nL kc ks (vx_MQ below (QCx g Q) (XCx g X) args s mc ms (gA g)) pc ls st h := by
  intro H locs lsA hc hv hlc T hT X9
  have hz : s.heap.size ≤ H.size := by
    have h9 := (vx_frame (U := T) X9.same).1
    rw [hT] at h9
    exact h9
  refine vx_throwS (A := gA g) C.1 C.2.1 C.2.2.2.2.2.2.1 C.2.2.2.1 hcls hnames (cx_w C hk rfl) (cx_w C hini rfl) (C.2.2.2.2.1.2.2.2.1 _ hstr) hat hgood C.2.2.2.2.1.2.2.1.1 C.2.2.2.2.1.2.2.1.2 ?_ (by rw [C.2.2.1]; exact hv.1.1) d0 d3 d4 d6 d9 (fun x hx => (htb x hx).elim) h1 ?_ hkc hks C.2.2.2.2.2.1 (fun t hal hsz hold => ⟨h, hX, ?_⟩) hlc hkc hks T hT X9
  · refine ⟨?_, fun q hq hn => ?_, hlc⟩
    · exact hz
    · have h3 : q < g.2.2.1.size := Nat.not_le.mp hn
      rw [hc.2.1 q h3, C.2.2.2.2.2.2.2.2 q h3]
  · show _ ≤ 80 * dl
    omega
  · refine ⟨Nat.le_trans hc.1 hsz, fun q hq => by rw [hold q (Nat.lt_of_lt_of_le hq hc.1)]; exact hc.2.1 q hq, fun a ha => ?_, hc.2.2.2⟩
    obtain ⟨b1, b2, b3, b4⟩ := hc.2.2.1 a ha
    exact ⟨b1, Nat.lt_of_lt_of_le b2 hsz, fun ci r hr hq => (b3 ci r hr hq).kept (hold a b2), fun j hj hq => by rw [hold a b2]; exact b4 j hj hq⟩
/-- throw new X("text") -/
theorem v_throwSW (C : CXT p l s m args meth c own cc nL g) (htb : ∀ x ∈ c.exceptionTable.toList, False) {Q : Option Value → AH → Prop} {X : String → AH → Prop} {cls text : String} {names : List String} {ik is ic ti : Nat} (hcls : Bundle.fit cls = true) (hnames : ∀ n ∈ names, Bundle.fit n = true) (hk : Cond.classLink own ik cls ∈ lw_tbl) (hini : Cond.initialized cls ∈ lw_tbl) (hstr : (own, is, text, ti) ∈ strT) (hat : ∀ w ∈ vx_atS own ic cls names, w.before args s = true) (hgood : ∀ w ∈ Cond.classLink own ik cls :: Cond.initialized cls :: vx_atS own ic cls names, vx_ot w = true)
    (d0 : decode cc pc = .ok (.new ik, 3)) (d3 : decode cc (pc + 3) = .ok (.dup, 1)) (d4 : decode cc (pc + 4) = .ok (.ldc_w is, 3)) (d6 : decode cc (pc + 7) = .ok (.invokespecial ic, 3)) (d9 : decode cc (pc + 10) = .ok (.athrow, 1))
    (h1 : names.length + 3 < dl) (h2 : (st.map fun v => v.category).sum ≤ 8) (h3 : names.length ≤ 5) (hkc : kc + 1 ≤ mc) (hks : ks + 6 ≤ ms) (hX : X cls h) : V p l e s m args below meth c g dl mc ms nL kc ks (vx_MQ below (QCx g Q) (XCx g X) args s mc ms (gA g)) pc ls st h := by
  intro H locs lsA hc hv hlc T hT X9
  have hz : s.heap.size ≤ H.size := by
    have h9 := (vx_frame (U := T) X9.same).1
    rw [hT] at h9
    exact h9
  refine vx_throwSW (A := gA g) C.1 C.2.1 C.2.2.2.2.2.2.1 C.2.2.2.1 hcls hnames (cx_w C hk rfl) (cx_w C hini rfl) (C.2.2.2.2.1.2.2.2.1 _ hstr) hat hgood C.2.2.2.2.1.2.2.1.1 C.2.2.2.2.1.2.2.1.2 ?_ (by rw [C.2.2.1]; exact hv.1.1) d0 d3 d4 d6 d9 (fun x hx => (htb x hx).elim) h1 ?_ hkc hks C.2.2.2.2.2.1 (fun t hal hsz hold => ⟨h, hX, ?_⟩) hlc hkc hks T hT X9
  · refine ⟨?_, fun q hq hn => ?_, hlc⟩
    · exact hz
    · have h3 : q < g.2.2.1.size := Nat.not_le.mp hn
      rw [hc.2.1 q h3, C.2.2.2.2.2.2.2.2 q h3]
  · show _ ≤ 80 * dl
    omega
  · refine ⟨Nat.le_trans hc.1 hsz, fun q hq => by rw [hold q (Nat.lt_of_lt_of_le hq hc.1)]; exact hc.2.1 q hq, fun a ha => ?_, hc.2.2.2⟩
    obtain ⟨b1, b2, b3, b4⟩ := hc.2.2.1 a ha
    exact ⟨b1, Nat.lt_of_lt_of_le b2 hsz, fun ci r hr hq => (b3 ci r hr hq).kept (hold a b2), fun j hj hq => by rw [hold a b2]; exact b4 j hj hq⟩
theorem v_max (C : CXT p l s m args meth c own cc nL g) {index : Nat} {x y : Int32} (hl : Cond.methodLink own index Lib.Math.max.name ∈ lw_tbl) (h1 : Cond.static Lib.Math.max.name ∈ lw_tbl) (h2 : Cond.initialized "java/lang/Math" ∈ lw_tbl) (h3 : Cond.code Lib.Math.max.name Lib.Math.max.code 2 (some .int) ∈ lw_tbl) (d : decode cc pc = .ok (.invokestatic index, 3)) (hd : 1 ≤ dl) (hcat : (st.map fun v => v.category).sum ≤ 8) (hkc : kc ≤ mc) (hks : ks ≤ ms) (kk : V p l e s m args below meth c g dl mc ms nL kc ks Z (pc + 3) ls (.int (jmax x y) :: st) h) : V p l e s m args below meth c g dl mc ms nL kc ks Z pc ls (.int y :: .int x :: st) h := fun H locs lsA hc hv hlc => va_mmax C.1 C.2.1 (C.2.2.1.trans hv.1.1.symm) C.2.2.2.1 (cx_w C hl rfl) (cx_w C h1 rfl) (cx_w C h2 rfl) (cx_w C h3 rfl) hd (by show _ ≤ 80 * dl; omega) hkc hks d (kk H locs lsA hc hv hlc)
theorem v_min (C : CXT p l s m args meth c own cc nL g) {index : Nat} {x y : Int32} (hl : Cond.methodLink own index Lib.Math.min.name ∈ lw_tbl) (h1 : Cond.static Lib.Math.min.name ∈ lw_tbl) (h2 : Cond.initialized "java/lang/Math" ∈ lw_tbl) (h3 : Cond.code Lib.Math.min.name Lib.Math.min.code 2 (some .int) ∈ lw_tbl) (d : decode cc pc = .ok (.invokestatic index, 3)) (hd : 1 ≤ dl) (hcat : (st.map fun v => v.category).sum ≤ 8) (hkc : kc ≤ mc) (hks : ks ≤ ms) (kk : V p l e s m args below meth c g dl mc ms nL kc ks Z (pc + 3) ls (.int (jmin x y) :: st) h) : V p l e s m args below meth c g dl mc ms nL kc ks Z pc ls (.int y :: .int x :: st) h := fun H locs lsA hc hv hlc => va_mmin C.1 C.2.1 (C.2.2.1.trans hv.1.1.symm) C.2.2.2.1 (cx_w C hl rfl) (cx_w C h1 rfl) (cx_w C h2 rfl) (cx_w C h3 rfl) hd (by show _ ≤ 80 * dl; omega) hkc hks d (kk H locs lsA hc hv hlc)
theorem v_abs (C : CXT p l s m args meth c own cc nL g) {index : Nat} {x : Int32} (hl : Cond.methodLink own index Lib.Math.abs.name ∈ lw_tbl) (h1 : Cond.static Lib.Math.abs.name ∈ lw_tbl) (h2 : Cond.initialized "java/lang/Math" ∈ lw_tbl) (h3 : Cond.code Lib.Math.abs.name Lib.Math.abs.code 1 (some .int) ∈ lw_tbl) (d : decode cc pc = .ok (.invokestatic index, 3)) (hd : 1 ≤ dl) (hcat : (st.map fun v => v.category).sum ≤ 8) (hkc : kc ≤ mc) (hks : ks ≤ ms) (kk : V p l e s m args below meth c g dl mc ms nL kc ks Z (pc + 3) ls (.int (jabs x) :: st) h) : V p l e s m args below meth c g dl mc ms nL kc ks Z pc ls (.int x :: st) h := fun H locs lsA hc hv hlc => va_mabs C.1 C.2.1 (C.2.2.1.trans hv.1.1.symm) C.2.2.2.1 (cx_w C hl rfl) (cx_w C h1 rfl) (cx_w C h2 rfl) (cx_w C h3 rfl) hd (by show _ ≤ 80 * dl; omega) hkc hks d (kk H locs lsA hc hv hlc)
end CALLS
