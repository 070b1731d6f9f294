/-! methods with handlers of their own (the law's) -/
section HANDLERS
variable {p : Program} {l : Launch} {e : Env} {s : State} {m : MethodId} {args : Array Value} {below : List Frame} {meth : Method} {c : Code} {g : GG} {dl mc ms nL kc ks : Nat} {Z : State → Prop} {own : String} {cc : ByteArray} {pc : Nat} {ls : List (Nat × Value)} {st stk : List Value} {h : AH}
def noX : String → AH → Prop := fun _ _ => False
def CH (l : Launch) (y : MethodName) (cc : ByteArray) (nL : Nat) (ret : Option FieldType) (hh : List (Nat × Nat × Nat × Nat)) (dl mc ms : Nat) (As : List Value) (h : AH) (Q : Option Value → AH → Prop) : Prop :=
  ∀ g : GG, l.stackTraces = false → vx_Met l y [.codeWith y cc nL ret hh] (rmD dl mc ms) (PCx g As h) (QCx g Q) (XCx g noX) mc ms (gA g)
theorem CH.of {y : MethodName} {ret : Option FieldType} {hh : List (Nat × Nat × Nat × Nat)} {As : List Value} {Q : Option Value → AH → Prop} (hy : plainName y.cls = true) (hA : catL As) (hlen : (lg_sl As).length ≤ nL)
    (body : ∀ (p : Program) (e : Env) (s : State) (m : MethodId) (args : Array Value) (below : List Frame) (meth : Method) (c : Code) (g : GG), CXT p l s m args meth c y.cls cc nL g → meth.sig.returnType = ret → c.exceptionTable.toList = tableOf hh → V p l e s m args below meth c g dl mc ms nL 0 0 (vx_MQ below (QCx g Q) (XCx g noX) args s mc ms (gA g)) 0 (lv_args 0 As) [] h) : CH l y cc nL ret hh dl mc ms As h Q := by
  intro g hl
  refine vx_ofWH (cc := cc) (maxL := nL) (ret := ret) (hh := hh) hy rfl ?_
  intro p e s m args below meth c s₁ B hml hv
  obtain ⟨hargs, hkv, hhc⟩ := hv
  have C : CXT p l s m args meth c y.cls cc nL g := ⟨B.exec, B.bytes, hml, findClass_of_methodNamed B.named, hkv, B.notSynchronized, hl, hhc.1, hhc.2.1⟩
  have htab : c.exceptionTable.toList = tableOf hh := vx_table (x := y) B (atoms_spec (ws := [Cond.codeWith y cc nL ret hh]) B.pre _ List.mem_cons_self)
  have hb := body p e s m args below meth c g C B.returns htab
  have hl0 := lv_entry As (n := nL) hlen
  have hw := hb s.heap [] _ hhc ⟨hl0, lv_args_cat hA 0⟩ (fun q hq => by cases hq)
  have he := lg_entry_eq m As nL
  rw [← hargs] at he
  rw [he]
  exact hw
theorem v_catch (C : CXT p l s m args meth c own cc nL g) {hh : List (Nat × Nat × Nat × Nat)} {E name : String} (htab : c.exceptionTable.toList = tableOf hh) (pre : List ExceptionTableEntry) (x : ExceptionTableEntry) (suf : List ExceptionTableEntry) (hsplit : tableOf hh = pre ++ x :: suf)
    (hpass : ∀ z ∈ pre, z.catchType ≠ 0 ∧ ∃ nm : String, Cond.classLink own z.catchType nm ∈ lw_tbl ∧ (E, nm) ∈ ncT) (hx : covers x pc = true) (h0 : x.catchType ≠ 0) (hlink : Cond.classLink own x.catchType name ∈ lw_tbl) (hcast : Cond.castable E name ∈ lw_tbl) (tgt : Nat) (htg : x.handlerPc = tgt)
    (kk : ∀ q : Nat, V p l e s m args below meth c g dl mc ms nL kc ks Z tgt ls [.ref q] h) : VT p l e s m args below meth c g dl mc ms nL kc ks Z pc ls st h E := by
  intro H locs lsA q ce hc hv hlc c1 c2 c3
  subst htg
  exact vx_catch C.2.2.2.1 pre x suf (htab.trans hsplit) (fun z hz => by
    obtain ⟨z1, nm, z2, z3⟩ := hpass z hz
    exact Or.inr ⟨z1, nm, cx_w C z2 rfl, C.2.2.2.2.1.2.2.2.2.2.2.1 _ z3⟩) hx h0 (cx_w C hlink rfl) (cx_w C hcast rfl) c1 c2 c3 (kk q H locs lsA hc hv hlc)
theorem v_callHS (C : CXT p l s m args meth c own cc nL g) {index : Nat} {y : MethodName} {cc' : ByteArray} {nL' n dl' mc' ms' : Nat} {ret : Option FieldType} {hh : List (Nat × Nat × Nat × Nat)} {As : List Value} {K : Int32 → AH → Prop} (hl : Cond.methodLink own index y ∈ lw_tbl) (hcd : Cond.codeWith y cc' nL' ret hh ∈ lw_tbl) (hok : okW (Cond.codeWith y cc' nL' ret hh) = true) (hini : Cond.initialized y.cls ∈ lw_tbl) (hy : y.cls ≠ "java/lang/invoke/MethodHandle" ∧ y.cls ≠ "java/lang/invoke/VarHandle") (hnp : (parseMethodDescriptor y.desc).map (fun d => d.parameters.length) = some n) (hs0 : Cond.static y ∈ lw_tbl)
    (hM : CH l y cc' nL' ret hh dl' mc' ms' As h (QI K)) (hs : stk = As.reverse ++ st) (d : decode cc pc = .ok (.invokestatic index, 3)) (hlen : As.length = n) (hcat : (st.map fun v => v.category).sum ≤ 8) (hd : dl' + 1 ≤ dl) (hn : nL' ≤ 61) (hkc : kc + mc' ≤ mc) (hks : ks + ms' ≤ ms)
    (kk : ∀ (r9 : Int32) (h : AH), K r9 h → V p l e s m args below meth c g dl mc ms nL (kc + mc') (ks + ms') Z (pc + 3) ls (.int r9 :: st) h) : V p l e s m args below meth c g dl mc ms nL kc ks Z pc ls stk h := by
  intro H locs lsA hc hv hlc
  have hp : PreS s H (PCx g As h) As := ⟨pcx_blind, fun U hU hW => ⟨rfl, kv_at C hc hU hW, by rw [hU]; exact hc⟩⟩
  have hws : ∀ w ∈ ([.codeWith y cc' nL' ret hh] : List Cond), ∀ (a' : Array Value) (U : State), s.WarmedH U.vm → w.before a' U = true := by
    intro w hw a' U hW
    rw [List.mem_singleton.mp hw]
    exact okW_at hW hok (C.2.2.2.2.1.2.1 _ hcd hok)
  refine v_runX (fun q hq => hq) hlc (vx_runSX (Ts := []) (n := n) (hh := hh) ⟨C.1, C.2.1, C.2.2.1, C.2.2.2.1, fun _ h => by cases h⟩ (hM g C.2.2.2.2.2.2.1) ⟨⟨rfl, rfl, hd, rm_loc hd hn, hws, List.mem_singleton.mpr rfl⟩, cx_w C hcd hok, cx_w C hini rfl, hy, clk_n hnp, cx_w C hl rfl, cx_w C hs0 rfl⟩ hp rfl hlen hv.1.1 hs (cat8 hcat) d ⟨hkc, hks⟩) (fun E h' H' locs' q ce hx _ _ _ _ _ => hx.elim) (fun v h' H' locs' hq hh hlc' => ?_)
  obtain ⟨r9, rfl, hq⟩ := hq
  exact kk r9 h' hq H' locs' lsA hh hv hlc'
end HANDLERS
