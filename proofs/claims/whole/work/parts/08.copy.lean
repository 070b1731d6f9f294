section COPY
variable {p : Program} {l : Launch} {e : Env} {s : State} {m : MethodId} {args : Array Value} {below : List Frame} {meth : Method} {c : Code} {g : GG} {dl mc ms nL kc ks : Nat} {Z : State → Prop} {own : String} {cc : ByteArray} {pc : Nat} {ls : List (Nat × Value)} {st stk : List Value} {h : AH}
def jushr (x y : Int32) : Int32 := (x.toUInt32 >>> (y.toUInt32 &&& Int32.toUInt32 31)).toInt32
theorem v_iushr (C : CXT p l s m args meth c own cc nL g) {x y : Int32} (d : decode cc pc = .ok (.iushr, 1)) (kk : V p l e s m args below meth c g dl mc ms nL kc ks Z (pc + 1) ls (.int (jushr x y) :: st) h) : V p l e s m args below meth c g dl mc ms nL kc ks Z pc ls (.int y :: .int x :: st) h := fun H locs lsA hc hv hlc => lv_iushr C.1 C.2.1 d rfl (kk H locs lsA hc hv hlc)
theorem nfw : nativeFrameWords "java/lang/System" "arraycopy" 5 = 7 := by decide +kernel
/-- System.arraycopy over rows of ints -/
def cp (h : AH) (a : Nat) (sp : Int32) (b : Nat) (dp n : Int32) (K : AH → Prop) : Prop := gK h a = 20 ∧ gK h b = 20 ∧ ¬ sp < 0 ∧ ¬ dp < 0 ∧ ¬ n < 0 ∧ sp.toNatClampNeg + n.toNatClampNeg ≤ gL h a ∧ dp.toNatClampNeg + n.toNatClampNeg ≤ gL h b ∧ K (sR h b (va_cpy (gI h a) (gI h b) sp.toNatClampNeg dp.toNatClampNeg n.toNatClampNeg))
theorem w_acopy (C : CXT p l s m args meth c own cc nL g) {index a b : Nat} {sp dp n : Int32} {K : AH → Prop} (hlink : Cond.methodLink own index arraycopyName ∈ lw_tbl) (hnat : Cond.native arraycopyName ∈ lw_tbl) (hstat : Cond.static arraycopyName ∈ lw_tbl) (hini : Cond.initialized "java/lang/System" ∈ lw_tbl) (d : decode cc pc = .ok (.invokestatic index, 3)) (hd : 1 ≤ dl) (hcat : (st.map fun v => v.category).sum ≤ 8) (hw : cp h a sp b dp n K) (kk : ∀ h, K h → V p l e s m args below meth c g dl mc ms nL kc ks Z (pc + 3) ls st h) : V p l e s m args below meth c g dl mc ms nL kc ks Z pc ls (.int n :: .int dp :: .ref b :: .int sp :: .ref a :: st) h := by
  obtain ⟨ka, kb, h1, h2, h3, h4, h5, hw⟩ := hw
  intro H locs lsA hc hv hlc
  have nn : ∀ z : Int32, ¬ z < 0 → z.toInt = (z.toNatClampNeg : Int) := by
    intro z hz
    have hz0 : (0 : Int) ≤ z.toInt := by
      have := Int32.not_lt.mp hz
      simpa using Int32.le_iff_toInt_le.mp this
    show z.toInt = ((z.toInt.toNat : Nat) : Int)
    omega
  intro T hT X
  have hc0 : H[a]? = some (arrV (g.2.1 0) (gL h a) (fun j => .int (gI h a j))) := hc.arr (j := 0) (by decide) ka
  have hc1 : H[b]? = some (arrV (g.2.1 0) (gL h b) (fun j => .int (gI h b j))) := hc.arr (j := 0) (by decide) kb
  obtain ⟨-, k0, hk0, cm0, hkk0⟩ := (C.2.2.2.2.1.1.2 0 _ rfl).1 (gL h a) (fun j => .int (gI h a j))
  obtain ⟨-, k1, hk1, cm1, hkk1⟩ := (C.2.2.2.2.1.1.2 0 _ rfl).1 (gL h b) (fun j => .int (gI h b j))
  obtain ⟨vm', X', step⟩ := X.arraycopy C.1 C.2.2.2.1 (cx_w C hlink rfl) (cx_w C hnat rfl) (cx_w C hstat rfl) (cx_w C hini rfl) (src := a) (dst := b) (cs := arrV (g.2.1 0) (gL h a) (fun j => .int (gI h a j))) (cd := arrV (g.2.1 0) (gL h b) (fun j => .int (gI h b j))) (srcPos := sp) (destPos := dp) (n := n) (by rw [hT]; exact hc0) (by rw [hT]; exact hc1)
    (fun _ h => by cases h) (fun _ h => by cases h) (fun h => by cases h) (fun h => by cases h) hk0 hk1 hkk0 hkk1 (by simp [refKind]) h1 h2 h3
    (by rw [nn sp h1, nn n h3, arrV_size]; omega)
    (by rw [nn dp h2, nn n h3, arrV_size]; omega)
    (fun vm₁ _ i hi => by
      have e : (arrV (g.2.1 0) (gL h a) (fun j => Value.int (gI h a j))).slots.getD (sp.toNatClampNeg + i) .null = .int (gI h a (sp.toNatClampNeg + i)) := by
        rw [Array.getD_eq_getD_getElem?, arrV_read _ _ (by omega)]
        rfl
      refine ⟨?_, ?_⟩
      · rw [e]
        rfl
      · rw [e]
        exact trivial)
    (g := F0 m pc lsA (.int n :: .int dp :: .ref b :: .int sp :: .ref a :: st)) rfl (by rw [C.2.2.1]; exact hv.1.1) (rest := st) rfl (by rw [C.2.1]; exact d) hd (by rw [nfw]; show 2 * 0 + _ + (7 + 11) ≤ 80 * dl; omega)
  have e1 : copied (arrV (g.2.1 0) (gL h a) (fun j => .int (gI h a j))) (arrV (g.2.1 0) (gL h b) (fun j => .int (gI h b j))) sp dp n = arrV (g.2.1 0) (gL h b) (fun j => .int (va_cpy (gI h a) (gI h b) sp.toNatClampNeg dp.toNatClampNeg n.toNatClampNeg j)) := va_copied (fun z => .int z) (g.2.1 0) (g.2.1 0) (gI h a) (gI h b) h4
  rw [e1] at X' step
  generalize hcell : arrV (g.2.1 0) (gL h b) (fun j => Value.int (va_cpy (gI h a) (gI h b) sp.toNatClampNeg dp.toNatClampNeg n.toNatClampNeg j)) = cell at X' step
  have hl : b < H.size := (Array.getElem?_eq_some_iff.mp hc1).1
  have hheap : ((T.setVm vm').setCell b cell).heap = H.setIfInBounds b cell := by rw [← hT]; rfl
  have oq : ∀ q : Nat, q ≠ b → (H.setIfInBounds b cell)[q]? = H[q]? := fun q hq => by simp [Array.getElem?_setIfInBounds, Ne.symm hq]
  have hb : (H.setIfInBounds b cell)[b]? = some cell := by simp [Array.getElem?_setIfInBounds, hl]
  have hoff : ∀ q, q ≠ b → gI (sR h b (va_cpy (gI h a) (gI h b) sp.toNatClampNeg dp.toNatClampNeg n.toNatClampNeg)) q = gI h q ∧ gP (sR h b (va_cpy (gI h a) (gI h b) sp.toNatClampNeg dp.toNatClampNeg n.toNatClampNeg)) q = gP h q ∧ gJ (sR h b (va_cpy (gI h a) (gI h b) sp.toNatClampNeg dp.toNatClampNeg n.toNatClampNeg)) q = gJ h q := fun q hq => by simp [sR, gI, gP, gJ, va_up, hq]
  obtain ⟨t, a1, b1⟩ := kk _ hw (H.setIfInBounds b cell) _ lsA (hc.set (h' := sR h b (va_cpy (gI h a) (gI h b) sp.toNatClampNeg dp.toNatClampNeg n.toNatClampNeg)) ⟨rfl, rfl⟩ rfl rfl hoff (by omega) (by simp) oq (fun ci r hr hk => by
      have hlt : ci < 13 := by
        have := (List.getElem?_eq_some_iff.mp hr).1
        simpa [vwCl] using this
      omega) (fun j hj hk => by
      have : j = 0 := by omega
      subst this
      rw [hb, ← hcell]
      congr 2
      funext k
      simp [av, sR, gI, va_up])) hv (fun q hq => by
      rcases List.mem_append.mp hq with z | z
      · exact hlc q z
      · obtain ⟨z1, -, hz⟩ := List.mem_map.mp z
        rw [← hz]
        exact (hc.2.2.1 b (by omega)).1) _ hheap X'
  exact ⟨t, step t a1, b1⟩
/-- a new row of a told length, at most N -/
def wV (h : AH) (n : Int32) (N : Nat) (K : Nat → AH → Prop) : Prop := ¬ n < 0 ∧ n.toNatClampNeg ≤ N ∧ ∀ a, gK h a = 0 → K a (nA h a 0 n.toNatClampNeg)
def wC (h : AH) (a N : Nat) (K : Nat → AH → Prop) : Prop := gK h a = 20 ∧ gL h a ≤ N ∧ ∀ b, gK h b = 0 → K b (sR (nA h b 0 (gL h a)) b (gI h a))
theorem w_newaV (C : CXT p l s m args meth c own cc nL g) {n : Int32} {N : Nat} {K : Nat → AH → Prop} (hw0 : Cond.arrayClass .int ∈ lw_tbl) (d : decode cc pc = .ok (.newarray .int, 2)) (hN : N ≤ 100000) (hkc : kc + 1 ≤ mc) (hks : ks + N ≤ ms) (hw : wV h n N K) (kk : ∀ (a : Nat) (h : AH), K a h → V p l e s m args below meth c g dl mc ms nL (kc + 1) (ks + N) Z (pc + 2) ls (.ref a :: st) h) : V p l e s m args below meth c g dl mc ms nL kc ks Z pc ls (.int n :: st) h := by
  obtain ⟨h1, h2, h3⟩ := hw
  have hb : n.toNatClampNeg * componentBytes .int ≤ 536870912 := by
    show n.toNatClampNeg * 4 ≤ 536870912
    omega
  refine v_newa (atype := .int) (j := 0) (N := n.toNatClampNeg) C rfl rfl (by decide) rfl rfl hw0 d h1 rfl hb hkc (by omega) (fun a hn => ?_)
  exact v_cells (Nat.le_refl _) (by omega) (kk a _ (h3 a hn))
/-- clone of a row of ints -/
theorem w_clone (C : CXT p l s m args meth c own cc nL g) {index a N : Nat} {K : Nat → AH → Prop} (hlink : Cond.methodLink own index ⟨"[I", "clone", "()Ljava/lang/Object;"⟩ ∈ lw_tbl) (hsame : Cond.sameMethod "[I" "java/lang/Object" "clone" "()Ljava/lang/Object;" ∈ lw_tbl) (hnat : Cond.native ⟨"java/lang/Object", "clone", "()Ljava/lang/Object;"⟩ ∈ lw_tbl) (hinst : Cond.instanceMethod ⟨"java/lang/Object", "clone", "()Ljava/lang/Object;"⟩ ∈ lw_tbl) (hsel : Cond.selects "[I" ⟨"[I", "clone", "()Ljava/lang/Object;"⟩ ⟨"java/lang/Object", "clone", "()Ljava/lang/Object;"⟩ ∈ lw_tbl) (hcl : Cond.castable "[I" "java/lang/Cloneable" ∈ lw_tbl) (d : decode cc pc = .ok (.invokevirtual index, 3)) (hd : 1 ≤ dl) (hcat : (st.map fun v => v.category).sum ≤ 8) (hkc : kc + 1 ≤ mc) (hks : ks + N ≤ ms)
    (hw : wC h a N K) (kk : ∀ (b : Nat) (h : AH), K b h → V p l e s m args below meth c g dl mc ms nL (kc + 1) (ks + N) Z (pc + 3) ls (.ref b :: st) h) : V p l e s m args below meth c g dl mc ms nL kc ks Z pc ls (.ref a :: st) h := by
  obtain ⟨ka, hN, hw⟩ := hw
  intro H locs lsA hc hv hlc
  have hc0 : H[a]? = some (arrV (g.2.1 0) (gL h a) (fun j => .int (gI h a j))) := hc.arr (j := 0) (by decide) ka
  have hnm : s.vm.findClass "[I" = some (g.2.1 0) := (C.2.2.2.2.1.1.2 0 _ rfl).2
  obtain ⟨c0, t0', f1, f2, f3⟩ := Cond.castable_spec (cx_w C hcl rfl)
  cases hnm.symm.trans f1
  intro T hT X
  have hcellT : T.heap[a]? = some (arrV (g.2.1 0) (gL h a) (fun j => .int (gI h a j))) := by rw [hT]; exact hc0
  obtain ⟨-, kA, hkA, comp, hkind⟩ := State.isArrayOf_alike X.warmed.alike ((C.2.2.2.2.1.1.2 0 _ rfl).1 0 (fun _ => .null))
  obtain ⟨-, kS, hkS, compS, hkindS⟩ := (C.2.2.2.2.1.1.2 0 _ rfl).1 0 (fun _ => .null)
  obtain ⟨vm', X', st1⟩ := X.cloneArray C.1 C.2.2.2.1 (cx_w C hlink rfl) (cx_w C hsame rfl) (cx_w C hnat rfl) (cx_w C hinst rfl) (cx_w C hsel rfl) (a := a) (cell := arrV (g.2.1 0) (gL h a) (fun j => .int (gI h a j))) hcellT (fun k h => by cases h) (fun h => by cases h) hnm f2 f3
    (fun i v hv => by
      have hk' : T.vm.classes[g.2.1 0]? = some kA := hkA
      have hlt : i < gL h a := by
        have := (Array.getElem?_eq_some_iff.mp hv).1
        rwa [arrV_size] at this
      rw [arrV_read _ _ hlt] at hv
      cases hv
      show T.fitsSlot (g.2.1 0) .none i _ = true
      simp [State.fitsSlot, State.slotType?, hk', hkind, fits])
    (g := F0 m pc lsA (.ref a :: st)) rfl (by rw [C.2.2.1]; exact hv.1.1) rfl (by rw [C.2.1]; exact d) hd (by show 2 * 0 + _ + 14 ≤ 80 * dl; omega) hkc (by rw [arrV_size]; show _ ≤ ms; omega) (hloader := Vm.clonesLoader_of_array hkS hkindS)
  rw [arrV_size] at X'
  have X' := stand_widen X' (Nat.le_refl _) (Nat.add_le_add_left hN ks)
  generalize hcell : arrV (g.2.1 0) (gL h a) (fun j => Value.int (gI h a j)) = cell at X'
  have hce : ({ cls := (arrV (g.2.1 0) (gL h a) (fun j => Value.int (gI h a j))).cls, slots := (arrV (g.2.1 0) (gL h a) (fun j => Value.int (gI h a j))).slots } : Cell) = cell := by rw [← hcell]; rfl
  generalize hH1 : H.push cell = H1
  have z1 : H1.size = H.size + 1 := by rw [← hH1, Array.size_push]
  have e1 : H1[H.size]? = some cell := by rw [← hH1, Array.getElem?_push_size]
  have o1 : ∀ q : Nat, q < H.size → H1[q]? = H[q]? := fun q hq => by rw [← hH1, Array.getElem?_push, if_neg (Nat.ne_of_lt hq)]
  have haz : a ≠ H.size := by
    have := (hc.2.2.1 a (by omega)).2.1
    omega
  obtain ⟨t, b1, b2⟩ := kk H.size _ (hw H.size hc.fresh) H1 locs lsA (hc.new ⟨rfl, rfl⟩ z1 o1 (fun b hb => by simp [sR, nA, gK, gL, gI, gP, gJ, va_up, hb]) (fun ci r hr hk => by
      have hlt : ci < 13 := by
        have := (List.getElem?_eq_some_iff.mp hr).1
        simpa [vwCl] using this
      simp [sR, nA, gK, va_up] at hk
      omega) (fun j hj hk => by
      have : j = 0 := by simp [sR, nA, gK, va_up] at hk; omega
      subst this
      rw [e1, ← hcell, show gL (sR (nA h H.size 0 (gL h a)) H.size (gI h a)) H.size = gL h a by simp [sR, nA, gL, va_up]]
      congr 2
      funext k
      simp [av, sR, gI, va_up])) hv hlc _ (by rw [← hH1, ← hT]; first | rfl | (rw [← hcell]; rfl)) X'
  refine ⟨t, st1 t ?_, b2⟩
  rw [hcell, hT]
  exact b1
theorem v_castA (C : CXT p l s m args meth c own cc nL g) {index a : Nat} (hlink : Cond.classLink own index "[I" ∈ lw_tbl) (d : decode cc pc = .ok (.checkcast index, 3)) (hK : gK h a = 20) (kk : V p l e s m args below meth c g dl mc ms nL kc ks Z (pc + 3) ls (.ref a :: st) h) : V p l e s m args below meth c g dl mc ms nL kc ks Z pc ls (.ref a :: st) h := by
  intro H locs lsA hc hv hlc
  have hP : va_P g.1 vwCl [(a, .inl (g.2.1 0, (gL h a, .inl (gI h a))))] H := by
    intro k q hq
    have hk : k < 1 := (List.getElem?_eq_some_iff.mp hq).1
    rw [show k = 0 by omega] at hq
    cases hq
    exact hc.arr (j := 0) (by decide) hK
  exact va_castA C.1 C.2.1 C.2.2.2.1 (cx_w C hlink rfl) hP 0 rfl (C.2.2.2.2.1.1.2 0 _ rfl).2 d (kk H locs lsA hc hv hlc)
theorem met_ofF {y : MethodName} {ws ws' : List Cond} {rm : Room} {Pc : Array Value → State → Prop} {Qc : Array Value → State → Outcome → State → Prop} {mc ms : Nat} {free : Addr → Prop} {cc : ByteArray} {maxL : Nat} {ret : Option FieldType}
    (hy : plainFor y = true) (hw : ws = Cond.code y cc maxL ret :: ws')
    (body : ∀ p e s m args below meth c s₁, BodyLoose p l y (headSpec ws rm) cc maxL ret e s m args below meth c s₁ → c.maxLocals = maxL → Pc args s →
      W p l e (headSpec ws rm).room s m args below meth c s.heap [] 0 0 (MQ below Qc args s mc ms free) (entryFrame m args maxL)) : Met l y ws rm Pc Qc mc ms free := by
  refine MetFree.of_bodySF (code := cc) (maxLocals := maxL) (ret := ret) hy ?_ ?_
  · intro args s m h hn
    obtain ⟨meth, c, h1, h2, h3, h4, h5, h6, -, -⟩ := Cond.code_spec hn (atoms_spec (ws := ws) h _ (by rw [hw]; exact List.mem_cons_self))
    exact ⟨meth, c, h1, h2, h3, h4, h5, h6⟩
  · intro p e s m args below meth c s₁ B hml hP _
    have hh0 : s₁.heap = s.heap := by rw [B.state]; rfl
    obtain ⟨t, a1, o, b1, b2, b3⟩ := body p e s m args below meth c s₁ B hml hP s₁ hh0 (Stand.of_body B)
    exact ⟨t, o, a1, b1, b2, ⟨b3.1, b3.2⟩⟩
theorem CT.ofF {y : MethodName} {ret : Option FieldType} {As : List Value} {Q : Option Value → AH → Prop} (hy : plainFor y = true) (hA : catL As) (hlen : (lg_sl As).length ≤ nL)
    (body : ∀ (p : Program) (e : Env) (s : State) (m : MethodId) (args : Array Value) (below : List Frame) (meth : Method) (c : Code) (g : GG), CXT p l s m args meth c y.cls cc nL g → meth.sig.returnType = ret → meth.name = y.name → V p l e s m args below meth c g dl mc ms nL 0 0 (MQ below (QCx g Q) args s mc ms (gA g)) 0 (lv_args 0 As) [] h) : CT l y cc nL ret dl mc ms As h Q := by
  intro g hl
  refine met_ofF (cc := cc) (maxL := nL) (ret := ret) hy rfl ?_
  intro p e s m args below meth c s₁ B hml hv
  obtain ⟨hargs, hkv, hhc⟩ := hv
  have C : CXT p l s m args meth c y.cls cc nL g := ⟨B.exec, B.bytes, hml, findClass_of_methodNamed B.named, hkv, B.notSynchronized, hl, hhc.1, hhc.2.1⟩
  have hb := body p e s m args below meth c g C B.returns (name_of_methodNamed B.named B.method).1
  have hl0 := lv_entry As (n := nL) hlen
  have hw := hb s.heap [] _ hhc ⟨hl0, lv_args_cat hA 0⟩ (fun q hq => by cases hq)
  have he := lg_entry_eq m As nL
  rw [← hargs] at he
  rw [he]
  exact hw
end COPY
