section ROWS
variable {p : Program} {l : Launch} {e : Env} {s : State} {m : MethodId} {args : Array Value} {below : List Frame} {meth : Method} {c : Code} {g : GG} {dl mc ms nL kc ks : Nat} {Z : State → Prop} {own : String} {cc : ByteArray} {pc : Nat} {ls : List (Nat × Value)} {st : List Value} {h : AH}
theorem cx_w (C : CXT p l s m args meth c own cc nL g) {w : Cond} (hw : w ∈ lw_tbl) (ho : okW w = true) : w.before args s = true := okW_at (State.WarmedH.refl s) ho (C.2.2.2.2.1.2.1 w hw ho)
/-- fewer locals are known -/
theorem v_sub {ls' : List (Nat × Value)} (ks' : List Nat) (hl : lv_pick ls ks' = ls') (kk : V p l e s m args below meth c g dl mc ms nL kc ks Z pc ls' st h) : V p l e s m args below meth c g dl mc ms nL kc ks Z pc ls st h := by
  intro H locs lsA hc hv hlc
  refine kk H locs lsA hc ⟨lv_sub hv.1 ks' hl, fun q hq => hv.2 q ?_⟩ hlc
  rw [← hl] at hq
  obtain ⟨k, -, hk⟩ := List.mem_filterMap.mp hq
  exact List.mem_of_getElem? hk
theorem v_eq {pc' : Nat} {ls' : List (Nat × Value)} {st' : List Value} {h' : AH} (e1 : pc = pc') (e2 : ls = ls') (e3 : st = st') (e4 : h = h') (kk : V p l e s m args below meth c g dl mc ms nL kc ks Z pc' ls' st' h') : V p l e s m args below meth c g dl mc ms nL kc ks Z pc ls st h := by
  subst e1; subst e2; subst e3; subst e4; exact kk
theorem v_cells {kc' ks' : Nat} (e1 : kc ≤ kc') (e2 : ks ≤ ks') (kk : V p l e s m args below meth c g dl mc ms nL kc' ks' Z pc ls st h) : V p l e s m args below meth c g dl mc ms nL kc ks Z pc ls st h := fun H locs lsA hc hv hlc => W.widen e1 e2 (kk H locs lsA hc hv hlc)
theorem v_lset {lsA : Array Slot} {i : Nat} {v : Value} (hv : LV lsA nL ls) (hi : i < nL) (hc : v.category = 1) : ∃ ls', storeLocals lsA i v = some ls' ∧ LV ls' nL ((i, v) :: ls.filter (fun q => q.1 != i)) := by
  obtain ⟨ls', e1, e2⟩ := lv_store1 hv.1 hi hc
  refine ⟨ls', e1, ⟨e2.1, e2.2.1, fun q hq => e2.2.2 q ?_⟩, fun q hq => ?_⟩
  · rcases List.mem_cons.mp hq with rfl | hq
    · exact List.mem_cons_self
    · obtain ⟨q1, q2⟩ := List.mem_filter.mp hq
      refine List.mem_cons_of_mem _ (List.mem_filter.mpr ⟨q1, ?_⟩)
      have h3 := hv.2 q q1
      simp only [bne_iff_ne, ne_eq] at q2
      simp [h3, q2]
  · rcases List.mem_cons.mp hq with rfl | hq
    · exact hc
    · exact hv.2 q (List.mem_filter.mp hq).1
theorem lv_of {lsA : Array Slot} (hv : LV lsA nL ls) (i : Nat) (v : Value) : (i, v) :: ls.filter (fun q => !(q.1 == i) && !(q.1 + 1 == i && q.2.category == 2)) = (i, v) :: ls.filter (fun q => q.1 != i) := by
  congr 1
  refine List.filter_congr (fun q hq => ?_)
  simp [hv.2 q hq, bne]
-- constants
theorem v_iconst (C : CXT p l s m args meth c own cc nL g) {n : Int} {v : Int32} (d : decode cc pc = .ok (.iconst n, 1)) (hv : Int32.ofInt n = v) (kk : V p l e s m args below meth c g dl mc ms nL kc ks Z (pc + 1) ls (.int v :: st) h) : V p l e s m args below meth c g dl mc ms nL kc ks Z pc ls st h := fun H locs lsA hc hv' hlc => lv_iconst C.1 C.2.1 d hv (kk H locs lsA hc hv' hlc)
theorem v_bipush (C : CXT p l s m args meth c own cc nL g) {n : Int} {v : Int32} (d : decode cc pc = .ok (.bipush n, 2)) (hv : (Int8.ofInt n).toInt32 = v) (kk : V p l e s m args below meth c g dl mc ms nL kc ks Z (pc + 2) ls (.int v :: st) h) : V p l e s m args below meth c g dl mc ms nL kc ks Z pc ls st h := fun H locs lsA hc hv' hlc => lv_bipush C.1 C.2.1 d hv (kk H locs lsA hc hv' hlc)
theorem v_sipush (C : CXT p l s m args meth c own cc nL g) {n : Int} {v : Int32} (d : decode cc pc = .ok (.sipush n, 3)) (hv : (Int16.ofInt n).toInt32 = v) (kk : V p l e s m args below meth c g dl mc ms nL kc ks Z (pc + 3) ls (.int v :: st) h) : V p l e s m args below meth c g dl mc ms nL kc ks Z pc ls st h := fun H locs lsA hc hv' hlc => lv_sipush C.1 C.2.1 d hv (kk H locs lsA hc hv' hlc)
theorem v_lconst (C : CXT p l s m args meth c own cc nL g) {n : Fin 2} {v : Int64} (d : decode cc pc = .ok (.lconst n, 1)) (hv : Int64.ofNat (n : Nat) = v) (kk : V p l e s m args below meth c g dl mc ms nL kc ks Z (pc + 1) ls (.long v :: st) h) : V p l e s m args below meth c g dl mc ms nL kc ks Z pc ls st h := fun H locs lsA hc hv' hlc => lv_lconst C.1 C.2.1 d hv (kk H locs lsA hc hv' hlc)
theorem v_ldc (C : CXT p l s m args meth c own cc nL g) {index : Nat} {v : Int32} (d : decode cc pc = .ok (.ldc index, 2)) (hw : Cond.constant own index v ∈ lw_tbl) (kk : V p l e s m args below meth c g dl mc ms nL kc ks Z (pc + 2) ls (.int v :: st) h) : V p l e s m args below meth c g dl mc ms nL kc ks Z pc ls st h := fun H locs lsA hc hv' hlc => lv_ldc C.1 C.2.1 C.2.2.2.1 (cx_w C hw rfl) d (kk H locs lsA hc hv' hlc)
theorem v_ldcw (C : CXT p l s m args meth c own cc nL g) {index : Nat} {v : Int32} (d : decode cc pc = .ok (.ldc_w index, 3)) (hw : Cond.constant own index v ∈ lw_tbl) (kk : V p l e s m args below meth c g dl mc ms nL kc ks Z (pc + 3) ls (.int v :: st) h) : V p l e s m args below meth c g dl mc ms nL kc ks Z pc ls st h := fun H locs lsA hc hv' hlc => lv_ldcw C.1 C.2.1 C.2.2.2.1 (cx_w C hw rfl) d (kk H locs lsA hc hv' hlc)
-- locals
theorem v_iload_n (C : CXT p l s m args meth c own cc nL g) {j : Fin 4} {i : Nat} {x : Int32} (d : decode cc pc = .ok (.iload_n j, 1)) (k : Nat) (hl : ls[k]? = some (i, .int x)) (hi : (j : Nat) = i) (kk : V p l e s m args below meth c g dl mc ms nL kc ks Z (pc + 1) ls (.int x :: st) h) : V p l e s m args below meth c g dl mc ms nL kc ks Z pc ls st h := fun H locs lsA hc hv hlc => lv_iload_n C.1 C.2.1 d hi (lv_at hv.1 k hl) (kk H locs lsA hc hv hlc)
theorem v_iload (C : CXT p l s m args meth c own cc nL g) {i : Nat} {x : Int32} (d : decode cc pc = .ok (.iload i, 2)) (k : Nat) (hl : ls[k]? = some (i, .int x)) (kk : V p l e s m args below meth c g dl mc ms nL kc ks Z (pc + 2) ls (.int x :: st) h) : V p l e s m args below meth c g dl mc ms nL kc ks Z pc ls st h := fun H locs lsA hc hv hlc => lv_iload C.1 C.2.1 d (lv_at hv.1 k hl) (kk H locs lsA hc hv hlc)
theorem v_aload_n (C : CXT p l s m args meth c own cc nL g) {j : Fin 4} {i : Nat} {x : Nat} (d : decode cc pc = .ok (.aload_n j, 1)) (k : Nat) (hl : ls[k]? = some (i, .ref x)) (hi : (j : Nat) = i) (kk : V p l e s m args below meth c g dl mc ms nL kc ks Z (pc + 1) ls (.ref x :: st) h) : V p l e s m args below meth c g dl mc ms nL kc ks Z pc ls st h := fun H locs lsA hc hv hlc => lv_aload_n C.1 C.2.1 d hi (lv_at hv.1 k hl) (kk H locs lsA hc hv hlc)
theorem v_aload (C : CXT p l s m args meth c own cc nL g) {i : Nat} {x : Nat} (d : decode cc pc = .ok (.aload i, 2)) (k : Nat) (hl : ls[k]? = some (i, .ref x)) (kk : V p l e s m args below meth c g dl mc ms nL kc ks Z (pc + 2) ls (.ref x :: st) h) : V p l e s m args below meth c g dl mc ms nL kc ks Z pc ls st h := fun H locs lsA hc hv hlc => lv_aload C.1 C.2.1 d (lv_at hv.1 k hl) (kk H locs lsA hc hv hlc)
theorem v_aload_nO (C : CXT p l s m args meth c own cc nL g) {j : Fin 4} {i : Nat} {x : Option Nat} (d : decode cc pc = .ok (.aload_n j, 1)) (k : Nat) (hl : ls[k]? = some (i, va_rf x)) (hi : (j : Nat) = i) (kk : V p l e s m args below meth c g dl mc ms nL kc ks Z (pc + 1) ls (va_rf x :: st) h) : V p l e s m args below meth c g dl mc ms nL kc ks Z pc ls st h := by
  intro H locs lsA hc hv hlc
  cases x with
  | none => exact lv_aload_nN C.1 C.2.1 d hi (lv_at hv.1 k hl) (kk H locs lsA hc hv hlc)
  | some x => exact lv_aload_n C.1 C.2.1 d hi (lv_at hv.1 k hl) (kk H locs lsA hc hv hlc)
theorem v_istore_n (C : CXT p l s m args meth c own cc nL g) {j : Fin 4} {i : Nat} {x : Int32} {ls' : List (Nat × Value)} (d : decode cc pc = .ok (.istore_n j, 1)) (hi : (j : Nat) = i) (hn : i < nL) (hl : (i, Value.int x) :: ls.filter (fun q => q.1 != i) = ls') (kk : V p l e s m args below meth c g dl mc ms nL kc ks Z (pc + 1) ls' st h) : V p l e s m args below meth c g dl mc ms nL kc ks Z pc ls (.int x :: st) h := by
  intro H locs lsA hc hv hlc
  refine lv_istore_n C.1 C.2.1 d hi hv.1 hn ((lv_of hv i (.int x)).trans hl) (fun ls1 h1 => kk H locs ls1 hc ⟨h1, fun q hq => ?_⟩ hlc)
  rw [← hl] at hq
  rcases List.mem_cons.mp hq with rfl | hq
  · rfl
  · exact hv.2 q (List.mem_filter.mp hq).1
theorem v_istore (C : CXT p l s m args meth c own cc nL g) {i : Nat} {x : Int32} {ls' : List (Nat × Value)} (d : decode cc pc = .ok (.istore i, 2)) (hn : i < nL) (hl : (i, Value.int x) :: ls.filter (fun q => q.1 != i) = ls') (kk : V p l e s m args below meth c g dl mc ms nL kc ks Z (pc + 2) ls' st h) : V p l e s m args below meth c g dl mc ms nL kc ks Z pc ls (.int x :: st) h := by
  intro H locs lsA hc hv hlc
  refine lv_istore C.1 C.2.1 d hv.1 hn ((lv_of hv i (.int x)).trans hl) (fun ls1 h1 => kk H locs ls1 hc ⟨h1, fun q hq => ?_⟩ hlc)
  rw [← hl] at hq
  rcases List.mem_cons.mp hq with rfl | hq
  · rfl
  · exact hv.2 q (List.mem_filter.mp hq).1
theorem v_astore_n (C : CXT p l s m args meth c own cc nL g) {j : Fin 4} {i : Nat} {x : Nat} {ls' : List (Nat × Value)} (d : decode cc pc = .ok (.astore_n j, 1)) (hi : (j : Nat) = i) (hn : i < nL) (hl : (i, Value.ref x) :: ls.filter (fun q => q.1 != i) = ls') (kk : V p l e s m args below meth c g dl mc ms nL kc ks Z (pc + 1) ls' st h) : V p l e s m args below meth c g dl mc ms nL kc ks Z pc ls (.ref x :: st) h := by
  intro H locs lsA hc hv hlc
  refine lv_astore_n C.1 C.2.1 d hi hv.1 hn ((lv_of hv i (.ref x)).trans hl) (fun ls1 h1 => kk H locs ls1 hc ⟨h1, fun q hq => ?_⟩ hlc)
  rw [← hl] at hq
  rcases List.mem_cons.mp hq with rfl | hq
  · rfl
  · exact hv.2 q (List.mem_filter.mp hq).1
theorem v_astore (C : CXT p l s m args meth c own cc nL g) {i : Nat} {x : Nat} {ls' : List (Nat × Value)} (d : decode cc pc = .ok (.astore i, 2)) (hn : i < nL) (hl : (i, Value.ref x) :: ls.filter (fun q => q.1 != i) = ls') (kk : V p l e s m args below meth c g dl mc ms nL kc ks Z (pc + 2) ls' st h) : V p l e s m args below meth c g dl mc ms nL kc ks Z pc ls (.ref x :: st) h := by
  intro H locs lsA hc hv hlc
  refine lv_astore C.1 C.2.1 d hv.1 hn ((lv_of hv i (.ref x)).trans hl) (fun ls1 h1 => kk H locs ls1 hc ⟨h1, fun q hq => ?_⟩ hlc)
  rw [← hl] at hq
  rcases List.mem_cons.mp hq with rfl | hq
  · rfl
  · exact hv.2 q (List.mem_filter.mp hq).1
theorem v_astore_nO (C : CXT p l s m args meth c own cc nL g) {j : Fin 4} {i : Nat} {x : Option Nat} {ls' : List (Nat × Value)} (d : decode cc pc = .ok (.astore_n j, 1)) (hi : (j : Nat) = i) (hn : i < nL) (hl : (i, va_rf x) :: ls.filter (fun q => q.1 != i) = ls') (kk : V p l e s m args below meth c g dl mc ms nL kc ks Z (pc + 1) ls' st h) : V p l e s m args below meth c g dl mc ms nL kc ks Z pc ls (va_rf x :: st) h := by
  cases x with
  | some x => exact v_astore_n C d hi hn hl kk
  | none =>
    intro H locs lsA hc hv hlc
    refine lv_astore_nN C.1 C.2.1 d hi hv.1 hn ((lv_of hv i .null).trans hl) (fun ls1 h1 => kk H locs ls1 hc ⟨h1, fun q hq => ?_⟩ hlc)
    rw [← hl] at hq
    rcases List.mem_cons.mp hq with rfl | hq
    · rfl
    · exact hv.2 q (List.mem_filter.mp hq).1
theorem v_iinc (C : CXT p l s m args meth c own cc nL g) {i : Nat} {n : Int} {x : Int32} {ls' : List (Nat × Value)} (d : decode cc pc = .ok (.iinc i n, 3)) (k : Nat) (hk : ls[k]? = some (i, .int x)) {v : Int32} (hw : Int32.ofInt n = v) (hn : i < nL) (hl : (i, Value.int (x + v)) :: ls.filter (fun q => q.1 != i) = ls') (kk : V p l e s m args below meth c g dl mc ms nL kc ks Z (pc + 3) ls' st h) : V p l e s m args below meth c g dl mc ms nL kc ks Z pc ls st h := by
  intro H locs lsA hc hv hlc
  subst hw
  refine lv_iinc C.1 C.2.1 d hv.1 hk rfl hn ((lv_of hv i _).trans hl) (fun ls1 h1 => kk H locs ls1 hc ⟨h1, fun q hq => ?_⟩ hlc)
  rw [← hl] at hq
  rcases List.mem_cons.mp hq with rfl | hq
  · rfl
  · exact hv.2 q (List.mem_filter.mp hq).1
theorem v_iadd (C : CXT p l s m args meth c own cc nL g) {x y : Int32} (d : decode cc pc = .ok (.iadd, 1)) (kk : V p l e s m args below meth c g dl mc ms nL kc ks Z (pc + 1) ls (.int (x + y) :: st) h) : V p l e s m args below meth c g dl mc ms nL kc ks Z pc ls (.int y :: .int x :: st) h := fun H locs lsA hc hv hlc => lv_iadd C.1 C.2.1 d (kk H locs lsA hc hv hlc)
theorem v_isub (C : CXT p l s m args meth c own cc nL g) {x y : Int32} (d : decode cc pc = .ok (.isub, 1)) (kk : V p l e s m args below meth c g dl mc ms nL kc ks Z (pc + 1) ls (.int (x - y) :: st) h) : V p l e s m args below meth c g dl mc ms nL kc ks Z pc ls (.int y :: .int x :: st) h := fun H locs lsA hc hv hlc => lv_isub C.1 C.2.1 d (kk H locs lsA hc hv hlc)
theorem v_imul (C : CXT p l s m args meth c own cc nL g) {x y : Int32} (d : decode cc pc = .ok (.imul, 1)) (kk : V p l e s m args below meth c g dl mc ms nL kc ks Z (pc + 1) ls (.int (x * y) :: st) h) : V p l e s m args below meth c g dl mc ms nL kc ks Z pc ls (.int y :: .int x :: st) h := fun H locs lsA hc hv hlc => lv_imul C.1 C.2.1 d (kk H locs lsA hc hv hlc)
theorem v_iand (C : CXT p l s m args meth c own cc nL g) {x y : Int32} (d : decode cc pc = .ok (.iand, 1)) (kk : V p l e s m args below meth c g dl mc ms nL kc ks Z (pc + 1) ls (.int (x &&& y) :: st) h) : V p l e s m args below meth c g dl mc ms nL kc ks Z pc ls (.int y :: .int x :: st) h := fun H locs lsA hc hv hlc => lv_iand C.1 C.2.1 d (kk H locs lsA hc hv hlc)
theorem v_ior (C : CXT p l s m args meth c own cc nL g) {x y : Int32} (d : decode cc pc = .ok (.ior, 1)) (kk : V p l e s m args below meth c g dl mc ms nL kc ks Z (pc + 1) ls (.int (x ||| y) :: st) h) : V p l e s m args below meth c g dl mc ms nL kc ks Z pc ls (.int y :: .int x :: st) h := fun H locs lsA hc hv hlc => lv_ior C.1 C.2.1 d (kk H locs lsA hc hv hlc)
theorem v_ixor (C : CXT p l s m args meth c own cc nL g) {x y : Int32} (d : decode cc pc = .ok (.ixor, 1)) (kk : V p l e s m args below meth c g dl mc ms nL kc ks Z (pc + 1) ls (.int (x ^^^ y) :: st) h) : V p l e s m args below meth c g dl mc ms nL kc ks Z pc ls (.int y :: .int x :: st) h := fun H locs lsA hc hv hlc => lv_ixor C.1 C.2.1 d (kk H locs lsA hc hv hlc)
theorem v_ishl (C : CXT p l s m args meth c own cc nL g) {x y : Int32} (d : decode cc pc = .ok (.ishl, 1)) (kk : V p l e s m args below meth c g dl mc ms nL kc ks Z (pc + 1) ls (.int (x <<< (y &&& 31)) :: st) h) : V p l e s m args below meth c g dl mc ms nL kc ks Z pc ls (.int y :: .int x :: st) h := fun H locs lsA hc hv hlc => lv_ishl C.1 C.2.1 d (kk H locs lsA hc hv hlc)
theorem v_ishr (C : CXT p l s m args meth c own cc nL g) {x y : Int32} (d : decode cc pc = .ok (.ishr, 1)) (kk : V p l e s m args below meth c g dl mc ms nL kc ks Z (pc + 1) ls (.int (x >>> (y &&& 31)) :: st) h) : V p l e s m args below meth c g dl mc ms nL kc ks Z pc ls (.int y :: .int x :: st) h := fun H locs lsA hc hv hlc => lv_ishr C.1 C.2.1 d (kk H locs lsA hc hv hlc)
theorem v_idiv (C : CXT p l s m args meth c own cc nL g) {x y : Int32} (d : decode cc pc = .ok (.idiv, 1)) (hy : ¬ y = 0) (kk : V p l e s m args below meth c g dl mc ms nL kc ks Z (pc + 1) ls (.int (x / y) :: st) h) : V p l e s m args below meth c g dl mc ms nL kc ks Z pc ls (.int y :: .int x :: st) h := fun H locs lsA hc hv hlc => lv_idiv C.1 C.2.1 d hy (kk H locs lsA hc hv hlc)
theorem v_irem (C : CXT p l s m args meth c own cc nL g) {x y : Int32} (d : decode cc pc = .ok (.irem, 1)) (hy : ¬ y = 0) (kk : V p l e s m args below meth c g dl mc ms nL kc ks Z (pc + 1) ls (.int (jrem x y) :: st) h) : V p l e s m args below meth c g dl mc ms nL kc ks Z pc ls (.int y :: .int x :: st) h := fun H locs lsA hc hv hlc => lv_irem C.1 C.2.1 d hy (kk H locs lsA hc hv hlc)
theorem v_ineg (C : CXT p l s m args meth c own cc nL g) {x : Int32} (d : decode cc pc = .ok (.ineg, 1)) (kk : V p l e s m args below meth c g dl mc ms nL kc ks Z (pc + 1) ls (.int (-x) :: st) h) : V p l e s m args below meth c g dl mc ms nL kc ks Z pc ls (.int x :: st) h := fun H locs lsA hc hv hlc => lv_ineg C.1 C.2.1 d (kk H locs lsA hc hv hlc)
theorem v_i2b (C : CXT p l s m args meth c own cc nL g) {x : Int32} (d : decode cc pc = .ok (.i2b, 1)) (kk : V p l e s m args below meth c g dl mc ms nL kc ks Z (pc + 1) ls (.int (x.toInt8.toInt32) :: st) h) : V p l e s m args below meth c g dl mc ms nL kc ks Z pc ls (.int x :: st) h := fun H locs lsA hc hv hlc => lv_i2b C.1 C.2.1 d rfl (kk H locs lsA hc hv hlc)
theorem v_i2c (C : CXT p l s m args meth c own cc nL g) {x : Int32} (d : decode cc pc = .ok (.i2c, 1)) (kk : V p l e s m args below meth c g dl mc ms nL kc ks Z (pc + 1) ls (.int ((x.toUInt32 % 65536).toInt32) :: st) h) : V p l e s m args below meth c g dl mc ms nL kc ks Z pc ls (.int x :: st) h := fun H locs lsA hc hv hlc => lv_i2c C.1 C.2.1 d rfl (kk H locs lsA hc hv hlc)
theorem v_i2l (C : CXT p l s m args meth c own cc nL g) {x : Int32} (d : decode cc pc = .ok (.i2l, 1)) (kk : V p l e s m args below meth c g dl mc ms nL kc ks Z (pc + 1) ls (.long (x.toInt64) :: st) h) : V p l e s m args below meth c g dl mc ms nL kc ks Z pc ls (.int x :: st) h := fun H locs lsA hc hv hlc => lv_i2l C.1 C.2.1 d rfl (kk H locs lsA hc hv hlc)
theorem v_lcmp (C : CXT p l s m args meth c own cc nL g) {x y : Int64} (d : decode cc pc = .ok (.lcmp, 1)) (kk : V p l e s m args below meth c g dl mc ms nL kc ks Z (pc + 1) ls (.int (lg_cmp x y) :: st) h) : V p l e s m args below meth c g dl mc ms nL kc ks Z pc ls (.long y :: .long x :: st) h := fun H locs lsA hc hv hlc => W.lcmp C.1 C.2.1 d (kk H locs lsA hc hv hlc)
theorem v_dup (C : CXT p l s m args meth c own cc nL g) {v : Value} (d : decode cc pc = .ok (.dup, 1)) (hv1 : v.category = 1) (kk : V p l e s m args below meth c g dl mc ms nL kc ks Z (pc + 1) ls (v :: v :: st) h) : V p l e s m args below meth c g dl mc ms nL kc ks Z pc ls (v :: st) h := fun H locs lsA hc hv hlc => lv_dup C.1 C.2.1 d hv1 (kk H locs lsA hc hv hlc)
theorem v_dup2 (C : CXT p l s m args meth c own cc nL g) {v w : Value} (d : decode cc pc = .ok (.dup2, 1)) (hv1 : v.category = 1) (hw1 : w.category = 1) (kk : V p l e s m args below meth c g dl mc ms nL kc ks Z (pc + 1) ls (v :: w :: v :: w :: st) h) : V p l e s m args below meth c g dl mc ms nL kc ks Z pc ls (v :: w :: st) h := fun H locs lsA hc hv hlc => lv_dup2_11 C.1 C.2.1 d hv1 hw1 (kk H locs lsA hc hv hlc)
theorem v_pop (C : CXT p l s m args meth c own cc nL g) {v : Value} (d : decode cc pc = .ok (.pop, 1)) (hv1 : v.category = 1) (kk : V p l e s m args below meth c g dl mc ms nL kc ks Z (pc + 1) ls st h) : V p l e s m args below meth c g dl mc ms nL kc ks Z pc ls (v :: st) h := fun H locs lsA hc hv hlc => lv_pop C.1 C.2.1 d hv1 (kk H locs lsA hc hv hlc)
theorem v_goto (C : CXT p l s m args meth c own cc nL g) {off : Int} {tgt : Nat} (d : decode cc pc = .ok (.goto off, 3)) (ht : (pc : Int) + off = (tgt : Int)) (kk : V p l e s m args below meth c g dl mc ms nL kc ks Z tgt ls st h) : V p l e s m args below meth c g dl mc ms nL kc ks Z pc ls st h := fun H locs lsA hc hv hlc => lv_goto C.1 C.2.1 d ht (kk H locs lsA hc hv hlc)
theorem v_if_eq (C : CXT p l s m args meth c own cc nL g) {x : Int32} {off : Int} {tgt : Nat} (d : decode cc pc = .ok (.ifCond .eq off, 3)) (ht : (pc : Int) + off = (tgt : Int)) (kt : x = 0 → V p l e s m args below meth c g dl mc ms nL kc ks Z tgt ls st h) (kf : ¬ x = 0 → V p l e s m args below meth c g dl mc ms nL kc ks Z (pc + 3) ls st h) : V p l e s m args below meth c g dl mc ms nL kc ks Z pc ls (.int x :: st) h := fun H locs lsA hc hv hlc => lv_if_eq C.1 C.2.1 d ht (fun q => kt q H locs lsA hc hv hlc) (fun q => kf q H locs lsA hc hv hlc)
theorem v_icmp_eq (C : CXT p l s m args meth c own cc nL g) {x y : Int32} {off : Int} {tgt : Nat} (d : decode cc pc = .ok (.if_icmp .eq off, 3)) (ht : (pc : Int) + off = (tgt : Int)) (kt : x = y → V p l e s m args below meth c g dl mc ms nL kc ks Z tgt ls st h) (kf : ¬ x = y → V p l e s m args below meth c g dl mc ms nL kc ks Z (pc + 3) ls st h) : V p l e s m args below meth c g dl mc ms nL kc ks Z pc ls (.int y :: .int x :: st) h := fun H locs lsA hc hv hlc => lv_icmp_eq C.1 C.2.1 d ht (fun q => kt q H locs lsA hc hv hlc) (fun q => kf q H locs lsA hc hv hlc)
theorem v_if_ne (C : CXT p l s m args meth c own cc nL g) {x : Int32} {off : Int} {tgt : Nat} (d : decode cc pc = .ok (.ifCond .ne off, 3)) (ht : (pc : Int) + off = (tgt : Int)) (kt : ¬ x = 0 → V p l e s m args below meth c g dl mc ms nL kc ks Z tgt ls st h) (kf : x = 0 → V p l e s m args below meth c g dl mc ms nL kc ks Z (pc + 3) ls st h) : V p l e s m args below meth c g dl mc ms nL kc ks Z pc ls (.int x :: st) h := fun H locs lsA hc hv hlc => lv_if_ne C.1 C.2.1 d ht (fun q => kt q H locs lsA hc hv hlc) (fun q => kf q H locs lsA hc hv hlc)
theorem v_icmp_ne (C : CXT p l s m args meth c own cc nL g) {x y : Int32} {off : Int} {tgt : Nat} (d : decode cc pc = .ok (.if_icmp .ne off, 3)) (ht : (pc : Int) + off = (tgt : Int)) (kt : ¬ x = y → V p l e s m args below meth c g dl mc ms nL kc ks Z tgt ls st h) (kf : x = y → V p l e s m args below meth c g dl mc ms nL kc ks Z (pc + 3) ls st h) : V p l e s m args below meth c g dl mc ms nL kc ks Z pc ls (.int y :: .int x :: st) h := fun H locs lsA hc hv hlc => lv_icmp_ne C.1 C.2.1 d ht (fun q => kt q H locs lsA hc hv hlc) (fun q => kf q H locs lsA hc hv hlc)
theorem v_if_lt (C : CXT p l s m args meth c own cc nL g) {x : Int32} {off : Int} {tgt : Nat} (d : decode cc pc = .ok (.ifCond .lt off, 3)) (ht : (pc : Int) + off = (tgt : Int)) (kt : x < 0 → V p l e s m args below meth c g dl mc ms nL kc ks Z tgt ls st h) (kf : ¬ x < 0 → V p l e s m args below meth c g dl mc ms nL kc ks Z (pc + 3) ls st h) : V p l e s m args below meth c g dl mc ms nL kc ks Z pc ls (.int x :: st) h := fun H locs lsA hc hv hlc => lv_if_lt C.1 C.2.1 d ht (fun q => kt q H locs lsA hc hv hlc) (fun q => kf q H locs lsA hc hv hlc)
theorem v_icmp_lt (C : CXT p l s m args meth c own cc nL g) {x y : Int32} {off : Int} {tgt : Nat} (d : decode cc pc = .ok (.if_icmp .lt off, 3)) (ht : (pc : Int) + off = (tgt : Int)) (kt : x < y → V p l e s m args below meth c g dl mc ms nL kc ks Z tgt ls st h) (kf : ¬ x < y → V p l e s m args below meth c g dl mc ms nL kc ks Z (pc + 3) ls st h) : V p l e s m args below meth c g dl mc ms nL kc ks Z pc ls (.int y :: .int x :: st) h := fun H locs lsA hc hv hlc => lv_icmp_lt C.1 C.2.1 d ht (fun q => kt q H locs lsA hc hv hlc) (fun q => kf q H locs lsA hc hv hlc)
theorem v_if_ge (C : CXT p l s m args meth c own cc nL g) {x : Int32} {off : Int} {tgt : Nat} (d : decode cc pc = .ok (.ifCond .ge off, 3)) (ht : (pc : Int) + off = (tgt : Int)) (kt : 0 ≤ x → V p l e s m args below meth c g dl mc ms nL kc ks Z tgt ls st h) (kf : ¬ 0 ≤ x → V p l e s m args below meth c g dl mc ms nL kc ks Z (pc + 3) ls st h) : V p l e s m args below meth c g dl mc ms nL kc ks Z pc ls (.int x :: st) h := fun H locs lsA hc hv hlc => lv_if_ge C.1 C.2.1 d ht (fun q => kt q H locs lsA hc hv hlc) (fun q => kf q H locs lsA hc hv hlc)
theorem v_icmp_ge (C : CXT p l s m args meth c own cc nL g) {x y : Int32} {off : Int} {tgt : Nat} (d : decode cc pc = .ok (.if_icmp .ge off, 3)) (ht : (pc : Int) + off = (tgt : Int)) (kt : y ≤ x → V p l e s m args below meth c g dl mc ms nL kc ks Z tgt ls st h) (kf : ¬ y ≤ x → V p l e s m args below meth c g dl mc ms nL kc ks Z (pc + 3) ls st h) : V p l e s m args below meth c g dl mc ms nL kc ks Z pc ls (.int y :: .int x :: st) h := fun H locs lsA hc hv hlc => lv_icmp_ge C.1 C.2.1 d ht (fun q => kt q H locs lsA hc hv hlc) (fun q => kf q H locs lsA hc hv hlc)
theorem v_if_gt (C : CXT p l s m args meth c own cc nL g) {x : Int32} {off : Int} {tgt : Nat} (d : decode cc pc = .ok (.ifCond .gt off, 3)) (ht : (pc : Int) + off = (tgt : Int)) (kt : 0 < x → V p l e s m args below meth c g dl mc ms nL kc ks Z tgt ls st h) (kf : ¬ 0 < x → V p l e s m args below meth c g dl mc ms nL kc ks Z (pc + 3) ls st h) : V p l e s m args below meth c g dl mc ms nL kc ks Z pc ls (.int x :: st) h := fun H locs lsA hc hv hlc => lv_if_gt C.1 C.2.1 d ht (fun q => kt q H locs lsA hc hv hlc) (fun q => kf q H locs lsA hc hv hlc)
theorem v_icmp_gt (C : CXT p l s m args meth c own cc nL g) {x y : Int32} {off : Int} {tgt : Nat} (d : decode cc pc = .ok (.if_icmp .gt off, 3)) (ht : (pc : Int) + off = (tgt : Int)) (kt : y < x → V p l e s m args below meth c g dl mc ms nL kc ks Z tgt ls st h) (kf : ¬ y < x → V p l e s m args below meth c g dl mc ms nL kc ks Z (pc + 3) ls st h) : V p l e s m args below meth c g dl mc ms nL kc ks Z pc ls (.int y :: .int x :: st) h := fun H locs lsA hc hv hlc => lv_icmp_gt C.1 C.2.1 d ht (fun q => kt q H locs lsA hc hv hlc) (fun q => kf q H locs lsA hc hv hlc)
theorem v_if_le (C : CXT p l s m args meth c own cc nL g) {x : Int32} {off : Int} {tgt : Nat} (d : decode cc pc = .ok (.ifCond .le off, 3)) (ht : (pc : Int) + off = (tgt : Int)) (kt : x ≤ 0 → V p l e s m args below meth c g dl mc ms nL kc ks Z tgt ls st h) (kf : ¬ x ≤ 0 → V p l e s m args below meth c g dl mc ms nL kc ks Z (pc + 3) ls st h) : V p l e s m args below meth c g dl mc ms nL kc ks Z pc ls (.int x :: st) h := fun H locs lsA hc hv hlc => lv_if_le C.1 C.2.1 d ht (fun q => kt q H locs lsA hc hv hlc) (fun q => kf q H locs lsA hc hv hlc)
theorem v_icmp_le (C : CXT p l s m args meth c own cc nL g) {x y : Int32} {off : Int} {tgt : Nat} (d : decode cc pc = .ok (.if_icmp .le off, 3)) (ht : (pc : Int) + off = (tgt : Int)) (kt : x ≤ y → V p l e s m args below meth c g dl mc ms nL kc ks Z tgt ls st h) (kf : ¬ x ≤ y → V p l e s m args below meth c g dl mc ms nL kc ks Z (pc + 3) ls st h) : V p l e s m args below meth c g dl mc ms nL kc ks Z pc ls (.int y :: .int x :: st) h := fun H locs lsA hc hv hlc => lv_icmp_le C.1 C.2.1 d ht (fun q => kt q H locs lsA hc hv hlc) (fun q => kf q H locs lsA hc hv hlc)
theorem v_ifnonnull (C : CXT p l s m args meth c own cc nL g) {r : Option Nat} {off : Int} {tgt : Nat} (d : decode cc pc = .ok (.ifnonnull off, 3)) (ht : (pc : Int) + off = (tgt : Int)) (kt : ∀ a, r = some a → V p l e s m args below meth c g dl mc ms nL kc ks Z tgt ls st h) (kf : r = none → V p l e s m args below meth c g dl mc ms nL kc ks Z (pc + 3) ls st h) : V p l e s m args below meth c g dl mc ms nL kc ks Z pc ls (va_rf r :: st) h := by
  intro H locs lsA hc hv hlc
  cases r with
  | none => exact lv_ifnonnullN C.1 C.2.1 d (kf rfl H locs lsA hc hv hlc)
  | some a => exact lv_ifnonnull C.1 C.2.1 d ht (kt a rfl H locs lsA hc hv hlc)
theorem v_ifnull (C : CXT p l s m args meth c own cc nL g) {r : Option Nat} {off : Int} {tgt : Nat} (d : decode cc pc = .ok (.ifnull off, 3)) (ht : (pc : Int) + off = (tgt : Int)) (kt : r = none → V p l e s m args below meth c g dl mc ms nL kc ks Z tgt ls st h) (kf : ∀ a, r = some a → V p l e s m args below meth c g dl mc ms nL kc ks Z (pc + 3) ls st h) : V p l e s m args below meth c g dl mc ms nL kc ks Z pc ls (va_rf r :: st) h := by
  intro H locs lsA hc hv hlc
  cases r with
  | none => exact lv_ifnullN C.1 C.2.1 d ht (kt rfl H locs lsA hc hv hlc)
  | some a => exact lv_ifnull C.1 C.2.1 d (kf a rfl H locs lsA hc hv hlc)
theorem v_tswitch (C : CXT p l s m args meth c own cc nL g) {dflt lo hi : Int} {offs : Array Int} {len td : Nat} {x : Int32} (d : decode cc pc = .ok (.tableswitch dflt lo hi offs, len)) (hd : (pc : Int) + dflt = (td : Int)) (k1 : x.toInt < lo ∨ hi < x.toInt → V p l e s m args below meth c g dl mc ms nL kc ks Z td ls st h) (k2 : ∀ (off : Int) (tgt : Nat), ¬ x.toInt < lo → ¬ hi < x.toInt → offs[(x.toInt - lo).toNat]? = some off → (pc : Int) + off = (tgt : Int) → V p l e s m args below meth c g dl mc ms nL kc ks Z tgt ls st h) (hz : ∀ i : Nat, (i : Int) ≤ hi - lo → ∃ (off : Int) (tgt : Nat), offs[i]? = some off ∧ (pc : Int) + off = (tgt : Int)) : V p l e s m args below meth c g dl mc ms nL kc ks Z pc ls (.int x :: st) h := by
  intro H locs lsA hc hv hlc
  by_cases q : x.toInt < lo ∨ hi < x.toInt
  · exact lv_tableOut C.1 C.2.1 d q hd (k1 q H locs lsA hc hv hlc)
  · have q1 : ¬ x.toInt < lo := fun z => q (Or.inl z)
    have q2 : ¬ hi < x.toInt := fun z => q (Or.inr z)
    obtain ⟨off, tgt, o1, o2⟩ := hz (x.toInt - lo).toNat (by omega)
    exact lv_tableIn C.1 C.2.1 d q1 q2 o1 o2 (k2 off tgt q1 q2 o1 o2 H locs lsA hc hv hlc)
-- heap
theorem HC.set {h h' : AH} {H H1 : Heap} {a : Nat} (hc : HC g h H) (hss : gS h' = gS h ∧ gV h' = gV h) (hk : gK h' = gK h) (hl : gL h' = gL h) (ho : ∀ b, b ≠ a → gI h' b = gI h b ∧ gP h' b = gP h b ∧ gJ h' b = gJ h b) (ha : gK h a ≠ 0) (hz : H1.size = H.size) (hq : ∀ q : Nat, q ≠ a → H1[q]? = H[q]?)
    (n1 : ∀ (ci : Nat) (r : vw_C), vwCl[ci]? = some r → gK h a = ci + 1 → t_OB a (g.1.1 ci) r.2.2 (g.1.2 ci) H1 (fv ci h' a)) (n2 : ∀ j : Nat, j < 5 → gK h a = 20 + j → H1[a]? = some (arrV (g.2.1 j) (gL h a) (av j h' a))) : HC g h' H1 := by
  obtain ⟨c1, c2, c3, c4⟩ := hc
  have hb := (c3 a ha).1
  have hs4 : HS g h' := by unfold HS; rw [hss.1, hss.2]; exact c4
  refine ⟨by rw [hz]; exact c1, fun q hq' => by rw [hq q (by omega)]; exact c2 q hq', fun b hb' => ?_, hs4⟩
  rw [hk] at hb'
  obtain ⟨d1, d2, d3, d4⟩ := c3 b hb'
  by_cases hab : b = a
  · subst hab
    refine ⟨d1, by rw [hz]; exact d2, fun ci r hr hc => n1 ci r hr (by rw [← hc, hk]), fun j hj hc => ?_⟩
    rw [hl]
    exact n2 j hj (by rw [← hc, hk])
  · obtain ⟨o1, o2, o3⟩ := ho b hab
    refine ⟨d1, by rw [hz]; exact d2, fun ci r hr hc => ?_, fun j hj hc => ?_⟩
    · refine ((d3 ci r hr (by rw [← hc, hk])).kept (hq b hab)).to (fun k _ => ?_)
      simp only [fv, o1, o2]
    · rw [hq b hab, hl, d4 j hj (by rw [← hc, hk])]
      congr 2
      funext k
      simp only [av, o1, o2, o3]
theorem HC.new {h h' : AH} {H H1 : Heap} (hc : HC g h H) (hss : gS h' = gS h ∧ gV h' = gV h) (hz : H1.size = H.size + 1) (hq : ∀ q : Nat, q < H.size → H1[q]? = H[q]?) (hk : ∀ b, b ≠ H.size → gK h' b = gK h b ∧ gL h' b = gL h b ∧ gI h' b = gI h b ∧ gP h' b = gP h b ∧ gJ h' b = gJ h b)
    (n1 : ∀ (ci : Nat) (r : vw_C), vwCl[ci]? = some r → gK h' H.size = ci + 1 → t_OB H.size (g.1.1 ci) r.2.2 (g.1.2 ci) H1 (fv ci h' H.size)) (n2 : ∀ j : Nat, j < 5 → gK h' H.size = 20 + j → H1[H.size]? = some (arrV (g.2.1 j) (gL h' H.size) (av j h' H.size))) : HC g h' H1 := by
  obtain ⟨c1, c2, c3, c4⟩ := hc
  have hs4 : HS g h' := by unfold HS; rw [hss.1, hss.2]; exact c4
  refine ⟨by omega, fun q hq' => by rw [hq q (by omega)]; exact c2 q hq', fun b hb' => ?_, hs4⟩
  by_cases hab : b = H.size
  · subst hab
    exact ⟨c1, by omega, n1, n2⟩
  · obtain ⟨o0, o4, o1, o2, o3⟩ := hk b hab
    rw [o0] at hb'
    obtain ⟨d1, d2, d3, d4⟩ := c3 b hb'
    refine ⟨d1, by omega, fun ci r hr hc => ?_, fun j hj hc => ?_⟩
    · refine ((d3 ci r hr (by rw [← hc, o0])).kept (hq b d2)).to (fun k _ => ?_)
      simp only [fv, o1, o2]
    · rw [hq b d2, o4, d4 j hj (by rw [← hc, o0])]
      congr 2
      funext k
      simp only [av, o1, o2, o3]
theorem HC.fresh {h : AH} {H : Heap} (hc : HC g h H) : gK h H.size = 0 := by
  by_cases q : gK h H.size = 0
  · exact q
  · exact absurd (hc.2.2.1 _ q).2.1 (Nat.lt_irrefl _)
theorem okW_lay (C : String) (T : u_T) (k : Nat) : okW (u_lay C T k) = true := by
  unfold u_lay
  split <;> rfl
theorem okW_ws {C : String} {T : u_T} {N : Nat} : ∀ w ∈ u_ws C T N, okW w = true := by
  intro w hw
  obtain ⟨k, -, rfl⟩ := List.mem_map.mp hw
  exact okW_lay C T k
/-- the tables know the field k of class ci by the entry 'index' of the class own -/
def FLk (own : String) (index ci k : Nat) (r : vw_C) : Prop := vwCl[ci]? = some r ∧ k < r.2.2 ∧ (∀ w ∈ u_ws r.1 r.2.1 r.2.2, w ∈ lw_tbl) ∧ (Cond.fieldLink own index (r.2.1 k).1 (r.2.1 k).2.1 (r.2.1 k).2.2.1 ∈ lw_tbl ∨ ∃ host, Cond.fieldLinkNest own index (r.2.1 k).1 (r.2.1 k).2.1 (r.2.1 k).2.2.1 host ∈ lw_tbl)
theorem v_get (C : CXT p l s m args meth c own cc nL g) {index ci k a : Nat} {r : vw_C} (F : FLk own index ci k r) (d : decode cc pc = .ok (.getfield index, 3)) (hK : gK h a = ci + 1) (kk : V p l e s m args below meth c g dl mc ms nL kc ks Z (pc + 3) ls (fv ci h a k :: st) h) : V p l e s m args below meth c g dl mc ms nL kc ks Z pc ls (.ref a :: st) h := by
  intro H locs lsA hc hv hlc
  obtain ⟨hr, hk, hin, hlink⟩ := F
  obtain ⟨cell, q1, q2, q3, q4⟩ := (hc.2.2.1 a (by omega)).2.2.1 ci r hr hK
  obtain ⟨hS, hfc, kC, hkC, hkind⟩ := C.2.2.2.2.1.1.1 ci _ hr
  obtain ⟨cf, kf, fi, f, hi, hsl⟩ := hS k hk
  have hts : ∀ w ∈ u_ws r.1 r.2.1 r.2.2, w.before args s = true := fun w hw => cx_w C (hin w hw) (okW_ws w hw)
  have hst := (u_facts hfc hkC (u_lays hts (fun w hw => hw) hk) hi).1
  rcases hlink with hl | ⟨host, hl⟩
  · exact W.getf C.1 C.2.1 C.2.2.2.1 (cx_w C hl rfl) hi hst q1 (by rw [q3]; exact fun h => by cases h) (by rw [hsl]; exact q4 k hk) rfl rfl d (kk H locs lsA hc hv hlc)
  · exact va_Wgetf C.1 C.2.1 C.2.2.2.1 (cx_w C hl rfl) hi hst q1 (by rw [q3]; exact fun h => by cases h) (by rw [hsl]; exact q4 k hk) rfl rfl d (kk H locs lsA hc hv hlc)
theorem v_getI (C : CXT p l s m args meth c own cc nL g) {index ci k a : Nat} {r : vw_C} (F : FLk own index ci k r) (d : decode cc pc = .ok (.getfield index, 3)) (hf : rf ci k = false) (hK : gK h a = ci + 1) (kk : V p l e s m args below meth c g dl mc ms nL kc ks Z (pc + 3) ls (.int (gI h a k) :: st) h) : V p l e s m args below meth c g dl mc ms nL kc ks Z pc ls (.ref a :: st) h := by
  refine v_get C F d hK ?_
  rw [show fv ci h a k = .int (gI h a k) by simp [fv, hf]]
  exact kk
theorem v_getO (C : CXT p l s m args meth c own cc nL g) {index ci k a : Nat} {r : vw_C} (F : FLk own index ci k r) (d : decode cc pc = .ok (.getfield index, 3)) (hf : rf ci k = true) (hK : gK h a = ci + 1) (kk : V p l e s m args below meth c g dl mc ms nL kc ks Z (pc + 3) ls (va_rf (gP h a k) :: st) h) : V p l e s m args below meth c g dl mc ms nL kc ks Z pc ls (.ref a :: st) h := by
  refine v_get C F d hK ?_
  rw [show fv ci h a k = va_rf (gP h a k) by simp [fv, hf]]
  exact kk
theorem v_getN (C : CXT p l s m args meth c own cc nL g) {index ci k a b : Nat} {r : vw_C} (F : FLk own index ci k r) (d : decode cc pc = .ok (.getfield index, 3)) (hf : rf ci k = true) (hK : gK h a = ci + 1) (hb : gP h a k = some b) (kk : V p l e s m args below meth c g dl mc ms nL kc ks Z (pc + 3) ls (.ref b :: st) h) : V p l e s m args below meth c g dl mc ms nL kc ks Z pc ls (.ref a :: st) h := by
  refine v_getO C F d hf hK ?_
  rw [hb]
  exact kk
theorem v_put0 (C : CXT p l s m args meth c own cc nL g) {index ci k a : Nat} {r : vw_C} {v : Value} {h' : AH} (F : FLk own index ci k r) (hnm : ∀ a, a < r.2.2 → ∀ b, b < r.2.2 → a ≠ b → (r.2.1 a).2.1 ≠ (r.2.1 b).2.1) (ty0 : Nat → FieldType) (hty : ∀ k, k < r.2.2 → parseFieldDescriptor (r.2.1 k).2.2.1 = some (ty0 k)) (hfin : (r.2.1 k).2.2.2 = false ∨ (meth.name = "<init>" ∧ (r.2.1 k).1 = own ∧ (r.2.1 k).2.2.2 = true ∧ Cond.fieldLink own index (r.2.1 k).1 (r.2.1 k).2.1 (r.2.1 k).2.2.1 ∈ lw_tbl)) (hn : narrow (ty0 k) v = v) (hfit : fits (ty0 k) v = true) (d : decode cc pc = .ok (.putfield index, 3)) (hK : gK h a = ci + 1)
    (hss' : gS h' = gS h ∧ gV h' = gV h) (hk' : gK h' = gK h) (hl' : gL h' = gL h) (ho : ∀ b, b ≠ a → gI h' b = gI h b ∧ gP h' b = gP h b ∧ gJ h' b = gJ h b) (hf' : ∀ j, fv ci h' a j = if j = k then v else fv ci h a j) (kk : V p l e s m args below meth c g dl mc ms nL kc ks Z (pc + 3) ls st h') : V p l e s m args below meth c g dl mc ms nL kc ks Z pc ls (v :: .ref a :: st) h := by
  intro H locs lsA hc hv hlc
  obtain ⟨hr, hk, hin, hlink⟩ := F
  obtain ⟨a1, a2, a3, a4⟩ := hc.2.2.1 a (by omega)
  obtain ⟨cell, q1, q2, q3, q4⟩ := a3 ci r hr hK
  have hts : ∀ w ∈ u_ws r.1 r.2.1 r.2.2, w.before args s = true := fun w hw => cx_w C (hin w hw) (okW_ws w hw)
  have hap := va_apart (own := own) (C := r.1) (T := r.2.1) (N := r.2.2) hts (fun w hw => hw) ty0 hty hnm C.2.2.2.2.1.1 hr
  obtain ⟨hS, hfc, kC, hkC, hkind⟩ := C.2.2.2.2.1.1.1 ci _ hr
  obtain ⟨cf, kf, fi, f, hi, hsl⟩ := hS k hk
  have hst := (u_facts hfc hkC (u_lays hts (fun w hw => hw) hk) hi).1
  have fin : ∀ (H' : Heap) (lc : Loc), lc.base = a → H'[a]? = some (cell.setSlot f.slot v) → H'.size = H.size → (∀ q, q ≠ a → H'[q]? = H[q]?) → W p l e (rmD dl mc ms) s m args below meth c H' (locs ++ [lc]) kc ks Z (F0 m (pc + 3) lsA st) := by
    intro H' lc hb e1 e2 e3
    refine kk H' _ lsA (hc.set hss' hk' hl' ho (by omega) e2 e3 (fun ci2 r2 hr2 hc2 => ?_) (fun j hj hc2 => ?_)) hv (fun q hq => ?_)
    · have : ci2 = ci := by omega
      subst this
      have : r2 = r := Option.some.inj (hr2.symm.trans hr)
      subst this
      refine ⟨_, e1, q2, q3, fun j hj => ?_⟩
      have h6 := t_set q4 hap hk v j hj
      rw [hsl, h6, hf' j]
      rfl
    · have hlt : ci < 13 := by
        have := (List.getElem?_eq_some_iff.mp hr).1
        simpa [vwCl] using this
      omega
    · rcases List.mem_append.mp hq with z | z
      · exact hlc q z
      · rw [List.mem_singleton.mp z]
        show gA g lc.base
        rw [hb]
        exact a1
  rcases hfin with hfin | ⟨hi1, hi2, hi3, hi4⟩
  · have hlay := hts _ (u_in_lay hk)
    unfold u_lay at hlay
    rw [if_neg (by rw [hfin]; decide)] at hlay
    have h6 := u_store hfc hkC hkind hlay hi (hty k hk) hn hfit
    rcases hlink with hl | ⟨host, hl⟩
    · exact W.putK C.1 C.2.1 (f := f) ⟨C.2.2.2.1, cx_w C hl rfl, ⟨_, _, _, hi⟩, hst⟩ (by rw [q2]; exact h6) q1 q3 (by rw [hsl]; exact k2_hasslot (q4 k hk)) rfl rfl d (fun H' e1 e2 e3 => fin H' _ rfl e1 e2 e3)
    · exact va_WputK C.1 C.2.1 (f := f) C.2.2.2.1 (cx_w C hl rfl) hi hst (by rw [q2]; exact h6) q1 q3 (by rw [hsl]; exact k2_hasslot (q4 k hk)) rfl rfl d (fun H' e1 e2 e3 => fin H' _ rfl e1 e2 e3)
  · have hlay := hts _ (u_in_lay hk)
    unfold u_lay at hlay
    rw [if_pos hi3] at hlay
    have hcf : m.cls = cf := by
      obtain ⟨_, _, c', _, _, _, -, -, hf', -, -, -, hown2, -⟩ := Cond.laysFinal_spec hlay
      have e1 : c' = cf := by have := hi.symm.trans hf'; simp at this; exact this.1.symm
      rw [hi2] at hown2
      rw [← e1]; exact Option.some.inj (C.2.2.2.1.symm.trans hown2)
    have h6 := u_fits hfc hkC hkind (Or.inr hlay) hi (hty k hk) hn hfit
    exact W.putFinK C.1 C.2.1 C.2.2.2.1 (cx_w C hi4 rfl) hi hst hcf hi1 (by rw [q2]; exact h6) q1 q3 (by rw [hsl]; exact k2_hasslot (q4 k hk)) rfl rfl d (fun H' e1 e2 e3 => fin H' _ rfl e1 e2 e3)
/-- a field that is written: which sort (0 an int, 1 a boolean, 2 a reference) -/
def FPk (own : String) (index ci k : Nat) (r : vw_C) (ty0 : Nat → FieldType) (b : Nat) : Prop := FLk own index ci k r ∧ (∀ a, a < r.2.2 → ∀ b, b < r.2.2 → a ≠ b → (r.2.1 a).2.1 ≠ (r.2.1 b).2.1) ∧ (∀ k, k < r.2.2 → parseFieldDescriptor (r.2.1 k).2.2.1 = some (ty0 k)) ∧ ((b = 0 ∧ ty0 k = .int ∧ rf ci k = false) ∨ (b = 1 ∧ ty0 k = .boolean ∧ rf ci k = false) ∨ (b = 2 ∧ ((∃ n, ty0 k = .object n) ∨ ∃ t, ty0 k = .array t) ∧ rf ci k = true))
def FFk (own : String) (index k : Nat) (r : vw_C) (meth : Method) : Prop := (r.2.1 k).2.2.2 = false ∨ (meth.name = "<init>" ∧ (r.2.1 k).1 = own ∧ (r.2.1 k).2.2.2 = true ∧ Cond.fieldLink own index (r.2.1 k).1 (r.2.1 k).2.1 (r.2.1 k).2.2.1 ∈ lw_tbl)
theorem fv_sI {ci a k : Nat} {v : Int32} (hf : rf ci k = false) (j : Nat) : fv ci (sI h a k v) a j = if j = k then .int v else fv ci h a j := by
  by_cases q : j = k
  · subst q
    simp [fv, hf, sI, gI, va_up]
  · simp [fv, sI, gI, gP, va_up, q]
theorem fv_sP {ci a k : Nat} {v : Option Nat} (hf : rf ci k = true) (j : Nat) : fv ci (sP h a k v) a j = if j = k then va_rf v else fv ci h a j := by
  by_cases q : j = k
  · subst q
    simp [fv, hf, sP, gP, va_up]
  · simp [fv, sP, gI, gP, va_up, q]
theorem sI_off {a k : Nat} {v : Int32} : ∀ b, b ≠ a → gI (sI h a k v) b = gI h b ∧ gP (sI h a k v) b = gP h b ∧ gJ (sI h a k v) b = gJ h b := fun b hb => by simp [sI, gI, gP, gJ, va_up, hb]
theorem sP_off {a k : Nat} {v : Option Nat} : ∀ b, b ≠ a → gI (sP h a k v) b = gI h b ∧ gP (sP h a k v) b = gP h b ∧ gJ (sP h a k v) b = gJ h b := fun b hb => by simp [sP, gI, gP, gJ, va_up, hb]
theorem v_putI (C : CXT p l s m args meth c own cc nL g) {index ci k a : Nat} {r : vw_C} {ty0 : Nat → FieldType} {x : Int32} (F : FPk own index ci k r ty0 0) (hfin : FFk own index k r meth) (d : decode cc pc = .ok (.putfield index, 3)) (hK : gK h a = ci + 1) (kk : V p l e s m args below meth c g dl mc ms nL kc ks Z (pc + 3) ls st (sI h a k x)) : V p l e s m args below meth c g dl mc ms nL kc ks Z pc ls (.int x :: .ref a :: st) h := by
  obtain ⟨F1, F2, F3, F4⟩ := F
  rcases F4 with ⟨-, e1, e2⟩ | ⟨z, -⟩ | ⟨z, -⟩
  · exact v_put0 (h' := sI h a k x) C F1 F2 ty0 F3 hfin (by rw [e1]; rfl) (by rw [e1]; rfl) d hK ⟨rfl, rfl⟩ rfl rfl sI_off (fv_sI e2) kk
  · exact absurd z (by decide)
  · exact absurd z (by decide)
theorem v_putZ (C : CXT p l s m args meth c own cc nL g) {index ci k a : Nat} {r : vw_C} {ty0 : Nat → FieldType} {x : Int32} (F : FPk own index ci k r ty0 1) (hfin : FFk own index k r meth) (d : decode cc pc = .ok (.putfield index, 3)) (hK : gK h a = ci + 1) (hx : x = 0 ∨ x = 1) (kk : V p l e s m args below meth c g dl mc ms nL kc ks Z (pc + 3) ls st (sI h a k x)) : V p l e s m args below meth c g dl mc ms nL kc ks Z pc ls (.int x :: .ref a :: st) h := by
  obtain ⟨F1, F2, F3, F4⟩ := F
  rcases F4 with ⟨z, -⟩ | ⟨-, e1, e2⟩ | ⟨z, -⟩
  · exact absurd z (by decide)
  · exact v_put0 (h' := sI h a k x) C F1 F2 ty0 F3 hfin (by rw [e1]; rcases hx with rfl | rfl <;> rfl) (by rw [e1]; rcases hx with rfl | rfl <;> rfl) d hK ⟨rfl, rfl⟩ rfl rfl sI_off (fv_sI e2) kk
  · exact absurd z (by decide)
theorem v_putO (C : CXT p l s m args meth c own cc nL g) {index ci k a : Nat} {r : vw_C} {ty0 : Nat → FieldType} {x : Option Nat} (F : FPk own index ci k r ty0 2) (hfin : FFk own index k r meth) (d : decode cc pc = .ok (.putfield index, 3)) (hK : gK h a = ci + 1) (kk : V p l e s m args below meth c g dl mc ms nL kc ks Z (pc + 3) ls st (sP h a k x)) : V p l e s m args below meth c g dl mc ms nL kc ks Z pc ls (va_rf x :: .ref a :: st) h := by
  obtain ⟨F1, F2, F3, F4⟩ := F
  rcases F4 with ⟨z, -⟩ | ⟨z, -⟩ | ⟨-, e1, e2⟩
  · exact absurd z (by decide)
  · exact absurd z (by decide)
  · refine v_put0 (h' := sP h a k x) C F1 F2 ty0 F3 hfin ?_ ?_ d hK ⟨rfl, rfl⟩ rfl rfl sP_off (fv_sP e2) kk
    · rcases e1 with ⟨n, e1⟩ | ⟨t, e1⟩ <;> rw [e1] <;> cases x <;> rfl
    · rcases e1 with ⟨n, e1⟩ | ⟨t, e1⟩ <;> rw [e1] <;> cases x <;> rfl
theorem v_putN (C : CXT p l s m args meth c own cc nL g) {index ci k a b : Nat} {r : vw_C} {ty0 : Nat → FieldType} (F : FPk own index ci k r ty0 2) (hfin : FFk own index k r meth) (d : decode cc pc = .ok (.putfield index, 3)) (hK : gK h a = ci + 1) (kk : V p l e s m args below meth c g dl mc ms nL kc ks Z (pc + 3) ls st (sP h a k (some b))) : V p l e s m args below meth c g dl mc ms nL kc ks Z pc ls (.ref b :: .ref a :: st) h := v_putO (x := some b) C F hfin d hK kk
-- arrays
theorem HC.arr {H : Heap} {a j : Nat} (hc : HC g h H) (hj : j < 5) (hK : gK h a = 20 + j) : H[a]? = some (arrV (g.2.1 j) (gL h a) (av j h a)) := (hc.2.2.1 a (by omega)).2.2.2 j hj hK
theorem HC.setA {H H1 : Heap} {a j k : Nat} {h' : AH} {v : Value} (hc : HC g h H) (hj : j < 5) (hK : gK h a = 20 + j) (hss' : gS h' = gS h ∧ gV h' = gV h) (hk' : gK h' = gK h) (hl' : gL h' = gL h) (ho : ∀ b, b ≠ a → gI h' b = gI h b ∧ gP h' b = gP h b ∧ gJ h' b = gJ h b) (hv : ∀ i, av j h' a i = if i = k then v else av j h a i)
    (e : H1[a]? = some ((arrV (g.2.1 j) (gL h a) (av j h a)).setSlot k v)) (hz : H1.size = H.size) (hq : ∀ q : Nat, q ≠ a → H1[q]? = H[q]?) : HC g h' H1 := by
  refine hc.set hss' hk' hl' ho (by omega) hz hq (fun ci r hr hc2 => ?_) (fun i hi hc2 => ?_)
  · have hlt : ci < 13 := by
      have := (List.getElem?_eq_some_iff.mp hr).1
      simpa [vwCl] using this
    omega
  · have : i = j := by omega
    subst this
    rw [e, arrV_store]
    congr 2
    funext q
    rw [hv q]
    rfl
theorem v_iaload (C : CXT p l s m args meth c own cc nL g) {a : Nat} {i : Int32} (d : decode cc pc = .ok (.iaload, 1)) (hK : gK h a = 20) (hi : vp_in i (gL h a)) (kk : V p l e s m args below meth c g dl mc ms nL kc ks Z (pc + 1) ls (.int (gI h a i.toNatClampNeg) :: st) h) : V p l e s m args below meth c g dl mc ms nL kc ks Z pc ls (.int i :: .ref a :: st) h := by
  intro H locs lsA hc hv hlc
  have hlt : i.toNatClampNeg < gL h a := Nat.not_le.mp fun q => hi (Or.inr q)
  exact W.iald (v := .int (gI h a i.toNatClampNeg)) C.1 C.2.1 (hc.arr (j := 0) (by decide) hK) ((C.2.2.2.2.1.1.2 0 _ rfl).1 _ _) (fun q => by cases q) (by rw [arrV_size]; exact hi) (by rw [arrV_read _ _ hlt]; rfl) rfl rfl d (kk H locs lsA hc hv hlc)
theorem v_baload (C : CXT p l s m args meth c own cc nL g) {a : Nat} {i : Int32} (d : decode cc pc = .ok (.baload, 1)) (hK : gK h a = 21) (hi : vp_in i (gL h a)) (kk : V p l e s m args below meth c g dl mc ms nL kc ks Z (pc + 1) ls (.int (gI h a i.toNatClampNeg) :: st) h) : V p l e s m args below meth c g dl mc ms nL kc ks Z pc ls (.int i :: .ref a :: st) h := by
  intro H locs lsA hc hv hlc
  have hlt : i.toNatClampNeg < gL h a := Nat.not_le.mp fun q => hi (Or.inr q)
  exact W.bald (v := .int (gI h a i.toNatClampNeg)) C.1 C.2.1 (hc.arr (j := 1) (by decide) hK) ((C.2.2.2.2.1.1.2 1 _ rfl).1 _ _) (fun q => by cases q) (by rw [arrV_size]; exact hi) (by rw [arrV_read _ _ hlt]; rfl) rfl rfl d (kk H locs lsA hc hv hlc)
theorem v_zaload (C : CXT p l s m args meth c own cc nL g) {a : Nat} {i : Int32} (d : decode cc pc = .ok (.baload, 1)) (hK : gK h a = 22) (hi : vp_in i (gL h a)) (kk : V p l e s m args below meth c g dl mc ms nL kc ks Z (pc + 1) ls (.int (gI h a i.toNatClampNeg) :: st) h) : V p l e s m args below meth c g dl mc ms nL kc ks Z pc ls (.int i :: .ref a :: st) h := by
  intro H locs lsA hc hv hlc
  have hlt : i.toNatClampNeg < gL h a := Nat.not_le.mp fun q => hi (Or.inr q)
  exact W.zald (v := .int (gI h a i.toNatClampNeg)) C.1 C.2.1 (hc.arr (j := 2) (by decide) hK) ((C.2.2.2.2.1.1.2 2 _ rfl).1 _ _) (fun q => by cases q) (by rw [arrV_size]; exact hi) (by rw [arrV_read _ _ hlt]; rfl) rfl rfl d (kk H locs lsA hc hv hlc)
theorem v_laload (C : CXT p l s m args meth c own cc nL g) {a : Nat} {i : Int32} (d : decode cc pc = .ok (.laload, 1)) (hK : gK h a = 23) (hi : vp_in i (gL h a)) (kk : V p l e s m args below meth c g dl mc ms nL kc ks Z (pc + 1) ls (.long (gJ h a i.toNatClampNeg) :: st) h) : V p l e s m args below meth c g dl mc ms nL kc ks Z pc ls (.int i :: .ref a :: st) h := by
  intro H locs lsA hc hv hlc
  have hlt : i.toNatClampNeg < gL h a := Nat.not_le.mp fun q => hi (Or.inr q)
  exact W.lald (v := .long (gJ h a i.toNatClampNeg)) C.1 C.2.1 (hc.arr (j := 3) (by decide) hK) ((C.2.2.2.2.1.1.2 3 _ rfl).1 _ _) (fun q => by cases q) (by rw [arrV_size]; exact hi) (by rw [arrV_read _ _ hlt]; rfl) rfl rfl d (kk H locs lsA hc hv hlc)
theorem v_aaload (C : CXT p l s m args meth c own cc nL g) {a : Nat} {i : Int32} (d : decode cc pc = .ok (.aaload, 1)) (hK : gK h a = 24) (hi : vp_in i (gL h a)) (kk : V p l e s m args below meth c g dl mc ms nL kc ks Z (pc + 1) ls (va_rf (gP h a i.toNatClampNeg) :: st) h) : V p l e s m args below meth c g dl mc ms nL kc ks Z pc ls (.int i :: .ref a :: st) h := by
  intro H locs lsA hc hv hlc
  have hlt : i.toNatClampNeg < gL h a := Nat.not_le.mp fun q => hi (Or.inr q)
  exact W.aald (v := va_rf (gP h a i.toNatClampNeg)) C.1 C.2.1 (hc.arr (j := 4) (by decide) hK) ((C.2.2.2.2.1.1.2 4 _ rfl).1 _ _) rfl (fun q => by cases q) (by rw [arrV_size]; exact hi) (by rw [arrV_read _ _ hlt]; rfl) rfl rfl d (kk H locs lsA hc hv hlc)
theorem av_sI {a k : Nat} {v : Int32} {j : Nat} (h3 : j ≠ 3) (h4 : j ≠ 4) (i : Nat) : av j (sI h a k v) a i = if i = k then .int v else av j h a i := by
  by_cases q : i = k
  · subst q
    simp [av, h3, h4, sI, gI, va_up]
  · simp [av, sI, gI, gP, gJ, va_up, q]
theorem locs_ok {locs : List Loc} {a k : Nat} (ha : gA g a) (hlc : ∀ q ∈ locs, gA g q.base) : ∀ q ∈ locs ++ [⟨a, k⟩], gA g q.base := by
  intro q hq
  rcases List.mem_append.mp hq with z | z
  · exact hlc q z
  · rw [List.mem_singleton.mp z]; exact ha
theorem v_iastore (C : CXT p l s m args meth c own cc nL g) {a : Nat} {i x : Int32} (d : decode cc pc = .ok (.iastore, 1)) (hK : gK h a = 20) (hi : vp_in i (gL h a)) (kk : V p l e s m args below meth c g dl mc ms nL kc ks Z (pc + 1) ls st (sI h a i.toNatClampNeg x)) : V p l e s m args below meth c g dl mc ms nL kc ks Z pc ls (.int x :: .int i :: .ref a :: st) h := by
  intro H locs lsA hc hv hlc
  exact W.iast C.1 C.2.1 (hc.arr (j := 0) (by decide) hK) ((C.2.2.2.2.1.1.2 0 _ rfl).1 _ _) (fun q => by cases q) (by rw [arrV_size]; exact hi) rfl rfl d (fun H1 e z oq => kk H1 _ lsA (hc.setA (by decide) hK ⟨rfl, rfl⟩ rfl rfl sI_off (av_sI (by decide) (by decide)) e z oq) hv (locs_ok (hc.2.2.1 a (by omega)).1 hlc))
theorem v_bastore (C : CXT p l s m args meth c own cc nL g) {a : Nat} {i x : Int32} (d : decode cc pc = .ok (.bastore, 1)) (hK : gK h a = 21) (hi : vp_in i (gL h a)) (kk : V p l e s m args below meth c g dl mc ms nL kc ks Z (pc + 1) ls st (sI h a i.toNatClampNeg x.toInt8.toInt32)) : V p l e s m args below meth c g dl mc ms nL kc ks Z pc ls (.int x :: .int i :: .ref a :: st) h := by
  intro H locs lsA hc hv hlc
  exact W.bast C.1 C.2.1 (hc.arr (j := 1) (by decide) hK) ((C.2.2.2.2.1.1.2 1 _ rfl).1 _ _) (fun q => by cases q) (by rw [arrV_size]; exact hi) rfl rfl d (fun H1 e z oq => kk H1 _ lsA (hc.setA (by decide) hK ⟨rfl, rfl⟩ rfl rfl sI_off (av_sI (by decide) (by decide)) e z oq) hv (locs_ok (hc.2.2.1 a (by omega)).1 hlc))
theorem v_zastore (C : CXT p l s m args meth c own cc nL g) {a : Nat} {i x : Int32} (d : decode cc pc = .ok (.bastore, 1)) (hK : gK h a = 22) (hi : vp_in i (gL h a)) (hx : x = 0 ∨ x = 1) (kk : V p l e s m args below meth c g dl mc ms nL kc ks Z (pc + 1) ls st (sI h a i.toNatClampNeg x)) : V p l e s m args below meth c g dl mc ms nL kc ks Z pc ls (.int x :: .int i :: .ref a :: st) h := by
  intro H locs lsA hc hv hlc
  exact W.zast C.1 C.2.1 (hc.arr (j := 2) (by decide) hK) ((C.2.2.2.2.1.1.2 2 _ rfl).1 _ _) (fun q => by cases q) (by rw [arrV_size]; exact hi) rfl rfl d (fun H1 e z oq => kk H1 _ lsA (hc.setA (j := 2) (by decide) hK ⟨rfl, rfl⟩ rfl rfl sI_off (av_sI (by decide) (by decide)) (by rcases hx with rfl | rfl <;> exact e) z oq) hv (locs_ok (hc.2.2.1 a (by omega)).1 hlc))
theorem v_lastore (C : CXT p l s m args meth c own cc nL g) {a : Nat} {i : Int32} {x : Int64} (d : decode cc pc = .ok (.lastore, 1)) (hK : gK h a = 23) (hi : vp_in i (gL h a)) (kk : V p l e s m args below meth c g dl mc ms nL kc ks Z (pc + 1) ls st (sJ h a i.toNatClampNeg x)) : V p l e s m args below meth c g dl mc ms nL kc ks Z pc ls (.long x :: .int i :: .ref a :: st) h := by
  intro H locs lsA hc hv hlc
  refine W.last C.1 C.2.1 (hc.arr (j := 3) (by decide) hK) ((C.2.2.2.2.1.1.2 3 _ rfl).1 _ _) (fun q => by cases q) (by rw [arrV_size]; exact hi) rfl rfl d (fun H1 e z oq => kk H1 _ lsA (hc.setA (h' := sJ h a i.toNatClampNeg x) (by decide) hK ⟨rfl, rfl⟩ rfl rfl (fun b hb => by simp [sJ, gI, gP, gJ, va_up, hb]) (fun k => ?_) e z oq) hv (locs_ok (hc.2.2.1 a (by omega)).1 hlc))
  by_cases q : k = i.toNatClampNeg
  · subst q
    simp [av, sJ, gJ, va_up]
  · simp [av, sJ, gJ, va_up, q]
theorem v_aastore (C : CXT p l s m args meth c own cc nL g) {a : Nat} {i : Int32} {x : Option Nat} (d : decode cc pc = .ok (.aastore, 1)) (hK : gK h a = 24) (hi : vp_in i (gL h a)) (hx : ∀ b, x = some b → gK h b = 6) (kk : V p l e s m args below meth c g dl mc ms nL kc ks Z (pc + 1) ls st (sP h a i.toNatClampNeg x)) : V p l e s m args below meth c g dl mc ms nL kc ks Z pc ls (va_rf x :: .int i :: .ref a :: st) h := by
  intro H locs lsA hc hv hlc
  have hlt : i.toNatClampNeg < gL h a := Nat.not_le.mp fun q => hi (Or.inr q)
  have h0 : ¬ i < 0 := fun q => hi (Or.inl q)
  have hav : ∀ k, av 4 (sP h a i.toNatClampNeg x) a k = if k = i.toNatClampNeg then va_rf x else av 4 h a k := by
    intro k
    by_cases q : k = i.toNatClampNeg
    · subst q
      simp [av, sP, gP, va_up]
    · simp [av, sP, gP, va_up, q]
  have fin : ∀ H1 : Heap, H1[a]? = some ((arrV (g.2.1 4) (gL h a) (av 4 h a)).setSlot i.toNatClampNeg (va_rf x)) → H1.size = H.size → (∀ q, q ≠ a → H1[q]? = H[q]?) → W p l e (rmD dl mc ms) s m args below meth c H1 (locs ++ [⟨a, i.toNatClampNeg⟩]) kc ks Z (F0 m (pc + 1) lsA st) :=
    fun H1 e z oq => kk H1 _ lsA (hc.setA (by decide) hK ⟨rfl, rfl⟩ rfl rfl sP_off hav e z oq) hv (locs_ok (hc.2.2.1 a (by omega)).1 hlc)
  cases x with
  | none => exact va_WaastN C.1 C.2.1 (C := RX5) (hc.arr (j := 4) (by decide) hK) ((C.2.2.2.2.1.1.2 4 _ rfl).1 _ _) (fun q => by cases q) (by rw [arrV_size]; exact hi) rfl rfl d fin
  | some b =>
    obtain ⟨cellV, g1, g2, g3, -⟩ := (hc.2.2.1 b (by have := hx b rfl; omega)).2.2.1 5 _ rfl (hx b rfl)
    have hcls := (C.2.2.2.2.1.1.1 5 _ rfl).2
    obtain ⟨kA, comp, k1, k2, k3, -⟩ := (C.2.2.2.2.1.1.2 4 _ rfl).2
    have hcomp : comp = g.1.1 5 := Option.some.inj (k3.symm.trans hcls.1)
    subst hcomp
    obtain ⟨kC, hkC, -⟩ := hcls.2
    exact W.aast C.1 C.2.1 (hc.arr (j := 4) (by decide) hK) (fun q h => by cases h) (fun h => by cases h) k1 k2 rfl hkC ⟨h0, by rw [arrV_size]; exact hlt⟩ g1 (fun q h => by rw [g3] at h; cases h) (by rw [g2]; exact hkC) (by rw [g2]; exact va_assign hcls) rfl rfl d fin
theorem v_alen (C : CXT p l s m args meth c own cc nL g) {a : Nat} (j : Nat) (hj : j < 4) (d : decode cc pc = .ok (.arraylength, 1)) (hK : gK h a = 20 + j) (kk : V p l e s m args below meth c g dl mc ms nL kc ks Z (pc + 1) ls (.int (nI (gL h a)) :: st) h) : V p l e s m args below meth c g dl mc ms nL kc ks Z pc ls (.ref a :: st) h := by
  intro H locs lsA hc hv hlc
  have key : ∀ ty, (gT g)[j]? = some (g.2.1 j, ty) → W p l e (rmD dl mc ms) s m args below meth c H locs kc ks Z (F0 m pc lsA (.ref a :: st)) := fun ty ht =>
    W.alen (n := nI (gL h a)) C.1 C.2.1 (hc.arr (j := j) (by omega) hK) ((C.2.2.2.2.1.1.2 j _ ht).1 _ _) (by rw [arrV_size]; rfl) rfl rfl d (kk H locs lsA hc hv hlc)
  rcases (show j = 0 ∨ j = 1 ∨ j = 2 ∨ j = 3 by omega) with rfl | rfl | rfl | rfl
  · exact key _ rfl
  · exact key _ rfl
  · exact key _ rfl
  · exact key _ rfl
-- new
theorem v_new (C : CXT p l s m args meth c own cc nL g) {index ci N : Nat} {r : vw_C} (ty0 : Nat → FieldType) (hr : vwCl[ci]? = some r) (hin : ∀ w ∈ u_ws r.1 r.2.1 r.2.2, w ∈ lw_tbl) (hty : ∀ k, k < r.2.2 → parseFieldDescriptor (r.2.1 k).2.2.1 = some (ty0 k)) (hdf : ∀ k, k < r.2.2 → defaultValue (ty0 k) = if rf ci k = true then .null else .int 0) (hcl : Cond.classLink own index r.1 ∈ lw_tbl) (hinst : Cond.instantiable r.1 N ∈ lw_tbl) (hini : Cond.initialized r.1 ∈ lw_tbl) (hN : r.2.2 = N) (d : decode cc pc = .ok (.new index, 3)) (hkc : kc + 1 ≤ mc) (hks : ks + N ≤ ms)
    (kk : ∀ a : Nat, gK h a = 0 → V p l e s m args below meth c g dl mc ms nL (kc + 1) (ks + N) Z (pc + 3) ls (.ref a :: st) (nO h a ci)) : V p l e s m args below meth c g dl mc ms nL kc ks Z pc ls st h := by
  intro H locs lsA hc hv hlc
  have hts : ∀ w ∈ u_ws r.1 r.2.1 r.2.2, w.before args s = true := fun w hw => cx_w C (hin w hw) (okW_ws w hw)
  have hKn := C.2.2.2.2.1.1.1 ci _ hr
  refine W.newcK C.1 C.2.1 C.2.2.2.1 (cx_w C hcl rfl) (cx_w C hinst rfl) (cx_w C hini rfl) rfl d hkc hks hKn.2.1 rfl fun H1 kC hkC e1 z1 o1 => ?_
  have hlt : ci < 13 := by
    have := (List.getElem?_eq_some_iff.mp hr).1
    simpa [vwCl] using this
  refine kk H.size hc.fresh H1 locs lsA (hc.new ⟨rfl, rfl⟩ z1 o1 (fun b hb => by simp [nO, gK, gL, gI, gP, gJ, va_up, hb]) (fun ci2 r2 hr2 hc2 => ?_) (fun j hj hc2 => ?_)) hv hlc
  · have : ci2 = ci := by simp [nO, gK, va_up] at hc2; omega
    subst this
    have : r2 = r := Option.some.inj (hr2.symm.trans hr)
    subst this
    refine (u_born ty0 hts (fun w hw => hw) hKn hkC e1 hty).to (fun k hk => ?_)
    rw [hdf k hk]
    simp [fv, nO, gI, gP, va_up, va_rf]
  · simp [nO, gK, va_up] at hc2
    omega
theorem v_newa (C : CXT p l s m args meth c own cc nL g) {j N : Nat} {atype : ArrayType} {n : Int32} {ty : FieldType} (hty : newarray.typeOf atype = ty) (hj : (gT g)[j]? = some (g.2.1 j, ty)) (hjj : j < 4) (hra : va_RA s (g.2.1 j) ty = (s.vm.findClass ("[" ++ ty.toString) = some (g.2.1 j))) (hdf : defaultValue ty = if j = 3 then .long 0 else .int 0) (hw : Cond.arrayClass ty ∈ lw_tbl) (d : decode cc pc = .ok (.newarray atype, 2)) (hn : ¬ n < 0) (hN : n.toNatClampNeg = N) (hb : N * componentBytes ty ≤ 536870912) (hkc : kc + 1 ≤ mc) (hks : ks + N ≤ ms)
    (kk : ∀ a : Nat, gK h a = 0 → V p l e s m args below meth c g dl mc ms nL (kc + 1) (ks + N) Z (pc + 2) ls (.ref a :: st) (nA h a j N)) : V p l e s m args below meth c g dl mc ms nL kc ks Z pc ls (.int n :: st) h := by
  intro H locs lsA hc hv hlc
  subst hty
  refine va_newaK C.1 C.2.1 (cx_w C hw rfl) rfl d rfl hn hN hb hkc hks rfl fun H1 cA e1 z1 o1 hAr hNm => ?_
  have hcA : cA = g.2.1 j := by
    have h2 := (C.2.2.2.2.1.1.2 j _ hj).2
    rw [hra] at h2
    exact Option.some.inj (hNm.symm.trans h2)
  subst hcA
  refine kk H.size hc.fresh H1 locs lsA (hc.new ⟨rfl, rfl⟩ z1 o1 (fun b hb => by simp [nA, gK, gL, gI, gP, gJ, va_up, hb]) (fun ci2 r2 hr2 hc2 => ?_) (fun i hi hc2 => ?_)) hv hlc
  · have hlt : ci2 < 13 := by
      have := (List.getElem?_eq_some_iff.mp hr2).1
      simpa [vwCl] using this
    simp [nA, gK, va_up] at hc2
    omega
  · have : i = j := by simp [nA, gK, va_up] at hc2; omega
    subst this
    rw [e1]
    simp only [hdf]
    rw [show gL (nA h H.size i N) H.size = N by simp [nA, gL, va_up]]
    congr 2
    funext k
    by_cases q : i = 3
    · simp [av, nA, gJ, va_up, q]
    · have q4 : i ≠ 4 := by omega
      simp [av, nA, gI, va_up, q, q4]
theorem v_newq (C : CXT p l s m args meth c own cc nL g) {index N : Nat} {n : Int32} (hcl : Cond.classLink own index RX5 ∈ lw_tbl) (d : decode cc pc = .ok (.anewarray index, 3)) (hn : ¬ n < 0) (hN : n.toNatClampNeg = N) (hb : N * 4 ≤ 536870912) (hkc : kc + 1 ≤ mc) (hks : ks + N ≤ ms)
    (kk : ∀ a : Nat, gK h a = 0 → V p l e s m args below meth c g dl mc ms nL (kc + 1) (ks + N) Z (pc + 3) ls (.ref a :: st) (nA h a 4 N)) : V p l e s m args below meth c g dl mc ms nL kc ks Z pc ls (.int n :: st) h := by
  intro H locs lsA hc hv hlc
  subst hN
  refine W.anew C.1 C.2.1 C.2.2.2.1 (cx_w C hcl rfl) (va_AO.use C.2.2.2.2.1.2.2.2.2.2.1) rfl d rfl hn hb hkc hks fun cA kA comp f1 f2 f3 f4 => ?_
  generalize hH1 : H.push ({ cls := cA, slots := Array.replicate n.toNatClampNeg .null, vm := .none } : Cell) = H1
  have z1 : H1.size = H.size + 1 := by rw [← hH1, Array.size_push]
  have e1 : H1[H.size]? = some (arrV cA n.toNatClampNeg (fun _ => .null)) := by rw [← hH1, Array.getElem?_push_size, ← arrV_new]
  have o1 : ∀ q : Nat, q < H.size → H1[q]? = H[q]? := fun q hq => by rw [← hH1, Array.getElem?_push, if_neg (Nat.ne_of_lt hq)]
  have hcA : cA = g.2.1 4 := by
    obtain ⟨kA', comp', k1, k2, k3, k4⟩ := (C.2.2.2.2.1.1.2 4 _ rfl).2
    first | exact Option.some.inj (f1.symm.trans k4) | exact Option.some.inj (f4.symm.trans k4)
  subst hcA
  refine kk H.size hc.fresh H1 locs lsA (hc.new ⟨rfl, rfl⟩ z1 o1 (fun b hb => by simp [nA, gK, gL, gI, gP, gJ, va_up, hb]) (fun ci2 r2 hr2 hc2 => ?_) (fun i hi hc2 => ?_)) hv hlc
  · have hlt : ci2 < 13 := by
      have := (List.getElem?_eq_some_iff.mp hr2).1
      simpa [vwCl] using this
    simp [nA, gK, va_up] at hc2
    omega
  · have : i = 4 := by simp [nA, gK, va_up] at hc2; omega
    subst this
    rw [e1, show gL (nA h H.size 4 n.toNatClampNeg) H.size = n.toNatClampNeg by simp [nA, gL, va_up]]
    congr 2
    funext k
    simp [av, nA, gP, va_up, va_rf]
end ROWS
