section TEXTS
variable {p : Program} {l : Launch} {e : Env} {s : State} {m : MethodId} {args : Array Value} {below : List Frame} {meth : Method} {c : Code} {g : GG} {dl mc ms nL kc ks : Nat} {Z : State → Prop} {own : String} {cc : ByteArray} {pc : Nat} {ls : List (Nat × Value)} {st stk : List Value} {h : AH}
theorem v_vaS (C : CXT p l s m args meth c own cc nL g) {H : Heap} {locs : List Loc} (hc : HC g h H) (hlc : ∀ q ∈ locs, gA g q.base) {T : State} (hT : T.heap = H) (X : Stand p l e (rmD dl mc ms) s m args below meth c T locs kc ks) : va_S (gA g) s.heap H locs := by
  refine ⟨?_, fun q hq hn => ?_, hlc⟩
  · have h9 := (vx_frame (U := T) X.same).1
    rw [hT] at h9
    exact h9
  · have h3 : q < g.2.2.1.size := Nat.not_le.mp hn
    rw [hc.2.1 q h3, C.2.2.2.2.2.2.2.2 q h3]
/-- a text constant -/
def sc (h : AH) (i : Nat) (K : Nat → Prop) : Prop := ∀ a, gS h a = some i → K a
def fS (h : AH) (a : Nat) (K : Nat → Prop) : Prop := ∃ i, gS h a = some i ∧ ∀ b, gV h b = some i → K b
def fC (h : AH) (a : Nat) (K : Int32 → Prop) : Prop := (∃ i, gS h a = some i) ∧ K 0
def aS (h : AH) (b : Nat) (j : Int32) (K : Int32 → Prop) : Prop := ∃ i, gV h b = some i ∧ vp_in j (strL.getD i 0) ∧ K ((strB.getD i []).getD j.toNatClampNeg 0)
def lS (h : AH) (b : Nat) (K : Int32 → Prop) : Prop := ∃ i, gV h b = some i ∧ K (nI (strL.getD i 0))
def vS (h : AH) (a : Nat) (K : Prop) : Prop := (∃ i, gS h a = some i) ∧ K
theorem w_ldcS (C : CXT p l s m args meth c own cc nL g) {index i : Nat} {tx : String} {K : Nat → Prop} (hstr : (own, index, tx, i) ∈ strT) (hi : i < 34) (d : decode cc pc = .ok (.ldc index, 2)) (hw : sc h i K) (kk : ∀ a, K a → V p l e s m args below meth c g dl mc ms nL kc ks Z (pc + 2) ls (.ref a :: st) h) : V p l e s m args below meth c g dl mc ms nL kc ks Z pc ls st h := by
  intro H locs lsA hc hv hlc
  exact va_ldcS C.1 C.2.1 C.2.2.2.1 (C.2.2.2.2.1.2.2.2.1 _ hstr) d (kk _ (hw _ (hc.2.2.2.1 i hi).1) H locs lsA hc hv hlc)
theorem w_getSv (C : CXT p l s m args meth c own cc nL g) {index a : Nat} {K : Nat → Prop} (hl : Cond.fieldLink own index "java/lang/String" "value" "[B" ∈ lw_tbl) (d : decode cc pc = .ok (.getfield index, 3)) (hw : fS h a K) (kk : ∀ b, K b → V p l e s m args below meth c g dl mc ms nL kc ks Z (pc + 3) ls (.ref b :: st) h) : V p l e s m args below meth c g dl mc ms nL kc ks Z pc ls (.ref a :: st) h := by
  obtain ⟨i, h1, hw⟩ := hw
  intro H locs lsA hc hv hlc T hT X
  obtain ⟨hi, rfl⟩ := hc.2.2.2.2.1 a i h1
  exact vk_getf C.1 C.2.1 (C.2.2.2.2.1.2.2.2.2.1.1 i hi).2.2.1 (v_vaS C hc hlc hT X) C.2.2.2.1 (cx_w C hl rfl) (fun _ h9 => h9) d (kk _ (hw _ (hc.2.2.2.1 i hi).2) H locs lsA hc hv hlc) T hT X
theorem w_getSc (C : CXT p l s m args meth c own cc nL g) {index a : Nat} {K : Int32 → Prop} (hl : Cond.fieldLink own index "java/lang/String" "coder" "B" ∈ lw_tbl) (d : decode cc pc = .ok (.getfield index, 3)) (hw : fC h a K) (kk : ∀ x, K x → V p l e s m args below meth c g dl mc ms nL kc ks Z (pc + 3) ls (.int x :: st) h) : V p l e s m args below meth c g dl mc ms nL kc ks Z pc ls (.ref a :: st) h := by
  obtain ⟨⟨i, h1⟩, hw⟩ := hw
  intro H locs lsA hc hv hlc T hT X
  obtain ⟨hi, rfl⟩ := hc.2.2.2.2.1 a i h1
  exact vk_getf C.1 C.2.1 (C.2.2.2.2.1.2.2.2.2.1.1 i hi).2.1 (v_vaS C hc hlc hT X) C.2.2.2.1 (cx_w C hl rfl) (fun _ h9 => h9) d (kk _ hw H locs lsA hc hv hlc) T hT X
theorem w_baloadS (C : CXT p l s m args meth c own cc nL g) {b : Nat} {j : Int32} {K : Int32 → Prop} (d : decode cc pc = .ok (.baload, 1)) (hw : aS h b j K) (kk : ∀ x, K x → V p l e s m args below meth c g dl mc ms nL kc ks Z (pc + 1) ls (.int x :: st) h) : V p l e s m args below meth c g dl mc ms nL kc ks Z pc ls (.int j :: .ref b :: st) h := by
  obtain ⟨i, h1, h2, hw⟩ := hw
  intro H locs lsA hc hv hlc T hT X
  obtain ⟨hi, rfl⟩ := hc.2.2.2.2.2 b i h1
  exact va_tb C.1 C.2.1 (C.2.2.2.2.1.2.2.2.2.1.1 i hi).2.2.2 (v_vaS C hc hlc hT X) h2 rfl d (kk _ hw H locs lsA hc hv hlc) T hT X
theorem w_alenS (C : CXT p l s m args meth c own cc nL g) {b : Nat} {K : Int32 → Prop} (d : decode cc pc = .ok (.arraylength, 1)) (hw : lS h b K) (kk : ∀ x, K x → V p l e s m args below meth c g dl mc ms nL kc ks Z (pc + 1) ls (.int x :: st) h) : V p l e s m args below meth c g dl mc ms nL kc ks Z pc ls (.ref b :: st) h := by
  obtain ⟨i, h1, hw⟩ := hw
  intro H locs lsA hc hv hlc T hT X
  obtain ⟨hi, rfl⟩ := hc.2.2.2.2.2 b i h1
  exact va_tlen C.1 C.2.1 (C.2.2.2.2.1.2.2.2.2.1.1 i hi).2.2.2 (v_vaS C hc hlc hT X) rfl d (kk _ hw H locs lsA hc hv hlc) T hT X
theorem v_compact (C : CXT p l s m args meth c own cc nL g) {index : Nat} (hl : Cond.fieldLink own index "java/lang/String" "COMPACT_STRINGS" "Z" ∈ lw_tbl) (d : decode cc pc = .ok (.getstatic index, 3)) (kk : V p l e s m args below meth c g dl mc ms nL kc ks Z (pc + 3) ls (.int 1 :: st) h) : V p l e s m args below meth c g dl mc ms nL kc ks Z pc ls st h := by
  intro H locs lsA hc hv hlc T hT X
  exact va_gets C.1 C.2.1 C.2.2.2.2.1.2.2.2.2.2.2.2.1 (v_vaS C hc hlc hT X) C.2.2.2.1 (cx_w C hl rfl) (fun _ h9 => h9) d (kk H locs lsA hc hv hlc) T hT X
theorem v_siob (C : CXT p l s m args meth c own cc nL g) {index : Nat} (hl : Cond.fieldLink own index "jdk/internal/util/Preconditions" "SIOOBE_FORMATTER" "Ljava/util/function/BiFunction;" ∈ lw_tbl) (d : decode cc pc = .ok (.getstatic index, 3)) (kk : ∀ r : Option Nat, V p l e s m args below meth c g dl mc ms nL kc ks Z (pc + 3) ls (va_rf r :: st) h) : V p l e s m args below meth c g dl mc ms nL kc ks Z pc ls st h := by
  intro H locs lsA hc hv hlc T hT X
  rcases C.2.2.2.2.1.2.2.2.2.2.2.2.2 with hz | ⟨t, hz⟩
  · exact va_gets C.1 C.2.1 hz (v_vaS C hc hlc hT X) C.2.2.2.1 (cx_w C hl rfl) (fun _ h9 => h9) d (kk none H locs lsA hc hv hlc) T hT X
  · exact va_gets C.1 C.2.1 hz (v_vaS C hc hlc hT X) C.2.2.2.1 (cx_w C hl rfl) (fun _ h9 => h9) d (kk (some t) H locs lsA hc hv hlc) T hT X
theorem v_callVS (C : CXT p l s m args meth c own cc nL g) {index b : Nat} {y : MethodName} {cc' : ByteArray} {nL' n dl' mc' ms' : Nat} {ret : Option FieldType} {As : List Value} {K : Int32 → AH → Prop} (F : CLk own index y cc' nL' ret n) (hlk : Cond.methodLink own index y ∈ lw_tbl) (hi0 : Cond.instanceMethod y ∈ lw_tbl) (hsel : Cond.selects "java/lang/String" y y ∈ lw_tbl) (hK : ∃ i, gS h b = some i) (hM : CT l y cc' nL' ret dl' mc' ms' (.ref b :: As) h (QI K)) (hs : stk = As.reverse ++ .ref b :: st) (d : decode cc pc = .ok (.invokevirtual index, 3)) (hlen : As.length = n) (hcat : (st.map fun v => v.category).sum ≤ 8) (hd : dl' + 1 ≤ dl) (hn : nL' ≤ 61) (hkc : kc + mc' ≤ mc) (hks : ks + ms' ≤ ms)
    (kk : ∀ (r9 : Int32) (h : AH), K r9 h → V p l e s m args below meth c g dl mc ms nL (kc + mc') (ks + ms') Z (pc + 3) ls (.int r9 :: st) h) : V p l e s m args below meth c g dl mc ms nL kc ks Z pc ls stk h := by
  intro H locs lsA hc hv hlc T hT X
  obtain ⟨-, hcd, hini, y1, y2, y3⟩ := F
  obtain ⟨i, h1⟩ := hK
  obtain ⟨hi, rfl⟩ := hc.2.2.2.2.1 b i h1
  have hrc := vk_recv C.2.2.2.2.1.2.2.2.2.1 hi (v_vaS C hc hlc hT X)
  have hp : PreV s H "java/lang/String" (g.2.2.2.1 i) (PCx g (.ref (g.2.2.2.1 i) :: As) h) As := ⟨pcx_blind, hrc, fun U hU hW => ⟨rfl, kv_at C hc hU hW, by rw [hU]; exact hc⟩⟩
  have key : W p l e (rmD dl mc ms) s m args below meth c H locs kc ks Z (F0 m pc lsA stk) := by
    refine v_run (fun q hq => hq) hlc (va_runV (Ts := []) (n := n) ⟨C.1, C.2.1, C.2.2.1, C.2.2.2.1, fun _ h => by cases h⟩ (hM g C.2.2.2.2.2.2.1) ⟨⟨rfl, rfl, hd, rm_loc hd hn, ws_ok C hcd, List.mem_singleton.mpr rfl, cx_w C hcd rfl, cx_w C hini rfl, ⟨y1, y2⟩, clk_n y3, cx_w C hlk rfl⟩, cx_w C hi0 rfl, cx_w C hsel rfl⟩ hp rfl hlen hv.1.1 hs (cat8 hcat) d ⟨hkc, hks⟩) (fun v h' H' locs' hq hh hlc' => ?_)
    obtain ⟨r9, rfl, hq⟩ := hq
    exact kk r9 h' hq H' locs' lsA hh hv hlc'
  exact key T hT X
end TEXTS
