/-- the abstract heap: kind of each address (0: none; 1 + class; 20 + sort of array), lengths, ints, references, longs, and which text (its bytes) lies at an address -/
abbrev AH : Type := (Nat → Nat) × (Nat → Nat) × (Nat → Nat → Int32) × (Nat → Nat → Option Nat) × (Nat → Nat → Int64) × (Nat → Option Nat) × (Nat → Option Nat)
def gK (h : AH) : Nat → Nat := h.1
def gL (h : AH) : Nat → Nat := h.2.1
def gI (h : AH) : Nat → Nat → Int32 := h.2.2.1
def gP (h : AH) : Nat → Nat → Option Nat := h.2.2.2.1
def gJ (h : AH) : Nat → Nat → Int64 := h.2.2.2.2.1
def gS (h : AH) : Nat → Option Nat := h.2.2.2.2.2.1
def gV (h : AH) : Nat → Option Nat := h.2.2.2.2.2.2
def sI (h : AH) (a k : Nat) (v : Int32) : AH := (h.1, h.2.1, va_up h.2.2.1 a (va_up (h.2.2.1 a) k v), h.2.2.2.1, h.2.2.2.2)
def sP (h : AH) (a k : Nat) (v : Option Nat) : AH := (h.1, h.2.1, h.2.2.1, va_up h.2.2.2.1 a (va_up (h.2.2.2.1 a) k v), h.2.2.2.2)
def sJ (h : AH) (a k : Nat) (v : Int64) : AH := (h.1, h.2.1, h.2.2.1, h.2.2.2.1, va_up h.2.2.2.2.1 a (va_up (h.2.2.2.2.1 a) k v), h.2.2.2.2.2)
/-- a row of ints written over -/
def sR (h : AH) (a : Nat) (f : Nat → Int32) : AH := (h.1, h.2.1, va_up h.2.2.1 a f, h.2.2.2.1, h.2.2.2.2)
def nO (h : AH) (a ci : Nat) : AH := (va_up h.1 a (ci + 1), h.2.1, va_up h.2.2.1 a (fun _ => 0), va_up h.2.2.2.1 a (fun _ => none), h.2.2.2.2)
def nA (h : AH) (a j n : Nat) : AH := (va_up h.1 a (20 + j), va_up h.2.1 a n, va_up h.2.2.1 a (fun _ => 0), va_up h.2.2.2.1 a (fun _ => none), va_up h.2.2.2.2.1 a (fun _ => 0), h.2.2.2.2.2)
/-- which fields hold references, by class and place -/
def rfT : List (List Bool) := [[true, true], [false, true, true, true, true, true, true, false, false, false], [false, true, true, true, true], [true], [false, true, true, true, true, true, true], [true, true, false], [true, false, false, true, true, false, false, false, true, false], [true, true, true, true, true, true, false, true, true, false, false, false, false], [true, true, true, true, true, true, false, true, true], [false, true, true, true, true, false, true, true, true], [false, true, true, true, true, true, true, true, false], [true, true, true, true, true, true], [false, true, true, false, true, false, false, false, false, false, false, true, false, false, true, false, false, false, true, true, false, true, true, true, false, true, false, true]]
def rf (ci k : Nat) : Bool := (rfT.getD ci []).getD k false
def fv (ci : Nat) (h : AH) (a k : Nat) : Value := if rf ci k = true then va_rf (gP h a k) else .int (gI h a k)
def av (j : Nat) (h : AH) (a k : Nat) : Value := if j = 3 then .long (gJ h a k) else if j = 4 then va_rf (gP h a k) else .int (gI h a k)
/-- what stays through a run: the tables' numbers, the arrays' classes, the heap at the law's start, the places of the texts -/
abbrev GG : Type := va_G × (Nat → ClassId) × Heap × (Nat → Nat) × (Nat → Nat)
def gA (g : GG) : Nat → Prop := fun q => g.2.2.1.size ≤ q
def gT (g : GG) : List (ClassId × FieldType) := [(g.2.1 0, .int), (g.2.1 1, .byte), (g.2.1 2, .boolean), (g.2.1 3, .long), (g.2.1 4, .object RX5)]

/-- which texts lie where -/
def HS (g : GG) (h : AH) : Prop := (∀ i : Nat, i < 34 → gS h (g.2.2.2.1 i) = some i ∧ gV h (g.2.2.2.2 i) = some i) ∧ (∀ a i : Nat, gS h a = some i → i < 34 ∧ a = g.2.2.2.1 i) ∧ ∀ a i : Nat, gV h a = some i → i < 34 ∧ a = g.2.2.2.2 i
def HC (g : GG) (h : AH) (H : Heap) : Prop := g.2.2.1.size ≤ H.size ∧ (∀ q : Nat, q < g.2.2.1.size → H[q]? = g.2.2.1[q]?) ∧ (∀ a : Nat, gK h a ≠ 0 → g.2.2.1.size ≤ a ∧ a < H.size ∧ (∀ (ci : Nat) (r : vw_C), vwCl[ci]? = some r → gK h a = ci + 1 → t_OB a (g.1.1 ci) r.2.2 (g.1.2 ci) H (fv ci h a)) ∧ ∀ j : Nat, j < 5 → gK h a = 20 + j → H[a]? = some (arrV (g.2.1 j) (gL h a) (av j h a))) ∧ HS g h
def okW : Cond → Bool
  | .fieldLinkNest _ _ _ _ _ _ => true
  | .methodLinkNest _ _ _ _ => true
  | .castable _ _ => true
  | .declares _ => true
  | w => goodWord w
/-- the texts: class, pool entry, text, which text -/
def strT : List (String × Nat × String × Nat) := [("GrassField", 377, "there is none of this number", 0), ("GrassField", 382, "this cannot be told so", 1), ("GrassField", 387, "there are as many as there may be", 2), ("GrassField$Reader", 117, "shoot flee join hold drop if and or not foes friends fear minute height rounds far armed alone cases balls bones later guns fits heaps held ", 3), ("GrassField$Reader", 109, "()*+;<>", 4), ("GrassField", 163, "nothing else is known of a person", 5), ("GrassField", 215, "nothing else is known of a find", 6), ("GrassField", 390, "nothing else is known here", 7), ("GrassFieldModel", 208, "not", 8), ("GrassFieldModel", 199, "held", 9), ("GrassFieldModel", 201, "armed", 10), ("GrassFieldModel", 203, "alone", 11), ("GrassFieldModel", 154, "cases", 12), ("GrassFieldModel", 156, "balls", 13), ("GrassFieldModel", 158, "bones", 14), ("GrassFieldModel", 159, "later", 15), ("GrassFieldModel", 161, "guns", 16), ("GrassFieldModel", 163, "fits", 17), ("GrassFieldModel", 165, "heaps", 18), ("GrassFieldModel", 167, "foes", 19), ("GrassFieldModel", 169, "friends", 20), ("GrassFieldModel", 171, "fear", 21), ("GrassFieldModel", 173, "minute", 22), ("GrassFieldModel", 175, "height", 23), ("GrassFieldModel", 177, "rounds", 24), ("GrassFieldModel", 179, "far", 25), ("GrassFieldModel", 222, "and", 26), ("GrassFieldModel", 227, "or", 27), ("GrassFieldModel", 232, "shoot", 28), ("GrassFieldModel", 234, "flee", 29), ("GrassFieldModel", 236, "join", 30), ("GrassFieldModel", 238, "hold", 31), ("GrassFieldModel", 240, "drop", 32), ("GrassFieldModel", 242, "if", 33)]
def strL : List Nat := [28, 22, 33, 140, 7, 33, 31, 26, 3, 4, 5, 5, 5, 5, 5, 5, 4, 4, 5, 4, 7, 4, 6, 6, 6, 3, 3, 2, 5, 4, 4, 4, 4, 2]
def strB : List (List Int32) := [[116, 104, 101, 114, 101, 32, 105, 115, 32, 110, 111, 110, 101, 32, 111, 102, 32, 116, 104, 105, 115, 32, 110, 117, 109, 98, 101, 114], [116, 104, 105, 115, 32, 99, 97, 110, 110, 111, 116, 32, 98, 101, 32, 116, 111, 108, 100, 32, 115, 111], [116, 104, 101, 114, 101, 32, 97, 114, 101, 32, 97, 115, 32, 109, 97, 110, 121, 32, 97, 115, 32, 116, 104, 101, 114, 101, 32, 109, 97, 121, 32, 98, 101], [115, 104, 111, 111, 116, 32, 102, 108, 101, 101, 32, 106, 111, 105, 110, 32, 104, 111, 108, 100, 32, 100, 114, 111, 112, 32, 105, 102, 32, 97, 110, 100, 32, 111, 114, 32, 110, 111, 116, 32, 102, 111, 101, 115, 32, 102, 114, 105, 101, 110, 100, 115, 32, 102, 101, 97, 114, 32, 109, 105, 110, 117, 116, 101, 32, 104, 101, 105, 103, 104, 116, 32, 114, 111, 117, 110, 100, 115, 32, 102, 97, 114, 32, 97, 114, 109, 101, 100, 32, 97, 108, 111, 110, 101, 32, 99, 97, 115, 101, 115, 32, 98, 97, 108, 108, 115, 32, 98, 111, 110, 101, 115, 32, 108, 97, 116, 101, 114, 32, 103, 117, 110, 115, 32, 102, 105, 116, 115, 32, 104, 101, 97, 112, 115, 32, 104, 101, 108, 100, 32], [40, 41, 42, 43, 59, 60, 62], [110, 111, 116, 104, 105, 110, 103, 32, 101, 108, 115, 101, 32, 105, 115, 32, 107, 110, 111, 119, 110, 32, 111, 102, 32, 97, 32, 112, 101, 114, 115, 111, 110], [110, 111, 116, 104, 105, 110, 103, 32, 101, 108, 115, 101, 32, 105, 115, 32, 107, 110, 111, 119, 110, 32, 111, 102, 32, 97, 32, 102, 105, 110, 100], [110, 111, 116, 104, 105, 110, 103, 32, 101, 108, 115, 101, 32, 105, 115, 32, 107, 110, 111, 119, 110, 32, 104, 101, 114, 101], [110, 111, 116], [104, 101, 108, 100], [97, 114, 109, 101, 100], [97, 108, 111, 110, 101], [99, 97, 115, 101, 115], [98, 97, 108, 108, 115], [98, 111, 110, 101, 115], [108, 97, 116, 101, 114], [103, 117, 110, 115], [102, 105, 116, 115], [104, 101, 97, 112, 115], [102, 111, 101, 115], [102, 114, 105, 101, 110, 100, 115], [102, 101, 97, 114], [109, 105, 110, 117, 116, 101], [104, 101, 105, 103, 104, 116], [114, 111, 117, 110, 100, 115], [102, 97, 114], [97, 110, 100], [111, 114], [115, 104, 111, 111, 116], [102, 108, 101, 101], [106, 111, 105, 110], [104, 111, 108, 100], [100, 114, 111, 112], [105, 102]]
def ncT : List (String × String) := [("java/lang/IndexOutOfBoundsException", "java/lang/IllegalArgumentException"), ("java/lang/IndexOutOfBoundsException", "java/lang/UnsupportedOperationException"), ("java/lang/IndexOutOfBoundsException", "java/util/NoSuchElementException"), ("java/lang/IllegalArgumentException", "java/lang/IndexOutOfBoundsException"), ("java/lang/IllegalArgumentException", "java/lang/UnsupportedOperationException"), ("java/lang/IllegalArgumentException", "java/util/NoSuchElementException"), ("java/lang/UnsupportedOperationException", "java/lang/IndexOutOfBoundsException"), ("java/lang/UnsupportedOperationException", "java/lang/IllegalArgumentException"), ("java/lang/UnsupportedOperationException", "java/util/NoSuchElementException"), ("java/util/NoSuchElementException", "java/lang/IndexOutOfBoundsException"), ("java/util/NoSuchElementException", "java/lang/IllegalArgumentException"), ("java/util/NoSuchElementException", "java/lang/UnsupportedOperationException")]
/-- what the tables, the statics and the texts say, at a state U with heap H -/
def KV (g : GG) (U : State) (H : Heap) : Prop := va_K g.1 vwCl (gT g) U ∧ (∀ w ∈ lw_tbl, okW w = true → w.before #[] U = true) ∧ (vx_Zq Bundle.tN "UNASSIGNED_STACK" Bundle.steD (gA g) U H ∧ vx_Zq Bundle.tN "SUPPRESSED_SENTINEL" Bundle.listD (gA g) U H) ∧ (∀ q ∈ strT, vk_R q.1 q.2.1 q.2.2.1 (g.2.2.2.1 q.2.2.2) U) ∧ vk_S 34 strL strB g.2.2.2.1 g.2.2.2.2 (gA g) U H ∧ va_AO RX5 U ∧ (∀ q ∈ ncT, va_Nc q.1 q.2 U) ∧ va_Z "java/lang/String" "COMPACT_STRINGS" "Z" (.int 1) (gA g) U H ∧ va_Zq "jdk/internal/util/Preconditions" "SIOOBE_FORMATTER" "Ljava/util/function/BiFunction;" (gA g) U H
theorem okW_at {w : Cond} {s U : State} {A : Array Value} (hW : s.WarmedH U.vm) (ho : okW w = true) (h : w.before #[] s = true) : w.before A U = true := by
  unfold okW at ho
  split at ho
  · exact va_Nw.use rfl (va_Nw.warmF hW h)
  · exact va_Nw.use rfl (va_Nw.warmM hW h)
  · exact va_Nw.use rfl (va_Nw.warmC hW h)
  · exact va_Nw.use rfl (va_Nw.warmD hW h)
  · exact word_at hW (good_of_word ho) h
theorem KV.moved {g : GG} {s U : State} {H H1 : Heap} (hW : s.WarmedH U.vm) (hH : ∀ q : Nat, q < H.size → ¬ gA g q → H1[q]? = H[q]?) (h : KV g s H) : KV g U H1 := by
  obtain ⟨h1, h2, ⟨h3, h4⟩, h5, h6, h7, h8, h9, h10⟩ := h
  exact ⟨h1.moved hW.alike, fun w hw ho => okW_at hW ho (h2 w hw ho), ⟨(h3.kept hH).moved hW.alike, (h4.kept hH).moved hW.alike⟩, fun q hq => (h5 q hq).warm hW, (h6.kept hH).moved hW.alike, h7.moved hW.alike, fun q hq => (h8 q hq).moved hW.alike, va_Z.moved hW.alike (h9.kept hH), va_Zq.moved hW.alike (va_Zq.kept h10 hH)⟩
/-- the room of a method that calls at most d deep -/
def rmD (d mc ms : Nat) : Room := { frames := d, cells := mc, slots := ms, locals := 80 * d }
def LV (lsA : Array Slot) (nL : Nat) (ls : List (Nat × Value)) : Prop := lv_has lsA nL ls ∧ ∀ q ∈ ls, q.2.category = 1
/-- what a walk of a method has in hand -/
def CXT (p : Program) (l : Launch) (s : State) (m : MethodId) (args : Array Value) (meth : Method) (c : Code) (own : String) (cc : ByteArray) (nL : Nat) (g : GG) : Prop :=
  p.tables.exec = Jvm.exec ∧ c.code = cc ∧ c.maxLocals = nL ∧ s.vm.findClass own = some m.cls ∧ KV g s s.heap ∧ meth.locks = false ∧ l.stackTraces = false ∧ g.2.2.1.size ≤ s.heap.size ∧ (∀ q : Nat, q < g.2.2.1.size → s.heap[q]? = g.2.2.1[q]?)
/-- the walk's judgement, over the abstract heap -/
def V (p : Program) (l : Launch) (e : Env) (s : State) (m : MethodId) (args : Array Value) (below : List Frame) (meth : Method) (c : Code) (g : GG) (dl mc ms nL kc ks : Nat) (Z : State → Prop) (pc : Nat) (ls : List (Nat × Value)) (st : List Value) (h : AH) : Prop :=
  ∀ (H : Heap) (locs : List Loc) (lsA : Array Slot), HC g h H → LV lsA nL ls → (∀ q ∈ locs, gA g q.base) → W p l e (rmD dl mc ms) s m args below meth c H locs kc ks Z (F0 m pc lsA st)
/-- contracts: of a method that returns; of one that returns or throws -/
def CT (l : Launch) (y : MethodName) (cc : ByteArray) (nL : Nat) (ret : Option FieldType) (dl mc ms : Nat) (As : List Value) (h : AH) (Q : Option Value → AH → Prop) : Prop :=
  ∀ g : GG, l.stackTraces = false → Met l y [.code y cc nL ret] (rmD dl mc ms) (va_Pc As (fun U => KV g U U.heap ∧ HC g h U.heap)) (fun _ _ o t => ∃ (v : Option Value) (h' : AH), o = .returned v ∧ Q v h' ∧ HC g h' t.heap) mc ms (gA g)
def CX (l : Launch) (y : MethodName) (cc : ByteArray) (nL : Nat) (ret : Option FieldType) (dl mc ms : Nat) (As : List Value) (h : AH) (Q : Option Value → AH → Prop) (X : String → AH → Prop) : Prop :=
  ∀ g : GG, l.stackTraces = false → vx_Met l y [.code y cc nL ret] (rmD dl mc ms) (va_Pc As (fun U => KV g U U.heap ∧ HC g h U.heap)) (fun _ _ o t => ∃ (v : Option Value) (h' : AH), o = .returned v ∧ Q v h' ∧ HC g h' t.heap) (fun E _ t => ∃ h' : AH, X E h' ∧ HC g h' t.heap) mc ms (gA g)
def jrem (x y : Int32) : Int32 := x - x / y * y
def jmax (x y : Int32) : Int32 := if x < y then y else x
def jmin (x y : Int32) : Int32 := if y < x then y else x
def jabs (x : Int32) : Int32 := if 0 ≤ x then x else 0 - x
