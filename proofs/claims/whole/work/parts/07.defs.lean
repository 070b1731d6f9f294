/-! the words in which a method is told: each is a demand on what follows -/
def br (c A B : Prop) : Prop := (c → A) ∧ (¬ c → B)
def bd {α : Type} (v : α) (K : α → Prop) : Prop := K v
def fI (h : AH) (a ci k : Nat) (K : Int32 → Prop) : Prop := gK h a = ci + 1 ∧ K (gI h a k)
def fN (h : AH) (a ci k : Nat) (K : Nat → Prop) : Prop := gK h a = ci + 1 ∧ ∃ b, gP h a k = some b ∧ K b
def fO (h : AH) (a ci k : Nat) (K : Option Nat → Prop) : Prop := gK h a = ci + 1 ∧ K (gP h a k)
def nn (r : Option Nat) (K : Nat → Prop) : Prop := ∃ b, r = some b ∧ K b
def uI (h : AH) (a ci k : Nat) (v : Int32) (K : AH → Prop) : Prop := gK h a = ci + 1 ∧ K (sI h a k v)
def uZ (h : AH) (a ci k : Nat) (v : Int32) (K : AH → Prop) : Prop := gK h a = ci + 1 ∧ (v = 0 ∨ v = 1) ∧ K (sI h a k v)
def uO (h : AH) (a ci k : Nat) (v : Option Nat) (K : AH → Prop) : Prop := gK h a = ci + 1 ∧ K (sP h a k v)
def aI (h : AH) (a : Nat) (i : Int32) (K : Int32 → Prop) : Prop := gK h a = 20 ∧ vp_in i (gL h a) ∧ K (gI h a i.toNatClampNeg)
def aB (h : AH) (a : Nat) (i : Int32) (K : Int32 → Prop) : Prop := gK h a = 21 ∧ vp_in i (gL h a) ∧ K (gI h a i.toNatClampNeg)
def aZ (h : AH) (a : Nat) (i : Int32) (K : Int32 → Prop) : Prop := gK h a = 22 ∧ vp_in i (gL h a) ∧ K (gI h a i.toNatClampNeg)
def aJ (h : AH) (a : Nat) (i : Int32) (K : Int64 → Prop) : Prop := gK h a = 23 ∧ vp_in i (gL h a) ∧ K (gJ h a i.toNatClampNeg)
def aO (h : AH) (a : Nat) (i : Int32) (K : Option Nat → Prop) : Prop := gK h a = 24 ∧ vp_in i (gL h a) ∧ K (gP h a i.toNatClampNeg)
def tI (h : AH) (a : Nat) (i v : Int32) (K : AH → Prop) : Prop := gK h a = 20 ∧ vp_in i (gL h a) ∧ K (sI h a i.toNatClampNeg v)
def tB (h : AH) (a : Nat) (i v : Int32) (K : AH → Prop) : Prop := gK h a = 21 ∧ vp_in i (gL h a) ∧ K (sI h a i.toNatClampNeg v.toInt8.toInt32)
def tZ (h : AH) (a : Nat) (i v : Int32) (K : AH → Prop) : Prop := gK h a = 22 ∧ vp_in i (gL h a) ∧ (v = 0 ∨ v = 1) ∧ K (sI h a i.toNatClampNeg v)
def tJ (h : AH) (a : Nat) (i : Int32) (v : Int64) (K : AH → Prop) : Prop := gK h a = 23 ∧ vp_in i (gL h a) ∧ K (sJ h a i.toNatClampNeg v)
def tO (h : AH) (a : Nat) (i : Int32) (v : Option Nat) (K : AH → Prop) : Prop := gK h a = 24 ∧ vp_in i (gL h a) ∧ (∀ b, v = some b → gK h b = 6) ∧ K (sP h a i.toNatClampNeg v)
def al (h : AH) (a j : Nat) (K : Int32 → Prop) : Prop := gK h a = 20 + j ∧ K (nI (gL h a))
def dv (y : Int32) (K : Prop) : Prop := ¬ y = 0 ∧ K
/-- a new object, a new row -/
def wO (h : AH) (ci : Nat) (K : Nat → AH → Prop) : Prop := ∀ a, gK h a = 0 → K a (nO h a ci)
def wA (h : AH) (j n : Nat) (K : Nat → AH → Prop) : Prop := ∀ a, gK h a = 0 → K a (nA h a j n)
/-- a number that is told to be 0 or 1 -/
def z1 (x : Int32) (K : Prop) : Prop := (x = 0 ∨ x = 1) ∧ K
def zn (ty : FieldType) (x : Int32) (K : Prop) : Prop := narrow ty (.int x) = .int x ∧ K
/-- the receiver of a call is of a class -/
def vr (h : AH) (a ci : Nat) (K : Prop) : Prop := gK h a = ci + 1 ∧ K
abbrev QI (K : Int32 → AH → Prop) : Option Value → AH → Prop := fun v h' => ∃ r : Int32, v = some (.int r) ∧ K r h'
abbrev QV (K : AH → Prop) : Option Value → AH → Prop := fun v h' => v = none ∧ K h'
abbrev QR (K : Nat → AH → Prop) : Option Value → AH → Prop := fun v h' => ∃ r : Nat, v = some (.ref r) ∧ K r h'
/-- a loop -/
def it {σ : Type} (F : (σ → Prop) → σ → Prop) : Nat → σ → Prop
  | 0, _ => False
  | n + 1, s => F (it F n) s
def lp {σ : Type} (F : (σ → Prop) → σ → Prop) (s : σ) : Prop := ∃ n, it F n s
theorem lp_walk {σ : Type} {F : (σ → Prop) → σ → Prop} {P : σ → Prop} (hs : ∀ (k : σ → Prop), (∀ s, k s → P s) → ∀ s, F k s → P s) : ∀ s, lp F s → P s := by
  have key : ∀ n s, it F n s → P s := by
    intro n
    induction n with
    | zero => intro s h; exact h.elim
    | succ n ih => intro s h; exact hs (it F n) ih s h
  intro s h
  obtain ⟨n, hn⟩ := h
  exact key n s hn
/-- a loop by a number that falls -/
theorem lp_ind {σ : Type} {F : (σ → Prop) → σ → Prop} (Inv : Nat → σ → Prop) (hs : ∀ (m : Nat) (s : σ) (k : σ → Prop), Inv m s → (∀ (j : Nat) (s' : σ), m = j + 1 → Inv j s' → k s') → F k s) : ∀ (m : Nat) (s : σ), Inv m s → lp F s := by
  have key : ∀ (m : Nat) (s : σ), Inv m s → it F (m + 1) s := by
    intro m
    induction m with
    | zero => intro s h; exact hs 0 s _ h (fun j s' e _ => absurd e (by omega))
    | succ m ih => intro s h; exact hs (m + 1) s _ h (fun j s' e hi => by have : j = m := by omega
                                                                          subst this
                                                                          exact ih s' hi)
  exact fun m s h => ⟨m + 1, key m s h⟩
section WROWS
variable {p : Program} {l : Launch} {e : Env} {s : State} {m : MethodId} {args : Array Value} {below : List Frame} {meth : Method} {c : Code} {g : GG} {dl mc ms nL kc ks : Nat} {Z : State → Prop} {own : String} {cc : ByteArray} {pc : Nat} {ls : List (Nat × Value)} {st stk : List Value} {h : AH}
theorem v_tsw (C : CXT p l s m args meth c own cc nL g) {dflt lo hi : Int} {offs : Array Int} {len td : Nat} {x : Int32} (d : decode cc pc = .ok (.tableswitch dflt lo hi offs, len)) (hd : (pc : Int) + dflt = (td : Int)) (k1 : ∀ i : Nat, (i : Int) ≤ hi - lo → x = Int32.ofInt (lo + (i : Int)) → ∃ (off : Int) (tgt : Nat), offs[i]? = some off ∧ (pc : Int) + off = (tgt : Int) ∧ V p l e s m args below meth c g dl mc ms nL kc ks Z tgt ls st h) (k2 : (∀ i : Nat, (i : Int) ≤ hi - lo → ¬ x = Int32.ofInt (lo + (i : Int))) → V p l e s m args below meth c g dl mc ms nL kc ks Z td ls st h) (hsm : -1000 ≤ lo ∧ hi ≤ 1000 := by decide) : V p l e s m args below meth c g dl mc ms nL kc ks Z pc ls (.int x :: st) h := by
  intro H locs lsA hc hv hlc
  by_cases q : x.toInt < lo ∨ hi < x.toInt
  · refine lv_tableOut C.1 C.2.1 d q hd (k2 (fun j j1 j2 => ?_) H locs lsA hc hv hlc)
    have h3 : x.toInt = lo + (j : Int) := by
      rw [j2, Int32.toInt_ofInt_of_le (by omega) (by omega)]
    omega
  · have q1 : ¬ x.toInt < lo := fun z => q (Or.inl z)
    have q2 : ¬ hi < x.toInt := fun z => q (Or.inr z)
    obtain ⟨off, tgt, o1, o2, o3⟩ := k1 (x.toInt - lo).toNat (by omega) (by rw [show lo + ((x.toInt - lo).toNat : Int) = x.toInt by omega]; exact (Int32.ofInt_toInt x).symm)
    exact lv_tableIn C.1 C.2.1 d q1 q2 o1 o2 (o3 H locs lsA hc hv hlc)
theorem w_bd {v : Int32} {K : Int32 → Prop} (hw : bd v K) (kk : ∀ x, K x → V p l e s m args below meth c g dl mc ms nL kc ks Z pc ls (.int x :: st) h) : V p l e s m args below meth c g dl mc ms nL kc ks Z pc ls (.int v :: st) h := kk v hw
theorem w_nn {r : Option Nat} {K : Nat → Prop} (hw : nn r K) (kk : ∀ x, K x → V p l e s m args below meth c g dl mc ms nL kc ks Z pc ls (.ref x :: st) h) : V p l e s m args below meth c g dl mc ms nL kc ks Z pc ls (va_rf r :: st) h := by
  obtain ⟨b, rfl, hw⟩ := hw
  exact kk b hw
theorem w_getI (C : CXT p l s m args meth c own cc nL g) {index ci k a : Nat} {r : vw_C} {K : Int32 → Prop} (F : FLk own index ci k r) (d : decode cc pc = .ok (.getfield index, 3)) (hf : rf ci k = false) (hw : fI h a ci k K) (kk : ∀ x, K x → V p l e s m args below meth c g dl mc ms nL kc ks Z (pc + 3) ls (.int x :: st) h) : V p l e s m args below meth c g dl mc ms nL kc ks Z pc ls (.ref a :: st) h := v_getI C F d hf hw.1 (kk _ hw.2)
theorem w_getN (C : CXT p l s m args meth c own cc nL g) {index ci k a : Nat} {r : vw_C} {K : Nat → Prop} (F : FLk own index ci k r) (d : decode cc pc = .ok (.getfield index, 3)) (hf : rf ci k = true) (hw : fN h a ci k K) (kk : ∀ x, K x → V p l e s m args below meth c g dl mc ms nL kc ks Z (pc + 3) ls (.ref x :: st) h) : V p l e s m args below meth c g dl mc ms nL kc ks Z pc ls (.ref a :: st) h := by
  obtain ⟨h1, b, h2, h3⟩ := hw
  exact v_getN C F d hf h1 h2 (kk b h3)
theorem w_getO (C : CXT p l s m args meth c own cc nL g) {index ci k a : Nat} {r : vw_C} {K : Option Nat → Prop} (F : FLk own index ci k r) (d : decode cc pc = .ok (.getfield index, 3)) (hf : rf ci k = true) (hw : fO h a ci k K) (kk : ∀ x, K x → V p l e s m args below meth c g dl mc ms nL kc ks Z (pc + 3) ls (va_rf x :: st) h) : V p l e s m args below meth c g dl mc ms nL kc ks Z pc ls (.ref a :: st) h := v_getO C F d hf hw.1 (kk _ hw.2)
theorem w_putI (C : CXT p l s m args meth c own cc nL g) {index ci k a : Nat} {r : vw_C} {ty0 : Nat → FieldType} {x : Int32} {K : AH → Prop} (F : FPk own index ci k r ty0 0) (hfin : FFk own index k r meth) (d : decode cc pc = .ok (.putfield index, 3)) (hw : uI h a ci k x K) (kk : ∀ h, K h → V p l e s m args below meth c g dl mc ms nL kc ks Z (pc + 3) ls st h) : V p l e s m args below meth c g dl mc ms nL kc ks Z pc ls (.int x :: .ref a :: st) h := v_putI C F hfin d hw.1 (kk _ hw.2)
theorem w_putZ (C : CXT p l s m args meth c own cc nL g) {index ci k a : Nat} {r : vw_C} {ty0 : Nat → FieldType} {x : Int32} {K : AH → Prop} (F : FPk own index ci k r ty0 1) (hfin : FFk own index k r meth) (d : decode cc pc = .ok (.putfield index, 3)) (hw : uZ h a ci k x K) (kk : ∀ h, K h → V p l e s m args below meth c g dl mc ms nL kc ks Z (pc + 3) ls st h) : V p l e s m args below meth c g dl mc ms nL kc ks Z pc ls (.int x :: .ref a :: st) h := v_putZ C F hfin d hw.1 hw.2.1 (kk _ hw.2.2)
theorem w_putO (C : CXT p l s m args meth c own cc nL g) {index ci k a : Nat} {r : vw_C} {ty0 : Nat → FieldType} {x : Option Nat} {K : AH → Prop} (F : FPk own index ci k r ty0 2) (hfin : FFk own index k r meth) (d : decode cc pc = .ok (.putfield index, 3)) (hw : uO h a ci k x K) (kk : ∀ h, K h → V p l e s m args below meth c g dl mc ms nL kc ks Z (pc + 3) ls st h) : V p l e s m args below meth c g dl mc ms nL kc ks Z pc ls (va_rf x :: .ref a :: st) h := v_putO C F hfin d hw.1 (kk _ hw.2)
theorem w_putN (C : CXT p l s m args meth c own cc nL g) {index ci k a b : Nat} {r : vw_C} {ty0 : Nat → FieldType} {K : AH → Prop} (F : FPk own index ci k r ty0 2) (hfin : FFk own index k r meth) (d : decode cc pc = .ok (.putfield index, 3)) (hw : uO h a ci k (some b) K) (kk : ∀ h, K h → V p l e s m args below meth c g dl mc ms nL kc ks Z (pc + 3) ls st h) : V p l e s m args below meth c g dl mc ms nL kc ks Z pc ls (.ref b :: .ref a :: st) h := v_putN C F hfin d hw.1 (kk _ hw.2)
theorem w_iaload (C : CXT p l s m args meth c own cc nL g) {a : Nat} {i : Int32} {K : Int32 → Prop} (d : decode cc pc = .ok (.iaload, 1)) (hw : aI h a i K) (kk : ∀ x, K x → V p l e s m args below meth c g dl mc ms nL kc ks Z (pc + 1) ls (.int x :: st) h) : V p l e s m args below meth c g dl mc ms nL kc ks Z pc ls (.int i :: .ref a :: st) h := v_iaload C d hw.1 hw.2.1 (kk _ hw.2.2)
theorem w_baload (C : CXT p l s m args meth c own cc nL g) {a : Nat} {i : Int32} {K : Int32 → Prop} (d : decode cc pc = .ok (.baload, 1)) (hw : aB h a i K) (kk : ∀ x, K x → V p l e s m args below meth c g dl mc ms nL kc ks Z (pc + 1) ls (.int x :: st) h) : V p l e s m args below meth c g dl mc ms nL kc ks Z pc ls (.int i :: .ref a :: st) h := v_baload C d hw.1 hw.2.1 (kk _ hw.2.2)
theorem w_zaload (C : CXT p l s m args meth c own cc nL g) {a : Nat} {i : Int32} {K : Int32 → Prop} (d : decode cc pc = .ok (.baload, 1)) (hw : aZ h a i K) (kk : ∀ x, K x → V p l e s m args below meth c g dl mc ms nL kc ks Z (pc + 1) ls (.int x :: st) h) : V p l e s m args below meth c g dl mc ms nL kc ks Z pc ls (.int i :: .ref a :: st) h := v_zaload C d hw.1 hw.2.1 (kk _ hw.2.2)
theorem w_laload (C : CXT p l s m args meth c own cc nL g) {a : Nat} {i : Int32} {K : Int64 → Prop} (d : decode cc pc = .ok (.laload, 1)) (hw : aJ h a i K) (kk : ∀ x, K x → V p l e s m args below meth c g dl mc ms nL kc ks Z (pc + 1) ls (.long x :: st) h) : V p l e s m args below meth c g dl mc ms nL kc ks Z pc ls (.int i :: .ref a :: st) h := v_laload C d hw.1 hw.2.1 (kk _ hw.2.2)
theorem w_aaload (C : CXT p l s m args meth c own cc nL g) {a : Nat} {i : Int32} {K : Option Nat → Prop} (d : decode cc pc = .ok (.aaload, 1)) (hw : aO h a i K) (kk : ∀ x, K x → V p l e s m args below meth c g dl mc ms nL kc ks Z (pc + 1) ls (va_rf x :: st) h) : V p l e s m args below meth c g dl mc ms nL kc ks Z pc ls (.int i :: .ref a :: st) h := v_aaload C d hw.1 hw.2.1 (kk _ hw.2.2)
theorem w_iastore (C : CXT p l s m args meth c own cc nL g) {a : Nat} {i x : Int32} {K : AH → Prop} (d : decode cc pc = .ok (.iastore, 1)) (hw : tI h a i x K) (kk : ∀ h, K h → V p l e s m args below meth c g dl mc ms nL kc ks Z (pc + 1) ls st h) : V p l e s m args below meth c g dl mc ms nL kc ks Z pc ls (.int x :: .int i :: .ref a :: st) h := v_iastore C d hw.1 hw.2.1 (kk _ hw.2.2)
theorem w_bastore (C : CXT p l s m args meth c own cc nL g) {a : Nat} {i x : Int32} {K : AH → Prop} (d : decode cc pc = .ok (.bastore, 1)) (hw : tB h a i x K) (kk : ∀ h, K h → V p l e s m args below meth c g dl mc ms nL kc ks Z (pc + 1) ls st h) : V p l e s m args below meth c g dl mc ms nL kc ks Z pc ls (.int x :: .int i :: .ref a :: st) h := v_bastore C d hw.1 hw.2.1 (kk _ hw.2.2)
theorem w_zastore (C : CXT p l s m args meth c own cc nL g) {a : Nat} {i x : Int32} {K : AH → Prop} (d : decode cc pc = .ok (.bastore, 1)) (hw : tZ h a i x K) (kk : ∀ h, K h → V p l e s m args below meth c g dl mc ms nL kc ks Z (pc + 1) ls st h) : V p l e s m args below meth c g dl mc ms nL kc ks Z pc ls (.int x :: .int i :: .ref a :: st) h := v_zastore C d hw.1 hw.2.1 hw.2.2.1 (kk _ hw.2.2.2)
theorem w_lastore (C : CXT p l s m args meth c own cc nL g) {a : Nat} {i : Int32} {x : Int64} {K : AH → Prop} (d : decode cc pc = .ok (.lastore, 1)) (hw : tJ h a i x K) (kk : ∀ h, K h → V p l e s m args below meth c g dl mc ms nL kc ks Z (pc + 1) ls st h) : V p l e s m args below meth c g dl mc ms nL kc ks Z pc ls (.long x :: .int i :: .ref a :: st) h := v_lastore C d hw.1 hw.2.1 (kk _ hw.2.2)
theorem w_aastore (C : CXT p l s m args meth c own cc nL g) {a : Nat} {i : Int32} {x : Option Nat} {K : AH → Prop} (d : decode cc pc = .ok (.aastore, 1)) (hw : tO h a i x K) (kk : ∀ h, K h → V p l e s m args below meth c g dl mc ms nL kc ks Z (pc + 1) ls st h) : V p l e s m args below meth c g dl mc ms nL kc ks Z pc ls (va_rf x :: .int i :: .ref a :: st) h := v_aastore C d hw.1 hw.2.1 hw.2.2.1 (kk _ hw.2.2.2)
theorem w_aastoreN (C : CXT p l s m args meth c own cc nL g) {a x : Nat} {i : Int32} {K : AH → Prop} (d : decode cc pc = .ok (.aastore, 1)) (hw : tO h a i (some x) K) (kk : ∀ h, K h → V p l e s m args below meth c g dl mc ms nL kc ks Z (pc + 1) ls st h) : V p l e s m args below meth c g dl mc ms nL kc ks Z pc ls (.ref x :: .int i :: .ref a :: st) h := v_aastore (x := some x) C d hw.1 hw.2.1 hw.2.2.1 (kk _ hw.2.2.2)
theorem w_alen (C : CXT p l s m args meth c own cc nL g) {a : Nat} (j : Nat) (hj : j < 4) {K : Int32 → Prop} (d : decode cc pc = .ok (.arraylength, 1)) (hw : al h a j K) (kk : ∀ x, K x → V p l e s m args below meth c g dl mc ms nL kc ks Z (pc + 1) ls (.int x :: st) h) : V p l e s m args below meth c g dl mc ms nL kc ks Z pc ls (.ref a :: st) h := v_alen C j hj d hw.1 (kk _ hw.2)
theorem w_idiv (C : CXT p l s m args meth c own cc nL g) {x y : Int32} {K : Prop} (d : decode cc pc = .ok (.idiv, 1)) (hw : dv y K) (kk : K → V p l e s m args below meth c g dl mc ms nL kc ks Z (pc + 1) ls (.int (x / y) :: st) h) : V p l e s m args below meth c g dl mc ms nL kc ks Z pc ls (.int y :: .int x :: st) h := v_idiv C d hw.1 (kk hw.2)
theorem w_irem (C : CXT p l s m args meth c own cc nL g) {x y : Int32} {K : Prop} (d : decode cc pc = .ok (.irem, 1)) (hw : dv y K) (kk : K → V p l e s m args below meth c g dl mc ms nL kc ks Z (pc + 1) ls (.int (jrem x y) :: st) h) : V p l e s m args below meth c g dl mc ms nL kc ks Z pc ls (.int y :: .int x :: st) h := v_irem C d hw.1 (kk hw.2)

theorem w_callSi (C : CXT p l s m args meth c own cc nL g) {index : Nat} {y : MethodName} {cc' : ByteArray} {nL' n dl' mc' ms' : Nat} {ret : Option FieldType} {As : List Value} {K : Int32 → AH → Prop} (F : CLk own index y cc' nL' ret n) (hs0 : Cond.static y ∈ lw_tbl) (hM : CT l y cc' nL' ret dl' mc' ms' As h (QI K)) (hs : stk = As.reverse ++ st) (d : decode cc pc = .ok (.invokestatic index, 3)) (hlen : As.length = n) (hcat : (st.map fun v => v.category).sum ≤ 8) (hd : dl' + 1 ≤ dl) (hn : nL' ≤ 61) (hkc : kc + mc' ≤ mc) (hks : ks + ms' ≤ ms)
    (kk : ∀ (r9 : Int32) (h : AH), K r9 h → V p l e s m args below meth c g dl mc ms nL (kc + mc') (ks + ms') Z (pc + 3) ls (.int r9 :: st) h) : V p l e s m args below meth c g dl mc ms nL kc ks Z pc ls stk h :=
  v_callS C F hs0 hM hs d hlen hcat hd hn hkc hks (fun v h' hq => by
    obtain ⟨r9, rfl, hq⟩ := hq
    exact kk r9 h' hq)
theorem w_callSv (C : CXT p l s m args meth c own cc nL g) {index : Nat} {y : MethodName} {cc' : ByteArray} {nL' n dl' mc' ms' : Nat} {ret : Option FieldType} {As : List Value} {K : AH → Prop} (F : CLk own index y cc' nL' ret n) (hs0 : Cond.static y ∈ lw_tbl) (hM : CT l y cc' nL' ret dl' mc' ms' As h (QV K)) (hs : stk = As.reverse ++ st) (d : decode cc pc = .ok (.invokestatic index, 3)) (hlen : As.length = n) (hcat : (st.map fun v => v.category).sum ≤ 8) (hd : dl' + 1 ≤ dl) (hn : nL' ≤ 61) (hkc : kc + mc' ≤ mc) (hks : ks + ms' ≤ ms)
    (kk : ∀ (h : AH), K h → V p l e s m args below meth c g dl mc ms nL (kc + mc') (ks + ms') Z (pc + 3) ls st h) : V p l e s m args below meth c g dl mc ms nL kc ks Z pc ls stk h :=
  v_callS C F hs0 hM hs d hlen hcat hd hn hkc hks (fun v h' hq => by
    obtain ⟨rfl, hq⟩ := hq
    exact kk h' hq)
theorem w_callSr (C : CXT p l s m args meth c own cc nL g) {index : Nat} {y : MethodName} {cc' : ByteArray} {nL' n dl' mc' ms' : Nat} {ret : Option FieldType} {As : List Value} {K : Nat → AH → Prop} (F : CLk own index y cc' nL' ret n) (hs0 : Cond.static y ∈ lw_tbl) (hM : CT l y cc' nL' ret dl' mc' ms' As h (QR K)) (hs : stk = As.reverse ++ st) (d : decode cc pc = .ok (.invokestatic index, 3)) (hlen : As.length = n) (hcat : (st.map fun v => v.category).sum ≤ 8) (hd : dl' + 1 ≤ dl) (hn : nL' ≤ 61) (hkc : kc + mc' ≤ mc) (hks : ks + ms' ≤ ms)
    (kk : ∀ (r9 : Nat) (h : AH), K r9 h → V p l e s m args below meth c g dl mc ms nL (kc + mc') (ks + ms') Z (pc + 3) ls (.ref r9 :: st) h) : V p l e s m args below meth c g dl mc ms nL kc ks Z pc ls stk h :=
  v_callS C F hs0 hM hs d hlen hcat hd hn hkc hks (fun v h' hq => by
    obtain ⟨r9, rfl, hq⟩ := hq
    exact kk r9 h' hq)
theorem w_callVi (C : CXT p l s m args meth c own cc nL g) {index ci b : Nat} {r : vw_C} {y : MethodName} {cc' : ByteArray} {nL' n dl' mc' ms' : Nat} {ret : Option FieldType} {As : List Value} {K : Int32 → AH → Prop} (F : CLk own index y cc' nL' ret n) (hi0 : Cond.instanceMethod y ∈ lw_tbl) (hsel : Cond.selects r.1 y y ∈ lw_tbl) (hr : vwCl[ci]? = some r) (hK : gK h b = ci + 1) (hM : CT l y cc' nL' ret dl' mc' ms' (.ref b :: As) h (QI K)) (hs : stk = As.reverse ++ .ref b :: st) (d : decode cc pc = .ok (.invokevirtual index, 3)) (hlen : As.length = n) (hcat : (st.map fun v => v.category).sum ≤ 8) (hd : dl' + 1 ≤ dl) (hn : nL' ≤ 61) (hkc : kc + mc' ≤ mc) (hks : ks + ms' ≤ ms)
    (kk : ∀ (r9 : Int32) (h : AH), K r9 h → V p l e s m args below meth c g dl mc ms nL (kc + mc') (ks + ms') Z (pc + 3) ls (.int r9 :: st) h) : V p l e s m args below meth c g dl mc ms nL kc ks Z pc ls stk h :=
  v_callV C F hi0 hsel hr hK hM hs d hlen hcat hd hn hkc hks (fun v h' hq => by
    obtain ⟨r9, rfl, hq⟩ := hq
    exact kk r9 h' hq)
theorem w_callVv (C : CXT p l s m args meth c own cc nL g) {index ci b : Nat} {r : vw_C} {y : MethodName} {cc' : ByteArray} {nL' n dl' mc' ms' : Nat} {ret : Option FieldType} {As : List Value} {K : AH → Prop} (F : CLk own index y cc' nL' ret n) (hi0 : Cond.instanceMethod y ∈ lw_tbl) (hsel : Cond.selects r.1 y y ∈ lw_tbl) (hr : vwCl[ci]? = some r) (hK : gK h b = ci + 1) (hM : CT l y cc' nL' ret dl' mc' ms' (.ref b :: As) h (QV K)) (hs : stk = As.reverse ++ .ref b :: st) (d : decode cc pc = .ok (.invokevirtual index, 3)) (hlen : As.length = n) (hcat : (st.map fun v => v.category).sum ≤ 8) (hd : dl' + 1 ≤ dl) (hn : nL' ≤ 61) (hkc : kc + mc' ≤ mc) (hks : ks + ms' ≤ ms)
    (kk : ∀ (h : AH), K h → V p l e s m args below meth c g dl mc ms nL (kc + mc') (ks + ms') Z (pc + 3) ls st h) : V p l e s m args below meth c g dl mc ms nL kc ks Z pc ls stk h :=
  v_callV C F hi0 hsel hr hK hM hs d hlen hcat hd hn hkc hks (fun v h' hq => by
    obtain ⟨rfl, hq⟩ := hq
    exact kk h' hq)
theorem w_callVr (C : CXT p l s m args meth c own cc nL g) {index ci b : Nat} {r : vw_C} {y : MethodName} {cc' : ByteArray} {nL' n dl' mc' ms' : Nat} {ret : Option FieldType} {As : List Value} {K : Nat → AH → Prop} (F : CLk own index y cc' nL' ret n) (hi0 : Cond.instanceMethod y ∈ lw_tbl) (hsel : Cond.selects r.1 y y ∈ lw_tbl) (hr : vwCl[ci]? = some r) (hK : gK h b = ci + 1) (hM : CT l y cc' nL' ret dl' mc' ms' (.ref b :: As) h (QR K)) (hs : stk = As.reverse ++ .ref b :: st) (d : decode cc pc = .ok (.invokevirtual index, 3)) (hlen : As.length = n) (hcat : (st.map fun v => v.category).sum ≤ 8) (hd : dl' + 1 ≤ dl) (hn : nL' ≤ 61) (hkc : kc + mc' ≤ mc) (hks : ks + ms' ≤ ms)
    (kk : ∀ (r9 : Nat) (h : AH), K r9 h → V p l e s m args below meth c g dl mc ms nL (kc + mc') (ks + ms') Z (pc + 3) ls (.ref r9 :: st) h) : V p l e s m args below meth c g dl mc ms nL kc ks Z pc ls stk h :=
  v_callV C F hi0 hsel hr hK hM hs d hlen hcat hd hn hkc hks (fun v h' hq => by
    obtain ⟨r9, rfl, hq⟩ := hq
    exact kk r9 h' hq)
theorem w_callIv (C : CXT p l s m args meth c own cc nL g) {index b : Nat} {y : MethodName} {cc' : ByteArray} {nL' n dl' mc' ms' : Nat} {As : List Value} {K : AH → Prop} (F : CLk own index y cc' nL' none n) (hi0 : Cond.instanceMethod y ∈ lw_tbl) (hy : y.name = "<init>") (hM : CT l y cc' nL' none dl' mc' ms' (.ref b :: As) h (QV K)) (hs : stk = As.reverse ++ .ref b :: st) (d : decode cc pc = .ok (.invokespecial index, 3)) (hlen : As.length = n) (hcat : (st.map fun v => v.category).sum ≤ 8) (hd : dl' + 1 ≤ dl) (hn : nL' ≤ 61) (hkc : kc + mc' ≤ mc) (hks : ks + ms' ≤ ms)
    (kk : ∀ (h : AH), K h → V p l e s m args below meth c g dl mc ms nL (kc + mc') (ks + ms') Z (pc + 3) ls st h) : V p l e s m args below meth c g dl mc ms nL kc ks Z pc ls stk h :=
  v_callI C F hi0 hy hM hs d hlen hcat hd hn hkc hks (fun v h' hq => by
    obtain ⟨rfl, hq⟩ := hq
    exact kk h' hq)
theorem w_callXSi (C : CXT p l s m args meth c own cc nL g) {index : Nat} {y : MethodName} {cc' : ByteArray} {nL' n dl' mc' ms' : Nat} {ret : Option FieldType} {As : List Value} {K : Int32 → AH → Prop} {X : String → AH → Prop} (F : CLk own index y cc' nL' ret n) (hlk : Cond.methodLink own index y ∈ lw_tbl) (hs0 : Cond.static y ∈ lw_tbl) (hM : CX l y cc' nL' ret dl' mc' ms' As h (QI K) X) (hs : stk = As.reverse ++ st) (d : decode cc pc = .ok (.invokestatic index, 3)) (hlen : As.length = n) (hcat : (st.map fun v => v.category).sum ≤ 8) (hd : dl' + 1 ≤ dl) (hn : nL' ≤ 61) (hkc : kc + mc' ≤ mc) (hks : ks + ms' ≤ ms)
    (kx : ∀ (E : String) (h : AH), X E h → VT p l e s m args below meth c g dl mc ms nL (kc + mc') (ks + ms') Z pc ls st h E) (kk : ∀ (r9 : Int32) (h : AH), K r9 h → V p l e s m args below meth c g dl mc ms nL (kc + mc') (ks + ms') Z (pc + 3) ls (.int r9 :: st) h) : V p l e s m args below meth c g dl mc ms nL kc ks Z pc ls stk h :=
  v_callXS C F hlk hs0 hM hs d hlen hcat hd hn hkc hks kx (fun v h' hq => by
    obtain ⟨r9, rfl, hq⟩ := hq
    exact kk r9 h' hq)
theorem w_callXSv (C : CXT p l s m args meth c own cc nL g) {index : Nat} {y : MethodName} {cc' : ByteArray} {nL' n dl' mc' ms' : Nat} {ret : Option FieldType} {As : List Value} {K : AH → Prop} {X : String → AH → Prop} (F : CLk own index y cc' nL' ret n) (hlk : Cond.methodLink own index y ∈ lw_tbl) (hs0 : Cond.static y ∈ lw_tbl) (hM : CX l y cc' nL' ret dl' mc' ms' As h (QV K) X) (hs : stk = As.reverse ++ st) (d : decode cc pc = .ok (.invokestatic index, 3)) (hlen : As.length = n) (hcat : (st.map fun v => v.category).sum ≤ 8) (hd : dl' + 1 ≤ dl) (hn : nL' ≤ 61) (hkc : kc + mc' ≤ mc) (hks : ks + ms' ≤ ms)
    (kx : ∀ (E : String) (h : AH), X E h → VT p l e s m args below meth c g dl mc ms nL (kc + mc') (ks + ms') Z pc ls st h E) (kk : ∀ (h : AH), K h → V p l e s m args below meth c g dl mc ms nL (kc + mc') (ks + ms') Z (pc + 3) ls st h) : V p l e s m args below meth c g dl mc ms nL kc ks Z pc ls stk h :=
  v_callXS C F hlk hs0 hM hs d hlen hcat hd hn hkc hks kx (fun v h' hq => by
    obtain ⟨rfl, hq⟩ := hq
    exact kk h' hq)
theorem w_callXVi (C : CXT p l s m args meth c own cc nL g) {index ci b : Nat} {r : vw_C} {y : MethodName} {cc' : ByteArray} {nL' n dl' mc' ms' : Nat} {ret : Option FieldType} {As : List Value} {K : Int32 → AH → Prop} {X : String → AH → Prop} (F : CLk own index y cc' nL' ret n) (hlk : Cond.methodLink own index y ∈ lw_tbl) (hi0 : Cond.instanceMethod y ∈ lw_tbl) (hsel : Cond.selects r.1 y y ∈ lw_tbl) (hr : vwCl[ci]? = some r) (hK : gK h b = ci + 1) (hM : CX l y cc' nL' ret dl' mc' ms' (.ref b :: As) h (QI K) X) (hs : stk = As.reverse ++ .ref b :: st) (d : decode cc pc = .ok (.invokevirtual index, 3)) (hlen : As.length = n) (hcat : (st.map fun v => v.category).sum ≤ 8) (hd : dl' + 1 ≤ dl) (hn : nL' ≤ 61) (hkc : kc + mc' ≤ mc) (hks : ks + ms' ≤ ms)
    (kx : ∀ (E : String) (h : AH), X E h → VT p l e s m args below meth c g dl mc ms nL (kc + mc') (ks + ms') Z pc ls st h E) (kk : ∀ (r9 : Int32) (h : AH), K r9 h → V p l e s m args below meth c g dl mc ms nL (kc + mc') (ks + ms') Z (pc + 3) ls (.int r9 :: st) h) : V p l e s m args below meth c g dl mc ms nL kc ks Z pc ls stk h :=
  v_callXV C F hlk hi0 hsel hr hK hM hs d hlen hcat hd hn hkc hks kx (fun v h' hq => by
    obtain ⟨r9, rfl, hq⟩ := hq
    exact kk r9 h' hq)
theorem w_callXVv (C : CXT p l s m args meth c own cc nL g) {index ci b : Nat} {r : vw_C} {y : MethodName} {cc' : ByteArray} {nL' n dl' mc' ms' : Nat} {ret : Option FieldType} {As : List Value} {K : AH → Prop} {X : String → AH → Prop} (F : CLk own index y cc' nL' ret n) (hlk : Cond.methodLink own index y ∈ lw_tbl) (hi0 : Cond.instanceMethod y ∈ lw_tbl) (hsel : Cond.selects r.1 y y ∈ lw_tbl) (hr : vwCl[ci]? = some r) (hK : gK h b = ci + 1) (hM : CX l y cc' nL' ret dl' mc' ms' (.ref b :: As) h (QV K) X) (hs : stk = As.reverse ++ .ref b :: st) (d : decode cc pc = .ok (.invokevirtual index, 3)) (hlen : As.length = n) (hcat : (st.map fun v => v.category).sum ≤ 8) (hd : dl' + 1 ≤ dl) (hn : nL' ≤ 61) (hkc : kc + mc' ≤ mc) (hks : ks + ms' ≤ ms)
    (kx : ∀ (E : String) (h : AH), X E h → VT p l e s m args below meth c g dl mc ms nL (kc + mc') (ks + ms') Z pc ls st h E) (kk : ∀ (h : AH), K h → V p l e s m args below meth c g dl mc ms nL (kc + mc') (ks + ms') Z (pc + 3) ls st h) : V p l e s m args below meth c g dl mc ms nL kc ks Z pc ls stk h :=
  v_callXV C F hlk hi0 hsel hr hK hM hs d hlen hcat hd hn hkc hks kx (fun v h' hq => by
    obtain ⟨rfl, hq⟩ := hq
    exact kk h' hq)
end WROWS
