/-! what holds between two calls -/
def Wd (wd : Nat → Int32) (N : Nat → Nat) (LL : Nat → List (Nat × Seg)) (SS : Nat → Seg) (V : Nat → Prop) (E : Nat → List Nat) : Prop :=
  Ok wd N ∧ (∀ l, l < N 2 → LR wd (1166 + 831 * l) (LL l)) ∧ LKs LL (N 2) ∧ (∀ v, v < N 6 → SR wd (1166 + 831 * (4 + v)) (SS v)) ∧ SOk SS (N 6) ∧ VL V E LL (N 2) ∧ VS V E SS (N 6) ∧ (∀ l, N 2 ≤ l → l < 4 → ¬ V l) ∧ ∀ v, N 6 ≤ v → v < 5 → ¬ V (4 + v)
theorem Wd.co {wd wd' : Nat → Int32} {N N' : Nat → Nat} {LL : Nat → List (Nat × Seg)} {SS : Nat → Seg} {V : Nat → Prop} {E : Nat → List Nat} (W : Wd wd N LL SS V E) (O : Ok wd' N') (e2 : N' 2 = N 2) (e6 : N' 6 = N 6) (e : ∀ w, 1166 ≤ w → wd' w = wd w) : Wd wd' N' LL SS V E := by
  obtain ⟨w1, w2, w3, w4, w5, w6, w7, w8, w9⟩ := W
  unfold Wd
  rw [e2, e6]
  exact ⟨O, fun l hl => (w2 l hl).co (fun w hw => e w (by omega)), w3, fun v hv => (w4 v hv).co (fun w hw => e w (by omega)), w5, w6, w7, w8, w9⟩
theorem Wd.vc {wd : Nat → Int32} {N : Nat → Nat} {LL : Nat → List (Nat × Seg)} {SS : Nat → Seg} {V V' : Nat → Prop} {E E' : Nat → List Nat} (W : Wd wd N LL SS V E) (hv : ∀ i, i < 9 → V' i = V i) (he : ∀ i, i < 9 → E' i = E i) : Wd wd N LL SS V' E' := by
  obtain ⟨w1, w2, w3, w4, w5, w6, w7, w8, w9⟩ := W
  have b2 := w1.l.2
  have b6 := w1.s.2
  refine ⟨w1, w2, w3, w4, w5, fun l hl => ?_, fun v h => ?_, fun l h1 h2 => ?_, fun v h1 h2 => ?_⟩
  · rw [hv l (by omega), he l (by omega)]
    exact w6 l hl
  · rw [hv _ (by omega), he _ (by omega)]
    exact w7 v h
  · rw [hv l (by omega)]
    exact w8 l h1 h2
  · rw [hv _ (by omega)]
    exact w9 v h1 h2
def BT (B : Nat → Nat) (n : Nat) : Prop := n ≤ 400 ∧ ∀ i, i < n → B i < 256
def KD (X : Nat → Nat → Int32) (nr : Nat) (V : Nat → Prop) (E : Nat → List Nat) : Prop :=
  (nr = 9 ∧ X 12 3 = 0) ∨ (nr = 18 ∧ ¬ X 12 3 = 0 ∧ ∃ wk Nk LLk SSk, IR X wk ∧ CR (fun id => X (id + 5000)) wk ∧ Wd wk Nk LLk SSk (fun i => V (i + 9)) (fun i => E (i + 9)))
def LX (X : Nat → Nat → Int32) (nr : Nat) (V : Nat → Prop) (E : Nat → List Nat) (B : Nat → Nat) (n : Nat) : Prop := TC X B n ∧ TM X B n ∧ BT B n ∧ X 6 2 = X 12 10 ∧ KD X nr V E
def LI (a11 a12 a3 : Nat) (h : AH) : Prop := ∃ A S h0 X nr V E wd N LL SS B n, G A S h0 X h ∧ LZ a11 a12 a3 A S h0 nr V E ∧ LX X nr V E B n ∧ CR X wd ∧ MR X wd ∧ Wd wd N LL SS V E
/-- what a call of the class leaves -/
def CQ (X X' : Nat → Nat → Int32) : Prop := ∀ id, stR id = false → id ∉ wSL → X' id = X id
theorem CQ.sc {X X' : Nat → Nat → Int32} (a : SC X X') : CQ X X' := fun id h g => a id h (fun z => g ((show ∀ i, i ∈ cSL → i ∈ wSL by decide) id z))
theorem CQ.oc {X X' : Nat → Nat → Int32} (a : OC X X') : CQ X X' := CQ.sc (SC.oc a)
theorem CQ.ws {X X' : Nat → Nat → Int32} (a : Off wSL X X') : CQ X X' := fun id _ g => a id g
theorem CQ.rf (X : Nat → Nat → Int32) : CQ X X := fun _ _ _ => rfl
theorem stR_hi {id : Nat} (h : 5000 ≤ id) : stR id = false := by
  have b1 : ∀ e ∈ cbL, e.1 < 5000 := by decide +kernel
  have b2 : ∀ e ∈ csL, e.1 < 5000 := by decide +kernel
  unfold stR
  rw [Bool.or_eq_false_iff, List.any_eq_false, List.any_eq_false]
  refine ⟨fun e he z => ?_, fun e he z => ?_⟩
  · have := b1 e he
    have : e.1 = id := by simpa using z
    omega
  · have := b2 e he
    have : e.1 = id := by simpa using z
    omega
theorem mS_hi {id n : Nat} (h : 5000 ≤ id) : mS id n = false := by
  have b1 : ∀ e ∈ mSL, e < 5000 := by decide +kernel
  unfold mS
  rw [Bool.or_eq_false_iff, Bool.and_eq_false_iff]
  refine ⟨?_, Or.inl ?_⟩
  · cases c : mSL.contains id with
    | false => rfl
    | true =>
      have := b1 id (List.contains_iff_mem.mp c)
      omega
  · cases c : id == 12 with
    | false => rfl
    | true =>
      have : id = 12 := by simpa using c
      omega
theorem wSL_hi {id : Nat} (h : 5000 ≤ id) : id ∉ wSL := fun z => by
  have b1 : ∀ e ∈ wSL, e < 5000 := by decide +kernel
  have := b1 id z
  omega
theorem CQ.k {X X' : Nat → Nat → Int32} (a : CQ X X') (id : Nat) : X' (id + 5000) = X (id + 5000) := a _ (stR_hi (by omega)) (wSL_hi (by omega))
theorem OW.k {X X' : Nat → Nat → Int32} (a : OW X X') (id : Nat) : X' (id + 5000) = X (id + 5000) := by
  funext n
  exact a _ n (mS_hi (by omega)) (fun z => by omega) (by omega)
theorem LX.cf {X X' : Nat → Nat → Int32} {nr : Nat} {V : Nat → Prop} {E : Nat → List Nat} {B : Nat → Nat} {n : Nat} (L : LX X nr V E B n) (a : CQ X X') : LX X' nr V E B n := by
  obtain ⟨⟨c1, c2⟩, ⟨m1, m2⟩, l3, l4, l5⟩ := L
  have e6 : X' 6 = X 6 := a 6 (by decide) (by decide)
  have e700 : X' 700 = X 700 := a 700 (by decide) (by decide)
  have e12 : X' 12 = X 12 := a 12 (by decide) (by decide)
  have e1304 : X' 1304 = X 1304 := a 1304 (by decide) (by decide)
  have e1302 : X' 1302 = X 1302 := a 1302 (by decide) (by decide)
  have ek : (fun id => X' (id + 5000)) = fun id => X (id + 5000) := funext fun id => a.k id
  refine ⟨⟨by rw [e6]; exact c1, by rw [e700]; exact c2⟩, ⟨by rw [e12]; exact m1, by rw [e1304]; exact m2⟩, l3, by rw [e6, e12]; exact l4, ?_⟩
  unfold KD IR
  rw [e12, ek, e1302]
  exact l5
theorem LX.ow {X X' : Nat → Nat → Int32} {nr : Nat} {V : Nat → Prop} {E : Nat → List Nat} {B : Nat → Nat} {n : Nat} (L : LX X nr V E B n) (a : OW X X') : LX X' nr V E B n := by
  obtain ⟨⟨c1, c2⟩, ⟨m1, m2⟩, l3, l4, l5⟩ := L
  have r : ∀ id, (∀ n, mS id n = false) → id ≠ 12 → id ≠ 1301 → X' id = X id := fun id h1 h2 h3 => funext fun n => a id n (h1 n) (fun z => h2 z.1) h3
  have e6 : X' 6 = X 6 := r 6 (fun n => rfl) (by decide) (by decide)
  have e700 : X' 700 = X 700 := r 700 (fun n => rfl) (by decide) (by decide)
  have e1304 : X' 1304 = X 1304 := r 1304 (fun n => rfl) (by decide) (by decide)
  have e1302 : X' 1302 = X 1302 := r 1302 (fun n => rfl) (by decide) (by decide)
  have e5 : X' 12 5 = X 12 5 := a 12 5 (by decide) (by decide) (by decide)
  have e10 : X' 12 10 = X 12 10 := a 12 10 (by decide) (by decide) (by decide)
  have e3 : X' 12 3 = X 12 3 := a 12 3 (by decide) (by decide) (by decide)
  have ek : (fun id => X' (id + 5000)) = fun id => X (id + 5000) := funext fun id => a.k id
  refine ⟨⟨by rw [e6]; exact c1, by rw [e700]; exact c2⟩, ⟨by rw [e5]; exact m1, by rw [e1304]; exact m2⟩, l3, by rw [e6, e10]; exact l4, ?_⟩
  unfold KD IR
  rw [e3, ek, e1302]
  exact l5
theorem st_mS : ∀ id, stR id = true → mSL.contains id = false ∧ id ≠ 12 ∧ id ≠ 1301 := by
  have b1 : ∀ e ∈ cbL, mSL.contains e.1 = false ∧ e.1 ≠ 12 ∧ e.1 ≠ 1301 := by decide +kernel
  have b2 : ∀ e ∈ csL, mSL.contains e.1 = false ∧ e.1 ≠ 12 ∧ e.1 ≠ 1301 := by decide +kernel
  intro id h
  unfold stR at h
  rw [Bool.or_eq_true, List.any_eq_true, List.any_eq_true] at h
  rcases h with ⟨e, he, z⟩ | ⟨e, he, z⟩
  · have : e.1 = id := by simpa using z
    rw [← this]
    exact b1 e he
  · have : e.1 = id := by simpa using z
    rw [← this]
    exact b2 e he
theorem CR.ow {X X' : Nat → Nat → Int32} {wd : Nat → Int32} (R : CR X wd) (a : OW X X') : CR X' wd := R.off (fun id n h => by
  obtain ⟨s1, s2, s3⟩ := st_mS id h
  refine a id n ?_ (fun z => s2 z.1) s3
  unfold mS
  rw [s1, Bool.false_or]
  cases c : id == 12 with
  | false => rfl
  | true => exact absurd (by simpa using c) s2)
theorem MR.cf {X X' : Nat → Nat → Int32} {wd : Nat → Int32} (M : MR X wd) (a : CQ X X') : MR X' wd := by
  have e : X' 1301 = X 1301 := a 1301 (by decide) (by decide)
  unfold MR
  rw [e]
  exact M
theorem MR.ot {X X' : Nat → Nat → Int32} {wd : Nat → Int32} (M : MR X wd) (a : OT X X') : MR X' wd := fun w hw => (a 1301 w rfl (fun z => absurd z.1 (by decide))).trans (M w hw)
theorem CR.oc {X X' : Nat → Nat → Int32} {wd : Nat → Int32} (R : CR X wd) (a : OC X X') : CR X' wd := R.offL a (by decide)
theorem CR.ws {X X' : Nat → Nat → Int32} {wd : Nat → Int32} (R : CR X wd) (a : Off wSL X X') : CR X' wd := R.offL a (by decide)
section FIN
variable {A : Nat → Nat} {S : Nat → Prop} {h0 h : AH} {X : Nat → Nat → Int32} {wd : Nat → Int32} {nr a11 a12 a3 : Nat} {V : Nat → Prop} {E : Nat → List Nat} {N N' : Nat → Nat} {LL : Nat → List (Nat × Seg)} {SS : Nat → Seg} {B : Nat → Nat} {n : Nat}
theorem G.gj (H : G A S h0 X h) : gJ h = gJ h0 := congrArg Prod.fst H.2.2.2.2.1
/-- an ordinary call, on both sides -/
theorem LI.of {A' : Nat → Nat} {S' : Nat → Prop} {h1 h3 : AH} {X1 X3 : Nat → Nat → Int32} {wd' : Nat → Int32} (L : LX X nr V E B n) (H : G A' S' h1 X3 h3) (Ls : LZ a11 a12 a3 A' S' h1 nr V E) (c : CQ X X1) (o : OW X1 X3) (R1 : CR X1 wd') (M3 : MR X3 wd') (W : Wd wd' N' LL SS V E) : LI a11 a12 a3 h3 := ⟨A', S', h1, X3, nr, V, E, wd', N', LL, SS, B, n, H, Ls, (L.cf c).ow o, R1.ow o, M3, W⟩
theorem lg_same (x : Int64) : lg_cmp x x = 0 := by
  unfold lg_cmp
  rw [if_neg (show ¬ x > x from fun z => Int64.lt_irrefl z), if_pos rfl]
theorem aJ3 {h1 h3 : AH} {X3 : Nat → Nat → Int32} (H3 : G A S h1 X3 h3) (J : J3 h1 a3) {v : Int64} (g : gJ h3 a3 0 = v) {K : Int64 → Prop} (k : K v) : aJ h3 a3 0 K := by
  refine ⟨?_, ?_, ?_⟩
  · rw [H3.2.1]; exact J.1
  · rw [H3.2.2.1, J.2]
    exact vp_in_nI (n := 0) (by decide) (by decide)
  · have e : (0 : Int32).toNatClampNeg = 0 := by decide
    rw [e, g]
    exact k
theorem fin_t {h1 h3 : AH} {X3 : Nat → Nat → Int32} (H3 : G A S h1 X3 h3) {code : Int32} (t : X3 12 0 = code) {P R : AH → Prop} (k : P h3) : vr h3 (A 12) 12 (w_X12_thrown (A 12) h3 (fun x h => br (x = code) (P h) (R h))) := by
  refine vG (o := 12) H3 H3.b rfl ?_
  dsimp only [w_X12_thrown]
  refine fG (o := 12) H3 H3.b rfl ?_
  exact br_T t k
theorem fin_v {h1 h2 h3 : AH} {X1 X3 : Nat → Nat → Int32} (H2 : G A S h1 X1 h2) (H3 : G A S h1 X3 h3) (J : J3 h1 a3) {code q : Int32} (t : X3 12 0 = code) (g : code = 0 → gJ h2 a3 0 = q.toInt64) {P R R' : AH → Prop} (k : P h3) : vr h3 (A 12) 12 (w_X12_thrown (A 12) h3 (fun x h => br (x = code) (br (code = 0) (aJ h a3 0 fun j => br (lg_cmp j q.toInt64 = 0) (P h) (R h)) (P h)) (R' h))) := by
  refine fin_t (P := fun h => br (code = 0) (aJ h a3 0 fun j => br (lg_cmp j q.toInt64 = 0) (P h) (R h)) (P h)) H3 t ?_
  refine br_if (fun c => ?_) (fun _ => k)
  refine aJ3 H3 J (v := q.toInt64) ?_ (br_T (lg_same _) k)
  rw [H3.gj, ← H2.gj]
  exact g c
theorem fin_b {h1 h2 h3 : AH} {X1 X3 : Nat → Nat → Int32} (H2 : G A S h1 X1 h2) (H3 : G A S h1 X3 h3) (J : J3 h1 a3) {code q : Int32} (t : X3 12 0 = code) (g : code = 0 → gJ h2 a3 0 = q.toInt64) (b : code = 0 → q = 0 ∨ q = 1) {P R' : AH → Prop} {T : Int64 → Int64 → AH → Prop} (hT : ∀ x h, P h → T x x h) (k : P h3) : vr h3 (A 12) 12 (w_X12_thrown (A 12) h3 (fun x h => br (x = code) (br (code = 0) (aJ h a3 0 fun j => br (q = 0) (T j 0 h) (T j 1 h)) (P h)) (R' h))) := by
  refine fin_t (P := fun h => br (code = 0) (aJ h a3 0 fun j => br (q = 0) (T j 0 h) (T j 1 h)) (P h)) H3 t ?_
  refine br_if (fun c => ?_) (fun _ => k)
  refine aJ3 H3 J (v := q.toInt64) (by rw [H3.gj, ← H2.gj]; exact g c) ?_
  rcases b c with e | e
  · rw [e]
    exact br_T rfl (hT 0 _ k)
  · rw [e]
    exact br_F (by decide) (hT 1 _ k)
end FIN
theorem xl_ {xs : Nat → Int32} {L j c : Nat} {v : Int32} (hv : v = nI (j + c)) (hc : c < 6) (hj : j + 6 ≤ L) (hL : L ≤ 3072) {k : Int32 → Prop} (kk : k (xs (j + c))) : xL xs L v k := by
  subst hv
  refine ⟨vp_in_nI (by omega) (by omega), ?_⟩
  rw [nI_clamp (by omega)]
  exact kk
